/-! ===== call by call: acts, and taking them back ===== -/
section X6
variable {S S' : Nat → Int32} {n w h nl np nw nr : Nat} {L : Nat → Nat} {pu su : Nat → Int32} {pA sA : Nat → Nat → Int32}
theorem GS.ext (H : GS S n) (h1 : ∀ j, 183 ≤ j → j < 207 → S' j = S j) : GS S' n := by
  have hn := H.n12
  have ho : ∀ a b, a < n → (ovr (tT S') n a b ↔ ovr (tT S) n a b) := fun a b ha => ovr_ext (fun k hk j hj => by show bt (S' (195 + k)) j = bt (S (195 + k)) j; rw [h1 _ (by omega) (by omega)]) ha
  refine ⟨hn, fun k hk i a b => by rw [h1 _ (by omega) (by omega)]; exact H.tb k hk i a b, fun k hk z => H.ac k hk ((ho k k hk).mp z), fun k hk => by rw [h1 _ (by omega) (by omega)]; exact H.hv k hk, fun i j hi hj e1 e2 z => ?_⟩
  rw [h1 _ (by omega) (by omega)] at e1 e2
  exact H.co i j hi hj e1 e2 ((ho i j hi).mp z)
theorem CPg.ext (H : CPg S n w h L pu pA) (h1 : ∀ j, j < 207 → S' j = S j) : CPg S' n w h L pu pA := by
  have hn := H.n12
  have t55 : eq55 S S' := fun x hx => h1 x (by omega)
  refine ⟨⟨H.u0, (h1 0 (by omega)).trans H.1.2.1, H.1.2.2⟩, ⟨H.u1, (h1 1 (by omega)).trans H.2.1.2.1, H.2.1.2.2⟩, ⟨H.u2, (h1 2 (by omega)).trans H.s2⟩, H.g.ext (fun j _ h => h1 j h), ?_, fun i hi => ⟨?_, ?_⟩, t55.sk hn H.sk, ?_, ?_, ?_, H.hi, ?_, t55.ce hn H.ce⟩
  · rw [H.u3]; exact sumI_ext (fun k hk => by rw [h1 _ (by omega)])
  · rw [(H.hm i hi).1]; exact and_congr_right (fun hin => by rw [h1 _ (by omega)])
  · rw [(H.hm i hi).2]; exact and_congr_right (fun hin => by rw [h1 _ (by omega)])
  · intro k hk; rw [h1 _ (by omega), h1 _ (by omega), h1 _ (by omega), h1 _ (by omega)]; exact H.st k hk
  · intro k hk; rw [t55.cr hn hk]; exact H.cr k hk
  · intro k hk; rw [h1 _ (by omega)]; exact H.td k hk
  · intro k hk j hj
    have ho : ∀ a b, a < n → (ovr (tT S') n a b ↔ ovr (tT S) n a b) := fun a b ha => ovr_ext (fun k hk j hj => by show bt (S' (195 + k)) j = bt (S (195 + k)) j; rw [h1 _ (by omega)]) ha
    rw [(H.clo k hk j hj).1, (H.clo k hk j hj).2]
    exact ⟨and_congr_right (fun _ => (ho k j hk).symm), and_congr_right (fun hjn => (ho j k hjn).symm)⟩
/-- weights changed -/
theorem CSc.wgh (C : CSc S nl np nw nr w h su sA) {i y : Nat} {v : Int32} (hi : i < nl) (y1 : 1 ≤ y) (y2 : y ≤ 99) (ev : v = nI y) : CSc (upd S (207 + i) v) nl np nw nr w h su (va_up sA 6 (upd (sA 6) i v)) := by
  have hr := C.ws.2.2.2.1.2
  have hl := C.ws.1.2
  have hp := C.ws.2.1.2
  have hw := C.ws.2.2.1.2
  have hj := C.dj
  have hW := C.ws
  have h1 : ∀ j, j < 183 → upd S (207 + i) v j = S j := fun j hj => pk_un (by omega)
  obtain ⟨-, -, c3, c4, c5, c6, c7, c8⟩ := C
  refine ⟨?_, DJ.ext hr hj h1, c3, fun k hk => ?_, fun q hq => ?_, fun x hx => ?_, fun r hr' => ?_, fun k hk => ?_⟩
  · obtain ⟨⟨a1, a2⟩, ⟨b1, b2⟩, ⟨c1, c2⟩, ⟨d1, d2⟩, e, f, g⟩ := hW
    refine ⟨⟨(h1 3 (by omega)).trans a1, a2⟩, ⟨(h1 4 (by omega)).trans b1, b2⟩, ⟨(h1 5 (by omega)).trans c1, c2⟩, ⟨(h1 6 (by omega)).trans d1, d2⟩, fun r hr => ?_, fun x hx => ?_, fun k hk => ?_⟩
    · rw [h1 _ (by omega), h1 _ (by omega)]; exact e r hr
    · obtain ⟨l, l1, l6, el, hl⟩ := f x hx
      exact ⟨l, l1, l6, (h1 _ (by omega)).trans el, fun i hi => by rw [h1 _ (by omega)]; exact hl i hi⟩
    · by_cases e : k = i
      · subst e; rw [pk_us]; exact ⟨y, y1, y2, ev⟩
      · rw [pk_un (by omega)]; exact g k hk
  · obtain ⟨a, b, e⟩ := c4 k hk
    refine ⟨a.trans (by show S (55 + 2 * k) + 96 = upd S (207 + i) v (55 + 2 * k) + 96; rw [h1 _ (by omega)]), b.trans (by show S (55 + 2 * k + 1) = upd S (207 + i) v (55 + 2 * k + 1); rw [h1 _ (by omega)]), ?_⟩
    show upd (sA 6) i v k = upd S (207 + i) v (207 + k)
    by_cases ek : k = i
    · subst ek; rw [pk_us, pk_us]
    · rw [pk_un ek, pk_un (by omega)]; exact e
  · rw [h1 _ (by omega), h1 _ (by omega), runM_ext h1 hr]; exact c5 q hq
  · obtain ⟨a, b⟩ := c6 x hx
    refine ⟨a.trans (h1 _ (by omega)).symm, fun l el l6 i hi => ?_⟩
    rw [h1 _ (by omega)] at el
    show sA 11 (6 * x + i) = _
    rw [b l el l6 i hi, sV11 (by omega), sV11 (by omega), h1 _ (by omega)]
  · rw [h1 _ (by omega), h1 _ (by omega)]; exact c7 r hr'
  · rw [h1 _ (by omega)]; exact c8 k hk
theorem siR_w {K : Nat → Nat → Int32} {x : Nat → Int32} (H : siR pu pA sA n nl np nw nr K) : siR pu pA (va_up sA 6 x) n nl np nw nr K :=
  ⟨H.1, H.2.1, fun q hq => ⟨(H.2.2 q hq).1, fun r f l a b c d e1 e2 e3 e4 => ((H.2.2 q hq).2 r f l a b c d e1 e2 e3 e4).trans (lowv_ext (A := sA) (A' := va_up sA 6 x) (F := K 2) (F' := K 2) (fun _ _ => rfl) rfl (fun _ _ _ _ _ => rfl) (fun _ _ => rfl) e1 e2 nw (Nat.le_refl _))⟩⟩
end X6
section S6
variable {X : HM} {EV : Nat → Value} {d : Nat} {B t m : Nat} {hm hm1 hm2 : HM} {hs : Nat} {V V' : Nat → Nat → Int32} {AA AA' : Nat → Nat → Nat → Int32} {R R' : Nat → Int64} {u u' : Nat → Int32} {A A' : Nat → Nat → Int32} {RM RM' : Nat → Int64} {n w h nl np nw nr : Nat} {L : Nat → Nat} {pa pb qa qb : Nat}
/-- what an act leaves in the model -/
def KU (u u' : Nat → Int32) (A A' : Nat → Nat → Int32) : Prop := (u' 6 = u 6 ∧ u' 9 = u 9 ∧ u' 10 = u 10 ∧ u' 18 = u 18) ∧ A' 5 = A 5 ∧ A' 16 = A 16 ∧ A' 24 = A 24 ∧ A' 25 = A 25 ∧ A' 26 = A 26
theorem CPL.act (c : CPL V AA R u A n w h L nl np nw nr) (e : ∀ k, k = 4 ∨ k = 5 ∨ 9 ≤ k → V' k = V k ∧ AA' k = AA k) (k : KU u u' A A') (hp : CPg (A' 0) n w h L (V' 0) (AA' 0)) (hsc : CSc (A' 0) nl np nw nr w h (V' 2) (AA' 2)) (ha : IAC V' AA' u' A' n nl) (hc : ICA V' AA' R n nl np nw nr) : CPL V' AA' R u' A' n w h L nl np nw nr := by
  obtain ⟨⟨k6, k9, k10, k18⟩, a5, a16, a24, a25, a26⟩ := k
  have e1 := fun j hj => (e j hj).1
  have f1 := fun j hj => (e j hj).2
  obtain ⟨-, -, ⟨z, z1, z2, z3, z4⟩, ⟨c4, c5⟩, ⟨y, y1, y2, y3, y4⟩, -, c8, -⟩ := c
  refine ⟨hp, hsc, ⟨z, z1, by rw [e1 4 (by omega)]; exact z2, k6.trans z3, fun i hi => by rw [f1 4 (by omega), a5]; exact z4 i hi⟩, ⟨by rw [e1 13 (by omega)]; exact c4.trans k9.symm, by rw [e1 13 (by omega)]; exact c5.trans k10.symm⟩, ⟨y, y1, by rw [e1 5 (by omega)]; exact y2, k18.trans y3, fun i hi => by rw [f1 5 (by omega), a16]; exact y4 i hi⟩, ha, fun i hi => ?_, hc⟩
  have := c8 i hi
  rw [e1 (9 + i) (by omega), f1 (9 + i) (by omega), a24, a25, a26]; exact this
theorem snp_self {a : Nat} : snp A a a = A 0 := by
  funext j
  unfold snp
  rw [if_neg (fun z => absurd z.1 (by omega))]
theorem snp_push {a x : Nat} (a12 : a ≤ 12) (e2 : A' 2 = remF A a) (e0 : ∀ j, j < 183 ∨ 217 ≤ j → A' 0 j = A 0 j) (hx : x < min a 11 + 1) : snp A' (min a 11 + 1) x = snp A a (x + (a - min a 11)) := by
  funext j
  unfold snp
  rw [e2]
  unfold remF remA shfA
  by_cases hr : 183 ≤ j ∧ j < 217
  · rw [if_pos ⟨hx, hr⟩]
    by_cases hl : x = min a 11
    · subst hl
      rw [if_pos (by omega), if_neg (fun z => absurd z.1 (by omega))]
      congr 1; omega
    · rw [if_neg (show ¬ (34 * min a 11 ≤ 34 * x + (j - 183) ∧ 34 * x + (j - 183) < 34 * min a 11 + 34) by omega), if_pos (show x + (a - min a 11) < a ∧ 183 ≤ j ∧ j < 217 from ⟨by omega, hr⟩)]
      by_cases ha : a = 12
      · rw [if_pos ha]
        show (if 34 * x + (j - 183) < 374 then A 2 (34 * x + (j - 183) + 34) else A 2 (34 * x + (j - 183))) = _
        rw [if_pos (by omega), show 34 * x + (j - 183) + 34 = 34 * (x + (a - min a 11)) + (j - 183) by omega]
      · rw [if_neg ha, show x + (a - min a 11) = x by omega]
  · rw [if_neg (fun z => hr z.2), if_neg (fun z => hr z.2), e0 j (by omega)]
theorem iac_push {a z : Nat} {k f s : Int32} (a12 : a ≤ 12) (z12 : z < 12) (hg : ∀ x, x < a → GS (snp A a x) n ∧ WT (sV (snp A a x) 6) nl) (hu : ∀ x, x < a → Udo n nl (AA 6 2 ((z + 12 - a + x) % 12)) (AA 6 3 ((z + 12 - a + x) % 12)) (AA 6 4 ((z + 12 - a + x) % 12)) (snp A a x) (snp A a (x + 1)))
    (eV : V' 6 = acU (V 6) z a) (eA : AA' 6 = acA (AA 6) z k f s) (eu : u' 3 = nI (min a 11 + 1)) (e2 : A' 2 = remF A a) (e0 : ∀ j, j < 183 ∨ 217 ≤ j → A' 0 j = A 0 j) (hG : GS (A 0) n) (hT : WT (sV (A 0) 6) nl) (hud : Udo n nl k f s (A 0) (A' 0)) : IAC V' AA' u' A' n nl := by
  refine ⟨min a 11 + 1, (z + 1) % 12, by omega, by omega, ?_, by rw [eV]; rfl, eu, fun x hx => ?_, fun x hx => ?_⟩
  · rw [eV]; show nI (min (a + 1) 12) = _; rw [show min (a + 1) 12 = min a 11 + 1 by omega]
  · rw [snp_push a12 e2 e0 hx]
    by_cases hh : x + (a - min a 11) < a
    · exact hg _ hh
    · rw [show x + (a - min a 11) = a by omega, snp_self]; exact ⟨hG, hT⟩
  · rw [snp_push a12 e2 e0 hx]
    have g2 : ∀ p, AA' 6 2 p = upd (AA 6 2) z k p := fun p => by rw [eA]; rfl
    have g3 : ∀ p, AA' 6 3 p = upd (AA 6 3) z f p := fun p => by rw [eA]; rfl
    have g4 : ∀ p, AA' 6 4 p = upd (AA 6 4) z s p := fun p => by rw [eA]; rfl
    rw [g2, g3, g4]
    by_cases hh : x + (a - min a 11) < a
    · have hp : ((z + 1) % 12 + 12 - (min a 11 + 1) + x) % 12 = (z + 12 - a + (x + (a - min a 11))) % 12 := by omega
      have hz : (z + 12 - a + (x + (a - min a 11))) % 12 ≠ z := by omega
      rw [hp, pk_un hz, pk_un hz, pk_un hz, snp_push a12 e2 e0 (by omega)]
      have := hu _ hh
      rw [show x + 1 + (a - min a 11) = x + (a - min a 11) + 1 by omega]
      exact this
    · have hp : ((z + 1) % 12 + 12 - (min a 11 + 1) + x) % 12 = z := by omega
      rw [hp, pk_us, pk_us, pk_us, show x + (a - min a 11) = a by omega, snp_self, show x + 1 = min a 11 + 1 by omega, snp_self]
      exact hud
theorem iac_pop {a z : Nat} (a12 : a ≤ 12) (a0 : a ≠ 0) (z12 : z < 12) (hg : ∀ x, x < a → GS (snp A a x) n ∧ WT (sV (snp A a x) 6) nl) (hu : ∀ x, x < a → Udo n nl (AA 6 2 ((z + 12 - a + x) % 12)) (AA 6 3 ((z + 12 - a + x) % 12)) (AA 6 4 ((z + 12 - a + x) % 12)) (snp A a x) (snp A a (x + 1)))
    (eV : V' 6 = upd (upd (V 6) 1 (nI ((z + 11) % 12))) 0 (nI (a - 1))) (eA : AA' 6 = AA 6) (eu : u' 3 = nI (a - 1)) (e2 : A' 2 = A 2) (e0 : A' 0 = snp A a (a - 1)) : IAC V' AA' u' A' n nl := by
  have sn : ∀ x, x ≤ a - 1 → snp A' (a - 1) x = snp A a x := fun x hx => by
    by_cases ex : x = a - 1
    · rw [ex, snp_self, e0]
    · funext j
      unfold snp
      rw [e2, e0]
      unfold snp
      by_cases hr : 183 ≤ j ∧ j < 217
      · rw [if_pos ⟨by omega, hr⟩, if_pos ⟨by omega, hr⟩]
      · rw [if_neg (fun z => hr z.2), if_neg (fun z => hr z.2), if_neg (fun z => hr z.2)]
  refine ⟨a - 1, (z + 11) % 12, by omega, by omega, by rw [eV]; rfl, by rw [eV]; rfl, eu, fun x hx => ?_, fun x hx => ?_⟩
  · rw [sn x (by omega)]; exact hg x (by omega)
  · rw [sn x (by omega), sn (x + 1) (by omega), eA, show ((z + 11) % 12 + 12 - (a - 1) + x) % 12 = (z + 12 - a + x) % 12 by omega]
    exact hu x (by omega)
theorem tld_tak {S : Nat → Int32} {i j : Nat} (hj : j < 32) (hb : bt (S (195 + i)) j = false) : bt (tldM S i j (195 + i)) j = true ∧ S = takM (tldM S i j) i j := by
  unfold takM tldM
  rw [pk_us]
  refine ⟨by rw [b_or, b_sb hj hj, decide_eq_true rfl, Bool.or_true], ?_⟩
  funext x
  by_cases e : x = 195 + i
  · subst e
    rw [pk_us]
    apply b_ext
    intro y hy
    rw [b_and, b_or, b_xor, b_m1 y hy]
    by_cases e : y = j
    · subst e; rw [hb, b_sb hj hj, decide_eq_true rfl]; rfl
    · rw [b_sb hj hy, decide_eq_false e]; simp
  · rw [pk_un e, pk_un e]
theorem tak_tld {S : Nat → Int32} {i j : Nat} (hj : j < 32) (hb : bt (S (195 + i)) j = true) : bt (takM S i j (195 + i)) j = false ∧ S = tldM (takM S i j) i j := by
  unfold takM tldM
  rw [pk_us]
  refine ⟨by rw [b_and, b_xor, b_m1 j hj, b_sb hj hj, decide_eq_true rfl]; simp, ?_⟩
  funext x
  by_cases e : x = 195 + i
  · subst e
    rw [pk_us]
    apply b_ext
    intro y hy
    rw [b_or, b_and, b_xor, b_m1 y hy]
    by_cases e : y = j
    · subst e; rw [hb, b_sb hj hj, decide_eq_true rfl]; rfl
    · rw [b_sb hj hy, decide_eq_false e]; simp
  · rw [pk_un e, pk_un e]
theorem upd_back {S : Nat → Int32} {i : Nat} {v s : Int32} (h : S i = s) : S = upd (upd S i v) i s := by
  funext x
  by_cases e : x = i
  · subst e; rw [pk_us]; exact h
  · rw [pk_un e, pk_un e]
theorem CPL.wt (c : CPL V AA R u A n w h L nl np nw nr) : WT (sV (A 0) 6) nl := c.sc.ws.wt
theorem st_takes {a b : Int32} (hI : INV B t m hm hs) : PR X EV (d + 19) 105 198 [.ref t, .int a, .int b] [.ref m, .int a, .int b] hm hs (KI32 B t m) := by
  obtain ⟨g, pa, pb, qa, qb, V, AA, R, u, A, RM, n, w, h, L, nl, np, nw, nr, hW, hM, c⟩ := hI
  have hn := c.pg.n12
  obtain ⟨ac, z, a12, z12, e60, e61, eu3, hg, hu⟩ : IAC V AA u A n nl := c.2.2.2.2.2.1
  have two : ∀ {i i' : Nat} {r : Int32}, i < n → i' < n → r = nI i → r = nI i' → i' = i := fun hi hi' e e' => by rw [e] at e'; exact ((nI_eq (by omega) (by omega)).mp e').symm
  unfold PR
  refine c_takes hW c.pg.u2 hn e61 z12 e60 a12 (fun h0 => ⟨_, rfl, ?_⟩) (fun i j hi hj ea eb hb => ⟨_, rfl, ?_⟩) (fun i j hi hj ea eb hb hm1 V1 AA1 hW1 v0 w0 v6 w6 v7 w7 v8 w8 rest s1 => ⟨_, rfl, ?_⟩)
  · exact m_takes hM c.pg.s2 hn eu3 a12 (fun _ hm2 hM2 s2 => ⟨rfl, ⟨_, rfl⟩, f0 g hW c hM2 kiU4 s2⟩) (fun i j hi hj ea eb => absurd ⟨nix (by omega) hi ea, nix (by omega) hj eb⟩ h0) (fun i j hi hj ea eb => absurd ⟨nix (by omega) hi ea, nix (by omega) hj eb⟩ h0)
  · rw [c.pg.td i hi] at hb
    refine m_takes hM c.pg.s2 hn eu3 a12 (fun h0 => absurd ⟨nix (by omega) hi ea, nix (by omega) hj eb⟩ h0) (fun i' j' _ _ _ _ _ hm2 hM2 s2 => ⟨rfl, ⟨_, rfl⟩, f0 g hW c hM2 kiU4 s2⟩) (fun i' j' hi' hj' ea' eb' hb' => ?_)
    rw [two hi hi' ea ea', two hj hj' eb eb'] at hb'
    exact absurd hb' hb
  · rw [c.pg.td i hi] at hb
    refine m_takes (g.mo hM s1) c.pg.s2 hn eu3 a12 (fun h0 => absurd ⟨nix (by omega) hi ea, nix (by omega) hj eb⟩ h0) (fun i' j' hi' hj' ea' eb' hb' => ?_) (fun i' j' hi' hj' ea' eb' hb' S' eS hm2 hM2 s2 => ?_)
    · rw [two hi hi' ea ea', two hj hj' eb eb'] at hb'
      exact absurd hb hb'
    · have e1 := two hi hi' ea ea'
      have e2 := two hj hj' eb eb'
      subst e1; subst e2
      have H' := c.pg.tak hi hj hb
      have eS' : S' = takM (A 0) i' j' := eS
      rw [← eS'] at H'
      obtain ⟨t1, t2⟩ := tak_tld (S := A 0) (i := i') (show j' < 32 by omega) hb
      refine ⟨?_, ⟨_, rfl⟩, (g.s1 s1).s2 s2, pa, pb, qa, qb, V1, AA1, R, _, _, RM, n, w, h, L, nl, np, nw, nr, (g.s1 s1).tw hW1 s2, hM2, ?_⟩
      · have := H'.u3
        rw [pk_us] at this; rw [this]
      · refine c.act (fun k hk => rest k (by omega) (by omega) (by omega) (by omega)) ⟨⟨rfl, rfl, rfl, rfl⟩, rfl, rfl, rfl, rfl, rfl⟩ (by rw [v0, w0]; exact H') (by rw [(rest 2 (by decide) (by decide) (by decide) (by decide)).1, (rest 2 (by decide) (by decide) (by decide) (by decide)).2]; exact c.sc.ext (fun j hj => by show S' j = _; rw [eS, pk_un (by omega)]) (fun k hk => by show S' _ = _; rw [eS, pk_un (by omega)])) (iac_push a12 z12 hg hu v6 w6 rfl rfl (fun j hj => by show S' j = _; rw [eS, pk_un (by omega)]) c.pg.g c.wt (.inr (.inl ⟨rfl, i', j', hi, hj, ea, eb, ?_, ?_⟩))) ⟨fun q => ?_, fun q => ?_, fun q => ?_⟩
        · show bt (S' _) _ = _; rw [eS']; exact t1
        · show _ = tldM S' _ _; rw [eS']; exact t2
        · rw [v8] at q; exact absurd q (show ¬ (1 : Int32) = 0 by decide)
        · rw [v7] at q; exact absurd q (show ¬ (1 : Int32) = 0 by decide)
        · rw [v7] at q; exact absurd q (show ¬ (1 : Int32) = 0 by decide)
theorem st_weigh {k v : Int32} (hI : INV B t m hm hs) : PR X EV (d + 19) 107 200 [.ref t, .int k, .int v] [.ref m, .int k, .int v] hm hs (KI32 B t m) := by
  obtain ⟨g, pa, pb, qa, qb, V, AA, R, u, A, RM, n, w, h, L, nl, np, nw, nr, hW, hM, c⟩ := hI
  have hl := c.sc.ws.1.2
  have hl3 := c.sc.ws.1.1
  obtain ⟨ac, z, a12, z12, e60, e61, eu3, hg, hu⟩ : IAC V AA u A n nl := c.2.2.2.2.2.1
  unfold PR
  refine c_weigh hW c.sc.2.2.1.1 hl e61 z12 e60 a12 (fun h0 => ⟨_, rfl, ?_⟩) (fun h0 h1 => ⟨_, rfl, ?_⟩) (fun i hi e hv hm1 V1 AA1 hW1 v2 w2 v6 w6 rest s1 => ⟨_, rfl, ?_⟩)
  · exact m_weigh hM hl3 hl eu3 a12 (fun _ hm2 hM2 s2 => ⟨rfl, ⟨_, rfl⟩, f0 g hW c hM2 kiU4 s2⟩) (fun h => absurd h h0) (fun i hi e => absurd (nix (by omega) hi e) h0)
  · exact m_weigh hM hl3 hl eu3 a12 (fun h => absurd h0 h) (fun _ _ hm2 hM2 s2 => ⟨rfl, ⟨_, rfl⟩, f0 g hW c hM2 kiU4 s2⟩) (fun i hi e hv => absurd hv h1)
  · refine m_weigh (g.mo hM s1) hl3 hl eu3 a12 (fun h0 => absurd (nix (by omega) hi e) h0) (fun _ h => absurd hv h) (fun i' hi' e' _ hm2 hM2 s2 => ?_)
    have e1 : i' = i := by rw [e] at e'; exact ((nI_eq (by omega) (by omega)).mp e').symm
    subst e1
    obtain ⟨y, y99, ey⟩ := ixle (k := v) (n := 99) (by omega) (by have := hv.1; grind) hv.2
    have y1 : 1 ≤ y := by
      have := hv.1
      rw [ey, show (1 : Int32) = nI 1 from rfl, nI_leI (by omega) (by omega)] at this
      exact this
    have ew : AA 2 6 i' = A 0 (207 + i') := (c.sc.2.2.2.1 i' hi).2.2
    have C' := c.sc.wgh hi y1 y99 ey
    have h1 : ∀ j, j < 207 → upd (A 0) (207 + i') v j = A 0 j := fun j hj => pk_un (by omega)
    refine ⟨by rw [ew], ⟨_, rfl⟩, (g.s1 s1).s2 s2, pa, pb, qa, qb, V1, AA1, R, _, _, RM, n, w, h, L, nl, np, nw, nr, (g.s1 s1).tw hW1 s2, hM2, ?_⟩
    have r0 := rest 0 (by decide) (by decide)
    have r7 := rest 7 (by decide) (by decide)
    have r8 := rest 8 (by decide) (by decide)
    refine c.act (fun k hk => rest k (by omega) (by omega)) ⟨⟨rfl, rfl, rfl, rfl⟩, rfl, rfl, rfl, rfl, rfl⟩ (by rw [r0.1, r0.2]; exact c.pg.ext h1) (by rw [v2, w2]; exact C') (iac_push a12 z12 hg hu v6 w6 rfl rfl (fun j hj => by show upd (A 0) (207 + i') v j = _; rw [pk_un (by have := hj; omega)]) c.pg.g c.wt (.inr (.inr (.inr ⟨rfl, i', hi, e, ?_⟩)))) ⟨fun q => ?_, fun q => ?_, fun q => ?_⟩
    · exact upd_back ew.symm
    · rw [r0.1, r0.2, w2, r8.2]; rw [r8.1] at q; exact siR_w (c.c8 q)
    · rw [r0.2, r7.1, r7.2]; rw [r7.1] at q; exact c.t1 q
    · rw [r0.2, r7.2]; rw [r7.1] at q; exact c.t2 q
end S6
