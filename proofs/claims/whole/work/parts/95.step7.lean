/-! ===== call by call: hands, over, taking back ===== -/
section S7
variable {X : HM} {EV : Nat → Value} {d : Nat} {B t m : Nat} {hm hm1 hm2 : HM} {hs : Nat} {V V' : Nat → Nat → Int32} {AA AA' : Nat → Nat → Nat → Int32} {R R' : Nat → Int64} {u u' : Nat → Int32} {A A' : Nat → Nat → Int32} {RM RM' : Nat → Int64} {n w h nl np nw nr : Nat} {L : Nat → Nat} {pa pb qa qb : Nat}
theorem CPg.was {S : Nat → Int32} {pu : Nat → Int32} {pA : Nat → Nat → Int32} (H : CPg S n w h L pu pA) {i : Nat} (hi : i < n) : (if bt (pu 4) i = true then (0 : Int32) else if bt (pu 5) i = true then 1 else -1) + 1 = S (183 + i) ∧ ((if bt (pu 4) i = true then (0 : Int32) else if bt (pu 5) i = true then 1 else -1) = -1 ∨ (if bt (pu 4) i = true then (0 : Int32) else if bt (pu 5) i = true then 1 else -1) = 0 ∨ (if bt (pu 4) i = true then (0 : Int32) else if bt (pu 5) i = true then 1 else -1) = 1) := by
  have hn := H.n12
  have hmk := H.hm i (by omega)
  rcases H.g.hv i hi with q | q | q
  · rw [if_neg (fun z => by rw [(hmk.1.mp z).2] at q; exact absurd q (by decide)), if_neg (fun z => by rw [(hmk.2.mp z).2] at q; exact absurd q (by decide)), q]; exact ⟨rfl, .inl rfl⟩
  · rw [if_pos (hmk.1.mpr ⟨hi, q⟩), q]; exact ⟨rfl, .inr (.inl rfl)⟩
  · rw [if_neg (fun z => by rw [(hmk.1.mp z).2] at q; exact absurd q (by decide)), if_pos (hmk.2.mpr ⟨hi, q⟩), q]; exact ⟨rfl, .inr (.inr rfl)⟩
theorem gs_hand {S : Nat → Int32} {i : Nat} {v : Int32} (H : GS S n) (hi : i < n) (hv : v = -1 ∨ v = 0 ∨ v = 1) (hw : ¬ wyM (upd S (183 + i) (v + 1)) n = 0) : GS (upd S (183 + i) (v + 1)) n := by
  have hn := H.n12
  have hT' : TBn (upd S (183 + i) (v + 1)) n := fun k hk x h1 h2 => by rw [pk_un (by omega)]; exact H.tb k hk x h1 h2
  refine ⟨hn, hT', fun k hk q => H.ac k hk ((ovr_ext (fun k hk j hj => by show bt (upd S (183 + i) (v + 1) (195 + k)) j = _; rw [pk_un (by omega)]) hk).mp q), fun k hk => ?_, (wy_pos hn hT').mp hw⟩
  by_cases e : k = i
  · subst e; rw [pk_us]; rcases hv with e | e | e <;> (rw [e]; decide)
  · rw [pk_un (by omega)]; exact H.hv k hk
theorem m1_1 {v : Int32} (h : -1 ≤ v ∧ v ≤ 1) : v = -1 ∨ v = 0 ∨ v = 1 := by
  by_cases h0 : 0 ≤ v
  · obtain ⟨x, hx, rfl⟩ := ixle (n := 1) (by omega) h0 h.2
    rcases (show x = 0 ∨ x = 1 by omega) with e | e <;> subst e
    · exact .inr (.inl rfl)
    · exact .inr (.inr rfl)
  · exact .inl (by grind)
theorem st_hand {k v : Int32} (hI : INV B t m hm hs) : PR X EV (d + 19) 106 199 [.ref t, .int k, .int v] [.ref m, .int k, .int v] hm hs (KI32 B t m) := by
  obtain ⟨g, pa, pb, qa, qb, V, AA, R, u, A, RM, n, w, h, L, nl, np, nw, nr, hW, hM, c⟩ := hI
  have hn := c.pg.n12
  obtain ⟨ac, z, a12, z12, e60, e61, eu3, hg, hu⟩ : IAC V AA u A n nl := c.2.2.2.2.2.1
  have wle : ∀ S o, nI (wyN S o n) = 0 ↔ wyN S o n = 0 := fun S o => by
    have : wyN S o n ≤ 2 ^ n := wcn_le _ _
    have h2 : 2 ^ n ≤ 2 ^ 12 := Nat.pow_le_pow_right (by omega) hn
    rw [show (0 : Int32) = nI 0 from rfl, nI_eq (by omega) (by omega)]
  unfold PR
  refine c_hand hW c.pg.u2 hn e61 z12 e60 a12 (fun h0 => ⟨_, rfl, ?_⟩) (fun h0 h1 => ⟨_, rfl, ?_⟩) (fun i hi e hv hno => ⟨_, rfl, ?_⟩) (fun i hi e hv hok was ew hm1 V1 AA1 hW1 v4 v5 v0 w0 v6 w6 v8 w8 rest s1 => ⟨_, rfl, ?_⟩)
  · exact m_hand hM c.pg.s2 hn eu3 a12 (fun _ hm2 hM2 s2 => ⟨rfl, ⟨_, rfl⟩, f0 g hW c hM2 kiU4 s2⟩) (fun h => absurd h h0) (fun i hi e => absurd (nix (by omega) hi e) h0)
  · exact m_hand hM c.pg.s2 hn eu3 a12 (fun h => absurd h0 h) (fun _ _ hm2 hM2 s2 => ⟨rfl, ⟨_, rfl⟩, f0 g hW c hM2 kiU4 s2⟩) (fun i hi e hv => absurd hv h1)
  · have way := hand_way c.pg.g hi c.pg.hm c.pg.clo (m1_1 hv)
    refine m_hand hM c.pg.s2 hn eu3 a12 (fun h => absurd (nix (by omega) hi e) h) (fun _ h => absurd hv h) (fun i' hi' e' _ S' o eS eo hm2 f s2 => ?_)
    have e1 : i' = i := by rw [e] at e'; exact ((nI_eq (by omega) (by omega)).mp e').symm
    subst e1
    refine ⟨fun _ hM2 => ⟨rfl, ⟨_, rfl⟩, f0 g hW c hM2 ⟨⟨rfl, rfl, rfl, rfl, rfl⟩, rfl, rfl, rfl, fun _ _ => rfl, rfl, rfl, rfl⟩ s2⟩, fun hh => absurd ((wle S' o).mpr ?_) hh⟩
    rw [eo, wyN_cl, eS]; exact way.mp hno
  · have hv3 := m1_1 hv
    have way := hand_way c.pg.g hi c.pg.hm c.pg.clo hv3
    refine m_hand (g.mo hM s1) c.pg.s2 hn eu3 a12 (fun h => absurd (nix (by omega) hi e) h) (fun _ h => absurd hv h) (fun i' hi' e' _ S' o eS eo hm2 f s2 => ?_)
    have e1 : i' = i := by rw [e] at e'; exact ((nI_eq (by omega) (by omega)).mp e').symm
    subst e1
    have hw : ¬ wyM (upd (A 0) (183 + i') (v + 1)) n = 0 := fun q => hok (way.mpr q)
    refine ⟨fun hh => absurd ((wle S' o).mp hh) (by rw [eo, wyN_cl, eS]; exact hw), fun _ hM2 => ?_⟩
    obtain ⟨was1, was2⟩ := c.pg.was hi
    rw [← ew] at was1 was2
    have H' := c.pg.hnd hi hv3 (gs_hand c.pg.g hi hv3 hw) v4 v5 v0
    rw [← eS] at H'
    have r7 := rest 7 (by decide) (by decide) (by decide)
    refine ⟨by rw [was1], ⟨_, rfl⟩, (g.s1 s1).s2 s2, pa, pb, qa, qb, V1, AA1, R, _, _, RM, n, w, h, L, nl, np, nw, nr, (g.s1 s1).tw hW1 s2, hM2, ?_⟩
    refine c.act (fun k hk => rest k (by omega) (by omega) (by omega)) ⟨⟨rfl, rfl, rfl, rfl⟩, rfl, rfl, rfl, rfl, rfl⟩ (by rw [w0]; exact H') (by rw [(rest 2 (by decide) (by decide) (by decide)).1, (rest 2 (by decide) (by decide) (by decide)).2]; exact c.sc.ext (fun j hj => by show S' j = _; rw [eS, pk_un (by omega)]) (fun k hk => by show S' _ = _; rw [eS, pk_un (by omega)])) (iac_push a12 z12 hg hu v6 w6 rfl rfl (fun j hj => by show S' j = _; rw [eS, pk_un (by omega)]) c.pg.g c.wt (.inr (.inr (.inl ⟨rfl, i', hi, e, was2, ?_⟩)))) ⟨fun q => ?_, fun q => ?_, fun q => ?_⟩
    · show _ = upd S' _ _; rw [eS]; exact upd_back was1.symm
    · rw [v8] at q; exact absurd q (show ¬ (1 : Int32) = 0 by decide)
    · rw [w0, r7.1, r7.2]; rw [r7.1] at q; exact c.t1 q
    · rw [w0, r7.2]; rw [r7.1] at q; exact c.t2 q
/-- another ring is shown -/
theorem CPL.rg (c : CPL V AA R u A n w h L nl np nw nr) (e : ∀ j, j ≠ 5 → V' j = V j ∧ AA' j = AA j) (k : KR u u' A A') (hr : IRG V' AA' u' A') : CPL V' AA' R u' A' n w h L nl np nw nr := by
  have e1 := fun j hj => (e j hj).1
  have f1 := fun j hj => (e j hj).2
  have a := k.2
  have b := k.1
  have a0 : A' 0 = A 0 := a 0 (by decide) (by decide) (by decide) (by decide) (by decide)
  have a2 : A' 2 = A 2 := a 2 (by decide) (by decide) (by decide) (by decide) (by decide)
  have a5 : A' 5 = A 5 := a 5 (by decide) (by decide) (by decide) (by decide) (by decide)
  have a24 : A' 24 = A 24 := a 24 (by decide) (by decide) (by decide) (by decide) (by decide)
  have a25 : A' 25 = A 25 := a 25 (by decide) (by decide) (by decide) (by decide) (by decide)
  have a26 : A' 26 = A 26 := a 26 (by decide) (by decide) (by decide) (by decide) (by decide)
  have b3 := b 3 (by decide) (by decide) (by decide) (by decide) (by decide) (by decide)
  have b6 := b 6 (by decide) (by decide) (by decide) (by decide) (by decide) (by decide)
  have b9 := b 9 (by decide) (by decide) (by decide) (by decide) (by decide) (by decide)
  have b10 := b 10 (by decide) (by decide) (by decide) (by decide) (by decide) (by decide)
  obtain ⟨c1, c2, ⟨z, z1, z2, z3, z4⟩, ⟨c4, c5⟩, -, ⟨q, x, x1, x2, x3, x4, x5, x6, x7⟩, c8, c9⟩ := c
  refine ⟨by rw [a0, e1 0 (by decide), f1 0 (by decide)]; exact c1, by rw [a0, e1 2 (by decide), f1 2 (by decide)]; exact c2, ⟨z, z1, by rw [e1 4 (by decide)]; exact z2, b6.trans z3, fun i hi => by rw [f1 4 (by decide), a5]; exact z4 i hi⟩, ⟨by rw [e1 13 (by decide)]; exact c4.trans b9.symm, by rw [e1 13 (by decide)]; exact c5.trans b10.symm⟩, hr, ⟨q, x, x1, x2, by rw [e1 6 (by decide)]; exact x3, by rw [e1 6 (by decide)]; exact x4, b3.trans x5, fun i hi => ?_, fun i hi => ?_⟩, fun i hi => ?_, ?_⟩
  · rw [snp_ext a0 a2]; exact x6 i hi
  · rw [snp_ext a0 a2, snp_ext a0 a2, f1 6 (by decide)]; exact x7 i hi
  · rw [e1 (9 + i) (by omega), f1 (9 + i) (by omega), a24, a25, a26]; exact c8 i hi
  · unfold ICA
    rw [e1 0 (by decide), e1 7 (by decide), e1 8 (by decide), f1 0 (by decide), f1 2 (by decide), f1 7 (by decide), f1 8 (by decide)]; exact c9
theorem st_over {a b : Int32} (hI : INV B t m hm hs) : PR X EV (d + 19) 104 197 [.ref t, .int a, .int b] [.ref m, .int a, .int b] hm hs (KI32 B t m) := by
  obtain ⟨g, pa, pb, qa, qb, V, AA, R, u, A, RM, n, w, h, L, nl, np, nw, nr, hW, hM, c⟩ := hI
  have hn := c.pg.n12
  obtain ⟨ac, z, a12, z12, e60, e61, eu3, hg, hu⟩ : IAC V AA u A n nl := c.2.2.2.2.2.1
  have two : ∀ {i i' : Nat} {r : Int32}, i < n → i' < n → r = nI i → r = nI i' → i' = i := fun hi hi' e e' => by rw [e] at e'; exact ((nI_eq (by omega) (by omega)).mp e').symm
  unfold PR
  refine c_over hW c.pg.u2 hn e61 z12 e60 a12 (fun h0 h1 => ⟨_, rfl, ?_⟩) (fun h1 i j hi hj ea eb hm1 A1 far mm cc hW1 q1 q2 q3 q4 q5 q6 q7 q8 q9 s1 => ⟨_, rfl, ?_⟩) (fun h1 i j hi hj ea eb hm1 V1 AA1 hW1 v0 w0 v6 w6 v7 w7 v8 w8 rest s1 => ⟨_, rfl, ?_⟩)
  · refine m_over hM c.pg.s2 hn c.pg.sk.ln eu3 a12 (fun hno hm2 u2 A2 hM2 k2 s2 => ⟨?_, ⟨_, rfl⟩, f0 g hW c hM2 k2.ki s2⟩) (fun i j hi hj ea eb hc hm2 u2 A2 hM2 k2 s2 => ⟨?_, ⟨_, rfl⟩, f0 g hW c hM2 k2.ki s2⟩) (fun i j hi hj ea eb hc hb => ?_) (fun i j hi hj ea eb hc hb hw hm2 u2 A2 hM2 k2 s2 => ⟨?_, ⟨_, rfl⟩, f0 g hW c hM2 k2.ki s2⟩) (fun i j hi hj ea eb hok => ?_)
    · rw [ref_no _ _ hno]
    · rw [ea, eb, ref_eq c.pg.l hi hj, if_pos hc]
    · rw [ea, eb, ref_eq c.pg.l hi hj, if_neg (fun q => q hc), if_pos hb] at h0; exact absurd rfl h0
    · rw [ea, eb, ref_eq c.pg.l hi hj, if_neg (fun q => q hc), if_neg hb, if_pos hw]
    · rw [ea, eb, ref_eq c.pg.l hi hj, if_neg (fun q => q hok.1), if_neg hok.2.1, if_neg (show ¬ wyM (tldM (A 0) i j) n = 0 from hok.2.2)] at h1; exact absurd rfl h1
  · rw [ea, eb, ref_eq c.pg.l hi hj] at h1
    refine m_over (g.mo hM s1) c.pg.s2 hn c.pg.sk.ln eu3 a12 (fun hno => absurd ⟨nix (by omega) hi ea, nix (by omega) hj eb⟩ hno) (fun i' j' hi' hj' ea' eb' hc => ?_) (fun i' j' hi' hj' ea' eb' hc hb hm2 u2 A2 D eD D1 D11 hM2 k2 e18 hR s2 => ?_) (fun i' j' hi' hj' ea' eb' hc hb hw => ?_) (fun i' j' hi' hj' ea' eb' hok => ?_)
    · rw [two hi hi' ea ea', two hj hj' eb eb'] at hc
      rw [if_pos hc] at h1; exact absurd h1 (by decide)
    · have e1 := two hi hi' ea ea'
      have e2 := two hj hj' eb eb'
      subst e1; subst e2
      obtain ⟨r1, r2⟩ := e_ring (T := AA 0 11) (r := A1 1) hn hi hj (fun z => hc.1.1 z.symm) c.pg.td c.pg.g.tb eD D1 D11 q1 q2 q3 q4 q5 q6 q7 q8 q9 hR
      refine ⟨rfl, ⟨_, rfl⟩, (g.s1 s1).s2 s2, pa, pb, qa, qb, _, _, R, _, _, RM, n, w, h, L, nl, np, nw, nr, (g.s1 s1).tw hW1 s2, hM2, ?_⟩
      refine c.rg (fun j hj => ⟨va_un hj, va_un hj⟩) k2 ⟨D + 1, by omega, ?_, e18, fun x hx => ?_⟩
      · rw [va_us]; show nI (mm + 2) = _; rw [r1]
      · rw [va_us]; exact r2 x hx
    · rw [two hi hi' ea ea', two hj hj' eb eb'] at hc hb hw
      rw [if_neg (fun q => q hc), if_neg hb, if_pos hw] at h1; exact absurd h1 (by decide)
    · rw [two hi hi' ea ea', two hj hj' eb eb'] at hok
      rw [if_neg (fun q => q hok.1), if_neg hok.2.1, if_neg (show ¬ wyM (tldM (A 0) i j) n = 0 from hok.2.2)] at h1; exact absurd h1 (by decide)
  · rw [ea, eb, ref_eq c.pg.l hi hj] at h1
    refine m_over (g.mo hM s1) c.pg.s2 hn c.pg.sk.ln eu3 a12 (fun hno => absurd ⟨nix (by omega) hi ea, nix (by omega) hj eb⟩ hno) (fun i' j' hi' hj' ea' eb' hc => ?_) (fun i' j' hi' hj' ea' eb' hc hb => ?_) (fun i' j' hi' hj' ea' eb' hc hb hw => ?_) (fun i' j' hi' hj' ea' eb' hok hm2 u2 A2 hM2 k2 e3 e0 e2' s2 => ?_)
    · rw [two hi hi' ea ea', two hj hj' eb eb'] at hc
      rw [if_pos hc] at h1; exact absurd h1 (by decide)
    · rw [two hi hi' ea ea', two hj hj' eb eb'] at hc hb
      rw [if_neg (fun q => q hc), if_pos hb] at h1; exact absurd h1 (by decide)
    · rw [two hi hi' ea ea', two hj hj' eb eb'] at hc hb hw
      rw [if_neg (fun q => q hc), if_neg hb, if_pos hw] at h1; exact absurd h1 (by decide)
    · have e1 := two hi hi' ea ea'
      have e2 := two hj hj' eb eb'
      subst e1; subst e2
      have hbf : bt (A 0 (195 + i')) j' = false := by
        have := hok.1.2
        cases hq : bt (A 0 (195 + i')) j'
        · rfl
        · exact absurd hq this
      have H' := c.pg.tld hi hj hok.1.1.1 hbf hok.2.1 hok.2.2
      obtain ⟨t1, t2⟩ := tld_tak (S := A 0) (i := i') (show j' < 32 by omega) hbf
      have out : ∀ j, j < 195 ∨ 207 ≤ j → A2 0 j = A 0 j := fun j hj => by rw [e0]; exact pk_un (by omega)
      refine ⟨?_, ⟨_, rfl⟩, (g.s1 s1).s2 s2, pa, pb, qa, qb, V1, AA1, R, _, _, RM, n, w, h, L, nl, np, nw, nr, (g.s1 s1).tw hW1 s2, hM2, ?_⟩
      · have := H'.u3
        rw [pk_us] at this; rw [this]
      · have kn := k2.1
        have kA := k2.2
        refine c.act (fun k hk => rest k (by omega) (by omega) (by omega) (by omega)) ⟨⟨kn 6 (by decide) (by decide) (by decide) (by decide) (by decide) (by decide), kn 9 (by decide) (by decide) (by decide) (by decide) (by decide) (by decide), kn 10 (by decide) (by decide) (by decide) (by decide) (by decide) (by decide), kn 18 (by decide) (by decide) (by decide) (by decide) (by decide) (by decide)⟩, kA 5 (by decide) (by decide) (by decide) (by decide) (by decide) (by decide), kA 16 (by decide) (by decide) (by decide) (by decide) (by decide) (by decide), kA 24 (by decide) (by decide) (by decide) (by decide) (by decide) (by decide), kA 25 (by decide) (by decide) (by decide) (by decide) (by decide) (by decide), kA 26 (by decide) (by decide) (by decide) (by decide) (by decide) (by decide)⟩ (by rw [v0, w0, e0]; exact H') (by rw [(rest 2 (by decide) (by decide) (by decide) (by decide)).1, (rest 2 (by decide) (by decide) (by decide) (by decide)).2]; exact c.sc.ext (fun j hj => out j (by omega)) (fun k hk => out _ (by omega))) (iac_push a12 z12 hg hu v6 w6 e3 e2' (fun j hj => out j (by omega)) c.pg.g c.wt (.inl ⟨rfl, i', j', hi, hj, ea, eb, ?_, ?_⟩)) ⟨fun q => ?_, fun q => ?_, fun q => ?_⟩
        · rw [e0]; exact t1
        · rw [e0]; exact t2
        · rw [v8] at q; exact absurd q (show ¬ (1 : Int32) = 0 by decide)
        · rw [v7] at q; exact absurd q (show ¬ (1 : Int32) = 0 by decide)
        · rw [v7] at q; exact absurd q (show ¬ (1 : Int32) = 0 by decide)
theorem st_undo (hI : INV B t m hm hs) : PR X EV (d + 19) 108 201 [.ref t] [.ref m] hm hs (KI32 B t m) := by
  obtain ⟨g, pa, pb, qa, qb, V, AA, R, u, A, RM, n, w, h, L, nl, np, nw, nr, hW, hM, c⟩ := hI
  have hn := c.pg.n12
  have hl := c.sc.ws.1.2
  obtain ⟨ac, z, a12, z12, e60, e61, eu3, hg, hu⟩ : IAC V AA u A n nl := c.2.2.2.2.2.1
  have fin : ∀ hm1 V1 AA1, ac ≠ 0 → TW hm1 t pa pb qa qb V1 AA1 R → sm t (t + 70) hm hm1 → (∀ k, k = 4 ∨ k = 5 ∨ 9 ≤ k → V1 k = V k ∧ AA1 k = AA k) → CPg (snp A ac (ac - 1)) n w h L (V1 0) (AA1 0) → CSc (snp A ac (ac - 1)) nl np nw nr w h (V1 2) (AA1 2) → V1 6 = upd (upd (V 6) 1 (nI ((z + 11) % 12))) 0 (nI (ac - 1)) → AA1 6 = AA 6 → ICA V1 AA1 R n nl np nw nr →
      ∃ a, some (Value.int (nI (ac - 1))) = some a ∧ CC X EV (d + 19) 201 [.ref m] hm1 hs (fun v2 hm2 hs2 => v2 = some a ∧ KI32 B t m a hm2 hs2) := by
    intro hm1 V1 AA1 h0 hW1 s1 rest hp hsc v6 w6 hc
    refine ⟨_, rfl, ?_⟩
    refine m_undo (g.mo hM s1) eu3 a12 (fun h => absurd h h0) (fun _ hm2 hM2 s2 => ?_)
    have es : (fun j => if 183 ≤ j ∧ j < 183 + 34 then A 2 (34 * (ac - 1) + (j - 183)) else A 0 j) = snp A ac (ac - 1) := by
      funext j
      unfold snp
      by_cases hr : 183 ≤ j ∧ j < 217
      · rw [if_pos (show 183 ≤ j ∧ j < 183 + 34 from hr), if_pos (show ac - 1 < ac ∧ 183 ≤ j ∧ j < 217 from ⟨by omega, hr⟩)]
      · rw [if_neg (show ¬ (183 ≤ j ∧ j < 183 + 34) from hr), if_neg (fun z => hr z.2)]
    rw [es] at hM2
    exact ⟨rfl, ⟨_, rfl⟩, (g.s1 s1).s2 s2, pa, pb, qa, qb, V1, AA1, R, _, _, RM, n, w, h, L, nl, np, nw, nr, (g.s1 s1).tw hW1 s2, hM2, c.act rest ⟨⟨rfl, rfl, rfl, rfl⟩, rfl, rfl, rfl, rfl, rfl⟩ hp hsc (iac_pop a12 h0 z12 hg hu v6 w6 rfl rfl rfl) hc⟩
  unfold PR
  refine c_undo hW c.pg.u2 hn c.sc.2.2.1.1 hl e61 z12 e60 a12 rfl (fun h0 => ⟨_, rfl, ?_⟩) (fun h0 => ?_)
  · exact m_undo hM eu3 a12 (fun _ hm2 hM2 s2 => ⟨rfl, ⟨_, rfl⟩, f0 g hW c hM2 kiU4 s2⟩) (fun h => absurd h0 h)
  · have hud := hu (ac - 1) (by omega)
    obtain ⟨hG0, hT0⟩ := hg (ac - 1) (by omega)
    rw [show ac - 1 + 1 = ac by omega, snp_self, show (z + 12 - ac + (ac - 1)) % 12 = (z + 11) % 12 by omega] at hud
    rcases hud with ⟨ek, i, j, hi, hj, ef, es, hb, e0⟩ | ⟨ek, i, j, hi, hj, ef, es, hb, e0⟩ | ⟨ek, i, hi, ef, hv, e0⟩ | ⟨ek, i, hi, ef, e0⟩
    · refine .inl ⟨ek, i, j, hi, hj, ef, es, fun hm1 V1 AA1 hW1 v6 v0 w0 v7 w7 v8 w8 rv ra s1 => fin hm1 V1 AA1 h0 hW1 s1 (fun k hk => ⟨rv k (by omega) (by omega) (by omega) (by omega), ra k (by omega)⟩) ?_ ?_ v6 (ra 6 (by decide)) ⟨fun q => ?_, fun q => ?_, fun q => ?_⟩⟩
      · rw [e0, v0, w0]; exact c.pg.tak hi hj hb
      · rw [e0, rv 2 (by decide) (by decide) (by decide) (by decide), ra 2 (by decide)]; exact c.sc.ext (fun j hj => pk_un (by omega)) (fun k hk => pk_un (by omega))
      · rw [v8] at q; exact absurd q (show ¬ (1 : Int32) = 0 by decide)
      · rw [v7] at q; exact absurd q (show ¬ (1 : Int32) = 0 by decide)
      · rw [v7] at q; exact absurd q (show ¬ (1 : Int32) = 0 by decide)
    · refine .inr (.inl ⟨ek, i, j, hi, hj, ef, es, fun hm1 V1 AA1 hW1 v6 v0 w0 v7 w7 v8 w8 rv ra s1 => fin hm1 V1 AA1 h0 hW1 s1 (fun k hk => ⟨rv k (by omega) (by omega) (by omega) (by omega), ra k (by omega)⟩) ?_ ?_ v6 (ra 6 (by decide)) ⟨fun q => ?_, fun q => ?_, fun q => ?_⟩⟩)
      · rw [e0] at hG0
        have noc : ¬ (j = i ∨ ovr (tT (A 0)) n j i) := fun q => hG0.ac j hj ((ovr_add hi hj (tld_b hn hj) hj).mpr (.inr ⟨q, .inl rfl⟩))
        rw [e0, v0, w0]
        refine c.pg.tld hi hj (fun q => noc (.inl q.symm)) hb (fun q => noc (.inr ?_)) ((wy_pos hn hG0.tb).mpr hG0.co)
        rw [← c.pg.bl j hj] at q
        exact ((c.pg.clo j hj i (by omega)).1.mp q).2
      · rw [e0, rv 2 (by decide) (by decide) (by decide) (by decide), ra 2 (by decide)]; exact c.sc.ext (fun j hj => pk_un (by omega)) (fun k hk => pk_un (by omega))
      · rw [v8] at q; exact absurd q (show ¬ (1 : Int32) = 0 by decide)
      · rw [v7] at q; exact absurd q (show ¬ (1 : Int32) = 0 by decide)
      · rw [v7] at q; exact absurd q (show ¬ (1 : Int32) = 0 by decide)
    · refine .inr (.inr (.inl ⟨ek, i, hi, ef, fun hm1 V1 AA1 hW1 v6 v4 v5 v0 v8 rv ra s1 => fin hm1 V1 AA1 h0 hW1 s1 (fun k hk => ⟨rv k (by omega) (by omega) (by omega), ra k⟩) ?_ ?_ v6 (ra 6) ⟨fun q => ?_, fun q => ?_, fun q => ?_⟩⟩))
      · rw [e0] at hG0 ⊢
        rw [ra 0]; exact c.pg.hnd hi hv hG0 v4 v5 v0
      · rw [e0, rv 2 (by decide) (by decide) (by decide), ra 2]; exact c.sc.ext (fun j hj => pk_un (by omega)) (fun k hk => pk_un (by omega))
      · rw [v8] at q; exact absurd q (show ¬ (1 : Int32) = 0 by decide)
      · rw [ra 0, ra 7, rv 7 (by decide) (by decide) (by decide)]; rw [rv 7 (by decide) (by decide) (by decide)] at q; exact c.t1 q
      · rw [ra 0, ra 7]; rw [rv 7 (by decide) (by decide) (by decide)] at q; exact c.t2 q
    · refine .inr (.inr (.inr ⟨ek, i, hi, ef, fun hm1 V1 AA1 hW1 v6 w2 rv ra s1 => fin hm1 V1 AA1 h0 hW1 s1 (fun k hk => ⟨rv k (by omega), ra k (by omega)⟩) ?_ ?_ v6 (ra 6 (by decide)) ⟨fun q => ?_, fun q => ?_, fun q => ?_⟩⟩))
      · rw [e0, rv 0 (by decide), ra 0 (by decide)]; exact c.pg.ext (fun j hj => pk_un (by omega))
      · obtain ⟨y, y1, y2, ey⟩ := hT0.2 i hi
        rw [e0] at ey
        have ey : AA 6 4 ((z + 11) % 12) = nI y := by rw [← ey]; show _ = upd (A 0) (207 + i) _ (207 + i); rw [pk_us]
        rw [e0, rv 2 (by decide), w2]; exact c.sc.wgh hi y1 y2 ey
      · rw [rv 0 (by decide), ra 0 (by decide), w2, ra 8 (by decide)]; rw [rv 8 (by decide)] at q; exact siR_w (c.c8 q)
      · rw [ra 0 (by decide), ra 7 (by decide), rv 7 (by decide)]; rw [rv 7 (by decide)] at q; exact c.t1 q
      · rw [ra 0 (by decide), ra 7 (by decide)]; rw [rv 7 (by decide)] at q; exact c.t2 q
end S7
