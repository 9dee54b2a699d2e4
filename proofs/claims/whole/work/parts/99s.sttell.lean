/-! ===== call by call: tell ===== -/
def mix (S F : Nat → Int32) : Nat → Int32 := fun j => if j < 217 then S j else F j
section X9
variable {S S0' S1' F : Nat → Int32} {n nl : Nat}
theorem mix_lt {j : Nat} (h : j < 217) : mix S F j = S j := if_pos h
theorem mix_upd {k : Nat} {v : Int32} (h : k < 217) : mix (upd S k v) F = upd (mix S F) k v := by
  funext j
  by_cases e : j = k
  · rw [e, mix_lt h, pk_us, pk_us]
  · rw [pk_un e]; unfold mix; rw [pk_un e]
theorem Udo.mix {k f s : Int32} (hn : n ≤ 12) (hl : nl ≤ 10) (h : Udo n nl k f s S0' S1') : Udo n nl k f s (mix S0' F) (mix S1' F) := by
  rcases h with ⟨h1, i, j, hi, hj, a, b, c, e⟩ | ⟨h1, i, j, hi, hj, a, b, c, e⟩ | ⟨h1, i, hi, a, b, e⟩ | ⟨h1, i, hi, a, e⟩
  · refine .inl ⟨h1, i, j, hi, hj, a, b, by rw [mix_lt (by omega)]; exact c, ?_⟩
    rw [e]; unfold takM; rw [mix_upd (by omega), mix_lt (by omega)]
  · refine .inr (.inl ⟨h1, i, j, hi, hj, a, b, by rw [mix_lt (by omega)]; exact c, ?_⟩)
    rw [e]; unfold tldM; rw [mix_upd (by omega), mix_lt (by omega)]
  · refine .inr (.inr (.inl ⟨h1, i, hi, a, b, ?_⟩))
    rw [e, mix_upd (by omega)]
  · refine .inr (.inr (.inr ⟨h1, i, hi, a, ?_⟩))
    rw [e, mix_upd (by omega)]
theorem snp_mix {A A' : Nat → Nat → Int32} {a x : Nat} (h0 : ∀ j, j < 217 → A' 0 j = A 0 j) (h2 : A' 2 = A 2) : snp A' a x = mix (snp A a x) (A' 0) := by
  funext j
  unfold snp mix
  by_cases hj : j < 217
  · rw [if_pos hj, h2, h0 j hj]
  · rw [if_neg hj, if_neg (fun z => hj z.2.2)]
end X9
section XA
variable {X : HM} {EV : Nat → Value} {d : Nat} {B t m : Nat} {hm hm1 hm2 : HM} {hs : Nat} {V V' : Nat → Nat → Int32} {AA AA' : Nat → Nat → Nat → Int32} {R R' : Nat → Int64} {u u' : Nat → Int32} {A A' : Nat → Nat → Int32} {RM RM' : Nat → Int64} {n w h nl np nw nr : Nat} {L : Nat → Nat} {pa pb qa qb : Nat}
/-- a text that was refused -/
theorem CPL.bad (c : CPL V AA R u A n w h L nl np nw nr) (e : ∀ k, k ≠ 1 → k ≠ 3 → k ≠ 4 → k ≠ 5 → k ≠ 13 → V' k = V k ∧ AA' k = AA k) (h40 : V' 4 0 = nI 0) (k3 : u' 3 = u 3) (k6 : u' 6 = nI 0) (hf : V' 13 10 = u' 9 ∧ V' 13 11 = u' 10) (hr : IRG V' AA' u' A') (a0 : ∀ j, j < 217 → A' 0 j = A 0 j) (a2 : A' 2 = A 2) (a24 : A' 24 = A 24) (a25 : A' 25 = A 25) (a26 : A' 26 = A 26) : CPL V' AA' R u' A' n w h L nl np nw nr := by
  have hn := c.pg.n12
  have hl := c.sc.ws.1.2
  have e1 := fun j a b c d f => (e j a b c d f).1
  have f1 := fun j a b c d f => (e j a b c d f).2
  obtain ⟨c1, c2, -, -, -, ⟨a, x, x1, x2, x3, x4, x5, x6, x7⟩, c8, c9⟩ := c
  refine ⟨?_, ?_, ⟨0, by omega, h40, k6, fun i hi => absurd hi (by omega)⟩, hf, hr, ⟨a, x, x1, x2, ?_, ?_, k3.trans x5, fun i hi => ?_, fun i hi => ?_⟩, fun i hi => ?_, ?_⟩
  · rw [e1 0 (by decide) (by decide) (by decide) (by decide) (by decide), f1 0 (by decide) (by decide) (by decide) (by decide) (by decide)]
    exact c1.ext (fun j hj => a0 j (by omega))
  · rw [e1 2 (by decide) (by decide) (by decide) (by decide) (by decide), f1 2 (by decide) (by decide) (by decide) (by decide) (by decide)]
    exact c2.ext (fun j hj => a0 j (by omega)) (fun k hk => a0 _ (by omega))
  · rw [e1 6 (by decide) (by decide) (by decide) (by decide) (by decide)]; exact x3
  · rw [e1 6 (by decide) (by decide) (by decide) (by decide) (by decide)]; exact x4
  · obtain ⟨y1, y2⟩ := x6 i hi
    rw [snp_mix a0 a2]
    refine ⟨y1.ext (fun j _ hj => mix_lt (by omega)), y2.1, fun k hk => ?_⟩
    show ∃ v, 1 ≤ v ∧ v ≤ 99 ∧ mix (snp A a i) (A' 0) (207 + k) = nI v
    rw [mix_lt (by omega)]; exact y2.2 k hk
  · rw [snp_mix a0 a2, snp_mix a0 a2, f1 6 (by decide) (by decide) (by decide) (by decide) (by decide)]
    exact (x7 i hi).mix hn hl
  · obtain ⟨z, h1, h2, h3⟩ := c8 i hi
    refine ⟨z, h1, ?_, ?_⟩
    · rw [e1 (9 + i) (by omega) (by omega) (by omega) (by omega) (by omega)]; exact h2
    · rw [e1 (9 + i) (by omega) (by omega) (by omega) (by omega) (by omega), f1 (9 + i) (by omega) (by omega) (by omega) (by omega) (by omega), a24, a25, a26]; exact h3
  · unfold ICA at c9 ⊢
    rw [e1 0 (by decide) (by decide) (by decide) (by decide) (by decide), e1 7 (by decide) (by decide) (by decide) (by decide) (by decide), e1 8 (by decide) (by decide) (by decide) (by decide) (by decide), f1 0 (by decide) (by decide) (by decide) (by decide) (by decide), f1 2 (by decide) (by decide) (by decide) (by decide) (by decide), f1 7 (by decide) (by decide) (by decide) (by decide) (by decide), f1 8 (by decide) (by decide) (by decide) (by decide) (by decide)]
    exact c9
theorem st_tell {a : Int32} (hI : INV B t m hm hs) (hK : KW X EV B) (hY : KY X EV B) (hX : XT X EV B) : PR X EV (d + 19) 101 180 [.ref t, .int a] [.ref m, .int a] hm hs (KI32 B t m) := by
  obtain ⟨g, pa, pb, qa, qb, V, AA, R, u, A, RM, n, w, h, L, nl, np, nw, nr, hW, hM, c⟩ := hI
  obtain ⟨g1, g2, g3, g4⟩ := id g
  obtain ⟨z, z9, ez, eu6, hz⟩ : ITP V AA u A := c.2.2.1
  have hB : BY (A 5) z := fun i hi => by obtain ⟨b, h1, -, h3⟩ := hz i hi; exact ⟨b, h1, h3⟩
  have had := hW.ad
  unfold adO at had
  have hS : ∀ j, j < 217 → S0 (A 0) j = S00 j := fun j hj => if_pos hj
  unfold PR
  refine c_tell (d := d + 11) hW ez z9 (by omega) (fun hno => ⟨_, rfl, ?_⟩) (fun e he ea hm1 uR hXr hW1 hfr r0 r1 r2 r4 r8 => ?_)
  · refine m_tell hM hB hY g4 (by omega) eu6 z9 (fun _ hm2 hM2 s2 => ⟨rfl, ⟨_, rfl⟩, f0 g hW c hM2 ⟨⟨rfl, rfl, rfl, rfl, rfl⟩, rfl, rfl, rfl, fun _ _ => rfl, rfl, rfl, rfl⟩ s2⟩) (fun e he ea => absurd ?_ hno)
    rw [ea]
    exact ⟨(nI_leI (a := 0) (by omega) (by omega)).mpr (by omega), (nI_leI (by omega) (by omega)).mpr he⟩
  have hT : TE (AA 4 1) (A 5) e := fun i hi => hz i (by omega)
  have hl1 : lowN B hm1 := fun a ha => by rw [hfr a (by omega)]; exact g4 a ha
  refine c_mono (cl_text hXr hK hX (by omega) hl1 r4 (by omega) r0 r1 r2 r8 hT hS) ?_
  rintro v hm2 hs2 ⟨rfl, rfl, cc, r, u2, pu, pA, su, sA, gu', gA', hTR, hX2, hO⟩
  have hle : 0 ≤ a ∧ a ≤ nI z := by rw [ea]; exact ⟨(nI_leI (a := 0) (by omega) (by omega)).mpr (by omega), (nI_leI (by omega) (by omega)).mpr he⟩
  have two : ∀ e', e' ≤ z → a = nI e' → e' = e := fun e' he' ea' => (nI_eq (by omega) (by omega)).mp (ea'.symm.trans ea)
  have run : ∀ hm' : HM, (∀ x, (x < t ∨ t + 70 ≤ x) → x ≠ hs → hm' x = hm x) → ∀ (Q : QT), (∀ hm'' u' A' v, MO hm'' m u' A' RM → sm m (m + 16) hm' hm'' → u' 6 = 0 → A' 2 = A 2 → A' 5 = A 5 → A' 24 = A 24 → A' 25 = A 25 → A' 26 = A 26 → RE r u u' A A' v → Q (some (.int v)) hm'' (hs + 1)) → CC X EV (d + 19) 180 [.ref m, .int a] hm' (hs + 1) Q := by
    intro hm' hf Q hq
    refine m_tell (hM.fr (fun x h1 h2 => hf x (by omega) (by omega))) hB hY (fun b hb => by rw [hf b (by omega) (by omega)]; exact g4 b hb) (by omega) eu6 z9 (fun hno => absurd hle hno) (fun e' he' ea' => ?_)
    rw [two e' he' ea']
    exact ⟨cc, r, hTR, hq⟩
  have geo : ∀ hm' hm'' : HM, (∀ x, (x < t ∨ t + 70 ≤ x) → x ≠ hs → hm' x = hm x) → sm m (m + 16) hm' hm'' → GEO B t m hm'' (hs + 1) := fun hm' hm'' hf s => ⟨g1, by omega, g3, fun b hb => by rw [s b (by omega), hf b (by omega) (by omega)]; exact g4 b hb⟩
  refine ⟨rfl, rfl, u2, pu, pA, su, sA, gu', gA', hX2, fun hne hm' V' hW' v1 v3 v5 v4 v13 vo hf => ⟨_, rfl, ?_⟩, fun h0 hm' V' hW' v0 v2 v1 v3 v4 v5 v6 v7 v8 v13 vo hf => ⟨_, rfl, ?_⟩⟩
  · rcases r with ⟨lm, S⟩ | ⟨f, at', rg⟩
    · exact absurd hO.1 hne
    obtain ⟨hf16, o0, o1, org⟩ := hO
    refine run hm' hf _ (fun hm'' u' A' v hM' s' k6 a2 a5 a24 a25 a26 hre => ?_)
    obtain ⟨ev, k3, k9, k10, a0, rk⟩ := hre
    refine ⟨by rw [ev, o0], ⟨_, rfl⟩, geo hm' hm'' hf s', pa, pb, qa, qb, V', _, R, u', A', RM, n, w, h, L, nl, np, nw, nr, hW'.s s' (.inr (by omega)), hM', ?_⟩
    refine c.bad (fun k k1 k3' k4 k5 k13 => ⟨vo k k1 k3' k4 k5 k13, by rw [vu_ne k5, vu_ne k3', vu_ne k1]⟩) (by rw [v4, pk_us]; rfl) k3 k6 ⟨by rw [v13, pk_un (by omega), pk_us, k9, o0], by rw [v13, pk_us, k10, o1]⟩ ?_ a0 a2 a24 a25 a26
    have old : IRG V AA u A := c.2.2.2.2.1
    unfold IRG
    rw [v5, vu_eq]
    cases rg with
    | none =>
      obtain ⟨y, y1, y2, y3, y4⟩ := old
      obtain ⟨b1, b2⟩ := org
      obtain ⟨d1, d2⟩ := rk
      exact ⟨y, y1, by rw [b1]; exact y2, d1.trans y3, fun i hi => by rw [b2, d2]; exact y4 i hi⟩
    | some x =>
      obtain ⟨S, nn, i, j⟩ := x
      obtain ⟨mm, b1, b2⟩ := org
      obtain ⟨D, eD, D1, D11, d1, hR⟩ := rk
      obtain ⟨q1, q2⟩ := b2 D _ eD D1 D11 hR
      exact ⟨D + 1, by omega, by rw [b1, q1], d1, q2⟩
  · rcases r with ⟨lm, S⟩ | ⟨f, at', rg⟩
    case inr =>
      exact absurd (hO.2.1.symm.trans h0) (fun y => by have := (nI_eq (b := 0) (by have := hO.1; omega) (by omega)).mp y; have := hO.1; omega)
    obtain ⟨o0, o1, o2, ⟨n1, w1, h1, L1, nl1, np1, nw1, nr1, H1, C1⟩, o5, o6⟩ := hO
    refine run hm' hf _ (fun hm'' u' A' v hM' s' k6 a2 a5 a24 a25 a26 hre => ?_)
    obtain ⟨ev, k3, k9, k10, a0, rk1, rk2⟩ := hre
    refine ⟨by rw [ev, o2], ⟨_, rfl⟩, geo hm' hm'' hf s', pb, pa, qb, qa, V', _, R, u', A', RM, n1, w1, h1, L1, nl1, np1, nw1, nr1, hW'.s s' (.inr (by omega)), hM', ?_⟩
    obtain ⟨-, -, -, -, ⟨y, y1, y2, y3, y4⟩, ⟨ac, x, x1, x2, x3, x4, x5, x6, x7⟩, c8, c9⟩ := c
    refine ⟨by rw [v0, a0]; exact H1, by rw [v2, a0]; exact C1, ⟨0, by omega, by rw [v4, pk_us]; rfl, k6, fun i hi => absurd hi (by omega)⟩, ⟨by rw [v13, pk_un (by omega), pk_us, k9, o0], by rw [v13, pk_us, k10, o1]⟩, ⟨y, y1, by rw [v5, o5]; exact y2, rk1.trans y3, fun i hi => ?_⟩, ⟨0, x, by omega, x2, by rw [v6, pk_us]; rfl, by rw [v6, pk_un (by omega)]; exact x4, k3, fun i hi => absurd hi (by omega), fun i hi => absurd hi (by omega)⟩, fun i hi => ?_, ⟨fun q => ?_, fun q => ?_, fun q => ?_⟩⟩
    · rw [rk2]
      show gA' 1 i = A 16 i
      rw [o6]; exact y4 i hi
    · obtain ⟨z, h1, h2, h3⟩ := c8 i hi
      have es : swp (va_up (va_up (va_up AA 1 pA) 3 sA) 5 gA') (9 + i) = AA (9 + i) := by
        unfold swp
        rw [if_neg (by omega), if_neg (by omega), if_neg (by omega), if_neg (by omega), vu_ne (by omega), vu_ne (by omega), vu_ne (by omega)]
      refine ⟨z, h1, ?_, ?_⟩
      · rw [vo (9 + i) (by omega) (by omega)]; exact h2
      · rw [vo (9 + i) (by omega) (by omega), es, a24, a25, a26]; exact h3
    · rw [v8] at q; exact absurd q (show ¬ (1 : Int32) = 0 by decide)
    · rw [v7] at q; exact absurd q (show ¬ (1 : Int32) = 0 by decide)
    · rw [v7] at q; exact absurd q (show ¬ (1 : Int32) = 0 by decide)
end XA
