/-! ===== call by call: letters, words, judging ===== -/
theorem likv_ext {c c' : Nat → Prop} [DecidablePred c] [DecidablePred c'] {P P' : Nat → Int64} : ∀ k, (∀ i, i < k → (c i ↔ c' i)) → (∀ i, i < k → c i → P i = P' i) → likv c P k = likv c' P' k := by
  intro k
  induction k with
  | zero => intro _ _; rfl
  | succ k ih =>
    intro h1 h2
    have ih := ih (fun i hi => h1 i (by omega)) (fun i hi => h2 i (by omega))
    have e1 : likv c P (k + 1) = if c k ∧ (likv c P k).2 < P k then (nI k, P k) else likv c P k := rfl
    have e2 : likv c' P' (k + 1) = if c' k ∧ (likv c' P' k).2 < P' k then (nI k, P' k) else likv c' P' k := rfl
    rw [e1, e2, ih]
    by_cases hc : c k
    · have hc' := (h1 k (by omega)).mp hc
      rw [h2 k (by omega) hc]
      by_cases hl : (likv c' P' k).2 < P' k
      · rw [if_pos ⟨hc, hl⟩, if_pos ⟨hc', hl⟩]
      · rw [if_neg (fun z => hl z.2), if_neg (fun z => hl z.2)]
    · rw [if_neg (fun z => hc z.1), if_neg (fun z => hc ((h1 k (by omega)).mpr z.1))]
theorem likm_ext {c c' : Nat → Prop} [DecidablePred c] [DecidablePred c'] {P : Nat → Int64} : ∀ k, (∀ i, i < k → (c i ↔ c' i)) → likm c P k = likm c' P k := by
  intro k
  induction k with
  | zero => intro _; rfl
  | succ k ih =>
    intro h1
    have ih := ih (fun i hi => h1 i (by omega))
    have e1 : likm c P (k + 1) = if c k ∧ (likm c P k = -1 ∨ P (likm c P k).toNatClampNeg < P k) then nI k else likm c P k := rfl
    have e2 : likm c' P (k + 1) = if c' k ∧ (likm c' P k = -1 ∨ P (likm c' P k).toNatClampNeg < P k) then nI k else likm c' P k := rfl
    rw [e1, e2, ih]
    by_cases hc : c k
    · have hc' := (h1 k (by omega)).mp hc
      by_cases hl : likm c' P k = -1 ∨ P (likm c' P k).toNatClampNeg < P k
      · rw [if_pos ⟨hc, hl⟩, if_pos ⟨hc', hl⟩]
      · rw [if_neg (fun z => hl z.2), if_neg (fun z => hl z.2)]
    · rw [if_neg (fun z => hc z.1), if_neg (fun z => hc ((h1 k (by omega)).mpr z.1))]
theorem prodL_ext {A A' : Nat → Nat → Int32} {x l nl : Nat} (h6 : ∀ k, k < nl → A 6 k = A' 6 k) (h11 : ∀ i, i < l → ∃ t, t < nl ∧ nl ≤ 10 ∧ A 11 (6 * x + i) = nI t ∧ A' 11 (6 * x + i) = nI t) : ∀ i, i ≤ l → prodL A x i = prodL A' x i := by
  intro i
  induction i with
  | zero => intro _; rfl
  | succ i ih =>
    intro hi
    obtain ⟨t, ht, h10, e1, e2⟩ := h11 i (by omega)
    have a1 : prodL A x (i + 1) = prodL A x i * (A 6 (A 11 (6 * x + i)).toNatClampNeg).toInt64 := rfl
    have a2 : prodL A' x (i + 1) = prodL A' x i * (A' 6 (A' 11 (6 * x + i)).toNatClampNeg).toInt64 := rfl
    rw [a1, a2, ih (by omega), e1, e2, nI_clamp (by omega), h6 t ht]
theorem prodL_pos {A : Nat → Nat → Int32} {x l nl : Nat} (hwt : WT (A 6) nl) (h11 : ∀ i, i < l → ∃ t, t < nl ∧ A 11 (6 * x + i) = nI t) : ∀ i, i ≤ l → ∃ P, 1 ≤ P ∧ P ≤ 100 ^ i ∧ prodL A x i = lN P := by
  intro i
  induction i with
  | zero => intro _; exact ⟨1, by omega, by decide, rfl⟩
  | succ i ih =>
    intro hi
    obtain ⟨P, p1, p2, p3⟩ := ih (by omega)
    obtain ⟨t, ht, e1⟩ := h11 i (by omega)
    obtain ⟨v, v1, v2, ev⟩ := hwt.2 t ht
    have h10 := hwt.1
    have a1 : prodL A x (i + 1) = prodL A x i * (A 6 (A 11 (6 * x + i)).toNatClampNeg).toInt64 := rfl
    refine ⟨P * v, Nat.mul_pos p1 v1, ?_, ?_⟩
    · rw [Nat.pow_succ]; exact Nat.mul_le_mul p2 (by omega)
    · rw [a1, p3, e1, nI_clamp (by omega), ev, nI_l (by omega), lN_mul]
theorem lsv_sum {K S M : Nat → Int32} {H : Nat → Int32} : ∀ k, (∀ q, q < k → hdv (K q) = H q) → (∀ q, q < k → hdv (S q) = M q) → lsv K S k = sumI (fun q => pcnt (H q &&& (M q ^^^ (-1)))) k := by
  intro k
  induction k with
  | zero => intro _ _; rfl
  | succ k ih =>
    intro h1 h2
    have a1 : lsv K S (k + 1) = lsv K S k + pcnt (hdv (K k) &&& (hdv (S k) ^^^ (-1))) := rfl
    have a2 : sumI (fun q => pcnt (H q &&& (M q ^^^ (-1)))) (k + 1) = sumI (fun q => pcnt (H q &&& (M q ^^^ (-1)))) k + pcnt (H k &&& (M k ^^^ (-1))) := rfl
    rw [a1, a2, ih (fun q hq => h1 q (by omega)) (fun q hq => h2 q (by omega)), h1 k (by omega), h2 k (by omega)]
theorem scv_ext {F G : Nat → Int32} : ∀ k, (∀ i, i < k → F i = G i) → scv F k = scv G k := by
  intro k
  induction k with
  | zero => intro _; rfl
  | succ k ih =>
    intro h
    have a1 : scv F (k + 1) = if (scv F k).2 < F k then (nI k, F k) else scv F k := rfl
    have a2 : scv G (k + 1) = if (scv G k).2 < G k then (nI k, G k) else scv G k := rfl
    rw [a1, a2, ih (fun i hi => h i (by omega)), h k (by omega)]
theorem pfv_ext {F G : Nat → Int32} {i : Nat} : ∀ k, (∀ q, q < k → F q = G q) → pfv F i k = pfv G i k := by
  intro k
  induction k with
  | zero => intro _; rfl
  | succ k ih =>
    intro h
    have a1 : pfv F i (k + 1) = if bt (F k) i = true then pfv F i k + 1 else pfv F i k := rfl
    have a2 : pfv G i (k + 1) = if bt (G k) i = true then pfv G i k + 1 else pfv G i k := rfl
    rw [a1, a2, ih (fun q hq => h q (by omega)), h k (by omega)]
theorem cntb_pos {m : Nat} : ∀ k i, i < k → m.testBit i = true → 1 ≤ cntb m k := by
  intro k
  induction k with
  | zero => intro i h; omega
  | succ k ih =>
    intro i hi hb
    have e : cntb m (k + 1) = if m.testBit k = true then cntb m k + 1 else cntb m k := rfl
    rw [e]
    by_cases h : i = k
    · subst h; rw [if_pos hb]; omega
    · have := ih i (by omega) hb; split <;> omega
theorem pc_one {T : Int32} (h : ∀ i, 10 ≤ i → i < 32 → bt T i = false) (h0 : ¬ T = 0) : (pcnt T = 1 ↔ ¬ 1 < pcnt T) := by
  obtain ⟨-, -, hf⟩ := ntz_b (fun i h1 h2 => h i (by omega) h2) h0
  have hb := fstN_lt (P := fun k => bt T k = true) hf
  obtain ⟨m, hm, rfl⟩ := msk (n := 12) (by omega) (fun i h1 h2 => h i (by omega) h2)
  rw [pcn_k m hm]
  have h1 := cntb_pos 12 _ hf (by rw [b_nI (by omega)] at hb; exact hb)
  have h2 := cntb_le m 12
  rw [show (1 : Int32) = nI 1 from rfl, nI_eq (by omega) (by omega), nI_ltI (by omega) (by omega)]
  omega
section S2
variable {X : HM} {EV : Nat → Value} {d : Nat} {B t m : Nat} {hm hm1 hm2 : HM} {hs : Nat} {V V' : Nat → Nat → Int32} {AA AA' : Nat → Nat → Nat → Int32} {R R' : Nat → Int64} {u u' : Nat → Int32} {A A' : Nat → Nat → Int32} {RM RM' : Nat → Int64} {n w h nl np nw nr : Nat} {L : Nat → Nat} {pa pb qa qb : Nat}
/-- the letters of a word, here and there -/
theorem ltc (c : CPL V AA R u A n w h L nl np nw nr) {x l : Nat} (hx : x < nw) (e : AA 2 10 x = nI l) (hl : l ≤ 6) {i : Nat} (hi : i < l) : ∃ t, t < nl ∧ nl ≤ 10 ∧ AA 2 11 (6 * x + i) = nI t ∧ sV (A 0) 11 (6 * x + i) = nI t := by
  obtain ⟨c10, c11⟩ := c.sc.2.2.2.2.2.1 x hx
  obtain ⟨l0, h1, h6, e0, ht⟩ := c.sc.ws.2.2.2.2.2.1 x hx
  have el : l0 = l := by rw [c10, e0, nI_eq (by omega) (by omega)] at e; exact e
  subst el
  obtain ⟨t, htn, et⟩ := ht i hi
  have e2 : sV (A 0) 11 (6 * x + i) = nI t := (sV11 (by omega)).trans et
  exact ⟨t, htn, c.sc.ws.1.2, (c11 l0 e0 h6 i hi).trans e2, e2⟩
theorem st_likely {r : Int32} (hI : INV B t m hm hs) : PR X EV (d + 19) 128 238 [.ref t, .int r] [.ref m, .int r] hm hs (KI32 B t m) := by
  obtain ⟨g, pa, pb, qa, qb, V, AA, R, u, A, RM, n, w, h, L, nl, np, nw, nr, hW, hM, c⟩ := hI
  have hp8 := c.sc.ws.2.1.2
  have hr4 := c.sc.ws.2.2.2.1.2
  have hw12 := c.sc.ws.2.2.1.2
  unfold PR
  refine c_likely hW c.sz c.c8 (fun x hx l e hl i hi => ?_) (fun h0 => ⟨_, rfl, ?_⟩) (fun i f l hi e ef el h8 hl6 hm1 V1 AA1 hW1 k1 z1 r1 s1 => ⟨_, rfl, ?_⟩)
  · obtain ⟨t, a, b, e1, -⟩ := ltc c hx e hl hi
    exact ⟨t, by omega, e1⟩
  · exact m_likely hM c.mz (fun _ hm2 u2 A2 hM2 k2 s2 => ⟨rfl, ⟨_, rfl⟩, f0 g hW c hM2 k2.ki s2⟩) (fun i f l hi e => absurd (nix (by omega) hi e) h0)
  · have ef' : A 0 (175 + 2 * i) = nI f := (c.sc.2.2.2.2.2.2.1 i hi).1.symm.trans ef
    have el' : A 0 (175 + 2 * i + 1) = nI l := (c.sc.2.2.2.2.2.2.1 i hi).2.symm.trans el
    refine m_likely (g.mo hM s1) c.mz (fun h0 => absurd (nix (by omega) hi e) h0) (fun i' f' l' a1 a2 a3 a4 a5 a6 hm2 u2 A2 hM2 k2 s2 F hF => ⟨?_, ⟨_, rfl⟩, f8 g hW1 c k1 (fun _ => r1) s1 hM2 k2.ki s2⟩)
    have e1 : i' = i := by rw [e] at a2; exact ((nI_eq (by omega) (by omega)).mp a2).symm
    subst e1
    rw [ef', nI_eq (by omega) (by omega)] at a3
    rw [el', nI_eq (by omega) (by omega)] at a4
    subst a3; subst a4
    have iff1 : ∀ x, x < nw → (wfP (AA 2) (AA1 8 2) i' f l x ↔ wfP (sV (A 0)) F i' f l x) := fun x hx => wfc c r1 hF hi hx ef' el' a5 hl6
    have hw10 : ∀ x, wfP (AA 2) (AA1 8 2) i' f l x → AA 2 10 x = nI l := fun x hx => hx.1.trans el
    have E1 : likv (wfP (AA 2) (AA1 8 2) i' f l) (fun w => prodL (AA 2) w l) nw = likv (fun x => x < nw ∧ wfP (sV (A 0)) F i' f l x) (fun x => prodL (sV (A 0)) x l) nw :=
      likv_ext nw (fun x hx => ⟨fun z => ⟨hx, (iff1 x hx).mp z⟩, fun z => (iff1 x hx).mpr z.2⟩) (fun x hx hf => prodL_ext (fun k hk => (c.sc.2.2.2.1 k hk).2.2) (fun y hy => ltc c hx (hw10 x hf) hl6 hy) l (Nat.le_refl _))
    have E2 := (e_lik (fun x => x < nw ∧ wfP (sV (A 0)) F i' f l x) (fun x => prodL (sV (A 0)) x l) (fun x hx => by
      obtain ⟨P, p1, p2, p3⟩ := prodL_pos (A := sV (A 0)) (x := x) (l := l) c.sc.ws.wt (fun y hy => by
        obtain ⟨t, b1, -, -, b4⟩ := ltc c hx.1 (hw10 x ((iff1 x hx.1).mpr hx.2)) hl6 hy
        exact ⟨t, b1, b4⟩) l (Nat.le_refl _)
      have : 100 ^ l ≤ 100 ^ 6 := Nat.pow_le_pow_right (by omega) hl6
      show 0 < prodL (sV (A 0)) x l
      rw [p3, show (0 : Int64) = lN 0 from rfl]
      rw [l6_lt (by omega) (by omega)]; omega) nw (by omega)).1
    have E3 : likm (fun x => x < nw ∧ wfP (sV (A 0)) F i' f l x) (fun x => prodL (sV (A 0)) x l) nw = likm (wfP (sV (A 0)) F i' f l) (fun x => prodL (sV (A 0)) x l) nw := likm_ext nw (fun x hx => ⟨fun z => z.2, fun z => ⟨hx, z⟩⟩)
    rw [E1, E2, E3]
theorem st_reads {q : Int32} (hI : INV B t m hm hs) : PR X EV (d + 19) 129 243 [.ref t, .int q] [.ref m, .int q] hm hs (KI32 B t m) := by
  obtain ⟨g, pa, pb, qa, qb, V, AA, R, u, A, RM, n, w, h, L, nl, np, nw, nr, hW, hM, c⟩ := hI
  have hp8 := c.sc.ws.2.1.2
  have hl10 := c.sc.ws.1.2
  have neg : ∀ i, i < np → q = nI i → ¬ q < -1 ∧ ¬ q = -1 ∧ q < nI np := fun i hi e => by
    obtain ⟨a, b⟩ := nix (by omega) hi e
    exact ⟨by grind, by grind, b⟩
  unfold PR
  refine c_reads hW c.sz c.c8 (fun K hK q hq i h1 h2 => ?_) (fun h0 => ⟨_, rfl, ?_⟩) (fun h1 => ⟨_, rfl, ?_⟩) (fun h0 h1 h2 => ⟨_, rfl, ?_⟩) (fun i hi e hm1 V1 AA1 hW1 k1 z1 r1 s1 => ⟨_, rfl, ?_⟩)
  · rw [(c.pg.sight c.sc hK hq).2.2]; exact surM_hi c.sc.ws (by omega) h2
  · exact m_reads hM c.mz (fun _ hm2 u2 A2 hM2 k2 s2 => ⟨rfl, ⟨_, rfl⟩, f0 g hW c hM2 k2.ki s2⟩) (fun h => absurd (h ▸ h0) (by decide)) (fun h => absurd h0 h) (fun i hi e => absurd h0 (neg i hi e).1)
  · exact m_reads hM c.mz (fun h => absurd (h1 ▸ h) (by decide)) (fun _ hm2 u2 A2 hM2 k2 s2 => ⟨rfl, ⟨_, rfl⟩, f0 g hW c hM2 k2.ki s2⟩) (fun _ h => absurd h1 h) (fun i hi e => absurd h1 (neg i hi e).2.1)
  · exact m_reads hM c.mz (fun h => absurd h h0) (fun h => absurd h h1) (fun _ _ _ hm2 u2 A2 hM2 k2 s2 => ⟨rfl, ⟨_, rfl⟩, f0 g hW c hM2 k2.ki s2⟩) (fun i hi e => absurd (neg i hi e).2.2 h2)
  · obtain ⟨n1, n2, n3⟩ := neg i hi e
    refine m_reads (g.mo hM s1) c.mz (fun h => absurd h n1) (fun h => absurd h n2) (fun _ _ h => absurd n3 h) (fun i' hi' e' hm2 u2 A2 hM2 k2 s2 => ⟨?_, ⟨_, rfl⟩, f8 g hW1 c k1 (fun _ => r1) s1 hM2 k2.ki s2⟩)
    have : i' = i := by rw [e] at e'; exact ((nI_eq (by omega) (by omega)).mp e').symm
    subst this
    rw [(c.pg.sight c.sc r1 hi).2.2]
    have hh : ∀ j, nl ≤ j → j < 32 → bt (surM (A 0) (ftM (A 0) L n nl) nw nr i') j = false := fun j h1 h2 => surM_hi c.sc.ws h1 h2
    generalize surM (A 0) (ftM (A 0) L n nl) nw nr i' = T at hh ⊢
    unfold rdM
    by_cases h0 : T = 0
    · rw [if_pos h0, if_pos h0]
    · rw [if_neg h0, if_neg h0]
      have p1 := pc_one (fun j h1 h2 => hh j (by omega) h2) h0
      by_cases h1 : pcnt T = 1
      · rw [if_pos h1, if_neg (p1.mp h1)]
        obtain ⟨b1, -, b3⟩ := ntz_b (fun i h1 h2 => hh i (by omega) h2) h0
        have hb := fstN_lt (P := fun k => bt T k = true) b3
        have hlt : fstN (fun k => bt T k = true) 12 < nl := by
          rcases Nat.lt_or_ge (fstN (fun k => bt T k = true) 12) nl with z | z
          · exact z
          · rw [hh _ z (by omega)] at hb; cases hb
        rw [b1, nI_clamp (by omega), (c.sc.2.2.2.1 _ hlt).1]
      · rw [if_neg h1, if_pos (Classical.not_not.mp (fun z => h1 (p1.mpr z)))]
theorem st_letter {k wh : Int32} (hI : INV B t m hm hs) : PR X EV (d + 19) 130 244 [.ref t, .int k, .int wh] [.ref m, .int k, .int wh] hm hs (KI32 B t m) := by
  obtain ⟨g, pa, pb, qa, qb, V, AA, R, u, A, RM, n, w, h, L, nl, np, nw, nr, hW, hM, c⟩ := hI
  have hp8 := c.sc.ws.2.1.2
  have hl10 := c.sc.ws.1.2
  unfold PR
  refine c_letter hW c.sz c.c8 (fun h0 => ⟨_, rfl, ?_⟩) (fun i hi e hw3 => ⟨_, rfl, ?_⟩) (fun i hi e hw3 hm1 V1 AA1 hW1 k1 z1 r1 s1 => ⟨_, rfl, ?_⟩)
  · exact m_letter hM c.mz (fun _ hm2 u2 A2 hM2 k2 s2 => ⟨rfl, ⟨_, rfl⟩, f0 g hW c hM2 k2.ki s2⟩) (fun i hi e _ _ => absurd (nix (by omega) hi e) h0) (fun i hi e => absurd (nix (by omega) hi e) h0)
  · refine m_letter hM c.mz (fun h0 hm2 u2 A2 hM2 k2 s2 => ⟨?_, ⟨_, rfl⟩, f0 g hW c hM2 k2.ki s2⟩) (fun i' hi' e' _ hwr hm2 u2 A2 hM2 k2 s2 => ⟨?_, ⟨_, rfl⟩, f0 g hW c hM2 k2.ki s2⟩) (fun i hi e h => absurd h hw3)
    · have hno : ¬ (0 ≤ wh ∧ wh ≤ 3) := fun z => h0 ⟨nix (by omega) hi e, z⟩
      rw [if_neg (fun z => hno (by rw [z]; decide)), if_neg (fun z => hno (by rw [z]; decide)), if_neg (fun z => hno (by rw [z]; decide))]
    · have : i' = i := by rw [e] at e'; exact ((nI_eq (by omega) (by omega)).mp e').symm
      subst this
      obtain ⟨x, hx, rfl⟩ := ixle (n := 3) (by omega) hwr.1 hwr.2
      obtain ⟨c4, c5, c6⟩ := c.sc.2.2.2.1 i' hi
      rcases (show x = 0 ∨ x = 1 ∨ x = 2 ∨ x = 3 by omega) with e | e | e | e <;> subst e
      · rw [if_pos (show nI 0 = 0 from rfl), if_pos (show nI 0 = 0 from rfl), c4]
        have : sV (A 0) 4 i' - 97 + 1 = A 0 (55 + 2 * i') := by show A 0 (55 + 2 * i') + 96 - 97 + 1 = _; grind
        rw [this]
      · rw [if_neg (by decide), if_pos (show nI 1 = 1 from rfl), if_neg (by decide), if_pos (show nI 1 = 1 from rfl), c5]; rfl
      · rw [if_neg (by decide), if_neg (by decide), if_pos (show nI 2 = 2 from rfl), if_neg (by decide), if_neg (by decide), c6]; rfl
      · exact absurd rfl hw3
  · refine m_letter (g.mo hM s1) c.mz (fun h0 => absurd ⟨nix (by omega) hi e, by rw [hw3]; decide⟩ h0) (fun i hi e h => absurd hw3 h) (fun i' hi' e' _ hm2 u2 A2 hM2 k2 s2 F hF => ⟨?_, ⟨_, rfl⟩, f8 g hW1 c k1 (fun _ => r1) s1 hM2 k2.ki s2⟩)
    have : i' = i := by rw [e] at e'; exact ((nI_eq (by omega) (by omega)).mp e').symm
    rw [this, pfv_ext np (fun q hq => (hF q hq).trans (c.pg.sight c.sc r1 hq).2.1.symm)]
theorem st_loose {k : Int32} (hI : INV B t m hm hs) : PR X EV (d + 19) 136 248 [.ref t, .int k] [.ref m, .int k] hm hs (KI32 B t m) := by
  obtain ⟨g, pa, pb, qa, qb, V, AA, R, u, A, RM, n, w, h, L, nl, np, nw, nr, hW, hM, c⟩ := hI
  have hn := c.pg.n12
  unfold PR
  refine c_loose hW c.sz c.c8 (fun h0 => ⟨_, rfl, ?_⟩) (fun i hi e hm1 V1 AA1 hW1 k1 z1 r1 s1 => ⟨_, rfl, ?_⟩)
  · exact m_loose hM c.mz (fun _ hm2 u2 A2 hM2 k2 s2 => ⟨rfl, ⟨_, rfl⟩, f0 g hW c hM2 k2.ki s2⟩) (fun h => absurd h h0)
  · refine m_loose (g.mo hM s1) c.mz (fun h0 => absurd (nix (by omega) hi e) h0) (fun _ hm2 u2 A2 hM2 k2 s2 => ⟨?_, ⟨_, rfl⟩, f8 g hW1 c k1 (fun _ => r1) s1 hM2 k2.ki s2⟩)
    rw [e, lsv_sum np (fun q hq => (c.pg.sight c.sc r1 hq).1.2.2) (fun q hq => (c.pg.look c.sc hq (.inr ⟨i, hi, rfl, rfl⟩)).2.2)]
theorem st_scrape (hI : INV B t m hm hs) : PR X EV (d + 19) 138 249 [.ref t] [.ref m] hm hs (KI32 B t m) := by
  obtain ⟨g, pa, pb, qa, qb, V, AA, R, u, A, RM, n, w, h, L, nl, np, nw, nr, hW, hM, c⟩ := hI
  unfold PR
  refine c_scrape hW c.sz c.c8 (fun hm1 V1 AA1 F hW1 k1 r1 s1 hF => ⟨_, rfl, ?_⟩)
  refine m_scrape (g.mo hM s1) c.mz (fun hm2 u2 A2 hM2 k2 s2 => ⟨?_, ⟨_, rfl⟩, f8 g hW1 c k1 r1 s1 hM2 k2.ki s2⟩)
  rw [scv_ext (F := F) n (fun i hi => ?_)]
  obtain ⟨K, hK, e⟩ := hF i hi
  rw [e, lsv_sum np (fun q hq => (c.pg.sight c.sc hK hq).1.2.2) (fun q hq => (c.pg.look c.sc hq (.inr ⟨i, hi, rfl, rfl⟩)).2.2)]
theorem st_clearer {q k : Int32} (hI : INV B t m hm hs) : PR X EV (d + 19) 139 250 [.ref t, .int q, .int k] [.ref m, .int q, .int k] hm hs (KI32 B t m) := by
  obtain ⟨g, pa, pb, qa, qb, V, AA, R, u, A, RM, n, w, h, L, nl, np, nw, nr, hW, hM, c⟩ := hI
  have hp8 := c.sc.ws.2.1.2
  have hn := c.pg.n12
  unfold PR
  refine c_clearer hW c.sz (fun h0 => ⟨_, rfl, ?_⟩) (fun i j hi hj e ek => ⟨_, rfl, ?_⟩)
  · exact m_clearer hM c.mz (fun _ hm2 u2 A2 hM2 k2 s2 => ⟨rfl, ⟨_, rfl⟩, f0 g hW c hM2 k2.ki s2⟩) (fun i hi e hk => absurd ⟨nix (by omega) hi e, hk⟩ h0)
  · refine m_clearer hM c.mz (fun h0 => absurd ⟨nix (by omega) hi e, nix (by omega) hj ek⟩ h0) (fun i' hi' e' _ hm2 u2 A2 hM2 k2 s2 => ⟨?_, ⟨_, rfl⟩, f0 g hW c hM2 k2.ki s2⟩)
    have : i' = i := by rw [e] at e'; exact ((nI_eq (by omega) (by omega)).mp e').symm
    subst this
    obtain ⟨l1, l2, -⟩ := c.pg.look c.sc hi (.inr ⟨j, hj, rfl, rfl⟩)
    rw [ek, fit_eq l1 l2 (fun k hk => (c.sc.2.2.2.1 k hk).2.1)]
theorem st_top {x y : Int32} (hI : INV B t m hm hs) : PR X EV (d + 19) 120 219 [.ref t, .int x, .int y] [.ref m, .int x, .int y] hm hs (KI32 B t m) := by
  obtain ⟨g, pa, pb, qa, qb, V, AA, R, u, A, RM, n, w, h, L, nl, np, nw, nr, hW, hM, c⟩ := hI
  have hn := c.pg.n12
  have hw := c.pg.w24
  have hh := c.pg.h12
  unfold PR
  refine c_top hW c.sz ⟨_, rfl, ?_⟩
  rw [c.pg.u0, c.pg.u1]
  refine m_top hM c.pg.s2 hn c.pg.1.2.1 hw c.pg.2.1.2.1 hh c.pg.sk.ln (fun h0 hm2 hM2 s2 => ⟨by rw [if_neg h0], ⟨_, rfl⟩, f0 g hW c hM2 ⟨⟨rfl, rfl, rfl, rfl, rfl⟩, rfl, rfl, rfl, fun _ _ => rfl, rfl, rfl, rfl⟩ s2⟩) (fun h1 hm2 u2 f hM2 k2 s2 => ⟨?_, ⟨_, rfl⟩, f0 g hW c hM2 ⟨⟨k2 3 (by decide) (by decide) (by decide), k2 6 (by decide) (by decide) (by decide), k2 9 (by decide) (by decide) (by decide), k2 10 (by decide) (by decide) (by decide), k2 18 (by decide) (by decide) (by decide)⟩, rfl, rfl, rfl, fun _ _ => rfl, rfl, rfl, rfl⟩ s2⟩)
  rw [if_pos h1]
  obtain ⟨a, ha, rfl⟩ := ix (by omega) h1.1
  obtain ⟨b, hb, rfl⟩ := ix (by omega) h1.2
  have hT : sAt (V 0) (AA 0) (nI a) (nI b) = thr (A 0) L (nI a) (nI b) (-1) n := by
    unfold sAt
    rw [c.pg.u0, c.pg.u1, if_pos h1, show (24 : Int32) = nI 24 from rfl, pk_mul, nI_add, nI_clamp (by omega)]
    exact at_thr hn hw hh c.pg.sk c.pg.ce ha hb
  rw [hT, e_top c.pg.g c.pg.bl]
  have : fst1 (fun k => bt (thr (A 0) L (nI a) (nI b) (-1) n) k = true ∧ thr (A 0) L (nI a) (nI b) (-1) n &&& (clo (A 0) (A 13) n k ^^^ (-1)) = sb k) n = fst1 (fun k => bt (thr (A 0) L (nI a) (nI b) (-1) n) k = true ∧ thr (A 0) L (nI a) (nI b) (-1) n &&& (cl (A 0) n k ^^^ (-1)) = sb k) n := fst1_ext (fun k hk => by rw [clo_cl hk])
  rw [this]
theorem st_seen {x y : Int32} (hI : INV B t m hm hs) : PR X EV (d + 19) 121 220 [.ref t, .int x, .int y] [.ref m, .int x, .int y] hm hs (KI32 B t m) := by
  obtain ⟨g, pa, pb, qa, qb, V, AA, R, u, A, RM, n, w, h, L, nl, np, nw, nr, hW, hM, c⟩ := hI
  have hn := c.pg.n12
  have hw := c.pg.w24
  have hh := c.pg.h12
  unfold PR
  refine c_seen hW c.sz ⟨_, rfl, ?_⟩
  rw [c.pg.u0, c.pg.u1]
  refine m_seen hM c.pg.s2 hn c.pg.1.2.1 hw c.pg.2.1.2.1 hh c.pg.sk.ln (fun hm2 u2 A2 hM2 k2 s2 => ⟨?_, ⟨_, rfl⟩, f0 g hW c hM2 k2.ki s2⟩)
  by_cases h1 : (0 ≤ x ∧ x < nI w) ∧ (0 ≤ y ∧ y < nI h)
  · rw [if_pos h1, if_pos h1]
    obtain ⟨a, ha, rfl⟩ := ix (by omega) h1.1
    obtain ⟨b, hb, rfl⟩ := ix (by omega) h1.2
    have hT : sAt (V 0) (AA 0) (nI a) (nI b) = thr (A 0) L (nI a) (nI b) (-1) n := by
      unfold sAt
      rw [c.pg.u0, c.pg.u1, if_pos h1, show (24 : Int32) = nI 24 from rfl, pk_mul, nI_add, nI_clamp (by omega)]
      exact at_thr hn hw hh c.pg.sk c.pg.ce ha hb
    rw [e_seen c.pg.g c.pg.bl c.pg.hm hT]
  · rw [if_neg h1, if_neg h1]
theorem st_judge {r : Int32} (hI : INV B t m hm hs) : PR X EV (d + 19) 150 257 [.ref t, .int r] [.ref m, .int r] hm hs (KI32 B t m) := by
  obtain ⟨g, pa, pb, qa, qb, V, AA, R, u, A, RM, n, w, h, L, nl, np, nw, nr, hW, hM, c⟩ := hI
  have hp8 := c.sc.ws.2.1.2
  have hl10 := c.sc.ws.1.2
  have hrw : IRW V AA A := c.2.2.2.2.2.2.1
  have hz : ∀ i, i < 4 → A 24 i = -1 ∨ ∃ z, z ≤ 12 ∧ A 24 i = nI z := fun i hi => by
    obtain ⟨z, h1, h2, h3⟩ := hrw i hi
    exact h3.elim (fun a => .inl a.2) (fun a => .inr ⟨z, h1, a.2.1⟩)
  have four : ∀ {i : Nat}, i < 4 → r = nI i → 0 ≤ r ∧ r < 4 := fun hi e => nix (n := 4) (by omega) hi e
  unfold PR
  refine c_judge hW c.sz c.c8 (fun i hi => by obtain ⟨z, h1, h2, h3⟩ := hrw i hi; exact ⟨z, h1, h2⟩) (fun h0 => ⟨_, rfl, ?_⟩) (fun i hi e hv => ⟨_, rfl, ?_⟩) (fun i z hi e hv ez hz12 hm1 V1 AA1 hW1 k1 z1 r1 s1 x hx hx1 hx2 => ⟨_, rfl, ?_⟩)
  · exact m_judge hM c.mz hz (fun _ hm2 u2 A2 hM2 k2 s2 => ⟨rfl, ⟨_, rfl⟩, f0 g hW c hM2 k2.ki s2⟩) (fun i hi e => absurd (four hi e) h0) (fun i z hi _ e => absurd (four hi e) h0)
  · refine m_judge hM c.mz hz (fun h0 => absurd (four hi e) h0) (fun i' hi' e' _ hm2 u2 A2 hM2 k2 s2 => ⟨rfl, ⟨_, rfl⟩, f0 g hW c hM2 k2.ki s2⟩) (fun i' z hi' hz e' h24 => ?_)
    have : i' = i := by rw [e] at e'; exact ((nI_eq (by omega) (by omega)).mp e').symm
    subst this
    obtain ⟨z', h1, h2, h3⟩ := hrw i' hi
    rcases h3 with ⟨-, h3⟩ | ⟨h3, -⟩
    · rw [h3] at h24; exact absurd h24.symm (nI_nm1 (by omega))
    · exact absurd hv h3
  · obtain ⟨z', h1, h2, h3⟩ := hrw i hi
    have ez' : z' = z := by rw [h2, nI_eq (by omega) (by omega)] at ez; exact ez
    subst ez'
    rcases h3 with ⟨h3, -⟩ | ⟨-, h24, -, hrow⟩
    · exact absurd h3 hv
    refine m_judge (g.mo hM s1) c.mz hz (fun h0 => absurd (four hi e) h0) (fun i' hi' e' h => ?_) (fun i' z2 hi' hz2 e' h24' hm2 u2 A2 hM2 k2 s2 y hy hy1 hy2 => ⟨?_, ⟨_, rfl⟩, f8 g hW1 c k1 (fun _ => r1) s1 hM2 k2.ki s2⟩)
    · have : i' = i := by rw [e] at e'; exact ((nI_eq (by omega) (by omega)).mp e').symm
      subst this
      rw [h24] at h; exact absurd h (nI_nm1 (by omega))
    · have : i' = i := by rw [e] at e'; exact ((nI_eq (by omega) (by omega)).mp e').symm
      subst this
      have : z2 = z' := by rw [h24, nI_eq (by omega) (by omega)] at h24'; exact h24'.symm
      subst this
      have same : ∀ q, q < min z2 np → (((0 ≤ AA (9 + i') 3 q ∧ AA (9 + i') 3 q < nI nl) ∧ bt (AA1 8 3 q) (AA (9 + i') 3 q).toNatClampNeg = true) ↔ ((0 ≤ A 26 (12 * i' + q) ∧ A 26 (12 * i' + q) < nI nl) ∧ bt (surM (A 0) (ftM (A 0) L n nl) nw nr q) (A 26 (12 * i' + q)).toNatClampNeg = true)) := fun q hq => by
        rw [hrow q (by omega), (c.pg.sight c.sc r1 (show q < np by omega)).2.2]
      rcases Nat.lt_trichotomy y x with h' | h' | h'
      · exact absurd ((same y (by omega)).mp (hx1 y h')) (hy2 (by omega))
      · rw [h']
      · exact absurd ((same x (by omega)).mpr (hy1 x h')) (hx2 (by omega))
end S2
