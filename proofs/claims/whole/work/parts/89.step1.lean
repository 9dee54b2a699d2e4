/-! ===== call by call: what shows ===== -/
theorem nix {q : Int32} {n i : Nat} (hn : n ≤ 1000) (hi : i < n) (e : q = nI i) : 0 ≤ q ∧ q < nI n := by rw [e]; exact ix2 (by omega) hi
theorem wcn_lt {P : Nat → Prop} [DecidablePred P] {x : Nat} (hp : P x) : ∀ y, x < y → wcn P x < wcn P y := by
  intro y
  induction y with
  | zero => intro h; omega
  | succ y ih =>
    intro h
    have e : wcn P (y + 1) = if P y then wcn P y + 1 else wcn P y := rfl
    rw [e]
    by_cases e : x = y
    · subst e; rw [if_pos hp]; omega
    · have := ih (by omega); split <;> omega
section S1
variable {X : HM} {EV : Nat → Value} {d : Nat} {B t m : Nat} {hm hm1 hm2 : HM} {hs : Nat} {V V' : Nat → Nat → Int32} {AA AA' : Nat → Nat → Nat → Int32} {R R' : Nat → Int64} {u u' : Nat → Int32} {A A' : Nat → Nat → Int32} {RM RM' : Nat → Int64} {n w h nl np nw nr : Nat} {L : Nat → Nat} {pa pb qa qb : Nat}
theorem f0 (g : GEO B t m hm hs) (hW : TW hm t pa pb qa qb V AA R) (c : CPL V AA R u A n w h L nl np nw nr) (hM2 : MO hm2 m u' A' RM') (k : KI u u' A A') (s2 : sm m (m + 16) hm hm2) : INV B t m hm2 hs :=
  ⟨g.s2 s2, pa, pb, qa, qb, V, AA, R, u', A', RM', n, w, h, L, nl, np, nw, nr, g.tw hW s2, hM2, c.ki k⟩
theorem f8 (g : GEO B t m hm hs) (hW : TW hm1 t pa pb qa qb V' AA' R) (c : CPL V AA R u A n w h L nl np nw nr) (k1 : KX 8 V V' AA AA') (h1 : V' 8 0 = 0 → siR (V 0) (AA 0) (AA 2) n nl np nw nr (AA' 8)) (s1 : sm t (t + 70) hm hm1) (hM2 : MO hm2 m u' A' RM') (k : KI u u' A A') (s2 : sm m (m + 16) hm1 hm2) : INV B t m hm2 hs :=
  ⟨(g.s1 s1).s2 s2, pa, pb, qa, qb, V', AA', R, u', A', RM', n, w, h, L, nl, np, nw, nr, (g.s1 s1).tw hW s2, hM2, (c.k8 k1 h1).ki k⟩
theorem f7 (g : GEO B t m hm hs) (hW : TW hm1 t pa pb qa qb V' AA' R') (c : CPL V AA R u A n w h L nl np nw nr) (k1 : KX 7 V V' AA AA') (h1 : V' 7 0 = 0 → tb1 (AA 0 12) n (AA' 7 3) (V' 7 2)) (h2 : V' 7 1 = 0 → tb2 (AA 0 12) n (AA' 7 5) R') (s1 : sm t (t + 70) hm hm1) (hM2 : MO hm2 m u' A' RM') (k : KI u u' A A') (s2 : sm m (m + 16) hm1 hm2) : INV B t m hm2 hs :=
  ⟨(g.s1 s1).s2 s2, pa, pb, qa, qb, V', AA', R', u', A', RM', n, w, h, L, nl, np, nw, nr, (g.s1 s1).tw hW s2, hM2, (c.k7 k1 h1 h2).ki k⟩
abbrev KI32 (B t m : Nat) : Value → HM → Nat → Prop := fun a hm' hs' => (∃ x, a = .int x) ∧ INV B t m hm' hs'
abbrev KI64 (B t m : Nat) : Value → HM → Nat → Prop := fun a hm' hs' => (∃ x, a = .long x) ∧ INV B t m hm' hs'
theorem st_fits {q : Int32} (hI : INV B t m hm hs) : PR X EV (d + 19) 123 225 [.ref t, .int q] [.ref m, .int q] hm hs (KI32 B t m) := by
  obtain ⟨g, pa, pb, qa, qb, V, AA, R, u, A, RM, n, w, h, L, nl, np, nw, nr, hW, hM, c⟩ := hI
  have hp8 := c.sc.ws.2.1.2
  unfold PR
  refine c_fits hW c.sz c.c8 (fun h0 => ⟨_, rfl, ?_⟩) (fun i hi e hm1 V1 AA1 hW1 k1 z1 r1 s1 => ⟨_, rfl, ?_⟩)
  · exact m_fits hM c.pg.s2 c.pg.n12 c.pg.sk.ln c.sc.ws.2.1.1 hp8 c.sc.ws.1.1 c.sc.ws.1.2 (fun _ hm2 u2 A2 hM2 k2 s2 => ⟨rfl, ⟨_, rfl⟩, f0 g hW c hM2 k2.ki s2⟩) (fun i hi e => absurd (nix (by omega) hi e) h0)
  · refine m_fits (g.mo hM s1) c.pg.s2 c.pg.n12 c.pg.sk.ln c.sc.ws.2.1.1 hp8 c.sc.ws.1.1 c.sc.ws.1.2 (fun h0 => absurd (nix (by omega) hi e) h0) (fun i' hi' e' hm2 u2 A2 hM2 k2 s2 => ⟨?_, ⟨_, rfl⟩, f8 g hW1 c k1 (fun _ => r1) s1 hM2 k2.ki s2⟩)
    have : i' = i := by rw [e] at e'; exact ((nI_eq (by omega) (by omega)).mp e').symm
    rw [this, (c.pg.sight c.sc r1 hi).2.1]; rfl
theorem st_shows {q wh : Int32} (hI : INV B t m hm hs) : PR X EV (d + 19) 122 223 [.ref t, .int q, .int wh] [.ref m, .int q, .int wh] hm hs (KI32 B t m) := by
  obtain ⟨g, pa, pb, qa, qb, V, AA, R, u, A, RM, n, w, h, L, nl, np, nw, nr, hW, hM, c⟩ := hI
  have hp8 := c.sc.ws.2.1.2
  unfold PR
  refine c_shows hW c.sz c.c8 (fun h0 => ⟨_, rfl, ?_⟩) (fun i hi e w0 w2 hm1 V1 AA1 hW1 k1 z1 r1 s1 => ⟨_, rfl, ?_⟩)
  · exact m_shows hM c.pg.s2 c.pg.n12 c.pg.sk.ln c.sc.ws.2.1.1 hp8 (fun _ hm2 u2 A2 hM2 k2 s2 => ⟨rfl, ⟨_, rfl⟩, f0 g hW c hM2 k2.ki s2⟩) (fun i hi e w0 w2 => absurd ⟨nix (by omega) hi e, w0, w2⟩ h0)
  · refine m_shows (g.mo hM s1) c.pg.s2 c.pg.n12 c.pg.sk.ln c.sc.ws.2.1.1 hp8 (fun h0 => absurd ⟨nix (by omega) hi e, w0, w2⟩ h0) (fun i' hi' e' _ _ hm2 u2 A2 hM2 k2 s2 => ⟨?_, ⟨_, rfl⟩, f8 g hW1 c k1 (fun _ => r1) s1 hM2 k2.ki s2⟩)
    have ei : i' = i := by rw [e] at e'; exact ((nI_eq (by omega) (by omega)).mp e').symm
    obtain ⟨⟨h1, h2, h3⟩, -⟩ := c.pg.sight c.sc r1 hi
    obtain ⟨x, hx, rfl⟩ := ixle (n := 2) (by omega) w0 w2
    rw [ei]
    rcases (show x = 0 ∨ x = 1 ∨ x = 2 by omega) with e | e | e <;> subst e
    · rw [if_pos (show nI 0 = 0 from rfl), h1]; rfl
    · rw [if_neg (by decide), if_pos (show nI 1 = 1 from rfl), h2]; rfl
    · rw [if_neg (by decide), if_neg (by decide), h3]; rfl
theorem st_sure {q : Int32} (hI : INV B t m hm hs) : PR X EV (d + 19) 124 230 [.ref t, .int q] [.ref m, .int q] hm hs (KI32 B t m) := by
  obtain ⟨g, pa, pb, qa, qb, V, AA, R, u, A, RM, n, w, h, L, nl, np, nw, nr, hW, hM, c⟩ := hI
  have hp8 := c.sc.ws.2.1.2
  unfold PR
  refine c_sure hW c.sz c.c8 (fun h0 => ⟨_, rfl, ?_⟩) (fun i hi e hm1 V1 AA1 hW1 k1 z1 r1 s1 => ⟨_, rfl, ?_⟩)
  · exact m_sure hM c.mz (fun _ hm2 u2 A2 hM2 k2 s2 => ⟨rfl, ⟨_, rfl⟩, f0 g hW c hM2 k2.ki s2⟩) (fun i hi e => absurd (nix (by omega) hi e) h0)
  · refine m_sure (g.mo hM s1) c.mz (fun h0 => absurd (nix (by omega) hi e) h0) (fun i' hi' e' hm2 u2 A2 hM2 k2 s2 => ⟨?_, ⟨_, rfl⟩, f8 g hW1 c k1 (fun _ => r1) s1 hM2 k2.ki s2⟩)
    have : i' = i := by rw [e] at e'; exact ((nI_eq (by omega) (by omega)).mp e').symm
    rw [this, (c.pg.sight c.sc r1 hi).2.2]
theorem heav_ext {W W' : Nat → Int32} {T : Int32} : ∀ k, k < 2 ^ 31 → (∀ i, i < k → W i = W' i) → heav W T k = heav W' T k := by
  intro k
  induction k with
  | zero => intro _ _; rfl
  | succ k ih =>
    intro hk h
    have ih := ih (by omega) (fun i hi => h i (by omega))
    unfold heav
    rw [ih, h k (by omega)]
    rcases heav_lt W' T k (by omega) with e | ⟨j, hj, e⟩
    · rw [e]; simp
    · rw [e, nI_clamp (by omega), h j (by omega)]
theorem st_guess {q : Int32} (hI : INV B t m hm hs) : PR X EV (d + 19) 126 234 [.ref t, .int q] [.ref m, .int q] hm hs (KI32 B t m) := by
  obtain ⟨g, pa, pb, qa, qb, V, AA, R, u, A, RM, n, w, h, L, nl, np, nw, nr, hW, hM, c⟩ := hI
  have hp8 := c.sc.ws.2.1.2
  have hl10 := c.sc.ws.1.2
  unfold PR
  refine c_guess hW c.sz c.c8 (fun h0 => ⟨_, rfl, ?_⟩) (fun i hi e hm1 V1 AA1 hW1 k1 z1 r1 s1 => ⟨_, rfl, ?_⟩)
  · exact m_guess hM c.mz (fun _ hm2 u2 A2 hM2 k2 s2 => ⟨rfl, ⟨_, rfl⟩, f0 g hW c hM2 k2.ki s2⟩) (fun i hi e => absurd (nix (by omega) hi e) h0)
  · refine m_guess (g.mo hM s1) c.mz (fun h0 => absurd (nix (by omega) hi e) h0) (fun i' hi' e' hm2 u2 A2 hM2 k2 s2 => ⟨?_, ⟨_, rfl⟩, f8 g hW1 c k1 (fun _ => r1) s1 hM2 k2.ki s2⟩)
    have : i' = i := by rw [e] at e'; exact ((nI_eq (by omega) (by omega)).mp e').symm
    rw [this, (c.pg.sight c.sc r1 hi).2.2, heav_ext nl (by omega) (fun k hk => (c.sc.2.2.2.1 k hk).2.2)]
theorem wtc (c : CPL V AA R u A n w h L nl np nw nr) : WT (AA 2 6) nl := ⟨c.sc.ws.1.2, fun k hk => by
  obtain ⟨v, a, b, e⟩ := c.sc.ws.wt.2 k hk
  exact ⟨v, a, b, (c.sc.2.2.2.1 k hk).2.2.trans e⟩⟩
theorem st_odds {q k : Int32} (hI : INV B t m hm hs) : PR X EV (d + 19) 125 233 [.ref t, .int q, .int k] [.ref m, .int q, .int k] hm hs (KI32 B t m) := by
  obtain ⟨g, pa, pb, qa, qb, V, AA, R, u, A, RM, n, w, h, L, nl, np, nw, nr, hW, hM, c⟩ := hI
  have hp8 := c.sc.ws.2.1.2
  have hl10 := c.sc.ws.1.2
  unfold PR
  refine c_odds hW c.sz c.c8 (wtc c) (fun h0 => ⟨_, rfl, ?_⟩) (fun i j hi hj e ek hm1 V1 AA1 hW1 k1 z1 r1 s1 => ⟨_, rfl, ?_⟩)
  · exact m_odds hM c.mz (fun _ hm2 u2 A2 hM2 k2 s2 => ⟨rfl, ⟨_, rfl⟩, f0 g hW c hM2 k2.ki s2⟩) (fun i j hi hj e ek => absurd ⟨nix (by omega) hi e, nix (by omega) hj ek⟩ h0)
  · refine m_odds (g.mo hM s1) c.mz (fun h0 => absurd ⟨nix (by omega) hi e, nix (by omega) hj ek⟩ h0) (fun i' j' hi' hj' e' ek' hm2 u2 A2 hM2 k2 s2 => ⟨?_, ⟨_, rfl⟩, f8 g hW1 c k1 (fun _ => r1) s1 hM2 k2.ki s2⟩)
    have e1 : i' = i := by rw [e] at e'; exact ((nI_eq (by omega) (by omega)).mp e').symm
    have e2 : j' = j := by rw [ek] at ek'; exact ((nI_eq (by omega) (by omega)).mp ek').symm
    rw [e1, e2, (c.pg.sight c.sc r1 hi).2.2, oddB_ext (fun k hk => (c.sc.2.2.2.1 k hk).2.2) hj]
/-- a word fits a run, here as there -/
theorem wfc (c : CPL V AA R u A n w h L nl np nw nr) {K : Nat → Nat → Int32} (hK : siR (V 0) (AA 0) (AA 2) n nl np nw nr K) {F : Nat → Int32} (hF : ∀ q, q < np → F q = ftM (A 0) L n nl q) {r f l x : Nat} (hr : r < nr) (hx : x < nw) (ef : A 0 (175 + 2 * r) = nI f) (el : A 0 (175 + 2 * r + 1) = nI l) (hfl : f + l ≤ np) (hl6 : l ≤ 6) : wfP (AA 2) (K 2) r f l x ↔ wfP (sV (A 0)) F r f l x := by
  have c13 := (c.sc.2.2.2.2.2.2.1 r hr).2
  refine wfP_ext (c.sc.2.2.2.2.2.1 x hx).1 c13 (fun e i hi => ?_) (fun i hi => ?_)
  · have ex2 : A 0 (91 + 7 * x) = nI l := ((c.sc.2.2.2.2.2.1 x hx).1.symm.trans e).trans (c13.trans el)
    exact (c.sc.2.2.2.2.2.1 x hx).2 l ex2 hl6 i hi
  · rw [(c.pg.sight c.sc hK (show f + i < np by omega)).2.1, hF _ (by omega)]
theorem st_words {r k : Int32} (hI : INV B t m hm hs) : PR X EV (d + 19) 127 236 [.ref t, .int r, .int k] [.ref m, .int r, .int k] hm hs (KI32 B t m) := by
  obtain ⟨g, pa, pb, qa, qb, V, AA, R, u, A, RM, n, w, h, L, nl, np, nw, nr, hW, hM, c⟩ := hI
  have hp8 := c.sc.ws.2.1.2
  have hr4 := c.sc.ws.2.2.2.1.2
  have hw12 := c.sc.ws.2.2.1.2
  unfold PR
  refine c_words hW c.sz c.c8 (fun h0 => ⟨_, rfl, ?_⟩) (fun h0 h1 => ⟨_, rfl, ?_⟩) (fun i f l hi e hk ef el h8 hl6 hm1 V1 AA1 hW1 k1 z1 r1 s1 => ?_)
  · exact m_words hM c.mz (fun _ hm2 u2 A2 hM2 k2 s2 => ⟨rfl, ⟨_, rfl⟩, f0 g hW c hM2 k2.ki s2⟩) (fun h => absurd h h0) (fun i f l hi e => absurd (nix (by omega) hi e) h0)
  · exact m_words hM c.mz (fun h => absurd h0 h) (fun _ _ hm2 u2 A2 hM2 k2 s2 => ⟨rfl, ⟨_, rfl⟩, f0 g hW c hM2 k2.ki s2⟩) (fun i f l hi e hk => absurd h1 hk)
  · have ef' : A 0 (175 + 2 * i) = nI f := (c.sc.2.2.2.2.2.2.1 i hi).1.symm.trans ef
    have el' : A 0 (175 + 2 * i + 1) = nI l := (c.sc.2.2.2.2.2.2.1 i hi).2.symm.trans el
    have same : ∀ i' f' l', i' < nr → r = nI i' → A 0 (175 + 2 * i') = nI f' → A 0 (175 + 2 * i' + 1) = nI l' → f' + l' ≤ np → l' ≤ 6 → i' = i ∧ f' = f ∧ l' = l := by
      intro i' f' l' a1 a2 a3 a4 a5 a6
      have e1 : i' = i := by rw [e] at a2; exact ((nI_eq (by omega) (by omega)).mp a2).symm
      subst e1
      rw [ef', nI_eq (by omega) (by omega)] at a3
      rw [el', nI_eq (by omega) (by omega)] at a4
      exact ⟨rfl, a3.symm, a4.symm⟩
    have iff1 : ∀ F : Nat → Int32, (∀ q, q < np → F q = ftM (A 0) L n nl q) → f + l ≤ np → ∀ x, x < nw → (wfP (AA 2) (AA1 8 2) i f l x ↔ wfP (sV (A 0)) F i f l x) := fun F hF hfl x hx => wfc c r1 hF hi hx ef' el' hfl hl6
    refine ⟨fun j hj hf hcn => ⟨_, rfl, ?_⟩, fun hno => ⟨_, rfl, ?_⟩⟩
    · refine m_words (g.mo hM s1) c.mz (fun h0 => absurd (nix (by omega) hi e) h0) (fun _ h => absurd h hk) (fun i' f' l' a1 a2 _ a3 a4 a5 a6 hm2 u2 A2 hM2 k2 s2 F hF => ?_)
      obtain ⟨b1, b2, b3⟩ := same i' f' l' a1 a2 a3 a4 a5 a6
      subst b1; subst b2; subst b3
      have iff2 := iff1 F hF a5
      have ec : ∀ x, x ≤ nw → wcn (wfP (sV (A 0)) F i' f' l') x = wcn (wfP (AA 2) (AA1 8 2) i' f' l') x := fun x hx => wcn_ext (fun y hy => (iff2 y (by omega)).symm)
      refine ⟨fun j' hj' hf' hcn' => ⟨?_, ⟨_, rfl⟩, f8 g hW1 c k1 (fun _ => r1) s1 hM2 k2.ki s2⟩, fun hno => absurd (by rw [ec j (by omega)]; exact hcn) (hno j hj ((iff2 j hj).mp hf))⟩
      rw [ec j' (by omega), ← hcn, nI_eq (by have := wcn_le (wfP (AA 2) (AA1 8 2) i' f' l') j'; omega) (by have := wcn_le (wfP (AA 2) (AA1 8 2) i' f' l') j; omega)] at hcn'
      rcases Nat.lt_trichotomy j' j with h' | h' | h'
      · have := wcn_lt ((iff2 j' hj').mpr hf') _ h'; omega
      · rw [h']
      · have := wcn_lt hf _ h'; omega
    · refine m_words (g.mo hM s1) c.mz (fun h0 => absurd (nix (by omega) hi e) h0) (fun _ h => absurd h hk) (fun i' f' l' a1 a2 _ a3 a4 a5 a6 hm2 u2 A2 hM2 k2 s2 F hF => ?_)
      obtain ⟨b1, b2, b3⟩ := same i' f' l' a1 a2 a3 a4 a5 a6
      subst b1; subst b2; subst b3
      have iff2 := iff1 F hF a5
      have ec : ∀ x, x ≤ nw → wcn (wfP (sV (A 0)) F i' f' l') x = wcn (wfP (AA 2) (AA1 8 2) i' f' l') x := fun x hx => wcn_ext (fun y hy => (iff2 y (by omega)).symm)
      refine ⟨fun j' hj' hf' hcn' => absurd (by rw [← ec j' (by omega)]; exact hcn') (hno j' hj' ((iff2 j' hj').mpr hf')), fun _ => ⟨?_, ⟨_, rfl⟩, f8 g hW1 c k1 (fun _ => r1) s1 hM2 k2.ki s2⟩⟩
      rw [ec nw (Nat.le_refl _)]
end S1
