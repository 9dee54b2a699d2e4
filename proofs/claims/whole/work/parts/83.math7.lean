/-! ===== the order, layers ===== -/
section OL
variable {S : Nat → Int32} {n : Nat} {bl : Nat → Int32}
theorem fstN_n {P : Nat → Prop} [DecidablePred P] {n N : Nat} (hN : n ≤ N) (h : ∀ k, n ≤ k → ¬ P k) (hx : fstN P n < n) : fstN P N = fstN P n := by
  refine fstN_some (by omega) (fstN_lt hx) (fun i hi => fstN_min hi)
theorem rdy_fst {D : Int32} (hn : n ≤ 12) (hx : fstN (fun k => bt D k = false ∧ bl k &&& (D ^^^ (-1)) = 0) n < n) :
    ntz (rdy bl D n) = nI (fstN (fun k => bt D k = false ∧ bl k &&& (D ^^^ (-1)) = 0) n) ∧ lobit (rdy bl D n) = sb (fstN (fun k => bt D k = false ∧ bl k &&& (D ^^^ (-1)) = 0) n) := by
  have hb : ∀ i, i < 32 → (bt (rdy bl D n) i = true ↔ i < n ∧ (bt D i = false ∧ bl i &&& (D ^^^ (-1)) = 0)) := fun i hi => by
    unfold rdy; rw [b_acc _ (by omega) hi, decide_eq_true_eq]
  have hp := fstN_lt hx
  have h0 : rdy bl D n ≠ 0 := fun e => by
    have := (hb _ (by omega)).mpr ⟨hx, hp⟩
    rw [e, b_0] at this; cases this
  obtain ⟨z1, z2, z3⟩ := ntz_b (x := rdy bl D n) (fun i h1 h2 => by
    cases h : bt (rdy bl D n) i
    · rfl
    · have := ((hb i h2).mp h).1; omega) h0
  have e : ∀ N, N = 12 → fstN (fun k => bt (rdy bl D n) k = true) N = fstN (fun k => bt D k = false ∧ bl k &&& (D ^^^ (-1)) = 0) n := by
    intro N hN
    refine fstN_some (by omega) ((hb _ (by omega)).mpr ⟨hx, hp⟩) (fun i hi hbi => ?_)
    exact fstN_min hi ((hb i (by omega)).mp hbi).2
  rw [e 12 rfl] at z1 z2
  exact ⟨z1, z2⟩
theorem wcn_sb {D : Int32} {z : Nat} (hz32 : z < 32) (hD : bt D z = false) : ∀ N, N ≤ 32 → wcn (fun k => bt (D ||| sb z) k = true) N = wcn (fun k => bt D k = true) N + (if z < N then 1 else 0) := by
  intro N
  induction N with
  | zero => intro _; rfl
  | succ N ih =>
    intro hN
    have ih := ih (by omega)
    unfold wcn
    rw [ih]
    have hbit : bt (D ||| sb z) N = (bt D N || decide (N = z)) := by rw [b_or, b_sb hz32 (by omega)]
    by_cases e : N = z
    · subst e
      have h1 : bt (D ||| sb N) N = true := by rw [hbit, decide_eq_true rfl, Bool.or_true]
      rw [if_pos h1, if_neg (show ¬ bt D N = true by rw [hD]; decide), if_neg (show ¬ N < N by omega), if_pos (show N < N + 1 by omega)]
    · have h1 : (bt (D ||| sb z) N = true) = (bt D N = true) := by rw [hbit, decide_eq_false e, Bool.or_false]
      by_cases h2 : bt D N = true
      · rw [if_pos (h1 ▸ h2 : bt (D ||| sb z) N = true), if_pos h2]
        by_cases h3 : z < N
        · rw [if_pos h3, if_pos (by omega)]
        · rw [if_neg h3, if_neg (by omega)]
      · rw [if_neg (fun q => h2 (h1 ▸ q)), if_neg h2]
        by_cases h3 : z < N
        · rw [if_pos h3, if_pos (by omega)]
        · rw [if_neg h3, if_neg (by omega)]
theorem wcn_full {P : Nat → Prop} [DecidablePred P] {k : Nat} (h : ∀ i, i < k → P i) : wcn P k = k := by
  induction k with
  | zero => rfl
  | succ k ih => unfold wcn; rw [if_pos (h k (by omega)), ih (fun i hi => h i (by omega))]
theorem ord_ex (hG : GS S n) : ∀ i, i ≤ n → (wcn (fun k => bt (ordm (cl S n) n i) k = true) n = i ∧ (i < n → fstN (fun k => bt (ordm (cl S n) n i) k = false ∧ cl S n k &&& (ordm (cl S n) n i ^^^ (-1)) = 0) n < n)) := by
  have hn := hG.n12
  have step : ∀ D : Int32, (∃ k, k < n ∧ bt D k = false) → fstN (fun k => bt D k = false ∧ cl S n k &&& (D ^^^ (-1)) = 0) n < n := by
    rintro D ⟨k, hk, hb⟩
    obtain ⟨m, hm, hmb, hmx⟩ := max_ex (R := fun a b => b < n ∧ ovr (tT S) n b a) (fun a b c h1 h2 => ⟨h2.1, h2.2.trans h1.2⟩) (fun a h => hG.ac a h.1 h.2) n (fun k => bt D k = false) k hk hb
    refine Nat.lt_of_not_le fun hge => ?_
    refine fstN_min (P := fun k => bt D k = false ∧ cl S n k &&& (D ^^^ (-1)) = 0) (show m < fstN (fun k => bt D k = false ∧ cl S n k &&& (D ^^^ (-1)) = 0) n by omega) ⟨hmb, ?_⟩
    rw [b_sub]
    intro i hi hbi
    have hin : i < n := by
      refine Nat.lt_of_not_le fun hge => ?_
      rw [cl_hi hG.tb hm hge hi] at hbi; cases hbi
    cases h : bt D i
    · exact absurd ⟨hm, (cl_iff hm hin).mp hbi⟩ (hmx i hin h)
    · rfl
  intro i
  induction i with
  | zero =>
    intro _
    constructor
    · show wcn (fun k => bt 0 k = true) n = 0
      refine Classical.byContradiction fun hne => ?_
      obtain ⟨k, -, hk⟩ := wcn_pos.mp hne
      rw [b_0] at hk; cases hk
    · intro h0; exact step _ ⟨0, h0, b_0 0⟩
  | succ i ih =>
    intro hi
    obtain ⟨h1, h2⟩ := ih (by omega)
    have hx := h2 (by omega)
    have hp := fstN_lt hx
    have hw : wcn (fun k => bt (ordm (cl S n) n (i + 1)) k = true) n = i + 1 := by
      show wcn (fun k => bt (ordm (cl S n) n i ||| sb (fstN (fun k => bt (ordm (cl S n) n i) k = false ∧ cl S n k &&& (ordm (cl S n) n i ^^^ (-1)) = 0) n)) k = true) n = i + 1
      rw [wcn_sb (by omega) hp.1 n (by omega), h1, if_pos hx]
    refine ⟨hw, fun hlt => step _ ?_⟩
    refine Classical.byContradiction fun hno => ?_
    have := wcn_full (P := fun k => bt (ordm (cl S n) n (i + 1)) k = true) (k := n) (fun k hk => by
      cases h : bt (ordm (cl S n) n (i + 1)) k
      · exact absurd ⟨k, hk, h⟩ hno
      · rfl)
    omega
theorem rdy_ext {bl' : Nat → Int32} {D : Int32} (hb : ∀ k, k < n → bl k = bl' k) : rdy bl D n = rdy bl' D n := acc_ext (fun k hk => by rw [hb k hk])
theorem ordv_eq (hG : GS S n) (hb : ∀ k, k < n → bl k = cl S n k) : ∀ i, i ≤ n → ordv bl n i = ordm (cl S n) n i := by
  intro i
  induction i with
  | zero => intro _; rfl
  | succ i ih =>
    intro hi
    show ordv bl n i ||| lobit (rdy bl (ordv bl n i) n) = _
    rw [ih (by omega), rdy_ext hb, (rdy_fst hG.n12 ((ord_ex hG i (by omega)).2 (by omega))).2]
    rfl
theorem e_order (hG : GS S n) (hb : ∀ k, k < n → bl k = cl S n k) {i : Nat} (hi : i < n) : ntz (rdy bl (ordv bl n i) n) = nI (fstN (fun k => bt (ordm (cl S n) n i) k = false ∧ cl S n k &&& (ordm (cl S n) n i ^^^ (-1)) = 0) n) := by
  rw [ordv_eq hG hb i (by omega), rdy_ext hb]
  exact (rdy_fst hG.n12 ((ord_ex hG i (by omega)).2 hi)).1
/-- how many are below -/
noncomputable def rkk (S : Nat → Int32) (n k : Nat) : Nat := @wcn (fun j => ovr (tT S) n k j) (fun _ => Classical.propDecidable _) n
theorem rkk_lt (hG : GS S n) {k o : Nat} (hk : k < n) (ho : ovr (tT S) n k o) : rkk S n o < rkk S n k := by
  have hlt : ∀ N, @wcn (fun i => ovr (tT S) n o i) (fun _ => Classical.propDecidable _) N ≤ @wcn (fun i => ovr (tT S) n k i) (fun _ => Classical.propDecidable _) N ∧ (o < N → @wcn (fun i => ovr (tT S) n o i) (fun _ => Classical.propDecidable _) N < @wcn (fun i => ovr (tT S) n k i) (fun _ => Classical.propDecidable _) N) := by
    intro N
    induction N with
    | zero => exact ⟨Nat.le_refl _, fun h => absurd h (Nat.not_lt_zero _)⟩
    | succ N ihN =>
      unfold wcn
      by_cases h1 : ovr (tT S) n o N
      · rw [if_pos h1, if_pos (ho.trans h1)]
        refine ⟨by omega, fun h => ?_⟩
        have : N ≠ o := fun e => by rw [e] at h1; exact hG.ac o ho.lt h1
        have := ihN.2 (by omega)
        omega
      · rw [if_neg h1]
        by_cases h2 : ovr (tT S) n k N
        · rw [if_pos h2]; exact ⟨by omega, fun _ => by omega⟩
        · rw [if_neg h2]
          refine ⟨ihN.1, fun h => ?_⟩
          have : N ≠ o := fun e => by rw [e] at h2; exact h2 ho
          exact ihN.2 (by omega)
  exact (hlt n).2 ho.lt
theorem rkk_n (hG : GS S n) {k : Nat} (hk : k < n) : rkk S n k < n := by
  have h1 : rkk S n k ≤ n := @wcn_le (fun j => ovr (tT S) n k j) (fun _ => Classical.propDecidable _) n
  refine Nat.lt_of_le_of_ne h1 (fun e => hG.ac k hk ?_)
  have : ∀ N, @wcn (fun j => ovr (tT S) n k j) (fun _ => Classical.propDecidable _) N = N → ∀ j, j < N → ovr (tT S) n k j := by
    intro N
    induction N with
    | zero => intro _ j hj; omega
    | succ N ih =>
      intro e j hj
      have hle := @wcn_le (fun j => ovr (tT S) n k j) (fun _ => Classical.propDecidable _) N
      unfold wcn at e
      by_cases h : ovr (tT S) n k N
      · rw [if_pos h] at e
        by_cases ej : j = N
        · rw [ej]; exact h
        · exact ih (by omega) j (by omega)
      · rw [if_neg h] at e; omega
  exact this n e k hk
theorem layS_ext {g g' : Nat → Nat} {k : Nat} : ∀ o, (∀ x, x < o → bt (S (195 + k)) x = true → g x = g' x) → layS S n g k o = layS S n g' k o := by
  intro o
  induction o with
  | zero => intro _; rfl
  | succ o ih =>
    intro h
    unfold layS
    rw [ih (fun x hx => h x (by omega))]
    by_cases hb : bt (S (195 + k)) o = true
    · rw [if_pos hb, if_pos hb, h o (by omega) hb]
    · rw [if_neg hb, if_neg hb]
theorem layM_st (hG : GS S n) : ∀ f k, k < n → rkk S n k < f → layM S n f k = layM S n (f + 1) k := by
  intro f
  induction f with
  | zero => intro k _ h; omega
  | succ f ih =>
    intro k hk hr
    show layS S n (layM S n f) k n = layS S n (layM S n (f + 1)) k n
    exact layS_ext n (fun x hx hb => ih x hx (by have := rkk_lt hG hk (ovr.edge hx hb); omega))
theorem layS_iff {g : Nat → Nat} {k m : Nat} : ∀ o, layS S n g k o ≤ m ↔ ∀ x, x < o → bt (S (195 + k)) x = true → g x + 1 ≤ m := by
  intro o
  induction o with
  | zero => exact ⟨fun _ x hx => absurd hx (Nat.not_lt_zero x), fun _ => Nat.zero_le _⟩
  | succ o ih =>
    unfold layS
    by_cases hb : bt (S (195 + k)) o = true
    · rw [if_pos hb, Nat.max_le, ih]
      constructor
      · rintro ⟨h1, h2⟩ x hx hbx
        by_cases e : x = o
        · rw [e]; exact h2
        · exact h1 x (by omega) hbx
      · intro h; exact ⟨fun x hx => h x (by omega), h o (by omega) hb⟩
    · rw [if_neg hb, ih]
      constructor
      · intro h x hx hbx
        by_cases e : x = o
        · rw [e] at hbx; exact absurd hbx hb
        · exact h x (by omega) hbx
      · intro h x hx; exact h x (by omega)
/-- the layer, by its steps -/
theorem lay_iff (hG : GS S n) {k m : Nat} (hk : k < n) : layM S n 13 k ≤ m ↔ ∀ x, x < n → bt (S (195 + k)) x = true → layM S n 13 x + 1 ≤ m := by
  show layS S n (layM S n 12) k n ≤ m ↔ _
  have hn := hG.n12
  rw [layS_iff]
  constructor
  · intro h x hx hb
    have h1 := rkk_lt hG hk (ovr.edge hx hb)
    have h2 := rkk_n hG hk
    rw [← layM_st hG 12 x hx (by omega)]
    exact h x hx hb
  · intro h x hx hb
    have h1 := rkk_lt hG hk (ovr.edge hx hb)
    have h2 := rkk_n hG hk
    rw [layM_st hG 12 x hx (by omega)]
    exact h x hx hb
theorem lay_ov (hG : GS S n) {k m : Nat} (hk : k < n) : layM S n 13 k ≤ m ↔ ∀ x, ovr (tT S) n k x → layM S n 13 x + 1 ≤ m := by
  constructor
  · rintro h x ⟨i, hp⟩
    induction i generalizing k m with
    | zero =>
      obtain ⟨y, hy, hb, e⟩ := hp
      rw [← show y = x from e]
      exact (lay_iff hG hk).mp h y hy hb
    | succ i ih =>
      obtain ⟨y, hy, hb, hp⟩ := hp
      have h1 := (lay_iff hG hk).mp h y hy hb
      have := ih hy (m := m - 1) (by omega) hp
      omega
  · intro h
    exact (lay_iff hG hk).mpr (fun x hx hb => h x (ovr.edge hx hb))
theorem lay_rk (hG : GS S n) : ∀ r k, k < n → rkk S n k ≤ r → layM S n 13 k ≤ r := by
  intro r
  induction r with
  | zero =>
    intro k hk hr
    rw [lay_iff hG hk]
    intro x hx hb
    have := rkk_lt hG hk (ovr.edge hx hb)
    omega
  | succ r ih =>
    intro k hk hr
    rw [lay_iff hG hk]
    intro x hx hb
    have := rkk_lt hG hk (ovr.edge hx hb)
    have := ih x hx (by omega)
    omega
theorem thv_iff (hG : GS S n) (hb : ∀ k, k < n → bl k = cl S n k) : ∀ i k, k < 32 → (bt (thv bl n i) k = true ↔ k < n ∧ layM S n 13 k < i) := by
  have hn := hG.n12
  intro i
  induction i with
  | zero => intro k hk; show bt 0 k = true ↔ _; rw [b_0]; exact ⟨fun h => (by cases h), fun h => absurd h.2 (Nat.not_lt_zero _)⟩
  | succ i ih =>
    intro k hk
    show bt (thv bl n i ||| rdy bl (thv bl n i) n) k = true ↔ _
    rw [b_or, Bool.or_eq_true, ih k hk]
    unfold rdy
    rw [b_acc _ (by omega) hk, decide_eq_true_eq]
    by_cases hkn : k < n
    · have hsub : bl k &&& (thv bl n i ^^^ (-1)) = 0 ↔ layM S n 13 k ≤ i := by
        rw [lay_ov hG hkn, b_sub, hb k hkn]
        constructor
        · intro h x hx
          have hl := hx.lt
          have := h x (by omega) ((cl_iff hkn hl).mpr hx)
          exact ((ih x (by omega)).mp this).2
        · intro h x hx hbx
          have hxn : x < n := by
            refine Nat.lt_of_not_le fun hge => ?_
            rw [cl_hi hG.tb hkn hge hx] at hbx; cases hbx
          exact (ih x hx).mpr ⟨hxn, h x ((cl_iff hkn hxn).mp hbx)⟩
      constructor
      · rintro (h | ⟨-, -, h⟩)
        · exact ⟨hkn, by omega⟩
        · exact ⟨hkn, by have := hsub.mp h; omega⟩
      · rintro ⟨-, h⟩
        by_cases h2 : layM S n 13 k < i
        · exact .inl ⟨hkn, h2⟩
        · refine .inr ⟨hkn, ?_, hsub.mpr (by omega)⟩
          cases h3 : bt (thv bl n i) k
          · rfl
          · exact absurd ((ih k hk).mp h3).2 h2
    · exact ⟨fun h => h.elim (fun z => absurd z.1 hkn) (fun z => absurd z.1 hkn), fun h => absurd h.1 hkn⟩
theorem e_layer (hG : GS S n) (hb : ∀ k, k < n → bl k = cl S n k) {k : Nat} (hk : k < n) : layv bl n k = layM S n 13 k := by
  have hn := hG.n12
  have h1 := lay_rk hG _ k hk (Nat.le_refl _)
  have h2 := rkk_n hG hk
  unfold layv
  refine fstN_some (by omega) ((thv_iff hG hb _ k (by omega)).mpr ⟨hk, by omega⟩) (fun i hi hh => ?_)
  have := ((thv_iff hG hb _ k (by omega)).mp hh).2
  omega
theorem e_layers (hG : GS S n) (hb : ∀ k, k < n → bl k = cl S n k) : mxl (layv bl n) n = mxl (layM S n 13) n := by
  have : ∀ m, m ≤ n → mxl (layv bl n) m = mxl (layM S n 13) m := by
    intro m
    induction m with
    | zero => intro _; rfl
    | succ m ih => intro hm; unfold mxl; rw [ih (by omega), e_layer hG hb (by omega)]
  exact this n (Nat.le_refl n)
theorem rkk_12 (hG : GS S n) : (∀ k o, k < n → o < n → bt (S (195 + k)) o = true → rkk S n o < rkk S n k) ∧ (∀ k, k < n → rkk S n k ≤ 12) :=
  ⟨fun k o hk ho hb => rkk_lt hG hk (ovr.edge ho hb), fun k hk => by have := rkk_n hG hk; have := hG.n12; omega⟩
end OL
