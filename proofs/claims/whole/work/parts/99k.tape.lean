/-! ===== the class's tape and the model's ===== -/
def TE (C T : Nat → Int32) (e : Nat) : Prop := ∀ i, i < e → ∃ b, b < 256 ∧ C i = nI b ∧ T i = (nI b).toInt8.toInt32
def asc (P : Int32 → Prop) : Prop := ∀ x, P x → ∃ c, c < 128 ∧ x = nI c
theorem asc_sm : asc isSm := fun x h => by
  obtain ⟨c, hc, e⟩ := ixle (n := 122) (by omega) (Int32.le_trans (by decide) h.1) h.2
  exact ⟨c, by omega, e⟩
theorem asc_dg : asc isDg := fun x h => by
  obtain ⟨c, hc, e⟩ := ixle (n := 57) (by omega) (Int32.le_trans (by decide) h.1) h.2
  exact ⟨c, by omega, e⟩
theorem asc_32 : asc (fun x => x = 32) := fun x h => ⟨32, by omega, h⟩
theorem asc_59 : asc (fun x => x = 59) := fun x h => ⟨59, by omega, h⟩
section TT
variable {C T : Nat → Int32} {e q st q' f z : Nat} {lo hi v : Int32} {P : Int32 → Prop}
theorem TE.p (h : TE C T e) (hP : asc P) {i : Nat} (hi : i < e) : (P (C i) ↔ P (T i)) ∧ (P (C i) → C i = T i) := by
  obtain ⟨b, hb, h1, h2⟩ := h i hi
  obtain ⟨k1, k2, k3⟩ := by_k b hb
  rcases Nat.lt_or_ge b 128 with hl | hl
  · have : C i = T i := by rw [h1, h2, k2 hl]
    rw [this]; exact ⟨Iff.rfl, fun _ => rfl⟩
  · have n1 : ¬ P (C i) := fun z => by
      obtain ⟨c, hc, ec⟩ := hP _ z
      rw [h1] at ec
      have := (nI_eq (by omega) (by omega)).mp ec
      omega
    have n2 : ¬ P (T i) := fun z => by
      obtain ⟨c, hc, ec⟩ := hP _ z
      have k3 := k3 hl
      rw [← h2, ec, Int32.lt_iff_toInt_lt, nI_toInt (by omega)] at k3
      have e0 : (0 : Int32).toInt = 0 := by decide
      omega
    exact ⟨⟨fun z => absurd z n1, fun z => absurd z n2⟩, fun z => absurd z n1⟩
theorem TE.nx (h : TE C T e) (hP : asc P) (hn : nxq C e P q st) : nxq T e P q st :=
  ⟨hn.1, hn.2.1, fun i h1 h2 => (h.p hP (by have := hn.2.1; omega)).1.mp (hn.2.2.1 i h1 h2), fun hl z => hn.2.2.2 hl ((h.p hP hl).1.mpr z)⟩
theorem dgv_eq : ∀ k, (∀ j, j < k → C (st + j) = T (st + j)) → dgv C st k = dgv T st k := by
  intro k
  induction k with
  | zero => intro _; rfl
  | succ k ih => intro h; unfold dgv; rw [ih (fun j hj => h j (by omega)), h k (by omega)]
theorem TE.nm (h : TE C T e) (hn : nmO C e q lo hi st q' v f) : nmO T e q lo hi st q' v f := by
  obtain ⟨h1, h2⟩ := hn
  refine ⟨h.nx asc_32 h1, ?_⟩
  rcases h2 with ⟨h2, h3⟩ | ⟨h2, h3, h4, h5, h6⟩
  · exact .inl ⟨h2, fun z => h3 ⟨z.1, (h.p asc_dg z.1).1.mpr z.2⟩⟩
  · have l := h4.2.1
    exact .inr ⟨h2, (h.p asc_dg h2).1.mp h3, h.nx asc_dg h4, by rw [h5]; exact dgv_eq _ (fun j hj => (h.p asc_dg (by omega)).2 (h4.2.2.1 (st + j) (by omega) (by omega))), h6⟩
theorem TE.wd (h : TE C T e) (hn : wdO C e q st z) : wdO T e q st z := by
  obtain ⟨h1, h2⟩ := hn
  refine ⟨h.nx asc_32 h1, ?_⟩
  rcases h2 with ⟨h2, h3⟩ | ⟨h2, h3, h4, h5⟩
  · exact .inl ⟨h2, fun z => h3 ⟨z.1, (h.p asc_sm z.1).1.mpr z.2⟩⟩
  · exact .inr ⟨h2, h3, (h.p asc_sm h3).1.mp h4, h.nx asc_sm h5⟩
theorem wd_le (h : wdO C e q st z) : st ≤ e ∧ st + z ≤ e := by
  refine ⟨h.1.2.1, ?_⟩
  rcases h.2 with ⟨rfl, -⟩ | ⟨-, -, -, h⟩
  · exact h.1.2.1
  · exact h.2.1
theorem TE.wc (h : TE C T e) (hn : wdO C e q st z) {x : Nat} (hx : x < z) : isSm (C (st + x)) ∧ C (st + x) = T (st + x) ∧ st + x < e := by
  rcases hn.2 with ⟨rfl, -⟩ | ⟨-, -, -, h5⟩
  · exact absurd hx (by omega)
  · have l := h5.2.1
    have := h5.2.2.1 (st + x) (by omega) (by omega)
    exact ⟨this, (h.p asc_sm (by omega)).2 this, by omega⟩
theorem TE.ky (h : TE C T e) {k : Nat} (hk : k < 8) (hle : st + z ≤ e) : isKey C st z k ↔ isKey T st z k := by
  have hw := kw_lt k hk
  have eq : ∀ i, i < kwL k → z = kwL k → (C (st + i) = nI (kwc k i) ↔ T (st + i) = nI (kwc k i)) := fun i hi hz =>
    (h.p (P := fun x => x = nI (kwc k i)) (fun x hx => ⟨_, hw.2 i (by omega), hx⟩) (show st + i < e by omega)).1
  exact ⟨fun a => ⟨a.1, fun i hi => (eq i hi a.1).mp (a.2 i hi)⟩, fun a => ⟨a.1, fun i hi => (eq i hi a.1).mpr (a.2 i hi)⟩⟩
end TT
