/-! ===== what stands there at the start ===== -/
def gr_own (i : Nat) : String := if i < 8 then "TwoHands$Reader" else "TwoHandsModel"
def gr_idx : List Nat := [102, 110, 115, 120, 125, 130, 135, 140, 102]
def gr_tm (i : Nat) : Term := Term.string (gr_own i) (gr_idx.getD i 0)
def gr_len : List Nat := [4, 6, 4, 4, 6, 5, 4, 3, 45]
def gr_byt : List (List Int32) := [[112, 97, 103, 101], [115, 116, 114, 111, 107, 101], [104, 97, 110, 100], [111, 118, 101, 114], [108, 101, 116, 116, 101, 114], [112, 108, 97, 99, 101], [119, 111, 114, 100], [114, 117, 110], [32, 112, 97, 103, 101, 32, 115, 116, 114, 111, 107, 101, 32, 104, 97, 110, 100, 32, 111, 118, 101, 114, 32, 108, 101, 116, 116, 101, 114, 32, 112, 108, 97, 99, 101, 32, 119, 111, 114, 100, 32, 114, 117, 110, 32]]
def gr_c : Cond := Jvm.Cond.and given_1 narrow_1
theorem gr_ex : ∀ i, i < 9 → Cond.exactly (gr_tm i) "java/lang/String" ∈ flatC gr_c := by decide +kernel
theorem gr_co : ∀ i, i < 9 → Cond.eq (.field (gr_tm i) "java/lang/String" "coder" "B") (.int 0) ∈ flatC gr_c := by decide +kernel
theorem gr_ar : ∀ i, i < 9 → Cond.arrayOf (.field (gr_tm i) "java/lang/String" "value" "[B") .byte ∈ flatC gr_c := by decide +kernel
theorem gr_le : ∀ i, i < 9 → Cond.eq (.length (.field (gr_tm i) "java/lang/String" "value" "[B")) (.int (Int32.ofNat (gr_len.getD i 0))) ∈ flatC gr_c := by decide +kernel
theorem gr_el : ∀ i, i < 9 → ∀ j, j < gr_len.getD i 0 → Cond.eq (.elem (.field (gr_tm i) "java/lang/String" "value" "[B") (.int (Int32.ofNat j))) (.int ((gr_byt.getD i []).getD j 0)) ∈ flatC gr_c := by decide +kernel
theorem gr_ne : ∀ i, i < 9 → ∀ j, j < 9 → (i = j ∨ Cond.not (Cond.eq (gr_tm i) (gr_tm j)) ∈ flatC gr_c) ∨ Cond.not (Cond.eq (gr_tm j) (gr_tm i)) ∈ flatC gr_c := by decide +kernel
theorem gr_l31 : ∀ i, i < 9 → gr_len.getD i 0 < 2 ^ 31 := by decide +kernel
section GR
variable {s : State} {args : Array Value} {b L : Nat} {xs : Nat → Int32}
theorem gr_S (h : gr_c.before args s = true) : ∃ adK adV : Nat → Nat, vk_S 9 gr_len gr_byt adK adV (fun q => s.heap.size ≤ q) s s.heap ∧ ∀ i : Nat, i < 9 → (gr_tm i).eval args s none [] s = some (.ref (adK i)) := by
  have hs := flat_of_before _ h
  exact vk_Sof gr_l31 (fun i hi => hs _ (gr_ex i hi)) (fun i hi => hs _ (gr_co i hi)) (fun i hi => hs _ (gr_ar i hi)) (fun i hi => hs _ (gr_le i hi)) (fun i hi j hj => hs _ (gr_el i hi j hj))
    (fun i j hi hj hn => by
      rcases gr_ne i hi j hj with (e | e) | e
      · exact absurd e hn
      · exact .inl (hs _ e)
      · exact .inr (hs _ e)) (fun a ha => Nat.not_le.mpr ha)
theorem gr_X (h : gr_c.before args s = true) : ∃ t : Nat, (Term.static "TwoHands" "STEP_X" "[I").eval args s none [] s = some (.ref t) ∧ va_T .int t 4 (fun j => .int (mstX (nI j))) (fun q => s.heap.size ≤ q) s s.heap := by
  have hs := flat_of_before _ h
  refine va_Tof (N := 4) (f := fun j => .int (mstX (nI j))) (by omega) (hs (.arrayOf (.static "TwoHands" "STEP_X" "[I") .int) (by decide +kernel)) (va_eqt (hs (.eq (.length (.static "TwoHands" "STEP_X" "[I")) (.int 4)) (by decide +kernel))) (fun j hj => ?_) (fun a ha => Nat.not_le.mpr ha)
  match j, hj with
  | 0, _ => exact va_eqt (hs (.eq (.elem (.static "TwoHands" "STEP_X" "[I") (.int 0)) (.int 1)) (by decide +kernel))
  | 1, _ => exact va_eqt (hs (.eq (.elem (.static "TwoHands" "STEP_X" "[I") (.int 1)) (.int 0)) (by decide +kernel))
  | 2, _ => exact va_eqt (hs (.eq (.elem (.static "TwoHands" "STEP_X" "[I") (.int 2)) (.int 1)) (by decide +kernel))
  | 3, _ => exact va_eqt (hs (.eq (.elem (.static "TwoHands" "STEP_X" "[I") (.int 3)) (.int (-1))) (by decide +kernel))
  | j + 4, hj => exact absurd hj (by omega)
theorem gr_Y (h : gr_c.before args s = true) : ∃ t : Nat, (Term.static "TwoHands" "STEP_Y" "[I").eval args s none [] s = some (.ref t) ∧ va_T .int t 4 (fun j => .int (mstY (nI j))) (fun q => s.heap.size ≤ q) s s.heap := by
  have hs := flat_of_before _ h
  refine va_Tof (N := 4) (f := fun j => .int (mstY (nI j))) (by omega) (hs (.arrayOf (.static "TwoHands" "STEP_Y" "[I") .int) (by decide +kernel)) (va_eqt (hs (.eq (.length (.static "TwoHands" "STEP_Y" "[I")) (.int 4)) (by decide +kernel))) (fun j hj => ?_) (fun a ha => Nat.not_le.mpr ha)
  match j, hj with
  | 0, _ => exact va_eqt (hs (.eq (.elem (.static "TwoHands" "STEP_Y" "[I") (.int 0)) (.int 0)) (by decide +kernel))
  | 1, _ => exact va_eqt (hs (.eq (.elem (.static "TwoHands" "STEP_Y" "[I") (.int 1)) (.int 1)) (by decide +kernel))
  | 2, _ => exact va_eqt (hs (.eq (.elem (.static "TwoHands" "STEP_Y" "[I") (.int 2)) (.int 1)) (by decide +kernel))
  | 3, _ => exact va_eqt (hs (.eq (.elem (.static "TwoHands" "STEP_Y" "[I") (.int 3)) (.int 1)) (by decide +kernel))
  | j + 4, hj => exact absurd hj (by omega)
/-- an array of numbers holds no reference -/
theorem gr_oa {t : Nat} {cell : Cell} {ty : FieldType} {o n d : String} {v : Nat} {A : Nat → Prop} (hf : heapFits s = true) (hty : ty = .int ∨ ty = .byte) (hc : s.heap[t]? = some cell) (ha : s.isArrayOf cell ty) (hO : va_OF o n d (.ref v) t A s s.heap) : False := by
  obtain ⟨cf, k, i, f, cell2, h1, h2, h3, h4, h5, h6⟩ := hO
  rw [hc] at h3
  cases h3
  have hfit : cellFits s cell = true := by
    unfold heapFits at hf
    rw [Array.all_eq_true] at hf
    obtain ⟨hlt, e⟩ := Array.getElem?_eq_some_iff.mp hc
    have := hf t hlt
    rw [e] at this
    exact this
  unfold cellFits at hfit
  rw [List.all_eq_true] at hfit
  have hlt : f.slot < cell.slots.size := (Array.getElem?_eq_some_iff.mp h5).1
  have h7 := hfit f.slot (List.mem_range.mpr hlt)
  rw [h5] at h7
  obtain ⟨hst, kk, hk, comp, hkind⟩ := ha
  dsimp only at h7
  have hT : s.slotType? cell.cls cell.vm f.slot = some ty := by
    unfold State.slotType?
    rw [hk]
    show (match cell.vm with
      | .statics _ => kk.staticTypes[f.slot]?
      | _ => match kk.kind with
        | .array _ type => some type
        | _ => kk.instanceTypes[f.slot]?) = some ty
    split
    · rename_i c e; exact absurd e (hst c)
    · rw [hkind]
  unfold State.fitsSlot at h7
  rw [hT] at h7
  rcases hty with rfl | rfl
  · cases h7
  · cases h7
/-- arrays of two kinds -/
theorem gr_ty {cell : Cell} {t1 t2 : FieldType} (h1 : s.isArrayOf cell t1) (h2 : s.isArrayOf cell t2) : t1 = t2 := by
  obtain ⟨-, k, hk, c, e⟩ := h1
  obtain ⟨-, k', hk', c', e'⟩ := h2
  rw [hk] at hk'
  cases hk'
  rw [e] at e'
  cases e'
  rfl
end GR
