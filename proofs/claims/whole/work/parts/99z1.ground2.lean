def txl (i : Nat) : Nat := if i < 8 then kwL i else 45
def txf (i : Nat) : Nat → Int32 := if i < 8 then (fun j => nI (kwc i j)) else (fun j => nI (kyc j))
theorem tx_len : ∀ i, i < 9 → gr_len.getD i 0 = txl i := by decide +kernel
theorem tx_byt : ∀ i, i < 9 → ∀ j, j < gr_len.getD i 0 → (gr_byt.getD i []).getD j 0 = txf i j := by decide +kernel
theorem tx_df : ∀ i, i < 9 → ∀ j, j < 9 → (i = j ∨ ¬ gr_len.getD i 0 = gr_len.getD j 0) ∨ (0 < gr_len.getD i 0 ∧ ¬ (gr_byt.getD i []).getD 0 0 = (gr_byt.getD j []).getD 0 0) := by decide +kernel
def gX (adK adV : Nat → Nat) (a0 a1 b L : Nat) (xs : Nat → Int32) : HM := fun a =>
  if fstN (fun i => adK i = a) 9 < 9 then some (.inr (12, [.ref (adV (fstN (fun i => adK i = a) 9)), .int 0]))
  else if fstN (fun i => adV i = a) 9 < 9 then some (ba (txl (fstN (fun i => adV i = a) 9)) (txf (fstN (fun i => adV i = a) 9)))
  else if a = a0 then some (ia 4 (fun k => mstX (nI k))) else if a = a1 then some (ia 4 (fun k => mstY (nI k))) else if a = b then some (ia L xs) else none
def gE (adK : Nat → Nat) (a0 a1 : Nat) (v3 : Value) : Nat → Value := fun k => if k = 0 then .ref a0 else if k = 1 then .ref a1 else if k = 2 then .int 1 else if k = 3 then v3 else .ref (adK (k - 4))
section GS2
variable {s : State} {b L : Nat} {xs : Nat → Int32} {adK adV : Nat → Nat} {a0 a1 : Nat} {v3 : Value}
theorem fstN_uq {P : Nat → Prop} [DecidablePred P] {i : Nat} (hi : i < 9) (hp : P i) (hu : ∀ j, j < 9 → P j → j = i) : fstN P 9 = i := fstN_some hi hp (fun j hj hpj => by have := hu j (by omega) hpj; omega)
/-- one cell, one content -/
theorem gr_TT {ty1 ty2 : FieldType} {t N1 N2 : Nat} {f1 f2 : Nat → Value} {A : Nat → Prop} (h1 : va_T ty1 t N1 f1 A s s.heap) (h2 : va_T ty2 t N2 f2 A s s.heap) (hn1 : N1 < 2 ^ 31) (hn2 : N2 < 2 ^ 31) : ty1 = ty2 ∧ N1 = N2 ∧ ∀ j, j < N1 → f1 j = f2 j := by
  obtain ⟨c, e, a, -, -, b, d, -⟩ := h1
  obtain ⟨c', e', a', -, -, b', d', -⟩ := h2
  rw [e] at e'
  cases e'
  have hN : N1 = N2 := (nI_eq hn1 hn2).mp (show nI N1 = nI N2 from b.symm.trans b')
  refine ⟨gr_ty a a', hN, fun j hj => ?_⟩
  have := d j hj
  rw [d' j (by omega)] at this
  exact (Option.some.inj this).symm
theorem va_X.t (hX : va_X b L xs s s.heap) : va_T .int b L (fun j => .int (xs j)) (fun q => s.heap.size ≤ q) s s.heap := by
  obtain ⟨scr, h1, h2, h3, h4, h5⟩ := hX
  refine ⟨scr, h1, h2, h3, by omega, by rw [h4], h5, Nat.not_le.mpr (Array.getElem?_eq_some_iff.mp h1).1⟩
end GS2
