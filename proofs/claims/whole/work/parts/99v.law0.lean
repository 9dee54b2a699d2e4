/-! ===== the law ===== -/
section LV
variable {X : HM} {EV : Nat → Value} {d : Nat} {B t m b L k cu su : Nat} {f : Nat → Int32} {Q : QT} {hm : HM} {hs : Nat}
theorem inv_lw (hI : INV B t m hm hs) : (∃ fs, hm t = some (.inr (9, fs))) ∧ LW B m hm hs := by
  obtain ⟨⟨g1, g2, g3, g4⟩, pa, pb, qa, qb, V, AA, R, u, A, RM, n, w, h, L, nl, np, nw, nr, hW, hM, c⟩ := hI
  exact ⟨⟨_, hW.r⟩, ⟨g4, by omega⟩, by omega, _, hM.r⟩
theorem pr_low {y1 y2 : Nat} {as1 as2 : List Value} {K : Value → HM → Nat → Prop} (h : PR X EV (d + 19) y1 y2 as1 as2 hm hs K) (hl : LW B m hm hs) : CC X EV (d + 19) y1 as1 hm hs (fun v1 hm1 hs1 => LW B m hm1 hs1 ∧ ∃ a, v1 = some a ∧ CC X EV (d + 19) y2 as2 hm1 hs1 (fun v2 hm2 hs2 => v2 = some a ∧ K a hm2 hs2)) := cc_low _ _ _ _ _ _ hl h
theorem six (hk : 6 * k + 6 ≤ L) (hL : L ≤ 3072) : nI (6 * k) + 1 = nI (6 * k + 1) ∧ nI (6 * k) + 2 = nI (6 * k + 2) ∧ nI (6 * k) + 3 = nI (6 * k + 3) ∧ nI (6 * k) + 4 = nI (6 * k + 4) ∧ nI (6 * k) + 5 = nI (6 * k + 5) ∧
    vp_in (nI (6 * k + 1)) L = True ∧ vp_in (nI (6 * k + 2)) L = True ∧ vp_in (nI (6 * k + 3)) L = True ∧ vp_in (nI (6 * k + 4)) L = True ∧ vp_in (nI (6 * k + 5)) L = True ∧
    (nI (6 * k + 1)).toNatClampNeg = 6 * k + 1 ∧ (nI (6 * k + 2)).toNatClampNeg = 6 * k + 2 ∧ (nI (6 * k + 3)).toNatClampNeg = 6 * k + 3 ∧ (nI (6 * k + 4)).toNatClampNeg = 6 * k + 4 ∧ (nI (6 * k + 5)).toNatClampNeg = 6 * k + 5 :=
  ⟨nI_add _ 1, nI_add _ 2, nI_add _ 3, nI_add _ 4, nI_add _ 5, eq_true (vp_in_nI (by omega) (by omega)), eq_true (vp_in_nI (by omega) (by omega)), eq_true (vp_in_nI (by omega) (by omega)), eq_true (vp_in_nI (by omega) (by omega)), eq_true (vp_in_nI (by omega) (by omega)), nI_clamp (by omega), nI_clamp (by omega), nI_clamp (by omega), nI_clamp (by omega), nI_clamp (by omega)⟩
theorem lg_self {x : Int64} : lg_cmp x x = 0 := by unfold lg_cmp; simp
end LV
