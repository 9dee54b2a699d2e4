/-- no room for one more -/
def isFl (S : Nat → Int32) (k : Nat) : Prop := (k = 1 ∧ S 2 = 12) ∨ (k = 4 ∧ S 3 = 10) ∨ (k = 5 ∧ S 4 = 8) ∨ (k = 6 ∧ S 5 = 12) ∨ (6 < k ∧ S 6 = 4)
section MI
variable {X : HM} {EV : Nat → Value} {d : Nat} {hm : HM} {hs : Nat} {Q : QT} {m : Nat} {u : Nat → Int32} {A : Nat → Nat → Int32} {R : Nat → Int64}
theorem m_isFull {k : Nat} (hM : MO hm m u A R) (hk : k < 8) (h1 : isFl (A 0) k → Q (some (.int 1)) hm hs) (h0 : ¬ isFl (A 0) k → Q (some (.int 0)) hm hs) : CC X EV (d + 1) 167 [.ref m, .int (nI k)] hm hs Q := by
  unfold isFl at h1 h0
  have q1 : (nI k = 1) = (k = 1) := propext (nI_eq (b := 1) (by omega) (by omega))
  have q4 : (nI k = 4) = (k = 4) := propext (nI_eq (b := 4) (by omega) (by omega))
  have q5 : (nI k = 5) = (k = 5) := propext (nI_eq (b := 5) (by omega) (by omega))
  have q6 : (nI k = 6) = (k = 6) := propext (nI_eq (b := 6) (by omega) (by omega))
  have q7 : (nI k ≤ 6) = (k ≤ 6) := propext (nI_leI (b := 6) (by omega) (by omega))
  refine c_of (ls2 := [.ref m, .int (nI k)]) Y167 (Nat.le_of_ble_eq_true rfl) rfl I167 ?_
  simp only [r_il1 dX10_isFull_0, r_iconst dX10_isFull_1 ki1, r_ic_ne (tgt := 16) dX10_isFull_2 rfl, r_al0 dX10_isFull_5, r_getf dX10_isFull_6 F10_13, r_iconst dX10_isFull_9 ki2, r_iald dX10_isFull_10, r_bipush dX10_isFull_11 kb12, r_ic_eq (tgt := 82) dX10_isFull_13 rfl, r_il1 dX10_isFull_16, r_iconst dX10_isFull_17 ki4, r_ic_ne (tgt := 32) dX10_isFull_18 rfl, r_al0 dX10_isFull_21, r_getf dX10_isFull_22 F10_13, r_iconst dX10_isFull_25 ki3, r_iald dX10_isFull_26, r_bipush dX10_isFull_27 kb10, r_ic_eq (tgt := 82) dX10_isFull_29 rfl, r_il1 dX10_isFull_32, r_iconst dX10_isFull_33 ki5, r_ic_ne (tgt := 48) dX10_isFull_34 rfl, r_al0 dX10_isFull_37, r_getf dX10_isFull_38 F10_13, r_iconst dX10_isFull_41 ki4, r_iald dX10_isFull_42, r_bipush dX10_isFull_43 kb8, r_ic_eq (tgt := 82) dX10_isFull_45 rfl, r_il1 dX10_isFull_48, r_bipush dX10_isFull_49 kb6, r_ic_ne (tgt := 65) dX10_isFull_51 rfl, r_al0 dX10_isFull_54, r_getf dX10_isFull_55 F10_13, r_iconst dX10_isFull_58 ki5, r_iald dX10_isFull_59, r_bipush dX10_isFull_60 kb12, r_ic_eq (tgt := 82) dX10_isFull_62 rfl, r_il1 dX10_isFull_65, r_bipush dX10_isFull_66 kb6, r_ic_le (tgt := 86) dX10_isFull_68 rfl, r_al0 dX10_isFull_71, r_getf dX10_isFull_72 F10_13, r_bipush dX10_isFull_75 kb6, r_iald dX10_isFull_77, r_iconst dX10_isFull_78 ki4, r_ic_ne (tgt := 86) dX10_isFull_79 rfl, r_iconst dX10_isFull_82 ki1, r_goto (tgt := 87) dX10_isFull_83 rfl, r_iconst dX10_isFull_86 ki0, r_zret0 dX10_isFull_87 (Nat.zero_le _) (Nat.zero_le _), r_zret1 dX10_isFull_87 (Nat.zero_le _) (Nat.zero_le _), r_zretc dX10_isFull_87 (Nat.zero_le _) (Nat.zero_le _), List.cons_append, List.nil_append, Nat.reduceAdd, Option.toList, aI_ok, g10_0, z0, hM.r, rd_own hM.r, hM.r0, rd_own hM.r0, vs2, ck2, vs3, ck3, vs4, ck4, vs5, ck5, vs6, ck6, true_and, q1, q4, q5, q6, q7]
  generalize Q (some (.int 0)) hm hs = P0 at *
  generalize Q (some (.int 1)) hm hs = P1 at *
  clear hM q1 q4 q5 q6 q7
  generalize A 0 2 = a2 at *
  generalize A 0 3 = a3 at *
  generalize A 0 4 = a4 at *
  generalize A 0 5 = a5 at *
  generalize A 0 6 = a6 at *
  rcases (show k = 0 ∨ k = 1 ∨ k = 2 ∨ k = 3 ∨ k = 4 ∨ k = 5 ∨ k = 6 ∨ k = 7 by omega) with e | e | e | e | e | e | e | e <;> subst e <;> simp_all
end MI
section MJ
variable {X : HM} {EV : Nat → Value} {d : Nat} {hm : HM} {hs : Nat} {Q : QT} {m : Nat} {u : Nat → Int32} {A : Nat → Nat → Int32} {R : Nat → Int64}
def S00 : Nat → Int32 := fun j => if j = 0 ∨ j = 1 then 3 else 0
def S0 (S : Nat → Int32) : Nat → Int32 := fun j => if j < 217 then S00 j else S j
theorem m_plain (hM : MO hm m u A R) (hQ : ∀ hm' S', MO hm' m u (va_up A 0 S') R → (∀ j, S' j = S0 (A 0) j) → sm m (m + 16) hm hm' → Q none hm' hs) : CC X EV (d + 1) 158 [.ref m] hm hs Q := by
  refine c_of (ls2 := [.ref m, .null]) Y158 (Nat.le_of_ble_eq_true rfl) rfl I158 ?_
  simp only [r_iconst dX10_plain_0 ki0, r_is1 dX10_plain_1, List.cons_append, List.nil_append, Nat.reduceAdd, Option.toList, cat_f, cat_i, cat_n, cat_r, eq_self, true_and, z0]
  suffices H : ∀ k, k ≤ 217 → ∀ hm' S', MO hm' m u (va_up A 0 S') R → (∀ j, j < k → S' j = 0) → (∀ j, k ≤ j → S' j = A 0 j) → sm m (m + 16) hm hm' → E1 X EV d 10 0 0 none false cX10_plain Q 2 [.ref m, .int (nI k)] [] 0 0 hm' hs from
    H 0 (by omega) hm (A 0) (by rw [va_self]; exact hM) (fun j hj => absurd hj (by omega)) (fun j _ => rfl) sm.rf
  have eV : ∀ f, (va_up A 0 f) 0 = f := fun f => rfl
  refine up_loop 217 _ ?_ ?_
  · intro hm' S' hM' hS hS2 s'
    simp (disch := first | omega | (simp only [List.length_cons, List.length_nil]; omega)) only [r_il1 dX10_plain_2, r_sipush dX10_plain_3 ks217, r_ic_ge (tgt := 22) dX10_plain_6 rfl, r_al0 dX10_plain_9, r_getf dX10_plain_10 F10_13, r_il1 dX10_plain_13, r_iconst dX10_plain_14 ki0, r_iast dX10_plain_15, r_ii1 dX10_plain_16 kn1, r_gotoB (tgt := 2) dX10_plain_19 rfl, r_al0 dX10_plain_22, r_getf dX10_plain_23 F10_13, r_iconst dX10_plain_26 ki0, r_iconst dX10_plain_27 ki3, r_iast dX10_plain_28, r_al0 dX10_plain_29, r_getf dX10_plain_30 F10_13, r_iconst dX10_plain_33 ki1, r_iconst dX10_plain_34 ki3, r_iast dX10_plain_35, r_vret dX10_plain_36 (Nat.zero_le _) (Nat.zero_le _), List.cons_append, List.nil_append, Nat.reduceAdd, Option.toList, cat_f, cat_i, cat_n, cat_r, eq_self, g10_0, pk_un, pk_us, rd_up_eq, rd_up_ne, sI_ok, true_and, up_eq, up_ne, up_up, z0, hM'.r, rd_own hM'.r, hM'.r0, rd_own hM'.r0, eV, vs0, ck0, vs1, ck1, true_and, show (217 : Int32) = nI 217 from rfl]
    refine ⟨fun _ => ?_, fun z => absurd (Int32.le_refl _) z⟩
    have h5 := hM'.w0 (upd (upd S' 0 3) 1 3)
    rw [va_va] at h5
    refine hQ _ _ h5 (fun j => ?_) (s'.up (by omega))
    unfold S0
    by_cases hj : j < 217
    case neg => rw [if_neg hj, pk_un (by omega), pk_un (by omega)]; exact hS2 j (by omega)
    rw [if_pos hj]
    unfold S00
    by_cases j1 : j = 1
    · rw [j1, pk_us, if_pos (.inr rfl)]
    · rw [pk_un j1]
      by_cases j0 : j = 0
      · rw [j0, pk_us, if_pos (.inl rfl)]
      · rw [pk_un j0, if_neg (fun z => z.elim j0 j1)]; exact hS j hj
  · intro k hk ih hm' S' hM' hS hS2 s'
    simp (disch := first | omega | (simp only [List.length_cons, List.length_nil]; omega)) only [r_il1 dX10_plain_2, r_sipush dX10_plain_3 ks217, r_ic_ge (tgt := 22) dX10_plain_6 rfl, r_al0 dX10_plain_9, r_getf dX10_plain_10 F10_13, r_il1 dX10_plain_13, r_iconst dX10_plain_14 ki0, r_iast dX10_plain_15, r_ii1 dX10_plain_16 kn1, r_gotoB (tgt := 2) dX10_plain_19 rfl, r_al0 dX10_plain_22, r_getf dX10_plain_23 F10_13, r_iconst dX10_plain_26 ki0, r_iconst dX10_plain_27 ki3, r_iast dX10_plain_28, r_al0 dX10_plain_29, r_getf dX10_plain_30 F10_13, r_iconst dX10_plain_33 ki1, r_iconst dX10_plain_34 ki3, r_iast dX10_plain_35, r_vret dX10_plain_36 (Nat.zero_le _) (Nat.zero_le _), List.cons_append, List.nil_append, Nat.reduceAdd, Option.toList, cat_f, cat_i, cat_n, cat_r, eq_self, g10_0, pk_un, pk_us, rd_up_eq, rd_up_ne, sI_ok, true_and, up_eq, up_ne, up_up, z0, hM'.r, rd_own hM'.r, hM'.r0, rd_own hM'.r0, eV, nI_clamp (show k < 2 ^ 31 by omega), show (217 : Int32) = nI 217 from rfl]
    try simp (disch := omega) only [E2, nI_1, nI_add, nI_leI, nI_ltI, nI_eq, nI_clamp]
    refine ⟨fun z => absurd z (by omega), fun _ => ⟨vp_in_nI (by omega) (by omega), ?_⟩⟩
    have h5 := hM'.w0 (upd S' k 0)
    rw [va_va] at h5
    exact ih _ _ h5 (fun j hj => by
      by_cases e : j = k
      · rw [e, pk_us]
      · rw [pk_un e]; exact hS j (by omega)) (fun j hj => by rw [pk_un (by omega)]; exact hS2 j (by omega)) (s'.up (by omega))
end MJ
