section LY
variable {X : HM} {EV : Nat → Value} {d : Nat} {B t m b L k cu su : Nat} {f : Nat → Int32} {Q : QT} {hm : HM} {hs : Nat}
theorem inv_0 {S' : Nat → Int32} (g : GEO B t m hm hs) (hW : TW hm t (t + 1) (t + 11) (t + 21) (t + 32) vNew (fun _ _ _ => 0) (fun _ => 0)) (hM : MO hm m (fun k => if k = 10 then -1 else 0) (va_up iA 0 S') (fun _ => 0)) (hS : ∀ j, S' j = S0 (fun _ => 0) j) : INV B t m hm hs := by
  have hS' : ∀ j, j < 217 → S' j = S00 j := fun j hj => (hS j).trans (if_pos hj)
  refine ⟨g, _, _, _, _, _, _, _, _, _, _, 0, 3, 3, fun _ => 0, 0, 0, 0, 0, hW, hM, ?_⟩
  refine ⟨cpg_0 hS' rfl rfl rfl rfl rfl rfl (fun _ _ => rfl), csc_0 hS' rfl rfl rfl rfl, ⟨0, by omega, rfl, rfl, fun i hi => absurd hi (by omega)⟩, ⟨rfl, rfl⟩, ⟨0, by omega, rfl, rfl, fun i hi => absurd hi (by omega)⟩, ⟨0, 0, by omega, by omega, rfl, rfl, rfl, fun i hi => absurd hi (by omega), fun i hi => absurd hi (by omega)⟩, fun i hi => ?_, ⟨fun q => ?_, fun q => ?_, fun q => ?_⟩⟩
  · refine ⟨0, by omega, ?_, .inl ⟨?_, iA_24 hi⟩⟩
    · rcases (show i = 0 ∨ i = 1 ∨ i = 2 ∨ i = 3 by omega) with rfl | rfl | rfl | rfl <;> rfl
    · rcases (show i = 0 ∨ i = 1 ∨ i = 2 ∨ i = 3 by omega) with rfl | rfl | rfl | rfl <;> rfl
  · exact absurd (show (1 : Int32) = 0 from q) (by decide)
  · exact absurd (show (1 : Int32) = 0 from q) (by decide)
  · exact absurd (show (1 : Int32) = 0 from q) (by decide)
theorem N9v : im_N 9 = 12 := rfl
theorem N10v : im_N 10 = 29 := rfl
theorem law_ok (hK : KW X EV B) (hY : KY X EV B) (hX : XT X EV B) (hbB : b < B) (hXb : X b = some (ia L f)) (hL : L ≤ 3072) (hlo : lowN B hm) (hQ : ∀ hm hs, Q (some (.int 1)) hm hs) : E1 X EV (d + 19) 11 600000 7302250 (some .boolean) false cL_law Q 0 [.ref b, .null, .null, .null] [] 0 0 hm B := by
  simp (disch := first | omega | (simp only [List.length_cons, List.length_nil]; omega)) only [r_new dL_law_0 N11_7, r_dup_i dL_law_3, r_dup_r dL_law_3, List.cons_append, List.nil_append, Nat.reduceAdd, Option.toList, z0, N9v, Nat.reduceLeDiff, Nat.reduceAdd, true_and, and_true, and_self, Nat.zero_add]
  have hn : (im_up hm B (.inr (9, im_dfs 9))) B = some (.inr (9, im_dfs 9)) := up_eq _ _ _
  have s0 : sm B (B + 70) hm (im_up hm B (.inr (9, im_dfs 9))) := sm.rf.up (by omega)
  refine r_isp1 dL_law_4 M11_9 Y99 (Nat.le_of_ble_eq_true rfl) (Nat.le_of_ble_eq_true rfl) (Nat.le_of_ble_eq_true rfl) ?_
  refine c_thInit (d := d + 17) hn (fun hm1 hW1 s1 => ?_)
  have s1 := s0.trans s1
  simp (disch := first | omega | (simp only [List.length_cons, List.length_nil]; omega)) only [r_as1 dL_law_7, r_new dL_law_8 N11_10, r_dup_i dL_law_11, r_dup_r dL_law_11, List.cons_append, List.nil_append, Nat.reduceAdd, Option.toList, cat_f, cat_i, cat_n, cat_r, eq_self, true_and, z0, N10v, Nat.reduceLeDiff, Nat.reduceAdd, true_and, and_true, and_self, Nat.zero_add]
  obtain ⟨m, em⟩ : ∃ m, m = B + 70 := ⟨_, rfl⟩
  rw [← em]
  have hn2 : (im_up hm1 m (.inr (10, im_dfs 10))) m = some (.inr (10, im_dfs 10)) := up_eq _ _ _
  have s2 : sm m (m + 16) hm1 (im_up hm1 m (.inr (10, im_dfs 10))) := sm.rf.up (by omega)
  refine r_isp1 dL_law_12 M11_12 Y157 (Nat.le_of_ble_eq_true rfl) (Nat.le_of_ble_eq_true rfl) (Nat.le_of_ble_eq_true rfl) ?_
  refine m_init (d := d + 17) hn2 (fun hm2 S' hM2 hS' s3 => ?_)
  have s3 := s2.trans s3
  simp (disch := first | omega | (simp only [List.length_cons, List.length_nil]; omega)) only [r_as2 dL_law_15, r_iconst dL_law_16 ki0, r_is3 dL_law_17, List.cons_append, List.nil_append, Nat.reduceAdd, Option.toList, cat_f, cat_i, cat_n, cat_r, eq_self, true_and, z0]
  have hI : INV B B m hm2 (m + 16) := inv_0 ⟨by omega, by omega, by omega, fun a ha => by rw [s3 a (by omega), s1 a (by omega)]; exact hlo a ha⟩ (hW1.s s3 (.inr (by omega))) hM2 hS'
  exact law_loop hK hY hX hbB hXb hL hQ 513 0 (by omega) hm2 (m + 16) _ _ hI (by omega) (by omega)
end LY
