theorem dfs9 : im_dfs 9 = [.null, .null, .null, .null, .null, .null, .null, .null, .null, .null, .int 0, .int 0] := rfl
theorem N1v : im_N 1 = 15 := rfl
theorem N5v : im_N 5 = 14 := rfl
theorem N8v : im_N 8 = 2 := rfl
theorem N3v : im_N 3 = 3 := rfl
theorem N0v : im_N 0 = 5 := rfl
theorem N7v : im_N 7 = 7 := rfl
theorem N6v : im_N 6 = 4 := rfl
theorem N4v : im_N 4 = 4 := rfl
def vNew (k : Nat) : Nat → Int32 := if k = 0 ∨ k = 1 then (fun s => if s = 0 then 3 else if s = 1 then 3 else 0) else if k = 7 then (fun s => if s = 0 then 1 else if s = 1 then 1 else if s = 2 then 1 else 0) else if k = 8 then (fun s => if s = 0 then 1 else 0) else if k = 13 then (fun s => if s = 11 then -1 else 0) else (fun _ => 0)
section N2
variable {X : HM} {EV : Nat → Value} {d : Nat} {hm : HM} {hs : Nat} {Q : QT} {B n : Nat}
theorem c_thInit {t : Nat} (hR : hm t = some (.inr (9, im_dfs 9)))
    (hQ : ∀ hm', TW hm' t (t + 1) (t + 11) (t + 21) (t + 32) vNew (fun _ _ _ => 0) (fun _ => 0) → sm t (t + 70) hm hm' → Q none hm' (t + 70)) : CC X EV (d + 2) 99 [.ref t] hm (t + 1) Q := by
  rw [dfs9] at hR
  refine c_of (ls2 := [.ref t, .null]) Y99 (Nat.le_of_ble_eq_true rfl) rfl I99 ?_
  simp (disch := first | omega | (simp only [List.length_cons, List.length_nil]; omega)) only [r_al0 dX9_init_0, r_obj dX9_init_1 M9_1, r_al0 dX9_init_4, r_new dX9_init_5 N9_7, r_dup_i dX9_init_8, r_dup_r dX9_init_8, List.cons_append, List.length_cons, List.length_nil, List.nil_append, Nat.le_refl, Nat.reduceAdd, Nat.reduceLeDiff, Nat.zero_le, Option.toList, z0, hR, rd_own hR, N1v, Nat.reduceLeDiff, Nat.reduceAdd, true_and, and_true, and_self, Nat.add_assoc]
  obtain ⟨g0, eg0⟩ : ∃ H : HM, H = im_up hm (t + 1) (.inr (1, im_dfs 1)) := ⟨_, rfl⟩
  rw [← eg0]
  have hr0 : g0 t = some (.inr (9, [.null, .null, .null, .null, .null, .null, .null, .null, .null, .null, .int 0, .int 0])) := by rw [eg0, up_ne (by omega)]; exact hR
  have hn0 : g0 (t + 1) = some (.inr (1, im_dfs 1)) := by rw [eg0, up_eq]
  have sm0 : sm t (t + 70) hm g0 := by rw [eg0]; exact sm.rf.up (by omega)
  refine r_isn1 dX9_init_9 M9_9 Y3 (Nat.le_of_ble_eq_true rfl) (Nat.le_of_ble_eq_true rfl) (Nat.le_of_ble_eq_true rfl) ?_
  refine c_pgInit hn0 (fun h0 p0 s0 => ?_)
  have ht0 : h0 t = some (.inr (9, [.null, .null, .null, .null, .null, .null, .null, .null, .null, .null, .int 0, .int 0])) := (s0 t (by omega)).trans hr0
  have smh0 : sm t (t + 70) hm h0 := sm0.trans (s0.wide (by omega))
  have q0_00 := p0
  simp (disch := first | omega | (simp only [List.length_cons, List.length_nil]; omega)) only [r_putf dX9_init_12 F9_10, r_al0 dX9_init_15, r_new dX9_init_16 N9_7, r_dup_i dX9_init_19, r_dup_r dX9_init_19, List.cons_append, List.nil_append, Nat.reduceAdd, Option.toList, fit_o, ft9_0, pk_un, pk_us, px9_0, rd_up_eq, rd_up_ne, true_and, up_eq, up_ne, up_up, z0, ht0, rd_own ht0, N1v, Nat.reduceLeDiff, Nat.reduceAdd, true_and, and_true, and_self, Nat.add_assoc]
  obtain ⟨g1, eg1⟩ : ∃ H : HM, H = im_up (im_up h0 t (.inr (9, [.ref (t + 1), .null, .null, .null, .null, .null, .null, .null, .null, .null, .int 0, .int 0]))) (t + 11) (.inr (1, im_dfs 1)) := ⟨_, rfl⟩
  rw [← eg1]
  have hr1 : g1 t = some (.inr (9, [.ref (t + 1), .null, .null, .null, .null, .null, .null, .null, .null, .null, .int 0, .int 0])) := by rw [eg1, up_ne (by omega)]; exact up_eq _ _ _
  have hn1 : g1 (t + 11) = some (.inr (1, im_dfs 1)) := by rw [eg1, up_eq]
  have q0_1 : PG g1 (t + 1) (fun k => if k = 0 then 3 else if k = 1 then 3 else 0) (fun _ _ => 0) := by rw [eg1]; exact (q0_00.k (by omega)).k (by omega)
  have sm1 : sm t (t + 70) hm g1 := by rw [eg1]; exact (smh0.up (by omega)).up (by omega)
  refine r_isn1 dX9_init_20 M9_9 Y3 (Nat.le_of_ble_eq_true rfl) (Nat.le_of_ble_eq_true rfl) (Nat.le_of_ble_eq_true rfl) ?_
  refine c_pgInit hn1 (fun h1 p1 s1 => ?_)
  have ht1 : h1 t = some (.inr (9, [.ref (t + 1), .null, .null, .null, .null, .null, .null, .null, .null, .null, .int 0, .int 0])) := (s1 t (by omega)).trans hr1
  have smh1 : sm t (t + 70) hm h1 := sm1.trans (s1.wide (by omega))
  have q0_10 := q0_1.s s1 (by omega)
  have q1_10 := p1
  simp (disch := first | omega | (simp only [List.length_cons, List.length_nil]; omega)) only [r_putf dX9_init_23 F9_16, r_al0 dX9_init_26, r_new dX9_init_27 N9_19, r_dup_i dX9_init_30, r_dup_r dX9_init_30, List.cons_append, List.nil_append, Nat.reduceAdd, Option.toList, fit_o, ft9_1, pk_un, pk_us, px9_1, rd_up_eq, rd_up_ne, true_and, up_eq, up_ne, up_up, z0, ht1, rd_own ht1, N5v, Nat.reduceLeDiff, Nat.reduceAdd, true_and, and_true, and_self, Nat.add_assoc]
  obtain ⟨g2, eg2⟩ : ∃ H : HM, H = im_up (im_up h1 t (.inr (9, [.ref (t + 1), .ref (t + 11), .null, .null, .null, .null, .null, .null, .null, .null, .int 0, .int 0]))) (t + 21) (.inr (5, im_dfs 5)) := ⟨_, rfl⟩
  rw [← eg2]
  have hr2 : g2 t = some (.inr (9, [.ref (t + 1), .ref (t + 11), .null, .null, .null, .null, .null, .null, .null, .null, .int 0, .int 0])) := by rw [eg2, up_ne (by omega)]; exact up_eq _ _ _
  have hn2 : g2 (t + 21) = some (.inr (5, im_dfs 5)) := by rw [eg2, up_eq]
  have q0_2 : PG g2 (t + 1) (fun k => if k = 0 then 3 else if k = 1 then 3 else 0) (fun _ _ => 0) := by rw [eg2]; exact (q0_10.k (by omega)).k (by omega)
  have q1_2 : PG g2 (t + 11) (fun k => if k = 0 then 3 else if k = 1 then 3 else 0) (fun _ _ => 0) := by rw [eg2]; exact (q1_10.k (by omega)).k (by omega)
  have sm2 : sm t (t + 70) hm g2 := by rw [eg2]; exact (smh1.up (by omega)).up (by omega)
  refine r_isn1 dX9_init_31 M9_21 Y62 (Nat.le_of_ble_eq_true rfl) (Nat.le_of_ble_eq_true rfl) (Nat.le_of_ble_eq_true rfl) ?_
  refine c_scInit hn2 (fun h2 p2 s2 => ?_)
  have ht2 : h2 t = some (.inr (9, [.ref (t + 1), .ref (t + 11), .null, .null, .null, .null, .null, .null, .null, .null, .int 0, .int 0])) := (s2 t (by omega)).trans hr2
  have smh2 : sm t (t + 70) hm h2 := sm2.trans (s2.wide (by omega))
  have q0_20 := q0_2.s s2 (by omega)
  have q1_20 := q1_2.s s2 (by omega)
  have q2_20 := p2
  simp (disch := first | omega | (simp only [List.length_cons, List.length_nil]; omega)) only [r_putf dX9_init_34 F9_22, r_al0 dX9_init_37, r_new dX9_init_38 N9_19, r_dup_i dX9_init_41, r_dup_r dX9_init_41, List.cons_append, List.nil_append, Nat.reduceAdd, Option.toList, fit_o, ft9_2, pk_un, pk_us, px9_2, rd_up_eq, rd_up_ne, true_and, up_eq, up_ne, up_up, z0, ht2, rd_own ht2, N5v, Nat.reduceLeDiff, Nat.reduceAdd, true_and, and_true, and_self, Nat.add_assoc]
  obtain ⟨g3, eg3⟩ : ∃ H : HM, H = im_up (im_up h2 t (.inr (9, [.ref (t + 1), .ref (t + 11), .ref (t + 21), .null, .null, .null, .null, .null, .null, .null, .int 0, .int 0]))) (t + 32) (.inr (5, im_dfs 5)) := ⟨_, rfl⟩
  rw [← eg3]
  have hr3 : g3 t = some (.inr (9, [.ref (t + 1), .ref (t + 11), .ref (t + 21), .null, .null, .null, .null, .null, .null, .null, .int 0, .int 0])) := by rw [eg3, up_ne (by omega)]; exact up_eq _ _ _
  have hn3 : g3 (t + 32) = some (.inr (5, im_dfs 5)) := by rw [eg3, up_eq]
  have q0_3 : PG g3 (t + 1) (fun k => if k = 0 then 3 else if k = 1 then 3 else 0) (fun _ _ => 0) := by rw [eg3]; exact (q0_20.k (by omega)).k (by omega)
  have q1_3 : PG g3 (t + 11) (fun k => if k = 0 then 3 else if k = 1 then 3 else 0) (fun _ _ => 0) := by rw [eg3]; exact (q1_20.k (by omega)).k (by omega)
  have q2_3 : SC g3 (t + 21) (fun _ => 0) (fun _ _ => 0) := by rw [eg3]; exact (q2_20.k (by omega)).k (by omega)
  have sm3 : sm t (t + 70) hm g3 := by rw [eg3]; exact (smh2.up (by omega)).up (by omega)
  refine r_isn1 dX9_init_42 M9_21 Y62 (Nat.le_of_ble_eq_true rfl) (Nat.le_of_ble_eq_true rfl) (Nat.le_of_ble_eq_true rfl) ?_
  refine c_scInit hn3 (fun h3 p3 s3 => ?_)
  have ht3 : h3 t = some (.inr (9, [.ref (t + 1), .ref (t + 11), .ref (t + 21), .null, .null, .null, .null, .null, .null, .null, .int 0, .int 0])) := (s3 t (by omega)).trans hr3
  have smh3 : sm t (t + 70) hm h3 := sm3.trans (s3.wide (by omega))
  have q0_30 := q0_3.s s3 (by omega)
  have q1_30 := q1_3.s s3 (by omega)
  have q2_30 := q2_3.s s3 (by omega)
  have q3_30 := p3
  simp (disch := first | omega | (simp only [List.length_cons, List.length_nil]; omega)) only [r_putf dX9_init_45 F9_26, r_al0 dX9_init_48, r_new dX9_init_49 N9_29, r_dup_i dX9_init_52, r_dup_r dX9_init_52, List.cons_append, List.nil_append, Nat.reduceAdd, Option.toList, fit_o, ft9_3, pk_un, pk_us, px9_3, rd_up_eq, rd_up_ne, true_and, up_eq, up_ne, up_up, z0, ht3, rd_own ht3, N8v, Nat.reduceLeDiff, Nat.reduceAdd, true_and, and_true, and_self, Nat.add_assoc]
  obtain ⟨g4, eg4⟩ : ∃ H : HM, H = im_up (im_up h3 t (.inr (9, [.ref (t + 1), .ref (t + 11), .ref (t + 21), .ref (t + 32), .null, .null, .null, .null, .null, .null, .int 0, .int 0]))) (t + 43) (.inr (8, im_dfs 8)) := ⟨_, rfl⟩
  rw [← eg4]
  have hr4 : g4 t = some (.inr (9, [.ref (t + 1), .ref (t + 11), .ref (t + 21), .ref (t + 32), .null, .null, .null, .null, .null, .null, .int 0, .int 0])) := by rw [eg4, up_ne (by omega)]; exact up_eq _ _ _
  have hn4 : g4 (t + 43) = some (.inr (8, im_dfs 8)) := by rw [eg4, up_eq]
  have q0_4 : PG g4 (t + 1) (fun k => if k = 0 then 3 else if k = 1 then 3 else 0) (fun _ _ => 0) := by rw [eg4]; exact (q0_30.k (by omega)).k (by omega)
  have q1_4 : PG g4 (t + 11) (fun k => if k = 0 then 3 else if k = 1 then 3 else 0) (fun _ _ => 0) := by rw [eg4]; exact (q1_30.k (by omega)).k (by omega)
  have q2_4 : SC g4 (t + 21) (fun _ => 0) (fun _ _ => 0) := by rw [eg4]; exact (q2_30.k (by omega)).k (by omega)
  have q3_4 : SC g4 (t + 32) (fun _ => 0) (fun _ _ => 0) := by rw [eg4]; exact (q3_30.k (by omega)).k (by omega)
  have sm4 : sm t (t + 70) hm g4 := by rw [eg4]; exact (smh3.up (by omega)).up (by omega)
  refine r_isn1 dX9_init_53 M9_31 Y97 (Nat.le_of_ble_eq_true rfl) (Nat.le_of_ble_eq_true rfl) (Nat.le_of_ble_eq_true rfl) ?_
  refine c_tpInit hn4 (fun h4 p4 s4 => ?_)
  have ht4 : h4 t = some (.inr (9, [.ref (t + 1), .ref (t + 11), .ref (t + 21), .ref (t + 32), .null, .null, .null, .null, .null, .null, .int 0, .int 0])) := (s4 t (by omega)).trans hr4
  have smh4 : sm t (t + 70) hm h4 := sm4.trans (s4.wide (by omega))
  have q0_40 := q0_4.s s4 (by omega)
  have q1_40 := q1_4.s s4 (by omega)
  have q2_40 := q2_4.s s4 (by omega)
  have q3_40 := q3_4.s s4 (by omega)
  have q4_40 := p4
  simp (disch := first | omega | (simp only [List.length_cons, List.length_nil]; omega)) only [r_putff dX9_init_56 F9_32, r_al0 dX9_init_59, r_new dX9_init_60 N9_36, r_dup_i dX9_init_63, r_dup_r dX9_init_63, List.cons_append, List.nil_append, Nat.reduceAdd, Option.toList, and_true, fit_o, ft9_4, pk_un, pk_us, px9_4, rd_up_eq, rd_up_ne, true_and, up_eq, up_ne, up_up, z0, ht4, rd_own ht4, N3v, Nat.reduceLeDiff, Nat.reduceAdd, true_and, and_true, and_self, Nat.add_assoc]
  obtain ⟨g5, eg5⟩ : ∃ H : HM, H = im_up (im_up h4 t (.inr (9, [.ref (t + 1), .ref (t + 11), .ref (t + 21), .ref (t + 32), .ref (t + 43), .null, .null, .null, .null, .null, .int 0, .int 0]))) (t + 45) (.inr (3, im_dfs 3)) := ⟨_, rfl⟩
  rw [← eg5]
  have hr5 : g5 t = some (.inr (9, [.ref (t + 1), .ref (t + 11), .ref (t + 21), .ref (t + 32), .ref (t + 43), .null, .null, .null, .null, .null, .int 0, .int 0])) := by rw [eg5, up_ne (by omega)]; exact up_eq _ _ _
  have hn5 : g5 (t + 45) = some (.inr (3, im_dfs 3)) := by rw [eg5, up_eq]
  have q0_5 : PG g5 (t + 1) (fun k => if k = 0 then 3 else if k = 1 then 3 else 0) (fun _ _ => 0) := by rw [eg5]; exact (q0_40.k (by omega)).k (by omega)
  have q1_5 : PG g5 (t + 11) (fun k => if k = 0 then 3 else if k = 1 then 3 else 0) (fun _ _ => 0) := by rw [eg5]; exact (q1_40.k (by omega)).k (by omega)
  have q2_5 : SC g5 (t + 21) (fun _ => 0) (fun _ _ => 0) := by rw [eg5]; exact (q2_40.k (by omega)).k (by omega)
  have q3_5 : SC g5 (t + 32) (fun _ => 0) (fun _ _ => 0) := by rw [eg5]; exact (q3_40.k (by omega)).k (by omega)
  have q4_5 : TP g5 (t + 43) (fun _ => 0) (fun _ _ => 0) := by rw [eg5]; exact (q4_40.k (by omega)).k (by omega)
  have sm5 : sm t (t + 70) hm g5 := by rw [eg5]; exact (smh4.up (by omega)).up (by omega)
  refine r_isn1 dX9_init_64 M9_38 Y55 (Nat.le_of_ble_eq_true rfl) (Nat.le_of_ble_eq_true rfl) (Nat.le_of_ble_eq_true rfl) ?_
  refine c_rgInit hn5 (fun h5 p5 s5 => ?_)
  have ht5 : h5 t = some (.inr (9, [.ref (t + 1), .ref (t + 11), .ref (t + 21), .ref (t + 32), .ref (t + 43), .null, .null, .null, .null, .null, .int 0, .int 0])) := (s5 t (by omega)).trans hr5
  have smh5 : sm t (t + 70) hm h5 := sm5.trans (s5.wide (by omega))
  have q0_50 := q0_5.s s5 (by omega)
  have q1_50 := q1_5.s s5 (by omega)
  have q2_50 := q2_5.s s5 (by omega)
  have q3_50 := q3_5.s s5 (by omega)
  have q4_50 := q4_5.s s5 (by omega)
  have q5_50 := p5
  simp (disch := first | omega | (simp only [List.length_cons, List.length_nil]; omega)) only [r_putff dX9_init_67 F9_39, r_al0 dX9_init_70, r_new dX9_init_71 N9_43, r_dup_i dX9_init_74, r_dup_r dX9_init_74, List.cons_append, List.nil_append, Nat.reduceAdd, Option.toList, and_true, fit_o, ft9_5, pk_un, pk_us, px9_5, rd_up_eq, rd_up_ne, true_and, up_eq, up_ne, up_up, z0, ht5, rd_own ht5, N0v, Nat.reduceLeDiff, Nat.reduceAdd, true_and, and_true, and_self, Nat.add_assoc]
  obtain ⟨g6, eg6⟩ : ∃ H : HM, H = im_up (im_up h5 t (.inr (9, [.ref (t + 1), .ref (t + 11), .ref (t + 21), .ref (t + 32), .ref (t + 43), .ref (t + 45), .null, .null, .null, .null, .int 0, .int 0]))) (t + 48) (.inr (0, im_dfs 0)) := ⟨_, rfl⟩
  rw [← eg6]
  have hr6 : g6 t = some (.inr (9, [.ref (t + 1), .ref (t + 11), .ref (t + 21), .ref (t + 32), .ref (t + 43), .ref (t + 45), .null, .null, .null, .null, .int 0, .int 0])) := by rw [eg6, up_ne (by omega)]; exact up_eq _ _ _
  have hn6 : g6 (t + 48) = some (.inr (0, im_dfs 0)) := by rw [eg6, up_eq]
  have q0_6 : PG g6 (t + 1) (fun k => if k = 0 then 3 else if k = 1 then 3 else 0) (fun _ _ => 0) := by rw [eg6]; exact (q0_50.k (by omega)).k (by omega)
  have q1_6 : PG g6 (t + 11) (fun k => if k = 0 then 3 else if k = 1 then 3 else 0) (fun _ _ => 0) := by rw [eg6]; exact (q1_50.k (by omega)).k (by omega)
  have q2_6 : SC g6 (t + 21) (fun _ => 0) (fun _ _ => 0) := by rw [eg6]; exact (q2_50.k (by omega)).k (by omega)
  have q3_6 : SC g6 (t + 32) (fun _ => 0) (fun _ _ => 0) := by rw [eg6]; exact (q3_50.k (by omega)).k (by omega)
  have q4_6 : TP g6 (t + 43) (fun _ => 0) (fun _ _ => 0) := by rw [eg6]; exact (q4_50.k (by omega)).k (by omega)
  have q5_6 : RG g6 (t + 45) (fun _ => 0) (fun _ _ => 0) := by rw [eg6]; exact (q5_50.k (by omega)).k (by omega)
  have sm6 : sm t (t + 70) hm g6 := by rw [eg6]; exact (smh5.up (by omega)).up (by omega)
  refine r_isn1 dX9_init_75 M9_45 Y0 (Nat.le_of_ble_eq_true rfl) (Nat.le_of_ble_eq_true rfl) (Nat.le_of_ble_eq_true rfl) ?_
  refine c_acInit hn6 (fun h6 p6 s6 => ?_)
  have ht6 : h6 t = some (.inr (9, [.ref (t + 1), .ref (t + 11), .ref (t + 21), .ref (t + 32), .ref (t + 43), .ref (t + 45), .null, .null, .null, .null, .int 0, .int 0])) := (s6 t (by omega)).trans hr6
  have smh6 : sm t (t + 70) hm h6 := sm6.trans (s6.wide (by omega))
  have q0_60 := q0_6.s s6 (by omega)
  have q1_60 := q1_6.s s6 (by omega)
  have q2_60 := q2_6.s s6 (by omega)
  have q3_60 := q3_6.s s6 (by omega)
  have q4_60 := q4_6.s s6 (by omega)
  have q5_60 := q5_6.s s6 (by omega)
  have q6_60 := p6
  simp (disch := first | omega | (simp only [List.length_cons, List.length_nil]; omega)) only [r_putff dX9_init_78 F9_46, r_al0 dX9_init_81, r_new dX9_init_82 N9_50, r_dup_i dX9_init_85, r_dup_r dX9_init_85, List.cons_append, List.nil_append, Nat.reduceAdd, Option.toList, and_true, fit_o, ft9_6, pk_un, pk_us, px9_6, rd_up_eq, rd_up_ne, true_and, up_eq, up_ne, up_up, z0, ht6, rd_own ht6, N7v, Nat.reduceLeDiff, Nat.reduceAdd, true_and, and_true, and_self, Nat.add_assoc]
  obtain ⟨g7, eg7⟩ : ∃ H : HM, H = im_up (im_up h6 t (.inr (9, [.ref (t + 1), .ref (t + 11), .ref (t + 21), .ref (t + 32), .ref (t + 43), .ref (t + 45), .ref (t + 48), .null, .null, .null, .int 0, .int 0]))) (t + 52) (.inr (7, im_dfs 7)) := ⟨_, rfl⟩
  rw [← eg7]
  have hr7 : g7 t = some (.inr (9, [.ref (t + 1), .ref (t + 11), .ref (t + 21), .ref (t + 32), .ref (t + 43), .ref (t + 45), .ref (t + 48), .null, .null, .null, .int 0, .int 0])) := by rw [eg7, up_ne (by omega)]; exact up_eq _ _ _
  have hn7 : g7 (t + 52) = some (.inr (7, im_dfs 7)) := by rw [eg7, up_eq]
  have q0_7 : PG g7 (t + 1) (fun k => if k = 0 then 3 else if k = 1 then 3 else 0) (fun _ _ => 0) := by rw [eg7]; exact (q0_60.k (by omega)).k (by omega)
  have q1_7 : PG g7 (t + 11) (fun k => if k = 0 then 3 else if k = 1 then 3 else 0) (fun _ _ => 0) := by rw [eg7]; exact (q1_60.k (by omega)).k (by omega)
  have q2_7 : SC g7 (t + 21) (fun _ => 0) (fun _ _ => 0) := by rw [eg7]; exact (q2_60.k (by omega)).k (by omega)
  have q3_7 : SC g7 (t + 32) (fun _ => 0) (fun _ _ => 0) := by rw [eg7]; exact (q3_60.k (by omega)).k (by omega)
  have q4_7 : TP g7 (t + 43) (fun _ => 0) (fun _ _ => 0) := by rw [eg7]; exact (q4_60.k (by omega)).k (by omega)
  have q5_7 : RG g7 (t + 45) (fun _ => 0) (fun _ _ => 0) := by rw [eg7]; exact (q5_60.k (by omega)).k (by omega)
  have q6_7 : AC g7 (t + 48) (fun _ => 0) (fun _ _ => 0) := by rw [eg7]; exact (q6_60.k (by omega)).k (by omega)
  have sm7 : sm t (t + 70) hm g7 := by rw [eg7]; exact (smh6.up (by omega)).up (by omega)
  refine r_isn1 dX9_init_86 M9_52 Y84 (Nat.le_of_ble_eq_true rfl) (Nat.le_of_ble_eq_true rfl) (Nat.le_of_ble_eq_true rfl) ?_
  refine c_taInit hn7 (fun h7 p7 s7 => ?_)
  have ht7 : h7 t = some (.inr (9, [.ref (t + 1), .ref (t + 11), .ref (t + 21), .ref (t + 32), .ref (t + 43), .ref (t + 45), .ref (t + 48), .null, .null, .null, .int 0, .int 0])) := (s7 t (by omega)).trans hr7
  have smh7 : sm t (t + 70) hm h7 := sm7.trans (s7.wide (by omega))
  have q0_70 := q0_7.s s7 (by omega)
  have q1_70 := q1_7.s s7 (by omega)
  have q2_70 := q2_7.s s7 (by omega)
  have q3_70 := q3_7.s s7 (by omega)
  have q4_70 := q4_7.s s7 (by omega)
  have q5_70 := q5_7.s s7 (by omega)
  have q6_70 := q6_7.s s7 (by omega)
  have q7_70 := p7
  simp (disch := first | omega | (simp only [List.length_cons, List.length_nil]; omega)) only [r_putff dX9_init_89 F9_53, r_al0 dX9_init_92, r_new dX9_init_93 N9_57, r_dup_i dX9_init_96, r_dup_r dX9_init_96, List.cons_append, List.nil_append, Nat.reduceAdd, Option.toList, and_true, fit_o, ft9_7, pk_un, pk_us, px9_7, rd_up_eq, rd_up_ne, true_and, up_eq, up_ne, up_up, z0, ht7, rd_own ht7, N6v, Nat.reduceLeDiff, Nat.reduceAdd, true_and, and_true, and_self, Nat.add_assoc]
  obtain ⟨g8, eg8⟩ : ∃ H : HM, H = im_up (im_up h7 t (.inr (9, [.ref (t + 1), .ref (t + 11), .ref (t + 21), .ref (t + 32), .ref (t + 43), .ref (t + 45), .ref (t + 48), .ref (t + 52), .null, .null, .int 0, .int 0]))) (t + 57) (.inr (6, im_dfs 6)) := ⟨_, rfl⟩
  rw [← eg8]
  have hr8 : g8 t = some (.inr (9, [.ref (t + 1), .ref (t + 11), .ref (t + 21), .ref (t + 32), .ref (t + 43), .ref (t + 45), .ref (t + 48), .ref (t + 52), .null, .null, .int 0, .int 0])) := by rw [eg8, up_ne (by omega)]; exact up_eq _ _ _
  have hn8 : g8 (t + 57) = some (.inr (6, im_dfs 6)) := by rw [eg8, up_eq]
  have q0_8 : PG g8 (t + 1) (fun k => if k = 0 then 3 else if k = 1 then 3 else 0) (fun _ _ => 0) := by rw [eg8]; exact (q0_70.k (by omega)).k (by omega)
  have q1_8 : PG g8 (t + 11) (fun k => if k = 0 then 3 else if k = 1 then 3 else 0) (fun _ _ => 0) := by rw [eg8]; exact (q1_70.k (by omega)).k (by omega)
  have q2_8 : SC g8 (t + 21) (fun _ => 0) (fun _ _ => 0) := by rw [eg8]; exact (q2_70.k (by omega)).k (by omega)
  have q3_8 : SC g8 (t + 32) (fun _ => 0) (fun _ _ => 0) := by rw [eg8]; exact (q3_70.k (by omega)).k (by omega)
  have q4_8 : TP g8 (t + 43) (fun _ => 0) (fun _ _ => 0) := by rw [eg8]; exact (q4_70.k (by omega)).k (by omega)
  have q5_8 : RG g8 (t + 45) (fun _ => 0) (fun _ _ => 0) := by rw [eg8]; exact (q5_70.k (by omega)).k (by omega)
  have q6_8 : AC g8 (t + 48) (fun _ => 0) (fun _ _ => 0) := by rw [eg8]; exact (q6_70.k (by omega)).k (by omega)
  have q7_8 : TA g8 (t + 52) (fun k => if k = 0 then 1 else if k = 1 then 1 else if k = 2 then 1 else 0) (fun _ _ => 0) (fun _ => 0) := by rw [eg8]; exact (q7_70.k (by omega)).k (by omega)
  have sm8 : sm t (t + 70) hm g8 := by rw [eg8]; exact (smh7.up (by omega)).up (by omega)
  refine r_isn1 dX9_init_97 M9_59 Y81 (Nat.le_of_ble_eq_true rfl) (Nat.le_of_ble_eq_true rfl) (Nat.le_of_ble_eq_true rfl) ?_
  refine c_siInit hn8 (fun h8 p8 s8 => ?_)
  have ht8 : h8 t = some (.inr (9, [.ref (t + 1), .ref (t + 11), .ref (t + 21), .ref (t + 32), .ref (t + 43), .ref (t + 45), .ref (t + 48), .ref (t + 52), .null, .null, .int 0, .int 0])) := (s8 t (by omega)).trans hr8
  have smh8 : sm t (t + 70) hm h8 := sm8.trans (s8.wide (by omega))
  have q0_80 := q0_8.s s8 (by omega)
  have q1_80 := q1_8.s s8 (by omega)
  have q2_80 := q2_8.s s8 (by omega)
  have q3_80 := q3_8.s s8 (by omega)
  have q4_80 := q4_8.s s8 (by omega)
  have q5_80 := q5_8.s s8 (by omega)
  have q6_80 := q6_8.s s8 (by omega)
  have q7_80 := q7_8.s s8 (by omega)
  have q8_80 := p8
  simp (disch := first | omega | (simp only [List.length_cons, List.length_nil]; omega)) only [r_putff dX9_init_100 F9_60, r_al0 dX9_init_103, r_iconst dX9_init_104 ki4, r_anew dX9_init_105 N9_64, r_putff dX9_init_108 F9_66, r_iconst dX9_init_111 ki0, r_is1 dX9_init_112, List.cons_append, List.nil_append, Nat.reduceAdd, Option.toList, and_true, cat_f, cat_i, cat_n, cat_r, eq_self, fit_a, fit_o, ft9_8, ft9_9, pk_un, pk_us, px9_8, px9_9, rd_up_eq, rd_up_ne, true_and, up_eq, up_ne, up_up, z0, ht8, rd_own ht8, Nat.reduceLeDiff, Nat.reduceAdd, true_and, and_true, and_self, Nat.add_assoc, cl4, nn4, not_false_eq_true]
  obtain ⟨zh0, ez0⟩ : ∃ H : HM, H = im_up (im_up (im_up h8 t (.inr (9, [.ref (t + 1), .ref (t + 11), .ref (t + 21), .ref (t + 32), .ref (t + 43), .ref (t + 45), .ref (t + 48), .ref (t + 52), .ref (t + 57), .null, .int 0, .int 0]))) (t + 61) (.inl (.object (im_cn 4), 4, .inr (.inr (.inr (.inr fun _ => none)))))) t (.inr (9, [.ref (t + 1), .ref (t + 11), .ref (t + 21), .ref (t + 32), .ref (t + 43), .ref (t + 45), .ref (t + 48), .ref (t + 52), .ref (t + 57), .ref (t + 61), .int 0, .int 0])) := ⟨_, rfl⟩
  rw [← ez0]
  have zr0 : zh0 t = some (.inr (9, [.ref (t + 1), .ref (t + 11), .ref (t + 21), .ref (t + 32), .ref (t + 43), .ref (t + 45), .ref (t + 48), .ref (t + 52), .ref (t + 57), .ref (t + 61), .int 0, .int 0])) := by rw [ez0]; exact up_eq _ _ _
  have za0 : zh0 (t + 61) = some (.inl (.object (im_cn 4), 4, .inr (.inr (.inr (.inr fun _ => none))))) := by rw [ez0, up_ne (by omega)]; exact up_eq _ _ _
  have w0_0 : PG zh0 (t + 1) (fun k => if k = 0 then 3 else if k = 1 then 3 else 0) (fun _ _ => 0) := by rw [ez0]; exact ((q0_80.k (by omega)).k (by omega)).k (by omega)
  have w1_0 : PG zh0 (t + 11) (fun k => if k = 0 then 3 else if k = 1 then 3 else 0) (fun _ _ => 0) := by rw [ez0]; exact ((q1_80.k (by omega)).k (by omega)).k (by omega)
  have w2_0 : SC zh0 (t + 21) (fun _ => 0) (fun _ _ => 0) := by rw [ez0]; exact ((q2_80.k (by omega)).k (by omega)).k (by omega)
  have w3_0 : SC zh0 (t + 32) (fun _ => 0) (fun _ _ => 0) := by rw [ez0]; exact ((q3_80.k (by omega)).k (by omega)).k (by omega)
  have w4_0 : TP zh0 (t + 43) (fun _ => 0) (fun _ _ => 0) := by rw [ez0]; exact ((q4_80.k (by omega)).k (by omega)).k (by omega)
  have w5_0 : RG zh0 (t + 45) (fun _ => 0) (fun _ _ => 0) := by rw [ez0]; exact ((q5_80.k (by omega)).k (by omega)).k (by omega)
  have w6_0 : AC zh0 (t + 48) (fun _ => 0) (fun _ _ => 0) := by rw [ez0]; exact ((q6_80.k (by omega)).k (by omega)).k (by omega)
  have w7_0 : TA zh0 (t + 52) (fun k => if k = 0 then 1 else if k = 1 then 1 else if k = 2 then 1 else 0) (fun _ _ => 0) (fun _ => 0) := by rw [ez0]; exact ((q7_80.k (by omega)).k (by omega)).k (by omega)
  have w8_0 : SI zh0 (t + 57) (fun k => if k = 0 then 1 else 0) (fun _ _ => 0) := by rw [ez0]; exact ((q8_80.k (by omega)).k (by omega)).k (by omega)
  have y0 : sm t (t + 70) hm zh0 := by rw [ez0]; exact ((smh8.up (by omega)).up (by omega)).up (by omega)
  simp (disch := first | omega | (simp only [List.length_cons, List.length_nil]; omega)) only [r_il1 dX9_init_113, r_iconst dX9_init_114 ki4, r_ic_geB (tgt := 137) dX9_init_115 rfl, r_al0 dX9_init_118, r_getf dX9_init_119 F9_66, r_il1 dX9_init_122, r_new dX9_init_123 N9_64, r_dup_i dX9_init_126, r_dup_r dX9_init_126, List.cons_append, List.nil_append, Nat.reduceAdd, Option.toList, gx9_9, z0, zr0, rd_own zr0, N4v, Nat.reduceLeDiff, Nat.reduceAdd, true_and, and_true, and_self, Nat.add_assoc]
  refine ⟨fun h => absurd h (by decide), fun _ => ?_⟩
  obtain ⟨o0, eo0⟩ : ∃ H : HM, H = im_up zh0 (t + 62) (.inr (4, im_dfs 4)) := ⟨_, rfl⟩
  rw [← eo0]
  have on0 : o0 (t + 62) = some (.inr (4, im_dfs 4)) := by rw [eo0, up_eq]
  refine r_isn1 dX9_init_127 M9_70 Y58 (Nat.le_of_ble_eq_true rfl) (Nat.le_of_ble_eq_true rfl) (Nat.le_of_ble_eq_true rfl) ?_
  refine c_rwInit on0 (fun k0 rp0 rs0 => ?_)
  have kr0 : k0 t = some (.inr (9, [.ref (t + 1), .ref (t + 11), .ref (t + 21), .ref (t + 32), .ref (t + 43), .ref (t + 45), .ref (t + 48), .ref (t + 52), .ref (t + 57), .ref (t + 61), .int 0, .int 0])) := (rs0 t (by omega)).trans (by rw [eo0, up_ne (by omega)]; exact zr0)
  have ka0 : k0 (t + 61) = some (.inl (.object (im_cn 4), 4, .inr (.inr (.inr (.inr (fun _ => none)))))) := (rs0 (t + 61) (by omega)).trans (by rw [eo0, up_ne (by omega)]; exact za0)
  have kv0 := rp0.r
  simp (disch := first | omega | (simp only [List.length_cons, List.length_nil]; omega)) only [r_aast dX9_init_130, r_ii1 dX9_init_131 kn1, r_gotoB (tgt := 113) dX9_init_134 rfl, List.cons_append, List.nil_append, Nat.reduceAdd, Option.toList, cat_f, cat_i, cat_n, cat_r, eq_self, pk_un, pk_us, rd_up_eq, rd_up_ne, sR, true_and, up_eq, up_ne, up_up, z0, ka0, kv0, sR]
  refine ⟨⟨vp_in_nI (show 0 < 4 by omega) (by omega), by decide, trivial⟩, ?_⟩
  rw [show ((0 : Int32)).toNatClampNeg = 0 from rfl, show (0 : Int32) + 1 = 1 from rfl]
  obtain ⟨zh1, ez1⟩ : ∃ H : HM, H = im_up k0 (t + 61) (.inl (.object (im_cn 4), 4, .inr (.inr (.inr (.inr (va_up (fun _ => none) 0 (some (t + 62)))))))) := ⟨_, rfl⟩
  show E1 X EV (d + 1) 9 69 10539 none true cX9_init Q 113 [.ref t, .int 1] [] 63 10491 (im_up k0 (t + 61) (.inl (.object (im_cn 4), 4, .inr (.inr (.inr (.inr (va_up (fun _ => none) 0 (some (t + 62))))))))) (t + 64)
  rw [← ez1]
  have zr1 : zh1 t = some (.inr (9, [.ref (t + 1), .ref (t + 11), .ref (t + 21), .ref (t + 32), .ref (t + 43), .ref (t + 45), .ref (t + 48), .ref (t + 52), .ref (t + 57), .ref (t + 61), .int 0, .int 0])) := by rw [ez1, up_ne (by omega)]; exact kr0
  have za1 : zh1 (t + 61) = some (.inl (.object (im_cn 4), 4, .inr (.inr (.inr (.inr (va_up (fun _ => none) 0 (some (t + 62)))))))) := by rw [ez1]; exact up_eq _ _ _
  have w0_1 : PG zh1 (t + 1) (fun k => if k = 0 then 3 else if k = 1 then 3 else 0) (fun _ _ => 0) := by rw [ez1]; exact (((eo0 ▸ w0_0.k (by omega) : PG o0 (t + 1) (fun k => if k = 0 then 3 else if k = 1 then 3 else 0) (fun _ _ => 0))).s rs0 (by omega)).k (by omega)
  have w1_1 : PG zh1 (t + 11) (fun k => if k = 0 then 3 else if k = 1 then 3 else 0) (fun _ _ => 0) := by rw [ez1]; exact (((eo0 ▸ w1_0.k (by omega) : PG o0 (t + 11) (fun k => if k = 0 then 3 else if k = 1 then 3 else 0) (fun _ _ => 0))).s rs0 (by omega)).k (by omega)
  have w2_1 : SC zh1 (t + 21) (fun _ => 0) (fun _ _ => 0) := by rw [ez1]; exact (((eo0 ▸ w2_0.k (by omega) : SC o0 (t + 21) (fun _ => 0) (fun _ _ => 0))).s rs0 (by omega)).k (by omega)
  have w3_1 : SC zh1 (t + 32) (fun _ => 0) (fun _ _ => 0) := by rw [ez1]; exact (((eo0 ▸ w3_0.k (by omega) : SC o0 (t + 32) (fun _ => 0) (fun _ _ => 0))).s rs0 (by omega)).k (by omega)
  have w4_1 : TP zh1 (t + 43) (fun _ => 0) (fun _ _ => 0) := by rw [ez1]; exact (((eo0 ▸ w4_0.k (by omega) : TP o0 (t + 43) (fun _ => 0) (fun _ _ => 0))).s rs0 (by omega)).k (by omega)
  have w5_1 : RG zh1 (t + 45) (fun _ => 0) (fun _ _ => 0) := by rw [ez1]; exact (((eo0 ▸ w5_0.k (by omega) : RG o0 (t + 45) (fun _ => 0) (fun _ _ => 0))).s rs0 (by omega)).k (by omega)
  have w6_1 : AC zh1 (t + 48) (fun _ => 0) (fun _ _ => 0) := by rw [ez1]; exact (((eo0 ▸ w6_0.k (by omega) : AC o0 (t + 48) (fun _ => 0) (fun _ _ => 0))).s rs0 (by omega)).k (by omega)
  have w7_1 : TA zh1 (t + 52) (fun k => if k = 0 then 1 else if k = 1 then 1 else if k = 2 then 1 else 0) (fun _ _ => 0) (fun _ => 0) := by rw [ez1]; exact (((eo0 ▸ w7_0.k (by omega) : TA o0 (t + 52) (fun k => if k = 0 then 1 else if k = 1 then 1 else if k = 2 then 1 else 0) (fun _ _ => 0) (fun _ => 0))).s rs0 (by omega)).k (by omega)
  have w8_1 : SI zh1 (t + 57) (fun k => if k = 0 then 1 else 0) (fun _ _ => 0) := by rw [ez1]; exact (((eo0 ▸ w8_0.k (by omega) : SI o0 (t + 57) (fun k => if k = 0 then 1 else 0) (fun _ _ => 0))).s rs0 (by omega)).k (by omega)
  have x0_1 : RW zh1 (t + 62) (fun _ => 0) (fun _ _ => 0) := by rw [ez1]; exact rp0.k (by omega)
  have y1 : sm t (t + 70) hm zh1 := by rw [ez1]; exact (((eo0 ▸ y0.up (by omega) : sm t (t + 70) hm o0)).trans (rs0.wide (by omega))).up (by omega)
  simp (disch := first | omega | (simp only [List.length_cons, List.length_nil]; omega)) only [r_il1 dX9_init_113, r_iconst dX9_init_114 ki4, r_ic_geB (tgt := 137) dX9_init_115 rfl, r_al0 dX9_init_118, r_getf dX9_init_119 F9_66, r_il1 dX9_init_122, r_new dX9_init_123 N9_64, r_dup_i dX9_init_126, r_dup_r dX9_init_126, List.cons_append, List.nil_append, Nat.reduceAdd, Option.toList, gx9_9, z0, zr1, rd_own zr1, N4v, Nat.reduceLeDiff, Nat.reduceAdd, true_and, and_true, and_self, Nat.add_assoc]
  refine ⟨fun h => absurd h (by decide), fun _ => ?_⟩
  obtain ⟨o1, eo1⟩ : ∃ H : HM, H = im_up zh1 (t + 64) (.inr (4, im_dfs 4)) := ⟨_, rfl⟩
  rw [← eo1]
  have on1 : o1 (t + 64) = some (.inr (4, im_dfs 4)) := by rw [eo1, up_eq]
  refine r_isn1 dX9_init_127 M9_70 Y58 (Nat.le_of_ble_eq_true rfl) (Nat.le_of_ble_eq_true rfl) (Nat.le_of_ble_eq_true rfl) ?_
  refine c_rwInit on1 (fun k1 rp1 rs1 => ?_)
  have kr1 : k1 t = some (.inr (9, [.ref (t + 1), .ref (t + 11), .ref (t + 21), .ref (t + 32), .ref (t + 43), .ref (t + 45), .ref (t + 48), .ref (t + 52), .ref (t + 57), .ref (t + 61), .int 0, .int 0])) := (rs1 t (by omega)).trans (by rw [eo1, up_ne (by omega)]; exact zr1)
  have ka1 : k1 (t + 61) = some (.inl (.object (im_cn 4), 4, .inr (.inr (.inr (.inr (va_up (fun _ => none) 0 (some (t + 62)))))))) := (rs1 (t + 61) (by omega)).trans (by rw [eo1, up_ne (by omega)]; exact za1)
  have kv1 := rp1.r
  simp (disch := first | omega | (simp only [List.length_cons, List.length_nil]; omega)) only [r_aast dX9_init_130, r_ii1 dX9_init_131 kn1, r_gotoB (tgt := 113) dX9_init_134 rfl, List.cons_append, List.nil_append, Nat.reduceAdd, Option.toList, cat_f, cat_i, cat_n, cat_r, eq_self, pk_un, pk_us, rd_up_eq, rd_up_ne, sR, true_and, up_eq, up_ne, up_up, z0, ka1, kv1, sR]
  refine ⟨⟨vp_in_nI (show 1 < 4 by omega) (by omega), by decide, trivial⟩, ?_⟩
  rw [show ((1 : Int32)).toNatClampNeg = 1 from rfl, show (1 : Int32) + 1 = 2 from rfl]
  obtain ⟨zh2, ez2⟩ : ∃ H : HM, H = im_up k1 (t + 61) (.inl (.object (im_cn 4), 4, .inr (.inr (.inr (.inr (va_up (va_up (fun _ => none) 0 (some (t + 62))) 1 (some (t + 64)))))))) := ⟨_, rfl⟩
  show E1 X EV (d + 1) 9 69 10539 none true cX9_init Q 113 [.ref t, .int 2] [] 65 10507 (im_up k1 (t + 61) (.inl (.object (im_cn 4), 4, .inr (.inr (.inr (.inr (va_up (va_up (fun _ => none) 0 (some (t + 62))) 1 (some (t + 64))))))))) (t + 66)
  rw [← ez2]
  have zr2 : zh2 t = some (.inr (9, [.ref (t + 1), .ref (t + 11), .ref (t + 21), .ref (t + 32), .ref (t + 43), .ref (t + 45), .ref (t + 48), .ref (t + 52), .ref (t + 57), .ref (t + 61), .int 0, .int 0])) := by rw [ez2, up_ne (by omega)]; exact kr1
  have za2 : zh2 (t + 61) = some (.inl (.object (im_cn 4), 4, .inr (.inr (.inr (.inr (va_up (va_up (fun _ => none) 0 (some (t + 62))) 1 (some (t + 64)))))))) := by rw [ez2]; exact up_eq _ _ _
  have w0_2 : PG zh2 (t + 1) (fun k => if k = 0 then 3 else if k = 1 then 3 else 0) (fun _ _ => 0) := by rw [ez2]; exact (((eo1 ▸ w0_1.k (by omega) : PG o1 (t + 1) (fun k => if k = 0 then 3 else if k = 1 then 3 else 0) (fun _ _ => 0))).s rs1 (by omega)).k (by omega)
  have w1_2 : PG zh2 (t + 11) (fun k => if k = 0 then 3 else if k = 1 then 3 else 0) (fun _ _ => 0) := by rw [ez2]; exact (((eo1 ▸ w1_1.k (by omega) : PG o1 (t + 11) (fun k => if k = 0 then 3 else if k = 1 then 3 else 0) (fun _ _ => 0))).s rs1 (by omega)).k (by omega)
  have w2_2 : SC zh2 (t + 21) (fun _ => 0) (fun _ _ => 0) := by rw [ez2]; exact (((eo1 ▸ w2_1.k (by omega) : SC o1 (t + 21) (fun _ => 0) (fun _ _ => 0))).s rs1 (by omega)).k (by omega)
  have w3_2 : SC zh2 (t + 32) (fun _ => 0) (fun _ _ => 0) := by rw [ez2]; exact (((eo1 ▸ w3_1.k (by omega) : SC o1 (t + 32) (fun _ => 0) (fun _ _ => 0))).s rs1 (by omega)).k (by omega)
  have w4_2 : TP zh2 (t + 43) (fun _ => 0) (fun _ _ => 0) := by rw [ez2]; exact (((eo1 ▸ w4_1.k (by omega) : TP o1 (t + 43) (fun _ => 0) (fun _ _ => 0))).s rs1 (by omega)).k (by omega)
  have w5_2 : RG zh2 (t + 45) (fun _ => 0) (fun _ _ => 0) := by rw [ez2]; exact (((eo1 ▸ w5_1.k (by omega) : RG o1 (t + 45) (fun _ => 0) (fun _ _ => 0))).s rs1 (by omega)).k (by omega)
  have w6_2 : AC zh2 (t + 48) (fun _ => 0) (fun _ _ => 0) := by rw [ez2]; exact (((eo1 ▸ w6_1.k (by omega) : AC o1 (t + 48) (fun _ => 0) (fun _ _ => 0))).s rs1 (by omega)).k (by omega)
  have w7_2 : TA zh2 (t + 52) (fun k => if k = 0 then 1 else if k = 1 then 1 else if k = 2 then 1 else 0) (fun _ _ => 0) (fun _ => 0) := by rw [ez2]; exact (((eo1 ▸ w7_1.k (by omega) : TA o1 (t + 52) (fun k => if k = 0 then 1 else if k = 1 then 1 else if k = 2 then 1 else 0) (fun _ _ => 0) (fun _ => 0))).s rs1 (by omega)).k (by omega)
  have w8_2 : SI zh2 (t + 57) (fun k => if k = 0 then 1 else 0) (fun _ _ => 0) := by rw [ez2]; exact (((eo1 ▸ w8_1.k (by omega) : SI o1 (t + 57) (fun k => if k = 0 then 1 else 0) (fun _ _ => 0))).s rs1 (by omega)).k (by omega)
  have x0_2 : RW zh2 (t + 62) (fun _ => 0) (fun _ _ => 0) := by rw [ez2]; exact ((eo1 ▸ x0_1.k (by omega) : RW o1 (t + 62) (fun _ => 0) (fun _ _ => 0)).s rs1 (by omega)).k (by omega)
  have x1_2 : RW zh2 (t + 64) (fun _ => 0) (fun _ _ => 0) := by rw [ez2]; exact rp1.k (by omega)
  have y2 : sm t (t + 70) hm zh2 := by rw [ez2]; exact (((eo1 ▸ y1.up (by omega) : sm t (t + 70) hm o1)).trans (rs1.wide (by omega))).up (by omega)
  simp (disch := first | omega | (simp only [List.length_cons, List.length_nil]; omega)) only [r_il1 dX9_init_113, r_iconst dX9_init_114 ki4, r_ic_geB (tgt := 137) dX9_init_115 rfl, r_al0 dX9_init_118, r_getf dX9_init_119 F9_66, r_il1 dX9_init_122, r_new dX9_init_123 N9_64, r_dup_i dX9_init_126, r_dup_r dX9_init_126, List.cons_append, List.nil_append, Nat.reduceAdd, Option.toList, gx9_9, z0, zr2, rd_own zr2, N4v, Nat.reduceLeDiff, Nat.reduceAdd, true_and, and_true, and_self, Nat.add_assoc]
  refine ⟨fun h => absurd h (by decide), fun _ => ?_⟩
  obtain ⟨o2, eo2⟩ : ∃ H : HM, H = im_up zh2 (t + 66) (.inr (4, im_dfs 4)) := ⟨_, rfl⟩
  rw [← eo2]
  have on2 : o2 (t + 66) = some (.inr (4, im_dfs 4)) := by rw [eo2, up_eq]
  refine r_isn1 dX9_init_127 M9_70 Y58 (Nat.le_of_ble_eq_true rfl) (Nat.le_of_ble_eq_true rfl) (Nat.le_of_ble_eq_true rfl) ?_
  refine c_rwInit on2 (fun k2 rp2 rs2 => ?_)
  have kr2 : k2 t = some (.inr (9, [.ref (t + 1), .ref (t + 11), .ref (t + 21), .ref (t + 32), .ref (t + 43), .ref (t + 45), .ref (t + 48), .ref (t + 52), .ref (t + 57), .ref (t + 61), .int 0, .int 0])) := (rs2 t (by omega)).trans (by rw [eo2, up_ne (by omega)]; exact zr2)
  have ka2 : k2 (t + 61) = some (.inl (.object (im_cn 4), 4, .inr (.inr (.inr (.inr (va_up (va_up (fun _ => none) 0 (some (t + 62))) 1 (some (t + 64)))))))) := (rs2 (t + 61) (by omega)).trans (by rw [eo2, up_ne (by omega)]; exact za2)
  have kv2 := rp2.r
  simp (disch := first | omega | (simp only [List.length_cons, List.length_nil]; omega)) only [r_aast dX9_init_130, r_ii1 dX9_init_131 kn1, r_gotoB (tgt := 113) dX9_init_134 rfl, List.cons_append, List.nil_append, Nat.reduceAdd, Option.toList, cat_f, cat_i, cat_n, cat_r, eq_self, pk_un, pk_us, rd_up_eq, rd_up_ne, sR, true_and, up_eq, up_ne, up_up, z0, ka2, kv2, sR]
  refine ⟨⟨vp_in_nI (show 2 < 4 by omega) (by omega), by decide, trivial⟩, ?_⟩
  rw [show ((2 : Int32)).toNatClampNeg = 2 from rfl, show (2 : Int32) + 1 = 3 from rfl]
  obtain ⟨zh3, ez3⟩ : ∃ H : HM, H = im_up k2 (t + 61) (.inl (.object (im_cn 4), 4, .inr (.inr (.inr (.inr (va_up (va_up (va_up (fun _ => none) 0 (some (t + 62))) 1 (some (t + 64))) 2 (some (t + 66)))))))) := ⟨_, rfl⟩
  show E1 X EV (d + 1) 9 69 10539 none true cX9_init Q 113 [.ref t, .int 3] [] 67 10523 (im_up k2 (t + 61) (.inl (.object (im_cn 4), 4, .inr (.inr (.inr (.inr (va_up (va_up (va_up (fun _ => none) 0 (some (t + 62))) 1 (some (t + 64))) 2 (some (t + 66))))))))) (t + 68)
  rw [← ez3]
  have zr3 : zh3 t = some (.inr (9, [.ref (t + 1), .ref (t + 11), .ref (t + 21), .ref (t + 32), .ref (t + 43), .ref (t + 45), .ref (t + 48), .ref (t + 52), .ref (t + 57), .ref (t + 61), .int 0, .int 0])) := by rw [ez3, up_ne (by omega)]; exact kr2
  have za3 : zh3 (t + 61) = some (.inl (.object (im_cn 4), 4, .inr (.inr (.inr (.inr (va_up (va_up (va_up (fun _ => none) 0 (some (t + 62))) 1 (some (t + 64))) 2 (some (t + 66)))))))) := by rw [ez3]; exact up_eq _ _ _
  have w0_3 : PG zh3 (t + 1) (fun k => if k = 0 then 3 else if k = 1 then 3 else 0) (fun _ _ => 0) := by rw [ez3]; exact (((eo2 ▸ w0_2.k (by omega) : PG o2 (t + 1) (fun k => if k = 0 then 3 else if k = 1 then 3 else 0) (fun _ _ => 0))).s rs2 (by omega)).k (by omega)
  have w1_3 : PG zh3 (t + 11) (fun k => if k = 0 then 3 else if k = 1 then 3 else 0) (fun _ _ => 0) := by rw [ez3]; exact (((eo2 ▸ w1_2.k (by omega) : PG o2 (t + 11) (fun k => if k = 0 then 3 else if k = 1 then 3 else 0) (fun _ _ => 0))).s rs2 (by omega)).k (by omega)
  have w2_3 : SC zh3 (t + 21) (fun _ => 0) (fun _ _ => 0) := by rw [ez3]; exact (((eo2 ▸ w2_2.k (by omega) : SC o2 (t + 21) (fun _ => 0) (fun _ _ => 0))).s rs2 (by omega)).k (by omega)
  have w3_3 : SC zh3 (t + 32) (fun _ => 0) (fun _ _ => 0) := by rw [ez3]; exact (((eo2 ▸ w3_2.k (by omega) : SC o2 (t + 32) (fun _ => 0) (fun _ _ => 0))).s rs2 (by omega)).k (by omega)
  have w4_3 : TP zh3 (t + 43) (fun _ => 0) (fun _ _ => 0) := by rw [ez3]; exact (((eo2 ▸ w4_2.k (by omega) : TP o2 (t + 43) (fun _ => 0) (fun _ _ => 0))).s rs2 (by omega)).k (by omega)
  have w5_3 : RG zh3 (t + 45) (fun _ => 0) (fun _ _ => 0) := by rw [ez3]; exact (((eo2 ▸ w5_2.k (by omega) : RG o2 (t + 45) (fun _ => 0) (fun _ _ => 0))).s rs2 (by omega)).k (by omega)
  have w6_3 : AC zh3 (t + 48) (fun _ => 0) (fun _ _ => 0) := by rw [ez3]; exact (((eo2 ▸ w6_2.k (by omega) : AC o2 (t + 48) (fun _ => 0) (fun _ _ => 0))).s rs2 (by omega)).k (by omega)
  have w7_3 : TA zh3 (t + 52) (fun k => if k = 0 then 1 else if k = 1 then 1 else if k = 2 then 1 else 0) (fun _ _ => 0) (fun _ => 0) := by rw [ez3]; exact (((eo2 ▸ w7_2.k (by omega) : TA o2 (t + 52) (fun k => if k = 0 then 1 else if k = 1 then 1 else if k = 2 then 1 else 0) (fun _ _ => 0) (fun _ => 0))).s rs2 (by omega)).k (by omega)
  have w8_3 : SI zh3 (t + 57) (fun k => if k = 0 then 1 else 0) (fun _ _ => 0) := by rw [ez3]; exact (((eo2 ▸ w8_2.k (by omega) : SI o2 (t + 57) (fun k => if k = 0 then 1 else 0) (fun _ _ => 0))).s rs2 (by omega)).k (by omega)
  have x0_3 : RW zh3 (t + 62) (fun _ => 0) (fun _ _ => 0) := by rw [ez3]; exact ((eo2 ▸ x0_2.k (by omega) : RW o2 (t + 62) (fun _ => 0) (fun _ _ => 0)).s rs2 (by omega)).k (by omega)
  have x1_3 : RW zh3 (t + 64) (fun _ => 0) (fun _ _ => 0) := by rw [ez3]; exact ((eo2 ▸ x1_2.k (by omega) : RW o2 (t + 64) (fun _ => 0) (fun _ _ => 0)).s rs2 (by omega)).k (by omega)
  have x2_3 : RW zh3 (t + 66) (fun _ => 0) (fun _ _ => 0) := by rw [ez3]; exact rp2.k (by omega)
  have y3 : sm t (t + 70) hm zh3 := by rw [ez3]; exact (((eo2 ▸ y2.up (by omega) : sm t (t + 70) hm o2)).trans (rs2.wide (by omega))).up (by omega)
  simp (disch := first | omega | (simp only [List.length_cons, List.length_nil]; omega)) only [r_il1 dX9_init_113, r_iconst dX9_init_114 ki4, r_ic_geB (tgt := 137) dX9_init_115 rfl, r_al0 dX9_init_118, r_getf dX9_init_119 F9_66, r_il1 dX9_init_122, r_new dX9_init_123 N9_64, r_dup_i dX9_init_126, r_dup_r dX9_init_126, List.cons_append, List.nil_append, Nat.reduceAdd, Option.toList, gx9_9, z0, zr3, rd_own zr3, N4v, Nat.reduceLeDiff, Nat.reduceAdd, true_and, and_true, and_self, Nat.add_assoc]
  refine ⟨fun h => absurd h (by decide), fun _ => ?_⟩
  obtain ⟨o3, eo3⟩ : ∃ H : HM, H = im_up zh3 (t + 68) (.inr (4, im_dfs 4)) := ⟨_, rfl⟩
  rw [← eo3]
  have on3 : o3 (t + 68) = some (.inr (4, im_dfs 4)) := by rw [eo3, up_eq]
  refine r_isn1 dX9_init_127 M9_70 Y58 (Nat.le_of_ble_eq_true rfl) (Nat.le_of_ble_eq_true rfl) (Nat.le_of_ble_eq_true rfl) ?_
  refine c_rwInit on3 (fun k3 rp3 rs3 => ?_)
  have kr3 : k3 t = some (.inr (9, [.ref (t + 1), .ref (t + 11), .ref (t + 21), .ref (t + 32), .ref (t + 43), .ref (t + 45), .ref (t + 48), .ref (t + 52), .ref (t + 57), .ref (t + 61), .int 0, .int 0])) := (rs3 t (by omega)).trans (by rw [eo3, up_ne (by omega)]; exact zr3)
  have ka3 : k3 (t + 61) = some (.inl (.object (im_cn 4), 4, .inr (.inr (.inr (.inr (va_up (va_up (va_up (fun _ => none) 0 (some (t + 62))) 1 (some (t + 64))) 2 (some (t + 66)))))))) := (rs3 (t + 61) (by omega)).trans (by rw [eo3, up_ne (by omega)]; exact za3)
  have kv3 := rp3.r
  simp (disch := first | omega | (simp only [List.length_cons, List.length_nil]; omega)) only [r_aast dX9_init_130, r_ii1 dX9_init_131 kn1, r_gotoB (tgt := 113) dX9_init_134 rfl, List.cons_append, List.nil_append, Nat.reduceAdd, Option.toList, cat_f, cat_i, cat_n, cat_r, eq_self, pk_un, pk_us, rd_up_eq, rd_up_ne, sR, true_and, up_eq, up_ne, up_up, z0, ka3, kv3, sR]
  refine ⟨⟨vp_in_nI (show 3 < 4 by omega) (by omega), by decide, trivial⟩, ?_⟩
  rw [show ((3 : Int32)).toNatClampNeg = 3 from rfl, show (3 : Int32) + 1 = 4 from rfl]
  obtain ⟨zh4, ez4⟩ : ∃ H : HM, H = im_up k3 (t + 61) (.inl (.object (im_cn 4), 4, .inr (.inr (.inr (.inr (va_up (va_up (va_up (va_up (fun _ => none) 0 (some (t + 62))) 1 (some (t + 64))) 2 (some (t + 66))) 3 (some (t + 68)))))))) := ⟨_, rfl⟩
  show E1 X EV (d + 1) 9 69 10539 none true cX9_init Q 113 [.ref t, .int 4] [] 69 10539 (im_up k3 (t + 61) (.inl (.object (im_cn 4), 4, .inr (.inr (.inr (.inr (va_up (va_up (va_up (va_up (fun _ => none) 0 (some (t + 62))) 1 (some (t + 64))) 2 (some (t + 66))) 3 (some (t + 68))))))))) (t + 70)
  rw [← ez4]
  have zr4 : zh4 t = some (.inr (9, [.ref (t + 1), .ref (t + 11), .ref (t + 21), .ref (t + 32), .ref (t + 43), .ref (t + 45), .ref (t + 48), .ref (t + 52), .ref (t + 57), .ref (t + 61), .int 0, .int 0])) := by rw [ez4, up_ne (by omega)]; exact kr3
  have za4 : zh4 (t + 61) = some (.inl (.object (im_cn 4), 4, .inr (.inr (.inr (.inr (va_up (va_up (va_up (va_up (fun _ => none) 0 (some (t + 62))) 1 (some (t + 64))) 2 (some (t + 66))) 3 (some (t + 68)))))))) := by rw [ez4]; exact up_eq _ _ _
  have w0_4 : PG zh4 (t + 1) (fun k => if k = 0 then 3 else if k = 1 then 3 else 0) (fun _ _ => 0) := by rw [ez4]; exact (((eo3 ▸ w0_3.k (by omega) : PG o3 (t + 1) (fun k => if k = 0 then 3 else if k = 1 then 3 else 0) (fun _ _ => 0))).s rs3 (by omega)).k (by omega)
  have w1_4 : PG zh4 (t + 11) (fun k => if k = 0 then 3 else if k = 1 then 3 else 0) (fun _ _ => 0) := by rw [ez4]; exact (((eo3 ▸ w1_3.k (by omega) : PG o3 (t + 11) (fun k => if k = 0 then 3 else if k = 1 then 3 else 0) (fun _ _ => 0))).s rs3 (by omega)).k (by omega)
  have w2_4 : SC zh4 (t + 21) (fun _ => 0) (fun _ _ => 0) := by rw [ez4]; exact (((eo3 ▸ w2_3.k (by omega) : SC o3 (t + 21) (fun _ => 0) (fun _ _ => 0))).s rs3 (by omega)).k (by omega)
  have w3_4 : SC zh4 (t + 32) (fun _ => 0) (fun _ _ => 0) := by rw [ez4]; exact (((eo3 ▸ w3_3.k (by omega) : SC o3 (t + 32) (fun _ => 0) (fun _ _ => 0))).s rs3 (by omega)).k (by omega)
  have w4_4 : TP zh4 (t + 43) (fun _ => 0) (fun _ _ => 0) := by rw [ez4]; exact (((eo3 ▸ w4_3.k (by omega) : TP o3 (t + 43) (fun _ => 0) (fun _ _ => 0))).s rs3 (by omega)).k (by omega)
  have w5_4 : RG zh4 (t + 45) (fun _ => 0) (fun _ _ => 0) := by rw [ez4]; exact (((eo3 ▸ w5_3.k (by omega) : RG o3 (t + 45) (fun _ => 0) (fun _ _ => 0))).s rs3 (by omega)).k (by omega)
  have w6_4 : AC zh4 (t + 48) (fun _ => 0) (fun _ _ => 0) := by rw [ez4]; exact (((eo3 ▸ w6_3.k (by omega) : AC o3 (t + 48) (fun _ => 0) (fun _ _ => 0))).s rs3 (by omega)).k (by omega)
  have w7_4 : TA zh4 (t + 52) (fun k => if k = 0 then 1 else if k = 1 then 1 else if k = 2 then 1 else 0) (fun _ _ => 0) (fun _ => 0) := by rw [ez4]; exact (((eo3 ▸ w7_3.k (by omega) : TA o3 (t + 52) (fun k => if k = 0 then 1 else if k = 1 then 1 else if k = 2 then 1 else 0) (fun _ _ => 0) (fun _ => 0))).s rs3 (by omega)).k (by omega)
  have w8_4 : SI zh4 (t + 57) (fun k => if k = 0 then 1 else 0) (fun _ _ => 0) := by rw [ez4]; exact (((eo3 ▸ w8_3.k (by omega) : SI o3 (t + 57) (fun k => if k = 0 then 1 else 0) (fun _ _ => 0))).s rs3 (by omega)).k (by omega)
  have x0_4 : RW zh4 (t + 62) (fun _ => 0) (fun _ _ => 0) := by rw [ez4]; exact ((eo3 ▸ x0_3.k (by omega) : RW o3 (t + 62) (fun _ => 0) (fun _ _ => 0)).s rs3 (by omega)).k (by omega)
  have x1_4 : RW zh4 (t + 64) (fun _ => 0) (fun _ _ => 0) := by rw [ez4]; exact ((eo3 ▸ x1_3.k (by omega) : RW o3 (t + 64) (fun _ => 0) (fun _ _ => 0)).s rs3 (by omega)).k (by omega)
  have x2_4 : RW zh4 (t + 66) (fun _ => 0) (fun _ _ => 0) := by rw [ez4]; exact ((eo3 ▸ x2_3.k (by omega) : RW o3 (t + 66) (fun _ => 0) (fun _ _ => 0)).s rs3 (by omega)).k (by omega)
  have x3_4 : RW zh4 (t + 68) (fun _ => 0) (fun _ _ => 0) := by rw [ez4]; exact rp3.k (by omega)
  have y4 : sm t (t + 70) hm zh4 := by rw [ez4]; exact (((eo3 ▸ y3.up (by omega) : sm t (t + 70) hm o3)).trans (rs3.wide (by omega))).up (by omega)
  simp (disch := first | omega | (simp only [List.length_cons, List.length_nil]; omega)) only [r_il1 dX9_init_113, r_iconst dX9_init_114 ki4, r_ic_geB (tgt := 137) dX9_init_115 rfl, r_al0 dX9_init_118, r_getf dX9_init_119 F9_66, r_il1 dX9_init_122, r_new dX9_init_123 N9_64, r_dup_i dX9_init_126, r_dup_r dX9_init_126, List.cons_append, List.nil_append, Nat.reduceAdd, Option.toList, gx9_9, z0, zr4, rd_own zr4]
  refine ⟨fun _ => ?_, fun h => absurd (by decide) h⟩
  simp (disch := omega) only [E2, nI_1, nI_add, nI_leI, nI_ltI, nI_eq, nI_clamp]
  simp (disch := first | omega | (simp only [List.length_cons, List.length_nil]; omega)) only [r_al0 dX9_init_137, r_iconst dX9_init_138 ki0, r_putf dX9_init_139 F9_71, r_al0 dX9_init_142, r_iconst dX9_init_143 kim1, r_putf dX9_init_144 F9_75, r_vret dX9_init_147, List.cons_append, List.nil_append, Nat.reduceAdd, Option.toList, fit_i, ft9_10, ft9_11, pk_un, pk_us, px9_10, px9_11, rd_up_eq, rd_up_ne, true_and, up_eq, up_ne, up_up, z0, zr4, rd_own zr4]
  have ef : (va_up (va_up (va_up (va_up (fun _ => none) 0 (some (t + 62))) 1 (some (t + 64))) 2 (some (t + 66))) 3 (some (t + 68))) = rwF t := by
    funext i
    unfold rwF
    rcases Nat.lt_or_ge i 4 with h | h
    · rcases (show i = 0 ∨ i = 1 ∨ i = 2 ∨ i = 3 by omega) with rfl | rfl | rfl | rfl <;> rfl
    · rw [if_neg (by omega), vu_ne (by omega), vu_ne (by omega), vu_ne (by omega), vu_ne (by omega)]
  rw [ef] at za4
  refine hQ _ ⟨⟨Or.inl ⟨rfl, rfl⟩, Or.inl ⟨rfl, rfl⟩⟩, up_eq _ _ _, (up_ne (by omega)).trans za4, w0_4.k (by omega), w1_4.k (by omega), w2_4.k (by omega), w3_4.k (by omega), w4_4.k (by omega), w5_4.k (by omega), w6_4.k (by omega), w7_4.k (by omega), w8_4.k (by omega), x0_4.k (by omega), x1_4.k (by omega), x2_4.k (by omega), x3_4.k (by omega)⟩ (y4.up (by omega))
end N2
