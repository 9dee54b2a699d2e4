section LV1
variable {X : HM} {EV : Nat → Value} {d : Nat} {B t m b L k cu su : Nat} {f : Nat → Int32} {Q : QT} {hm : HM} {hs : Nat}
theorem law_c11 (hI : INV B t m hm hs) (hK : KW X EV B) (hY : KY X EV B) (hX : XT X EV B) (hbB : b < B) (hXb : X b = some (ia L f)) (hk : 6 * k + 6 ≤ L) (hL : L ≤ 3072) (hcu : cu ≤ 5000) (hsu : su ≤ 500000)
    (hN : ∀ hm2 hs2 cu2 su2, INV B t m hm2 hs2 → cu2 ≤ cu + 1 → su2 ≤ su + 13 → E1 X EV (d + 19) 11 600000 7302250 (some .boolean) false cL_law Q 1420 [.ref b, .ref t, .ref m, .int (nI (6 * k))] [] cu2 su2 hm2 hs2) : E1 X EV (d + 19) 11 600000 7302250 (some .boolean) false cL_law Q 555 [.ref b, .ref t, .ref m, .int (nI (6 * k))] [] cu su hm hs := by
  obtain ⟨hT, hlw⟩ := inv_lw hI
  obtain ⟨q1, q2, q3, q4, q5, w1, w2, w3, w4, w5, n1, n2, n3, n4, n5⟩ := six hk hL
  obtain ⟨fT, hT⟩ := hT
  have hrd : im_rd X hm b = some (ia L f) := by rw [rd_ext (hlw.1.1 b hbB)]; exact hXb
  simp (disch := first | omega | (simp only [List.length_cons, List.length_nil]; omega)) only [r_al1 dL_law_555, r_al0 dL_law_556, r_il3 dL_law_557, r_iconst dL_law_558 ki1, r_iadd dL_law_559, r_iald dL_law_560, List.cons_append, List.nil_append, Nat.reduceAdd, Option.toList, aI_ok, z0, hrd, q1, q2, q3, q4, q5, w1, w2, w3, w4, w5, n1, n2, n3, n4, n5, true_and]
  refine r_iv2 dL_law_561 M11_61 Y115 O115 (Nat.le_of_ble_eq_true rfl) (rcv_own hT) (by omega) (by omega) ?_
  refine c_mono (pr_low (d := d) (st_order hI) hlw) ?_
  rintro v1 hm1 hs1 ⟨hl1, a, rfl, hC⟩
  have hrd1 : im_rd X hm1 b = some (ia L f) := by rw [rd_ext (hl1.1.1 b hbB)]; exact hXb
  obtain ⟨f1, hg1⟩ := hl1.2.2
  simp (disch := first | omega | (simp only [List.length_cons, List.length_nil]; omega)) only [r_al2 dL_law_564, r_al0 dL_law_565, r_il3 dL_law_566, r_iconst dL_law_567 ki1, r_iadd dL_law_568, r_iald dL_law_569, List.cons_append, List.nil_append, Nat.reduceAdd, Option.toList, aI_ok, z0, hrd1, q1, q2, q3, q4, q5, w1, w2, w3, w4, w5, n1, n2, n3, n4, n5, true_and]
  refine r_iv2 dL_law_570 M11_64 Y208 O208 (Nat.le_of_ble_eq_true rfl) (rcv_own hg1) (by omega) (by omega) ?_
  refine c_mono hC ?_
  rintro v2 hm2 hs2 ⟨rfl, ⟨x, rfl⟩, hI2⟩
  simp (disch := first | omega | (simp only [List.length_cons, List.length_nil]; omega)) only [r_ic_eqB (tgt := 1420) dL_law_573 rfl, r_iconst dL_law_576 ki0, r_zret0 dL_law_577, r_zret1 dL_law_577, r_zretc dL_law_577, List.cons_append, List.nil_append, Nat.reduceAdd, Option.toList, z0, lg_self]
  refine ⟨fun _ => ?_, fun z => absurd (by trivial) z⟩
  try simp (disch := omega) only [E2, nI_1, nI_add, nI_leI, nI_ltI, nI_eq, nI_clamp]
  exact hN hm2 hs2 _ _ hI2 (by omega) (by omega)
theorem law_c12 (hI : INV B t m hm hs) (hK : KW X EV B) (hY : KY X EV B) (hX : XT X EV B) (hbB : b < B) (hXb : X b = some (ia L f)) (hk : 6 * k + 6 ≤ L) (hL : L ≤ 3072) (hcu : cu ≤ 5000) (hsu : su ≤ 500000)
    (hN : ∀ hm2 hs2 cu2 su2, INV B t m hm2 hs2 → cu2 ≤ cu + 1 → su2 ≤ su + 13 → E1 X EV (d + 19) 11 600000 7302250 (some .boolean) false cL_law Q 1420 [.ref b, .ref t, .ref m, .int (nI (6 * k))] [] cu2 su2 hm2 hs2) : E1 X EV (d + 19) 11 600000 7302250 (some .boolean) false cL_law Q 578 [.ref b, .ref t, .ref m, .int (nI (6 * k))] [] cu su hm hs := by
  obtain ⟨hT, hlw⟩ := inv_lw hI
  obtain ⟨q1, q2, q3, q4, q5, w1, w2, w3, w4, w5, n1, n2, n3, n4, n5⟩ := six hk hL
  obtain ⟨fT, hT⟩ := hT
  have hrd : im_rd X hm b = some (ia L f) := by rw [rd_ext (hlw.1.1 b hbB)]; exact hXb
  simp (disch := first | omega | (simp only [List.length_cons, List.length_nil]; omega)) only [r_al1 dL_law_578, List.cons_append, List.nil_append, Nat.reduceAdd, Option.toList, z0, hrd, q1, q2, q3, q4, q5, w1, w2, w3, w4, w5, n1, n2, n3, n4, n5, true_and]
  refine r_iv1 dL_law_579 M11_65 Y116 O116 (Nat.le_of_ble_eq_true rfl) (rcv_own hT) (by omega) (by omega) ?_
  refine c_mono (pr_low (d := d) (st_orders hI) hlw) ?_
  rintro v1 hm1 hs1 ⟨hl1, a, rfl, hC⟩
  have hrd1 : im_rd X hm1 b = some (ia L f) := by rw [rd_ext (hl1.1.1 b hbB)]; exact hXb
  obtain ⟨f1, hg1⟩ := hl1.2.2
  simp (disch := first | omega | (simp only [List.length_cons, List.length_nil]; omega)) only [r_al2 dL_law_582, List.cons_append, List.nil_append, Nat.reduceAdd, Option.toList, z0, hrd1, q1, q2, q3, q4, q5, w1, w2, w3, w4, w5, n1, n2, n3, n4, n5, true_and]
  refine r_iv1 dL_law_583 M11_69 Y210 O210 (Nat.le_of_ble_eq_true rfl) (rcv_own hg1) (by omega) (by omega) ?_
  refine c_mono hC ?_
  rintro v2 hm2 hs2 ⟨rfl, ⟨x, rfl⟩, hI2⟩
  simp (disch := first | omega | (simp only [List.length_cons, List.length_nil]; omega)) only [r_lcmp dL_law_586, r_if_eqB (tgt := 1420) dL_law_587 rfl, r_iconst dL_law_590 ki0, r_zret0 dL_law_591, r_zret1 dL_law_591, r_zretc dL_law_591, List.cons_append, List.nil_append, Nat.reduceAdd, Option.toList, z0, lg_self]
  refine ⟨fun _ => ?_, fun z => absurd (by trivial) z⟩
  try simp (disch := omega) only [E2, nI_1, nI_add, nI_leI, nI_ltI, nI_eq, nI_clamp]
  exact hN hm2 hs2 _ _ hI2 (by omega) (by omega)
theorem law_c13 (hI : INV B t m hm hs) (hK : KW X EV B) (hY : KY X EV B) (hX : XT X EV B) (hbB : b < B) (hXb : X b = some (ia L f)) (hk : 6 * k + 6 ≤ L) (hL : L ≤ 3072) (hcu : cu ≤ 5000) (hsu : su ≤ 500000)
    (hN : ∀ hm2 hs2 cu2 su2, INV B t m hm2 hs2 → cu2 ≤ cu + 1 → su2 ≤ su + 13 → E1 X EV (d + 19) 11 600000 7302250 (some .boolean) false cL_law Q 1420 [.ref b, .ref t, .ref m, .int (nI (6 * k))] [] cu2 su2 hm2 hs2) : E1 X EV (d + 19) 11 600000 7302250 (some .boolean) false cL_law Q 592 [.ref b, .ref t, .ref m, .int (nI (6 * k))] [] cu su hm hs := by
  obtain ⟨hT, hlw⟩ := inv_lw hI
  obtain ⟨q1, q2, q3, q4, q5, w1, w2, w3, w4, w5, n1, n2, n3, n4, n5⟩ := six hk hL
  obtain ⟨fT, hT⟩ := hT
  have hrd : im_rd X hm b = some (ia L f) := by rw [rd_ext (hlw.1.1 b hbB)]; exact hXb
  simp (disch := first | omega | (simp only [List.length_cons, List.length_nil]; omega)) only [r_al1 dL_law_592, r_al0 dL_law_593, r_il3 dL_law_594, r_iconst dL_law_595 ki1, r_iadd dL_law_596, r_iald dL_law_597, r_al0 dL_law_598, r_il3 dL_law_599, r_iconst dL_law_600 ki2, r_iadd dL_law_601, r_iald dL_law_602, List.cons_append, List.nil_append, Nat.reduceAdd, Option.toList, aI_ok, z0, hrd, q1, q2, q3, q4, q5, w1, w2, w3, w4, w5, n1, n2, n3, n4, n5, true_and]
  refine r_iv3 dL_law_603 M11_70 Y117 O117 (Nat.le_of_ble_eq_true rfl) (rcv_own hT) (by omega) (by omega) ?_
  refine c_mono (pr_low (d := d) (st_ahead hI) hlw) ?_
  rintro v1 hm1 hs1 ⟨hl1, a, rfl, hC⟩
  have hrd1 : im_rd X hm1 b = some (ia L f) := by rw [rd_ext (hl1.1.1 b hbB)]; exact hXb
  obtain ⟨f1, hg1⟩ := hl1.2.2
  simp (disch := first | omega | (simp only [List.length_cons, List.length_nil]; omega)) only [r_al2 dL_law_606, r_al0 dL_law_607, r_il3 dL_law_608, r_iconst dL_law_609 ki1, r_iadd dL_law_610, r_iald dL_law_611, r_al0 dL_law_612, r_il3 dL_law_613, r_iconst dL_law_614 ki2, r_iadd dL_law_615, r_iald dL_law_616, List.cons_append, List.nil_append, Nat.reduceAdd, Option.toList, aI_ok, z0, hrd1, q1, q2, q3, q4, q5, w1, w2, w3, w4, w5, n1, n2, n3, n4, n5, true_and]
  refine r_iv3 dL_law_617 M11_74 Y212 O212 (Nat.le_of_ble_eq_true rfl) (rcv_own hg1) (by omega) (by omega) ?_
  refine c_mono hC ?_
  rintro v2 hm2 hs2 ⟨rfl, ⟨x, rfl⟩, hI2⟩
  simp (disch := first | omega | (simp only [List.length_cons, List.length_nil]; omega)) only [r_lcmp dL_law_620, r_if_eqB (tgt := 1420) dL_law_621 rfl, r_iconst dL_law_624 ki0, r_zret0 dL_law_625, r_zret1 dL_law_625, r_zretc dL_law_625, List.cons_append, List.nil_append, Nat.reduceAdd, Option.toList, z0, lg_self]
  refine ⟨fun _ => ?_, fun z => absurd (by trivial) z⟩
  try simp (disch := omega) only [E2, nI_1, nI_add, nI_leI, nI_ltI, nI_eq, nI_clamp]
  exact hN hm2 hs2 _ _ hI2 (by omega) (by omega)
theorem law_c14 (hI : INV B t m hm hs) (hK : KW X EV B) (hY : KY X EV B) (hX : XT X EV B) (hbB : b < B) (hXb : X b = some (ia L f)) (hk : 6 * k + 6 ≤ L) (hL : L ≤ 3072) (hcu : cu ≤ 5000) (hsu : su ≤ 500000)
    (hN : ∀ hm2 hs2 cu2 su2, INV B t m hm2 hs2 → cu2 ≤ cu + 1 → su2 ≤ su + 13 → E1 X EV (d + 19) 11 600000 7302250 (some .boolean) false cL_law Q 1420 [.ref b, .ref t, .ref m, .int (nI (6 * k))] [] cu2 su2 hm2 hs2) : E1 X EV (d + 19) 11 600000 7302250 (some .boolean) false cL_law Q 626 [.ref b, .ref t, .ref m, .int (nI (6 * k))] [] cu su hm hs := by
  obtain ⟨hT, hlw⟩ := inv_lw hI
  obtain ⟨q1, q2, q3, q4, q5, w1, w2, w3, w4, w5, n1, n2, n3, n4, n5⟩ := six hk hL
  obtain ⟨fT, hT⟩ := hT
  have hrd : im_rd X hm b = some (ia L f) := by rw [rd_ext (hlw.1.1 b hbB)]; exact hXb
  simp (disch := first | omega | (simp only [List.length_cons, List.length_nil]; omega)) only [r_al1 dL_law_626, List.cons_append, List.nil_append, Nat.reduceAdd, Option.toList, z0, hrd, q1, q2, q3, q4, q5, w1, w2, w3, w4, w5, n1, n2, n3, n4, n5, true_and]
  refine r_iv1 dL_law_627 M11_75 Y118 O118 (Nat.le_of_ble_eq_true rfl) (rcv_own hT) (by omega) (by omega) ?_
  refine c_mono (pr_low (d := d) (st_ways hI) hlw) ?_
  rintro v1 hm1 hs1 ⟨hl1, a, rfl, hC⟩
  have hrd1 : im_rd X hm1 b = some (ia L f) := by rw [rd_ext (hl1.1.1 b hbB)]; exact hXb
  obtain ⟨f1, hg1⟩ := hl1.2.2
  simp (disch := first | omega | (simp only [List.length_cons, List.length_nil]; omega)) only [r_al2 dL_law_630, List.cons_append, List.nil_append, Nat.reduceAdd, Option.toList, z0, hrd1, q1, q2, q3, q4, q5, w1, w2, w3, w4, w5, n1, n2, n3, n4, n5, true_and]
  refine r_iv1 dL_law_631 M11_78 Y213 O213 (Nat.le_of_ble_eq_true rfl) (rcv_own hg1) (by omega) (by omega) ?_
  refine c_mono hC ?_
  rintro v2 hm2 hs2 ⟨rfl, ⟨x, rfl⟩, hI2⟩
  simp (disch := first | omega | (simp only [List.length_cons, List.length_nil]; omega)) only [r_ic_eqB (tgt := 1420) dL_law_634 rfl, r_iconst dL_law_637 ki0, r_zret0 dL_law_638, r_zret1 dL_law_638, r_zretc dL_law_638, List.cons_append, List.nil_append, Nat.reduceAdd, Option.toList, z0, lg_self]
  refine ⟨fun _ => ?_, fun z => absurd (by trivial) z⟩
  try simp (disch := omega) only [E2, nI_1, nI_add, nI_leI, nI_ltI, nI_eq, nI_clamp]
  exact hN hm2 hs2 _ _ hI2 (by omega) (by omega)
theorem law_c15 (hI : INV B t m hm hs) (hK : KW X EV B) (hY : KY X EV B) (hX : XT X EV B) (hbB : b < B) (hXb : X b = some (ia L f)) (hk : 6 * k + 6 ≤ L) (hL : L ≤ 3072) (hcu : cu ≤ 5000) (hsu : su ≤ 500000)
    (hN : ∀ hm2 hs2 cu2 su2, INV B t m hm2 hs2 → cu2 ≤ cu + 1 → su2 ≤ su + 13 → E1 X EV (d + 19) 11 600000 7302250 (some .boolean) false cL_law Q 1420 [.ref b, .ref t, .ref m, .int (nI (6 * k))] [] cu2 su2 hm2 hs2) : E1 X EV (d + 19) 11 600000 7302250 (some .boolean) false cL_law Q 639 [.ref b, .ref t, .ref m, .int (nI (6 * k))] [] cu su hm hs := by
  obtain ⟨hT, hlw⟩ := inv_lw hI
  obtain ⟨q1, q2, q3, q4, q5, w1, w2, w3, w4, w5, n1, n2, n3, n4, n5⟩ := six hk hL
  obtain ⟨fT, hT⟩ := hT
  have hrd : im_rd X hm b = some (ia L f) := by rw [rd_ext (hlw.1.1 b hbB)]; exact hXb
  simp (disch := first | omega | (simp only [List.length_cons, List.length_nil]; omega)) only [r_al1 dL_law_639, List.cons_append, List.nil_append, Nat.reduceAdd, Option.toList, z0, hrd, q1, q2, q3, q4, q5, w1, w2, w3, w4, w5, n1, n2, n3, n4, n5, true_and]
  refine r_iv1 dL_law_640 M11_79 Y119 O119 (Nat.le_of_ble_eq_true rfl) (rcv_own hT) (by omega) (by omega) ?_
  refine c_mono (pr_low (d := d) (st_layers hI) hlw) ?_
  rintro v1 hm1 hs1 ⟨hl1, a, rfl, hC⟩
  have hrd1 : im_rd X hm1 b = some (ia L f) := by rw [rd_ext (hl1.1.1 b hbB)]; exact hXb
  obtain ⟨f1, hg1⟩ := hl1.2.2
  simp (disch := first | omega | (simp only [List.length_cons, List.length_nil]; omega)) only [r_al2 dL_law_643, List.cons_append, List.nil_append, Nat.reduceAdd, Option.toList, z0, hrd1, q1, q2, q3, q4, q5, w1, w2, w3, w4, w5, n1, n2, n3, n4, n5, true_and]
  refine r_iv1 dL_law_644 M11_82 Y214 O214 (Nat.le_of_ble_eq_true rfl) (rcv_own hg1) (by omega) (by omega) ?_
  refine c_mono hC ?_
  rintro v2 hm2 hs2 ⟨rfl, ⟨x, rfl⟩, hI2⟩
  simp (disch := first | omega | (simp only [List.length_cons, List.length_nil]; omega)) only [r_ic_eqB (tgt := 1420) dL_law_647 rfl, r_iconst dL_law_650 ki0, r_zret0 dL_law_651, r_zret1 dL_law_651, r_zretc dL_law_651, List.cons_append, List.nil_append, Nat.reduceAdd, Option.toList, z0, lg_self]
  refine ⟨fun _ => ?_, fun z => absurd (by trivial) z⟩
  try simp (disch := omega) only [E2, nI_1, nI_add, nI_leI, nI_ltI, nI_eq, nI_clamp]
  exact hN hm2 hs2 _ _ hI2 (by omega) (by omega)
theorem law_c16 (hI : INV B t m hm hs) (hK : KW X EV B) (hY : KY X EV B) (hX : XT X EV B) (hbB : b < B) (hXb : X b = some (ia L f)) (hk : 6 * k + 6 ≤ L) (hL : L ≤ 3072) (hcu : cu ≤ 5000) (hsu : su ≤ 500000)
    (hN : ∀ hm2 hs2 cu2 su2, INV B t m hm2 hs2 → cu2 ≤ cu + 1 → su2 ≤ su + 13 → E1 X EV (d + 19) 11 600000 7302250 (some .boolean) false cL_law Q 1420 [.ref b, .ref t, .ref m, .int (nI (6 * k))] [] cu2 su2 hm2 hs2) : E1 X EV (d + 19) 11 600000 7302250 (some .boolean) false cL_law Q 652 [.ref b, .ref t, .ref m, .int (nI (6 * k))] [] cu su hm hs := by
  obtain ⟨hT, hlw⟩ := inv_lw hI
  obtain ⟨q1, q2, q3, q4, q5, w1, w2, w3, w4, w5, n1, n2, n3, n4, n5⟩ := six hk hL
  obtain ⟨fT, hT⟩ := hT
  have hrd : im_rd X hm b = some (ia L f) := by rw [rd_ext (hlw.1.1 b hbB)]; exact hXb
  simp (disch := first | omega | (simp only [List.length_cons, List.length_nil]; omega)) only [r_al1 dL_law_652, r_al0 dL_law_653, r_il3 dL_law_654, r_iconst dL_law_655 ki1, r_iadd dL_law_656, r_iald dL_law_657, r_al0 dL_law_658, r_il3 dL_law_659, r_iconst dL_law_660 ki2, r_iadd dL_law_661, r_iald dL_law_662, List.cons_append, List.nil_append, Nat.reduceAdd, Option.toList, aI_ok, z0, hrd, q1, q2, q3, q4, q5, w1, w2, w3, w4, w5, n1, n2, n3, n4, n5, true_and]
  refine r_iv3 dL_law_663 M11_83 Y120 O120 (Nat.le_of_ble_eq_true rfl) (rcv_own hT) (by omega) (by omega) ?_
  refine c_mono (pr_low (d := d) (st_top hI) hlw) ?_
  rintro v1 hm1 hs1 ⟨hl1, a, rfl, hC⟩
  have hrd1 : im_rd X hm1 b = some (ia L f) := by rw [rd_ext (hl1.1.1 b hbB)]; exact hXb
  obtain ⟨f1, hg1⟩ := hl1.2.2
  simp (disch := first | omega | (simp only [List.length_cons, List.length_nil]; omega)) only [r_al2 dL_law_666, r_al0 dL_law_667, r_il3 dL_law_668, r_iconst dL_law_669 ki1, r_iadd dL_law_670, r_iald dL_law_671, r_al0 dL_law_672, r_il3 dL_law_673, r_iconst dL_law_674 ki2, r_iadd dL_law_675, r_iald dL_law_676, List.cons_append, List.nil_append, Nat.reduceAdd, Option.toList, aI_ok, z0, hrd1, q1, q2, q3, q4, q5, w1, w2, w3, w4, w5, n1, n2, n3, n4, n5, true_and]
  refine r_iv3 dL_law_677 M11_86 Y219 O219 (Nat.le_of_ble_eq_true rfl) (rcv_own hg1) (by omega) (by omega) ?_
  refine c_mono hC ?_
  rintro v2 hm2 hs2 ⟨rfl, ⟨x, rfl⟩, hI2⟩
  simp (disch := first | omega | (simp only [List.length_cons, List.length_nil]; omega)) only [r_ic_eqB (tgt := 1420) dL_law_680 rfl, r_iconst dL_law_683 ki0, r_zret0 dL_law_684, r_zret1 dL_law_684, r_zretc dL_law_684, List.cons_append, List.nil_append, Nat.reduceAdd, Option.toList, z0, lg_self]
  refine ⟨fun _ => ?_, fun z => absurd (by trivial) z⟩
  try simp (disch := omega) only [E2, nI_1, nI_add, nI_leI, nI_ltI, nI_eq, nI_clamp]
  exact hN hm2 hs2 _ _ hI2 (by omega) (by omega)
theorem law_c17 (hI : INV B t m hm hs) (hK : KW X EV B) (hY : KY X EV B) (hX : XT X EV B) (hbB : b < B) (hXb : X b = some (ia L f)) (hk : 6 * k + 6 ≤ L) (hL : L ≤ 3072) (hcu : cu ≤ 5000) (hsu : su ≤ 500000)
    (hN : ∀ hm2 hs2 cu2 su2, INV B t m hm2 hs2 → cu2 ≤ cu + 1 → su2 ≤ su + 13 → E1 X EV (d + 19) 11 600000 7302250 (some .boolean) false cL_law Q 1420 [.ref b, .ref t, .ref m, .int (nI (6 * k))] [] cu2 su2 hm2 hs2) : E1 X EV (d + 19) 11 600000 7302250 (some .boolean) false cL_law Q 685 [.ref b, .ref t, .ref m, .int (nI (6 * k))] [] cu su hm hs := by
  obtain ⟨hT, hlw⟩ := inv_lw hI
  obtain ⟨q1, q2, q3, q4, q5, w1, w2, w3, w4, w5, n1, n2, n3, n4, n5⟩ := six hk hL
  obtain ⟨fT, hT⟩ := hT
  have hrd : im_rd X hm b = some (ia L f) := by rw [rd_ext (hlw.1.1 b hbB)]; exact hXb
  simp (disch := first | omega | (simp only [List.length_cons, List.length_nil]; omega)) only [r_al1 dL_law_685, r_al0 dL_law_686, r_il3 dL_law_687, r_iconst dL_law_688 ki1, r_iadd dL_law_689, r_iald dL_law_690, r_al0 dL_law_691, r_il3 dL_law_692, r_iconst dL_law_693 ki2, r_iadd dL_law_694, r_iald dL_law_695, List.cons_append, List.nil_append, Nat.reduceAdd, Option.toList, aI_ok, z0, hrd, q1, q2, q3, q4, q5, w1, w2, w3, w4, w5, n1, n2, n3, n4, n5, true_and]
  refine r_iv3 dL_law_696 M11_87 Y121 O121 (Nat.le_of_ble_eq_true rfl) (rcv_own hT) (by omega) (by omega) ?_
  refine c_mono (pr_low (d := d) (st_seen hI) hlw) ?_
  rintro v1 hm1 hs1 ⟨hl1, a, rfl, hC⟩
  have hrd1 : im_rd X hm1 b = some (ia L f) := by rw [rd_ext (hl1.1.1 b hbB)]; exact hXb
  obtain ⟨f1, hg1⟩ := hl1.2.2
  simp (disch := first | omega | (simp only [List.length_cons, List.length_nil]; omega)) only [r_al2 dL_law_699, r_al0 dL_law_700, r_il3 dL_law_701, r_iconst dL_law_702 ki1, r_iadd dL_law_703, r_iald dL_law_704, r_al0 dL_law_705, r_il3 dL_law_706, r_iconst dL_law_707 ki2, r_iadd dL_law_708, r_iald dL_law_709, List.cons_append, List.nil_append, Nat.reduceAdd, Option.toList, aI_ok, z0, hrd1, q1, q2, q3, q4, q5, w1, w2, w3, w4, w5, n1, n2, n3, n4, n5, true_and]
  refine r_iv3 dL_law_710 M11_90 Y220 O220 (Nat.le_of_ble_eq_true rfl) (rcv_own hg1) (by omega) (by omega) ?_
  refine c_mono hC ?_
  rintro v2 hm2 hs2 ⟨rfl, ⟨x, rfl⟩, hI2⟩
  simp (disch := first | omega | (simp only [List.length_cons, List.length_nil]; omega)) only [r_ic_eqB (tgt := 1420) dL_law_713 rfl, r_iconst dL_law_716 ki0, r_zret0 dL_law_717, r_zret1 dL_law_717, r_zretc dL_law_717, List.cons_append, List.nil_append, Nat.reduceAdd, Option.toList, z0, lg_self]
  refine ⟨fun _ => ?_, fun z => absurd (by trivial) z⟩
  try simp (disch := omega) only [E2, nI_1, nI_add, nI_leI, nI_ltI, nI_eq, nI_clamp]
  exact hN hm2 hs2 _ _ hI2 (by omega) (by omega)
theorem law_c18 (hI : INV B t m hm hs) (hK : KW X EV B) (hY : KY X EV B) (hX : XT X EV B) (hbB : b < B) (hXb : X b = some (ia L f)) (hk : 6 * k + 6 ≤ L) (hL : L ≤ 3072) (hcu : cu ≤ 5000) (hsu : su ≤ 500000)
    (hN : ∀ hm2 hs2 cu2 su2, INV B t m hm2 hs2 → cu2 ≤ cu + 1 → su2 ≤ su + 13 → E1 X EV (d + 19) 11 600000 7302250 (some .boolean) false cL_law Q 1420 [.ref b, .ref t, .ref m, .int (nI (6 * k))] [] cu2 su2 hm2 hs2) : E1 X EV (d + 19) 11 600000 7302250 (some .boolean) false cL_law Q 718 [.ref b, .ref t, .ref m, .int (nI (6 * k))] [] cu su hm hs := by
  obtain ⟨hT, hlw⟩ := inv_lw hI
  obtain ⟨q1, q2, q3, q4, q5, w1, w2, w3, w4, w5, n1, n2, n3, n4, n5⟩ := six hk hL
  obtain ⟨fT, hT⟩ := hT
  have hrd : im_rd X hm b = some (ia L f) := by rw [rd_ext (hlw.1.1 b hbB)]; exact hXb
  simp (disch := first | omega | (simp only [List.length_cons, List.length_nil]; omega)) only [r_al1 dL_law_718, r_al0 dL_law_719, r_il3 dL_law_720, r_iconst dL_law_721 ki1, r_iadd dL_law_722, r_iald dL_law_723, r_al0 dL_law_724, r_il3 dL_law_725, r_iconst dL_law_726 ki2, r_iadd dL_law_727, r_iald dL_law_728, List.cons_append, List.nil_append, Nat.reduceAdd, Option.toList, aI_ok, z0, hrd, q1, q2, q3, q4, q5, w1, w2, w3, w4, w5, n1, n2, n3, n4, n5, true_and]
  refine r_iv3 dL_law_729 M11_91 Y122 O122 (Nat.le_of_ble_eq_true rfl) (rcv_own hT) (by omega) (by omega) ?_
  refine c_mono (pr_low (d := d) (st_shows hI) hlw) ?_
  rintro v1 hm1 hs1 ⟨hl1, a, rfl, hC⟩
  have hrd1 : im_rd X hm1 b = some (ia L f) := by rw [rd_ext (hl1.1.1 b hbB)]; exact hXb
  obtain ⟨f1, hg1⟩ := hl1.2.2
  simp (disch := first | omega | (simp only [List.length_cons, List.length_nil]; omega)) only [r_al2 dL_law_732, r_al0 dL_law_733, r_il3 dL_law_734, r_iconst dL_law_735 ki1, r_iadd dL_law_736, r_iald dL_law_737, r_al0 dL_law_738, r_il3 dL_law_739, r_iconst dL_law_740 ki2, r_iadd dL_law_741, r_iald dL_law_742, List.cons_append, List.nil_append, Nat.reduceAdd, Option.toList, aI_ok, z0, hrd1, q1, q2, q3, q4, q5, w1, w2, w3, w4, w5, n1, n2, n3, n4, n5, true_and]
  refine r_iv3 dL_law_743 M11_94 Y223 O223 (Nat.le_of_ble_eq_true rfl) (rcv_own hg1) (by omega) (by omega) ?_
  refine c_mono hC ?_
  rintro v2 hm2 hs2 ⟨rfl, ⟨x, rfl⟩, hI2⟩
  simp (disch := first | omega | (simp only [List.length_cons, List.length_nil]; omega)) only [r_ic_eqB (tgt := 1420) dL_law_746 rfl, r_iconst dL_law_749 ki0, r_zret0 dL_law_750, r_zret1 dL_law_750, r_zretc dL_law_750, List.cons_append, List.nil_append, Nat.reduceAdd, Option.toList, z0, lg_self]
  refine ⟨fun _ => ?_, fun z => absurd (by trivial) z⟩
  try simp (disch := omega) only [E2, nI_1, nI_add, nI_leI, nI_ltI, nI_eq, nI_clamp]
  exact hN hm2 hs2 _ _ hI2 (by omega) (by omega)
theorem law_c19 (hI : INV B t m hm hs) (hK : KW X EV B) (hY : KY X EV B) (hX : XT X EV B) (hbB : b < B) (hXb : X b = some (ia L f)) (hk : 6 * k + 6 ≤ L) (hL : L ≤ 3072) (hcu : cu ≤ 5000) (hsu : su ≤ 500000)
    (hN : ∀ hm2 hs2 cu2 su2, INV B t m hm2 hs2 → cu2 ≤ cu + 1 → su2 ≤ su + 13 → E1 X EV (d + 19) 11 600000 7302250 (some .boolean) false cL_law Q 1420 [.ref b, .ref t, .ref m, .int (nI (6 * k))] [] cu2 su2 hm2 hs2) : E1 X EV (d + 19) 11 600000 7302250 (some .boolean) false cL_law Q 751 [.ref b, .ref t, .ref m, .int (nI (6 * k))] [] cu su hm hs := by
  obtain ⟨hT, hlw⟩ := inv_lw hI
  obtain ⟨q1, q2, q3, q4, q5, w1, w2, w3, w4, w5, n1, n2, n3, n4, n5⟩ := six hk hL
  obtain ⟨fT, hT⟩ := hT
  have hrd : im_rd X hm b = some (ia L f) := by rw [rd_ext (hlw.1.1 b hbB)]; exact hXb
  simp (disch := first | omega | (simp only [List.length_cons, List.length_nil]; omega)) only [r_al1 dL_law_751, r_al0 dL_law_752, r_il3 dL_law_753, r_iconst dL_law_754 ki1, r_iadd dL_law_755, r_iald dL_law_756, List.cons_append, List.nil_append, Nat.reduceAdd, Option.toList, aI_ok, z0, hrd, q1, q2, q3, q4, q5, w1, w2, w3, w4, w5, n1, n2, n3, n4, n5, true_and]
  refine r_iv2 dL_law_757 M11_95 Y123 O123 (Nat.le_of_ble_eq_true rfl) (rcv_own hT) (by omega) (by omega) ?_
  refine c_mono (pr_low (d := d) (st_fits hI) hlw) ?_
  rintro v1 hm1 hs1 ⟨hl1, a, rfl, hC⟩
  have hrd1 : im_rd X hm1 b = some (ia L f) := by rw [rd_ext (hl1.1.1 b hbB)]; exact hXb
  obtain ⟨f1, hg1⟩ := hl1.2.2
  simp (disch := first | omega | (simp only [List.length_cons, List.length_nil]; omega)) only [r_al2 dL_law_760, r_al0 dL_law_761, r_il3 dL_law_762, r_iconst dL_law_763 ki1, r_iadd dL_law_764, r_iald dL_law_765, List.cons_append, List.nil_append, Nat.reduceAdd, Option.toList, aI_ok, z0, hrd1, q1, q2, q3, q4, q5, w1, w2, w3, w4, w5, n1, n2, n3, n4, n5, true_and]
  refine r_iv2 dL_law_766 M11_98 Y225 O225 (Nat.le_of_ble_eq_true rfl) (rcv_own hg1) (by omega) (by omega) ?_
  refine c_mono hC ?_
  rintro v2 hm2 hs2 ⟨rfl, ⟨x, rfl⟩, hI2⟩
  simp (disch := first | omega | (simp only [List.length_cons, List.length_nil]; omega)) only [r_ic_eqB (tgt := 1420) dL_law_769 rfl, r_iconst dL_law_772 ki0, r_zret0 dL_law_773, r_zret1 dL_law_773, r_zretc dL_law_773, List.cons_append, List.nil_append, Nat.reduceAdd, Option.toList, z0, lg_self]
  refine ⟨fun _ => ?_, fun z => absurd (by trivial) z⟩
  try simp (disch := omega) only [E2, nI_1, nI_add, nI_leI, nI_ltI, nI_eq, nI_clamp]
  exact hN hm2 hs2 _ _ hI2 (by omega) (by omega)
theorem law_c20 (hI : INV B t m hm hs) (hK : KW X EV B) (hY : KY X EV B) (hX : XT X EV B) (hbB : b < B) (hXb : X b = some (ia L f)) (hk : 6 * k + 6 ≤ L) (hL : L ≤ 3072) (hcu : cu ≤ 5000) (hsu : su ≤ 500000)
    (hN : ∀ hm2 hs2 cu2 su2, INV B t m hm2 hs2 → cu2 ≤ cu + 1 → su2 ≤ su + 13 → E1 X EV (d + 19) 11 600000 7302250 (some .boolean) false cL_law Q 1420 [.ref b, .ref t, .ref m, .int (nI (6 * k))] [] cu2 su2 hm2 hs2) : E1 X EV (d + 19) 11 600000 7302250 (some .boolean) false cL_law Q 774 [.ref b, .ref t, .ref m, .int (nI (6 * k))] [] cu su hm hs := by
  obtain ⟨hT, hlw⟩ := inv_lw hI
  obtain ⟨q1, q2, q3, q4, q5, w1, w2, w3, w4, w5, n1, n2, n3, n4, n5⟩ := six hk hL
  obtain ⟨fT, hT⟩ := hT
  have hrd : im_rd X hm b = some (ia L f) := by rw [rd_ext (hlw.1.1 b hbB)]; exact hXb
  simp (disch := first | omega | (simp only [List.length_cons, List.length_nil]; omega)) only [r_al1 dL_law_774, r_al0 dL_law_775, r_il3 dL_law_776, r_iconst dL_law_777 ki1, r_iadd dL_law_778, r_iald dL_law_779, List.cons_append, List.nil_append, Nat.reduceAdd, Option.toList, aI_ok, z0, hrd, q1, q2, q3, q4, q5, w1, w2, w3, w4, w5, n1, n2, n3, n4, n5, true_and]
  refine r_iv2 dL_law_780 M11_99 Y124 O124 (Nat.le_of_ble_eq_true rfl) (rcv_own hT) (by omega) (by omega) ?_
  refine c_mono (pr_low (d := d) (st_sure hI) hlw) ?_
  rintro v1 hm1 hs1 ⟨hl1, a, rfl, hC⟩
  have hrd1 : im_rd X hm1 b = some (ia L f) := by rw [rd_ext (hl1.1.1 b hbB)]; exact hXb
  obtain ⟨f1, hg1⟩ := hl1.2.2
  simp (disch := first | omega | (simp only [List.length_cons, List.length_nil]; omega)) only [r_al2 dL_law_783, r_al0 dL_law_784, r_il3 dL_law_785, r_iconst dL_law_786 ki1, r_iadd dL_law_787, r_iald dL_law_788, List.cons_append, List.nil_append, Nat.reduceAdd, Option.toList, aI_ok, z0, hrd1, q1, q2, q3, q4, q5, w1, w2, w3, w4, w5, n1, n2, n3, n4, n5, true_and]
  refine r_iv2 dL_law_789 M11_102 Y230 O230 (Nat.le_of_ble_eq_true rfl) (rcv_own hg1) (by omega) (by omega) ?_
  refine c_mono hC ?_
  rintro v2 hm2 hs2 ⟨rfl, ⟨x, rfl⟩, hI2⟩
  simp (disch := first | omega | (simp only [List.length_cons, List.length_nil]; omega)) only [r_ic_eqB (tgt := 1420) dL_law_792 rfl, r_iconst dL_law_795 ki0, r_zret0 dL_law_796, r_zret1 dL_law_796, r_zretc dL_law_796, List.cons_append, List.nil_append, Nat.reduceAdd, Option.toList, z0, lg_self]
  refine ⟨fun _ => ?_, fun z => absurd (by trivial) z⟩
  try simp (disch := omega) only [E2, nI_1, nI_add, nI_leI, nI_ltI, nI_eq, nI_clamp]
  exact hN hm2 hs2 _ _ hI2 (by omega) (by omega)
end LV1
