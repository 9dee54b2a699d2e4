section LV2
variable {X : HM} {EV : Nat → Value} {d : Nat} {B t m b L k cu su : Nat} {f : Nat → Int32} {Q : QT} {hm : HM} {hs : Nat}
theorem law_c21 (hI : INV B t m hm hs) (hK : KW X EV B) (hY : KY X EV B) (hX : XT X EV B) (hbB : b < B) (hXb : X b = some (ia L f)) (hk : 6 * k + 6 ≤ L) (hL : L ≤ 3072) (hcu : cu ≤ 5000) (hsu : su ≤ 500000)
    (hN : ∀ hm2 hs2 cu2 su2, INV B t m hm2 hs2 → cu2 ≤ cu + 1 → su2 ≤ su + 13 → E1 X EV (d + 19) 11 600000 7302250 (some .boolean) false cL_law Q 1420 [.ref b, .ref t, .ref m, .int (nI (6 * k))] [] cu2 su2 hm2 hs2) : E1 X EV (d + 19) 11 600000 7302250 (some .boolean) false cL_law Q 797 [.ref b, .ref t, .ref m, .int (nI (6 * k))] [] cu su hm hs := by
  obtain ⟨hT, hlw⟩ := inv_lw hI
  obtain ⟨q1, q2, q3, q4, q5, w1, w2, w3, w4, w5, n1, n2, n3, n4, n5⟩ := six hk hL
  obtain ⟨fT, hT⟩ := hT
  have hrd : im_rd X hm b = some (ia L f) := by rw [rd_ext (hlw.1.1 b hbB)]; exact hXb
  simp (disch := first | omega | (simp only [List.length_cons, List.length_nil]; omega)) only [r_al1 dL_law_797, r_al0 dL_law_798, r_il3 dL_law_799, r_iconst dL_law_800 ki1, r_iadd dL_law_801, r_iald dL_law_802, r_al0 dL_law_803, r_il3 dL_law_804, r_iconst dL_law_805 ki2, r_iadd dL_law_806, r_iald dL_law_807, List.cons_append, List.nil_append, Nat.reduceAdd, Option.toList, aI_ok, z0, hrd, q1, q2, q3, q4, q5, w1, w2, w3, w4, w5, n1, n2, n3, n4, n5, true_and]
  refine r_iv3 dL_law_808 M11_103 Y125 O125 (Nat.le_of_ble_eq_true rfl) (rcv_own hT) (by omega) (by omega) ?_
  refine c_mono (pr_low (d := d) (st_odds hI) hlw) ?_
  rintro v1 hm1 hs1 ⟨hl1, a, rfl, hC⟩
  have hrd1 : im_rd X hm1 b = some (ia L f) := by rw [rd_ext (hl1.1.1 b hbB)]; exact hXb
  obtain ⟨f1, hg1⟩ := hl1.2.2
  simp (disch := first | omega | (simp only [List.length_cons, List.length_nil]; omega)) only [r_al2 dL_law_811, r_al0 dL_law_812, r_il3 dL_law_813, r_iconst dL_law_814 ki1, r_iadd dL_law_815, r_iald dL_law_816, r_al0 dL_law_817, r_il3 dL_law_818, r_iconst dL_law_819 ki2, r_iadd dL_law_820, r_iald dL_law_821, List.cons_append, List.nil_append, Nat.reduceAdd, Option.toList, aI_ok, z0, hrd1, q1, q2, q3, q4, q5, w1, w2, w3, w4, w5, n1, n2, n3, n4, n5, true_and]
  refine r_iv3 dL_law_822 M11_106 Y233 O233 (Nat.le_of_ble_eq_true rfl) (rcv_own hg1) (by omega) (by omega) ?_
  refine c_mono hC ?_
  rintro v2 hm2 hs2 ⟨rfl, ⟨x, rfl⟩, hI2⟩
  simp (disch := first | omega | (simp only [List.length_cons, List.length_nil]; omega)) only [r_ic_eqB (tgt := 1420) dL_law_825 rfl, r_iconst dL_law_828 ki0, r_zret0 dL_law_829, r_zret1 dL_law_829, r_zretc dL_law_829, List.cons_append, List.nil_append, Nat.reduceAdd, Option.toList, z0, lg_self]
  refine ⟨fun _ => ?_, fun z => absurd (by trivial) z⟩
  try simp (disch := omega) only [E2, nI_1, nI_add, nI_leI, nI_ltI, nI_eq, nI_clamp]
  exact hN hm2 hs2 _ _ hI2 (by omega) (by omega)
theorem law_c22 (hI : INV B t m hm hs) (hK : KW X EV B) (hY : KY X EV B) (hX : XT X EV B) (hbB : b < B) (hXb : X b = some (ia L f)) (hk : 6 * k + 6 ≤ L) (hL : L ≤ 3072) (hcu : cu ≤ 5000) (hsu : su ≤ 500000)
    (hN : ∀ hm2 hs2 cu2 su2, INV B t m hm2 hs2 → cu2 ≤ cu + 1 → su2 ≤ su + 13 → E1 X EV (d + 19) 11 600000 7302250 (some .boolean) false cL_law Q 1420 [.ref b, .ref t, .ref m, .int (nI (6 * k))] [] cu2 su2 hm2 hs2) : E1 X EV (d + 19) 11 600000 7302250 (some .boolean) false cL_law Q 830 [.ref b, .ref t, .ref m, .int (nI (6 * k))] [] cu su hm hs := by
  obtain ⟨hT, hlw⟩ := inv_lw hI
  obtain ⟨q1, q2, q3, q4, q5, w1, w2, w3, w4, w5, n1, n2, n3, n4, n5⟩ := six hk hL
  obtain ⟨fT, hT⟩ := hT
  have hrd : im_rd X hm b = some (ia L f) := by rw [rd_ext (hlw.1.1 b hbB)]; exact hXb
  simp (disch := first | omega | (simp only [List.length_cons, List.length_nil]; omega)) only [r_al1 dL_law_830, r_al0 dL_law_831, r_il3 dL_law_832, r_iconst dL_law_833 ki1, r_iadd dL_law_834, r_iald dL_law_835, List.cons_append, List.nil_append, Nat.reduceAdd, Option.toList, aI_ok, z0, hrd, q1, q2, q3, q4, q5, w1, w2, w3, w4, w5, n1, n2, n3, n4, n5, true_and]
  refine r_iv2 dL_law_836 M11_107 Y126 O126 (Nat.le_of_ble_eq_true rfl) (rcv_own hT) (by omega) (by omega) ?_
  refine c_mono (pr_low (d := d) (st_guess hI) hlw) ?_
  rintro v1 hm1 hs1 ⟨hl1, a, rfl, hC⟩
  have hrd1 : im_rd X hm1 b = some (ia L f) := by rw [rd_ext (hl1.1.1 b hbB)]; exact hXb
  obtain ⟨f1, hg1⟩ := hl1.2.2
  simp (disch := first | omega | (simp only [List.length_cons, List.length_nil]; omega)) only [r_al2 dL_law_839, r_al0 dL_law_840, r_il3 dL_law_841, r_iconst dL_law_842 ki1, r_iadd dL_law_843, r_iald dL_law_844, List.cons_append, List.nil_append, Nat.reduceAdd, Option.toList, aI_ok, z0, hrd1, q1, q2, q3, q4, q5, w1, w2, w3, w4, w5, n1, n2, n3, n4, n5, true_and]
  refine r_iv2 dL_law_845 M11_110 Y234 O234 (Nat.le_of_ble_eq_true rfl) (rcv_own hg1) (by omega) (by omega) ?_
  refine c_mono hC ?_
  rintro v2 hm2 hs2 ⟨rfl, ⟨x, rfl⟩, hI2⟩
  simp (disch := first | omega | (simp only [List.length_cons, List.length_nil]; omega)) only [r_ic_eqB (tgt := 1420) dL_law_848 rfl, r_iconst dL_law_851 ki0, r_zret0 dL_law_852, r_zret1 dL_law_852, r_zretc dL_law_852, List.cons_append, List.nil_append, Nat.reduceAdd, Option.toList, z0, lg_self]
  refine ⟨fun _ => ?_, fun z => absurd (by trivial) z⟩
  try simp (disch := omega) only [E2, nI_1, nI_add, nI_leI, nI_ltI, nI_eq, nI_clamp]
  exact hN hm2 hs2 _ _ hI2 (by omega) (by omega)
theorem law_c23 (hI : INV B t m hm hs) (hK : KW X EV B) (hY : KY X EV B) (hX : XT X EV B) (hbB : b < B) (hXb : X b = some (ia L f)) (hk : 6 * k + 6 ≤ L) (hL : L ≤ 3072) (hcu : cu ≤ 5000) (hsu : su ≤ 500000)
    (hN : ∀ hm2 hs2 cu2 su2, INV B t m hm2 hs2 → cu2 ≤ cu + 1 → su2 ≤ su + 13 → E1 X EV (d + 19) 11 600000 7302250 (some .boolean) false cL_law Q 1420 [.ref b, .ref t, .ref m, .int (nI (6 * k))] [] cu2 su2 hm2 hs2) : E1 X EV (d + 19) 11 600000 7302250 (some .boolean) false cL_law Q 853 [.ref b, .ref t, .ref m, .int (nI (6 * k))] [] cu su hm hs := by
  obtain ⟨hT, hlw⟩ := inv_lw hI
  obtain ⟨q1, q2, q3, q4, q5, w1, w2, w3, w4, w5, n1, n2, n3, n4, n5⟩ := six hk hL
  obtain ⟨fT, hT⟩ := hT
  have hrd : im_rd X hm b = some (ia L f) := by rw [rd_ext (hlw.1.1 b hbB)]; exact hXb
  simp (disch := first | omega | (simp only [List.length_cons, List.length_nil]; omega)) only [r_al1 dL_law_853, r_al0 dL_law_854, r_il3 dL_law_855, r_iconst dL_law_856 ki1, r_iadd dL_law_857, r_iald dL_law_858, r_al0 dL_law_859, r_il3 dL_law_860, r_iconst dL_law_861 ki2, r_iadd dL_law_862, r_iald dL_law_863, List.cons_append, List.nil_append, Nat.reduceAdd, Option.toList, aI_ok, z0, hrd, q1, q2, q3, q4, q5, w1, w2, w3, w4, w5, n1, n2, n3, n4, n5, true_and]
  refine r_iv3 dL_law_864 M11_111 Y127 O127 (Nat.le_of_ble_eq_true rfl) (rcv_own hT) (by omega) (by omega) ?_
  refine c_mono (pr_low (d := d) (st_words hI) hlw) ?_
  rintro v1 hm1 hs1 ⟨hl1, a, rfl, hC⟩
  have hrd1 : im_rd X hm1 b = some (ia L f) := by rw [rd_ext (hl1.1.1 b hbB)]; exact hXb
  obtain ⟨f1, hg1⟩ := hl1.2.2
  simp (disch := first | omega | (simp only [List.length_cons, List.length_nil]; omega)) only [r_al2 dL_law_867, r_al0 dL_law_868, r_il3 dL_law_869, r_iconst dL_law_870 ki1, r_iadd dL_law_871, r_iald dL_law_872, r_al0 dL_law_873, r_il3 dL_law_874, r_iconst dL_law_875 ki2, r_iadd dL_law_876, r_iald dL_law_877, List.cons_append, List.nil_append, Nat.reduceAdd, Option.toList, aI_ok, z0, hrd1, q1, q2, q3, q4, q5, w1, w2, w3, w4, w5, n1, n2, n3, n4, n5, true_and]
  refine r_iv3 dL_law_878 M11_114 Y236 O236 (Nat.le_of_ble_eq_true rfl) (rcv_own hg1) (by omega) (by omega) ?_
  refine c_mono hC ?_
  rintro v2 hm2 hs2 ⟨rfl, ⟨x, rfl⟩, hI2⟩
  simp (disch := first | omega | (simp only [List.length_cons, List.length_nil]; omega)) only [r_ic_eqB (tgt := 1420) dL_law_881 rfl, r_iconst dL_law_884 ki0, r_zret0 dL_law_885, r_zret1 dL_law_885, r_zretc dL_law_885, List.cons_append, List.nil_append, Nat.reduceAdd, Option.toList, z0, lg_self]
  refine ⟨fun _ => ?_, fun z => absurd (by trivial) z⟩
  try simp (disch := omega) only [E2, nI_1, nI_add, nI_leI, nI_ltI, nI_eq, nI_clamp]
  exact hN hm2 hs2 _ _ hI2 (by omega) (by omega)
theorem law_c24 (hI : INV B t m hm hs) (hK : KW X EV B) (hY : KY X EV B) (hX : XT X EV B) (hbB : b < B) (hXb : X b = some (ia L f)) (hk : 6 * k + 6 ≤ L) (hL : L ≤ 3072) (hcu : cu ≤ 5000) (hsu : su ≤ 500000)
    (hN : ∀ hm2 hs2 cu2 su2, INV B t m hm2 hs2 → cu2 ≤ cu + 1 → su2 ≤ su + 13 → E1 X EV (d + 19) 11 600000 7302250 (some .boolean) false cL_law Q 1420 [.ref b, .ref t, .ref m, .int (nI (6 * k))] [] cu2 su2 hm2 hs2) : E1 X EV (d + 19) 11 600000 7302250 (some .boolean) false cL_law Q 886 [.ref b, .ref t, .ref m, .int (nI (6 * k))] [] cu su hm hs := by
  obtain ⟨hT, hlw⟩ := inv_lw hI
  obtain ⟨q1, q2, q3, q4, q5, w1, w2, w3, w4, w5, n1, n2, n3, n4, n5⟩ := six hk hL
  obtain ⟨fT, hT⟩ := hT
  have hrd : im_rd X hm b = some (ia L f) := by rw [rd_ext (hlw.1.1 b hbB)]; exact hXb
  simp (disch := first | omega | (simp only [List.length_cons, List.length_nil]; omega)) only [r_al1 dL_law_886, r_al0 dL_law_887, r_il3 dL_law_888, r_iconst dL_law_889 ki1, r_iadd dL_law_890, r_iald dL_law_891, List.cons_append, List.nil_append, Nat.reduceAdd, Option.toList, aI_ok, z0, hrd, q1, q2, q3, q4, q5, w1, w2, w3, w4, w5, n1, n2, n3, n4, n5, true_and]
  refine r_iv2 dL_law_892 M11_115 Y128 O128 (Nat.le_of_ble_eq_true rfl) (rcv_own hT) (by omega) (by omega) ?_
  refine c_mono (pr_low (d := d) (st_likely hI) hlw) ?_
  rintro v1 hm1 hs1 ⟨hl1, a, rfl, hC⟩
  have hrd1 : im_rd X hm1 b = some (ia L f) := by rw [rd_ext (hl1.1.1 b hbB)]; exact hXb
  obtain ⟨f1, hg1⟩ := hl1.2.2
  simp (disch := first | omega | (simp only [List.length_cons, List.length_nil]; omega)) only [r_al2 dL_law_895, r_al0 dL_law_896, r_il3 dL_law_897, r_iconst dL_law_898 ki1, r_iadd dL_law_899, r_iald dL_law_900, List.cons_append, List.nil_append, Nat.reduceAdd, Option.toList, aI_ok, z0, hrd1, q1, q2, q3, q4, q5, w1, w2, w3, w4, w5, n1, n2, n3, n4, n5, true_and]
  refine r_iv2 dL_law_901 M11_118 Y238 O238 (Nat.le_of_ble_eq_true rfl) (rcv_own hg1) (by omega) (by omega) ?_
  refine c_mono hC ?_
  rintro v2 hm2 hs2 ⟨rfl, ⟨x, rfl⟩, hI2⟩
  simp (disch := first | omega | (simp only [List.length_cons, List.length_nil]; omega)) only [r_ic_eqB (tgt := 1420) dL_law_904 rfl, r_iconst dL_law_907 ki0, r_zret0 dL_law_908, r_zret1 dL_law_908, r_zretc dL_law_908, List.cons_append, List.nil_append, Nat.reduceAdd, Option.toList, z0, lg_self]
  refine ⟨fun _ => ?_, fun z => absurd (by trivial) z⟩
  try simp (disch := omega) only [E2, nI_1, nI_add, nI_leI, nI_ltI, nI_eq, nI_clamp]
  exact hN hm2 hs2 _ _ hI2 (by omega) (by omega)
theorem law_c25 (hI : INV B t m hm hs) (hK : KW X EV B) (hY : KY X EV B) (hX : XT X EV B) (hbB : b < B) (hXb : X b = some (ia L f)) (hk : 6 * k + 6 ≤ L) (hL : L ≤ 3072) (hcu : cu ≤ 5000) (hsu : su ≤ 500000)
    (hN : ∀ hm2 hs2 cu2 su2, INV B t m hm2 hs2 → cu2 ≤ cu + 1 → su2 ≤ su + 13 → E1 X EV (d + 19) 11 600000 7302250 (some .boolean) false cL_law Q 1420 [.ref b, .ref t, .ref m, .int (nI (6 * k))] [] cu2 su2 hm2 hs2) : E1 X EV (d + 19) 11 600000 7302250 (some .boolean) false cL_law Q 909 [.ref b, .ref t, .ref m, .int (nI (6 * k))] [] cu su hm hs := by
  obtain ⟨hT, hlw⟩ := inv_lw hI
  obtain ⟨q1, q2, q3, q4, q5, w1, w2, w3, w4, w5, n1, n2, n3, n4, n5⟩ := six hk hL
  obtain ⟨fT, hT⟩ := hT
  have hrd : im_rd X hm b = some (ia L f) := by rw [rd_ext (hlw.1.1 b hbB)]; exact hXb
  simp (disch := first | omega | (simp only [List.length_cons, List.length_nil]; omega)) only [r_al1 dL_law_909, r_al0 dL_law_910, r_il3 dL_law_911, r_iconst dL_law_912 ki1, r_iadd dL_law_913, r_iald dL_law_914, List.cons_append, List.nil_append, Nat.reduceAdd, Option.toList, aI_ok, z0, hrd, q1, q2, q3, q4, q5, w1, w2, w3, w4, w5, n1, n2, n3, n4, n5, true_and]
  refine r_iv2 dL_law_915 M11_119 Y129 O129 (Nat.le_of_ble_eq_true rfl) (rcv_own hT) (by omega) (by omega) ?_
  refine c_mono (pr_low (d := d) (st_reads hI) hlw) ?_
  rintro v1 hm1 hs1 ⟨hl1, a, rfl, hC⟩
  have hrd1 : im_rd X hm1 b = some (ia L f) := by rw [rd_ext (hl1.1.1 b hbB)]; exact hXb
  obtain ⟨f1, hg1⟩ := hl1.2.2
  simp (disch := first | omega | (simp only [List.length_cons, List.length_nil]; omega)) only [r_al2 dL_law_918, r_al0 dL_law_919, r_il3 dL_law_920, r_iconst dL_law_921 ki1, r_iadd dL_law_922, r_iald dL_law_923, List.cons_append, List.nil_append, Nat.reduceAdd, Option.toList, aI_ok, z0, hrd1, q1, q2, q3, q4, q5, w1, w2, w3, w4, w5, n1, n2, n3, n4, n5, true_and]
  refine r_iv2 dL_law_924 M11_122 Y243 O243 (Nat.le_of_ble_eq_true rfl) (rcv_own hg1) (by omega) (by omega) ?_
  refine c_mono hC ?_
  rintro v2 hm2 hs2 ⟨rfl, ⟨x, rfl⟩, hI2⟩
  simp (disch := first | omega | (simp only [List.length_cons, List.length_nil]; omega)) only [r_ic_eqB (tgt := 1420) dL_law_927 rfl, r_iconst dL_law_930 ki0, r_zret0 dL_law_931, r_zret1 dL_law_931, r_zretc dL_law_931, List.cons_append, List.nil_append, Nat.reduceAdd, Option.toList, z0, lg_self]
  refine ⟨fun _ => ?_, fun z => absurd (by trivial) z⟩
  try simp (disch := omega) only [E2, nI_1, nI_add, nI_leI, nI_ltI, nI_eq, nI_clamp]
  exact hN hm2 hs2 _ _ hI2 (by omega) (by omega)
theorem law_c26 (hI : INV B t m hm hs) (hK : KW X EV B) (hY : KY X EV B) (hX : XT X EV B) (hbB : b < B) (hXb : X b = some (ia L f)) (hk : 6 * k + 6 ≤ L) (hL : L ≤ 3072) (hcu : cu ≤ 5000) (hsu : su ≤ 500000)
    (hN : ∀ hm2 hs2 cu2 su2, INV B t m hm2 hs2 → cu2 ≤ cu + 1 → su2 ≤ su + 13 → E1 X EV (d + 19) 11 600000 7302250 (some .boolean) false cL_law Q 1420 [.ref b, .ref t, .ref m, .int (nI (6 * k))] [] cu2 su2 hm2 hs2) : E1 X EV (d + 19) 11 600000 7302250 (some .boolean) false cL_law Q 932 [.ref b, .ref t, .ref m, .int (nI (6 * k))] [] cu su hm hs := by
  obtain ⟨hT, hlw⟩ := inv_lw hI
  obtain ⟨q1, q2, q3, q4, q5, w1, w2, w3, w4, w5, n1, n2, n3, n4, n5⟩ := six hk hL
  obtain ⟨fT, hT⟩ := hT
  have hrd : im_rd X hm b = some (ia L f) := by rw [rd_ext (hlw.1.1 b hbB)]; exact hXb
  simp (disch := first | omega | (simp only [List.length_cons, List.length_nil]; omega)) only [r_al1 dL_law_932, r_al0 dL_law_933, r_il3 dL_law_934, r_iconst dL_law_935 ki1, r_iadd dL_law_936, r_iald dL_law_937, r_al0 dL_law_938, r_il3 dL_law_939, r_iconst dL_law_940 ki2, r_iadd dL_law_941, r_iald dL_law_942, List.cons_append, List.nil_append, Nat.reduceAdd, Option.toList, aI_ok, z0, hrd, q1, q2, q3, q4, q5, w1, w2, w3, w4, w5, n1, n2, n3, n4, n5, true_and]
  refine r_iv3 dL_law_943 M11_123 Y130 O130 (Nat.le_of_ble_eq_true rfl) (rcv_own hT) (by omega) (by omega) ?_
  refine c_mono (pr_low (d := d) (st_letter hI) hlw) ?_
  rintro v1 hm1 hs1 ⟨hl1, a, rfl, hC⟩
  have hrd1 : im_rd X hm1 b = some (ia L f) := by rw [rd_ext (hl1.1.1 b hbB)]; exact hXb
  obtain ⟨f1, hg1⟩ := hl1.2.2
  simp (disch := first | omega | (simp only [List.length_cons, List.length_nil]; omega)) only [r_al2 dL_law_946, r_al0 dL_law_947, r_il3 dL_law_948, r_iconst dL_law_949 ki1, r_iadd dL_law_950, r_iald dL_law_951, r_al0 dL_law_952, r_il3 dL_law_953, r_iconst dL_law_954 ki2, r_iadd dL_law_955, r_iald dL_law_956, List.cons_append, List.nil_append, Nat.reduceAdd, Option.toList, aI_ok, z0, hrd1, q1, q2, q3, q4, q5, w1, w2, w3, w4, w5, n1, n2, n3, n4, n5, true_and]
  refine r_iv3 dL_law_957 M11_126 Y244 O244 (Nat.le_of_ble_eq_true rfl) (rcv_own hg1) (by omega) (by omega) ?_
  refine c_mono hC ?_
  rintro v2 hm2 hs2 ⟨rfl, ⟨x, rfl⟩, hI2⟩
  simp (disch := first | omega | (simp only [List.length_cons, List.length_nil]; omega)) only [r_ic_eqB (tgt := 1420) dL_law_960 rfl, r_iconst dL_law_963 ki0, r_zret0 dL_law_964, r_zret1 dL_law_964, r_zretc dL_law_964, List.cons_append, List.nil_append, Nat.reduceAdd, Option.toList, z0, lg_self]
  refine ⟨fun _ => ?_, fun z => absurd (by trivial) z⟩
  try simp (disch := omega) only [E2, nI_1, nI_add, nI_leI, nI_ltI, nI_eq, nI_clamp]
  exact hN hm2 hs2 _ _ hI2 (by omega) (by omega)
theorem law_c27 (hI : INV B t m hm hs) (hK : KW X EV B) (hY : KY X EV B) (hX : XT X EV B) (hbB : b < B) (hXb : X b = some (ia L f)) (hk : 6 * k + 6 ≤ L) (hL : L ≤ 3072) (hcu : cu ≤ 5000) (hsu : su ≤ 500000)
    (hN : ∀ hm2 hs2 cu2 su2, INV B t m hm2 hs2 → cu2 ≤ cu + 1 → su2 ≤ su + 13 → E1 X EV (d + 19) 11 600000 7302250 (some .boolean) false cL_law Q 1420 [.ref b, .ref t, .ref m, .int (nI (6 * k))] [] cu2 su2 hm2 hs2) : E1 X EV (d + 19) 11 600000 7302250 (some .boolean) false cL_law Q 965 [.ref b, .ref t, .ref m, .int (nI (6 * k))] [] cu su hm hs := by
  obtain ⟨hT, hlw⟩ := inv_lw hI
  obtain ⟨q1, q2, q3, q4, q5, w1, w2, w3, w4, w5, n1, n2, n3, n4, n5⟩ := six hk hL
  obtain ⟨fT, hT⟩ := hT
  have hrd : im_rd X hm b = some (ia L f) := by rw [rd_ext (hlw.1.1 b hbB)]; exact hXb
  simp (disch := first | omega | (simp only [List.length_cons, List.length_nil]; omega)) only [r_al1 dL_law_965, r_al0 dL_law_966, r_il3 dL_law_967, r_iconst dL_law_968 ki1, r_iadd dL_law_969, r_iald dL_law_970, List.cons_append, List.nil_append, Nat.reduceAdd, Option.toList, aI_ok, z0, hrd, q1, q2, q3, q4, q5, w1, w2, w3, w4, w5, n1, n2, n3, n4, n5, true_and]
  refine r_iv2 dL_law_971 M11_127 Y135 O135 (Nat.le_of_ble_eq_true rfl) (rcv_own hT) (by omega) (by omega) ?_
  refine c_mono (pr_low (d := d) (st_asking hI) hlw) ?_
  rintro v1 hm1 hs1 ⟨hl1, a, rfl, hC⟩
  have hrd1 : im_rd X hm1 b = some (ia L f) := by rw [rd_ext (hl1.1.1 b hbB)]; exact hXb
  obtain ⟨f1, hg1⟩ := hl1.2.2
  simp (disch := first | omega | (simp only [List.length_cons, List.length_nil]; omega)) only [r_al2 dL_law_974, r_al0 dL_law_975, r_il3 dL_law_976, r_iconst dL_law_977 ki1, r_iadd dL_law_978, r_iald dL_law_979, List.cons_append, List.nil_append, Nat.reduceAdd, Option.toList, aI_ok, z0, hrd1, q1, q2, q3, q4, q5, w1, w2, w3, w4, w5, n1, n2, n3, n4, n5, true_and]
  refine r_iv2 dL_law_980 M11_131 Y246 O246 (Nat.le_of_ble_eq_true rfl) (rcv_own hg1) (by omega) (by omega) ?_
  refine c_mono hC ?_
  rintro v2 hm2 hs2 ⟨rfl, ⟨x, rfl⟩, hI2⟩
  simp (disch := first | omega | (simp only [List.length_cons, List.length_nil]; omega)) only [r_lcmp dL_law_983, r_if_eqB (tgt := 1420) dL_law_984 rfl, r_iconst dL_law_987 ki0, r_zret0 dL_law_988, r_zret1 dL_law_988, r_zretc dL_law_988, List.cons_append, List.nil_append, Nat.reduceAdd, Option.toList, z0, lg_self]
  refine ⟨fun _ => ?_, fun z => absurd (by trivial) z⟩
  try simp (disch := omega) only [E2, nI_1, nI_add, nI_leI, nI_ltI, nI_eq, nI_clamp]
  exact hN hm2 hs2 _ _ hI2 (by omega) (by omega)
theorem law_c28 (hI : INV B t m hm hs) (hK : KW X EV B) (hY : KY X EV B) (hX : XT X EV B) (hbB : b < B) (hXb : X b = some (ia L f)) (hk : 6 * k + 6 ≤ L) (hL : L ≤ 3072) (hcu : cu ≤ 5000) (hsu : su ≤ 500000)
    (hN : ∀ hm2 hs2 cu2 su2, INV B t m hm2 hs2 → cu2 ≤ cu + 1 → su2 ≤ su + 13 → E1 X EV (d + 19) 11 600000 7302250 (some .boolean) false cL_law Q 1420 [.ref b, .ref t, .ref m, .int (nI (6 * k))] [] cu2 su2 hm2 hs2) : E1 X EV (d + 19) 11 600000 7302250 (some .boolean) false cL_law Q 989 [.ref b, .ref t, .ref m, .int (nI (6 * k))] [] cu su hm hs := by
  obtain ⟨hT, hlw⟩ := inv_lw hI
  obtain ⟨q1, q2, q3, q4, q5, w1, w2, w3, w4, w5, n1, n2, n3, n4, n5⟩ := six hk hL
  obtain ⟨fT, hT⟩ := hT
  have hrd : im_rd X hm b = some (ia L f) := by rw [rd_ext (hlw.1.1 b hbB)]; exact hXb
  simp (disch := first | omega | (simp only [List.length_cons, List.length_nil]; omega)) only [r_al1 dL_law_989, r_al0 dL_law_990, r_il3 dL_law_991, r_iconst dL_law_992 ki1, r_iadd dL_law_993, r_iald dL_law_994, List.cons_append, List.nil_append, Nat.reduceAdd, Option.toList, aI_ok, z0, hrd, q1, q2, q3, q4, q5, w1, w2, w3, w4, w5, n1, n2, n3, n4, n5, true_and]
  refine r_iv2 dL_law_995 M11_132 Y136 O136 (Nat.le_of_ble_eq_true rfl) (rcv_own hT) (by omega) (by omega) ?_
  refine c_mono (pr_low (d := d) (st_loose hI) hlw) ?_
  rintro v1 hm1 hs1 ⟨hl1, a, rfl, hC⟩
  have hrd1 : im_rd X hm1 b = some (ia L f) := by rw [rd_ext (hl1.1.1 b hbB)]; exact hXb
  obtain ⟨f1, hg1⟩ := hl1.2.2
  simp (disch := first | omega | (simp only [List.length_cons, List.length_nil]; omega)) only [r_al2 dL_law_998, r_al0 dL_law_999, r_il3 dL_law_1000, r_iconst dL_law_1001 ki1, r_iadd dL_law_1002, r_iald dL_law_1003, List.cons_append, List.nil_append, Nat.reduceAdd, Option.toList, aI_ok, z0, hrd1, q1, q2, q3, q4, q5, w1, w2, w3, w4, w5, n1, n2, n3, n4, n5, true_and]
  refine r_iv2 dL_law_1004 M11_135 Y248 O248 (Nat.le_of_ble_eq_true rfl) (rcv_own hg1) (by omega) (by omega) ?_
  refine c_mono hC ?_
  rintro v2 hm2 hs2 ⟨rfl, ⟨x, rfl⟩, hI2⟩
  simp (disch := first | omega | (simp only [List.length_cons, List.length_nil]; omega)) only [r_ic_eqB (tgt := 1420) dL_law_1007 rfl, r_iconst dL_law_1010 ki0, r_zret0 dL_law_1011, r_zret1 dL_law_1011, r_zretc dL_law_1011, List.cons_append, List.nil_append, Nat.reduceAdd, Option.toList, z0, lg_self]
  refine ⟨fun _ => ?_, fun z => absurd (by trivial) z⟩
  try simp (disch := omega) only [E2, nI_1, nI_add, nI_leI, nI_ltI, nI_eq, nI_clamp]
  exact hN hm2 hs2 _ _ hI2 (by omega) (by omega)
theorem law_c29 (hI : INV B t m hm hs) (hK : KW X EV B) (hY : KY X EV B) (hX : XT X EV B) (hbB : b < B) (hXb : X b = some (ia L f)) (hk : 6 * k + 6 ≤ L) (hL : L ≤ 3072) (hcu : cu ≤ 5000) (hsu : su ≤ 500000)
    (hN : ∀ hm2 hs2 cu2 su2, INV B t m hm2 hs2 → cu2 ≤ cu + 1 → su2 ≤ su + 13 → E1 X EV (d + 19) 11 600000 7302250 (some .boolean) false cL_law Q 1420 [.ref b, .ref t, .ref m, .int (nI (6 * k))] [] cu2 su2 hm2 hs2) : E1 X EV (d + 19) 11 600000 7302250 (some .boolean) false cL_law Q 1012 [.ref b, .ref t, .ref m, .int (nI (6 * k))] [] cu su hm hs := by
  obtain ⟨hT, hlw⟩ := inv_lw hI
  obtain ⟨q1, q2, q3, q4, q5, w1, w2, w3, w4, w5, n1, n2, n3, n4, n5⟩ := six hk hL
  obtain ⟨fT, hT⟩ := hT
  have hrd : im_rd X hm b = some (ia L f) := by rw [rd_ext (hlw.1.1 b hbB)]; exact hXb
  simp (disch := first | omega | (simp only [List.length_cons, List.length_nil]; omega)) only [r_al1 dL_law_1012, List.cons_append, List.nil_append, Nat.reduceAdd, Option.toList, z0, hrd, q1, q2, q3, q4, q5, w1, w2, w3, w4, w5, n1, n2, n3, n4, n5, true_and]
  refine r_iv1 dL_law_1013 M11_136 Y138 O138 (Nat.le_of_ble_eq_true rfl) (rcv_own hT) (by omega) (by omega) ?_
  refine c_mono (pr_low (d := d) (st_scrape hI) hlw) ?_
  rintro v1 hm1 hs1 ⟨hl1, a, rfl, hC⟩
  have hrd1 : im_rd X hm1 b = some (ia L f) := by rw [rd_ext (hl1.1.1 b hbB)]; exact hXb
  obtain ⟨f1, hg1⟩ := hl1.2.2
  simp (disch := first | omega | (simp only [List.length_cons, List.length_nil]; omega)) only [r_al2 dL_law_1016, List.cons_append, List.nil_append, Nat.reduceAdd, Option.toList, z0, hrd1, q1, q2, q3, q4, q5, w1, w2, w3, w4, w5, n1, n2, n3, n4, n5, true_and]
  refine r_iv1 dL_law_1017 M11_139 Y249 O249 (Nat.le_of_ble_eq_true rfl) (rcv_own hg1) (by omega) (by omega) ?_
  refine c_mono hC ?_
  rintro v2 hm2 hs2 ⟨rfl, ⟨x, rfl⟩, hI2⟩
  simp (disch := first | omega | (simp only [List.length_cons, List.length_nil]; omega)) only [r_ic_eqB (tgt := 1420) dL_law_1020 rfl, r_iconst dL_law_1023 ki0, r_zret0 dL_law_1024, r_zret1 dL_law_1024, r_zretc dL_law_1024, List.cons_append, List.nil_append, Nat.reduceAdd, Option.toList, z0, lg_self]
  refine ⟨fun _ => ?_, fun z => absurd (by trivial) z⟩
  try simp (disch := omega) only [E2, nI_1, nI_add, nI_leI, nI_ltI, nI_eq, nI_clamp]
  exact hN hm2 hs2 _ _ hI2 (by omega) (by omega)
theorem law_c30 (hI : INV B t m hm hs) (hK : KW X EV B) (hY : KY X EV B) (hX : XT X EV B) (hbB : b < B) (hXb : X b = some (ia L f)) (hk : 6 * k + 6 ≤ L) (hL : L ≤ 3072) (hcu : cu ≤ 5000) (hsu : su ≤ 500000)
    (hN : ∀ hm2 hs2 cu2 su2, INV B t m hm2 hs2 → cu2 ≤ cu + 1 → su2 ≤ su + 13 → E1 X EV (d + 19) 11 600000 7302250 (some .boolean) false cL_law Q 1420 [.ref b, .ref t, .ref m, .int (nI (6 * k))] [] cu2 su2 hm2 hs2) : E1 X EV (d + 19) 11 600000 7302250 (some .boolean) false cL_law Q 1025 [.ref b, .ref t, .ref m, .int (nI (6 * k))] [] cu su hm hs := by
  obtain ⟨hT, hlw⟩ := inv_lw hI
  obtain ⟨q1, q2, q3, q4, q5, w1, w2, w3, w4, w5, n1, n2, n3, n4, n5⟩ := six hk hL
  obtain ⟨fT, hT⟩ := hT
  have hrd : im_rd X hm b = some (ia L f) := by rw [rd_ext (hlw.1.1 b hbB)]; exact hXb
  simp (disch := first | omega | (simp only [List.length_cons, List.length_nil]; omega)) only [r_al1 dL_law_1025, r_al0 dL_law_1026, r_il3 dL_law_1027, r_iconst dL_law_1028 ki1, r_iadd dL_law_1029, r_iald dL_law_1030, r_al0 dL_law_1031, r_il3 dL_law_1032, r_iconst dL_law_1033 ki2, r_iadd dL_law_1034, r_iald dL_law_1035, List.cons_append, List.nil_append, Nat.reduceAdd, Option.toList, aI_ok, z0, hrd, q1, q2, q3, q4, q5, w1, w2, w3, w4, w5, n1, n2, n3, n4, n5, true_and]
  refine r_iv3 dL_law_1036 M11_140 Y139 O139 (Nat.le_of_ble_eq_true rfl) (rcv_own hT) (by omega) (by omega) ?_
  refine c_mono (pr_low (d := d) (st_clearer hI) hlw) ?_
  rintro v1 hm1 hs1 ⟨hl1, a, rfl, hC⟩
  have hrd1 : im_rd X hm1 b = some (ia L f) := by rw [rd_ext (hl1.1.1 b hbB)]; exact hXb
  obtain ⟨f1, hg1⟩ := hl1.2.2
  simp (disch := first | omega | (simp only [List.length_cons, List.length_nil]; omega)) only [r_al2 dL_law_1039, r_al0 dL_law_1040, r_il3 dL_law_1041, r_iconst dL_law_1042 ki1, r_iadd dL_law_1043, r_iald dL_law_1044, r_al0 dL_law_1045, r_il3 dL_law_1046, r_iconst dL_law_1047 ki2, r_iadd dL_law_1048, r_iald dL_law_1049, List.cons_append, List.nil_append, Nat.reduceAdd, Option.toList, aI_ok, z0, hrd1, q1, q2, q3, q4, q5, w1, w2, w3, w4, w5, n1, n2, n3, n4, n5, true_and]
  refine r_iv3 dL_law_1050 M11_143 Y250 O250 (Nat.le_of_ble_eq_true rfl) (rcv_own hg1) (by omega) (by omega) ?_
  refine c_mono hC ?_
  rintro v2 hm2 hs2 ⟨rfl, ⟨x, rfl⟩, hI2⟩
  simp (disch := first | omega | (simp only [List.length_cons, List.length_nil]; omega)) only [r_ic_eqB (tgt := 1420) dL_law_1053 rfl, r_iconst dL_law_1056 ki0, r_zret0 dL_law_1057, r_zret1 dL_law_1057, r_zretc dL_law_1057, List.cons_append, List.nil_append, Nat.reduceAdd, Option.toList, z0, lg_self]
  refine ⟨fun _ => ?_, fun z => absurd (by trivial) z⟩
  try simp (disch := omega) only [E2, nI_1, nI_add, nI_leI, nI_ltI, nI_eq, nI_clamp]
  exact hN hm2 hs2 _ _ hI2 (by omega) (by omega)
end LV2
