section LV3
variable {X : HM} {EV : Nat → Value} {d : Nat} {B t m b L k cu su : Nat} {f : Nat → Int32} {Q : QT} {hm : HM} {hs : Nat}
theorem law_c31 (hI : INV B t m hm hs) (hK : KW X EV B) (hY : KY X EV B) (hX : XT X EV B) (hbB : b < B) (hXb : X b = some (ia L f)) (hk : 6 * k + 6 ≤ L) (hL : L ≤ 3072) (hcu : cu ≤ 5000) (hsu : su ≤ 500000)
    (hN : ∀ hm2 hs2 cu2 su2, INV B t m hm2 hs2 → cu2 ≤ cu + 1 → su2 ≤ su + 13 → E1 X EV (d + 19) 11 600000 7302250 (some .boolean) false cL_law Q 1420 [.ref b, .ref t, .ref m, .int (nI (6 * k))] [] cu2 su2 hm2 hs2) : E1 X EV (d + 19) 11 600000 7302250 (some .boolean) false cL_law Q 1058 [.ref b, .ref t, .ref m, .int (nI (6 * k))] [] cu su hm hs := by
  obtain ⟨hT, hlw⟩ := inv_lw hI
  obtain ⟨q1, q2, q3, q4, q5, w1, w2, w3, w4, w5, n1, n2, n3, n4, n5⟩ := six hk hL
  obtain ⟨fT, hT⟩ := hT
  have hrd : im_rd X hm b = some (ia L f) := by rw [rd_ext (hlw.1.1 b hbB)]; exact hXb
  simp (disch := first | omega | (simp only [List.length_cons, List.length_nil]; omega)) only [r_al1 dL_law_1058, r_al0 dL_law_1059, r_il3 dL_law_1060, r_iconst dL_law_1061 ki1, r_iadd dL_law_1062, r_iald dL_law_1063, r_al0 dL_law_1064, r_il3 dL_law_1065, r_iconst dL_law_1066 ki2, r_iadd dL_law_1067, r_iald dL_law_1068, List.cons_append, List.nil_append, Nat.reduceAdd, Option.toList, aI_ok, z0, hrd, q1, q2, q3, q4, q5, w1, w2, w3, w4, w5, n1, n2, n3, n4, n5, true_and]
  refine r_iv3 dL_law_1069 M11_144 Y140 O140 (Nat.le_of_ble_eq_true rfl) (rcv_own hT) (by omega) (by omega) ?_
  refine c_mono (pr_low (d := d) (st_span hI) hlw) ?_
  rintro v1 hm1 hs1 ⟨hl1, a, rfl, hC⟩
  have hrd1 : im_rd X hm1 b = some (ia L f) := by rw [rd_ext (hl1.1.1 b hbB)]; exact hXb
  obtain ⟨f1, hg1⟩ := hl1.2.2
  simp (disch := first | omega | (simp only [List.length_cons, List.length_nil]; omega)) only [r_al2 dL_law_1072, r_al0 dL_law_1073, r_il3 dL_law_1074, r_iconst dL_law_1075 ki1, r_iadd dL_law_1076, r_iald dL_law_1077, r_al0 dL_law_1078, r_il3 dL_law_1079, r_iconst dL_law_1080 ki2, r_iadd dL_law_1081, r_iald dL_law_1082, List.cons_append, List.nil_append, Nat.reduceAdd, Option.toList, aI_ok, z0, hrd1, q1, q2, q3, q4, q5, w1, w2, w3, w4, w5, n1, n2, n3, n4, n5, true_and]
  refine r_iv3 dL_law_1083 M11_147 Y215 O215 (Nat.le_of_ble_eq_true rfl) (rcv_own hg1) (by omega) (by omega) ?_
  refine c_mono hC ?_
  rintro v2 hm2 hs2 ⟨rfl, ⟨x, rfl⟩, hI2⟩
  simp (disch := first | omega | (simp only [List.length_cons, List.length_nil]; omega)) only [r_lcmp dL_law_1086, r_if_eqB (tgt := 1420) dL_law_1087 rfl, r_iconst dL_law_1090 ki0, r_zret0 dL_law_1091, r_zret1 dL_law_1091, r_zretc dL_law_1091, List.cons_append, List.nil_append, Nat.reduceAdd, Option.toList, z0, lg_self]
  refine ⟨fun _ => ?_, fun z => absurd (by trivial) z⟩
  try simp (disch := omega) only [E2, nI_1, nI_add, nI_leI, nI_ltI, nI_eq, nI_clamp]
  exact hN hm2 hs2 _ _ hI2 (by omega) (by omega)
theorem law_c32 (hI : INV B t m hm hs) (hK : KW X EV B) (hY : KY X EV B) (hX : XT X EV B) (hbB : b < B) (hXb : X b = some (ia L f)) (hk : 6 * k + 6 ≤ L) (hL : L ≤ 3072) (hcu : cu ≤ 5000) (hsu : su ≤ 500000)
    (hN : ∀ hm2 hs2 cu2 su2, INV B t m hm2 hs2 → cu2 ≤ cu + 1 → su2 ≤ su + 13 → E1 X EV (d + 19) 11 600000 7302250 (some .boolean) false cL_law Q 1420 [.ref b, .ref t, .ref m, .int (nI (6 * k))] [] cu2 su2 hm2 hs2) : E1 X EV (d + 19) 11 600000 7302250 (some .boolean) false cL_law Q 1092 [.ref b, .ref t, .ref m, .int (nI (6 * k))] [] cu su hm hs := by
  obtain ⟨hT, hlw⟩ := inv_lw hI
  obtain ⟨q1, q2, q3, q4, q5, w1, w2, w3, w4, w5, n1, n2, n3, n4, n5⟩ := six hk hL
  obtain ⟨fT, hT⟩ := hT
  have hrd : im_rd X hm b = some (ia L f) := by rw [rd_ext (hlw.1.1 b hbB)]; exact hXb
  simp (disch := first | omega | (simp only [List.length_cons, List.length_nil]; omega)) only [r_al1 dL_law_1092, r_al0 dL_law_1093, r_il3 dL_law_1094, r_iconst dL_law_1095 ki1, r_iadd dL_law_1096, r_iald dL_law_1097, r_al0 dL_law_1098, r_il3 dL_law_1099, r_iconst dL_law_1100 ki2, r_iadd dL_law_1101, r_iald dL_law_1102, List.cons_append, List.nil_append, Nat.reduceAdd, Option.toList, aI_ok, z0, hrd, q1, q2, q3, q4, q5, w1, w2, w3, w4, w5, n1, n2, n3, n4, n5, true_and]
  refine r_iv3 dL_law_1103 M11_148 Y141 O141 (Nat.le_of_ble_eq_true rfl) (rcv_own hT) (by omega) (by omega) ?_
  refine c_mono (pr_low (d := d) (st_paired hI) hlw) ?_
  rintro v1 hm1 hs1 ⟨hl1, a, rfl, hC⟩
  have hrd1 : im_rd X hm1 b = some (ia L f) := by rw [rd_ext (hl1.1.1 b hbB)]; exact hXb
  obtain ⟨f1, hg1⟩ := hl1.2.2
  simp (disch := first | omega | (simp only [List.length_cons, List.length_nil]; omega)) only [r_al2 dL_law_1106, r_al0 dL_law_1107, r_il3 dL_law_1108, r_iconst dL_law_1109 ki1, r_iadd dL_law_1110, r_iald dL_law_1111, r_al0 dL_law_1112, r_il3 dL_law_1113, r_iconst dL_law_1114 ki2, r_iadd dL_law_1115, r_iald dL_law_1116, List.cons_append, List.nil_append, Nat.reduceAdd, Option.toList, aI_ok, z0, hrd1, q1, q2, q3, q4, q5, w1, w2, w3, w4, w5, n1, n2, n3, n4, n5, true_and]
  refine r_iv3 dL_law_1117 M11_151 Y216 O216 (Nat.le_of_ble_eq_true rfl) (rcv_own hg1) (by omega) (by omega) ?_
  refine c_mono hC ?_
  rintro v2 hm2 hs2 ⟨rfl, ⟨x, rfl⟩, hI2⟩
  simp (disch := first | omega | (simp only [List.length_cons, List.length_nil]; omega)) only [r_ic_eqB (tgt := 1420) dL_law_1120 rfl, r_iconst dL_law_1123 ki0, r_zret0 dL_law_1124, r_zret1 dL_law_1124, r_zretc dL_law_1124, List.cons_append, List.nil_append, Nat.reduceAdd, Option.toList, z0, lg_self]
  refine ⟨fun _ => ?_, fun z => absurd (by trivial) z⟩
  try simp (disch := omega) only [E2, nI_1, nI_add, nI_leI, nI_ltI, nI_eq, nI_clamp]
  exact hN hm2 hs2 _ _ hI2 (by omega) (by omega)
theorem law_c33 (hI : INV B t m hm hs) (hK : KW X EV B) (hY : KY X EV B) (hX : XT X EV B) (hbB : b < B) (hXb : X b = some (ia L f)) (hk : 6 * k + 6 ≤ L) (hL : L ≤ 3072) (hcu : cu ≤ 5000) (hsu : su ≤ 500000)
    (hN : ∀ hm2 hs2 cu2 su2, INV B t m hm2 hs2 → cu2 ≤ cu + 1 → su2 ≤ su + 13 → E1 X EV (d + 19) 11 600000 7302250 (some .boolean) false cL_law Q 1420 [.ref b, .ref t, .ref m, .int (nI (6 * k))] [] cu2 su2 hm2 hs2) : E1 X EV (d + 19) 11 600000 7302250 (some .boolean) false cL_law Q 1125 [.ref b, .ref t, .ref m, .int (nI (6 * k))] [] cu su hm hs := by
  obtain ⟨hT, hlw⟩ := inv_lw hI
  obtain ⟨q1, q2, q3, q4, q5, w1, w2, w3, w4, w5, n1, n2, n3, n4, n5⟩ := six hk hL
  obtain ⟨fT, hT⟩ := hT
  have hrd : im_rd X hm b = some (ia L f) := by rw [rd_ext (hlw.1.1 b hbB)]; exact hXb
  simp (disch := first | omega | (simp only [List.length_cons, List.length_nil]; omega)) only [r_al1 dL_law_1125, r_al0 dL_law_1126, r_il3 dL_law_1127, r_iconst dL_law_1128 ki1, r_iadd dL_law_1129, r_iald dL_law_1130, r_al0 dL_law_1131, r_il3 dL_law_1132, r_iconst dL_law_1133 ki2, r_iadd dL_law_1134, r_iald dL_law_1135, List.cons_append, List.nil_append, Nat.reduceAdd, Option.toList, aI_ok, z0, hrd, q1, q2, q3, q4, q5, w1, w2, w3, w4, w5, n1, n2, n3, n4, n5, true_and]
  refine r_iv3 dL_law_1136 M11_152 Y142 O142 (Nat.le_of_ble_eq_true rfl) (rcv_own hT) (by omega) (by omega) ?_
  refine c_mono (pr_low (d := d) (st_likelihood hI) hlw) ?_
  rintro v1 hm1 hs1 ⟨hl1, a, rfl, hC⟩
  have hrd1 : im_rd X hm1 b = some (ia L f) := by rw [rd_ext (hl1.1.1 b hbB)]; exact hXb
  obtain ⟨f1, hg1⟩ := hl1.2.2
  simp (disch := first | omega | (simp only [List.length_cons, List.length_nil]; omega)) only [r_al2 dL_law_1139, r_al0 dL_law_1140, r_il3 dL_law_1141, r_iconst dL_law_1142 ki1, r_iadd dL_law_1143, r_iald dL_law_1144, r_al0 dL_law_1145, r_il3 dL_law_1146, r_iconst dL_law_1147 ki2, r_iadd dL_law_1148, r_iald dL_law_1149, List.cons_append, List.nil_append, Nat.reduceAdd, Option.toList, aI_ok, z0, hrd1, q1, q2, q3, q4, q5, w1, w2, w3, w4, w5, n1, n2, n3, n4, n5, true_and]
  refine r_iv3 dL_law_1150 M11_155 Y241 O241 (Nat.le_of_ble_eq_true rfl) (rcv_own hg1) (by omega) (by omega) ?_
  refine c_mono hC ?_
  rintro v2 hm2 hs2 ⟨rfl, ⟨x, rfl⟩, hI2⟩
  simp (disch := first | omega | (simp only [List.length_cons, List.length_nil]; omega)) only [r_ic_eqB (tgt := 1420) dL_law_1153 rfl, r_iconst dL_law_1156 ki0, r_zret0 dL_law_1157, r_zret1 dL_law_1157, r_zretc dL_law_1157, List.cons_append, List.nil_append, Nat.reduceAdd, Option.toList, z0, lg_self]
  refine ⟨fun _ => ?_, fun z => absurd (by trivial) z⟩
  try simp (disch := omega) only [E2, nI_1, nI_add, nI_leI, nI_ltI, nI_eq, nI_clamp]
  exact hN hm2 hs2 _ _ hI2 (by omega) (by omega)
theorem law_c34 (hI : INV B t m hm hs) (hK : KW X EV B) (hY : KY X EV B) (hX : XT X EV B) (hbB : b < B) (hXb : X b = some (ia L f)) (hk : 6 * k + 6 ≤ L) (hL : L ≤ 3072) (hcu : cu ≤ 5000) (hsu : su ≤ 500000)
    (hN : ∀ hm2 hs2 cu2 su2, INV B t m hm2 hs2 → cu2 ≤ cu + 1 → su2 ≤ su + 13 → E1 X EV (d + 19) 11 600000 7302250 (some .boolean) false cL_law Q 1420 [.ref b, .ref t, .ref m, .int (nI (6 * k))] [] cu2 su2 hm2 hs2) : E1 X EV (d + 19) 11 600000 7302250 (some .boolean) false cL_law Q 1158 [.ref b, .ref t, .ref m, .int (nI (6 * k))] [] cu su hm hs := by
  obtain ⟨hT, hlw⟩ := inv_lw hI
  obtain ⟨q1, q2, q3, q4, q5, w1, w2, w3, w4, w5, n1, n2, n3, n4, n5⟩ := six hk hL
  obtain ⟨fT, hT⟩ := hT
  have hrd : im_rd X hm b = some (ia L f) := by rw [rd_ext (hlw.1.1 b hbB)]; exact hXb
  simp (disch := first | omega | (simp only [List.length_cons, List.length_nil]; omega)) only [r_al1 dL_law_1158, r_al0 dL_law_1159, r_il3 dL_law_1160, r_iconst dL_law_1161 ki1, r_iadd dL_law_1162, r_iald dL_law_1163, r_al0 dL_law_1164, r_il3 dL_law_1165, r_iconst dL_law_1166 ki2, r_iadd dL_law_1167, r_iald dL_law_1168, List.cons_append, List.nil_append, Nat.reduceAdd, Option.toList, aI_ok, z0, hrd, q1, q2, q3, q4, q5, w1, w2, w3, w4, w5, n1, n2, n3, n4, n5, true_and]
  refine r_iv3 dL_law_1169 M11_156 Y143 O143 (Nat.le_of_ble_eq_true rfl) (rcv_own hT) (by omega) (by omega) ?_
  refine c_mono (pr_low (d := d) (st_spoilt hI) hlw) ?_
  rintro v1 hm1 hs1 ⟨hl1, a, rfl, hC⟩
  have hrd1 : im_rd X hm1 b = some (ia L f) := by rw [rd_ext (hl1.1.1 b hbB)]; exact hXb
  obtain ⟨f1, hg1⟩ := hl1.2.2
  simp (disch := first | omega | (simp only [List.length_cons, List.length_nil]; omega)) only [r_al2 dL_law_1172, r_al0 dL_law_1173, r_il3 dL_law_1174, r_iconst dL_law_1175 ki1, r_iadd dL_law_1176, r_iald dL_law_1177, r_al0 dL_law_1178, r_il3 dL_law_1179, r_iconst dL_law_1180 ki2, r_iadd dL_law_1181, r_iald dL_law_1182, List.cons_append, List.nil_append, Nat.reduceAdd, Option.toList, aI_ok, z0, hrd1, q1, q2, q3, q4, q5, w1, w2, w3, w4, w5, n1, n2, n3, n4, n5, true_and]
  refine r_iv3 dL_law_1183 M11_159 Y252 O252 (Nat.le_of_ble_eq_true rfl) (rcv_own hg1) (by omega) (by omega) ?_
  refine c_mono hC ?_
  rintro v2 hm2 hs2 ⟨rfl, ⟨x, rfl⟩, hI2⟩
  simp (disch := first | omega | (simp only [List.length_cons, List.length_nil]; omega)) only [r_ic_eqB (tgt := 1420) dL_law_1186 rfl, r_iconst dL_law_1189 ki0, r_zret0 dL_law_1190, r_zret1 dL_law_1190, r_zretc dL_law_1190, List.cons_append, List.nil_append, Nat.reduceAdd, Option.toList, z0, lg_self]
  refine ⟨fun _ => ?_, fun z => absurd (by trivial) z⟩
  try simp (disch := omega) only [E2, nI_1, nI_add, nI_leI, nI_ltI, nI_eq, nI_clamp]
  exact hN hm2 hs2 _ _ hI2 (by omega) (by omega)
theorem law_c35 (hI : INV B t m hm hs) (hK : KW X EV B) (hY : KY X EV B) (hX : XT X EV B) (hbB : b < B) (hXb : X b = some (ia L f)) (hk : 6 * k + 6 ≤ L) (hL : L ≤ 3072) (hcu : cu ≤ 5000) (hsu : su ≤ 500000)
    (hN : ∀ hm2 hs2 cu2 su2, INV B t m hm2 hs2 → cu2 ≤ cu + 1 → su2 ≤ su + 13 → E1 X EV (d + 19) 11 600000 7302250 (some .boolean) false cL_law Q 1420 [.ref b, .ref t, .ref m, .int (nI (6 * k))] [] cu2 su2 hm2 hs2) : E1 X EV (d + 19) 11 600000 7302250 (some .boolean) false cL_law Q 1191 [.ref b, .ref t, .ref m, .int (nI (6 * k))] [] cu su hm hs := by
  obtain ⟨hT, hlw⟩ := inv_lw hI
  obtain ⟨q1, q2, q3, q4, q5, w1, w2, w3, w4, w5, n1, n2, n3, n4, n5⟩ := six hk hL
  obtain ⟨fT, hT⟩ := hT
  have hrd : im_rd X hm b = some (ia L f) := by rw [rd_ext (hlw.1.1 b hbB)]; exact hXb
  simp (disch := first | omega | (simp only [List.length_cons, List.length_nil]; omega)) only [r_al1 dL_law_1191, r_al0 dL_law_1192, r_il3 dL_law_1193, r_iconst dL_law_1194 ki1, r_iadd dL_law_1195, r_iald dL_law_1196, r_al0 dL_law_1197, r_il3 dL_law_1198, r_iconst dL_law_1199 ki2, r_iadd dL_law_1200, r_iald dL_law_1201, r_al0 dL_law_1202, r_il3 dL_law_1203, r_iconst dL_law_1204 ki3, r_iadd dL_law_1205, r_iald dL_law_1206, List.cons_append, List.nil_append, Nat.reduceAdd, Option.toList, aI_ok, z0, hrd, q1, q2, q3, q4, q5, w1, w2, w3, w4, w5, n1, n2, n3, n4, n5, true_and]
  refine r_iv4 dL_law_1207 M11_160 Y145 O145 (Nat.le_of_ble_eq_true rfl) (rcv_own hT) (by omega) (by omega) ?_
  refine c_mono (pr_low (d := d) (st_row hI) hlw) ?_
  rintro v1 hm1 hs1 ⟨hl1, a, rfl, hC⟩
  have hrd1 : im_rd X hm1 b = some (ia L f) := by rw [rd_ext (hl1.1.1 b hbB)]; exact hXb
  obtain ⟨f1, hg1⟩ := hl1.2.2
  simp (disch := first | omega | (simp only [List.length_cons, List.length_nil]; omega)) only [r_al2 dL_law_1210, r_al0 dL_law_1211, r_il3 dL_law_1212, r_iconst dL_law_1213 ki1, r_iadd dL_law_1214, r_iald dL_law_1215, r_al0 dL_law_1216, r_il3 dL_law_1217, r_iconst dL_law_1218 ki2, r_iadd dL_law_1219, r_iald dL_law_1220, r_al0 dL_law_1221, r_il3 dL_law_1222, r_iconst dL_law_1223 ki3, r_iadd dL_law_1224, r_iald dL_law_1225, List.cons_append, List.nil_append, Nat.reduceAdd, Option.toList, aI_ok, z0, hrd1, q1, q2, q3, q4, q5, w1, w2, w3, w4, w5, n1, n2, n3, n4, n5, true_and]
  refine r_iv4 dL_law_1226 M11_164 Y254 O254 (Nat.le_of_ble_eq_true rfl) (rcv_own hg1) (by omega) (by omega) ?_
  refine c_mono hC ?_
  rintro v2 hm2 hs2 ⟨rfl, ⟨x, rfl⟩, hI2⟩
  simp (disch := first | omega | (simp only [List.length_cons, List.length_nil]; omega)) only [r_ic_eqB (tgt := 1420) dL_law_1229 rfl, r_iconst dL_law_1232 ki0, r_zret0 dL_law_1233, r_zret1 dL_law_1233, r_zretc dL_law_1233, List.cons_append, List.nil_append, Nat.reduceAdd, Option.toList, z0, lg_self]
  refine ⟨fun _ => ?_, fun z => absurd (by trivial) z⟩
  try simp (disch := omega) only [E2, nI_1, nI_add, nI_leI, nI_ltI, nI_eq, nI_clamp]
  exact hN hm2 hs2 _ _ hI2 (by omega) (by omega)
theorem law_c36 (hI : INV B t m hm hs) (hK : KW X EV B) (hY : KY X EV B) (hX : XT X EV B) (hbB : b < B) (hXb : X b = some (ia L f)) (hk : 6 * k + 6 ≤ L) (hL : L ≤ 3072) (hcu : cu ≤ 5000) (hsu : su ≤ 500000)
    (hN : ∀ hm2 hs2 cu2 su2, INV B t m hm2 hs2 → cu2 ≤ cu + 1 → su2 ≤ su + 13 → E1 X EV (d + 19) 11 600000 7302250 (some .boolean) false cL_law Q 1420 [.ref b, .ref t, .ref m, .int (nI (6 * k))] [] cu2 su2 hm2 hs2) : E1 X EV (d + 19) 11 600000 7302250 (some .boolean) false cL_law Q 1234 [.ref b, .ref t, .ref m, .int (nI (6 * k))] [] cu su hm hs := by
  obtain ⟨hT, hlw⟩ := inv_lw hI
  obtain ⟨q1, q2, q3, q4, q5, w1, w2, w3, w4, w5, n1, n2, n3, n4, n5⟩ := six hk hL
  obtain ⟨fT, hT⟩ := hT
  have hrd : im_rd X hm b = some (ia L f) := by rw [rd_ext (hlw.1.1 b hbB)]; exact hXb
  simp (disch := first | omega | (simp only [List.length_cons, List.length_nil]; omega)) only [r_al1 dL_law_1234, r_al0 dL_law_1235, r_il3 dL_law_1236, r_iconst dL_law_1237 ki1, r_iadd dL_law_1238, r_iald dL_law_1239, r_al0 dL_law_1240, r_il3 dL_law_1241, r_iconst dL_law_1242 ki2, r_iadd dL_law_1243, r_iald dL_law_1244, r_al0 dL_law_1245, r_il3 dL_law_1246, r_iconst dL_law_1247 ki3, r_iadd dL_law_1248, r_iald dL_law_1249, List.cons_append, List.nil_append, Nat.reduceAdd, Option.toList, aI_ok, z0, hrd, q1, q2, q3, q4, q5, w1, w2, w3, w4, w5, n1, n2, n3, n4, n5, true_and]
  refine r_iv4 dL_law_1250 M11_165 Y146 O146 (Nat.le_of_ble_eq_true rfl) (rcv_own hT) (by omega) (by omega) ?_
  refine c_mono (pr_low (d := d) (st_write hI) hlw) ?_
  rintro v1 hm1 hs1 ⟨hl1, a, rfl, hC⟩
  have hrd1 : im_rd X hm1 b = some (ia L f) := by rw [rd_ext (hl1.1.1 b hbB)]; exact hXb
  obtain ⟨f1, hg1⟩ := hl1.2.2
  simp (disch := first | omega | (simp only [List.length_cons, List.length_nil]; omega)) only [r_al2 dL_law_1253, r_al0 dL_law_1254, r_il3 dL_law_1255, r_iconst dL_law_1256 ki1, r_iadd dL_law_1257, r_iald dL_law_1258, r_al0 dL_law_1259, r_il3 dL_law_1260, r_iconst dL_law_1261 ki2, r_iadd dL_law_1262, r_iald dL_law_1263, r_al0 dL_law_1264, r_il3 dL_law_1265, r_iconst dL_law_1266 ki3, r_iadd dL_law_1267, r_iald dL_law_1268, List.cons_append, List.nil_append, Nat.reduceAdd, Option.toList, aI_ok, z0, hrd1, q1, q2, q3, q4, q5, w1, w2, w3, w4, w5, n1, n2, n3, n4, n5, true_and]
  refine r_iv4 dL_law_1269 M11_168 Y255 O255 (Nat.le_of_ble_eq_true rfl) (rcv_own hg1) (by omega) (by omega) ?_
  refine c_mono hC ?_
  rintro v2 hm2 hs2 ⟨rfl, ⟨x, rfl⟩, hI2⟩
  simp (disch := first | omega | (simp only [List.length_cons, List.length_nil]; omega)) only [r_ic_eqB (tgt := 1420) dL_law_1272 rfl, r_iconst dL_law_1275 ki0, r_zret0 dL_law_1276, r_zret1 dL_law_1276, r_zretc dL_law_1276, List.cons_append, List.nil_append, Nat.reduceAdd, Option.toList, z0, lg_self]
  refine ⟨fun _ => ?_, fun z => absurd (by trivial) z⟩
  try simp (disch := omega) only [E2, nI_1, nI_add, nI_leI, nI_ltI, nI_eq, nI_clamp]
  exact hN hm2 hs2 _ _ hI2 (by omega) (by omega)
theorem law_c37 (hI : INV B t m hm hs) (hK : KW X EV B) (hY : KY X EV B) (hX : XT X EV B) (hbB : b < B) (hXb : X b = some (ia L f)) (hk : 6 * k + 6 ≤ L) (hL : L ≤ 3072) (hcu : cu ≤ 5000) (hsu : su ≤ 500000)
    (hN : ∀ hm2 hs2 cu2 su2, INV B t m hm2 hs2 → cu2 ≤ cu + 1 → su2 ≤ su + 13 → E1 X EV (d + 19) 11 600000 7302250 (some .boolean) false cL_law Q 1420 [.ref b, .ref t, .ref m, .int (nI (6 * k))] [] cu2 su2 hm2 hs2) : E1 X EV (d + 19) 11 600000 7302250 (some .boolean) false cL_law Q 1277 [.ref b, .ref t, .ref m, .int (nI (6 * k))] [] cu su hm hs := by
  obtain ⟨hT, hlw⟩ := inv_lw hI
  obtain ⟨q1, q2, q3, q4, q5, w1, w2, w3, w4, w5, n1, n2, n3, n4, n5⟩ := six hk hL
  obtain ⟨fT, hT⟩ := hT
  have hrd : im_rd X hm b = some (ia L f) := by rw [rd_ext (hlw.1.1 b hbB)]; exact hXb
  simp (disch := first | omega | (simp only [List.length_cons, List.length_nil]; omega)) only [r_al1 dL_law_1277, r_al0 dL_law_1278, r_il3 dL_law_1279, r_iconst dL_law_1280 ki1, r_iadd dL_law_1281, r_iald dL_law_1282, r_al0 dL_law_1283, r_il3 dL_law_1284, r_iconst dL_law_1285 ki2, r_iadd dL_law_1286, r_iald dL_law_1287, r_al0 dL_law_1288, r_il3 dL_law_1289, r_iconst dL_law_1290 ki3, r_iadd dL_law_1291, r_iald dL_law_1292, r_al0 dL_law_1293, r_il3 dL_law_1294, r_iconst dL_law_1295 ki4, r_iadd dL_law_1296, r_iald dL_law_1297, r_al0 dL_law_1298, r_il3 dL_law_1299, r_iconst dL_law_1300 ki5, r_iadd dL_law_1301, r_iald dL_law_1302, List.cons_append, List.nil_append, Nat.reduceAdd, Option.toList, aI_ok, z0, hrd, q1, q2, q3, q4, q5, w1, w2, w3, w4, w5, n1, n2, n3, n4, n5, true_and]
  refine r_iv6 dL_law_1303 M11_169 Y147 O147 (Nat.le_of_ble_eq_true rfl) (rcv_own hT) (by omega) (by omega) ?_
  refine c_mono (pr_low (d := d) (st_paste hI) hlw) ?_
  rintro v1 hm1 hs1 ⟨hl1, a, rfl, hC⟩
  have hrd1 : im_rd X hm1 b = some (ia L f) := by rw [rd_ext (hl1.1.1 b hbB)]; exact hXb
  obtain ⟨f1, hg1⟩ := hl1.2.2
  simp (disch := first | omega | (simp only [List.length_cons, List.length_nil]; omega)) only [r_al2 dL_law_1306, r_al0 dL_law_1307, r_il3 dL_law_1308, r_iconst dL_law_1309 ki1, r_iadd dL_law_1310, r_iald dL_law_1311, r_al0 dL_law_1312, r_il3 dL_law_1313, r_iconst dL_law_1314 ki2, r_iadd dL_law_1315, r_iald dL_law_1316, r_al0 dL_law_1317, r_il3 dL_law_1318, r_iconst dL_law_1319 ki3, r_iadd dL_law_1320, r_iald dL_law_1321, r_al0 dL_law_1322, r_il3 dL_law_1323, r_iconst dL_law_1324 ki4, r_iadd dL_law_1325, r_iald dL_law_1326, r_al0 dL_law_1327, r_il3 dL_law_1328, r_iconst dL_law_1329 ki5, r_iadd dL_law_1330, r_iald dL_law_1331, List.cons_append, List.nil_append, Nat.reduceAdd, Option.toList, aI_ok, z0, hrd1, q1, q2, q3, q4, q5, w1, w2, w3, w4, w5, n1, n2, n3, n4, n5, true_and]
  refine r_iv6 dL_law_1332 M11_172 Y256 O256 (Nat.le_of_ble_eq_true rfl) (rcv_own hg1) (by omega) (by omega) ?_
  refine c_mono hC ?_
  rintro v2 hm2 hs2 ⟨rfl, ⟨x, rfl⟩, hI2⟩
  simp (disch := first | omega | (simp only [List.length_cons, List.length_nil]; omega)) only [r_ic_eqB (tgt := 1420) dL_law_1335 rfl, r_iconst dL_law_1338 ki0, r_zret0 dL_law_1339, r_zret1 dL_law_1339, r_zretc dL_law_1339, List.cons_append, List.nil_append, Nat.reduceAdd, Option.toList, z0, lg_self]
  refine ⟨fun _ => ?_, fun z => absurd (by trivial) z⟩
  try simp (disch := omega) only [E2, nI_1, nI_add, nI_leI, nI_ltI, nI_eq, nI_clamp]
  exact hN hm2 hs2 _ _ hI2 (by omega) (by omega)
theorem law_c38 (hI : INV B t m hm hs) (hK : KW X EV B) (hY : KY X EV B) (hX : XT X EV B) (hbB : b < B) (hXb : X b = some (ia L f)) (hk : 6 * k + 6 ≤ L) (hL : L ≤ 3072) (hcu : cu ≤ 5000) (hsu : su ≤ 500000)
    (hN : ∀ hm2 hs2 cu2 su2, INV B t m hm2 hs2 → cu2 ≤ cu + 1 → su2 ≤ su + 13 → E1 X EV (d + 19) 11 600000 7302250 (some .boolean) false cL_law Q 1420 [.ref b, .ref t, .ref m, .int (nI (6 * k))] [] cu2 su2 hm2 hs2) : E1 X EV (d + 19) 11 600000 7302250 (some .boolean) false cL_law Q 1340 [.ref b, .ref t, .ref m, .int (nI (6 * k))] [] cu su hm hs := by
  obtain ⟨hT, hlw⟩ := inv_lw hI
  obtain ⟨q1, q2, q3, q4, q5, w1, w2, w3, w4, w5, n1, n2, n3, n4, n5⟩ := six hk hL
  obtain ⟨fT, hT⟩ := hT
  have hrd : im_rd X hm b = some (ia L f) := by rw [rd_ext (hlw.1.1 b hbB)]; exact hXb
  simp (disch := first | omega | (simp only [List.length_cons, List.length_nil]; omega)) only [r_al1 dL_law_1340, r_al0 dL_law_1341, r_il3 dL_law_1342, r_iconst dL_law_1343 ki1, r_iadd dL_law_1344, r_iald dL_law_1345, r_al0 dL_law_1346, r_il3 dL_law_1347, r_iconst dL_law_1348 ki2, r_iadd dL_law_1349, r_iald dL_law_1350, List.cons_append, List.nil_append, Nat.reduceAdd, Option.toList, aI_ok, z0, hrd, q1, q2, q3, q4, q5, w1, w2, w3, w4, w5, n1, n2, n3, n4, n5, true_and]
  refine r_iv3 dL_law_1351 M11_173 Y148 O148 (Nat.le_of_ble_eq_true rfl) (rcv_own hT) (by omega) (by omega) ?_
  refine c_mono (pr_low (d := d) (st_mending hI) hlw) ?_
  rintro v1 hm1 hs1 ⟨hl1, a, rfl, hC⟩
  have hrd1 : im_rd X hm1 b = some (ia L f) := by rw [rd_ext (hl1.1.1 b hbB)]; exact hXb
  obtain ⟨f1, hg1⟩ := hl1.2.2
  simp (disch := first | omega | (simp only [List.length_cons, List.length_nil]; omega)) only [r_al2 dL_law_1354, r_al0 dL_law_1355, r_il3 dL_law_1356, r_iconst dL_law_1357 ki1, r_iadd dL_law_1358, r_iald dL_law_1359, r_al0 dL_law_1360, r_il3 dL_law_1361, r_iconst dL_law_1362 ki2, r_iadd dL_law_1363, r_iald dL_law_1364, List.cons_append, List.nil_append, Nat.reduceAdd, Option.toList, aI_ok, z0, hrd1, q1, q2, q3, q4, q5, w1, w2, w3, w4, w5, n1, n2, n3, n4, n5, true_and]
  refine r_iv3 dL_law_1365 M11_176 Y258 O258 (Nat.le_of_ble_eq_true rfl) (rcv_own hg1) (by omega) (by omega) ?_
  refine c_mono hC ?_
  rintro v2 hm2 hs2 ⟨rfl, ⟨x, rfl⟩, hI2⟩
  simp (disch := first | omega | (simp only [List.length_cons, List.length_nil]; omega)) only [r_lcmp dL_law_1368, r_if_eqB (tgt := 1420) dL_law_1369 rfl, r_iconst dL_law_1372 ki0, r_zret0 dL_law_1373, r_zret1 dL_law_1373, r_zretc dL_law_1373, List.cons_append, List.nil_append, Nat.reduceAdd, Option.toList, z0, lg_self]
  refine ⟨fun _ => ?_, fun z => absurd (by trivial) z⟩
  try simp (disch := omega) only [E2, nI_1, nI_add, nI_leI, nI_ltI, nI_eq, nI_clamp]
  exact hN hm2 hs2 _ _ hI2 (by omega) (by omega)
theorem law_c39 (hI : INV B t m hm hs) (hK : KW X EV B) (hY : KY X EV B) (hX : XT X EV B) (hbB : b < B) (hXb : X b = some (ia L f)) (hk : 6 * k + 6 ≤ L) (hL : L ≤ 3072) (hcu : cu ≤ 5000) (hsu : su ≤ 500000)
    (hN : ∀ hm2 hs2 cu2 su2, INV B t m hm2 hs2 → cu2 ≤ cu + 1 → su2 ≤ su + 13 → E1 X EV (d + 19) 11 600000 7302250 (some .boolean) false cL_law Q 1420 [.ref b, .ref t, .ref m, .int (nI (6 * k))] [] cu2 su2 hm2 hs2) : E1 X EV (d + 19) 11 600000 7302250 (some .boolean) false cL_law Q 1374 [.ref b, .ref t, .ref m, .int (nI (6 * k))] [] cu su hm hs := by
  obtain ⟨hT, hlw⟩ := inv_lw hI
  obtain ⟨q1, q2, q3, q4, q5, w1, w2, w3, w4, w5, n1, n2, n3, n4, n5⟩ := six hk hL
  obtain ⟨fT, hT⟩ := hT
  have hrd : im_rd X hm b = some (ia L f) := by rw [rd_ext (hlw.1.1 b hbB)]; exact hXb
  simp (disch := first | omega | (simp only [List.length_cons, List.length_nil]; omega)) only [r_al1 dL_law_1374, r_al0 dL_law_1375, r_il3 dL_law_1376, r_iconst dL_law_1377 ki1, r_iadd dL_law_1378, r_iald dL_law_1379, List.cons_append, List.nil_append, Nat.reduceAdd, Option.toList, aI_ok, z0, hrd, q1, q2, q3, q4, q5, w1, w2, w3, w4, w5, n1, n2, n3, n4, n5, true_and]
  refine r_iv2 dL_law_1380 M11_177 Y150 O150 (Nat.le_of_ble_eq_true rfl) (rcv_own hT) (by omega) (by omega) ?_
  refine c_mono (pr_low (d := d) (st_judge hI) hlw) ?_
  rintro v1 hm1 hs1 ⟨hl1, a, rfl, hC⟩
  have hrd1 : im_rd X hm1 b = some (ia L f) := by rw [rd_ext (hl1.1.1 b hbB)]; exact hXb
  obtain ⟨f1, hg1⟩ := hl1.2.2
  simp (disch := first | omega | (simp only [List.length_cons, List.length_nil]; omega)) only [r_al2 dL_law_1383, r_al0 dL_law_1384, r_il3 dL_law_1385, r_iconst dL_law_1386 ki1, r_iadd dL_law_1387, r_iald dL_law_1388, List.cons_append, List.nil_append, Nat.reduceAdd, Option.toList, aI_ok, z0, hrd1, q1, q2, q3, q4, q5, w1, w2, w3, w4, w5, n1, n2, n3, n4, n5, true_and]
  refine r_iv2 dL_law_1389 M11_180 Y257 O257 (Nat.le_of_ble_eq_true rfl) (rcv_own hg1) (by omega) (by omega) ?_
  refine c_mono hC ?_
  rintro v2 hm2 hs2 ⟨rfl, ⟨x, rfl⟩, hI2⟩
  simp (disch := first | omega | (simp only [List.length_cons, List.length_nil]; omega)) only [r_ic_eqB (tgt := 1420) dL_law_1392 rfl, r_iconst dL_law_1395 ki0, r_zret0 dL_law_1396, r_zret1 dL_law_1396, r_zretc dL_law_1396, List.cons_append, List.nil_append, Nat.reduceAdd, Option.toList, z0, lg_self]
  refine ⟨fun _ => ?_, fun z => absurd (by trivial) z⟩
  try simp (disch := omega) only [E2, nI_1, nI_add, nI_leI, nI_ltI, nI_eq, nI_clamp]
  exact hN hm2 hs2 _ _ hI2 (by omega) (by omega)
theorem law_c40 (hI : INV B t m hm hs) (hK : KW X EV B) (hY : KY X EV B) (hX : XT X EV B) (hbB : b < B) (hXb : X b = some (ia L f)) (hk : 6 * k + 6 ≤ L) (hL : L ≤ 3072) (hcu : cu ≤ 5000) (hsu : su ≤ 500000)
    (hN : ∀ hm2 hs2 cu2 su2, INV B t m hm2 hs2 → cu2 ≤ cu + 1 → su2 ≤ su + 13 → E1 X EV (d + 19) 11 600000 7302250 (some .boolean) false cL_law Q 1420 [.ref b, .ref t, .ref m, .int (nI (6 * k))] [] cu2 su2 hm2 hs2) : E1 X EV (d + 19) 11 600000 7302250 (some .boolean) false cL_law Q 1397 [.ref b, .ref t, .ref m, .int (nI (6 * k))] [] cu su hm hs := by
  obtain ⟨hT, hlw⟩ := inv_lw hI
  obtain ⟨q1, q2, q3, q4, q5, w1, w2, w3, w4, w5, n1, n2, n3, n4, n5⟩ := six hk hL
  obtain ⟨fT, hT⟩ := hT
  have hrd : im_rd X hm b = some (ia L f) := by rw [rd_ext (hlw.1.1 b hbB)]; exact hXb
  simp (disch := first | omega | (simp only [List.length_cons, List.length_nil]; omega)) only [r_al1 dL_law_1397, r_al0 dL_law_1398, r_il3 dL_law_1399, r_iconst dL_law_1400 ki1, r_iadd dL_law_1401, r_iald dL_law_1402, List.cons_append, List.nil_append, Nat.reduceAdd, Option.toList, aI_ok, z0, hrd, q1, q2, q3, q4, q5, w1, w2, w3, w4, w5, n1, n2, n3, n4, n5, true_and]
  refine r_iv2 dL_law_1403 M11_181 Y151 O151 (Nat.le_of_ble_eq_true rfl) (rcv_own hT) (by omega) (by omega) ?_
  refine c_mono (pr_low (d := d) (st_count hI) hlw) ?_
  rintro v1 hm1 hs1 ⟨hl1, a, rfl, hC⟩
  have hrd1 : im_rd X hm1 b = some (ia L f) := by rw [rd_ext (hl1.1.1 b hbB)]; exact hXb
  obtain ⟨f1, hg1⟩ := hl1.2.2
  simp (disch := first | omega | (simp only [List.length_cons, List.length_nil]; omega)) only [r_al2 dL_law_1406, r_al0 dL_law_1407, r_il3 dL_law_1408, r_iconst dL_law_1409 ki1, r_iadd dL_law_1410, r_iald dL_law_1411, List.cons_append, List.nil_append, Nat.reduceAdd, Option.toList, aI_ok, z0, hrd1, q1, q2, q3, q4, q5, w1, w2, w3, w4, w5, n1, n2, n3, n4, n5, true_and]
  refine r_iv2 dL_law_1412 M11_184 Y260 O260 (Nat.le_of_ble_eq_true rfl) (rcv_own hg1) (by omega) (by omega) ?_
  refine c_mono hC ?_
  rintro v2 hm2 hs2 ⟨rfl, ⟨x, rfl⟩, hI2⟩
  simp (disch := first | omega | (simp only [List.length_cons, List.length_nil]; omega)) only [r_ic_eqB (tgt := 1420) dL_law_1415 rfl, r_iconst dL_law_1418 ki0, r_zret0 dL_law_1419, r_zret1 dL_law_1419, r_zretc dL_law_1419, List.cons_append, List.nil_append, Nat.reduceAdd, Option.toList, z0, lg_self]
  refine ⟨fun _ => ?_, fun z => absurd (by trivial) z⟩
  try simp (disch := omega) only [E2, nI_1, nI_add, nI_leI, nI_ltI, nI_eq, nI_clamp]
  exact hN hm2 hs2 _ _ hI2 (by omega) (by omega)
end LV3
