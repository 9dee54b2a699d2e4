section LV0
variable {X : HM} {EV : Nat → Value} {d : Nat} {B t m b L k cu su : Nat} {f : Nat → Int32} {Q : QT} {hm : HM} {hs : Nat}
theorem law_c0 (hI : INV B t m hm hs) (hK : KW X EV B) (hY : KY X EV B) (hX : XT X EV B) (hbB : b < B) (hXb : X b = some (ia L f)) (hk : 6 * k + 6 ≤ L) (hL : L ≤ 3072) (hcu : cu ≤ 5000) (hsu : su ≤ 500000)
    (hN : ∀ hm2 hs2 cu2 su2, INV B t m hm2 hs2 → cu2 ≤ cu + 1 → su2 ≤ su + 13 → E1 X EV (d + 19) 11 600000 7302250 (some .boolean) false cL_law Q 1420 [.ref b, .ref t, .ref m, .int (nI (6 * k))] [] cu2 su2 hm2 hs2) : E1 X EV (d + 19) 11 600000 7302250 (some .boolean) false cL_law Q 212 [.ref b, .ref t, .ref m, .int (nI (6 * k))] [] cu su hm hs := by
  obtain ⟨hT, hlw⟩ := inv_lw hI
  obtain ⟨q1, q2, q3, q4, q5, w1, w2, w3, w4, w5, n1, n2, n3, n4, n5⟩ := six hk hL
  obtain ⟨fT, hT⟩ := hT
  have hrd : im_rd X hm b = some (ia L f) := by rw [rd_ext (hlw.1.1 b hbB)]; exact hXb
  simp (disch := first | omega | (simp only [List.length_cons, List.length_nil]; omega)) only [r_al1 dL_law_212, r_al0 dL_law_213, r_il3 dL_law_214, r_iconst dL_law_215 ki1, r_iadd dL_law_216, r_iald dL_law_217, r_al0 dL_law_218, r_il3 dL_law_219, r_iconst dL_law_220 ki2, r_iadd dL_law_221, r_iald dL_law_222, r_al0 dL_law_223, r_il3 dL_law_224, r_iconst dL_law_225 ki3, r_iadd dL_law_226, r_iald dL_law_227, r_al0 dL_law_228, r_il3 dL_law_229, r_iconst dL_law_230 ki4, r_iadd dL_law_231, r_iald dL_law_232, r_al0 dL_law_233, r_il3 dL_law_234, r_iconst dL_law_235 ki5, r_iadd dL_law_236, r_iald dL_law_237, List.cons_append, List.nil_append, Nat.reduceAdd, Option.toList, aI_ok, z0, hrd, q1, q2, q3, q4, q5, w1, w2, w3, w4, w5, n1, n2, n3, n4, n5, true_and]
  refine r_iv6 dL_law_238 M11_13 Y100 O100 (Nat.le_of_ble_eq_true rfl) (rcv_own hT) (by omega) (by omega) ?_
  refine c_mono (pr_low (d := d) (st_feed hI) hlw) ?_
  rintro v1 hm1 hs1 ⟨hl1, a, rfl, hC⟩
  have hrd1 : im_rd X hm1 b = some (ia L f) := by rw [rd_ext (hl1.1.1 b hbB)]; exact hXb
  obtain ⟨f1, hg1⟩ := hl1.2.2
  simp (disch := first | omega | (simp only [List.length_cons, List.length_nil]; omega)) only [r_al2 dL_law_241, r_al0 dL_law_242, r_il3 dL_law_243, r_iconst dL_law_244 ki1, r_iadd dL_law_245, r_iald dL_law_246, r_al0 dL_law_247, r_il3 dL_law_248, r_iconst dL_law_249 ki2, r_iadd dL_law_250, r_iald dL_law_251, r_al0 dL_law_252, r_il3 dL_law_253, r_iconst dL_law_254 ki3, r_iadd dL_law_255, r_iald dL_law_256, r_al0 dL_law_257, r_il3 dL_law_258, r_iconst dL_law_259 ki4, r_iadd dL_law_260, r_iald dL_law_261, r_al0 dL_law_262, r_il3 dL_law_263, r_iconst dL_law_264 ki5, r_iadd dL_law_265, r_iald dL_law_266, List.cons_append, List.nil_append, Nat.reduceAdd, Option.toList, aI_ok, z0, hrd1, q1, q2, q3, q4, q5, w1, w2, w3, w4, w5, n1, n2, n3, n4, n5, true_and]
  refine r_iv6 dL_law_267 M11_17 Y159 O159 (Nat.le_of_ble_eq_true rfl) (rcv_own hg1) (by omega) (by omega) ?_
  refine c_mono hC ?_
  rintro v2 hm2 hs2 ⟨rfl, ⟨x, rfl⟩, hI2⟩
  simp (disch := first | omega | (simp only [List.length_cons, List.length_nil]; omega)) only [r_ic_eqB (tgt := 1420) dL_law_270 rfl, r_iconst dL_law_273 ki0, r_zret0 dL_law_274, r_zret1 dL_law_274, r_zretc dL_law_274, List.cons_append, List.nil_append, Nat.reduceAdd, Option.toList, z0, lg_self]
  refine ⟨fun _ => ?_, fun z => absurd (by trivial) z⟩
  try simp (disch := omega) only [E2, nI_1, nI_add, nI_leI, nI_ltI, nI_eq, nI_clamp]
  exact hN hm2 hs2 _ _ hI2 (by omega) (by omega)
theorem law_c1 (hI : INV B t m hm hs) (hK : KW X EV B) (hY : KY X EV B) (hX : XT X EV B) (hbB : b < B) (hXb : X b = some (ia L f)) (hk : 6 * k + 6 ≤ L) (hL : L ≤ 3072) (hcu : cu ≤ 5000) (hsu : su ≤ 500000)
    (hN : ∀ hm2 hs2 cu2 su2, INV B t m hm2 hs2 → cu2 ≤ cu + 1 → su2 ≤ su + 13 → E1 X EV (d + 19) 11 600000 7302250 (some .boolean) false cL_law Q 1420 [.ref b, .ref t, .ref m, .int (nI (6 * k))] [] cu2 su2 hm2 hs2) : E1 X EV (d + 19) 11 600000 7302250 (some .boolean) false cL_law Q 275 [.ref b, .ref t, .ref m, .int (nI (6 * k))] [] cu su hm hs := by
  obtain ⟨hT, hlw⟩ := inv_lw hI
  obtain ⟨q1, q2, q3, q4, q5, w1, w2, w3, w4, w5, n1, n2, n3, n4, n5⟩ := six hk hL
  obtain ⟨fT, hT⟩ := hT
  have hrd : im_rd X hm b = some (ia L f) := by rw [rd_ext (hlw.1.1 b hbB)]; exact hXb
  simp (disch := first | omega | (simp only [List.length_cons, List.length_nil]; omega)) only [r_al1 dL_law_275, r_al0 dL_law_276, r_il3 dL_law_277, r_iconst dL_law_278 ki1, r_iadd dL_law_279, r_iald dL_law_280, List.cons_append, List.nil_append, Nat.reduceAdd, Option.toList, aI_ok, z0, hrd, q1, q2, q3, q4, q5, w1, w2, w3, w4, w5, n1, n2, n3, n4, n5, true_and]
  refine r_iv2 dL_law_281 M11_18 Y101 O101 (Nat.le_of_ble_eq_true rfl) (rcv_own hT) (by omega) (by omega) ?_
  refine c_mono (pr_low (d := d) (st_tell hI hK hY hX) hlw) ?_
  rintro v1 hm1 hs1 ⟨hl1, a, rfl, hC⟩
  have hrd1 : im_rd X hm1 b = some (ia L f) := by rw [rd_ext (hl1.1.1 b hbB)]; exact hXb
  obtain ⟨f1, hg1⟩ := hl1.2.2
  simp (disch := first | omega | (simp only [List.length_cons, List.length_nil]; omega)) only [r_al2 dL_law_284, r_al0 dL_law_285, r_il3 dL_law_286, r_iconst dL_law_287 ki1, r_iadd dL_law_288, r_iald dL_law_289, List.cons_append, List.nil_append, Nat.reduceAdd, Option.toList, aI_ok, z0, hrd1, q1, q2, q3, q4, q5, w1, w2, w3, w4, w5, n1, n2, n3, n4, n5, true_and]
  refine r_iv2 dL_law_290 M11_22 Y180 O180 (Nat.le_of_ble_eq_true rfl) (rcv_own hg1) (by omega) (by omega) ?_
  refine c_mono hC ?_
  rintro v2 hm2 hs2 ⟨rfl, ⟨x, rfl⟩, hI2⟩
  simp (disch := first | omega | (simp only [List.length_cons, List.length_nil]; omega)) only [r_ic_eqB (tgt := 1420) dL_law_293 rfl, r_iconst dL_law_296 ki0, r_zret0 dL_law_297, r_zret1 dL_law_297, r_zretc dL_law_297, List.cons_append, List.nil_append, Nat.reduceAdd, Option.toList, z0, lg_self]
  refine ⟨fun _ => ?_, fun z => absurd (by trivial) z⟩
  try simp (disch := omega) only [E2, nI_1, nI_add, nI_leI, nI_ltI, nI_eq, nI_clamp]
  exact hN hm2 hs2 _ _ hI2 (by omega) (by omega)
theorem law_c2 (hI : INV B t m hm hs) (hK : KW X EV B) (hY : KY X EV B) (hX : XT X EV B) (hbB : b < B) (hXb : X b = some (ia L f)) (hk : 6 * k + 6 ≤ L) (hL : L ≤ 3072) (hcu : cu ≤ 5000) (hsu : su ≤ 500000)
    (hN : ∀ hm2 hs2 cu2 su2, INV B t m hm2 hs2 → cu2 ≤ cu + 1 → su2 ≤ su + 13 → E1 X EV (d + 19) 11 600000 7302250 (some .boolean) false cL_law Q 1420 [.ref b, .ref t, .ref m, .int (nI (6 * k))] [] cu2 su2 hm2 hs2) : E1 X EV (d + 19) 11 600000 7302250 (some .boolean) false cL_law Q 298 [.ref b, .ref t, .ref m, .int (nI (6 * k))] [] cu su hm hs := by
  obtain ⟨hT, hlw⟩ := inv_lw hI
  obtain ⟨q1, q2, q3, q4, q5, w1, w2, w3, w4, w5, n1, n2, n3, n4, n5⟩ := six hk hL
  obtain ⟨fT, hT⟩ := hT
  have hrd : im_rd X hm b = some (ia L f) := by rw [rd_ext (hlw.1.1 b hbB)]; exact hXb
  simp (disch := first | omega | (simp only [List.length_cons, List.length_nil]; omega)) only [r_al1 dL_law_298, r_al0 dL_law_299, r_il3 dL_law_300, r_iconst dL_law_301 ki1, r_iadd dL_law_302, r_iald dL_law_303, List.cons_append, List.nil_append, Nat.reduceAdd, Option.toList, aI_ok, z0, hrd, q1, q2, q3, q4, q5, w1, w2, w3, w4, w5, n1, n2, n3, n4, n5, true_and]
  refine r_iv2 dL_law_304 M11_23 Y103 O103 (Nat.le_of_ble_eq_true rfl) (rcv_own hT) (by omega) (by omega) ?_
  refine c_mono (pr_low (d := d) (st_fault hI) hlw) ?_
  rintro v1 hm1 hs1 ⟨hl1, a, rfl, hC⟩
  have hrd1 : im_rd X hm1 b = some (ia L f) := by rw [rd_ext (hl1.1.1 b hbB)]; exact hXb
  obtain ⟨f1, hg1⟩ := hl1.2.2
  simp (disch := first | omega | (simp only [List.length_cons, List.length_nil]; omega)) only [r_al2 dL_law_307, r_al0 dL_law_308, r_il3 dL_law_309, r_iconst dL_law_310 ki1, r_iadd dL_law_311, r_iald dL_law_312, List.cons_append, List.nil_append, Nat.reduceAdd, Option.toList, aI_ok, z0, hrd1, q1, q2, q3, q4, q5, w1, w2, w3, w4, w5, n1, n2, n3, n4, n5, true_and]
  refine r_iv2 dL_law_313 M11_26 Y181 O181 (Nat.le_of_ble_eq_true rfl) (rcv_own hg1) (by omega) (by omega) ?_
  refine c_mono hC ?_
  rintro v2 hm2 hs2 ⟨rfl, ⟨x, rfl⟩, hI2⟩
  simp (disch := first | omega | (simp only [List.length_cons, List.length_nil]; omega)) only [r_ic_eqB (tgt := 1420) dL_law_316 rfl, r_iconst dL_law_319 ki0, r_zret0 dL_law_320, r_zret1 dL_law_320, r_zretc dL_law_320, List.cons_append, List.nil_append, Nat.reduceAdd, Option.toList, z0, lg_self]
  refine ⟨fun _ => ?_, fun z => absurd (by trivial) z⟩
  try simp (disch := omega) only [E2, nI_1, nI_add, nI_leI, nI_ltI, nI_eq, nI_clamp]
  exact hN hm2 hs2 _ _ hI2 (by omega) (by omega)
theorem law_c3 (hI : INV B t m hm hs) (hK : KW X EV B) (hY : KY X EV B) (hX : XT X EV B) (hbB : b < B) (hXb : X b = some (ia L f)) (hk : 6 * k + 6 ≤ L) (hL : L ≤ 3072) (hcu : cu ≤ 5000) (hsu : su ≤ 500000)
    (hN : ∀ hm2 hs2 cu2 su2, INV B t m hm2 hs2 → cu2 ≤ cu + 1 → su2 ≤ su + 13 → E1 X EV (d + 19) 11 600000 7302250 (some .boolean) false cL_law Q 1420 [.ref b, .ref t, .ref m, .int (nI (6 * k))] [] cu2 su2 hm2 hs2) : E1 X EV (d + 19) 11 600000 7302250 (some .boolean) false cL_law Q 321 [.ref b, .ref t, .ref m, .int (nI (6 * k))] [] cu su hm hs := by
  obtain ⟨hT, hlw⟩ := inv_lw hI
  obtain ⟨q1, q2, q3, q4, q5, w1, w2, w3, w4, w5, n1, n2, n3, n4, n5⟩ := six hk hL
  obtain ⟨fT, hT⟩ := hT
  have hrd : im_rd X hm b = some (ia L f) := by rw [rd_ext (hlw.1.1 b hbB)]; exact hXb
  simp (disch := first | omega | (simp only [List.length_cons, List.length_nil]; omega)) only [r_al1 dL_law_321, r_al0 dL_law_322, r_il3 dL_law_323, r_iconst dL_law_324 ki1, r_iadd dL_law_325, r_iald dL_law_326, r_al0 dL_law_327, r_il3 dL_law_328, r_iconst dL_law_329 ki2, r_iadd dL_law_330, r_iald dL_law_331, List.cons_append, List.nil_append, Nat.reduceAdd, Option.toList, aI_ok, z0, hrd, q1, q2, q3, q4, q5, w1, w2, w3, w4, w5, n1, n2, n3, n4, n5, true_and]
  refine r_iv3 dL_law_332 M11_27 Y104 O104 (Nat.le_of_ble_eq_true rfl) (rcv_own hT) (by omega) (by omega) ?_
  refine c_mono (pr_low (d := d) (st_over hI) hlw) ?_
  rintro v1 hm1 hs1 ⟨hl1, a, rfl, hC⟩
  have hrd1 : im_rd X hm1 b = some (ia L f) := by rw [rd_ext (hl1.1.1 b hbB)]; exact hXb
  obtain ⟨f1, hg1⟩ := hl1.2.2
  simp (disch := first | omega | (simp only [List.length_cons, List.length_nil]; omega)) only [r_al2 dL_law_335, r_al0 dL_law_336, r_il3 dL_law_337, r_iconst dL_law_338 ki1, r_iadd dL_law_339, r_iald dL_law_340, r_al0 dL_law_341, r_il3 dL_law_342, r_iconst dL_law_343 ki2, r_iadd dL_law_344, r_iald dL_law_345, List.cons_append, List.nil_append, Nat.reduceAdd, Option.toList, aI_ok, z0, hrd1, q1, q2, q3, q4, q5, w1, w2, w3, w4, w5, n1, n2, n3, n4, n5, true_and]
  refine r_iv3 dL_law_346 M11_31 Y197 O197 (Nat.le_of_ble_eq_true rfl) (rcv_own hg1) (by omega) (by omega) ?_
  refine c_mono hC ?_
  rintro v2 hm2 hs2 ⟨rfl, ⟨x, rfl⟩, hI2⟩
  simp (disch := first | omega | (simp only [List.length_cons, List.length_nil]; omega)) only [r_ic_eqB (tgt := 1420) dL_law_349 rfl, r_iconst dL_law_352 ki0, r_zret0 dL_law_353, r_zret1 dL_law_353, r_zretc dL_law_353, List.cons_append, List.nil_append, Nat.reduceAdd, Option.toList, z0, lg_self]
  refine ⟨fun _ => ?_, fun z => absurd (by trivial) z⟩
  try simp (disch := omega) only [E2, nI_1, nI_add, nI_leI, nI_ltI, nI_eq, nI_clamp]
  exact hN hm2 hs2 _ _ hI2 (by omega) (by omega)
theorem law_c4 (hI : INV B t m hm hs) (hK : KW X EV B) (hY : KY X EV B) (hX : XT X EV B) (hbB : b < B) (hXb : X b = some (ia L f)) (hk : 6 * k + 6 ≤ L) (hL : L ≤ 3072) (hcu : cu ≤ 5000) (hsu : su ≤ 500000)
    (hN : ∀ hm2 hs2 cu2 su2, INV B t m hm2 hs2 → cu2 ≤ cu + 1 → su2 ≤ su + 13 → E1 X EV (d + 19) 11 600000 7302250 (some .boolean) false cL_law Q 1420 [.ref b, .ref t, .ref m, .int (nI (6 * k))] [] cu2 su2 hm2 hs2) : E1 X EV (d + 19) 11 600000 7302250 (some .boolean) false cL_law Q 354 [.ref b, .ref t, .ref m, .int (nI (6 * k))] [] cu su hm hs := by
  obtain ⟨hT, hlw⟩ := inv_lw hI
  obtain ⟨q1, q2, q3, q4, q5, w1, w2, w3, w4, w5, n1, n2, n3, n4, n5⟩ := six hk hL
  obtain ⟨fT, hT⟩ := hT
  have hrd : im_rd X hm b = some (ia L f) := by rw [rd_ext (hlw.1.1 b hbB)]; exact hXb
  simp (disch := first | omega | (simp only [List.length_cons, List.length_nil]; omega)) only [r_al1 dL_law_354, r_al0 dL_law_355, r_il3 dL_law_356, r_iconst dL_law_357 ki1, r_iadd dL_law_358, r_iald dL_law_359, r_al0 dL_law_360, r_il3 dL_law_361, r_iconst dL_law_362 ki2, r_iadd dL_law_363, r_iald dL_law_364, List.cons_append, List.nil_append, Nat.reduceAdd, Option.toList, aI_ok, z0, hrd, q1, q2, q3, q4, q5, w1, w2, w3, w4, w5, n1, n2, n3, n4, n5, true_and]
  refine r_iv3 dL_law_365 M11_32 Y105 O105 (Nat.le_of_ble_eq_true rfl) (rcv_own hT) (by omega) (by omega) ?_
  refine c_mono (pr_low (d := d) (st_takes hI) hlw) ?_
  rintro v1 hm1 hs1 ⟨hl1, a, rfl, hC⟩
  have hrd1 : im_rd X hm1 b = some (ia L f) := by rw [rd_ext (hl1.1.1 b hbB)]; exact hXb
  obtain ⟨f1, hg1⟩ := hl1.2.2
  simp (disch := first | omega | (simp only [List.length_cons, List.length_nil]; omega)) only [r_al2 dL_law_368, r_al0 dL_law_369, r_il3 dL_law_370, r_iconst dL_law_371 ki1, r_iadd dL_law_372, r_iald dL_law_373, r_al0 dL_law_374, r_il3 dL_law_375, r_iconst dL_law_376 ki2, r_iadd dL_law_377, r_iald dL_law_378, List.cons_append, List.nil_append, Nat.reduceAdd, Option.toList, aI_ok, z0, hrd1, q1, q2, q3, q4, q5, w1, w2, w3, w4, w5, n1, n2, n3, n4, n5, true_and]
  refine r_iv3 dL_law_379 M11_35 Y198 O198 (Nat.le_of_ble_eq_true rfl) (rcv_own hg1) (by omega) (by omega) ?_
  refine c_mono hC ?_
  rintro v2 hm2 hs2 ⟨rfl, ⟨x, rfl⟩, hI2⟩
  simp (disch := first | omega | (simp only [List.length_cons, List.length_nil]; omega)) only [r_ic_eqB (tgt := 1420) dL_law_382 rfl, r_iconst dL_law_385 ki0, r_zret0 dL_law_386, r_zret1 dL_law_386, r_zretc dL_law_386, List.cons_append, List.nil_append, Nat.reduceAdd, Option.toList, z0, lg_self]
  refine ⟨fun _ => ?_, fun z => absurd (by trivial) z⟩
  try simp (disch := omega) only [E2, nI_1, nI_add, nI_leI, nI_ltI, nI_eq, nI_clamp]
  exact hN hm2 hs2 _ _ hI2 (by omega) (by omega)
theorem law_c5 (hI : INV B t m hm hs) (hK : KW X EV B) (hY : KY X EV B) (hX : XT X EV B) (hbB : b < B) (hXb : X b = some (ia L f)) (hk : 6 * k + 6 ≤ L) (hL : L ≤ 3072) (hcu : cu ≤ 5000) (hsu : su ≤ 500000)
    (hN : ∀ hm2 hs2 cu2 su2, INV B t m hm2 hs2 → cu2 ≤ cu + 1 → su2 ≤ su + 13 → E1 X EV (d + 19) 11 600000 7302250 (some .boolean) false cL_law Q 1420 [.ref b, .ref t, .ref m, .int (nI (6 * k))] [] cu2 su2 hm2 hs2) : E1 X EV (d + 19) 11 600000 7302250 (some .boolean) false cL_law Q 387 [.ref b, .ref t, .ref m, .int (nI (6 * k))] [] cu su hm hs := by
  obtain ⟨hT, hlw⟩ := inv_lw hI
  obtain ⟨q1, q2, q3, q4, q5, w1, w2, w3, w4, w5, n1, n2, n3, n4, n5⟩ := six hk hL
  obtain ⟨fT, hT⟩ := hT
  have hrd : im_rd X hm b = some (ia L f) := by rw [rd_ext (hlw.1.1 b hbB)]; exact hXb
  simp (disch := first | omega | (simp only [List.length_cons, List.length_nil]; omega)) only [r_al1 dL_law_387, r_al0 dL_law_388, r_il3 dL_law_389, r_iconst dL_law_390 ki1, r_iadd dL_law_391, r_iald dL_law_392, r_al0 dL_law_393, r_il3 dL_law_394, r_iconst dL_law_395 ki2, r_iadd dL_law_396, r_iald dL_law_397, List.cons_append, List.nil_append, Nat.reduceAdd, Option.toList, aI_ok, z0, hrd, q1, q2, q3, q4, q5, w1, w2, w3, w4, w5, n1, n2, n3, n4, n5, true_and]
  refine r_iv3 dL_law_398 M11_36 Y106 O106 (Nat.le_of_ble_eq_true rfl) (rcv_own hT) (by omega) (by omega) ?_
  refine c_mono (pr_low (d := d) (st_hand hI) hlw) ?_
  rintro v1 hm1 hs1 ⟨hl1, a, rfl, hC⟩
  have hrd1 : im_rd X hm1 b = some (ia L f) := by rw [rd_ext (hl1.1.1 b hbB)]; exact hXb
  obtain ⟨f1, hg1⟩ := hl1.2.2
  simp (disch := first | omega | (simp only [List.length_cons, List.length_nil]; omega)) only [r_al2 dL_law_401, r_al0 dL_law_402, r_il3 dL_law_403, r_iconst dL_law_404 ki1, r_iadd dL_law_405, r_iald dL_law_406, r_al0 dL_law_407, r_il3 dL_law_408, r_iconst dL_law_409 ki2, r_iadd dL_law_410, r_iald dL_law_411, List.cons_append, List.nil_append, Nat.reduceAdd, Option.toList, aI_ok, z0, hrd1, q1, q2, q3, q4, q5, w1, w2, w3, w4, w5, n1, n2, n3, n4, n5, true_and]
  refine r_iv3 dL_law_412 M11_39 Y199 O199 (Nat.le_of_ble_eq_true rfl) (rcv_own hg1) (by omega) (by omega) ?_
  refine c_mono hC ?_
  rintro v2 hm2 hs2 ⟨rfl, ⟨x, rfl⟩, hI2⟩
  simp (disch := first | omega | (simp only [List.length_cons, List.length_nil]; omega)) only [r_ic_eqB (tgt := 1420) dL_law_415 rfl, r_iconst dL_law_418 ki0, r_zret0 dL_law_419, r_zret1 dL_law_419, r_zretc dL_law_419, List.cons_append, List.nil_append, Nat.reduceAdd, Option.toList, z0, lg_self]
  refine ⟨fun _ => ?_, fun z => absurd (by trivial) z⟩
  try simp (disch := omega) only [E2, nI_1, nI_add, nI_leI, nI_ltI, nI_eq, nI_clamp]
  exact hN hm2 hs2 _ _ hI2 (by omega) (by omega)
theorem law_c6 (hI : INV B t m hm hs) (hK : KW X EV B) (hY : KY X EV B) (hX : XT X EV B) (hbB : b < B) (hXb : X b = some (ia L f)) (hk : 6 * k + 6 ≤ L) (hL : L ≤ 3072) (hcu : cu ≤ 5000) (hsu : su ≤ 500000)
    (hN : ∀ hm2 hs2 cu2 su2, INV B t m hm2 hs2 → cu2 ≤ cu + 1 → su2 ≤ su + 13 → E1 X EV (d + 19) 11 600000 7302250 (some .boolean) false cL_law Q 1420 [.ref b, .ref t, .ref m, .int (nI (6 * k))] [] cu2 su2 hm2 hs2) : E1 X EV (d + 19) 11 600000 7302250 (some .boolean) false cL_law Q 420 [.ref b, .ref t, .ref m, .int (nI (6 * k))] [] cu su hm hs := by
  obtain ⟨hT, hlw⟩ := inv_lw hI
  obtain ⟨q1, q2, q3, q4, q5, w1, w2, w3, w4, w5, n1, n2, n3, n4, n5⟩ := six hk hL
  obtain ⟨fT, hT⟩ := hT
  have hrd : im_rd X hm b = some (ia L f) := by rw [rd_ext (hlw.1.1 b hbB)]; exact hXb
  simp (disch := first | omega | (simp only [List.length_cons, List.length_nil]; omega)) only [r_al1 dL_law_420, r_al0 dL_law_421, r_il3 dL_law_422, r_iconst dL_law_423 ki1, r_iadd dL_law_424, r_iald dL_law_425, r_al0 dL_law_426, r_il3 dL_law_427, r_iconst dL_law_428 ki2, r_iadd dL_law_429, r_iald dL_law_430, List.cons_append, List.nil_append, Nat.reduceAdd, Option.toList, aI_ok, z0, hrd, q1, q2, q3, q4, q5, w1, w2, w3, w4, w5, n1, n2, n3, n4, n5, true_and]
  refine r_iv3 dL_law_431 M11_40 Y107 O107 (Nat.le_of_ble_eq_true rfl) (rcv_own hT) (by omega) (by omega) ?_
  refine c_mono (pr_low (d := d) (st_weigh hI) hlw) ?_
  rintro v1 hm1 hs1 ⟨hl1, a, rfl, hC⟩
  have hrd1 : im_rd X hm1 b = some (ia L f) := by rw [rd_ext (hl1.1.1 b hbB)]; exact hXb
  obtain ⟨f1, hg1⟩ := hl1.2.2
  simp (disch := first | omega | (simp only [List.length_cons, List.length_nil]; omega)) only [r_al2 dL_law_434, r_al0 dL_law_435, r_il3 dL_law_436, r_iconst dL_law_437 ki1, r_iadd dL_law_438, r_iald dL_law_439, r_al0 dL_law_440, r_il3 dL_law_441, r_iconst dL_law_442 ki2, r_iadd dL_law_443, r_iald dL_law_444, List.cons_append, List.nil_append, Nat.reduceAdd, Option.toList, aI_ok, z0, hrd1, q1, q2, q3, q4, q5, w1, w2, w3, w4, w5, n1, n2, n3, n4, n5, true_and]
  refine r_iv3 dL_law_445 M11_43 Y200 O200 (Nat.le_of_ble_eq_true rfl) (rcv_own hg1) (by omega) (by omega) ?_
  refine c_mono hC ?_
  rintro v2 hm2 hs2 ⟨rfl, ⟨x, rfl⟩, hI2⟩
  simp (disch := first | omega | (simp only [List.length_cons, List.length_nil]; omega)) only [r_ic_eqB (tgt := 1420) dL_law_448 rfl, r_iconst dL_law_451 ki0, r_zret0 dL_law_452, r_zret1 dL_law_452, r_zretc dL_law_452, List.cons_append, List.nil_append, Nat.reduceAdd, Option.toList, z0, lg_self]
  refine ⟨fun _ => ?_, fun z => absurd (by trivial) z⟩
  try simp (disch := omega) only [E2, nI_1, nI_add, nI_leI, nI_ltI, nI_eq, nI_clamp]
  exact hN hm2 hs2 _ _ hI2 (by omega) (by omega)
theorem law_c7 (hI : INV B t m hm hs) (hK : KW X EV B) (hY : KY X EV B) (hX : XT X EV B) (hbB : b < B) (hXb : X b = some (ia L f)) (hk : 6 * k + 6 ≤ L) (hL : L ≤ 3072) (hcu : cu ≤ 5000) (hsu : su ≤ 500000)
    (hN : ∀ hm2 hs2 cu2 su2, INV B t m hm2 hs2 → cu2 ≤ cu + 1 → su2 ≤ su + 13 → E1 X EV (d + 19) 11 600000 7302250 (some .boolean) false cL_law Q 1420 [.ref b, .ref t, .ref m, .int (nI (6 * k))] [] cu2 su2 hm2 hs2) : E1 X EV (d + 19) 11 600000 7302250 (some .boolean) false cL_law Q 453 [.ref b, .ref t, .ref m, .int (nI (6 * k))] [] cu su hm hs := by
  obtain ⟨hT, hlw⟩ := inv_lw hI
  obtain ⟨q1, q2, q3, q4, q5, w1, w2, w3, w4, w5, n1, n2, n3, n4, n5⟩ := six hk hL
  obtain ⟨fT, hT⟩ := hT
  have hrd : im_rd X hm b = some (ia L f) := by rw [rd_ext (hlw.1.1 b hbB)]; exact hXb
  simp (disch := first | omega | (simp only [List.length_cons, List.length_nil]; omega)) only [r_al1 dL_law_453, List.cons_append, List.nil_append, Nat.reduceAdd, Option.toList, z0, hrd, q1, q2, q3, q4, q5, w1, w2, w3, w4, w5, n1, n2, n3, n4, n5, true_and]
  refine r_iv1 dL_law_454 M11_44 Y108 O108 (Nat.le_of_ble_eq_true rfl) (rcv_own hT) (by omega) (by omega) ?_
  refine c_mono (pr_low (d := d) (st_undo hI) hlw) ?_
  rintro v1 hm1 hs1 ⟨hl1, a, rfl, hC⟩
  have hrd1 : im_rd X hm1 b = some (ia L f) := by rw [rd_ext (hl1.1.1 b hbB)]; exact hXb
  obtain ⟨f1, hg1⟩ := hl1.2.2
  simp (disch := first | omega | (simp only [List.length_cons, List.length_nil]; omega)) only [r_al2 dL_law_457, List.cons_append, List.nil_append, Nat.reduceAdd, Option.toList, z0, hrd1, q1, q2, q3, q4, q5, w1, w2, w3, w4, w5, n1, n2, n3, n4, n5, true_and]
  refine r_iv1 dL_law_458 M11_48 Y201 O201 (Nat.le_of_ble_eq_true rfl) (rcv_own hg1) (by omega) (by omega) ?_
  refine c_mono hC ?_
  rintro v2 hm2 hs2 ⟨rfl, ⟨x, rfl⟩, hI2⟩
  simp (disch := first | omega | (simp only [List.length_cons, List.length_nil]; omega)) only [r_ic_eqB (tgt := 1420) dL_law_461 rfl, r_iconst dL_law_464 ki0, r_zret0 dL_law_465, r_zret1 dL_law_465, r_zretc dL_law_465, List.cons_append, List.nil_append, Nat.reduceAdd, Option.toList, z0, lg_self]
  refine ⟨fun _ => ?_, fun z => absurd (by trivial) z⟩
  try simp (disch := omega) only [E2, nI_1, nI_add, nI_leI, nI_ltI, nI_eq, nI_clamp]
  exact hN hm2 hs2 _ _ hI2 (by omega) (by omega)
theorem law_c8 (hI : INV B t m hm hs) (hK : KW X EV B) (hY : KY X EV B) (hX : XT X EV B) (hbB : b < B) (hXb : X b = some (ia L f)) (hk : 6 * k + 6 ≤ L) (hL : L ≤ 3072) (hcu : cu ≤ 5000) (hsu : su ≤ 500000)
    (hN : ∀ hm2 hs2 cu2 su2, INV B t m hm2 hs2 → cu2 ≤ cu + 1 → su2 ≤ su + 13 → E1 X EV (d + 19) 11 600000 7302250 (some .boolean) false cL_law Q 1420 [.ref b, .ref t, .ref m, .int (nI (6 * k))] [] cu2 su2 hm2 hs2) : E1 X EV (d + 19) 11 600000 7302250 (some .boolean) false cL_law Q 466 [.ref b, .ref t, .ref m, .int (nI (6 * k))] [] cu su hm hs := by
  obtain ⟨hT, hlw⟩ := inv_lw hI
  obtain ⟨q1, q2, q3, q4, q5, w1, w2, w3, w4, w5, n1, n2, n3, n4, n5⟩ := six hk hL
  obtain ⟨fT, hT⟩ := hT
  have hrd : im_rd X hm b = some (ia L f) := by rw [rd_ext (hlw.1.1 b hbB)]; exact hXb
  simp (disch := first | omega | (simp only [List.length_cons, List.length_nil]; omega)) only [r_al1 dL_law_466, r_al0 dL_law_467, r_il3 dL_law_468, r_iconst dL_law_469 ki1, r_iadd dL_law_470, r_iald dL_law_471, r_al0 dL_law_472, r_il3 dL_law_473, r_iconst dL_law_474 ki2, r_iadd dL_law_475, r_iald dL_law_476, List.cons_append, List.nil_append, Nat.reduceAdd, Option.toList, aI_ok, z0, hrd, q1, q2, q3, q4, q5, w1, w2, w3, w4, w5, n1, n2, n3, n4, n5, true_and]
  refine r_iv3 dL_law_477 M11_49 Y112 O112 (Nat.le_of_ble_eq_true rfl) (rcv_own hT) (by omega) (by omega) ?_
  refine c_mono (pr_low (d := d) (st_stroke hI) hlw) ?_
  rintro v1 hm1 hs1 ⟨hl1, a, rfl, hC⟩
  have hrd1 : im_rd X hm1 b = some (ia L f) := by rw [rd_ext (hl1.1.1 b hbB)]; exact hXb
  obtain ⟨f1, hg1⟩ := hl1.2.2
  simp (disch := first | omega | (simp only [List.length_cons, List.length_nil]; omega)) only [r_al2 dL_law_480, r_al0 dL_law_481, r_il3 dL_law_482, r_iconst dL_law_483 ki1, r_iadd dL_law_484, r_iald dL_law_485, r_al0 dL_law_486, r_il3 dL_law_487, r_iconst dL_law_488 ki2, r_iadd dL_law_489, r_iald dL_law_490, List.cons_append, List.nil_append, Nat.reduceAdd, Option.toList, aI_ok, z0, hrd1, q1, q2, q3, q4, q5, w1, w2, w3, w4, w5, n1, n2, n3, n4, n5, true_and]
  refine r_iv3 dL_law_491 M11_52 Y205 O205 (Nat.le_of_ble_eq_true rfl) (rcv_own hg1) (by omega) (by omega) ?_
  refine c_mono hC ?_
  rintro v2 hm2 hs2 ⟨rfl, ⟨x, rfl⟩, hI2⟩
  simp (disch := first | omega | (simp only [List.length_cons, List.length_nil]; omega)) only [r_ic_eqB (tgt := 1420) dL_law_494 rfl, r_iconst dL_law_497 ki0, r_zret0 dL_law_498, r_zret1 dL_law_498, r_zretc dL_law_498, List.cons_append, List.nil_append, Nat.reduceAdd, Option.toList, z0, lg_self]
  refine ⟨fun _ => ?_, fun z => absurd (by trivial) z⟩
  try simp (disch := omega) only [E2, nI_1, nI_add, nI_leI, nI_ltI, nI_eq, nI_clamp]
  exact hN hm2 hs2 _ _ hI2 (by omega) (by omega)
theorem law_c9 (hI : INV B t m hm hs) (hK : KW X EV B) (hY : KY X EV B) (hX : XT X EV B) (hbB : b < B) (hXb : X b = some (ia L f)) (hk : 6 * k + 6 ≤ L) (hL : L ≤ 3072) (hcu : cu ≤ 5000) (hsu : su ≤ 500000)
    (hN : ∀ hm2 hs2 cu2 su2, INV B t m hm2 hs2 → cu2 ≤ cu + 1 → su2 ≤ su + 13 → E1 X EV (d + 19) 11 600000 7302250 (some .boolean) false cL_law Q 1420 [.ref b, .ref t, .ref m, .int (nI (6 * k))] [] cu2 su2 hm2 hs2) : E1 X EV (d + 19) 11 600000 7302250 (some .boolean) false cL_law Q 499 [.ref b, .ref t, .ref m, .int (nI (6 * k))] [] cu su hm hs := by
  obtain ⟨hT, hlw⟩ := inv_lw hI
  obtain ⟨q1, q2, q3, q4, q5, w1, w2, w3, w4, w5, n1, n2, n3, n4, n5⟩ := six hk hL
  obtain ⟨fT, hT⟩ := hT
  have hrd : im_rd X hm b = some (ia L f) := by rw [rd_ext (hlw.1.1 b hbB)]; exact hXb
  simp (disch := first | omega | (simp only [List.length_cons, List.length_nil]; omega)) only [r_al1 dL_law_499, r_al0 dL_law_500, r_il3 dL_law_501, r_iconst dL_law_502 ki1, r_iadd dL_law_503, r_iald dL_law_504, r_al0 dL_law_505, r_il3 dL_law_506, r_iconst dL_law_507 ki2, r_iadd dL_law_508, r_iald dL_law_509, List.cons_append, List.nil_append, Nat.reduceAdd, Option.toList, aI_ok, z0, hrd, q1, q2, q3, q4, q5, w1, w2, w3, w4, w5, n1, n2, n3, n4, n5, true_and]
  refine r_iv3 dL_law_510 M11_53 Y113 O113 (Nat.le_of_ble_eq_true rfl) (rcv_own hT) (by omega) (by omega) ?_
  refine c_mono (pr_low (d := d) (st_crossing hX hI) hlw) ?_
  rintro v1 hm1 hs1 ⟨hl1, a, rfl, hC⟩
  have hrd1 : im_rd X hm1 b = some (ia L f) := by rw [rd_ext (hl1.1.1 b hbB)]; exact hXb
  obtain ⟨f1, hg1⟩ := hl1.2.2
  simp (disch := first | omega | (simp only [List.length_cons, List.length_nil]; omega)) only [r_al2 dL_law_513, r_al0 dL_law_514, r_il3 dL_law_515, r_iconst dL_law_516 ki1, r_iadd dL_law_517, r_iald dL_law_518, r_al0 dL_law_519, r_il3 dL_law_520, r_iconst dL_law_521 ki2, r_iadd dL_law_522, r_iald dL_law_523, List.cons_append, List.nil_append, Nat.reduceAdd, Option.toList, aI_ok, z0, hrd1, q1, q2, q3, q4, q5, w1, w2, w3, w4, w5, n1, n2, n3, n4, n5, true_and]
  refine r_iv3 dL_law_524 M11_56 Y206 O206 (Nat.le_of_ble_eq_true rfl) (rcv_own hg1) (by omega) (by omega) ?_
  refine c_mono hC ?_
  rintro v2 hm2 hs2 ⟨rfl, ⟨x, rfl⟩, hI2⟩
  simp (disch := first | omega | (simp only [List.length_cons, List.length_nil]; omega)) only [r_ic_eqB (tgt := 1420) dL_law_527 rfl, r_iconst dL_law_530 ki0, r_zret0 dL_law_531, r_zret1 dL_law_531, r_zretc dL_law_531, List.cons_append, List.nil_append, Nat.reduceAdd, Option.toList, z0, lg_self]
  refine ⟨fun _ => ?_, fun z => absurd (by trivial) z⟩
  try simp (disch := omega) only [E2, nI_1, nI_add, nI_leI, nI_ltI, nI_eq, nI_clamp]
  exact hN hm2 hs2 _ _ hI2 (by omega) (by omega)
theorem law_c10 (hI : INV B t m hm hs) (hK : KW X EV B) (hY : KY X EV B) (hX : XT X EV B) (hbB : b < B) (hXb : X b = some (ia L f)) (hk : 6 * k + 6 ≤ L) (hL : L ≤ 3072) (hcu : cu ≤ 5000) (hsu : su ≤ 500000)
    (hN : ∀ hm2 hs2 cu2 su2, INV B t m hm2 hs2 → cu2 ≤ cu + 1 → su2 ≤ su + 13 → E1 X EV (d + 19) 11 600000 7302250 (some .boolean) false cL_law Q 1420 [.ref b, .ref t, .ref m, .int (nI (6 * k))] [] cu2 su2 hm2 hs2) : E1 X EV (d + 19) 11 600000 7302250 (some .boolean) false cL_law Q 532 [.ref b, .ref t, .ref m, .int (nI (6 * k))] [] cu su hm hs := by
  obtain ⟨hT, hlw⟩ := inv_lw hI
  obtain ⟨q1, q2, q3, q4, q5, w1, w2, w3, w4, w5, n1, n2, n3, n4, n5⟩ := six hk hL
  obtain ⟨fT, hT⟩ := hT
  have hrd : im_rd X hm b = some (ia L f) := by rw [rd_ext (hlw.1.1 b hbB)]; exact hXb
  simp (disch := first | omega | (simp only [List.length_cons, List.length_nil]; omega)) only [r_al1 dL_law_532, r_al0 dL_law_533, r_il3 dL_law_534, r_iconst dL_law_535 ki1, r_iadd dL_law_536, r_iald dL_law_537, List.cons_append, List.nil_append, Nat.reduceAdd, Option.toList, aI_ok, z0, hrd, q1, q2, q3, q4, q5, w1, w2, w3, w4, w5, n1, n2, n3, n4, n5, true_and]
  refine r_iv2 dL_law_538 M11_57 Y114 O114 (Nat.le_of_ble_eq_true rfl) (rcv_own hT) (by omega) (by omega) ?_
  refine c_mono (pr_low (d := d) (st_ring hI) hlw) ?_
  rintro v1 hm1 hs1 ⟨hl1, a, rfl, hC⟩
  have hrd1 : im_rd X hm1 b = some (ia L f) := by rw [rd_ext (hl1.1.1 b hbB)]; exact hXb
  obtain ⟨f1, hg1⟩ := hl1.2.2
  simp (disch := first | omega | (simp only [List.length_cons, List.length_nil]; omega)) only [r_al2 dL_law_541, r_al0 dL_law_542, r_il3 dL_law_543, r_iconst dL_law_544 ki1, r_iadd dL_law_545, r_iald dL_law_546, List.cons_append, List.nil_append, Nat.reduceAdd, Option.toList, aI_ok, z0, hrd1, q1, q2, q3, q4, q5, w1, w2, w3, w4, w5, n1, n2, n3, n4, n5, true_and]
  refine r_iv2 dL_law_547 M11_60 Y207 O207 (Nat.le_of_ble_eq_true rfl) (rcv_own hg1) (by omega) (by omega) ?_
  refine c_mono hC ?_
  rintro v2 hm2 hs2 ⟨rfl, ⟨x, rfl⟩, hI2⟩
  simp (disch := first | omega | (simp only [List.length_cons, List.length_nil]; omega)) only [r_ic_eqB (tgt := 1420) dL_law_550 rfl, r_iconst dL_law_553 ki0, r_zret0 dL_law_554, r_zret1 dL_law_554, r_zretc dL_law_554, List.cons_append, List.nil_append, Nat.reduceAdd, Option.toList, z0, lg_self]
  refine ⟨fun _ => ?_, fun z => absurd (by trivial) z⟩
  try simp (disch := omega) only [E2, nI_1, nI_add, nI_leI, nI_ltI, nI_eq, nI_clamp]
  exact hN hm2 hs2 _ _ hI2 (by omega) (by omega)
end LV0
