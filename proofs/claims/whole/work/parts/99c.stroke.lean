def stS (S : Nat → Int32) (n : Nat) (x y c l : Int32) : Nat → Int32 := upd (upd (upd (upd (upd (upd (upd S (7 + 4 * n) x) (7 + 4 * n + 1) y) (7 + 4 * n + 2) c) (7 + 4 * n + 3) l) (183 + n) 0) (195 + n) 0) 2 (nI (n + 1))
def BStroke (T : Nat → Int32) (e q : Nat) (S : Nat → Int32) (n w h : Nat) (o : OU) : Prop := ∃ st1 q1 v1 f1, nmO T e q 0 (nI (w - 1)) st1 q1 v1 f1 ∧ ((f1 ≠ 0 ∧ o = oNo f1 st1 none) ∨ (f1 = 0 ∧ ∃ x st2 q2 v2 f2, x < w ∧ v1 = nI x ∧ nmO T e q1 0 (nI (h - 1)) st2 q2 v2 f2 ∧
  ((f2 ≠ 0 ∧ o = oNo f2 st2 none) ∨ (f2 = 0 ∧ ∃ y st3 q3 v3 f3, y < h ∧ v2 = nI y ∧ nmO T e q2 0 3 st3 q3 v3 f3 ∧ ((f3 ≠ 0 ∧ o = oNo f3 st3 none) ∨ (f3 = 0 ∧ ∃ c st4 q4 v4 f4, c < 4 ∧ v3 = nI c ∧ nmO T e q3 1 9 st4 q4 v4 f4 ∧
    ((f4 ≠ 0 ∧ o = oNo f4 st4 none) ∨ (f4 = 0 ∧ ∃ l, 1 ≤ l ∧ l ≤ 9 ∧ v4 = nI l ∧ ((¬ roomN x y c l w h ∧ o = oNo 2 st4 none) ∨ (roomN x y c l w h ∧ o = oOk q4 (stS S n (nI x) (nI y) (nI c) (nI l))))))))))))
section ME
variable {X : HM} {EV : Nat → Value} {d : Nat} {hm : HM} {hs : Nat} {Q : QT} {m n w h : Nat} {u : Nat → Int32} {A : Nat → Nat → Int32} {R : Nat → Int64} {e q bg : Nat} {o : OU}
theorem m_strokeRead (hM : MO hm m u A R) (hB : BY (A 5) e) (e7 : u 7 = nI e) (he : e ≤ 900) (e8 : u 8 = nI q) (hq : q ≤ e) (h9 : u 9 = 0) (hn : A 0 2 = nI n) (hn12 : n < 12) (hw : A 0 0 = nI w) (hw3 : 3 ≤ w) (hw24 : w ≤ 24) (hh : A 0 1 = nI h) (hh3 : 3 ≤ h) (hh12 : h ≤ 12) (hb : BStroke (A 5) e q (A 0) n w h o)
    (hQ : ∀ hm' u' A', MO hm' m u' A' R → KL u u' A A' → RO o u u' A A' → sm m (m + 16) hm hm' → Q none hm' hs) : CC X EV (d + 4) 173 [.ref m, .int (nI (7 + 4 * n))] hm hs Q := by
  obtain ⟨st1, q1, v1, f1, hn1, hb⟩ := hb
  have l1 := nm_f hn1
  have i0 := vp_in_nI (show 7 + 4 * n < 217 by omega) (by omega)
  have i1 := vp_in_nI (show 7 + 4 * n + 1 < 217 by omega) (by omega)
  have i2 := vp_in_nI (show 7 + 4 * n + 2 < 217 by omega) (by omega)
  have i3 := vp_in_nI (show 7 + 4 * n + 3 < 217 by omega) (by omega)
  have k0 := nI_clamp (show 7 + 4 * n < 2 ^ 31 by omega)
  have k1 := nI_clamp (show 7 + 4 * n + 1 < 2 ^ 31 by omega)
  have k2 := nI_clamp (show 7 + 4 * n + 2 < 2 ^ 31 by omega)
  have k3 := nI_clamp (show 7 + 4 * n + 3 < 2 ^ 31 by omega)
  have p1 : nI (7 + 4 * n) + 1 = nI (7 + 4 * n + 1) := nI_add _ 1
  have p2 : nI (7 + 4 * n) + 2 = nI (7 + 4 * n + 2) := nI_add _ 2
  have p3 : nI (7 + 4 * n) + 3 = nI (7 + 4 * n + 3) := nI_add _ 3
  have ew1 : nI w - 1 = nI (w - 1) := nI_sub (b := 1) (by omega)
  have eh1 : nI h - 1 = nI (h - 1) := nI_sub (b := 1) (by omega)
  have w69 : ∀ hm' u' A' y, MO hm' m u' A' R → ¬ u' 9 = 0 → Q none hm' hs → E1 X EV (d + 3) 10 0 0 none false cX10_strokeRead Q 69 [.ref m, .int (nI (7 + 4 * n)), y] [] 0 0 hm' hs := by
    intro hm' u' A' y hM' h9' hq
    simp only [r_al0 dX10_strokeRead_69, r_getf dX10_strokeRead_70 F10_76, r_if_eq (tgt := 77) dX10_strokeRead_73 rfl, r_vret dX10_strokeRead_76 (Nat.zero_le _) (Nat.zero_le _), r_al0 dX10_strokeRead_77, r_getf dX10_strokeRead_78 F10_13, r_il1 dX10_strokeRead_81, r_iconst dX10_strokeRead_82 ki3, r_iadd dX10_strokeRead_83, r_iald dX10_strokeRead_84, r_iconst dX10_strokeRead_85 ki1, r_isub dX10_strokeRead_86, r_is2 dX10_strokeRead_87, r_al0 dX10_strokeRead_88, r_al0 dX10_strokeRead_89, r_getf dX10_strokeRead_90 F10_13, r_il1 dX10_strokeRead_93, r_iald dX10_strokeRead_94, r_il2 dX10_strokeRead_95, r_al0 dX10_strokeRead_96, r_getf dX10_strokeRead_97 F10_13, r_il1 dX10_strokeRead_100, r_iconst dX10_strokeRead_101 ki2, r_iadd dX10_strokeRead_102, r_iald dX10_strokeRead_103, List.cons_append, List.nil_append, Nat.reduceAdd, Option.toList, aI_ok, cat_f, cat_i, cat_n, cat_r, eq_self, g10_0, g10_9, true_and, z0, hM'.r, rd_own hM'.r, hM'.r, rd_own hM'.r]
    exact ⟨fun z => absurd z h9', fun _ => hq⟩
  have w54 : ∀ hm' u' S' y, MO hm' m u' (va_up A 0 S') R → ¬ u' 9 = 0 → sm m (m + 16) hm hm' → (∀ hm'' S'', MO hm'' m u' (va_up A 0 S'') R → sm m (m + 16) hm hm'' → Q none hm'' hs) → E1 X EV (d + 3) 10 0 0 none false cX10_strokeRead Q 54 [.ref m, .int (nI (7 + 4 * n)), y] [] 0 0 hm' hs := by
    intro hm' u' S' y hM' h9' s' hq
    simp only [r_al0 dX10_strokeRead_54, r_getf dX10_strokeRead_55 F10_13, r_il1 dX10_strokeRead_58, r_iconst dX10_strokeRead_59 ki3, r_iadd dX10_strokeRead_60, r_al0 dX10_strokeRead_61, r_iconst dX10_strokeRead_62 ki1, r_bipush dX10_strokeRead_63 kb9, List.cons_append, List.nil_append, Nat.reduceAdd, Option.toList, g10_0, z0, hM'.r, rd_own hM'.r, hM'.r, rd_own hM'.r]
    refine r_iv3 dX10_strokeRead_65 M10_135 Y166 O166 (Nat.le_of_ble_eq_true rfl) (rcv_own hM'.r) (Nat.le_refl _) (Nat.le_refl _) ?_
    refine m_numeralw hM' h9' ?_
    simp (disch := first | omega | (simp only [List.length_cons, List.length_nil]; omega)) only [r_iast dX10_strokeRead_68, List.cons_append, List.nil_append, Nat.reduceAdd, Option.toList, pk_un, pk_us, rd_up_eq, rd_up_ne, sI_ok, up_eq, up_ne, up_up, z0, hM'.r, rd_own hM'.r, hM'.r0, rd_own hM'.r0, p3, k3]
    refine ⟨i3, ?_⟩
    have hM2 := hM'.w0 (upd ((va_up A 0 S') 0) (7 + 4 * n + 3) 1)
    rw [va_va] at hM2
    exact w69 _ u' _ y hM2 h9' (hq _ _ hM2 (s'.up (by omega)))
  have w40 : ∀ hm' u' S' y, MO hm' m u' (va_up A 0 S') R → ¬ u' 9 = 0 → sm m (m + 16) hm hm' → (∀ hm'' S'', MO hm'' m u' (va_up A 0 S'') R → sm m (m + 16) hm hm'' → Q none hm'' hs) → E1 X EV (d + 3) 10 0 0 none false cX10_strokeRead Q 40 [.ref m, .int (nI (7 + 4 * n)), y] [] 0 0 hm' hs := by
    intro hm' u' S' y hM' h9' s' hq
    simp only [r_al0 dX10_strokeRead_40, r_getf dX10_strokeRead_41 F10_13, r_il1 dX10_strokeRead_44, r_iconst dX10_strokeRead_45 ki2, r_iadd dX10_strokeRead_46, r_al0 dX10_strokeRead_47, r_iconst dX10_strokeRead_48 ki0, r_iconst dX10_strokeRead_49 ki3, List.cons_append, List.nil_append, Nat.reduceAdd, Option.toList, g10_0, z0, hM'.r, rd_own hM'.r, hM'.r, rd_own hM'.r]
    refine r_iv3 dX10_strokeRead_50 M10_135 Y166 O166 (Nat.le_of_ble_eq_true rfl) (rcv_own hM'.r) (Nat.le_refl _) (Nat.le_refl _) ?_
    refine m_numeralw hM' h9' ?_
    simp (disch := first | omega | (simp only [List.length_cons, List.length_nil]; omega)) only [r_iast dX10_strokeRead_53, List.cons_append, List.nil_append, Nat.reduceAdd, Option.toList, pk_un, pk_us, rd_up_eq, rd_up_ne, sI_ok, up_eq, up_ne, up_up, z0, hM'.r, rd_own hM'.r, hM'.r0, rd_own hM'.r0, p2, k2]
    refine ⟨i2, ?_⟩
    have hM2 := hM'.w0 (upd ((va_up A 0 S') 0) (7 + 4 * n + 2) 0)
    rw [va_va] at hM2
    exact w54 _ u' _ y hM2 h9' (s'.up (by omega)) hq
  have w19 : ∀ hm' u' S' y, MO hm' m u' (va_up A 0 S') R → ¬ u' 9 = 0 → sm m (m + 16) hm hm' → (∀ hm'' S'', MO hm'' m u' (va_up A 0 S'') R → sm m (m + 16) hm hm'' → Q none hm'' hs) → E1 X EV (d + 3) 10 0 0 none false cX10_strokeRead Q 19 [.ref m, .int (nI (7 + 4 * n)), y] [] 0 0 hm' hs := by
    intro hm' u' S' y hM' h9' s' hq
    simp only [r_al0 dX10_strokeRead_19, r_getf dX10_strokeRead_20 F10_13, r_il1 dX10_strokeRead_23, r_iconst dX10_strokeRead_24 ki1, r_iadd dX10_strokeRead_25, r_al0 dX10_strokeRead_26, r_iconst dX10_strokeRead_27 ki0, r_al0 dX10_strokeRead_28, r_getf dX10_strokeRead_29 F10_13, r_iconst dX10_strokeRead_32 ki1, r_iald dX10_strokeRead_33, r_iconst dX10_strokeRead_34 ki1, r_isub dX10_strokeRead_35, List.cons_append, List.nil_append, Nat.reduceAdd, Option.toList, aI_ok, g10_0, z0, hM'.r, rd_own hM'.r, hM'.r0, rd_own hM'.r0, vs1, ck1, true_and]
    refine r_iv3 dX10_strokeRead_36 M10_135 Y166 O166 (Nat.le_of_ble_eq_true rfl) (rcv_own hM'.r) (Nat.le_refl _) (Nat.le_refl _) ?_
    refine m_numeralw hM' h9' ?_
    simp (disch := first | omega | (simp only [List.length_cons, List.length_nil]; omega)) only [r_iast dX10_strokeRead_39, List.cons_append, List.nil_append, Nat.reduceAdd, Option.toList, pk_un, pk_us, rd_up_eq, rd_up_ne, sI_ok, up_eq, up_ne, up_up, z0, hM'.r, rd_own hM'.r, hM'.r0, rd_own hM'.r0, p1, k1]
    refine ⟨i1, ?_⟩
    have hM2 := hM'.w0 (upd ((va_up A 0 S') 0) (7 + 4 * n + 1) 0)
    rw [va_va] at hM2
    exact w40 _ u' _ y hM2 h9' (s'.up (by omega)) hq
  refine c_of (ls2 := [.ref m, .int (nI (7 + 4 * n)), .null]) Y173 (Nat.le_of_ble_eq_true rfl) rfl I173 ?_
  simp only [r_al0 dX10_strokeRead_0, r_getf dX10_strokeRead_1 F10_13, r_il1 dX10_strokeRead_4, r_al0 dX10_strokeRead_5, r_iconst dX10_strokeRead_6 ki0, r_al0 dX10_strokeRead_7, r_getf dX10_strokeRead_8 F10_13, r_iconst dX10_strokeRead_11 ki0, r_iald dX10_strokeRead_12, r_iconst dX10_strokeRead_13 ki1, r_isub dX10_strokeRead_14, List.cons_append, List.nil_append, Nat.reduceAdd, Option.toList, aI_ok, g10_0, z0, hM.r, rd_own hM.r, hM.r0, rd_own hM.r0, vs0, ck0, hw, true_and, ew1]
  refine r_iv3 dX10_strokeRead_15 M10_135 Y166 O166 (Nat.le_of_ble_eq_true rfl) (rcv_own hM.r) (Nat.le_refl _) (Nat.le_refl _) ?_
  refine m_numeral hM hB e7 he e8 hq h9 (by decide) hn1 (fun hm1 u1 hM1 ks1 g9 g0 gf s1 => ?_)
  have r7 : u1 7 = nI e := (ks1 7 (by decide) (by decide) (by decide) (by decide)).trans e7
  simp (disch := first | omega | (simp only [List.length_cons, List.length_nil]; omega)) only [r_iast dX10_strokeRead_18, List.cons_append, List.nil_append, Nat.reduceAdd, Option.toList, pk_un, pk_us, rd_up_eq, rd_up_ne, sI_ok, up_eq, up_ne, up_up, z0, hM1.r, rd_own hM1.r, hM1.r0, rd_own hM1.r0, k0]
  refine ⟨i0, ?_⟩
  have hM1 := hM1.w0 (upd (A 0) (7 + 4 * n) (if f1 = 0 then v1 else 0))
  have s1 := s1.up (a := m + 1) (c := ia 217 (upd (A 0) (7 + 4 * n) (if f1 = 0 then v1 else 0))) (by omega)
  rcases hb with ⟨hf, ho⟩ | ⟨hf, x, st2, q2, v2, f2, hx, ev1, hn2, hb⟩
  · refine w19 _ u1 _ _ hM1 (by rw [g9]; exact nI_f l1 hf) s1 (fun hm2 S2 hM2 s2 => hQ hm2 u1 _ hM2 (ks1.kl (A := A)) (by rw [ho]; exact ⟨g9, gf hf, ks1.r18, rfl⟩) s2)
  subst hf
  rw [if_pos rfl] at hM1 s1 ⊢
  obtain ⟨g8, g11, g10⟩ := g0 rfl
  have l2 := nm_f hn2
  have e1 : ∀ f, (va_up A 0 (upd (A 0) (7 + 4 * n) f)) 0 1 = nI h := fun f => (pk_un (by omega)).trans hh
  simp only [r_al0 dX10_strokeRead_19, r_getf dX10_strokeRead_20 F10_13, r_il1 dX10_strokeRead_23, r_iconst dX10_strokeRead_24 ki1, r_iadd dX10_strokeRead_25, r_al0 dX10_strokeRead_26, r_iconst dX10_strokeRead_27 ki0, r_al0 dX10_strokeRead_28, r_getf dX10_strokeRead_29 F10_13, r_iconst dX10_strokeRead_32 ki1, r_iald dX10_strokeRead_33, r_iconst dX10_strokeRead_34 ki1, r_isub dX10_strokeRead_35, List.cons_append, List.nil_append, Nat.reduceAdd, Option.toList, aI_ok, g10_0, z0, hM1.r, rd_own hM1.r, hM1.r0, rd_own hM1.r0, vs1, ck1, true_and, e1, eh1]
  refine r_iv3 dX10_strokeRead_36 M10_135 Y166 O166 (Nat.le_of_ble_eq_true rfl) (rcv_own hM1.r) (Nat.le_refl _) (Nat.le_refl _) ?_
  refine m_numeral hM1 hB r7 he g8 (nm_q hn1) g9 (by decide) hn2 (fun hm2 u2 hM2 ks2 w9 w0 wf s2 => ?_)
  have ks := ks1.trans ks2
  have r72 : u2 7 = nI e := (ks 7 (by decide) (by decide) (by decide) (by decide)).trans e7
  simp (disch := first | omega | (simp only [List.length_cons, List.length_nil]; omega)) only [r_iast dX10_strokeRead_39, List.cons_append, List.nil_append, Nat.reduceAdd, Option.toList, pk_un, pk_us, rd_up_eq, rd_up_ne, sI_ok, up_eq, up_ne, up_up, z0, hM2.r, rd_own hM2.r, hM2.r0, rd_own hM2.r0, p1, k1]
  refine ⟨i1, ?_⟩
  have s2 := (s1.trans s2).up (a := m + 1) (c := ia 217 (upd ((va_up A 0 (upd (A 0) (7 + 4 * n) v1)) 0) (7 + 4 * n + 1) (if f2 = 0 then v2 else 0))) (by omega)
  have hM2 := hM2.w0 (upd ((va_up A 0 (upd (A 0) (7 + 4 * n) v1)) 0) (7 + 4 * n + 1) (if f2 = 0 then v2 else 0))
  rw [va_va] at hM2
  rcases hb with ⟨hf, ho⟩ | ⟨hf, y, st3, q3, v3, f3, hy, ev2, hn3, hb⟩
  · refine w40 _ u2 _ _ hM2 (by rw [w9]; exact nI_f l2 hf) s2 (fun hm3 S3 hM3 s3 => hQ hm3 u2 _ hM3 (ks.kl (A := A)) (by rw [ho]; exact ⟨w9, wf hf, ks.r18, rfl⟩) s3)
  subst hf
  rw [if_pos rfl] at hM2 s2 ⊢
  obtain ⟨w8, w11, w10⟩ := w0 rfl
  have l3 := nm_f hn3
  simp only [r_al0 dX10_strokeRead_40, r_getf dX10_strokeRead_41 F10_13, r_il1 dX10_strokeRead_44, r_iconst dX10_strokeRead_45 ki2, r_iadd dX10_strokeRead_46, r_al0 dX10_strokeRead_47, r_iconst dX10_strokeRead_48 ki0, r_iconst dX10_strokeRead_49 ki3, List.cons_append, List.nil_append, Nat.reduceAdd, Option.toList, g10_0, z0, hM2.r, rd_own hM2.r, hM2.r, rd_own hM2.r]
  refine r_iv3 dX10_strokeRead_50 M10_135 Y166 O166 (Nat.le_of_ble_eq_true rfl) (rcv_own hM2.r) (Nat.le_refl _) (Nat.le_refl _) ?_
  refine m_numeral hM2 hB r72 he w8 (nm_q hn2) w9 (by decide) hn3 (fun hm3 u3 hM3 ks3 x9 x0 xf s3 => ?_)
  have ks' := ks.trans ks3
  have s3 := s2.trans s3
  have r73 : u3 7 = nI e := (ks' 7 (by decide) (by decide) (by decide) (by decide)).trans e7
  simp (disch := first | omega | (simp only [List.length_cons, List.length_nil]; omega)) only [r_iast dX10_strokeRead_53, List.cons_append, List.nil_append, Nat.reduceAdd, Option.toList, pk_un, pk_us, rd_up_eq, rd_up_ne, sI_ok, up_eq, up_ne, up_up, z0, hM3.r, rd_own hM3.r, hM3.r0, rd_own hM3.r0, p2, k2]
  refine ⟨i2, ?_⟩
  rw [vu_eq, vu_eq]
  rw [vu_eq] at hM3
  obtain ⟨B2, eB2⟩ : ∃ B2, B2 = upd (upd (A 0) (7 + 4 * n) v1) (7 + 4 * n + 1) v2 := ⟨_, rfl⟩
  rw [← eB2] at hM3 ⊢
  have s3 := s3.up (a := m + 1) (c := ia 217 (upd B2 (7 + 4 * n + 2) (if f3 = 0 then v3 else 0))) (by omega)
  have hM3 := hM3.w0 (upd B2 (7 + 4 * n + 2) (if f3 = 0 then v3 else 0))
  rw [va_va] at hM3
  rcases hb with ⟨hf, ho⟩ | ⟨hf, c, st4, q4, v4, f4, hc, ev3, hn4, hb⟩
  · refine w54 _ u3 _ _ hM3 (by rw [x9]; exact nI_f l3 hf) s3 (fun hm4 S4 hM4 s4 => hQ hm4 u3 _ hM4 (ks'.kl (A := A)) (by rw [ho]; exact ⟨x9, xf hf, ks'.r18, rfl⟩) s4)
  subst hf
  rw [if_pos rfl] at hM3 s3 ⊢
  obtain ⟨x8, x11, x10⟩ := x0 rfl
  have l4 := nm_f hn4
  simp only [r_al0 dX10_strokeRead_54, r_getf dX10_strokeRead_55 F10_13, r_il1 dX10_strokeRead_58, r_iconst dX10_strokeRead_59 ki3, r_iadd dX10_strokeRead_60, r_al0 dX10_strokeRead_61, r_iconst dX10_strokeRead_62 ki1, r_bipush dX10_strokeRead_63 kb9, List.cons_append, List.nil_append, Nat.reduceAdd, Option.toList, g10_0, z0, hM3.r, rd_own hM3.r, hM3.r, rd_own hM3.r]
  refine r_iv3 dX10_strokeRead_65 M10_135 Y166 O166 (Nat.le_of_ble_eq_true rfl) (rcv_own hM3.r) (Nat.le_refl _) (Nat.le_refl _) ?_
  refine m_numeral hM3 hB r73 he x8 (nm_q hn3) x9 (by decide) hn4 (fun hm4 u4 hM4 ks4 y9 y0 yf s4 => ?_)
  have ks5 := ks'.trans ks4
  have s4 := s3.trans s4
  simp (disch := first | omega | (simp only [List.length_cons, List.length_nil]; omega)) only [r_iast dX10_strokeRead_68, List.cons_append, List.nil_append, Nat.reduceAdd, Option.toList, pk_un, pk_us, rd_up_eq, rd_up_ne, sI_ok, up_eq, up_ne, up_up, z0, hM4.r, rd_own hM4.r, hM4.r0, rd_own hM4.r0, p3, k3]
  refine ⟨i3, ?_⟩
  rw [vu_eq]
  obtain ⟨B3, eB3⟩ : ∃ B3, B3 = upd B2 (7 + 4 * n + 2) v3 := ⟨_, rfl⟩
  rw [← eB3] at hM4 ⊢
  have s4 := s4.up (a := m + 1) (c := ia 217 (upd B3 (7 + 4 * n + 3) (if f4 = 0 then v4 else 1))) (by omega)
  have hM4 := hM4.w0 (upd B3 (7 + 4 * n + 3) (if f4 = 0 then v4 else 1))
  rw [va_va] at hM4
  rcases hb with ⟨hf, ho⟩ | ⟨hf, l, hl1, hl9, ev4, hb⟩
  · exact w69 _ u4 _ _ hM4 (by rw [y9]; exact nI_f l4 hf) (hQ _ u4 _ hM4 (ks5.kl (A := A)) (by rw [ho]; exact ⟨y9, yf hf, ks5.r18, rfl⟩) s4)
  subst hf
  rw [if_pos rfl] at hM4 s4 ⊢
  obtain ⟨y8, y11, y10⟩ := y0 rfl
  obtain ⟨B4, eB4⟩ : ∃ B4, B4 = upd B3 (7 + 4 * n + 3) v4 := ⟨_, rfl⟩
  rw [← eB4] at hM4 s4 ⊢
  have b0 : B4 (7 + 4 * n) = nI x := by rw [eB4, pk_un (by omega), eB3, pk_un (by omega), eB2, pk_un (by omega), pk_us, ev1]
  have b1 : B4 (7 + 4 * n + 1) = nI y := by rw [eB4, pk_un (by omega), eB3, pk_un (by omega), eB2, pk_us, ev2]
  have b2 : B4 (7 + 4 * n + 2) = nI c := by rw [eB4, pk_un (by omega), eB3, pk_us, ev3]
  have b3 : B4 (7 + 4 * n + 3) = nI l := by rw [eB4, pk_us, ev4]
  have bo : ∀ j, (j < 7 + 4 * n ∨ 7 + 4 * n + 3 < j) → B4 j = A 0 j := fun j hj => by rw [eB4, pk_un (by omega), eB3, pk_un (by omega), eB2, pk_un (by omega), pk_un (by omega)]
  have q2 := (bo 2 (by omega)).trans hn
  have room := room_iff hx hy hw24 hh12 hc hl1 hl9
  have n183 := vp_in_nI (show 183 + n < 217 by omega) (by omega)
  have n195 := vp_in_nI (show 195 + n < 217 by omega) (by omega)
  have eV : ∀ f, (va_up A 0 f) 0 = f := fun f => rfl
  have h146 : ∀ hm' u' y, MO hm' m u' (va_up A 0 B4) R → sm m (m + 16) hm hm' → (∀ hm'', MO hm'' m u' (va_up A 0 (upd (upd (upd B4 (183 + n) 0) (195 + n) 0) 2 (nI (n + 1)))) R → sm m (m + 16) hm hm'' → Q none hm'' hs) → E1 X EV (d + 3) 10 0 0 none false cX10_strokeRead Q 146 [.ref m, .int (nI (7 + 4 * n)), y] [] 0 0 hm' hs := by
    intro hm' u' y hM' s' hq
    have e2 : ∀ a b, upd (upd B4 (183 + n) a) (195 + n) b 2 = nI n := fun a b => by rw [pk_un (by omega), pk_un (by omega)]; exact q2
    have e2' : ∀ a, upd B4 (183 + n) a 2 = nI n := fun a => by rw [pk_un (by omega)]; exact q2
    simp (disch := first | omega | (simp only [List.length_cons, List.length_nil]; omega)) only [r_al0 dX10_strokeRead_146, r_getf dX10_strokeRead_147 F10_13, r_sipush dX10_strokeRead_150 ks183, r_al0 dX10_strokeRead_153, r_getf dX10_strokeRead_154 F10_13, r_iconst dX10_strokeRead_157 ki2, r_iald dX10_strokeRead_158, r_iadd dX10_strokeRead_159, r_iconst dX10_strokeRead_160 ki0, r_iast dX10_strokeRead_161, r_al0 dX10_strokeRead_162, r_getf dX10_strokeRead_163 F10_13, r_sipush dX10_strokeRead_166 ks195, r_al0 dX10_strokeRead_169, r_getf dX10_strokeRead_170 F10_13, r_iconst dX10_strokeRead_173 ki2, r_iald dX10_strokeRead_174, r_iadd dX10_strokeRead_175, r_iconst dX10_strokeRead_176 ki0, r_iast dX10_strokeRead_177, r_al0 dX10_strokeRead_178, r_getf dX10_strokeRead_179 F10_13, r_iconst dX10_strokeRead_182 ki2, r_dup2_ir dX10_strokeRead_183, r_dup2_l dX10_strokeRead_183, r_iald dX10_strokeRead_184, r_iconst dX10_strokeRead_185 ki1, r_iadd dX10_strokeRead_186, r_iast dX10_strokeRead_187, r_vret dX10_strokeRead_188 (Nat.zero_le _) (Nat.zero_le _), List.cons_append, List.nil_append, Nat.reduceAdd, Option.toList, aI_ok, g10_0, pk_un, pk_us, rd_up_eq, rd_up_ne, sI_ok, up_eq, up_ne, up_up, z0, hM'.r, rd_own hM'.r, hM'.r0, rd_own hM'.r0, eV, vs2, ck2, true_and, q2, e2, e2', s183, s195, nI_1, nI_clamp (show 183 + n < 2 ^ 31 by omega), nI_clamp (show 195 + n < 2 ^ 31 by omega)]
    refine ⟨n183, n195, ?_⟩
    have h5 := hM'.w0 (upd (upd (upd B4 (183 + n) 0) (195 + n) 0) 2 (nI (n + 1)))
    rw [va_va] at h5
    exact hq _ h5 (s'.up (by omega))
  simp only [r_al0 dX10_strokeRead_69, r_getf dX10_strokeRead_70 F10_76, r_if_eq (tgt := 77) dX10_strokeRead_73 rfl, r_vret dX10_strokeRead_76 (Nat.zero_le _) (Nat.zero_le _), r_al0 dX10_strokeRead_77, r_getf dX10_strokeRead_78 F10_13, r_il1 dX10_strokeRead_81, r_iconst dX10_strokeRead_82 ki3, r_iadd dX10_strokeRead_83, r_iald dX10_strokeRead_84, r_iconst dX10_strokeRead_85 ki1, r_isub dX10_strokeRead_86, r_is2 dX10_strokeRead_87, r_al0 dX10_strokeRead_88, r_al0 dX10_strokeRead_89, r_getf dX10_strokeRead_90 F10_13, r_il1 dX10_strokeRead_93, r_iald dX10_strokeRead_94, r_il2 dX10_strokeRead_95, r_al0 dX10_strokeRead_96, r_getf dX10_strokeRead_97 F10_13, r_il1 dX10_strokeRead_100, r_iconst dX10_strokeRead_101 ki2, r_iadd dX10_strokeRead_102, r_iald dX10_strokeRead_103, List.cons_append, List.nil_append, Nat.reduceAdd, Option.toList, aI_ok, cat_f, cat_i, cat_n, cat_r, eq_self, g10_0, g10_9, true_and, z0, hM4.r, rd_own hM4.r, hM4.r0, rd_own hM4.r0, eV, y9, p1, p2, p3, k0, k1, k2, k3, b0, b1, b2, b3]
  refine ⟨fun _ => ⟨i3, i0, i2, ?_⟩, fun z => absurd rfl z⟩
  refine r_ist1 dX10_strokeRead_104 M10_158 Y170 (Nat.le_of_ble_eq_true rfl) (Nat.le_refl _) (Nat.le_refl _) ?_
  refine m_stepX ?_
  simp only [r_imul dX10_strokeRead_107, r_iadd dX10_strokeRead_108, r_al0 dX10_strokeRead_109, r_getf dX10_strokeRead_110 F10_13, r_il1 dX10_strokeRead_113, r_iconst dX10_strokeRead_114 ki1, r_iadd dX10_strokeRead_115, r_iald dX10_strokeRead_116, r_il2 dX10_strokeRead_117, r_al0 dX10_strokeRead_118, r_getf dX10_strokeRead_119 F10_13, r_il1 dX10_strokeRead_122, r_iconst dX10_strokeRead_123 ki2, r_iadd dX10_strokeRead_124, r_iald dX10_strokeRead_125, List.cons_append, List.nil_append, Nat.reduceAdd, Option.toList, aI_ok, g10_0, z0, hM4.r, rd_own hM4.r, hM4.r0, rd_own hM4.r0, eV, y9, p1, p2, p3, k0, k1, k2, k3, b0, b1, b2, b3]
  refine ⟨i1, i2, ?_⟩
  refine r_ist1 dX10_strokeRead_126 M10_162 Y171 (Nat.le_of_ble_eq_true rfl) (Nat.le_refl _) (Nat.le_refl _) ?_
  refine m_stepY ?_
  simp only [r_imul dX10_strokeRead_129, r_iadd dX10_strokeRead_130, List.cons_append, List.nil_append, Nat.reduceAdd, Option.toList, z0]
  refine r_iv3 dX10_strokeRead_131 M10_165 Y172 O172 (Nat.le_of_ble_eq_true rfl) (rcv_own hM4.r) (Nat.le_refl _) (Nat.le_refl _) ?_
  refine m_isOnPage hM4 (w := w) (h := h) ((bo 0 (by omega)).trans hw) hw24 ((bo 1 (by omega)).trans hh) hh12 ?_
  have cm : ∀ a b : Int32, a * b = b * a := Int32.mul_comm
  rw [cm (nI l - 1) (mstX (nI c)), cm (nI l - 1) (mstY (nI c))]
  have eSt : upd (upd (upd B4 (183 + n) 0) (195 + n) 0) 2 (nI (n + 1)) = stS (A 0) n (nI x) (nI y) (nI c) (nI l) := by unfold stS; rw [eB4, eB3, eB2, ev1, ev2, ev3, ev4]
  rcases hb with ⟨hr, ho⟩ | ⟨hr, ho⟩
  · rw [if_neg (fun z => hr (room.mp z))]
    simp only [r_if_neB (tgt := 146) dX10_strokeRead_134 rfl, r_al0 dX10_strokeRead_137, r_iconst dX10_strokeRead_138 ki2, r_al0 dX10_strokeRead_139, r_getf dX10_strokeRead_140 F10_120, List.cons_append, List.nil_append, Nat.reduceAdd, Option.toList, g10_11, z0, hM4.r, rd_own hM4.r, hM4.r, rd_own hM4.r, y11]
    refine ⟨fun z => absurd trivial z, fun _ => ?_⟩
    refine r_iv3 dX10_strokeRead_143 M10_116 Y161 O161 (Nat.le_of_ble_eq_true rfl) (rcv_own hM4.r) (Nat.le_refl _) (Nat.le_refl _) ?_
    refine m_fails hM4 (fun z => absurd y9 z) (fun _ hm6 hM6 s6 => ?_)
    exact h146 hm6 _ _ hM6 (s4.trans s6) (fun hm7 hM7 s7 => hQ hm7 _ _ hM7 (ks5.kl (A := A)) (by rw [ho]; exact ⟨rfl, rfl, ks5.r18, rfl⟩) s7)
  · rw [if_pos (room.mpr hr)]
    simp only [r_if_neB (tgt := 146) dX10_strokeRead_134 rfl, r_al0 dX10_strokeRead_137, r_iconst dX10_strokeRead_138 ki2, r_al0 dX10_strokeRead_139, r_getf dX10_strokeRead_140 F10_120, List.cons_append, List.nil_append, Nat.reduceAdd, Option.toList, g10_11, z0, hM4.r, rd_own hM4.r, hM4.r, rd_own hM4.r, y11]
    refine ⟨fun _ => ?_, fun z => absurd (by decide) z⟩
    try simp (disch := omega) only [E2, nI_1, nI_add, nI_leI, nI_ltI, nI_eq, nI_clamp]
    exact h146 _ _ _ hM4 s4 (fun hm7 hM7 s7 => hQ hm7 _ _ hM7 (ks5.kl (A := A)) (by rw [ho]; exact ⟨y9, y10.trans (x10.trans (w10.trans g10)), y8, eSt, ks5.r18, rfl⟩) s7)
end ME
