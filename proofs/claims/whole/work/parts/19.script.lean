/-! ===== Page.addStroke; Script ===== -/
def emv (k : Int32) : Int32 := k &&& 511
def shv (k : Int32) : Int32 := (k >>> ((9 : Int32) &&& 31)) &&& 511
def hdv (k : Int32) : Int32 := 511 &&& ((emv k ||| shv k) ^^^ (-1))
def fitv (fm : Nat → Int32) (look : Int32) (nl : Nat) : Int32 := acc (fun k => fm k &&& emv look = 0 ∧ shv look &&& (fm k ^^^ (-1)) = 0) nl
def wfit (A : Nat → Nat → Int32) (F : Nat → Int32) (w r f l : Nat) : Prop := A 10 w = A 13 r ∧ ∀ i, i < l → bt (F (f + i)) (A 11 (6 * w + i)).toNatClampNeg = true
def prodL (A : Nat → Nat → Int32) (w : Nat) : Nat → Int64
  | 0 => 1
  | i + 1 => prodL A w i * (A 6 (A 11 (6 * w + i)).toNatClampNeg).toInt64
def heav (wt : Nat → Int32) (set : Int32) : Nat → Int32
  | 0 => -1
  | k + 1 => if bt set k = true ∧ (heav wt set k = -1 ∨ wt (heav wt set k).toNatClampNeg < wt k) then nI k else heav wt set k
def totv (wt : Nat → Int32) (set : Int32) : Nat → Int32
  | 0 => 0
  | k + 1 => if bt set k = true then totv wt set k + wt k else totv wt set k
theorem heav_lt (wt : Nat → Int32) (set : Int32) : ∀ k, k < 2 ^ 31 → heav wt set k = -1 ∨ ∃ j, j < k ∧ heav wt set k = nI j := by
  intro k hk
  induction k with
  | zero => exact Or.inl rfl
  | succ k ih =>
    unfold heav
    split
    · exact Or.inr ⟨k, by omega, rfl⟩
    · rcases ih (by omega) with h | ⟨j, h1, h2⟩
      · exact Or.inl h
      · exact Or.inr ⟨j, by omega, h2⟩
section S1
variable {X : HM} {EV : Nat → Value} {d : Nat} {hm : HM} {hs : Nat} {Q : QT} {p : Nat} {u : Nat → Int32} {A : Nat → Nat → Int32} {B n : Nat}
theorem c_addStroke {x y : Int32} {c l : Nat} {ci : Nat → Nat} (hP : PG hm p u A) (hX : XT X EV B) (hlo : lowN B hm) (hBp : B ≤ p) (hn : u 2 = nI n) (hn12 : n < 12) (hc : c < 4) (hl9 : l ≤ 9) (hci : ∀ j, j < l → (y + mstY (nI c) * nI j) * 24 + x + mstX (nI c) * nI j = nI (ci j) ∧ ci j < 288) (hinj : ∀ j k, j < l → k < l → ci j = ci k → j = k)
    (hQ : ∀ hm' A' met, PG hm' p (upd u 2 (nI n + 1)) A' → A' 6 = upd (A 6) n x → A' 7 = upd (A 7) n y → A' 8 = upd (A 8) n (nI c) → A' 9 = upd (A 9) n (nI l) → A' 11 = upd (A 11) n 0 → A' 12 = upd (A 12) n 0 → A' 13 = upd (A 13) n 0 → (∀ q, A' 14 q = A 14 q ∨ A' 14 q = A 14 q ||| sb n) → (∀ q, A' 14 q = A 14 q ||| sb n ∧ (∃ j, j < l ∧ ci j = q) ∨ A' 14 q = A 14 q ∧ ¬ ∃ j, j < l ∧ ci j = q) → (∀ i, i < 32 → (bt met i = true ↔ ∃ j, j < l ∧ bt (A 14 (ci j)) i = true)) → (∀ k, A' 10 k = if k = n then met else if k < n ∧ bt met k = true then A 10 k ||| sb n else A 10 k) → sm p (p + 10) hm hm' → Q none hm' hs) :
    CC X EV (d + 1) 11 [.ref p, .int x, .int y, .int (nI c), .int (nI l)] hm hs Q := by
  have hinn := vp_in_nI (show n < 12 from hn12) (by omega)
  have hin4 := vp_in_nI hc (by omega)
  refine c_of (ls2 := [.ref p, .int x, .int y, .int (nI c), .int (nI l), .null, .null, .null, .null]) Y11 (Nat.le_of_ble_eq_true rfl) rfl I11 ?_
  simp (disch := first | omega | (simp only [List.length_cons, List.length_nil]; omega)) only [r_al0 dX1_addStroke_0, r_getf dX1_addStroke_1 F1_18, r_is5 dX1_addStroke_4, r_al0 dX1_addStroke_6, r_getf dX1_addStroke_7 F1_30, r_il5 dX1_addStroke_10, r_il1 dX1_addStroke_12, r_iast dX1_addStroke_13, r_al0 dX1_addStroke_14, r_getf dX1_addStroke_15 F1_34, r_il5 dX1_addStroke_18, r_il2 dX1_addStroke_20, r_iast dX1_addStroke_21, r_al0 dX1_addStroke_22, r_getf dX1_addStroke_23 F1_37, r_il5 dX1_addStroke_26, r_il3 dX1_addStroke_28, r_iast dX1_addStroke_29, r_al0 dX1_addStroke_30, r_getf dX1_addStroke_31 F1_40, r_il5 dX1_addStroke_34, r_il4 dX1_addStroke_36, r_iast dX1_addStroke_38, r_al0 dX1_addStroke_39, r_getf dX1_addStroke_40 F1_46, r_il5 dX1_addStroke_43, r_iconst dX1_addStroke_45 ki0, r_iast dX1_addStroke_46, r_al0 dX1_addStroke_47, r_getf dX1_addStroke_48 F1_49, r_il5 dX1_addStroke_51, r_iconst dX1_addStroke_53 ki0, r_iast dX1_addStroke_54, r_al0 dX1_addStroke_55, r_getf dX1_addStroke_56 F1_52, r_il5 dX1_addStroke_59, r_iconst dX1_addStroke_61 ki0, r_iast dX1_addStroke_62, r_iconst dX1_addStroke_63 ki0, r_is6 dX1_addStroke_64, r_iconst dX1_addStroke_66 ki0, r_is7 dX1_addStroke_67, List.cons_append, List.nil_append, Nat.reduceAdd, Option.toList, cat_f, cat_i, cat_n, cat_r, eq_self, g1_11, g1_12, g1_13, g1_2, g1_6, g1_7, g1_8, g1_9, pk_un, pk_us, rd_up_eq, rd_up_ne, sI_ok, true_and, up_eq, up_ne, up_up, z0, hP.r, rd_own hP.r, hP.r6, rd_own hP.r6, hP.r7, rd_own hP.r7, hP.r8, rd_own hP.r8, hP.r9, rd_own hP.r9, hP.r11, rd_own hP.r11, hP.r12, rd_own hP.r12, hP.r13, rd_own hP.r13, hn, nI_clamp (show n < 2 ^ 31 by omega)]
  refine ⟨hinn, hinn, hinn, hinn, hinn, hinn, hinn, ?_⟩
  have hP1 := ((((((hP.w6 (upd (A 6) n x)).w7 (upd (A 7) n y)).w8 (upd (A 8) n (nI c))).w9 (upd (A 9) n (nI l))).w11 (upd (A 11) n 0)).w12 (upd (A 12) n 0)).w13 (upd (A 13) n 0)
  obtain ⟨hm1, ehm1⟩ : ∃ z, z = im_up (im_up (im_up (im_up (im_up (im_up (im_up hm (p + 1) (ia 12 (upd (A 6) n x))) (p + 2) (ia 12 (upd (A 7) n y))) (p + 3) (ia 12 (upd (A 8) n (nI c)))) (p + 4) (ia 12 (upd (A 9) n (nI l)))) (p + 6) (ia 12 (upd (A 11) n 0))) (p + 7) (ia 12 (upd (A 12) n 0))) (p + 8) (ia 12 (upd (A 13) n 0)) := ⟨_, rfl⟩
  have hs1 : sm p (p + 10) hm hm1 := by rw [ehm1]; exact ((((((sm.rf.up (by omega)).up (by omega)).up (by omega)).up (by omega)).up (by omega)).up (by omega)).up (by omega)
  rw [← ehm1] at hP1 ⊢
  obtain ⟨A1, eA1⟩ : ∃ z, z = va_up (va_up (va_up (va_up (va_up (va_up (va_up A 6 (upd (A 6) n x)) 7 (upd (A 7) n y)) 8 (upd (A 8) n (nI c))) 9 (upd (A 9) n (nI l))) 11 (upd (A 11) n 0)) 12 (upd (A 12) n 0)) 13 (upd (A 13) n 0) := ⟨_, rfl⟩
  rw [← eA1] at hP1
  have hA : A1 6 = upd (A 6) n x ∧ A1 7 = upd (A 7) n y ∧ A1 8 = upd (A 8) n (nI c) ∧ A1 9 = upd (A 9) n (nI l) ∧ A1 11 = upd (A 11) n 0 ∧ A1 12 = upd (A 12) n 0 ∧ A1 13 = upd (A 13) n 0 ∧ A1 14 = A 14 ∧ A1 10 = A 10 := by
    subst eA1
    simp (disch := decide) only [vu_eq, vu_ne, and_self]
  clear ehm1 eA1
  obtain ⟨a0, a1, a2, a3, a4, a5, a6, a7, a8⟩ := hA
  suffices H : ∀ k, k ≤ l → ∀ w hm' A' met, PG hm' p u A' → (∀ s, s ≠ 14 → A' s = A1 s) → (∀ q, A' 14 q = A 14 q ||| sb n ∧ (∃ j, j < k ∧ ci j = q) ∨ A' 14 q = A 14 q ∧ ¬ ∃ j, j < k ∧ ci j = q) → (∀ i, i < 32 → (bt met i = true ↔ ∃ j, j < k ∧ bt (A 14 (ci j)) i = true)) → sm p (p + 10) hm hm' → E1 X EV d 1 0 0 none false cX1_addStroke Q 69 [.ref p, .int x, .int y, .int (nI c), .int (nI l), .int (nI n), .int met, .int (nI k), w] [] 0 0 hm' hs from
    H 0 (by omega) _ hm1 A1 0 hP1 (fun _ _ => rfl) (fun q => Or.inr ⟨by rw [a7], by rintro ⟨j, hj, -⟩; omega⟩) (fun i hi => by rw [b_0]; exact ⟨fun h => (by cases h), by rintro ⟨j, hj, -⟩; omega⟩) hs1
  refine up_loop l _ ?_ ?_
  · intro w hm' A' met hP' h1 h2 h3 h4
    simp (disch := first | omega | (simp only [List.length_cons, List.length_nil]; omega)) only [r_il7 dX1_addStroke_69, r_il4 dX1_addStroke_71, r_ic_ge (tgt := 134) dX1_addStroke_73 rfl, r_il2 dX1_addStroke_76, r_gets dX1_addStroke_77 S1_69, r_il3 dX1_addStroke_80, r_iald dX1_addStroke_81, r_il7 dX1_addStroke_82, r_imul dX1_addStroke_84, r_iadd dX1_addStroke_85, r_bipush dX1_addStroke_86 kb24, r_imul dX1_addStroke_88, r_il1 dX1_addStroke_89, r_iadd dX1_addStroke_90, r_gets dX1_addStroke_91 S1_66, r_il3 dX1_addStroke_94, r_iald dX1_addStroke_95, r_il7 dX1_addStroke_96, r_imul dX1_addStroke_98, r_iadd dX1_addStroke_99, r_is8 dX1_addStroke_100, r_il6 dX1_addStroke_102, r_al0 dX1_addStroke_104, r_getf dX1_addStroke_105 F1_55, r_il8 dX1_addStroke_108, r_iald dX1_addStroke_110, r_ior dX1_addStroke_111, r_is6 dX1_addStroke_112, r_al0 dX1_addStroke_114, r_getf dX1_addStroke_115 F1_55, r_il8 dX1_addStroke_118, r_dup2_ir dX1_addStroke_120, r_dup2_l dX1_addStroke_120, r_iald dX1_addStroke_121, r_iconst dX1_addStroke_122 ki1, r_il5 dX1_addStroke_123, r_ishl dX1_addStroke_125, r_ior dX1_addStroke_126, r_iast dX1_addStroke_127, r_ii7 dX1_addStroke_128 kn1, r_gotoB (tgt := 69) dX1_addStroke_131 rfl, r_al0 dX1_addStroke_134, r_getf dX1_addStroke_135 F1_43, r_il5 dX1_addStroke_138, r_il6 dX1_addStroke_140, r_iast dX1_addStroke_142, r_iconst dX1_addStroke_143 ki0, r_is7 dX1_addStroke_144, List.cons_append, List.nil_append, Nat.reduceAdd, Option.toList, aI_ok, cat_f, cat_i, cat_n, cat_r, eq_self, g1_10, g1_14, pk_un, pk_us, rd_up_eq, rd_up_ne, sI_ok, true_and, up_eq, up_ne, up_up, z0, hP'.r, rd_own hP'.r, hP'.r10, rd_own hP'.r10, nI_clamp (show n < 2 ^ 31 by omega)]
    refine ⟨fun _ => ⟨hinn, ?_⟩, fun h => absurd (Int32.le_refl _) h⟩
    suffices H : ∀ k, k ≤ n → ∀ hm2 A2, PG hm2 p u A2 → (∀ s, s ≠ 10 → A2 s = A' s) → (∀ q, A2 10 q = if q = n then met else if q < k ∧ bt met q = true then A 10 q ||| sb n else A 10 q) → sm p (p + 10) hm hm2 → E1 X EV d 1 0 0 none false cX1_addStroke Q 146 [.ref p, .int x, .int y, .int (nI c), .int (nI l), .int (nI n), .int met, .int (nI k), w] [] 0 0 hm2 hs from
      H 0 (by omega) _ _ (hP'.w10 _) (fun s a => vu_ne a) (fun q => by rw [vu_eq, h1 10 (by decide), a8]; unfold upd; grind) (h4.up (by omega))
    refine up_loop n _ ?_ ?_
    · intro hm2 A2 hP2 g1 g2 g3
      simp (disch := first | omega | (simp only [List.length_cons, List.length_nil]; omega)) only [r_il7 dX1_addStroke_146, r_il5 dX1_addStroke_148, r_ic_ge (tgt := 183) dX1_addStroke_150 rfl, r_il6 dX1_addStroke_153, r_il7 dX1_addStroke_155, r_ishr dX1_addStroke_157, r_iconst dX1_addStroke_158 ki1, r_iand dX1_addStroke_159, r_if_eq (tgt := 177) dX1_addStroke_160 rfl, r_al0 dX1_addStroke_163, r_getf dX1_addStroke_164 F1_43, r_il7 dX1_addStroke_167, r_dup2_ir dX1_addStroke_169, r_dup2_l dX1_addStroke_169, r_iald dX1_addStroke_170, r_iconst dX1_addStroke_171 ki1, r_il5 dX1_addStroke_172, r_ishl dX1_addStroke_174, r_ior dX1_addStroke_175, r_iast dX1_addStroke_176, r_ii7 dX1_addStroke_177 kn1, r_gotoB (tgt := 146) dX1_addStroke_180 rfl, r_al0 dX1_addStroke_183, r_dup_i dX1_addStroke_184, r_dup_r dX1_addStroke_184, r_getf dX1_addStroke_185 F1_18, r_iconst dX1_addStroke_188 ki1, r_iadd dX1_addStroke_189, r_putf dX1_addStroke_190 F1_18, r_vret dX1_addStroke_193 (Nat.zero_le _) (Nat.zero_le _), List.cons_append, List.nil_append, Nat.reduceAdd, Option.toList, aI_ok, cat_f, cat_i, cat_n, cat_r, eq_self, fit_i, ft1_2, g1_10, g1_2, p1_2, pk_un, pk_us, rd_up_eq, rd_up_ne, sI_ok, true_and, up_eq, up_ne, up_up, z0, hP2.r, rd_own hP2.r, hP2.r, rd_own hP2.r, hn]
      refine ⟨fun _ => ?_, fun h => absurd (Int32.le_refl _) h⟩
      refine hQ _ A2 met (hP2.o _) ?_ ?_ ?_ ?_ ?_ ?_ ?_ ?_ ?_ h3 g2 (g3.up (by omega))
      · rw [g1 6 (by decide), h1 6 (by decide), a0]
      · rw [g1 7 (by decide), h1 7 (by decide), a1]
      · rw [g1 8 (by decide), h1 8 (by decide), a2]
      · rw [g1 9 (by decide), h1 9 (by decide), a3]
      · rw [g1 11 (by decide), h1 11 (by decide), a4]
      · rw [g1 12 (by decide), h1 12 (by decide), a5]
      · rw [g1 13 (by decide), h1 13 (by decide), a6]
      · intro q
        rw [g1 14 (by decide)]
        rcases h2 q with h | h
        · exact Or.inr h.1
        · exact Or.inl h.1
      · intro q
        rw [g1 14 (by decide)]
        exact h2 q
    · intro k hk ih hm2 A2 hP2 g1 g2 g3
      simp (disch := first | omega | (simp only [List.length_cons, List.length_nil]; omega)) only [r_il7 dX1_addStroke_146, r_il5 dX1_addStroke_148, r_ic_ge (tgt := 183) dX1_addStroke_150 rfl, r_il6 dX1_addStroke_153, r_il7 dX1_addStroke_155, r_ishr dX1_addStroke_157, r_iconst dX1_addStroke_158 ki1, r_iand dX1_addStroke_159, r_if_eq (tgt := 177) dX1_addStroke_160 rfl, r_al0 dX1_addStroke_163, r_getf dX1_addStroke_164 F1_43, r_il7 dX1_addStroke_167, r_dup2_ir dX1_addStroke_169, r_dup2_l dX1_addStroke_169, r_iald dX1_addStroke_170, r_iconst dX1_addStroke_171 ki1, r_il5 dX1_addStroke_172, r_ishl dX1_addStroke_174, r_ior dX1_addStroke_175, r_iast dX1_addStroke_176, r_ii7 dX1_addStroke_177 kn1, r_gotoB (tgt := 146) dX1_addStroke_180 rfl, r_al0 dX1_addStroke_183, r_dup_i dX1_addStroke_184, r_dup_r dX1_addStroke_184, r_getf dX1_addStroke_185 F1_18, r_iconst dX1_addStroke_188 ki1, r_iadd dX1_addStroke_189, r_putf dX1_addStroke_190 F1_18, r_vret dX1_addStroke_193 (Nat.zero_le _) (Nat.zero_le _), List.cons_append, List.nil_append, Nat.reduceAdd, Option.toList, aI_ok, cat_f, cat_i, cat_n, cat_r, eq_self, fit_i, ft1_2, g1_10, g1_2, p1_2, pk_un, pk_us, rd_up_eq, rd_up_ne, sI_ok, true_and, up_eq, up_ne, up_up, z0, hP2.r, rd_own hP2.r, hP2.r10, rd_own hP2.r10, tst0 (show k < 32 by omega)]
      simp (disch := omega) only [E2, nI_1, nI_add, nI_leI, nI_ltI, nI_eq, nI_clamp]
      have hik := vp_in_nI (show k < 12 by omega) (by omega)
      refine ⟨fun h => absurd h (by omega), fun _ => ⟨fun hb => ih hm2 A2 hP2 g1 (fun q => by rw [g2 q]; grind) g3, fun hb => ⟨hik, hik, ?_⟩⟩⟩
      refine ih _ _ (hP2.w10 _) (fun s a => by rw [vu_ne a]; exact g1 s a) (fun q => ?_) (g3.up (by omega))
      rw [vu_eq]
      unfold upd sb at *
      grind
  · intro k hk ih w hm' A' met hP' h1 h2 h3 h4
    have hlo' : lowN B hm' := fun a ha => (h4 a (by omega)).trans (hlo a ha)
    obtain ⟨ra, rb, ea, eb, ra1, rb1⟩ := hX.rd hlo'
    simp (disch := first | omega | (simp only [List.length_cons, List.length_nil]; omega)) only [r_il7 dX1_addStroke_69, r_il4 dX1_addStroke_71, r_ic_ge (tgt := 134) dX1_addStroke_73 rfl, r_il2 dX1_addStroke_76, r_gets dX1_addStroke_77 S1_69, r_il3 dX1_addStroke_80, r_iald dX1_addStroke_81, r_il7 dX1_addStroke_82, r_imul dX1_addStroke_84, r_iadd dX1_addStroke_85, r_bipush dX1_addStroke_86 kb24, r_imul dX1_addStroke_88, r_il1 dX1_addStroke_89, r_iadd dX1_addStroke_90, r_gets dX1_addStroke_91 S1_66, r_il3 dX1_addStroke_94, r_iald dX1_addStroke_95, r_il7 dX1_addStroke_96, r_imul dX1_addStroke_98, r_iadd dX1_addStroke_99, r_is8 dX1_addStroke_100, r_il6 dX1_addStroke_102, r_al0 dX1_addStroke_104, r_getf dX1_addStroke_105 F1_55, r_il8 dX1_addStroke_108, r_iald dX1_addStroke_110, r_ior dX1_addStroke_111, r_is6 dX1_addStroke_112, r_al0 dX1_addStroke_114, r_getf dX1_addStroke_115 F1_55, r_il8 dX1_addStroke_118, r_dup2_ir dX1_addStroke_120, r_dup2_l dX1_addStroke_120, r_iald dX1_addStroke_121, r_iconst dX1_addStroke_122 ki1, r_il5 dX1_addStroke_123, r_ishl dX1_addStroke_125, r_ior dX1_addStroke_126, r_iast dX1_addStroke_127, r_ii7 dX1_addStroke_128 kn1, r_gotoB (tgt := 69) dX1_addStroke_131 rfl, r_al0 dX1_addStroke_134, r_getf dX1_addStroke_135 F1_43, r_il5 dX1_addStroke_138, r_il6 dX1_addStroke_140, r_iast dX1_addStroke_142, r_iconst dX1_addStroke_143 ki0, r_is7 dX1_addStroke_144, List.cons_append, List.nil_append, Nat.reduceAdd, Option.toList, aI_ok, cat_f, cat_i, cat_n, cat_r, eq_self, g1_10, g1_14, pk_un, pk_us, rd_up_eq, rd_up_ne, sI_ok, true_and, up_eq, up_ne, up_up, z0, hP'.r, rd_own hP'.r, hP'.r14, rd_own hP'.r14, ea, eb, ra1, rb1, nI_clamp (show c < 2 ^ 31 by omega), (hci k hk).1, nI_clamp (show ci k < 2 ^ 31 by have := (hci k hk).2; omega)]
    simp (disch := omega) only [E2, nI_1, nI_add, nI_leI, nI_ltI, nI_eq, nI_clamp]
    have hik := vp_in_nI (hci k hk).2 (by omega)
    refine ⟨fun h => absurd h (by omega), fun _ => ⟨hin4, hin4, hik, hik, hik, ?_⟩⟩
    have ek : A' 14 (ci k) = A 14 (ci k) := by
      rcases h2 (ci k) with ⟨-, j, hj, e⟩ | h
      · exact absurd (hinj j k (by omega) hk e) (by omega)
      · exact h.1
    refine ih _ _ _ _ (hP'.w14 _) (fun s a => by rw [vu_ne a]; exact h1 s a) (fun q => ?_) (fun i hi => ?_) (h4.up (by omega))
    · rw [vu_eq]
      unfold upd
      by_cases hq : q = ci k
      · subst hq
        rw [if_pos rfl, ek]
        exact Or.inl ⟨rfl, k, by omega, rfl⟩
      · rw [if_neg hq]
        rcases h2 q with ⟨e, j, hj, ej⟩ | ⟨e, hne⟩
        · exact Or.inl ⟨e, j, by omega, ej⟩
        · refine Or.inr ⟨e, ?_⟩
          rintro ⟨j, hj, ej⟩
          rcases Nat.lt_or_ge j k with h | h
          · exact hne ⟨j, h, ej⟩
          · exact hq (by rw [← ej, show j = k by omega])
    · rw [b_or, Bool.or_eq_true, h3 i hi, ek]
      constructor
      · rintro (⟨j, hj, e⟩ | e)
        · exact ⟨j, by omega, e⟩
        · exact ⟨k, by omega, e⟩
      · rintro ⟨j, hj, e⟩
        rcases Nat.lt_or_ge j k with h | h
        · exact Or.inl ⟨j, h, e⟩
        · rw [show j = k by omega] at e
          exact Or.inr e
theorem c_emptyCells {k : Int32} (hQ : Q (some (.int (emv k))) hm hs) : CC X EV (d + 1) 131 [.int k] hm hs Q := by
  refine c_of (ls2 := [.int k]) Y131 (Nat.le_of_ble_eq_true rfl) rfl I131 ?_
  simp only [r_il0 dX9_emptyCells_0, r_sipush dX9_emptyCells_1 ks511, r_iand dX9_emptyCells_4, r_iret dX9_emptyCells_5 (Nat.zero_le _) (Nat.zero_le _), List.cons_append, List.nil_append, Nat.reduceAdd, Option.toList, z0]
  exact hQ
theorem c_shownCells {k : Int32} (hQ : Q (some (.int (shv k))) hm hs) : CC X EV (d + 1) 132 [.int k] hm hs Q := by
  refine c_of (ls2 := [.int k]) Y132 (Nat.le_of_ble_eq_true rfl) rfl I132 ?_
  simp only [r_il0 dX9_shownCells_0, r_bipush dX9_shownCells_1 kb9, r_ishr dX9_shownCells_3, r_sipush dX9_shownCells_4 ks511, r_iand dX9_shownCells_7, r_iret dX9_shownCells_8 (Nat.zero_le _) (Nat.zero_le _), List.cons_append, List.nil_append, Nat.reduceAdd, Option.toList, z0]
  exact hQ
theorem c_hiddenCells {k : Int32} (hQ : Q (some (.int (hdv k))) hm hs) : CC X EV (d + 2) 133 [.int k] hm hs Q := by
  refine c_of (ls2 := [.int k]) Y133 (Nat.le_of_ble_eq_true rfl) rfl I133 ?_
  simp only [r_sipush dX9_hiddenCells_0 ks511, r_il0 dX9_hiddenCells_3, List.cons_append, List.nil_append, Nat.reduceAdd, Option.toList, z0]
  refine r_ist1 dX9_hiddenCells_4 M9_281 Y131 (Nat.le_of_ble_eq_true rfl) (Nat.le_refl _) (Nat.le_refl _) ?_
  refine c_emptyCells ?_
  simp only [r_il0 dX9_hiddenCells_7, List.cons_append, List.nil_append, Nat.reduceAdd, Option.toList, z0]
  refine r_ist1 dX9_hiddenCells_8 M9_284 Y132 (Nat.le_of_ble_eq_true rfl) (Nat.le_refl _) (Nat.le_refl _) ?_
  refine c_shownCells ?_
  simp only [r_ior dX9_hiddenCells_11, r_iconst dX9_hiddenCells_12 kim1, r_ixor dX9_hiddenCells_13, r_iand dX9_hiddenCells_14, r_iret dX9_hiddenCells_15 (Nat.zero_le _) (Nat.zero_le _), List.cons_append, List.nil_append, Nat.reduceAdd, Option.toList, z0]
  exact hQ
theorem c_scClear (hP : SC hm p u A) (hQ : ∀ hm', SC hm' p (upd (upd (upd (upd u 0 0) 1 0) 2 0) 3 0) A → sm p (p + 11) hm hm' → Q none hm' hs) : CC X EV (d + 1) 63 [.ref p] hm hs Q := by
  refine c_of (ls2 := [.ref p]) Y63 (Nat.le_of_ble_eq_true rfl) rfl I63 ?_
  simp (disch := first | omega | (simp only [List.length_cons, List.length_nil]; omega)) only [r_al0 dX5_clear_0, r_iconst dX5_clear_1 ki0, r_putf dX5_clear_2 F5_9, r_al0 dX5_clear_5, r_iconst dX5_clear_6 ki0, r_putf dX5_clear_7 F5_15, r_al0 dX5_clear_10, r_iconst dX5_clear_11 ki0, r_putf dX5_clear_12 F5_18, r_al0 dX5_clear_15, r_iconst dX5_clear_16 ki0, r_putf dX5_clear_17 F5_21, r_vret dX5_clear_20 (Nat.zero_le _) (Nat.zero_le _), List.cons_append, List.nil_append, Nat.reduceAdd, Option.toList, fit_i, ft5_0, ft5_1, ft5_2, ft5_3, p5_0, p5_1, p5_2, p5_3, pk_un, pk_us, rd_up_eq, rd_up_ne, true_and, up_eq, up_ne, up_up, z0, hP.r, rd_own hP.r, hP.r, rd_own hP.r]
  exact hQ _ (hP.o _) (sm.rf.up (by omega))
theorem c_hasLetter {k : Int32} (hP : SC hm p u A) (hQ : Q (some (.int (if 0 ≤ k ∧ k < u 0 then 1 else 0))) hm hs) : CC X EV (d + 1) 64 [.ref p, .int k] hm hs Q := by
  refine c_of (ls2 := [.ref p, .int k]) Y64 (Nat.le_of_ble_eq_true rfl) rfl I64 ?_
  simp only [r_il1 dX5_hasLetter_0, r_if_lt (tgt := 16) dX5_hasLetter_1 rfl, r_il1 dX5_hasLetter_4, r_al0 dX5_hasLetter_5, r_getf dX5_hasLetter_6 F5_9, r_ic_ge (tgt := 16) dX5_hasLetter_9 rfl, r_iconst dX5_hasLetter_12 ki1, r_goto (tgt := 17) dX5_hasLetter_13 rfl, r_iconst dX5_hasLetter_16 ki0, r_zret0 dX5_hasLetter_17 (Nat.zero_le _) (Nat.zero_le _), r_zret1 dX5_hasLetter_17 (Nat.zero_le _) (Nat.zero_le _), r_zretc dX5_hasLetter_17 (Nat.zero_le _) (Nat.zero_le _), List.cons_append, List.nil_append, Nat.reduceAdd, Option.toList, g5_0, z0, rd_own hP.r]
  have hQ := zq hQ
  grind
theorem c_hasPlace {k : Int32} (hP : SC hm p u A) (hQ : Q (some (.int (if 0 ≤ k ∧ k < u 1 then 1 else 0))) hm hs) : CC X EV (d + 1) 65 [.ref p, .int k] hm hs Q := by
  refine c_of (ls2 := [.ref p, .int k]) Y65 (Nat.le_of_ble_eq_true rfl) rfl I65 ?_
  simp only [r_il1 dX5_hasPlace_0, r_if_lt (tgt := 16) dX5_hasPlace_1 rfl, r_il1 dX5_hasPlace_4, r_al0 dX5_hasPlace_5, r_getf dX5_hasPlace_6 F5_15, r_ic_ge (tgt := 16) dX5_hasPlace_9 rfl, r_iconst dX5_hasPlace_12 ki1, r_goto (tgt := 17) dX5_hasPlace_13 rfl, r_iconst dX5_hasPlace_16 ki0, r_zret0 dX5_hasPlace_17 (Nat.zero_le _) (Nat.zero_le _), r_zret1 dX5_hasPlace_17 (Nat.zero_le _) (Nat.zero_le _), r_zretc dX5_hasPlace_17 (Nat.zero_le _) (Nat.zero_le _), List.cons_append, List.nil_append, Nat.reduceAdd, Option.toList, g5_1, z0, rd_own hP.r]
  have hQ := zq hQ
  grind
theorem c_hasWord {k : Int32} (hP : SC hm p u A) (hQ : Q (some (.int (if 0 ≤ k ∧ k < u 2 then 1 else 0))) hm hs) : CC X EV (d + 1) 66 [.ref p, .int k] hm hs Q := by
  refine c_of (ls2 := [.ref p, .int k]) Y66 (Nat.le_of_ble_eq_true rfl) rfl I66 ?_
  simp only [r_il1 dX5_hasWord_0, r_if_lt (tgt := 16) dX5_hasWord_1 rfl, r_il1 dX5_hasWord_4, r_al0 dX5_hasWord_5, r_getf dX5_hasWord_6 F5_18, r_ic_ge (tgt := 16) dX5_hasWord_9 rfl, r_iconst dX5_hasWord_12 ki1, r_goto (tgt := 17) dX5_hasWord_13 rfl, r_iconst dX5_hasWord_16 ki0, r_zret0 dX5_hasWord_17 (Nat.zero_le _) (Nat.zero_le _), r_zret1 dX5_hasWord_17 (Nat.zero_le _) (Nat.zero_le _), r_zretc dX5_hasWord_17 (Nat.zero_le _) (Nat.zero_le _), List.cons_append, List.nil_append, Nat.reduceAdd, Option.toList, g5_2, z0, rd_own hP.r]
  have hQ := zq hQ
  grind
theorem c_hasRun {k : Int32} (hP : SC hm p u A) (hQ : Q (some (.int (if 0 ≤ k ∧ k < u 3 then 1 else 0))) hm hs) : CC X EV (d + 1) 67 [.ref p, .int k] hm hs Q := by
  refine c_of (ls2 := [.ref p, .int k]) Y67 (Nat.le_of_ble_eq_true rfl) rfl I67 ?_
  simp only [r_il1 dX5_hasRun_0, r_if_lt (tgt := 16) dX5_hasRun_1 rfl, r_il1 dX5_hasRun_4, r_al0 dX5_hasRun_5, r_getf dX5_hasRun_6 F5_21, r_ic_ge (tgt := 16) dX5_hasRun_9 rfl, r_iconst dX5_hasRun_12 ki1, r_goto (tgt := 17) dX5_hasRun_13 rfl, r_iconst dX5_hasRun_16 ki0, r_zret0 dX5_hasRun_17 (Nat.zero_le _) (Nat.zero_le _), r_zret1 dX5_hasRun_17 (Nat.zero_le _) (Nat.zero_le _), r_zretc dX5_hasRun_17 (Nat.zero_le _) (Nat.zero_le _), List.cons_append, List.nil_append, Nat.reduceAdd, Option.toList, g5_3, z0, rd_own hP.r]
  have hQ := zq hQ
  grind
theorem c_letterNamed {z : Int32} (hP : SC hm p u A) (hn : u 0 = nI n) (hn10 : n ≤ 10) (hQ : Q (some (.int (fst1 (fun k => A 4 k = z) n))) hm hs) : CC X EV (d + 1) 68 [.ref p, .int z] hm hs Q := by
  refine c_of (ls2 := [.ref p, .int z, .null]) Y68 (Nat.le_of_ble_eq_true rfl) rfl I68 ?_
  simp only [r_iconst dX5_letterNamed_0 ki0, r_is2 dX5_letterNamed_1, List.cons_append, List.nil_append, Nat.reduceAdd, Option.toList, cat_f, cat_i, cat_n, cat_r, eq_self, true_and, z0]
  suffices H : ∀ k, k ≤ n → (∀ j, j < k → ¬ A 4 j = z) → E1 X EV d 5 0 0 (some .int) false cX5_letterNamed Q 2 [.ref p, .int z, .int (nI k)] [] 0 0 hm hs from H 0 (Nat.zero_le n) (fun j hj => absurd hj (Nat.not_lt_zero j))
  refine up_loop n _ ?_ ?_
  · intro hw
    simp only [r_il2 dX5_letterNamed_2, r_al0 dX5_letterNamed_3, r_getf dX5_letterNamed_4 F5_9, r_ic_ge (tgt := 28) dX5_letterNamed_7 rfl, r_al0 dX5_letterNamed_10, r_getf dX5_letterNamed_11 F5_24, r_il2 dX5_letterNamed_14, r_iald dX5_letterNamed_15, r_il1 dX5_letterNamed_16, r_ic_ne (tgt := 22) dX5_letterNamed_17 rfl, r_il2 dX5_letterNamed_20, r_iret dX5_letterNamed_21 (Nat.zero_le _) (Nat.zero_le _), r_ii2 dX5_letterNamed_22 kn1, r_gotoB (tgt := 2) dX5_letterNamed_25 rfl, r_iconst dX5_letterNamed_28 kim1, r_iret dX5_letterNamed_29 (Nat.zero_le _) (Nat.zero_le _), List.cons_append, List.nil_append, Nat.reduceAdd, Option.toList, aI_ok, cat_f, cat_i, cat_n, cat_r, eq_self, g5_0, g5_4, true_and, z0, rd_own hP.r, hn]
    refine ⟨fun _ => ?_, fun h => absurd (Int32.le_refl _) h⟩
    rw [fst1_none hw] at hQ
    exact hQ
  · intro k hk ih hw
    simp only [r_il2 dX5_letterNamed_2, r_al0 dX5_letterNamed_3, r_getf dX5_letterNamed_4 F5_9, r_ic_ge (tgt := 28) dX5_letterNamed_7 rfl, r_al0 dX5_letterNamed_10, r_getf dX5_letterNamed_11 F5_24, r_il2 dX5_letterNamed_14, r_iald dX5_letterNamed_15, r_il1 dX5_letterNamed_16, r_ic_ne (tgt := 22) dX5_letterNamed_17 rfl, r_il2 dX5_letterNamed_20, r_iret dX5_letterNamed_21 (Nat.zero_le _) (Nat.zero_le _), r_ii2 dX5_letterNamed_22 kn1, r_gotoB (tgt := 2) dX5_letterNamed_25 rfl, r_iconst dX5_letterNamed_28 kim1, r_iret dX5_letterNamed_29 (Nat.zero_le _) (Nat.zero_le _), List.cons_append, List.nil_append, Nat.reduceAdd, Option.toList, aI_ok, cat_f, cat_i, cat_n, cat_r, eq_self, g5_0, g5_4, true_and, z0, rd_own hP.r, rd_own hP.r4, hn]
    simp (disch := omega) only [E2, nI_1, nI_add, nI_leI, nI_ltI, nI_eq, nI_clamp]
    refine ⟨fun h => absurd h (by omega), fun _ => ⟨vp_in_nI (by omega) (by omega), fun h => ih (fun j hj => ?_), fun h => ?_⟩⟩
    · rcases Nat.lt_or_ge j k with h' | h'
      · exact hw j h'
      · rw [show j = k by omega]; exact h
    · rw [fst1_some (by omega) hk (Classical.not_not.mp h) hw] at hQ
      exact hQ
theorem c_letterOf {w i : Nat} (hP : SC hm p u A) (hw : w < 12) (hi : i < 6) (hQ : Q (some (.int (A 11 (6 * w + i)))) hm hs) : CC X EV (d + 1) 73 [.ref p, .int (nI w), .int (nI i)] hm hs Q := by
  have e : nI w * 6 + nI i = nI (6 * w + i) := by rw [show (6 : Int32) = nI 6 from rfl, pk_mul, nI_add, Nat.mul_comm]
  refine c_of (ls2 := [.ref p, .int (nI w), .int (nI i)]) Y73 (Nat.le_of_ble_eq_true rfl) rfl I73 ?_
  simp only [r_al0 dX5_letterOf_0, r_getf dX5_letterOf_1 F5_46, r_il1 dX5_letterOf_4, r_bipush dX5_letterOf_5 kb6, r_imul dX5_letterOf_7, r_il2 dX5_letterOf_8, r_iadd dX5_letterOf_9, r_iald dX5_letterOf_10, r_iret dX5_letterOf_11 (Nat.zero_le _) (Nat.zero_le _), List.cons_append, List.nil_append, Nat.reduceAdd, Option.toList, aI_ok, g5_11, z0, rd_own hP.r, rd_own hP.r11, e, nI_clamp (show 6 * w + i < 2 ^ 31 by omega)]
  exact ⟨vp_in_nI (by omega) (by omega), hQ⟩
theorem c_lettersThatFit {k : Int32} (hP : SC hm p u A) (hn : u 0 = nI n) (hn10 : n ≤ 10) (hQ : Q (some (.int (fitv (A 5) k n))) hm hs) : CC X EV (d + 2) 74 [.ref p, .int k] hm hs Q := by
  refine c_of (ls2 := [.ref p, .int k, .null, .null, .null, .null]) Y74 (Nat.le_of_ble_eq_true rfl) rfl I74 ?_
  simp only [r_il1 dX5_lettersThatFit_0, List.cons_append, List.nil_append, Nat.reduceAdd, Option.toList, z0]
  refine r_itn1 dX5_lettersThatFit_1 M5_55 Y131 (Nat.le_of_ble_eq_true rfl) (Nat.le_refl _) (Nat.le_refl _) ?_
  refine c_emptyCells ?_
  simp only [r_is2 dX5_lettersThatFit_4, r_il1 dX5_lettersThatFit_5, List.cons_append, List.nil_append, Nat.reduceAdd, Option.toList, cat_f, cat_i, cat_n, cat_r, eq_self, true_and, z0]
  refine r_itn1 dX5_lettersThatFit_6 M5_59 Y132 (Nat.le_of_ble_eq_true rfl) (Nat.le_refl _) (Nat.le_refl _) ?_
  refine c_shownCells ?_
  simp only [r_is3 dX5_lettersThatFit_9, r_iconst dX5_lettersThatFit_10 ki0, r_is4 dX5_lettersThatFit_11, r_iconst dX5_lettersThatFit_13 ki0, r_is5 dX5_lettersThatFit_14, List.cons_append, List.nil_append, Nat.reduceAdd, Option.toList, cat_f, cat_i, cat_n, cat_r, eq_self, true_and, z0]
  refine up_loop n (fun j => E1 X EV (d + 1) 5 0 0 (some .int) false cX5_lettersThatFit Q 16 [.ref p, .int k, .int (emv k), .int (shv k), .int (fitv (A 5) k j), .int (nI j)] [] 0 0 hm hs) ?_ ?_ 0 (Nat.zero_le n)
  · skip
    simp only [r_il5 dX5_lettersThatFit_16, r_al0 dX5_lettersThatFit_18, r_getf dX5_lettersThatFit_19 F5_9, r_ic_ge (tgt := 66) dX5_lettersThatFit_22 rfl, r_al0 dX5_lettersThatFit_25, r_getf dX5_lettersThatFit_26 F5_28, r_il5 dX5_lettersThatFit_29, r_iald dX5_lettersThatFit_31, r_il2 dX5_lettersThatFit_32, r_iand dX5_lettersThatFit_33, r_if_ne (tgt := 60) dX5_lettersThatFit_34 rfl, r_il3 dX5_lettersThatFit_37, r_al0 dX5_lettersThatFit_38, r_getf dX5_lettersThatFit_39 F5_28, r_il5 dX5_lettersThatFit_42, r_iald dX5_lettersThatFit_44, r_iconst dX5_lettersThatFit_45 kim1, r_ixor dX5_lettersThatFit_46, r_iand dX5_lettersThatFit_47, r_if_ne (tgt := 60) dX5_lettersThatFit_48 rfl, r_il4 dX5_lettersThatFit_51, r_iconst dX5_lettersThatFit_53 ki1, r_il5 dX5_lettersThatFit_54, r_ishl dX5_lettersThatFit_56, r_ior dX5_lettersThatFit_57, r_is4 dX5_lettersThatFit_58, r_ii5 dX5_lettersThatFit_60 kn1, r_gotoB (tgt := 16) dX5_lettersThatFit_63 rfl, r_il4 dX5_lettersThatFit_66, r_iret dX5_lettersThatFit_68 (Nat.zero_le _) (Nat.zero_le _), List.cons_append, List.nil_append, Nat.reduceAdd, Option.toList, aI_ok, cat_f, cat_i, cat_n, cat_r, eq_self, g5_0, g5_5, true_and, z0, rd_own hP.r, hn]
    exact ⟨fun _ => hQ, fun h => absurd (Int32.le_refl _) h⟩
  · intro j hj ih
    simp only [r_il5 dX5_lettersThatFit_16, r_al0 dX5_lettersThatFit_18, r_getf dX5_lettersThatFit_19 F5_9, r_ic_ge (tgt := 66) dX5_lettersThatFit_22 rfl, r_al0 dX5_lettersThatFit_25, r_getf dX5_lettersThatFit_26 F5_28, r_il5 dX5_lettersThatFit_29, r_iald dX5_lettersThatFit_31, r_il2 dX5_lettersThatFit_32, r_iand dX5_lettersThatFit_33, r_if_ne (tgt := 60) dX5_lettersThatFit_34 rfl, r_il3 dX5_lettersThatFit_37, r_al0 dX5_lettersThatFit_38, r_getf dX5_lettersThatFit_39 F5_28, r_il5 dX5_lettersThatFit_42, r_iald dX5_lettersThatFit_44, r_iconst dX5_lettersThatFit_45 kim1, r_ixor dX5_lettersThatFit_46, r_iand dX5_lettersThatFit_47, r_if_ne (tgt := 60) dX5_lettersThatFit_48 rfl, r_il4 dX5_lettersThatFit_51, r_iconst dX5_lettersThatFit_53 ki1, r_il5 dX5_lettersThatFit_54, r_ishl dX5_lettersThatFit_56, r_ior dX5_lettersThatFit_57, r_is4 dX5_lettersThatFit_58, r_ii5 dX5_lettersThatFit_60 kn1, r_gotoB (tgt := 16) dX5_lettersThatFit_63 rfl, r_il4 dX5_lettersThatFit_66, r_iret dX5_lettersThatFit_68 (Nat.zero_le _) (Nat.zero_le _), List.cons_append, List.nil_append, Nat.reduceAdd, Option.toList, aI_ok, cat_f, cat_i, cat_n, cat_r, eq_self, g5_0, g5_5, true_and, z0, rd_own hP.r, rd_own hP.r5, hn]
    simp (disch := omega) only [E2, nI_1, nI_add, nI_leI, nI_ltI, nI_eq, nI_clamp]
    have h1 := vp_in_nI (show j < 10 by omega) (by omega)
    unfold fitv acc sb at ih
    unfold fitv
    grind
end S1
