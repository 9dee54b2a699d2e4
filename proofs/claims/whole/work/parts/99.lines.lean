/-! ===== what a line says, and how the model reads it ===== -/
abbrev OR : Type := Option ((Nat → Int32) × Nat × Nat × Nat)
abbrev OU : Type := (Nat × (Nat → Int32)) ⊕ (Nat × Nat × OR)
abbrev oOk (q : Nat) (S : Nat → Int32) : OU := .inl (q, S)
abbrev oNo (f at' : Nat) (rg : OR) : OU := .inr (f, at', rg)
def BHand (T : Nat → Int32) (e bg q : Nat) (S : Nat → Int32) (n : Nat) (o : OU) : Prop := ∃ st1 q1 v1 f1, nmO T e q 0 (nI n - 1) st1 q1 v1 f1 ∧ ((f1 ≠ 0 ∧ o = oNo f1 st1 none) ∨ (f1 = 0 ∧ ∃ i st2 q2 v2 f2, i < n ∧ v1 = nI i ∧ nmO T e q1 0 1 st2 q2 v2 f2 ∧
  ((f2 ≠ 0 ∧ o = oNo f2 st2 none) ∨ (f2 = 0 ∧ ((wyM (upd S (183 + i) (v2 + 1)) n = 0 ∧ o = oNo 6 bg none) ∨ (¬ wyM (upd S (183 + i) (v2 + 1)) n = 0 ∧ o = oOk q2 (upd S (183 + i) (v2 + 1))))))))
def BOver (T : Nat → Int32) (e bg q : Nat) (S : Nat → Int32) (L : Nat → Nat) (n : Nat) (o : OU) : Prop := ∃ st1 q1 v1 f1, nmO T e q 0 (nI n - 1) st1 q1 v1 f1 ∧ ((f1 ≠ 0 ∧ o = oNo f1 st1 none) ∨ (f1 = 0 ∧ ∃ i st2 q2 v2 f2, i < n ∧ v1 = nI i ∧ nmO T e q1 0 (nI n - 1) st2 q2 v2 f2 ∧
  ((f2 ≠ 0 ∧ o = oNo f2 st2 none) ∨ (f2 = 0 ∧ ∃ j, j < n ∧ v2 = nI j ∧ ((¬ ((i ≠ j ∧ cmn S L i j ≠ -1) ∧ ¬ bt (S (195 + i)) j = true) ∧ o = oNo 3 st2 none) ∨ (((i ≠ j ∧ cmn S L i j ≠ -1) ∧ ¬ bt (S (195 + i)) j = true) ∧
    ((bt (cl S n j) i = true ∧ o = oNo 5 bg (some (S, n, i, j))) ∨ (¬ bt (cl S n j) i = true ∧ ((wyM (tldM S i j) n = 0 ∧ o = oNo 6 bg none) ∨ (¬ wyM (tldM S i j) n = 0 ∧ o = oOk q2 (tldM S i j)))))))))))
/-- what a line may change of the model -/
def KL (u u' : Nat → Int32) (A A' : Nat → Nat → Int32) : Prop := (u' 3 = u 3 ∧ u' 6 = u 6 ∧ u' 7 = u 7 ∧ u' 12 = u 12) ∧ A' 1 = A 1 ∧ A' 2 = A 2 ∧ A' 5 = A 5 ∧ A' 24 = A 24 ∧ A' 25 = A 25 ∧ A' 26 = A 26
def RK (rg : OR) (u u' : Nat → Int32) (A A' : Nat → Nat → Int32) : Prop := match rg with
  | none => u' 18 = u 18 ∧ A' 16 = A 16
  | some (S, n, i, j) => ∃ D, D = dsf S n i j ∧ 1 ≤ D ∧ D ≤ 11 ∧ u' 18 = nI (D + 1) ∧ RGM S n (dsf S n i) i j D (A' 16)
def RO (o : OU) (u u' : Nat → Int32) (A A' : Nat → Nat → Int32) : Prop := match o with
  | .inl (q, S) => u' 9 = 0 ∧ u' 10 = u 10 ∧ u' 8 = nI q ∧ A' 0 = S ∧ RK none u u' A A'
  | .inr (f, at', rg) => u' 9 = nI f ∧ u' 10 = nI at' ∧ RK rg u u' A A'
theorem nm_f {T : Nat → Int32} {e q st q' f : Nat} {lo hi v : Int32} (h : nmO T e q lo hi st q' v f) : f < 3 := by
  rcases h.2 with ⟨h, -⟩ | ⟨-, -, -, -, ⟨h, -⟩ | ⟨h, -⟩⟩ <;> omega
theorem nm_q {T : Nat → Int32} {e q st q' : Nat} {lo hi v : Int32} (h : nmO T e q lo hi st q' v 0) : q' ≤ e := nmO_le h
theorem nI_f {f : Nat} (h : f < 3) (h0 : f ≠ 0) : ¬ nI f = 0 := fun z => h0 ((nI_eq (b := 0) (by omega) (by omega)).mp z)
section MC
variable {X : HM} {EV : Nat → Value} {d : Nat} {hm : HM} {hs : Nat} {Q : QT} {m n : Nat} {u : Nat → Int32} {A : Nat → Nat → Int32} {R : Nat → Int64} {e q bg : Nat} {o : OU}
theorem KS.kl {u u' : Nat → Int32} {A : Nat → Nat → Int32} (k : KS u u') : KL u u' A A := ⟨⟨k 3 (by decide) (by decide) (by decide) (by decide), k 6 (by decide) (by decide) (by decide) (by decide), k 7 (by decide) (by decide) (by decide) (by decide), k 12 (by decide) (by decide) (by decide) (by decide)⟩, rfl, rfl, rfl, rfl, rfl, rfl⟩
theorem KL.trans {u u' u2 : Nat → Int32} {A A' A2 : Nat → Nat → Int32} (a : KL u u' A A') (b : KL u' u2 A' A2) : KL u u2 A A2 :=
  ⟨⟨b.1.1.trans a.1.1, b.1.2.1.trans a.1.2.1, b.1.2.2.1.trans a.1.2.2.1, b.1.2.2.2.trans a.1.2.2.2⟩, b.2.1.trans a.2.1, b.2.2.1.trans a.2.2.1, b.2.2.2.1.trans a.2.2.2.1, b.2.2.2.2.1.trans a.2.2.2.2.1, b.2.2.2.2.2.1.trans a.2.2.2.2.2.1, b.2.2.2.2.2.2.trans a.2.2.2.2.2.2⟩
theorem KS.r18 {u u' : Nat → Int32} (k : KS u u') : u' 18 = u 18 := k 18 (by decide) (by decide) (by decide) (by decide)
theorem m_handRead (hM : MO hm m u A R) (hB : BY (A 5) e) (e7 : u 7 = nI e) (he : e ≤ 900) (e8 : u 8 = nI q) (hq : q ≤ e) (h9 : u 9 = 0) (hn : A 0 2 = nI n) (hn12 : n ≤ 12) (h : BHand (A 5) e bg q (A 0) n o)
    (hQ : ∀ hm' u' A', MO hm' m u' A' R → KL u u' A A' → RO o u u' A A' → sm m (m + 16) hm hm' → Q none hm' hs) : CC X EV (d + 4) 174 [.ref m, .int (nI bg)] hm hs Q := by
  obtain ⟨st1, q1, v1, f1, hn1, h⟩ := h
  have l1 := nm_f hn1
  refine c_of (ls2 := [.ref m, .int (nI bg), .null, .null]) Y174 (Nat.le_of_ble_eq_true rfl) rfl I174 ?_
  simp only [r_al0 dX10_handRead_0, r_iconst dX10_handRead_1 ki0, r_al0 dX10_handRead_2, r_getf dX10_handRead_3 F10_13, r_iconst dX10_handRead_6 ki2, r_iald dX10_handRead_7, r_iconst dX10_handRead_8 ki1, r_isub dX10_handRead_9, List.cons_append, List.nil_append, Nat.reduceAdd, Option.toList, aI_ok, g10_0, z0, hM.r, rd_own hM.r, hM.r0, rd_own hM.r0, vs2, ck2, hn, true_and]
  refine r_iv3 dX10_handRead_10 M10_135 Y166 O166 (Nat.le_of_ble_eq_true rfl) (rcv_own hM.r) (Nat.le_refl _) (Nat.le_refl _) ?_
  refine m_numeral hM hB e7 he e8 hq h9 (by decide) hn1 (fun hm1 u1 hM1 ks1 g9 g0 gf s1 => ?_)
  have r7 : u1 7 = nI e := (ks1 7 (by decide) (by decide) (by decide) (by decide)).trans e7
  rcases h with ⟨hf, ho⟩ | ⟨hf, i, st2, q2, v2, f2, hi, ev1, hn2, h⟩
  · rw [if_neg hf]
    simp only [r_is2 dX10_handRead_13, r_al0 dX10_handRead_14, r_iconst dX10_handRead_15 ki0, r_iconst dX10_handRead_16 ki1, List.cons_append, List.nil_append, Nat.reduceAdd, Option.toList, cat_f, cat_i, cat_n, cat_r, eq_self, true_and, z0]
    refine r_iv3 dX10_handRead_17 M10_135 Y166 O166 (Nat.le_of_ble_eq_true rfl) (rcv_own hM1.r) (Nat.le_refl _) (Nat.le_refl _) ?_
    refine m_numeralw hM1 (by rw [g9]; exact nI_f l1 hf) ?_
    simp (disch := first | omega | (simp only [List.length_cons, List.length_nil]; omega)) only [r_is3 dX10_handRead_20, r_al0 dX10_handRead_21, r_getf dX10_handRead_22 F10_76, r_if_eq (tgt := 29) dX10_handRead_25 rfl, r_vret dX10_handRead_28 (Nat.zero_le _) (Nat.zero_le _), r_al0 dX10_handRead_29, r_getf dX10_handRead_30 F10_13, r_sipush dX10_handRead_33 ks183, r_il2 dX10_handRead_36, r_iadd dX10_handRead_37, r_il3 dX10_handRead_38, r_iconst dX10_handRead_39 ki1, r_iadd dX10_handRead_40, r_iast dX10_handRead_41, r_al0 dX10_handRead_42, List.cons_append, List.nil_append, Nat.reduceAdd, Option.toList, cat_f, cat_i, cat_n, cat_r, eq_self, g10_0, g10_9, pk_un, pk_us, rd_up_eq, rd_up_ne, sI_ok, true_and, up_eq, up_ne, up_up, z0, hM1.r, rd_own hM1.r, hM1.r, rd_own hM1.r, g9]
    refine ⟨fun z => absurd z (nI_f l1 hf), fun _ => ?_⟩
    exact hQ hm1 u1 A hM1 ks1.kl (by rw [ho]; exact ⟨g9, gf hf, ks1.r18, rfl⟩) s1
  · subst hf
    obtain ⟨g8, g11, g10⟩ := g0 rfl
    have l2 := nm_f hn2
    rw [if_pos rfl]
    simp only [r_is2 dX10_handRead_13, r_al0 dX10_handRead_14, r_iconst dX10_handRead_15 ki0, r_iconst dX10_handRead_16 ki1, List.cons_append, List.nil_append, Nat.reduceAdd, Option.toList, cat_f, cat_i, cat_n, cat_r, eq_self, true_and, z0]
    refine r_iv3 dX10_handRead_17 M10_135 Y166 O166 (Nat.le_of_ble_eq_true rfl) (rcv_own hM1.r) (Nat.le_refl _) (Nat.le_refl _) ?_
    refine m_numeral hM1 hB r7 he g8 (nm_q hn1) g9 (by decide) hn2 (fun hm2 u2 hM2 ks2 w9 w0 wf s2 => ?_)
    rcases h with ⟨hf, ho⟩ | ⟨hf, h⟩
    · rw [if_neg hf]
      simp (disch := first | omega | (simp only [List.length_cons, List.length_nil]; omega)) only [r_is3 dX10_handRead_20, r_al0 dX10_handRead_21, r_getf dX10_handRead_22 F10_76, r_if_eq (tgt := 29) dX10_handRead_25 rfl, r_vret dX10_handRead_28 (Nat.zero_le _) (Nat.zero_le _), r_al0 dX10_handRead_29, r_getf dX10_handRead_30 F10_13, r_sipush dX10_handRead_33 ks183, r_il2 dX10_handRead_36, r_iadd dX10_handRead_37, r_il3 dX10_handRead_38, r_iconst dX10_handRead_39 ki1, r_iadd dX10_handRead_40, r_iast dX10_handRead_41, r_al0 dX10_handRead_42, List.cons_append, List.nil_append, Nat.reduceAdd, Option.toList, cat_f, cat_i, cat_n, cat_r, eq_self, g10_0, g10_9, pk_un, pk_us, rd_up_eq, rd_up_ne, sI_ok, true_and, up_eq, up_ne, up_up, z0, hM2.r, rd_own hM2.r, hM2.r, rd_own hM2.r, w9]
      refine ⟨fun z => absurd z (nI_f l2 hf), fun _ => ?_⟩
      exact hQ hm2 u2 A hM2 (ks1.trans ks2).kl (by rw [ho]; exact ⟨w9, wf hf, (ks1.trans ks2).r18, rfl⟩) (s1.trans s2)
    · subst hf
      obtain ⟨w8, w11, w10⟩ := w0 rfl
      rw [if_pos rfl, ev1]
      simp (disch := first | omega | (simp only [List.length_cons, List.length_nil]; omega)) only [r_is3 dX10_handRead_20, r_al0 dX10_handRead_21, r_getf dX10_handRead_22 F10_76, r_if_eq (tgt := 29) dX10_handRead_25 rfl, r_vret dX10_handRead_28 (Nat.zero_le _) (Nat.zero_le _), r_al0 dX10_handRead_29, r_getf dX10_handRead_30 F10_13, r_sipush dX10_handRead_33 ks183, r_il2 dX10_handRead_36, r_iadd dX10_handRead_37, r_il3 dX10_handRead_38, r_iconst dX10_handRead_39 ki1, r_iadd dX10_handRead_40, r_iast dX10_handRead_41, r_al0 dX10_handRead_42, List.cons_append, List.nil_append, Nat.reduceAdd, Option.toList, cat_f, cat_i, cat_n, cat_r, eq_self, g10_0, g10_9, pk_un, pk_us, rd_up_eq, rd_up_ne, sI_ok, true_and, up_eq, up_ne, up_up, z0, hM2.r, rd_own hM2.r, hM2.r0, rd_own hM2.r0, w9, s183, nI_clamp (show 183 + i < 2 ^ 31 by omega)]
      refine ⟨fun _ => ⟨vp_in_nI (by omega) (by omega), ?_⟩, fun z => absurd rfl z⟩
      have hM3 := hM2.w0 (upd (A 0) (183 + i) (v2 + 1))
      have hn' : upd (A 0) (183 + i) (v2 + 1) 2 = nI n := by rw [pk_un (by omega)]; exact hn
      generalize hS' : upd (A 0) (183 + i) (v2 + 1) = S' at *
      refine r_iv1 dX10_handRead_43 M10_169 Y189 O189 (Nat.le_of_ble_eq_true rfl) (rcv_own hM3.r) (Nat.le_refl _) (Nat.le_refl _) ?_
      refine m_laysOver hM3 (n := n) hn' hn12 (fun hm4 hM4 s4 => ?_)
      simp only [r_al0 dX10_handRead_46, List.cons_append, List.nil_append, Nat.reduceAdd, Option.toList, z0]
      refine r_iv1 dX10_handRead_47 M10_172 Y190 O190 (Nat.le_of_ble_eq_true rfl) (rcv_own hM4.r) (Nat.le_refl _) (Nat.le_refl _) ?_
      refine m_laysWays hM4 (n := n) hn' hn12 (fun hm5 f5 hM5 _ _ s5 => ?_)
      have ew : wcn (wyP ((va_up (va_up A 0 S') 13 (wsm n (fun k => if k < n then (va_up A 0 S') 0 (195 + k) else (va_up A 0 S') 13 k) n)) 0) ((va_up (va_up A 0 S') 13 (wsm n (fun k => if k < n then (va_up A 0 S') 0 (195 + k) else (va_up A 0 S') 13 k) n)) 13) n) (2 ^ n) = wyM S' n := wyN_cl (S := S') (o := A 13) (n := n)
      have ewl : wyM S' n ≤ 2 ^ n := wcn_le _ _
      have h12 : 2 ^ n ≤ 2 ^ 12 := Nat.pow_le_pow_right (by omega) hn12
      rw [ew] at hM5 ⊢
      have kl : KL u (upd u2 15 (nI (wyM S' n))) A (va_up (va_up (va_up A 0 S') 13 (wsm n (fun k => if k < n then (va_up A 0 S') 0 (195 + k) else (va_up A 0 S') 13 k) n)) 14 f5) := (ks1.trans ks2).kl (A := A)
      have r18 : u2 18 = u 18 := (ks1.trans ks2).r18
      have s15 : sm m (m + 16) hm hm5 := (((s1.trans s2).up (by omega)).trans s4).trans s5
      rcases h with ⟨hw, ho⟩ | ⟨hw, ho⟩
      · rw [hw]
        simp only [r_if_ne (tgt := 60) dX10_handRead_50 rfl, r_al0 dX10_handRead_53, r_bipush dX10_handRead_54 kb6, r_il1 dX10_handRead_56, r_vret dX10_handRead_60 (Nat.zero_le _) (Nat.zero_le _), List.cons_append, List.nil_append, Nat.reduceAdd, Option.toList, z0]
        refine ⟨fun z => absurd rfl z, fun _ => ?_⟩
        refine r_iv3 dX10_handRead_57 M10_116 Y161 O161 (Nat.le_of_ble_eq_true rfl) (rcv_own hM5.r) (Nat.le_refl _) (Nat.le_refl _) ?_
        refine m_fails hM5 (fun z => absurd w9 z) (fun _ hm6 hM6 s6 => ?_)
        simp only [r_vret dX10_handRead_60 (Nat.zero_le _) (Nat.zero_le _), List.cons_append, List.nil_append, Nat.reduceAdd, Option.toList, z0]
        exact hQ hm6 _ _ hM6 kl (by rw [ho]; exact ⟨rfl, rfl, r18, rfl⟩) (s15.trans s6)
      · skip
        simp only [r_if_ne (tgt := 60) dX10_handRead_50 rfl, r_al0 dX10_handRead_53, r_bipush dX10_handRead_54 kb6, r_il1 dX10_handRead_56, r_vret dX10_handRead_60 (Nat.zero_le _) (Nat.zero_le _), List.cons_append, List.nil_append, Nat.reduceAdd, Option.toList, z0]
        exact ⟨fun _ => hQ hm5 _ _ hM5 kl (by rw [ho]; exact ⟨w9, w10.trans g10, w8, rfl, r18, rfl⟩) s15, fun z => absurd (fun y => hw ((nI_eq (b := 0) (by omega) (by omega)).mp y)) z⟩
end MC
