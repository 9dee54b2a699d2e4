def lnkA (n i j : Nat) (A : Nat → Nat → Int32) : Nat → Nat → Int32 := va_up (va_up (va_up A 11 (upd (A 11) i (A 11 i ||| sb j))) 12 (chs n i j (A 12, A 13)).1) 13 (chs n i j (A 12, A 13)).2
def unlA (n i j : Nat) (A : Nat → Nat → Int32) : Nat → Nat → Int32 := va_up (va_up (va_up A 11 (upd (A 11) i (A 11 i &&& (sb j ^^^ (-1))))) 12 (cha n (upd (A 11) i (A 11 i &&& (sb j ^^^ (-1)))) n (fun k => if k < n then 0 else A 12 k, fun k => if k < n then 0 else A 13 k)).1) 13 (cha n (upd (A 11) i (A 11 i &&& (sb j ^^^ (-1)))) n (fun k => if k < n then 0 else A 12 k, fun k => if k < n then 0 else A 13 k)).2
theorem up3_eq {A A' : Nat → Nat → Int32} {x y z : Nat → Int32} (h : ∀ s, s ≠ 11 → s ≠ 12 → s ≠ 13 → A' s = A s) (h1 : A' 11 = x) (h2 : A' 12 = y) (h3 : A' 13 = z) : A' = va_up (va_up (va_up A 11 x) 12 y) 13 z := by
  funext s
  by_cases e3 : s = 13
  · rw [e3, vu_eq, h3]
  · rw [vu_ne e3]
    by_cases e2 : s = 12
    · rw [e2, vu_eq, h2]
    · rw [vu_ne e2]
      by_cases e1 : s = 11
      · rw [e1, vu_eq, h1]
      · rw [vu_ne e1]; exact h s e1 e2 e3
def refV (u : Nat → Int32) (A : Nat → Nat → Int32) (n : Nat) (a b : Int32) : Int32 :=
  if ¬ ((0 ≤ a ∧ a < nI n) ∧ (0 ≤ b ∧ b < nI n)) then -2 else if ¬ (a.toNatClampNeg ≠ b.toNatClampNeg ∧ bt (A 10 a.toNatClampNeg) b.toNatClampNeg = true ∧ bt (A 11 a.toNatClampNeg) b.toNatClampNeg = false) then -5 else if bt (A 12 b.toNatClampNeg) a.toNatClampNeg = true then -105
  else if ¬ u 4 &&& (A 13 a.toNatClampNeg ||| sb a.toNatClampNeg) = 0 ∧ ¬ u 5 &&& (A 12 b.toNatClampNeg ||| sb b.toNatClampNeg) = 0 then -9 else 0
abbrev MS : Type := (Nat → Int32) × (Nat → Nat → Int32) × Int32
def mnd (n : Nat) (N : Nat → Int32) : Nat → MS → MS
  | 0, s => s
  | k + 1, s => if refV (mnd n N k s).1 (mnd n N k s).2.1 n (N (2 * k)) (N (2 * k + 1)) = 0 then (upd (mnd n N k s).1 3 ((mnd n N k s).1 3 + 1), lnkA n (N (2 * k)).toNatClampNeg (N (2 * k + 1)).toNatClampNeg (mnd n N k s).2.1, (mnd n N k s).2.2) else ((mnd n N k s).1, (mnd n N k s).2.1, (mnd n N k s).2.2 ||| sb k)
def acU (u : Nat → Int32) (z m : Nat) : Nat → Int32 := upd (upd u 1 (nI ((z + 1) % 12))) 0 (nI (min (m + 1) 12))
def acA (A : Nat → Nat → Int32) (z : Nat) (k a b : Int32) : Nat → Nat → Int32 := va_up (va_up (va_up A 2 (upd (A 2) z k)) 3 (upd (A 3) z a)) 4 (upd (A 4) z b)
section Q8
variable {X : HM} {EV : Nat → Value} {d : Nat} {hm : HM} {hs : Nat} {Q : QT} {t pa pb qa qb : Nat} {V : Nat → Nat → Int32} {AA : Nat → Nat → Nat → Int32} {R : Nat → Int64} {B n w h nl np nw nr : Nat} {p : Nat} {u : Nat → Int32} {A : Nat → Nat → Int32}
theorem c_link2 {i j : Nat} (hP : PG hm p u A) (hn : u 2 = nI n) (hn12 : n ≤ 12) (hi : i < 12) (hj : j < 12) (hQ : ∀ hm', PG hm' p (upd u 3 (u 3 + 1)) (lnkA n i j A) → sm p (p + 10) hm hm' → Q none hm' hs) : CC X EV (d + 2) 19 [.ref p, .int (nI i), .int (nI j)] hm hs Q := by
  refine c_link hP hn hn12 hi hj (fun hm' A' hP' h1 h2 h3 h4 => hQ hm' ?_ h4)
  have e : A' = lnkA n i j A := up3_eq h1 h2 (congrArg Prod.fst h3) (congrArg Prod.snd h3)
  rw [← e]; exact hP'
theorem c_unlink2 {i j : Nat} (hP : PG hm p u A) (hn : u 2 = nI n) (hn12 : n ≤ 12) (hi : i < 12) (hj : j < 12) (hQ : ∀ hm', PG hm' p (upd u 3 (u 3 - 1)) (unlA n i j A) → sm p (p + 10) hm hm' → Q none hm' hs) : CC X EV (d + 2) 20 [.ref p, .int (nI i), .int (nI j)] hm hs Q := by
  refine c_unlink hP hn hn12 hi hj (fun hm' A' hP' h1 h2 h3 h4 => hQ hm' ?_ h4)
  have e : A' = unlA n i j A := up3_eq h1 h2 (congrArg Prod.fst h3) (congrArg Prod.snd h3)
  rw [← e]; exact hP'
theorem c_refusal {a b : Int32} (hP : PG hm p u A) (hn : u 2 = nI n) (hn12 : n ≤ 12) (hQ : Q (some (.int (refV u A n a b))) hm hs) : CC X EV (d + 3) 110 [.ref p, .int a, .int b] hm hs Q := by
  unfold refV at hQ
  refine c_refusalOf hP hn hn12 (fun h => ?_) (fun i j hi hj ea eb => ?_)
  · rw [if_pos h] at hQ; exact hQ
  · subst ea; subst eb
    rw [if_neg (fun z => z ⟨ix2 (by omega) hi, ix2 (by omega) hj⟩), nI_clamp (by omega), nI_clamp (by omega)] at hQ
    exact hQ
theorem refV0 {a b : Int32} (h : ¬ refV u A n a b = -2) (hn : n ≤ 12) : ∃ i j, i < n ∧ j < n ∧ a = nI i ∧ b = nI j := by
  by_cases h2 : (0 ≤ a ∧ a < nI n) ∧ (0 ≤ b ∧ b < nI n)
  · obtain ⟨i, hi, e⟩ := ix (by omega) h2.1
    obtain ⟨j, hj, e2⟩ := ix (by omega) h2.2
    exact ⟨i, j, hi, hj, e, e2⟩
  · exact absurd (if_pos h2) h
theorem c_over {a b : Int32} {z m : Nat} (hW : TW hm t pa pb qa qb V AA R) (e2 : V 0 2 = nI n) (l2 : n ≤ 12) (ez : V 6 1 = nI z) (hz : z < 12) (em : V 6 0 = nI m) (hm12 : m ≤ 12)
    (h0 : ¬ refV (V 0) (AA 0) n a b = -105 → ¬ refV (V 0) (AA 0) n a b = 0 → Q (some (.int (refV (V 0) (AA 0) n a b))) hm hs)
    (h1 : refV (V 0) (AA 0) n a b = -105 → ∀ i j, i < n → j < n → a = nI i → b = nI j → ∀ hm' A' far m (c : Nat → Nat), TW hm' t pa pb qa qb (va_up V 5 (upd (V 5) 0 (nI (m + 2)))) (va_up AA 5 A') R → far ≤ 11 → (∀ x, x < far → bt (stp (AA 0 11) n i x).2 j = false) → (far = 11 ∨ bt (stp (AA 0 11) n i far).2 j = true) →
      A' 1 0 = nI i → (∀ x, x ≤ m → c x < 12 ∧ A' 1 (x + 1) = nI (c x)) → c 0 = j → m ≤ far - 1 → (∀ x, x < m → AA 0 11 (c x) &&& (stp (AA 0 11) n i (far - 1 - x)).1 ≠ 0 ∧ c (x + 1) = fstN (fun k => bt (AA 0 11 (c x) &&& (stp (AA 0 11) n i (far - 1 - x)).1) k = true) 12) →
      (m < far - 1 → AA 0 11 (c m) &&& (stp (AA 0 11) n i (far - 1 - m)).1 = 0) → sm t (t + 70) hm hm' → Q (some (.int (-5))) hm' hs)
    (h2 : refV (V 0) (AA 0) n a b = 0 → ∀ i j, i < n → j < n → a = nI i → b = nI j → ∀ hm' V' AA', TW hm' t pa pb qa qb V' AA' R → V' 0 = upd (V 0) 3 (V 0 3 + 1) → AA' 0 = lnkA n i j (AA 0) → V' 6 = acU (V 6) z m → AA' 6 = acA (AA 6) z 0 a b → V' 7 = upd (upd (V 7) 0 1) 1 1 → AA' 7 = AA 7 → V' 8 = upd (V 8) 0 1 → AA' 8 = AA 8 → (∀ k, k ≠ 0 → k ≠ 6 → k ≠ 7 → k ≠ 8 → V' k = V k ∧ AA' k = AA k) → sm t (t + 70) hm hm' → Q (some (.int (V 0 3 + 1))) hm' hs) :
    CC X EV (d + 4) 104 [.ref t, .int a, .int b] hm hs Q := by
  have had := hW.ad
  unfold adO at had
  refine c_of (ls2 := [.ref t, .int a, .int b, .null]) Y104 (Nat.le_of_ble_eq_true rfl) rfl I104 ?_
  simp only [r_al0 dX9_over_0, r_getf dX9_over_1 F9_10, r_il1 dX9_over_4, r_il2 dX9_over_5, List.cons_append, List.nil_append, Nat.reduceAdd, Option.toList, g9_0, z0, hW.r, rd_own hW.r, hW.r, rd_own hW.r, th_0, th_1, th_2, th_3, th_4, th_5, th_6, th_7, th_8, th_9]
  refine r_ist3 dX9_over_6 M9_109 Y110 (Nat.le_of_ble_eq_true rfl) (Nat.le_refl _) (Nat.le_refl _) ?_
  refine c_refusal hW.pg e2 l2 ?_
  simp only [r_is3 dX9_over_9, r_il3 dX9_over_10, r_bipush dX9_over_11 kbm105, r_ic_ne (tgt := 32) dX9_over_13 rfl, r_al0 dX9_over_16, r_getf dX9_over_17 F9_39, r_al0 dX9_over_20, r_getf dX9_over_21 F9_10, r_il1 dX9_over_24, r_il2 dX9_over_25, r_il3 dX9_over_32, r_if_eq (tgt := 38) dX9_over_33 rfl, r_il3 dX9_over_36, r_iret dX9_over_37 (Nat.zero_le _) (Nat.zero_le _), r_al0 dX9_over_38, r_getf dX9_over_39 F9_10, r_il1 dX9_over_42, r_il2 dX9_over_43, List.cons_append, List.nil_append, Nat.reduceAdd, Option.toList, cat_f, cat_i, cat_n, cat_r, eq_self, g9_0, g9_5, true_and, z0, hW.r, rd_own hW.r, hW.r, rd_own hW.r, th_0, th_1, th_2, th_3, th_4, th_5, th_6, th_7, th_8, th_9]
  refine ⟨fun k1 => ⟨fun k2 => ?_, fun k2 => h0 k1 k2⟩, fun k1 => ?_⟩
  · obtain ⟨i, j, hi, hj, ea, eb⟩ := refV0 (by rw [k2]; decide) l2
    have hh2 := h2 k2 i j hi hj ea eb
    subst ea; subst eb
    refine r_iv3 dX9_over_44 M9_117 Y19 O19 (Nat.le_of_ble_eq_true rfl) (rcv_own hW.pg.r) (Nat.le_refl _) (Nat.le_refl _) ?_
    refine c_link2 hW.pg e2 l2 (by omega) (by omega) (fun hm1 hP1 s1 => ?_)
    have hW1 := hW.s_pg hP1 s1
    simp only [r_al0 dX9_over_47, List.cons_append, List.nil_append, Nat.reduceAdd, Option.toList, z0]
    refine r_iv1 dX9_over_48 M9_106 Y111 O111 (Nat.le_of_ble_eq_true rfl) (rcv_own hW1.r) (Nat.le_refl _) (Nat.le_refl _) ?_
    refine c_linksChanged hW1 (fun hm2 hW2 s2 => ?_)
    simp only [r_al0 dX9_over_51, r_getf dX9_over_52 F9_46, r_iconst dX9_over_55 ki0, r_il1 dX9_over_56, r_il2 dX9_over_57, List.cons_append, List.nil_append, Nat.reduceAdd, Option.toList, g9_6, z0, hW2.r, rd_own hW2.r, hW2.r, rd_own hW2.r, th_0, th_1, th_2, th_3, th_4, th_5, th_6, th_7, th_8, th_9]
    refine r_iv4 dX9_over_58 M9_121 Y1 O1 (Nat.le_of_ble_eq_true rfl) (rcv_own hW2.ac.r) (Nat.le_refl _) (Nat.le_refl _) ?_
    refine c_actAdd hW2.ac (z := z) (n := m) ez hz em hm12 (fun hm3 hP3 s3 => ?_)
    have hW3 := hW2.s_ac hP3 s3
    have hpg := hW3.pg
    simp only [r_al0 dX9_over_61, r_getf dX9_over_62 F9_10, r_getf dX9_over_65 F9_125, r_iret dX9_over_68 (Nat.zero_le _) (Nat.zero_le _), List.cons_append, List.nil_append, Nat.reduceAdd, Option.toList, g1_3, g9_0, z0, hW3.r, rd_own hW3.r, hW3.r, rd_own hW3.r, th_0, th_1, th_2, th_3, th_4, th_5, th_6, th_7, th_8, th_9, hpg.r, rd_own hpg.r, hpg.r, rd_own hpg.r]
    exact hh2 _ _ _ hW3 rfl rfl rfl rfl rfl rfl rfl rfl (fun k q0 q6 q7 q8 => ⟨by rw [vu_ne q6, vu_ne q8, vu_ne q7, vu_ne q0], by rw [vu_ne q6, vu_ne q0]⟩) (((s1.wide (by omega)).trans s2).trans (s3.wide (by omega)))
  · have k1 := Classical.not_not.mp k1
    obtain ⟨i, j, hi, hj, ea, eb⟩ := refV0 (by rw [k1]; decide) l2
    have hh1 := h1 k1 i j hi hj ea eb
    subst ea; subst eb
    refine r_iv4 dX9_over_26 M9_113 Y56 O56 (Nat.le_of_ble_eq_true rfl) (rcv_own hW.rg.r) (Nat.le_refl _) (Nat.le_refl _) ?_
    refine c_show hW.rg hW.pg (by omega) e2 l2 (by omega) (by omega) (fun hm' A' far m c g1 g2 g3 g4 g5 g6 g7 g8 g9 g10 g11 => ?_)
    simp only [r_bipush dX9_over_29 kbm5, r_iret dX9_over_31 (Nat.zero_le _) (Nat.zero_le _), List.cons_append, List.nil_append, Nat.reduceAdd, Option.toList, z0]
    exact hh1 hm' A' far m c (hW.s_rg g1 g11) g2 g3 g4 g5 g6 g7 g8 g9 g10 (g11.wide (by omega))
theorem c_takes {a b : Int32} {z m : Nat} (hW : TW hm t pa pb qa qb V AA R) (e2 : V 0 2 = nI n) (l2 : n ≤ 12) (ez : V 6 1 = nI z) (hz : z < 12) (em : V 6 0 = nI m) (hm12 : m ≤ 12)
    (h0 : ¬ ((0 ≤ a ∧ a < nI n) ∧ (0 ≤ b ∧ b < nI n)) → Q (some (.int (-2))) hm hs)
    (h1 : ∀ i j, i < n → j < n → a = nI i → b = nI j → ¬ bt (AA 0 11 i) j = true → Q (some (.int (-5))) hm hs)
    (h2 : ∀ i j, i < n → j < n → a = nI i → b = nI j → bt (AA 0 11 i) j = true → ∀ hm' V' AA', TW hm' t pa pb qa qb V' AA' R → V' 0 = upd (V 0) 3 (V 0 3 - 1) → AA' 0 = unlA n i j (AA 0) → V' 6 = acU (V 6) z m → AA' 6 = acA (AA 6) z 1 a b → V' 7 = upd (upd (V 7) 0 1) 1 1 → AA' 7 = AA 7 → V' 8 = upd (V 8) 0 1 → AA' 8 = AA 8 → (∀ k, k ≠ 0 → k ≠ 6 → k ≠ 7 → k ≠ 8 → V' k = V k ∧ AA' k = AA k) → sm t (t + 70) hm hm' → Q (some (.int (V 0 3 - 1))) hm' hs) :
    CC X EV (d + 3) 105 [.ref t, .int a, .int b] hm hs Q := by
  have had := hW.ad
  unfold adO at had
  have hp := hW.pg
  refine c_of (ls2 := [.ref t, .int a, .int b]) Y105 (Nat.le_of_ble_eq_true rfl) rfl I105 ?_
  simp only [r_al0 dX9_takes_0, r_getf dX9_takes_1 F9_10, r_il1 dX9_takes_4, List.cons_append, List.nil_append, Nat.reduceAdd, Option.toList, g9_0, z0, hW.r, rd_own hW.r, hW.r, rd_own hW.r, th_0, th_1, th_2, th_3, th_4, th_5, th_6, th_7, th_8, th_9]
  refine r_iv2 dX9_takes_5 M9_128 Y6 O6 (Nat.le_of_ble_eq_true rfl) (rcv_own hp.r) (Nat.le_refl _) (Nat.le_refl _) ?_
  refine c_has hp ?_
  rw [e2]
  simp only [r_if_eq (tgt := 22) dX9_takes_8 rfl, r_al0 dX9_takes_11, r_getf dX9_takes_12 F9_10, r_il2 dX9_takes_15, r_bipush dX9_takes_22 kbm2, r_iret dX9_takes_24 (Nat.zero_le _) (Nat.zero_le _), List.cons_append, List.nil_append, Nat.reduceAdd, Option.toList, g9_0, z0, hW.r, rd_own hW.r, hW.r, rd_own hW.r, th_0, th_1, th_2, th_3, th_4, th_5, th_6, th_7, th_8, th_9]
  refine ⟨fun h => h0 (fun z => h z.1), fun h => ?_⟩
  refine r_iv2 dX9_takes_16 M9_128 Y6 O6 (Nat.le_of_ble_eq_true rfl) (rcv_own hp.r) (Nat.le_refl _) (Nat.le_refl _) ?_
  refine c_has hp ?_
  rw [e2]
  simp only [r_if_ne (tgt := 25) dX9_takes_19 rfl, r_bipush dX9_takes_22 kbm2, r_iret dX9_takes_24 (Nat.zero_le _) (Nat.zero_le _), r_al0 dX9_takes_25, r_getf dX9_takes_26 F9_10, r_il1 dX9_takes_29, r_il2 dX9_takes_30, List.cons_append, List.nil_append, Nat.reduceAdd, Option.toList, g9_0, z0, hW.r, rd_own hW.r, hW.r, rd_own hW.r, th_0, th_1, th_2, th_3, th_4, th_5, th_6, th_7, th_8, th_9]
  refine ⟨fun h' => ?_, fun h' => h0 (fun z => Classical.not_not.mp h' z.2)⟩
  obtain ⟨i, hi, rfl⟩ := ix (by omega) (Classical.not_not.mp h)
  obtain ⟨j, hj, rfl⟩ := ix (by omega) (Classical.not_not.mp h')
  refine r_iv3 dX9_takes_31 M9_132 Y15 O15 (Nat.le_of_ble_eq_true rfl) (rcv_own hp.r) (Nat.le_refl _) (Nat.le_refl _) ?_
  refine c_isTold hp (by omega) (by omega) ?_
  simp only [r_if_ne (tgt := 40) dX9_takes_34 rfl, r_bipush dX9_takes_37 kbm5, r_iret dX9_takes_39 (Nat.zero_le _) (Nat.zero_le _), r_al0 dX9_takes_40, r_getf dX9_takes_41 F9_10, r_il1 dX9_takes_44, r_il2 dX9_takes_45, List.cons_append, List.nil_append, Nat.reduceAdd, Option.toList, g9_0, z0, hW.r, rd_own hW.r, hW.r, rd_own hW.r, th_0, th_1, th_2, th_3, th_4, th_5, th_6, th_7, th_8, th_9]
  refine ⟨fun k => ?_, fun k => h1 i j hi hj rfl rfl (Classical.not_not.mp k)⟩
  have h2 := h2 i j hi hj rfl rfl (Classical.not_not.mp k)
  refine r_iv3 dX9_takes_46 M9_136 Y20 O20 (Nat.le_of_ble_eq_true rfl) (rcv_own hp.r) (Nat.le_refl _) (Nat.le_refl _) ?_
  refine c_unlink2 hp e2 l2 (by omega) (by omega) (fun hm1 hP1 s1 => ?_)
  have hW1 := hW.s_pg hP1 s1
  simp only [r_al0 dX9_takes_49, List.cons_append, List.nil_append, Nat.reduceAdd, Option.toList, z0]
  refine r_iv1 dX9_takes_50 M9_106 Y111 O111 (Nat.le_of_ble_eq_true rfl) (rcv_own hW1.r) (Nat.le_refl _) (Nat.le_refl _) ?_
  refine c_linksChanged hW1 (fun hm2 hW2 s2 => ?_)
  simp only [r_al0 dX9_takes_53, r_getf dX9_takes_54 F9_46, r_iconst dX9_takes_57 ki1, r_il1 dX9_takes_58, r_il2 dX9_takes_59, List.cons_append, List.nil_append, Nat.reduceAdd, Option.toList, g9_6, z0, hW2.r, rd_own hW2.r, hW2.r, rd_own hW2.r, th_0, th_1, th_2, th_3, th_4, th_5, th_6, th_7, th_8, th_9]
  refine r_iv4 dX9_takes_60 M9_121 Y1 O1 (Nat.le_of_ble_eq_true rfl) (rcv_own hW2.ac.r) (Nat.le_refl _) (Nat.le_refl _) ?_
  refine c_actAdd hW2.ac (z := z) (n := m) ez hz em hm12 (fun hm3 hP3 s3 => ?_)
  have hW3 := hW2.s_ac hP3 s3
  have hpg := hW3.pg
  simp only [r_al0 dX9_takes_63, r_getf dX9_takes_64 F9_10, r_getf dX9_takes_67 F9_125, r_iret dX9_takes_70 (Nat.zero_le _) (Nat.zero_le _), List.cons_append, List.nil_append, Nat.reduceAdd, Option.toList, g1_3, g9_0, z0, hW3.r, rd_own hW3.r, hW3.r, rd_own hW3.r, th_0, th_1, th_2, th_3, th_4, th_5, th_6, th_7, th_8, th_9, hpg.r, rd_own hpg.r, hpg.r, rd_own hpg.r]
  exact h2 _ _ _ hW3 rfl rfl rfl rfl rfl rfl rfl rfl (fun k q0 q6 q7 q8 => ⟨by rw [vu_ne q6, vu_ne q8, vu_ne q7, vu_ne q0], by rw [vu_ne q6, vu_ne q0]⟩) (((s1.wide (by omega)).trans s2).trans (s3.wide (by omega)))
theorem c_hand {k v : Int32} {z m : Nat} (hW : TW hm t pa pb qa qb V AA R) (e2 : V 0 2 = nI n) (l2 : n ≤ 12) (ez : V 6 1 = nI z) (hz : z < 12) (em : V 6 0 = nI m) (hm12 : m ≤ 12)
    (h0 : ¬ (0 ≤ k ∧ k < nI n) → Q (some (.int (-2))) hm hs) (h1 : (0 ≤ k ∧ k < nI n) → ¬ (-1 ≤ v ∧ v ≤ 1) → Q (some (.int (-3))) hm hs)
    (h2 : ∀ i, i < n → k = nI i → (-1 ≤ v ∧ v ≤ 1) → ((v = 0 ∧ ¬ V 0 5 &&& AA 0 12 i = 0) ∨ (v = 1 ∧ ¬ V 0 4 &&& AA 0 13 i = 0)) → Q (some (.int (-9))) hm hs)
    (h3 : ∀ i, i < n → k = nI i → (-1 ≤ v ∧ v ≤ 1) → ¬ ((v = 0 ∧ ¬ V 0 5 &&& AA 0 12 i = 0) ∨ (v = 1 ∧ ¬ V 0 4 &&& AA 0 13 i = 0)) → ∀ was, was = (if bt (V 0 4) i = true then (0 : Int32) else if bt (V 0 5) i = true then 1 else -1) → ∀ hm' V' AA', TW hm' t pa pb qa qb V' AA' R → (V' 0 4 = if v = 0 then (V 0 4 &&& (sb i ^^^ (-1))) ||| sb i else V 0 4 &&& (sb i ^^^ (-1))) → (V' 0 5 = if v = 1 then (V 0 5 &&& (sb i ^^^ (-1))) ||| sb i else V 0 5 &&& (sb i ^^^ (-1))) → (∀ s, s ≠ 4 → s ≠ 5 → V' 0 s = V 0 s) → AA' 0 = AA 0 →
      V' 6 = acU (V 6) z m → AA' 6 = acA (AA 6) z 2 k was → V' 8 = upd (V 8) 0 1 → AA' 8 = AA 8 → (∀ k, k ≠ 0 → k ≠ 6 → k ≠ 8 → V' k = V k ∧ AA' k = AA k) → sm t (t + 70) hm hm' → Q (some (.int (was + 1))) hm' hs) :
    CC X EV (d + 2) 106 [.ref t, .int k, .int v] hm hs Q := by
  have had := hW.ad
  unfold adO at had
  have hp := hW.pg
  refine c_of (ls2 := [.ref t, .int k, .int v, .null]) Y106 (Nat.le_of_ble_eq_true rfl) rfl I106 ?_
  simp only [r_al0 dX9_hand_0, r_getf dX9_hand_1 F9_10, r_il1 dX9_hand_4, List.cons_append, List.nil_append, Nat.reduceAdd, Option.toList, g9_0, z0, hW.r, rd_own hW.r, hW.r, rd_own hW.r, th_0, th_1, th_2, th_3, th_4, th_5, th_6, th_7, th_8, th_9]
  refine r_iv2 dX9_hand_5 M9_128 Y6 O6 (Nat.le_of_ble_eq_true rfl) (rcv_own hp.r) (Nat.le_refl _) (Nat.le_refl _) ?_
  refine c_has hp ?_
  rw [e2]
  simp only [r_if_ne (tgt := 14) dX9_hand_8 rfl, r_bipush dX9_hand_11 kbm2, r_iret dX9_hand_13 (Nat.zero_le _) (Nat.zero_le _), r_il2 dX9_hand_14, r_iconst dX9_hand_15 kim1, r_ic_lt (tgt := 24) dX9_hand_16 rfl, r_il2 dX9_hand_19, r_iconst dX9_hand_20 ki1, r_ic_le (tgt := 27) dX9_hand_21 rfl, r_bipush dX9_hand_24 kbm3, r_iret dX9_hand_26 (Nat.zero_le _) (Nat.zero_le _), r_al0 dX9_hand_27, r_getf dX9_hand_28 F9_10, r_il1 dX9_hand_31, r_il2 dX9_hand_32, List.cons_append, List.nil_append, Nat.reduceAdd, Option.toList, g9_0, z0, hW.r, rd_own hW.r, hW.r, rd_own hW.r, th_0, th_1, th_2, th_3, th_4, th_5, th_6, th_7, th_8, th_9]
  refine ⟨fun h => ?_, fun h => h0 (Classical.not_not.mp h)⟩
  have h := Classical.not_not.mp h
  refine ⟨fun k1 => h1 h (by grind), fun k1 => ⟨fun k2 => ?_, fun k2 => h1 h (by grind)⟩⟩
  obtain ⟨i, hi, rfl⟩ := ix (by omega) h
  refine r_iv3 dX9_hand_33 M9_139 Y25 O25 (Nat.le_of_ble_eq_true rfl) (rcv_own hp.r) (Nat.le_refl _) (Nat.le_refl _) ?_
  refine c_handLeavesNoWay hp (by omega) ?_
  simp only [r_if_eq (tgt := 42) dX9_hand_36 rfl, r_bipush dX9_hand_39 kbm9, r_iret dX9_hand_41 (Nat.zero_le _) (Nat.zero_le _), r_al0 dX9_hand_42, r_getf dX9_hand_43 F9_10, r_il1 dX9_hand_46, List.cons_append, List.nil_append, Nat.reduceAdd, Option.toList, g9_0, z0, hW.r, rd_own hW.r, hW.r, rd_own hW.r, th_0, th_1, th_2, th_3, th_4, th_5, th_6, th_7, th_8, th_9]
  refine ⟨fun k3 => ?_, fun k3 => h2 i hi rfl (by grind) (Classical.not_not.mp k3)⟩
  have h3 := h3 i hi rfl (by grind) k3 _ rfl
  refine r_iv2 dX9_hand_47 M9_142 Y23 O23 (Nat.le_of_ble_eq_true rfl) (rcv_own hp.r) (Nat.le_refl _) (Nat.le_refl _) ?_
  refine c_toldHand hp (by omega) ?_
  generalize (if bt (V 0 4) i = true then (0 : Int32) else if bt (V 0 5) i = true then 1 else -1) = was at h3 ⊢
  simp only [r_is3 dX9_hand_50, r_al0 dX9_hand_51, r_getf dX9_hand_52 F9_10, r_il1 dX9_hand_55, r_il2 dX9_hand_56, List.cons_append, List.nil_append, Nat.reduceAdd, Option.toList, cat_f, cat_i, cat_n, cat_r, eq_self, g9_0, true_and, z0, hW.r, rd_own hW.r, hW.r, rd_own hW.r, th_0, th_1, th_2, th_3, th_4, th_5, th_6, th_7, th_8, th_9]
  refine r_iv3 dX9_hand_57 M9_146 Y24 O24 (Nat.le_of_ble_eq_true rfl) (rcv_own hp.r) (Nat.le_refl _) (Nat.le_refl _) ?_
  refine c_setHand hp (by omega) (fun hm1 u1 hP1 g1 g2 g3 s1 => ?_)
  have hW1 := hW.s_pg hP1 s1
  have hsi := hW1.si
  simp (disch := first | omega | (simp only [List.length_cons, List.length_nil]; omega)) only [r_al0 dX9_hand_60, r_getf dX9_hand_61 F9_60, r_iconst dX9_hand_64 ki1, r_putf dX9_hand_65 F9_149, r_al0 dX9_hand_68, r_getf dX9_hand_69 F9_46, r_iconst dX9_hand_72 ki2, r_il1 dX9_hand_73, r_il3 dX9_hand_74, List.cons_append, List.nil_append, Nat.reduceAdd, Option.toList, fit_z0, fit_z1, ft6_0, g9_6, g9_8, p6_0, pk_un, pk_us, rd_up_eq, rd_up_ne, true_and, up_eq, up_ne, up_up, z0, hW1.r, rd_own hW1.r, hW1.r, rd_own hW1.r, th_0, th_1, th_2, th_3, th_4, th_5, th_6, th_7, th_8, th_9, hsi.r, rd_own hsi.r, hsi.r, rd_own hsi.r]
  have hW2 := hW1.s_si (hsi.o (upd (va_up V 0 u1 8) 0 1)) (sm.rf.up (by omega))
  have hac := hW2.ac
  refine r_iv4 dX9_hand_75 M9_121 Y1 O1 (Nat.le_of_ble_eq_true rfl) (rcv_own hac.r) (Nat.le_refl _) (Nat.le_refl _) ?_
  refine c_actAdd hac (z := z) (n := m) ez hz em hm12 (fun hm3 hP3 s3 => ?_)
  have hW3 := hW2.s_ac hP3 s3
  simp only [r_il3 dX9_hand_78, r_iconst dX9_hand_79 ki1, r_iadd dX9_hand_80, r_iret dX9_hand_81 (Nat.zero_le _) (Nat.zero_le _), List.cons_append, List.nil_append, Nat.reduceAdd, Option.toList, z0]
  exact h3 _ _ _ hW3 g1 g2 g3 rfl rfl rfl rfl rfl (fun k q0 q6 q8 => ⟨by rw [vu_ne q6, vu_ne q8, vu_ne q0], by rw [vu_ne q6, vu_ne q8, vu_ne q0]⟩) (((s1.wide (by omega)).up (by omega)).trans (s3.wide (by omega)))
theorem c_weigh {k v : Int32} {z m : Nat} (hW : TW hm t pa pb qa qb V AA R) (e3 : V 2 0 = nI nl) (l3 : nl ≤ 10) (ez : V 6 1 = nI z) (hz : z < 12) (em : V 6 0 = nI m) (hm12 : m ≤ 12)
    (h0 : ¬ (0 ≤ k ∧ k < nI nl) → Q (some (.int (-2))) hm hs) (h1 : (0 ≤ k ∧ k < nI nl) → ¬ (1 ≤ v ∧ v ≤ 99) → Q (some (.int (-3))) hm hs)
    (h3 : ∀ i, i < nl → k = nI i → (1 ≤ v ∧ v ≤ 99) → ∀ hm' V' AA', TW hm' t pa pb qa qb V' AA' R → V' 2 = V 2 → AA' 2 = va_up (AA 2) 6 (upd (AA 2 6) i v) →
      V' 6 = acU (V 6) z m → AA' 6 = acA (AA 6) z 3 k (AA 2 6 i) → (∀ k, k ≠ 2 → k ≠ 6 → V' k = V k ∧ AA' k = AA k) → sm t (t + 70) hm hm' → Q (some (.int (AA 2 6 i))) hm' hs) :
    CC X EV (d + 2) 107 [.ref t, .int k, .int v] hm hs Q := by
  have had := hW.ad
  unfold adO at had
  have hp := hW.sc
  refine c_of (ls2 := [.ref t, .int k, .int v, .null]) Y107 (Nat.le_of_ble_eq_true rfl) rfl I107 ?_
  simp only [r_al0 dX9_weigh_0, r_getf dX9_weigh_1 F9_22, r_il1 dX9_weigh_4, List.cons_append, List.nil_append, Nat.reduceAdd, Option.toList, g9_2, z0, hW.r, rd_own hW.r, hW.r, rd_own hW.r, th_0, th_1, th_2, th_3, th_4, th_5, th_6, th_7, th_8, th_9]
  refine r_iv2 dX9_weigh_5 M9_153 Y64 O64 (Nat.le_of_ble_eq_true rfl) (rcv_own hp.r) (Nat.le_refl _) (Nat.le_refl _) ?_
  refine c_hasLetter hp ?_
  rw [e3]
  simp only [r_if_ne (tgt := 14) dX9_weigh_8 rfl, r_bipush dX9_weigh_11 kbm2, r_iret dX9_weigh_13 (Nat.zero_le _) (Nat.zero_le _), r_il2 dX9_weigh_14, r_iconst dX9_weigh_15 ki1, r_ic_lt (tgt := 25) dX9_weigh_16 rfl, r_il2 dX9_weigh_19, r_bipush dX9_weigh_20 kb99, r_ic_leB (tgt := 28) dX9_weigh_22 rfl, r_bipush dX9_weigh_25 kbm3, r_iret dX9_weigh_27 (Nat.zero_le _) (Nat.zero_le _), List.cons_append, List.nil_append, Nat.reduceAdd, Option.toList, z0, hW.r, rd_own hW.r, hW.r, rd_own hW.r, th_0, th_1, th_2, th_3, th_4, th_5, th_6, th_7, th_8, th_9]
  refine ⟨fun h => ?_, fun h => h0 (Classical.not_not.mp h)⟩
  have h := Classical.not_not.mp h
  refine ⟨fun k1 => h1 h (by grind), fun k1 => ⟨fun k2 => ?_, fun k2 => h1 h (by grind)⟩⟩
  obtain ⟨i, hi, rfl⟩ := ix (by omega) h
  have hin := vp_in_nI (show i < 10 by omega) (by omega)
  simp (disch := omega) only [E2, nI_1, nI_add, nI_leI, nI_ltI, nI_eq, nI_clamp]
  simp (disch := first | omega | (simp only [List.length_cons, List.length_nil]; omega)) only [r_al0 dX9_weigh_28, r_getf dX9_weigh_29 F9_22, r_getf dX9_weigh_32 F9_156, r_il1 dX9_weigh_35, r_iald dX9_weigh_36, r_is3 dX9_weigh_37, r_al0 dX9_weigh_38, r_getf dX9_weigh_39 F9_22, r_getf dX9_weigh_42 F9_156, r_il1 dX9_weigh_45, r_il2 dX9_weigh_46, r_iast dX9_weigh_47, r_al0 dX9_weigh_48, r_getf dX9_weigh_49 F9_46, r_iconst dX9_weigh_52 ki3, r_il1 dX9_weigh_53, r_il3 dX9_weigh_54, List.cons_append, List.nil_append, Nat.reduceAdd, Option.toList, aI_ok, cat_f, cat_i, cat_n, cat_r, eq_self, g5_6, g9_2, g9_6, pk_un, pk_us, rd_up_eq, rd_up_ne, sI_ok, true_and, up_eq, up_ne, up_up, z0, hW.r, rd_own hW.r, hW.r, rd_own hW.r, th_0, th_1, th_2, th_3, th_4, th_5, th_6, th_7, th_8, th_9, hp.r, rd_own hp.r, hp.r6, rd_own hp.r6, nI_clamp (show i < 2 ^ 31 by omega)]
  refine ⟨hin, hin, ?_⟩
  have hW2 := hW.s_sc (hp.w6 (upd (AA 2 6) i v)) (sm.rf.up (by omega))
  refine r_iv4 dX9_weigh_55 M9_121 Y1 O1 (Nat.le_of_ble_eq_true rfl) (rcv_own hW2.ac.r) (Nat.le_refl _) (Nat.le_refl _) ?_
  refine c_actAdd hW2.ac (z := z) (n := m) ez hz em hm12 (fun hm3 hP3 s3 => ?_)
  have hW3 := hW2.s_ac hP3 s3
  simp only [r_il3 dX9_weigh_58, r_iret dX9_weigh_59 (Nat.zero_le _) (Nat.zero_le _), List.cons_append, List.nil_append, Nat.reduceAdd, Option.toList, z0]
  exact h3 i hi rfl (by grind) _ _ _ hW3 rfl rfl rfl rfl (fun k q0 q6 => ⟨by rw [vu_ne q6, vu_ne q0], by rw [vu_ne q6, vu_ne q0]⟩) ((sm.rf.up (by omega)).trans (s3.wide (by omega)))
theorem c_takeBack {k a b : Int32} (hW : TW hm t pa pb qa qb V AA R) (e2 : V 0 2 = nI n) (l2 : n ≤ 12) (e3 : V 2 0 = nI nl) (l3 : nl ≤ 10)
    (hk : (k = 0 ∧ ∃ i j, i < n ∧ j < n ∧ a = nI i ∧ b = nI j ∧ ∀ hm' V' AA', TW hm' t pa pb qa qb V' AA' R → V' 0 = upd (V 0) 3 (V 0 3 - 1) → AA' 0 = unlA n i j (AA 0) → V' 7 = upd (upd (V 7) 0 1) 1 1 → AA' 7 = AA 7 → V' 8 = upd (V 8) 0 1 → AA' 8 = AA 8 → (∀ k, k ≠ 0 → k ≠ 7 → k ≠ 8 → V' k = V k ∧ AA' k = AA k) → sm t (t + 70) hm hm' → Q none hm' hs) ∨
      (k = 1 ∧ ∃ i j, i < n ∧ j < n ∧ a = nI i ∧ b = nI j ∧ ∀ hm' V' AA', TW hm' t pa pb qa qb V' AA' R → V' 0 = upd (V 0) 3 (V 0 3 + 1) → AA' 0 = lnkA n i j (AA 0) → V' 7 = upd (upd (V 7) 0 1) 1 1 → AA' 7 = AA 7 → V' 8 = upd (V 8) 0 1 → AA' 8 = AA 8 → (∀ k, k ≠ 0 → k ≠ 7 → k ≠ 8 → V' k = V k ∧ AA' k = AA k) → sm t (t + 70) hm hm' → Q none hm' hs) ∨
      (k = 2 ∧ ∃ i, i < n ∧ a = nI i ∧ ∀ hm' V' AA', TW hm' t pa pb qa qb V' AA' R → (V' 0 4 = if b = 0 then (V 0 4 &&& (sb i ^^^ (-1))) ||| sb i else V 0 4 &&& (sb i ^^^ (-1))) → (V' 0 5 = if b = 1 then (V 0 5 &&& (sb i ^^^ (-1))) ||| sb i else V 0 5 &&& (sb i ^^^ (-1))) → (∀ s, s ≠ 4 → s ≠ 5 → V' 0 s = V 0 s) → AA' 0 = AA 0 → V' 8 = upd (V 8) 0 1 → AA' 8 = AA 8 → (∀ k, k ≠ 0 → k ≠ 8 → V' k = V k ∧ AA' k = AA k) → sm t (t + 70) hm hm' → Q none hm' hs) ∨
      (k = 3 ∧ ∃ i, i < nl ∧ a = nI i ∧ ∀ hm' AA', TW hm' t pa pb qa qb V AA' R → AA' 2 = va_up (AA 2) 6 (upd (AA 2 6) i b) → (∀ k, k ≠ 2 → AA' k = AA k) → sm t (t + 70) hm hm' → Q none hm' hs)) :
    CC X EV (d + 3) 109 [.ref t, .int k, .int a, .int b] hm hs Q := by
  have had := hW.ad
  unfold adO at had
  have hp := hW.pg
  refine c_of (ls2 := [.ref t, .int k, .int a, .int b]) Y109 (Nat.le_of_ble_eq_true rfl) rfl I109 ?_
  simp only [r_il1 dX9_takeBack_0, List.cons_append, List.nil_append, Nat.reduceAdd, Option.toList, z0]
  rcases hk with ⟨rfl, i, j, hi, hj, rfl, rfl, hQ⟩ | ⟨rfl, i, j, hi, hj, rfl, rfl, hQ⟩ | ⟨rfl, i, hi, rfl, hQ⟩ | ⟨rfl, i, hi, rfl, hQ⟩
  · rw [r_tsIn (tgt := 28) (off := 27) dX9_takeBack_1 (by decide) (by decide) rfl rfl]
    simp only [r_al0 dX9_takeBack_28, r_getf dX9_takeBack_29 F9_10, r_il2 dX9_takeBack_32, r_il3 dX9_takeBack_33, List.cons_append, List.nil_append, Nat.reduceAdd, Option.toList, g9_0, z0, hW.r, rd_own hW.r, hW.r, rd_own hW.r, th_0, th_1, th_2, th_3, th_4, th_5, th_6, th_7, th_8, th_9]
    refine r_iv3 dX9_takeBack_34 M9_136 Y20 O20 (Nat.le_of_ble_eq_true rfl) (rcv_own hp.r) (Nat.le_refl _) (Nat.le_refl _) ?_
    refine c_unlink2 hp e2 l2 (by omega) (by omega) (fun hm1 hP1 s1 => ?_)
    have hW1 := hW.s_pg hP1 s1
    simp only [r_al0 dX9_takeBack_37, List.cons_append, List.nil_append, Nat.reduceAdd, Option.toList, z0]
    refine r_iv1 dX9_takeBack_38 M9_106 Y111 O111 (Nat.le_of_ble_eq_true rfl) (rcv_own hW1.r) (Nat.le_refl _) (Nat.le_refl _) ?_
    refine c_linksChanged hW1 (fun hm2 hW2 s2 => ?_)
    simp only [r_goto (tgt := 90) dX9_takeBack_41 rfl, r_vret dX9_takeBack_90 (Nat.zero_le _) (Nat.zero_le _), List.cons_append, List.nil_append, Nat.reduceAdd, Option.toList, z0]
    exact hQ _ _ _ hW2 rfl rfl rfl rfl rfl rfl (fun k q0 q7 q8 => ⟨by rw [vu_ne q8, vu_ne q7, vu_ne q0], by rw [vu_ne q0]⟩) ((s1.wide (by omega)).trans s2)
  · rw [r_tsIn (tgt := 44) (off := 43) dX9_takeBack_1 (by decide) (by decide) rfl rfl]
    simp only [r_al0 dX9_takeBack_44, r_getf dX9_takeBack_45 F9_10, r_il2 dX9_takeBack_48, r_il3 dX9_takeBack_49, List.cons_append, List.nil_append, Nat.reduceAdd, Option.toList, g9_0, z0, hW.r, rd_own hW.r, hW.r, rd_own hW.r, th_0, th_1, th_2, th_3, th_4, th_5, th_6, th_7, th_8, th_9]
    refine r_iv3 dX9_takeBack_50 M9_117 Y19 O19 (Nat.le_of_ble_eq_true rfl) (rcv_own hp.r) (Nat.le_refl _) (Nat.le_refl _) ?_
    refine c_link2 hp e2 l2 (by omega) (by omega) (fun hm1 hP1 s1 => ?_)
    have hW1 := hW.s_pg hP1 s1
    simp only [r_al0 dX9_takeBack_53, List.cons_append, List.nil_append, Nat.reduceAdd, Option.toList, z0]
    refine r_iv1 dX9_takeBack_54 M9_106 Y111 O111 (Nat.le_of_ble_eq_true rfl) (rcv_own hW1.r) (Nat.le_refl _) (Nat.le_refl _) ?_
    refine c_linksChanged hW1 (fun hm2 hW2 s2 => ?_)
    simp only [r_goto (tgt := 90) dX9_takeBack_57 rfl, r_vret dX9_takeBack_90 (Nat.zero_le _) (Nat.zero_le _), List.cons_append, List.nil_append, Nat.reduceAdd, Option.toList, z0]
    exact hQ _ _ _ hW2 rfl rfl rfl rfl rfl rfl (fun k q0 q7 q8 => ⟨by rw [vu_ne q8, vu_ne q7, vu_ne q0], by rw [vu_ne q0]⟩) ((s1.wide (by omega)).trans s2)
  · rw [r_tsIn (tgt := 60) (off := 59) dX9_takeBack_1 (by decide) (by decide) rfl rfl]
    simp only [r_al0 dX9_takeBack_60, r_getf dX9_takeBack_61 F9_10, r_il2 dX9_takeBack_64, r_il3 dX9_takeBack_65, List.cons_append, List.nil_append, Nat.reduceAdd, Option.toList, g9_0, z0, hW.r, rd_own hW.r, hW.r, rd_own hW.r, th_0, th_1, th_2, th_3, th_4, th_5, th_6, th_7, th_8, th_9]
    refine r_iv3 dX9_takeBack_66 M9_146 Y24 O24 (Nat.le_of_ble_eq_true rfl) (rcv_own hp.r) (Nat.le_refl _) (Nat.le_refl _) ?_
    refine c_setHand hp (by omega) (fun hm1 u1 hP1 g1 g2 g3 s1 => ?_)
    have hW1 := hW.s_pg hP1 s1
    have hsi := hW1.si
    simp (disch := first | omega | (simp only [List.length_cons, List.length_nil]; omega)) only [r_al0 dX9_takeBack_69, r_getf dX9_takeBack_70 F9_60, r_iconst dX9_takeBack_73 ki1, r_putf dX9_takeBack_74 F9_149, r_goto (tgt := 90) dX9_takeBack_77 rfl, r_vret dX9_takeBack_90 (Nat.zero_le _) (Nat.zero_le _), List.cons_append, List.nil_append, Nat.reduceAdd, Option.toList, fit_z0, fit_z1, ft6_0, g9_8, p6_0, pk_un, pk_us, rd_up_eq, rd_up_ne, true_and, up_eq, up_ne, up_up, z0, hW1.r, rd_own hW1.r, hW1.r, rd_own hW1.r, th_0, th_1, th_2, th_3, th_4, th_5, th_6, th_7, th_8, th_9, hsi.r, rd_own hsi.r, hsi.r, rd_own hsi.r]
    have hW2 := hW1.s_si (hsi.o (upd (va_up V 0 u1 8) 0 1)) (sm.rf.up (by omega))
    exact hQ _ _ _ hW2 g1 g2 g3 rfl rfl rfl (fun k q0 q8 => ⟨by rw [vu_ne q8, vu_ne q0], by rw [vu_ne q8, vu_ne q0]⟩) ((s1.wide (by omega)).up (by omega))
  · have hsw : (3 : Int32).toInt < 0 ∨ (2 : Int) < (3 : Int32).toInt := by decide
    rw [r_tsOut (tgt := 80) dX9_takeBack_1 hsw rfl]
    have hsc := hW.sc
    simp (disch := first | omega | (simp only [List.length_cons, List.length_nil]; omega)) only [r_al0 dX9_takeBack_80, r_getf dX9_takeBack_81 F9_22, r_getf dX9_takeBack_84 F9_156, r_il2 dX9_takeBack_87, r_il3 dX9_takeBack_88, r_iast dX9_takeBack_89, r_vret dX9_takeBack_90 (Nat.zero_le _) (Nat.zero_le _), List.cons_append, List.nil_append, Nat.reduceAdd, Option.toList, g5_6, g9_2, pk_un, pk_us, rd_up_eq, rd_up_ne, sI_ok, up_eq, up_ne, up_up, z0, hW.r, rd_own hW.r, hW.r, rd_own hW.r, th_0, th_1, th_2, th_3, th_4, th_5, th_6, th_7, th_8, th_9, hsc.r, rd_own hsc.r, hsc.r6, rd_own hsc.r6, nI_clamp (show i < 2 ^ 31 by omega)]
    refine ⟨vp_in_nI (by omega) (by omega), ?_⟩
    have hW2 := hW.s_sc (hsc.w6 (upd (AA 2 6) i b)) (sm.rf.up (by omega))
    rw [va_self] at hW2
    exact hQ _ _ hW2 rfl (fun k q => by rw [vu_ne q]) (sm.rf.up (by omega))
theorem c_undo {z m y : Nat} (hW : TW hm t pa pb qa qb V AA R) (e2 : V 0 2 = nI n) (l2 : n ≤ 12) (e3 : V 2 0 = nI nl) (l3 : nl ≤ 10) (ez : V 6 1 = nI z) (hz : z < 12) (em : V 6 0 = nI m) (hm12 : m ≤ 12) (hy : y = (z + 11) % 12)
    (h0 : m = 0 → Q (some (.int (-5))) hm hs)
    (hk : m ≠ 0 → (AA 6 2 y = 0 ∧ ∃ i j, i < n ∧ j < n ∧ AA 6 3 y = nI i ∧ AA 6 4 y = nI j ∧ ∀ hm' V' AA', TW hm' t pa pb qa qb V' AA' R → V' 6 = upd (upd (V 6) 1 (nI y)) 0 (nI (m - 1)) → V' 0 = upd (V 0) 3 (V 0 3 - 1) → AA' 0 = unlA n i j (AA 0) → V' 7 = upd (upd (V 7) 0 1) 1 1 → AA' 7 = AA 7 → V' 8 = upd (V 8) 0 1 → AA' 8 = AA 8 → (∀ k, k ≠ 0 → k ≠ 6 → k ≠ 7 → k ≠ 8 → V' k = V k) → (∀ k, k ≠ 0 → AA' k = AA k) → sm t (t + 70) hm hm' → Q (some (.int (nI (m - 1)))) hm' hs) ∨
      (AA 6 2 y = 1 ∧ ∃ i j, i < n ∧ j < n ∧ AA 6 3 y = nI i ∧ AA 6 4 y = nI j ∧ ∀ hm' V' AA', TW hm' t pa pb qa qb V' AA' R → V' 6 = upd (upd (V 6) 1 (nI y)) 0 (nI (m - 1)) → V' 0 = upd (V 0) 3 (V 0 3 + 1) → AA' 0 = lnkA n i j (AA 0) → V' 7 = upd (upd (V 7) 0 1) 1 1 → AA' 7 = AA 7 → V' 8 = upd (V 8) 0 1 → AA' 8 = AA 8 → (∀ k, k ≠ 0 → k ≠ 6 → k ≠ 7 → k ≠ 8 → V' k = V k) → (∀ k, k ≠ 0 → AA' k = AA k) → sm t (t + 70) hm hm' → Q (some (.int (nI (m - 1)))) hm' hs) ∨
      (AA 6 2 y = 2 ∧ ∃ i, i < n ∧ AA 6 3 y = nI i ∧ ∀ hm' V' AA', TW hm' t pa pb qa qb V' AA' R → V' 6 = upd (upd (V 6) 1 (nI y)) 0 (nI (m - 1)) → (V' 0 4 = if AA 6 4 y = 0 then (V 0 4 &&& (sb i ^^^ (-1))) ||| sb i else V 0 4 &&& (sb i ^^^ (-1))) → (V' 0 5 = if AA 6 4 y = 1 then (V 0 5 &&& (sb i ^^^ (-1))) ||| sb i else V 0 5 &&& (sb i ^^^ (-1))) → (∀ s, s ≠ 4 → s ≠ 5 → V' 0 s = V 0 s) → V' 8 = upd (V 8) 0 1 → (∀ k, k ≠ 0 → k ≠ 6 → k ≠ 8 → V' k = V k) → (∀ k, AA' k = AA k) → sm t (t + 70) hm hm' → Q (some (.int (nI (m - 1)))) hm' hs) ∨
      (AA 6 2 y = 3 ∧ ∃ i, i < nl ∧ AA 6 3 y = nI i ∧ ∀ hm' V' AA', TW hm' t pa pb qa qb V' AA' R → V' 6 = upd (upd (V 6) 1 (nI y)) 0 (nI (m - 1)) → AA' 2 = va_up (AA 2) 6 (upd (AA 2 6) i (AA 6 4 y)) → (∀ k, k ≠ 6 → V' k = V k) → (∀ k, k ≠ 2 → AA' k = AA k) → sm t (t + 70) hm hm' → Q (some (.int (nI (m - 1)))) hm' hs)) :
    CC X EV (d + 4) 108 [.ref t] hm hs Q := by
  have hac := hW.ac
  refine c_of (ls2 := [.ref t, .null]) Y108 (Nat.le_of_ble_eq_true rfl) rfl I108 ?_
  simp only [r_al0 dX9_undo_0, r_getf dX9_undo_1 F9_46, r_getf dX9_undo_4 F9_105, r_if_ne (tgt := 13) dX9_undo_7 rfl, r_bipush dX9_undo_10 kbm5, r_iret dX9_undo_12 (Nat.zero_le _) (Nat.zero_le _), r_al0 dX9_undo_13, r_getf dX9_undo_14 F9_46, List.cons_append, List.nil_append, Nat.reduceAdd, Option.toList, g0_0, g9_6, z0, hW.r, rd_own hW.r, hW.r, rd_own hW.r, th_0, th_1, th_2, th_3, th_4, th_5, th_6, th_7, th_8, th_9, hac.r, rd_own hac.r, hac.r, rd_own hac.r, em]
  refine ⟨fun k1 => ?_, fun k1 => h0 (by have := Classical.not_not.mp k1; exact (nI_eq (show m < 2 ^ 31 by omega) (show 0 < 2 ^ 31 by omega)).mp this)⟩
  have hm0 : m ≠ 0 := fun e => k1 (by rw [e]; rfl)
  have hk := hk hm0
  have hy12 : y < 12 := by omega
  have hin := vp_in_nI hy12 (by omega)
  refine r_iv1 dX9_undo_17 M9_160 Y2 O2 (Nat.le_of_ble_eq_true rfl) (rcv_own hac.r) (Nat.le_refl _) (Nat.le_refl _) ?_
  refine c_takeLatest hac ez hz (fun hm1 hP1 s1 => ?_)
  rw [← hy]
  rw [← hy, em, show nI m - 1 = nI (m - 1) by rw [show (1 : Int32) = nI 1 from rfl, nI_sub (by omega)]] at hP1
  have hW1 := hW.s_ac hP1 s1
  rw [va_self] at hW1
  simp only [r_is1 dX9_undo_20, r_al0 dX9_undo_21, r_al0 dX9_undo_22, r_getf dX9_undo_23 F9_46, r_getf dX9_undo_26 F9_164, r_il1 dX9_undo_29, r_iald dX9_undo_30, r_al0 dX9_undo_31, r_getf dX9_undo_32 F9_46, r_getf dX9_undo_35 F9_167, r_il1 dX9_undo_38, r_iald dX9_undo_39, r_al0 dX9_undo_40, r_getf dX9_undo_41 F9_46, r_getf dX9_undo_44 F9_170, r_il1 dX9_undo_47, r_iald dX9_undo_48, List.cons_append, List.nil_append, Nat.reduceAdd, Option.toList, aI_ok, cat_f, cat_i, cat_n, cat_r, eq_self, g0_2, g0_3, g0_4, g9_6, true_and, z0, hW1.r, rd_own hW1.r, hW1.r, rd_own hW1.r, th_0, th_1, th_2, th_3, th_4, th_5, th_6, th_7, th_8, th_9, hP1.r, rd_own hP1.r, hP1.r2, rd_own hP1.r2, hP1.r3, rd_own hP1.r3, hP1.r4, rd_own hP1.r4, nI_clamp (show y < 2 ^ 31 by omega)]
  refine ⟨hin, hin, hin, ?_⟩
  refine r_iv4 dX9_undo_49 M9_173 Y109 O109 (Nat.le_of_ble_eq_true rfl) (rcv_own hW1.r) (Nat.le_refl _) (Nat.le_refl _) ?_
  have fin : ∀ hm' V' AA', TW hm' t pa pb qa qb V' AA' R → V' 6 0 = nI (m - 1) → Q (some (.int (nI (m - 1)))) hm' hs → E1 X EV (d + 3) 9 0 0 (some .int) false cX9_undo Q 52 [.ref t, .int (nI y)] [] 0 0 hm' hs := by
    intro hm' V' AA' hW' e hq
    have hp := hW'.ac
    simp only [r_al0 dX9_undo_52, r_getf dX9_undo_53 F9_46, r_getf dX9_undo_56 F9_105, r_iret dX9_undo_59 (Nat.zero_le _) (Nat.zero_le _), List.cons_append, List.nil_append, Nat.reduceAdd, Option.toList, g0_0, g9_6, z0, hW'.r, rd_own hW'.r, hW'.r, rd_own hW'.r, th_0, th_1, th_2, th_3, th_4, th_5, th_6, th_7, th_8, th_9, hp.r, rd_own hp.r, hp.r, rd_own hp.r, e]
    exact hq
  refine c_takeBack hW1 e2 l2 e3 l3 ?_
  rcases hk with ⟨ek, i, j, hi, hj, ei, ej, hQ⟩ | ⟨ek, i, j, hi, hj, ei, ej, hQ⟩ | ⟨ek, i, hi, ei, hQ⟩ | ⟨ek, i, hi, ei, hQ⟩
  · refine Or.inl ⟨ek, i, j, hi, hj, ei, ej, fun hm' V' AA' hW' g1 g2 g3 g4 g5 g6 g7 g8 => ?_⟩
    have g9 : V' 6 = upd (upd (V 6) 1 (nI y)) 0 (nI (m - 1)) := (g7 6 (by decide) (by decide) (by decide)).1
    refine fin hm' V' AA' hW' (by rw [g9, pk_us]) (hQ hm' V' AA' hW' g9 g1 g2 g3 g4 g5 g6 (fun k q0 q6 q7 q8 => ?_) (fun k q0 => ?_) ((s1.wide (by omega)).trans g8))
    · rw [(g7 k q0 q7 q8).1, vu_ne q6]
    · by_cases q7 : k = 7
      · rw [q7, g4]
      · by_cases q8 : k = 8
        · rw [q8, g6]
        · exact (g7 k q0 q7 q8).2
  · refine Or.inr (Or.inl ⟨ek, i, j, hi, hj, ei, ej, fun hm' V' AA' hW' g1 g2 g3 g4 g5 g6 g7 g8 => ?_⟩)
    have g9 : V' 6 = upd (upd (V 6) 1 (nI y)) 0 (nI (m - 1)) := (g7 6 (by decide) (by decide) (by decide)).1
    refine fin hm' V' AA' hW' (by rw [g9, pk_us]) (hQ hm' V' AA' hW' g9 g1 g2 g3 g4 g5 g6 (fun k q0 q6 q7 q8 => ?_) (fun k q0 => ?_) ((s1.wide (by omega)).trans g8))
    · rw [(g7 k q0 q7 q8).1, vu_ne q6]
    · by_cases q7 : k = 7
      · rw [q7, g4]
      · by_cases q8 : k = 8
        · rw [q8, g6]
        · exact (g7 k q0 q7 q8).2
  · refine Or.inr (Or.inr (Or.inl ⟨ek, i, hi, ei, fun hm' V' AA' hW' g1 g2 g3 g4 g5 g6 g7 g8 => ?_⟩))
    have g9 : V' 6 = upd (upd (V 6) 1 (nI y)) 0 (nI (m - 1)) := (g7 6 (by decide) (by decide)).1
    refine fin hm' V' AA' hW' (by rw [g9, pk_us]) (hQ hm' V' AA' hW' g9 g1 g2 g3 g5 (fun k q0 q6 q8 => ?_) (fun k => ?_) ((s1.wide (by omega)).trans g8))
    · rw [(g7 k q0 q8).1, vu_ne q6]
    · by_cases q0 : k = 0
      · rw [q0, g4]
      · by_cases q8 : k = 8
        · rw [q8, g6]
        · exact (g7 k q0 q8).2
  · refine Or.inr (Or.inr (Or.inr ⟨ek, i, hi, ei, fun hm' AA' hW' g1 g2 g3 => ?_⟩))
    exact fin hm' _ AA' hW' (by rw [vu_eq, pk_us]) (hQ hm' _ AA' hW' (vu_eq _ _ _) g1 (fun k q6 => vu_ne q6) g2 ((s1.wide (by omega)).trans g3))
end Q8
