/-! ===== Page: more questions, and what changes it ===== -/
theorem vu_eq {α : Type} (f : Nat → α) (k : Nat) (v : α) : va_up f k v k = v := if_pos rfl
theorem vu_ne {α : Type} {f : Nat → α} {k j : Nat} {v : α} (h : j ≠ k) : va_up f k v j = f j := if_neg h
abbrev BA : Type := (Nat → Int32) × (Nat → Int32)
/-- chains, with i told over j -/
def chs (n i j : Nat) (q : BA) : BA := (fun k => if k < n ∧ bt (q.2 i ||| sb i) k = true then q.1 k ||| (q.1 j ||| sb j) else q.1 k, fun k => if k < n ∧ bt (q.1 j ||| sb j) k = true then q.2 k ||| (q.2 i ||| sb i) else q.2 k)
def chr (n : Nat) (td : Nat → Int32) (i : Nat) : Nat → BA → BA
  | 0, q => q
  | j + 1, q => if bt (td i) j = true then chs n i j (chr n td i j q) else chr n td i j q
def cha (n : Nat) (td : Nat → Int32) : Nat → BA → BA
  | 0, q => q
  | i + 1, q => chr n td i n (cha n td i q)
section P2
variable {X : HM} {EV : Nat → Value} {d : Nat} {hm : HM} {hs : Nat} {Q : QT} {p : Nat} {u : Nat → Int32} {A : Nat → Nat → Int32} {B n : Nat}
theorem c_seenOf {t ml : Int32} (hP : PG hm p u A) (hn : u 2 = nI n) (hn12 : n ≤ 12) (hQ : Q (some (.int (seenv (A 12) n t ml))) hm hs) : CC X EV (d + 2) 33 [.ref p, .int t, .int ml] hm hs Q := by
  refine c_of (ls2 := [.ref p, .int t, .int ml, .null]) Y33 (Nat.le_of_ble_eq_true rfl) rfl I33 ?_
  simp only [r_il1 dX1_seenOf_0, r_if_ne (tgt := 6) dX1_seenOf_1 rfl, r_iconst dX1_seenOf_4 ki0, r_iret dX1_seenOf_5 (Nat.zero_le _) (Nat.zero_le _), r_al0 dX1_seenOf_6, r_il1 dX1_seenOf_7, List.cons_append, List.nil_append, Nat.reduceAdd, Option.toList, z0]
  refine ⟨fun h => ?_, fun h => ?_⟩
  · skip
    refine r_iv2 dX1_seenOf_8 M1_109 Y32 O32 (Nat.le_of_ble_eq_true rfl) (rcv_own hP.r) (Nat.le_refl _) (Nat.le_refl _) ?_
    refine c_topOf hP hn hn12 ?_
    simp only [r_is3 dX1_seenOf_11, r_il3 dX1_seenOf_12, r_iconst dX1_seenOf_13 kim1, r_ic_eq (tgt := 29) dX1_seenOf_14 rfl, r_il2 dX1_seenOf_17, r_il3 dX1_seenOf_18, r_ishr dX1_seenOf_19, r_iconst dX1_seenOf_20 ki1, r_iand dX1_seenOf_21, r_if_eq (tgt := 29) dX1_seenOf_22 rfl, r_iconst dX1_seenOf_25 ki1, r_goto (tgt := 30) dX1_seenOf_26 rfl, r_iconst dX1_seenOf_29 ki2, r_iret dX1_seenOf_30 (Nat.zero_le _) (Nat.zero_le _), List.cons_append, List.nil_append, Nat.reduceAdd, Option.toList, cat_f, cat_i, cat_n, cat_r, eq_self, true_and, z0]
    unfold seenv at hQ
    grind
  · unfold seenv at hQ
    grind
theorem c_layerOf {k : Nat} (hP : PG hm p u A) (hn : u 2 = nI n) (hn12 : n ≤ 12) (hk : k < 12) (hQ : Q (some (.int (nI (layv (A 12) n k)))) hm hs) : CC X EV (d + 2) 30 [.ref p, .int (nI k)] hm hs Q := by
  refine c_of (ls2 := [.ref p, .int (nI k), .null, .null, .null]) Y30 (Nat.le_of_ble_eq_true rfl) rfl I30 ?_
  simp only [r_iconst dX1_layerOf_0 ki0, r_is2 dX1_layerOf_1, r_iconst dX1_layerOf_2 ki0, r_is3 dX1_layerOf_3, r_iconst dX1_layerOf_4 ki0, r_is4 dX1_layerOf_5, List.cons_append, List.nil_append, Nat.reduceAdd, Option.toList, cat_f, cat_i, cat_n, cat_r, eq_self, true_and, z0]
  suffices H : ∀ i, i ≤ n → (∀ j, j < i → ¬ bt (thv (A 12) n (j + 1)) k = true) → E1 X EV (d + 1) 1 0 0 (some .int) false cX1_layerOf Q 7 [.ref p, .int (nI k), .int (thv (A 12) n i), .int (nI i), .int (nI i)] [] 0 0 hm hs from H 0 (Nat.zero_le n) (fun j hj => absurd hj (Nat.not_lt_zero j))
  refine up_loop n _ ?_ ?_
  · intro hw
    simp only [r_il4 dX1_layerOf_7, r_al0 dX1_layerOf_9, r_getf dX1_layerOf_10 F1_18, r_ic_ge (tgt := 44) dX1_layerOf_13 rfl, r_il2 dX1_layerOf_16, r_al0 dX1_layerOf_17, r_il2 dX1_layerOf_18, r_il3 dX1_layerOf_44, r_iret dX1_layerOf_45 (Nat.zero_le _) (Nat.zero_le _), List.cons_append, List.nil_append, Nat.reduceAdd, Option.toList, g1_2, z0, rd_own hP.r, hn]
    refine ⟨fun _ => ?_, fun h => absurd (Int32.le_refl _) h⟩
    rw [layv, fstN_none hw] at hQ
    exact hQ
  · intro i hi ih hw
    simp only [r_il4 dX1_layerOf_7, r_al0 dX1_layerOf_9, r_getf dX1_layerOf_10 F1_18, r_ic_ge (tgt := 44) dX1_layerOf_13 rfl, r_il2 dX1_layerOf_16, r_al0 dX1_layerOf_17, r_il2 dX1_layerOf_18, r_il3 dX1_layerOf_44, r_iret dX1_layerOf_45 (Nat.zero_le _) (Nat.zero_le _), List.cons_append, List.nil_append, Nat.reduceAdd, Option.toList, g1_2, z0, rd_own hP.r, hn]
    simp (disch := omega) only [E2, nI_1, nI_add, nI_leI, nI_ltI, nI_eq, nI_clamp]
    refine ⟨fun h => absurd h (by omega), fun _ => ?_⟩
    refine r_iv2 dX1_layerOf_19 M1_92 Y28 O28 (Nat.le_of_ble_eq_true rfl) (rcv_own hP.r) (Nat.le_refl _) (Nat.le_refl _) ?_
    refine c_readyAfter hP hn hn12 ?_
    simp only [r_ior dX1_layerOf_22, r_is2 dX1_layerOf_23, r_il2 dX1_layerOf_24, r_il1 dX1_layerOf_25, r_ishr dX1_layerOf_26, r_iconst dX1_layerOf_27 ki1, r_iand dX1_layerOf_28, r_if_eq (tgt := 35) dX1_layerOf_29 rfl, r_goto (tgt := 44) dX1_layerOf_32 rfl, r_ii3 dX1_layerOf_35 kn1, r_ii4 dX1_layerOf_38 kn1, r_gotoB (tgt := 7) dX1_layerOf_41 rfl, r_il3 dX1_layerOf_44, r_iret dX1_layerOf_45 (Nat.zero_le _) (Nat.zero_le _), List.cons_append, List.nil_append, Nat.reduceAdd, Option.toList, cat_f, cat_i, cat_n, cat_r, eq_self, true_and, z0, tst0 (show k < 32 by omega)]
    simp (disch := omega) only [E2, nI_1, nI_add, nI_leI, nI_ltI, nI_eq, nI_clamp]
    refine ⟨fun h => ih (fun j hj => ?_), fun h => ?_⟩
    · rcases Nat.lt_or_ge j i with h' | h'
      · exact hw j h'
      · rw [show j = i by omega]
        show ¬ bt (thv (A 12) n i ||| rdy (A 12) (thv (A 12) n i) n) k = true
        rw [h]; decide
    · have e : layv (A 12) n k = i := fstN_some hi (by show bt (thv (A 12) n i ||| rdy (A 12) (thv (A 12) n i) n) k = true; cases hb : bt (thv (A 12) n i ||| rdy (A 12) (thv (A 12) n i) n) k; exact absurd hb h; rfl) hw
      rw [e] at hQ
      exact hQ
def mxl (f : Nat → Nat) : Nat → Nat
  | 0 => 0
  | k + 1 => max (mxl f k) (f k + 1)
theorem c_countLayers (hP : PG hm p u A) (hn : u 2 = nI n) (hn12 : n ≤ 12) (hQ : Q (some (.int (nI (mxl (layv (A 12) n) n)))) hm hs) : CC X EV (d + 3) 31 [.ref p] hm hs Q := by
  have hb : ∀ k, mxl (layv (A 12) n) k ≤ 13 := by
    intro k
    induction k with
    | zero => simp [mxl]
    | succ k ih => have := fstN_le (P := fun i => bt (thv (A 12) n (i + 1)) k = true) n; have e : mxl (layv (A 12) n) (k + 1) = max (mxl (layv (A 12) n) k) (layv (A 12) n k + 1) := rfl; have : layv (A 12) n k ≤ n := fstN_le n; omega
  refine c_of (ls2 := [.ref p, .null, .null]) Y31 (Nat.le_of_ble_eq_true rfl) rfl I31 ?_
  simp only [r_iconst dX1_countLayers_0 ki0, r_is1 dX1_countLayers_1, r_iconst dX1_countLayers_2 ki0, r_is2 dX1_countLayers_3, List.cons_append, List.nil_append, Nat.reduceAdd, Option.toList, cat_f, cat_i, cat_n, cat_r, eq_self, true_and, z0]
  refine up_loop n (fun k => E1 X EV (d + 2) 1 0 0 (some .int) false cX1_countLayers Q 4 [.ref p, .int (nI (mxl (layv (A 12) n) k)), .int (nI k)] [] 0 0 hm hs) ?_ ?_ 0 (Nat.zero_le n)
  · skip
    simp only [r_il2 dX1_countLayers_4, r_al0 dX1_countLayers_5, r_getf dX1_countLayers_6 F1_18, r_ic_ge (tgt := 30) dX1_countLayers_9 rfl, r_il1 dX1_countLayers_12, r_al0 dX1_countLayers_13, r_il2 dX1_countLayers_14, r_il1 dX1_countLayers_30, r_iret dX1_countLayers_31 (Nat.zero_le _) (Nat.zero_le _), List.cons_append, List.nil_append, Nat.reduceAdd, Option.toList, g1_2, z0, rd_own hP.r, hn]
    exact ⟨fun _ => hQ, fun h => absurd (Int32.le_refl _) h⟩
  · intro k hk ih
    simp only [r_il2 dX1_countLayers_4, r_al0 dX1_countLayers_5, r_getf dX1_countLayers_6 F1_18, r_ic_ge (tgt := 30) dX1_countLayers_9 rfl, r_il1 dX1_countLayers_12, r_al0 dX1_countLayers_13, r_il2 dX1_countLayers_14, r_il1 dX1_countLayers_30, r_iret dX1_countLayers_31 (Nat.zero_le _) (Nat.zero_le _), List.cons_append, List.nil_append, Nat.reduceAdd, Option.toList, g1_2, z0, rd_own hP.r, hn]
    simp (disch := omega) only [E2, nI_1, nI_add, nI_leI, nI_ltI, nI_eq, nI_clamp]
    refine ⟨fun h => absurd h (by omega), fun _ => ?_⟩
    refine r_iv2 dX1_countLayers_15 M1_101 Y30 O30 (Nat.le_of_ble_eq_true rfl) (rcv_own hP.r) (Nat.le_refl _) (Nat.le_refl _) ?_
    refine c_layerOf hP hn hn12 (by omega) ?_
    simp only [r_iconst dX1_countLayers_18 ki1, r_iadd dX1_countLayers_19, r_max dX1_countLayers_20 M1_104, r_is1 dX1_countLayers_23, r_ii2 dX1_countLayers_24 kn1, r_gotoB (tgt := 4) dX1_countLayers_27 rfl, List.cons_append, List.length_cons, List.length_nil, List.nil_append, Nat.le_refl, Nat.reduceAdd, Nat.reduceLeDiff, Nat.zero_le, Option.toList, cat_f, cat_i, cat_n, cat_r, eq_self, true_and, z0]
    have h1 := hb k
    have h2 := hb (k + 1)
    have h3 : layv (A 12) n k ≤ n := fstN_le n
    simp (disch := omega) only [E2, nI_1, nI_add, nI_leI, nI_ltI, nI_eq, nI_clamp]
    have e : (if mxl (layv (A 12) n) k < layv (A 12) n k + 1 then nI (layv (A 12) n k + 1) else nI (mxl (layv (A 12) n) k)) = nI (mxl (layv (A 12) n) (k + 1)) := by
      have e : mxl (layv (A 12) n) (k + 1) = max (mxl (layv (A 12) n) k) (layv (A 12) n k + 1) := rfl
      rw [e]
      split
      · rw [Nat.max_eq_right (by omega)]
      · rw [Nat.max_eq_left (by omega)]
    rw [e]
    exact ih
theorem c_setHand {i : Nat} {h : Int32} (hP : PG hm p u A) (hi : i < 12) (hQ : ∀ hm' u', PG hm' p u' A → (u' 4 = if h = 0 then (u 4 &&& (sb i ^^^ (-1))) ||| sb i else u 4 &&& (sb i ^^^ (-1))) → (u' 5 = if h = 1 then (u 5 &&& (sb i ^^^ (-1))) ||| sb i else u 5 &&& (sb i ^^^ (-1))) → (∀ s, s ≠ 4 → s ≠ 5 → u' s = u s) → sm p (p + 10) hm hm' → Q none hm' hs) : CC X EV (d + 1) 24 [.ref p, .int (nI i), .int h] hm hs Q := by
  refine c_of (ls2 := [.ref p, .int (nI i), .int h, .null]) Y24 (Nat.le_of_ble_eq_true rfl) rfl I24 ?_
  simp (disch := first | omega | (simp only [List.length_cons, List.length_nil]; omega)) only [r_iconst dX1_setHand_0 ki1, r_il1 dX1_setHand_1, r_ishl dX1_setHand_2, r_is3 dX1_setHand_3, r_al0 dX1_setHand_4, r_dup_i dX1_setHand_5, r_dup_r dX1_setHand_5, r_getf dX1_setHand_6 F1_24, r_il3 dX1_setHand_9, r_iconst dX1_setHand_10 kim1, r_ixor dX1_setHand_11, r_iand dX1_setHand_12, r_putf dX1_setHand_13 F1_24, r_al0 dX1_setHand_16, r_dup_i dX1_setHand_17, r_dup_r dX1_setHand_17, r_getf dX1_setHand_18 F1_27, r_il3 dX1_setHand_21, r_iconst dX1_setHand_22 kim1, r_ixor dX1_setHand_23, r_iand dX1_setHand_24, r_putf dX1_setHand_25 F1_27, r_il2 dX1_setHand_28, r_if_ne (tgt := 42) dX1_setHand_29 rfl, r_al0 dX1_setHand_32, r_dup_i dX1_setHand_33, r_dup_r dX1_setHand_33, r_getf dX1_setHand_34 F1_24, r_il3 dX1_setHand_37, r_ior dX1_setHand_38, r_putf dX1_setHand_39 F1_24, r_il2 dX1_setHand_42, r_iconst dX1_setHand_43 ki1, r_ic_ne (tgt := 57) dX1_setHand_44 rfl, r_al0 dX1_setHand_47, r_dup_i dX1_setHand_48, r_dup_r dX1_setHand_48, r_getf dX1_setHand_49 F1_27, r_il3 dX1_setHand_52, r_ior dX1_setHand_53, r_putf dX1_setHand_54 F1_27, r_vret dX1_setHand_57 (Nat.zero_le _) (Nat.zero_le _), List.cons_append, List.nil_append, Nat.reduceAdd, Option.toList, cat_f, cat_i, cat_n, cat_r, eq_self, fit_i, ft1_4, ft1_5, g1_4, g1_5, p1_4, p1_5, pk_un, pk_us, rd_up_eq, rd_up_ne, true_and, up_eq, up_ne, up_up, z0, hP.r, rd_own hP.r, hP.r, rd_own hP.r]
  unfold sb at hQ
  refine ⟨fun h0 => ⟨fun h1 => ?_, fun h1 => ?_⟩, fun h0 => ⟨fun h1 => ?_, fun h1 => ?_⟩⟩
  all_goals refine hQ _ _ (hP.o _) ?_ ?_ (fun s a b => ?_) (sm.rf.up (by omega))
  all_goals simp (disch := first | omega | assumption) only [pk_us, pk_un]
  all_goals grind
theorem c_addChains {i j : Nat} (hP : PG hm p u A) (hn : u 2 = nI n) (hn12 : n ≤ 12) (hi : i < 12) (hj : j < 12) (hQ : ∀ hm' A', PG hm' p u A' → (∀ s, s ≠ 12 → s ≠ 13 → A' s = A s) → (A' 12, A' 13) = chs n i j (A 12, A 13) → sm p (p + 10) hm hm' → Q none hm' hs) : CC X EV (d + 1) 21 [.ref p, .int (nI i), .int (nI j)] hm hs Q := by
  refine c_of (ls2 := [.ref p, .int (nI i), .int (nI j), .null, .null, .null]) Y21 (Nat.le_of_ble_eq_true rfl) rfl I21 ?_
  simp only [r_al0 dX1_addChains_0, r_getf dX1_addChains_1 F1_49, r_il2 dX1_addChains_4, r_iald dX1_addChains_5, r_iconst dX1_addChains_6 ki1, r_il2 dX1_addChains_7, r_ishl dX1_addChains_8, r_ior dX1_addChains_9, r_is3 dX1_addChains_10, r_al0 dX1_addChains_11, r_getf dX1_addChains_12 F1_52, r_il1 dX1_addChains_15, r_iald dX1_addChains_16, r_iconst dX1_addChains_17 ki1, r_il1 dX1_addChains_18, r_ishl dX1_addChains_19, r_ior dX1_addChains_20, r_is4 dX1_addChains_21, r_iconst dX1_addChains_23 ki0, r_is5 dX1_addChains_24, List.cons_append, List.nil_append, Nat.reduceAdd, Option.toList, aI_ok, cat_f, cat_i, cat_n, cat_r, eq_self, g1_12, g1_13, true_and, z0, hP.r, rd_own hP.r, hP.r12, rd_own hP.r12, hP.r13, rd_own hP.r13, nI_clamp (show i < 2 ^ 31 by omega), nI_clamp (show j < 2 ^ 31 by omega)]
  refine ⟨vp_in_nI hj (by omega), vp_in_nI hi (by omega), ?_⟩
  rw [show (1 : Int32) <<< (nI j &&& 31) = sb j from rfl, show (1 : Int32) <<< (nI i &&& 31) = sb i from rfl]
  obtain ⟨dn, hdn⟩ : ∃ z, z = A 12 j ||| sb j := ⟨_, rfl⟩
  obtain ⟨up, hup⟩ : ∃ z, z = A 13 i ||| sb i := ⟨_, rfl⟩
  rw [← hdn, ← hup]
  suffices H : ∀ k, k ≤ n → ∀ hm' A', PG hm' p u A' → (∀ s, s ≠ 12 → s ≠ 13 → A' s = A s) → (∀ x, A' 12 x = if x < k ∧ bt up x = true then A 12 x ||| dn else A 12 x) → (∀ x, A' 13 x = if x < k ∧ bt dn x = true then A 13 x ||| up else A 13 x) → sm p (p + 10) hm hm' → E1 X EV d 1 0 0 none false cX1_addChains Q 26 [.ref p, .int (nI i), .int (nI j), .int dn, .int up, .int (nI k)] [] 0 0 hm' hs from
    H 0 (Nat.zero_le n) hm A hP (fun _ _ _ => rfl) (fun x => by simp) (fun x => by simp) sm.rf
  refine up_loop n _ ?_ ?_
  · intro hm' A' hP' h1 h2 h3 h4
    simp (disch := first | omega | (simp only [List.length_cons, List.length_nil]; omega)) only [r_il5 dX1_addChains_26, r_al0 dX1_addChains_28, r_getf dX1_addChains_29 F1_18, r_ic_ge (tgt := 83) dX1_addChains_32 rfl, r_il4 dX1_addChains_35, r_il5 dX1_addChains_37, r_ishr dX1_addChains_39, r_iconst dX1_addChains_40 ki1, r_iand dX1_addChains_41, r_if_eq (tgt := 56) dX1_addChains_42 rfl, r_al0 dX1_addChains_45, r_getf dX1_addChains_46 F1_49, r_il5 dX1_addChains_49, r_dup2_ir dX1_addChains_51, r_dup2_l dX1_addChains_51, r_iald dX1_addChains_52, r_il3 dX1_addChains_53, r_ior dX1_addChains_54, r_iast dX1_addChains_55, r_il3 dX1_addChains_56, r_il5 dX1_addChains_57, r_ishr dX1_addChains_59, r_iconst dX1_addChains_60 ki1, r_iand dX1_addChains_61, r_if_eq (tgt := 77) dX1_addChains_62 rfl, r_al0 dX1_addChains_65, r_getf dX1_addChains_66 F1_52, r_il5 dX1_addChains_69, r_dup2_ir dX1_addChains_71, r_dup2_l dX1_addChains_71, r_iald dX1_addChains_72, r_il4 dX1_addChains_73, r_ior dX1_addChains_75, r_iast dX1_addChains_76, r_ii5 dX1_addChains_77 kn1, r_gotoB (tgt := 26) dX1_addChains_80 rfl, r_vret dX1_addChains_83 (Nat.zero_le _) (Nat.zero_le _), List.cons_append, List.nil_append, Nat.reduceAdd, Option.toList, aI_ok, cat_f, cat_i, cat_n, cat_r, eq_self, g1_12, g1_13, g1_2, pk_un, pk_us, rd_up_eq, rd_up_ne, sI_ok, true_and, up_eq, up_ne, up_up, z0, hP'.r, rd_own hP'.r, hP'.r12, rd_own hP'.r12, hP'.r13, rd_own hP'.r13, hn]
    refine ⟨fun _ => hQ hm' A' hP' h1 ?_ h4, fun h => absurd (Int32.le_refl _) h⟩
    unfold chs
    rw [← hdn, ← hup]
    refine Prod.ext (funext fun x => ?_) (funext fun x => ?_)
    · exact h2 x
    · exact h3 x
  · intro k hk ih hm' A' hP' h1 h2 h3 h4
    simp (disch := first | omega | (simp only [List.length_cons, List.length_nil]; omega)) only [r_il5 dX1_addChains_26, r_al0 dX1_addChains_28, r_getf dX1_addChains_29 F1_18, r_ic_ge (tgt := 83) dX1_addChains_32 rfl, r_il4 dX1_addChains_35, r_il5 dX1_addChains_37, r_ishr dX1_addChains_39, r_iconst dX1_addChains_40 ki1, r_iand dX1_addChains_41, r_if_eq (tgt := 56) dX1_addChains_42 rfl, r_al0 dX1_addChains_45, r_getf dX1_addChains_46 F1_49, r_il5 dX1_addChains_49, r_dup2_ir dX1_addChains_51, r_dup2_l dX1_addChains_51, r_iald dX1_addChains_52, r_il3 dX1_addChains_53, r_ior dX1_addChains_54, r_iast dX1_addChains_55, r_il3 dX1_addChains_56, r_il5 dX1_addChains_57, r_ishr dX1_addChains_59, r_iconst dX1_addChains_60 ki1, r_iand dX1_addChains_61, r_if_eq (tgt := 77) dX1_addChains_62 rfl, r_al0 dX1_addChains_65, r_getf dX1_addChains_66 F1_52, r_il5 dX1_addChains_69, r_dup2_ir dX1_addChains_71, r_dup2_l dX1_addChains_71, r_iald dX1_addChains_72, r_il4 dX1_addChains_73, r_ior dX1_addChains_75, r_iast dX1_addChains_76, r_ii5 dX1_addChains_77 kn1, r_gotoB (tgt := 26) dX1_addChains_80 rfl, r_vret dX1_addChains_83 (Nat.zero_le _) (Nat.zero_le _), List.cons_append, List.nil_append, Nat.reduceAdd, Option.toList, aI_ok, cat_f, cat_i, cat_n, cat_r, eq_self, g1_12, g1_13, g1_2, pk_un, pk_us, rd_up_eq, rd_up_ne, sI_ok, true_and, up_eq, up_ne, up_up, z0, hP'.r, rd_own hP'.r, hP'.r12, rd_own hP'.r12, hP'.r13, rd_own hP'.r13, hn, tst0 (show k < 32 by omega)]
    simp (disch := omega) only [E2, nI_1, nI_add, nI_leI, nI_ltI, nI_eq, nI_clamp]
    have hin := vp_in_nI (show k < 12 by omega) (by omega)
    refine ⟨fun h => absurd h (by omega), fun _ => ⟨fun hu => ⟨fun hd => ?_, fun hd => ⟨hin, hin, ?_⟩⟩, fun hu => ⟨hin, hin, fun hd => ?_, fun hd => ⟨hin, hin, ?_⟩⟩⟩⟩
    · exact ih hm' A' hP' h1 (fun x => by grind) (fun x => by grind) h4
    · refine ih _ _ (hP'.w13 _) (fun s a b => ?_) (fun x => ?_) (fun x => ?_) (h4.up (by omega))
      · rw [vu_ne b]; exact h1 s a b
      · rw [vu_ne (by decide)]; grind
      · rw [vu_eq]; unfold upd; grind
    · refine ih _ _ (hP'.w12 _) (fun s a b => ?_) (fun x => ?_) (fun x => ?_) (h4.up (by omega))
      · rw [vu_ne a]; exact h1 s a b
      · rw [vu_eq]; unfold upd; grind
      · rw [vu_ne (by decide)]; grind
    · refine ih _ _ ((hP'.w12 _).w13 _) (fun s a b => ?_) (fun x => ?_) (fun x => ?_) ((h4.up (by omega)).up (by omega))
      · rw [vu_ne b, vu_ne a]; exact h1 s a b
      · rw [vu_ne (by decide), vu_eq]; unfold upd; grind
      · rw [vu_eq]; unfold upd; grind
theorem c_link {i j : Nat} (hP : PG hm p u A) (hn : u 2 = nI n) (hn12 : n ≤ 12) (hi : i < 12) (hj : j < 12) (hQ : ∀ hm' A', PG hm' p (upd u 3 (u 3 + 1)) A' → (∀ s, s ≠ 11 → s ≠ 12 → s ≠ 13 → A' s = A s) → A' 11 = upd (A 11) i (A 11 i ||| sb j) → (A' 12, A' 13) = chs n i j (A 12, A 13) → sm p (p + 10) hm hm' → Q none hm' hs) : CC X EV (d + 2) 19 [.ref p, .int (nI i), .int (nI j)] hm hs Q := by
  refine c_of (ls2 := [.ref p, .int (nI i), .int (nI j)]) Y19 (Nat.le_of_ble_eq_true rfl) rfl I19 ?_
  simp (disch := first | omega | (simp only [List.length_cons, List.length_nil]; omega)) only [r_al0 dX1_link_0, r_getf dX1_link_1 F1_46, r_il1 dX1_link_4, r_dup2_ir dX1_link_5, r_dup2_l dX1_link_5, r_iald dX1_link_6, r_iconst dX1_link_7 ki1, r_il2 dX1_link_8, r_ishl dX1_link_9, r_ior dX1_link_10, r_iast dX1_link_11, r_al0 dX1_link_12, r_dup_i dX1_link_13, r_dup_r dX1_link_13, r_getf dX1_link_14 F1_21, r_iconst dX1_link_17 ki1, r_iadd dX1_link_18, r_putf dX1_link_19 F1_21, r_al0 dX1_link_22, r_il1 dX1_link_23, r_il2 dX1_link_24, List.cons_append, List.nil_append, Nat.reduceAdd, Option.toList, aI_ok, fit_i, ft1_3, g1_11, g1_3, p1_3, pk_un, pk_us, rd_up_eq, rd_up_ne, sI_ok, true_and, up_eq, up_ne, up_up, z0, hP.r, rd_own hP.r, hP.r11, rd_own hP.r11, nI_clamp (show i < 2 ^ 31 by omega)]
  refine ⟨vp_in_nI hi (by omega), vp_in_nI hi (by omega), ?_⟩
  have hP1 := ((hP.w11 (upd (A 11) i (A 11 i ||| 1 <<< (nI j &&& 31)))).o (upd u 3 (u 3 + 1)))
  refine r_iv3 dX1_link_25 M1_88 Y21 O21 (Nat.le_of_ble_eq_true rfl) (rcv_own hP1.r) (Nat.le_refl _) (Nat.le_refl _) ?_
  refine c_addChains hP1 (by rw [pk_un (by decide)]; exact hn) hn12 hi hj (fun hm' A' hP' h1 h2 h3 => ?_)
  simp only [r_vret dX1_link_28 (Nat.zero_le _) (Nat.zero_le _), List.cons_append, List.nil_append, Nat.reduceAdd, Option.toList, z0]
  refine hQ hm' A' hP' (fun s a b c => ?_) ?_ ?_ ?_
  · rw [h1 s b c, vu_ne a]
  · rw [h1 11 (by decide) (by decide), vu_eq]; rfl
  · rw [h2, vu_ne (by decide), vu_ne (by decide)]
  · exact ((sm.rf.up (by omega)).up (by omega)).trans h3
theorem c_unlink {i j : Nat} (hP : PG hm p u A) (hn : u 2 = nI n) (hn12 : n ≤ 12) (hi : i < 12) (hj : j < 12) (hQ : ∀ hm' A', PG hm' p (upd u 3 (u 3 - 1)) A' → (∀ s, s ≠ 11 → s ≠ 12 → s ≠ 13 → A' s = A s) → A' 11 = upd (A 11) i (A 11 i &&& (sb j ^^^ (-1))) → (A' 12, A' 13) = cha n (upd (A 11) i (A 11 i &&& (sb j ^^^ (-1)))) n (fun k => if k < n then 0 else A 12 k, fun k => if k < n then 0 else A 13 k) → sm p (p + 10) hm hm' → Q none hm' hs) : CC X EV (d + 2) 20 [.ref p, .int (nI i), .int (nI j)] hm hs Q := by
  refine c_of (ls2 := [.ref p, .int (nI i), .int (nI j), .null, .null]) Y20 (Nat.le_of_ble_eq_true rfl) rfl I20 ?_
  simp (disch := first | omega | (simp only [List.length_cons, List.length_nil]; omega)) only [r_al0 dX1_unlink_0, r_getf dX1_unlink_1 F1_46, r_il1 dX1_unlink_4, r_dup2_ir dX1_unlink_5, r_dup2_l dX1_unlink_5, r_iald dX1_unlink_6, r_iconst dX1_unlink_7 ki1, r_il2 dX1_unlink_8, r_ishl dX1_unlink_9, r_iconst dX1_unlink_10 kim1, r_ixor dX1_unlink_11, r_iand dX1_unlink_12, r_iast dX1_unlink_13, r_al0 dX1_unlink_14, r_dup_i dX1_unlink_15, r_dup_r dX1_unlink_15, r_getf dX1_unlink_16 F1_21, r_iconst dX1_unlink_19 ki1, r_isub dX1_unlink_20, r_putf dX1_unlink_21 F1_21, r_iconst dX1_unlink_24 ki0, r_is3 dX1_unlink_25, List.cons_append, List.nil_append, Nat.reduceAdd, Option.toList, aI_ok, cat_f, cat_i, cat_n, cat_r, eq_self, fit_i, ft1_3, g1_11, g1_3, p1_3, pk_un, pk_us, rd_up_eq, rd_up_ne, sI_ok, true_and, up_eq, up_ne, up_up, z0, hP.r, rd_own hP.r, hP.r11, rd_own hP.r11, nI_clamp (show i < 2 ^ 31 by omega)]
  refine ⟨vp_in_nI hi (by omega), vp_in_nI hi (by omega), ?_⟩
  obtain ⟨T, hT⟩ : ∃ T, T = upd (A 11) i (A 11 i &&& (sb j ^^^ (-1))) := ⟨_, rfl⟩
  have hP1 := ((hP.w11 T).o (upd u 3 (u 3 - 1)))
  have hm1 : sm p (p + 10) hm _ := (sm.rf.up (a := p + 6) (c := ia 12 T) (by omega)).up (a := p) (c := .inr (1, fs_PG p (upd u 3 (u 3 - 1)))) (by omega)
  rw [show upd (A 11) i (A 11 i &&& (1 <<< (nI j &&& 31) ^^^ -1)) = T from hT.symm]
  rw [← hT] at hQ
  have hn1 : (upd u 3 (u 3 - 1)) 2 = nI n := by rw [pk_un (by decide)]; exact hn
  generalize upd u 3 (u 3 - 1) = u1 at hP1 hm1 hn1 hQ ⊢
  have hA1 : (∀ s, s ≠ 11 → s ≠ 12 → s ≠ 13 → va_up A 11 T s = A s) ∧ va_up A 11 T 11 = T ∧ va_up A 11 T 12 = A 12 ∧ va_up A 11 T 13 = A 13 := ⟨fun s a _ _ => vu_ne a, vu_eq _ _ _, vu_ne (by decide), vu_ne (by decide)⟩
  generalize im_up (im_up hm (p + 6) (ia 12 T)) p (.inr (1, fs_PG p u1)) = hm1' at hP1 hm1 ⊢
  generalize va_up A 11 T = A1 at hP1 hA1
  suffices H : ∀ k, k ≤ n → ∀ hm' A', PG hm' p u1 A' → (∀ s, s ≠ 11 → s ≠ 12 → s ≠ 13 → A' s = A s) → A' 11 = T → (∀ x, A' 12 x = if x < k then 0 else A 12 x) → (∀ x, A' 13 x = if x < k then 0 else A 13 x) → sm p (p + 10) hm hm' → E1 X EV (d + 1) 1 0 0 none false cX1_unlink Q 26 [.ref p, .int (nI i), .int (nI j), .int (nI k), .null] [] 0 0 hm' hs from
    H 0 (Nat.zero_le n) hm1' A1 hP1 hA1.1 hA1.2.1 (fun x => by rw [hA1.2.2.1]; simp) (fun x => by rw [hA1.2.2.2]; simp) hm1
  refine up_loop n _ ?_ ?_
  · intro hm' A' hP' h1 h2 h3 h4 h5
    simp (disch := first | omega | (simp only [List.length_cons, List.length_nil]; omega)) only [r_il3 dX1_unlink_26, r_al0 dX1_unlink_27, r_getf dX1_unlink_28 F1_18, r_ic_ge (tgt := 54) dX1_unlink_31 rfl, r_al0 dX1_unlink_34, r_getf dX1_unlink_35 F1_49, r_il3 dX1_unlink_38, r_iconst dX1_unlink_39 ki0, r_iast dX1_unlink_40, r_al0 dX1_unlink_41, r_getf dX1_unlink_42 F1_52, r_il3 dX1_unlink_45, r_iconst dX1_unlink_46 ki0, r_iast dX1_unlink_47, r_ii3 dX1_unlink_48 kn1, r_gotoB (tgt := 26) dX1_unlink_51 rfl, r_iconst dX1_unlink_54 ki0, r_is3 dX1_unlink_55, List.cons_append, List.nil_append, Nat.reduceAdd, Option.toList, cat_f, cat_i, cat_n, cat_r, eq_self, g1_12, g1_13, g1_2, pk_un, pk_us, rd_up_eq, rd_up_ne, sI_ok, true_and, up_eq, up_ne, up_up, z0, hP'.r, rd_own hP'.r, hP'.r12, rd_own hP'.r12, hP'.r13, rd_own hP'.r13, hn1]
    refine ⟨fun _ => ?_, fun h => absurd (Int32.le_refl _) h⟩
    have e0 : (A' 12, A' 13) = cha n T 0 (fun k => if k < n then 0 else A 12 k, fun k => if k < n then 0 else A 13 k) := Prod.ext (funext h3) (funext h4)
    generalize ((fun k => if k < n then 0 else A 12 k, fun k => if k < n then 0 else A 13 k) : BA) = q0 at hQ e0
    clear h3 h4
    suffices H : ∀ k, k ≤ n → ∀ w hm' A', PG hm' p u1 A' → (∀ s, s ≠ 11 → s ≠ 12 → s ≠ 13 → A' s = A s) → A' 11 = T → (A' 12, A' 13) = cha n T k q0 → sm p (p + 10) hm hm' → E1 X EV (d + 1) 1 0 0 none false cX1_unlink Q 56 [.ref p, .int (nI i), .int (nI j), .int (nI k), w] [] 0 0 hm' hs from
      H 0 (Nat.zero_le n) _ hm' A' hP' h1 h2 e0 h5
    refine up_loop n _ ?_ ?_
    · intro w hm' A' hP' h1 h2 h3 h4
      simp only [r_il3 dX1_unlink_56, r_al0 dX1_unlink_57, r_getf dX1_unlink_58 F1_18, r_ic_ge (tgt := 105) dX1_unlink_61 rfl, r_iconst dX1_unlink_64 ki0, r_is4 dX1_unlink_65, r_vret dX1_unlink_105 (Nat.zero_le _) (Nat.zero_le _), List.cons_append, List.nil_append, Nat.reduceAdd, Option.toList, cat_f, cat_i, cat_n, cat_r, eq_self, g1_2, true_and, z0, hP'.r, rd_own hP'.r, hP'.r12, rd_own hP'.r12, hP'.r13, rd_own hP'.r13, hn1]
      exact ⟨fun _ => hQ hm' A' hP' h1 h2 h3 h4, fun h => absurd (Int32.le_refl _) h⟩
    · intro k hk ih w hm' A' hP' h1 h2 h3 h4
      simp only [r_il3 dX1_unlink_56, r_al0 dX1_unlink_57, r_getf dX1_unlink_58 F1_18, r_ic_ge (tgt := 105) dX1_unlink_61 rfl, r_iconst dX1_unlink_64 ki0, r_is4 dX1_unlink_65, r_vret dX1_unlink_105 (Nat.zero_le _) (Nat.zero_le _), List.cons_append, List.nil_append, Nat.reduceAdd, Option.toList, cat_f, cat_i, cat_n, cat_r, eq_self, g1_2, true_and, z0, hP'.r, rd_own hP'.r, hP'.r12, rd_own hP'.r12, hP'.r13, rd_own hP'.r13, hn1]
      simp (disch := omega) only [E2, nI_1, nI_add, nI_leI, nI_ltI, nI_eq, nI_clamp]
      refine ⟨fun h => absurd h (by omega), fun _ => ?_⟩
      suffices H : ∀ k2, k2 ≤ n → ∀ hm' A', PG hm' p u1 A' → (∀ s, s ≠ 11 → s ≠ 12 → s ≠ 13 → A' s = A s) → A' 11 = T → (A' 12, A' 13) = chr n T k k2 (cha n T k q0) → sm p (p + 10) hm hm' → E1 X EV (d + 1) 1 0 0 none false cX1_unlink Q 67 [.ref p, .int (nI i), .int (nI j), .int (nI k), .int (nI k2)] [] 0 0 hm' hs from
        H 0 (Nat.zero_le n) hm' A' hP' h1 h2 h3 h4
      refine up_loop n _ ?_ ?_
      · intro hm' A' hP' h1 h2 h3 h4
        simp only [r_il4 dX1_unlink_67, r_al0 dX1_unlink_69, r_getf dX1_unlink_70 F1_18, r_ic_ge (tgt := 99) dX1_unlink_73 rfl, r_al0 dX1_unlink_76, r_il3 dX1_unlink_77, r_il4 dX1_unlink_78, r_ii3 dX1_unlink_99 kn1, r_gotoB (tgt := 56) dX1_unlink_102 rfl, List.cons_append, List.nil_append, Nat.reduceAdd, Option.toList, cat_f, cat_i, cat_n, cat_r, eq_self, g1_2, true_and, z0, hP'.r, rd_own hP'.r, hP'.r12, rd_own hP'.r12, hP'.r13, rd_own hP'.r13, hn1]
        simp (disch := omega) only [E2, nI_1, nI_add, nI_leI, nI_ltI, nI_eq, nI_clamp]
        exact ⟨fun _ => ih _ hm' A' hP' h1 h2 h3 h4, fun h => absurd (Nat.le_refl _) h⟩
      · intro k2 hk2 ih2 hm' A' hP' h1 h2 h3 h4
        simp only [r_il4 dX1_unlink_67, r_al0 dX1_unlink_69, r_getf dX1_unlink_70 F1_18, r_ic_ge (tgt := 99) dX1_unlink_73 rfl, r_al0 dX1_unlink_76, r_il3 dX1_unlink_77, r_il4 dX1_unlink_78, r_ii3 dX1_unlink_99 kn1, r_gotoB (tgt := 56) dX1_unlink_102 rfl, List.cons_append, List.nil_append, Nat.reduceAdd, Option.toList, cat_f, cat_i, cat_n, cat_r, eq_self, g1_2, true_and, z0, hP'.r, rd_own hP'.r, hP'.r12, rd_own hP'.r12, hP'.r13, rd_own hP'.r13, hn1]
        simp (disch := omega) only [E2, nI_1, nI_add, nI_leI, nI_ltI, nI_eq, nI_clamp]
        refine ⟨fun h => absurd h (by omega), fun _ => ?_⟩
        refine r_iv3 dX1_unlink_80 M1_85 Y15 O15 (Nat.le_of_ble_eq_true rfl) (rcv_own hP'.r) (Nat.le_refl _) (Nat.le_refl _) ?_
        refine c_isTold hP' (by omega) (by omega) ?_
        simp only [r_if_eq (tgt := 93) dX1_unlink_83 rfl, r_al0 dX1_unlink_86, r_il3 dX1_unlink_87, r_il4 dX1_unlink_88, r_ii4 dX1_unlink_93 kn1, r_gotoB (tgt := 67) dX1_unlink_96 rfl, List.cons_append, List.nil_append, Nat.reduceAdd, Option.toList, cat_f, cat_i, cat_n, cat_r, eq_self, true_and, z0]
        simp (disch := omega) only [E2, nI_1, nI_add, nI_leI, nI_ltI, nI_eq, nI_clamp]
        refine ⟨fun hb => ?_, fun hb => ?_⟩
        · refine ih2 hm' A' hP' h1 h2 ?_ h4
          rw [h3]
          show _ = if _ then _ else _
          rw [if_neg (by rw [← h2]; exact hb)]
        · skip
          refine r_iv3 dX1_unlink_90 M1_88 Y21 O21 (Nat.le_of_ble_eq_true rfl) (rcv_own hP'.r) (Nat.le_refl _) (Nat.le_refl _) ?_
          refine c_addChains hP' hn1 hn12 (by omega) (by omega) (fun hm2 A2 hP2 g1 g2 g3 => ?_)
          simp only [r_ii4 dX1_unlink_93 kn1, r_gotoB (tgt := 67) dX1_unlink_96 rfl, List.cons_append, List.nil_append, Nat.reduceAdd, Option.toList, cat_f, cat_i, cat_n, cat_r, eq_self, true_and, z0]
          simp (disch := omega) only [E2, nI_1, nI_add, nI_leI, nI_ltI, nI_eq, nI_clamp]
          refine ih2 hm2 A2 hP2 (fun s a b c => (g1 s b c).trans (h1 s a b c)) ((g1 11 (by decide) (by decide)).trans h2) ?_ (h4.trans g3)
          rw [g2, h3]
          show _ = if _ then _ else _
          rw [if_pos (by rw [← h2]; exact Classical.not_not.mp hb)]
  · intro k hk ih hm' A' hP' h1 h2 h3 h4 h5
    simp (disch := first | omega | (simp only [List.length_cons, List.length_nil]; omega)) only [r_il3 dX1_unlink_26, r_al0 dX1_unlink_27, r_getf dX1_unlink_28 F1_18, r_ic_ge (tgt := 54) dX1_unlink_31 rfl, r_al0 dX1_unlink_34, r_getf dX1_unlink_35 F1_49, r_il3 dX1_unlink_38, r_iconst dX1_unlink_39 ki0, r_iast dX1_unlink_40, r_al0 dX1_unlink_41, r_getf dX1_unlink_42 F1_52, r_il3 dX1_unlink_45, r_iconst dX1_unlink_46 ki0, r_iast dX1_unlink_47, r_ii3 dX1_unlink_48 kn1, r_gotoB (tgt := 26) dX1_unlink_51 rfl, r_iconst dX1_unlink_54 ki0, r_is3 dX1_unlink_55, List.cons_append, List.nil_append, Nat.reduceAdd, Option.toList, cat_f, cat_i, cat_n, cat_r, eq_self, g1_12, g1_13, g1_2, pk_un, pk_us, rd_up_eq, rd_up_ne, sI_ok, true_and, up_eq, up_ne, up_up, z0, hP'.r, rd_own hP'.r, hP'.r12, rd_own hP'.r12, hP'.r13, rd_own hP'.r13, hn1]
    simp (disch := omega) only [E2, nI_1, nI_add, nI_leI, nI_ltI, nI_eq, nI_clamp]
    have hin := vp_in_nI (show k < 12 by omega) (by omega)
    refine ⟨fun h => absurd h (by omega), fun _ => ⟨hin, hin, ?_⟩⟩
    refine ih _ _ ((hP'.w12 _).w13 _) (fun s a b c => ?_) ?_ (fun x => ?_) (fun x => ?_) ((h5.up (by omega)).up (by omega))
    · rw [vu_ne c, vu_ne b]; exact h1 s a b c
    · rw [vu_ne (by decide), vu_ne (by decide)]; exact h2
    · rw [vu_ne (by decide), vu_eq]; unfold upd; grind
    · rw [vu_eq]; unfold upd; grind
end P2
