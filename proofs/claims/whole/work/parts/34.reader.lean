/-! ===== strings; the Reader's pieces ===== -/
def STR (X : HM) (EV : Nat → Value) (hm : HM) (s L : Nat) (f : Nat → Nat) : Prop := EV 2 = .int 1 ∧ (EV 3 = .null ∨ ∃ x, EV 3 = .ref x) ∧ ∃ v, im_rd X hm s = some (.inr (12, [.ref v, .int 0])) ∧ im_rd X hm v = some (ba L (fun i => nI (f i))) ∧ L < 1000 ∧ ∀ i, i < L → f i < 128
theorem ch128 : ∀ c, c < 128 → ((nI c &&& 255).toUInt32 % 65536).toInt32 = nI c := by decide +kernel
theorem nrc128 : ∀ c, c < 128 → narrow .char (.int (nI c)) = .int (nI c) := by
  intro c hc
  show Value.int _ = Value.int _
  congr 1
  exact (by decide +kernel : ∀ c, c < 128 → ((nI c).toUInt32 % 65536).toInt32 = nI c) c hc
def nxq (T : Nat → Int32) (e : Nat) (P : Int32 → Prop) (q q' : Nat) : Prop := q ≤ q' ∧ q' ≤ e ∧ (∀ i, q ≤ i → i < q' → P (T i)) ∧ (q' < e → ¬ P (T q'))
def isDg (x : Int32) : Prop := 48 ≤ x ∧ x ≤ 57
def isSm (x : Int32) : Prop := 97 ≤ x ∧ x ≤ 122
def dgv (T : Nat → Int32) (st : Nat) : Nat → Int32
  | 0 => 0
  | k + 1 => if 4 ≤ k then -1 else 10 * dgv T st k + T (st + k) - 48
/-- a piece is read: from q on, it begins at st and ends at q' -/
def rpc (T : Nat → Int32) (e q st q' : Nat) (u u' : Nat → Int32) : Prop := (∀ s, s < 8 → u' s = u s) ∧ u' 8 = nI q' ∧ u' 10 = nI st ∧ u' 11 = nI (q' - st) ∧ nxq T e (fun x => x = 32) q st ∧ st ≤ q' ∧ q' ≤ e ∧
  ((st = e ∧ u' 9 = 0 ∧ q' = st ∧ u' 12 = u 12) ∨ (st < e ∧ isDg (T st) ∧ u' 9 = 1 ∧ nxq T e isDg st q' ∧ u' 12 = dgv T st (q' - st)) ∨ (st < e ∧ ¬ isDg (T st) ∧ isSm (T st) ∧ u' 9 = 2 ∧ nxq T e isSm st q' ∧ u' 12 = u 12) ∨ (st < e ∧ ¬ isDg (T st) ∧ ¬ isSm (T st) ∧ u' 9 = 3 ∧ q' = st + 1 ∧ u' 12 = u 12))
theorem shr0 (x : Int32) : x >>> ((0 : Int32) &&& 31) = x := by
  apply b_ext
  intro i hi
  rw [show (0 : Int32) = nI 0 from rfl, b_sshr 0 (by omega) x hi, if_pos (by omega), Nat.zero_add]
section R1
variable {X : HM} {EV : Nat → Value} {d : Nat} {hm : HM} {hs : Nat} {Q : QT} {B n : Nat}
theorem c_coder {s L : Nat} {f : Nat → Nat} (h : STR X EV hm s L f) (hQ : Q (some (.int 0)) hm hs) : CC X EV (d + 1) 266 [.ref s] hm hs Q := by
  obtain ⟨h1, h6, v, h2, h3, h4, h5⟩ := h
  refine c_of (ls2 := [.ref s]) Y266 (Nat.le_of_ble_eq_true rfl) rfl I266 ?_
  simp only [r_gets dJ0_coder_7d493_0 S12_38, r_if_eq (tgt := 13) dJ0_coder_7d493_3 rfl, r_al0 dJ0_coder_7d493_6, r_getf dJ0_coder_7d493_7 F12_15, r_goto (tgt := 14) dJ0_coder_7d493_10 rfl, r_iconst dJ0_coder_7d493_13 ki1, r_nret dJ0_coder_7d493_14 (Nat.zero_le _) (Nat.zero_le _), List.cons_append, List.nil_append, Nat.reduceAdd, Option.toList, gx12_1, z0, h1, h2]
  exact ⟨fun h => absurd h (by decide), fun _ => ⟨rfl, hQ⟩⟩
theorem c_isLatin1 {s L : Nat} {f : Nat → Nat} (h : STR X EV hm s L f) (hQ : Q (some (.int 1)) hm hs) : CC X EV (d + 1) 267 [.ref s] hm hs Q := by
  obtain ⟨h1, h6, v, h2, h3, h4, h5⟩ := h
  refine c_of (ls2 := [.ref s]) Y267 (Nat.le_of_ble_eq_true rfl) rfl I267 ?_
  simp only [r_gets dJ0_isLatin1_aae02_0 S12_38, r_if_eq (tgt := 17) dJ0_isLatin1_aae02_3 rfl, r_al0 dJ0_isLatin1_aae02_6, r_getf dJ0_isLatin1_aae02_7 F12_15, r_if_ne (tgt := 17) dJ0_isLatin1_aae02_10 rfl, r_iconst dJ0_isLatin1_aae02_13 ki1, r_goto (tgt := 18) dJ0_isLatin1_aae02_14 rfl, r_iconst dJ0_isLatin1_aae02_17 ki0, r_zret0 dJ0_isLatin1_aae02_18 (Nat.zero_le _) (Nat.zero_le _), r_zret1 dJ0_isLatin1_aae02_18 (Nat.zero_le _) (Nat.zero_le _), r_zretc dJ0_isLatin1_aae02_18 (Nat.zero_le _) (Nat.zero_le _), List.cons_append, List.nil_append, Nat.reduceAdd, Option.toList, gx12_1, z0, h1, h2]
  exact ⟨fun h => absurd h (by decide), fun _ => ⟨fun h => absurd trivial h, fun _ => hQ⟩⟩
theorem c_length {s L : Nat} {f : Nat → Nat} (h : STR X EV hm s L f) (hQ : Q (some (.int (nI L))) hm hs) : CC X EV (d + 2) 264 [.ref s] hm hs Q := by
  obtain ⟨h1, h6, v, h2, h3, h4, h5⟩ := id h
  refine c_of (ls2 := [.ref s]) Y264 (Nat.le_of_ble_eq_true rfl) rfl I264 ?_
  simp only [r_al0 dJ0_length_8abf5_0, r_getf dJ0_length_8abf5_1 F12_9, r_alen dJ0_length_8abf5_4, r_al0 dJ0_length_8abf5_5, List.cons_append, List.nil_append, Nat.reduceAdd, Option.toList, aN_ok, gx12_0, z0, h2, h3]
  refine r_iv1 dJ0_length_8abf5_6 M12_335 Y266 O266 (Nat.le_of_ble_eq_true rfl) (by rw [h2]; exact rfl) (Nat.le_refl _) (Nat.le_refl _) ?_
  refine c_coder h ?_
  simp only [r_ishr dJ0_length_8abf5_9, r_iret dJ0_length_8abf5_10 (Nat.zero_le _) (Nat.zero_le _), List.cons_append, List.nil_append, Nat.reduceAdd, Option.toList, z0]
  rw [shr0]
  exact hQ
theorem c_pcheck {i L : Nat} {v : Value} (hv : v = .null ∨ ∃ x, v = .ref x) (hi : i < L) (hL : L < 1000) (hQ : Q (some (.int (nI i))) hm hs) : CC X EV (d + 1) 270 [.int (nI i), .int (nI L), v] hm hs Q := by
  rcases hv with rfl | ⟨x, rfl⟩
  · skip
    refine c_of (ls2 := [.int (nI i), .int (nI L), .null]) Y270 (Nat.le_of_ble_eq_true rfl) rfl I270 ?_
    simp only [r_il0 dJ3_checkIndex_8e157_0, r_if_ltB (tgt := 9) dJ3_checkIndex_8e157_1 rfl, r_il0 dJ3_checkIndex_8e157_4, r_il1 dJ3_checkIndex_8e157_5, r_ic_lt (tgt := 16) dJ3_checkIndex_8e157_6 rfl, r_il0 dJ3_checkIndex_8e157_16, r_iret dJ3_checkIndex_8e157_17 (Nat.zero_le _) (Nat.zero_le _), List.cons_append, List.nil_append, Nat.reduceAdd, Option.toList, z0]
    refine ⟨fun h => absurd h (by have := nI_pos' (show i < 2 ^ 31 by omega); grind), fun _ => ⟨fun _ => hQ, fun h => absurd ((nI_ltI (by omega) (by omega)).mpr hi) h⟩⟩
  · skip
    refine c_of (ls2 := [.int (nI i), .int (nI L), .ref x]) Y270 (Nat.le_of_ble_eq_true rfl) rfl I270 ?_
    simp only [r_il0 dJ3_checkIndex_8e157_0, r_if_ltB (tgt := 9) dJ3_checkIndex_8e157_1 rfl, r_il0 dJ3_checkIndex_8e157_4, r_il1 dJ3_checkIndex_8e157_5, r_ic_lt (tgt := 16) dJ3_checkIndex_8e157_6 rfl, r_il0 dJ3_checkIndex_8e157_16, r_iret dJ3_checkIndex_8e157_17 (Nat.zero_le _) (Nat.zero_le _), List.cons_append, List.nil_append, Nat.reduceAdd, Option.toList, z0]
    refine ⟨fun h => absurd h (by have := nI_pos' (show i < 2 ^ 31 by omega); grind), fun _ => ⟨fun _ => hQ, fun h => absurd ((nI_ltI (by omega) (by omega)).mpr hi) h⟩⟩
theorem c_scheck {i L : Nat} (hv : EV 3 = .null ∨ ∃ x, EV 3 = .ref x) (hi : i < L) (hL : L < 1000) (hQ : Q none hm hs) : CC X EV (d + 2) 268 [.int (nI i), .int (nI L)] hm hs Q := by
  refine c_of (ls2 := [.int (nI i), .int (nI L)]) Y268 (Nat.le_of_ble_eq_true rfl) rfl I268 ?_
  simp only [r_il0 dJ0_checkIndex_df160_0, r_il1 dJ0_checkIndex_df160_1, r_gets dJ0_checkIndex_df160_2 S12_1053, List.cons_append, List.nil_append, Nat.reduceAdd, Option.toList, z0]
  refine r_ist3 dJ0_checkIndex_df160_5 M12_1059 Y270 (Nat.le_of_ble_eq_true rfl) (Nat.le_refl _) (Nat.le_refl _) ?_
  refine c_pcheck hv hi hL ?_
  simp only [r_pop_i dJ0_checkIndex_df160_8, r_pop_r dJ0_checkIndex_df160_8, r_vret dJ0_checkIndex_df160_9 (Nat.zero_le _) (Nat.zero_le _), List.cons_append, List.nil_append, Nat.reduceAdd, Option.toList, z0]
  exact hQ
theorem c_lcharAt {v i L : Nat} {f : Nat → Nat} (hv : EV 3 = .null ∨ ∃ x, EV 3 = .ref x) (h3 : im_rd X hm v = some (ba L (fun i => nI (f i)))) (h4 : L < 1000) (h5 : ∀ i, i < L → f i < 128) (hi : i < L) (hQ : Q (some (.int (nI (f i)))) hm hs) : CC X EV (d + 3) 269 [.ref v, .int (nI i)] hm hs Q := by
  refine c_of (ls2 := [.ref v, .int (nI i)]) Y269 (Nat.le_of_ble_eq_true rfl) rfl I269 ?_
  simp only [r_il1 dJ1_charAt_3b067_0, r_al0 dJ1_charAt_3b067_1, r_alen dJ1_charAt_3b067_2, List.cons_append, List.nil_append, Nat.reduceAdd, Option.toList, aN_ok, z0, h3]
  refine r_ist2 dJ1_charAt_3b067_3 M13_9 Y268 (Nat.le_of_ble_eq_true rfl) (Nat.le_refl _) (Nat.le_refl _) ?_
  refine c_scheck hv hi h4 ?_
  simp only [r_al0 dJ1_charAt_3b067_6, r_il1 dJ1_charAt_3b067_7, r_bald dJ1_charAt_3b067_8, r_sipush dJ1_charAt_3b067_9 ks255, r_iand dJ1_charAt_3b067_12, r_i2c dJ1_charAt_3b067_13, r_nret dJ1_charAt_3b067_14 (Nat.zero_le _) (Nat.zero_le _), List.cons_append, List.nil_append, Nat.reduceAdd, Option.toList, aB_ok, z0, h3, nI_clamp (show i < 2 ^ 31 by omega), ch128 (f i) (h5 i hi)]
  exact ⟨vp_in_nI hi (by omega), nrc128 (f i) (h5 i hi), hQ⟩
theorem c_charAt {s L i : Nat} {f : Nat → Nat} (h : STR X EV hm s L f) (hi : i < L) (hQ : Q (some (.int (nI (f i)))) hm hs) : CC X EV (d + 4) 265 [.ref s, .int (nI i)] hm hs Q := by
  obtain ⟨h1, h6, v, h2, h3, h4, h5⟩ := id h
  refine c_of (ls2 := [.ref s, .int (nI i)]) Y265 (Nat.le_of_ble_eq_true rfl) rfl I265 ?_
  simp only [r_al0 dJ0_charAt_5068e_0, List.cons_append, List.nil_append, Nat.reduceAdd, Option.toList, z0]
  refine r_iv1 dJ0_charAt_5068e_1 M12_492 Y267 O267 (Nat.le_of_ble_eq_true rfl) (by rw [h2]; exact rfl) (Nat.le_refl _) (Nat.le_refl _) ?_
  refine c_isLatin1 h ?_
  simp only [r_if_eqB (tgt := 16) dJ0_charAt_5068e_4 rfl, r_al0 dJ0_charAt_5068e_7, r_getf dJ0_charAt_5068e_8 F12_9, r_il1 dJ0_charAt_5068e_11, List.cons_append, List.nil_append, Nat.reduceAdd, Option.toList, gx12_0, z0, h2]
  refine ⟨fun h => absurd h (by decide), fun _ => ?_⟩
  refine r_ist2 dJ0_charAt_5068e_12 M12_495 Y269 (Nat.le_of_ble_eq_true rfl) (Nat.le_refl _) (Nat.le_refl _) ?_
  refine c_lcharAt h6 h3 h4 h5 hi ?_
  simp only [r_nret dJ0_charAt_5068e_15 (Nat.zero_le _) (Nat.zero_le _), List.cons_append, List.nil_append, Nat.reduceAdd, Option.toList, z0]
  exact ⟨nrc128 (f i) (h5 i hi), hQ⟩
theorem c_isDigit {x : Int32} (h1 : isDg x → Q (some (.int 1)) hm hs) (h2 : ¬ isDg x → Q (some (.int 0)) hm hs) : CC X EV (d + 1) 40 [.int x] hm hs Q := by
  refine c_of (ls2 := [.int x]) Y40 (Nat.le_of_ble_eq_true rfl) rfl I40 ?_
  simp only [r_il0 dX2_isDigit_0, r_bipush dX2_isDigit_1 kb48, r_ic_lt (tgt := 16) dX2_isDigit_3 rfl, r_il0 dX2_isDigit_6, r_bipush dX2_isDigit_7 kb57, r_ic_gt (tgt := 16) dX2_isDigit_9 rfl, r_iconst dX2_isDigit_12 ki1, r_goto (tgt := 17) dX2_isDigit_13 rfl, r_iconst dX2_isDigit_16 ki0, r_zret0 dX2_isDigit_17 (Nat.zero_le _) (Nat.zero_le _), r_zret1 dX2_isDigit_17 (Nat.zero_le _) (Nat.zero_le _), r_zretc dX2_isDigit_17 (Nat.zero_le _) (Nat.zero_le _), List.cons_append, List.nil_append, Nat.reduceAdd, Option.toList, z0]
  unfold isDg at *
  grind
theorem c_isSmall {x : Int32} (h1 : isSm x → Q (some (.int 1)) hm hs) (h2 : ¬ isSm x → Q (some (.int 0)) hm hs) : CC X EV (d + 1) 41 [.int x] hm hs Q := by
  refine c_of (ls2 := [.int x]) Y41 (Nat.le_of_ble_eq_true rfl) rfl I41 ?_
  simp only [r_il0 dX2_isSmall_0, r_bipush dX2_isSmall_1 kb97, r_ic_lt (tgt := 16) dX2_isSmall_3 rfl, r_il0 dX2_isSmall_6, r_bipush dX2_isSmall_7 kb122, r_ic_gt (tgt := 16) dX2_isSmall_9 rfl, r_iconst dX2_isSmall_12 ki1, r_goto (tgt := 17) dX2_isSmall_13 rfl, r_iconst dX2_isSmall_16 ki0, r_zret0 dX2_isSmall_17 (Nat.zero_le _) (Nat.zero_le _), r_zret1 dX2_isSmall_17 (Nat.zero_le _) (Nat.zero_le _), r_zretc dX2_isSmall_17 (Nat.zero_le _) (Nat.zero_le _), List.cons_append, List.nil_append, Nat.reduceAdd, Option.toList, z0]
  unfold isSm at *
  grind
variable {rd tp : Nat} {a : Nat → Nat} {u tu : Nat → Int32} {tA : Nat → Nat → Int32} {e q st : Nat}
theorem c_refuse {x y : Int32} (hR : hm rd = some (.inr (2, fs_RD a u))) (hQ : Q (some (.int 0)) (im_up hm rd (.inr (2, fs_RD a (upd (upd u 0 x) 1 y)))) hs) : CC X EV (d + 1) 43 [.ref rd, .int x, .int y] hm hs Q := by
  refine c_of (ls2 := [.ref rd, .int x, .int y]) Y43 (Nat.le_of_ble_eq_true rfl) rfl I43 ?_
  simp (disch := first | omega | (simp only [List.length_cons, List.length_nil]; omega)) only [r_al0 dX2_refuse_0, r_il1 dX2_refuse_1, r_putf dX2_refuse_2 F2_9, r_al0 dX2_refuse_5, r_il2 dX2_refuse_6, r_putf dX2_refuse_7 F2_15, r_iconst dX2_refuse_10 ki0, r_zret0 dX2_refuse_11 (Nat.zero_le _) (Nat.zero_le _), r_zret1 dX2_refuse_11 (Nat.zero_le _) (Nat.zero_le _), r_zretc dX2_refuse_11 (Nat.zero_le _) (Nat.zero_le _), List.cons_append, List.nil_append, Nat.reduceAdd, Option.toList, fit_i, ft2_0, ft2_1, p2_0, p2_1, pk_un, pk_us, rd_up_eq, rd_up_ne, true_and, up_eq, up_ne, up_up, z0, hR, rd_own hR]
  exact hQ
theorem c_readSmall (hR : hm rd = some (.inr (2, fs_RD a u))) (ha : a 3 = tp) (hT : TP hm tp tu tA) (hd : tp + 2 ≤ rd ∨ rd < tp) (e4 : u 4 = nI e) (he : e ≤ 900) (e8 : u 8 = nI st) (hst : st < e)
    (hQ : ∀ q', nxq (tA 1) e isSm st q' → Q none (im_up hm rd (.inr (2, fs_RD a (upd (upd u 9 2) 8 (nI q'))))) hs) : CC X EV (d + 2) 39 [.ref rd] hm hs Q := by
  refine c_of (ls2 := [.ref rd]) Y39 (Nat.le_of_ble_eq_true rfl) rfl I39 ?_
  simp (disch := first | omega | (simp only [List.length_cons, List.length_nil]; omega)) only [r_al0 dX2_readSmall_0, r_iconst dX2_readSmall_1 ki2, r_putf dX2_readSmall_2 F2_24, List.cons_append, List.nil_append, Nat.reduceAdd, Option.toList, fit_i, ft2_9, p2_9, pk_un, pk_us, rd_up_eq, rd_up_ne, true_and, up_eq, up_ne, up_up, z0, hR, rd_own hR]
  have eu : upd u 9 2 = upd (upd u 9 2) 8 (nI st) := by funext i; unfold upd; grind
  rw [eu]
  suffices H : ∀ k, k ≤ e - st → (∀ i, st ≤ i → i < st + k → isSm (tA 1 i)) → E1 X EV (d + 1) 2 0 0 none false cX2_readSmall Q 5 [.ref rd] [] 0 0 (im_up hm rd (.inr (2, fs_RD a (upd (upd u 9 2) 8 (nI (st + k)))))) hs from H 0 (by omega) (fun i h1 h2 => absurd h2 (by omega))
  have hT' : ∀ c, TP (im_up hm rd c) tp tu tA := fun c => hT.k (by omega)
  have r4 : ∀ x, (upd (upd u 9 2) 8 x) 4 = nI e := fun x => by rw [pk_un (by decide), pk_un (by decide)]; exact e4
  refine up_loop (e - st) _ ?_ ?_
  · intro hall
    rw [show st + (e - st) = e by omega] at hall ⊢
    have hT1 := hT' (.inr (2, fs_RD a (upd (upd u 9 2) 8 (nI e))))
    simp only [r_al0 dX2_readSmall_5, r_getf dX2_readSmall_6 F2_21, r_al0 dX2_readSmall_9, r_getf dX2_readSmall_10 F2_40, r_ic_ge (tgt := 47) dX2_readSmall_13 rfl, r_al0 dX2_readSmall_16, r_getf dX2_readSmall_17 F2_36, r_getf dX2_readSmall_20 F2_73, r_al0 dX2_readSmall_23, r_getf dX2_readSmall_24 F2_21, r_iald dX2_readSmall_27, r_vret dX2_readSmall_47 (Nat.zero_le _) (Nat.zero_le _), List.cons_append, List.nil_append, Nat.reduceAdd, Option.toList, aI_ok, g2_3, g2_4, g2_8, g8_1, z0, up_eq, rd_up_eq, ha, hT1.r, rd_own hT1.r, hT1.r1, rd_own hT1.r1, r4, pk_us]
    simp (disch := omega) only [E2, nI_1, nI_add, nI_leI, nI_ltI, nI_eq, nI_clamp]
    exact ⟨fun _ => hQ e ⟨by omega, Nat.le_refl _, hall, fun h => absurd h (Nat.lt_irrefl _)⟩, fun h => absurd (Nat.le_refl _) h⟩
  · intro k hk ih hall
    have hT1 := hT' (.inr (2, fs_RD a (upd (upd u 9 2) 8 (nI (st + k)))))
    simp only [r_al0 dX2_readSmall_5, r_getf dX2_readSmall_6 F2_21, r_al0 dX2_readSmall_9, r_getf dX2_readSmall_10 F2_40, r_ic_ge (tgt := 47) dX2_readSmall_13 rfl, r_al0 dX2_readSmall_16, r_getf dX2_readSmall_17 F2_36, r_getf dX2_readSmall_20 F2_73, r_al0 dX2_readSmall_23, r_getf dX2_readSmall_24 F2_21, r_iald dX2_readSmall_27, r_vret dX2_readSmall_47 (Nat.zero_le _) (Nat.zero_le _), List.cons_append, List.nil_append, Nat.reduceAdd, Option.toList, aI_ok, g2_3, g2_4, g2_8, g8_1, z0, up_eq, rd_up_eq, ha, hT1.r, rd_own hT1.r, hT1.r1, rd_own hT1.r1, r4, pk_us]
    simp (disch := omega) only [E2, nI_1, nI_add, nI_leI, nI_ltI, nI_eq, nI_clamp]
    refine ⟨fun h => absurd h (by omega), fun _ => ⟨vp_in_nI (by omega) (by omega), ?_⟩⟩
    refine r_ist1 dX2_readSmall_28 M2_86 Y41 (Nat.le_of_ble_eq_true rfl) (Nat.le_refl _) (Nat.le_refl _) ?_
    refine c_isSmall (fun hs1 => ?_) (fun hs1 => ?_)
    · skip
      simp (disch := first | omega | (simp only [List.length_cons, List.length_nil]; omega)) only [r_if_eq (tgt := 47) dX2_readSmall_31 rfl, r_al0 dX2_readSmall_34, r_dup_i dX2_readSmall_35, r_dup_r dX2_readSmall_35, r_getf dX2_readSmall_36 F2_21, r_iconst dX2_readSmall_39 ki1, r_iadd dX2_readSmall_40, r_putf dX2_readSmall_41 F2_21, r_gotoB (tgt := 5) dX2_readSmall_44 rfl, r_vret dX2_readSmall_47 (Nat.zero_le _) (Nat.zero_le _), List.cons_append, List.nil_append, Nat.reduceAdd, Option.toList, fit_i, ft2_8, g2_8, p2_8, pk_un, pk_us, rd_up_eq, rd_up_ne, true_and, up_eq, up_ne, up_up, z0, up_eq, rd_up_eq, pk_us, upd_upd, up_up]
      refine ⟨fun h => absurd h (by decide), fun _ => ?_⟩
      simp (disch := omega) only [E2, nI_1, nI_add, nI_leI, nI_ltI, nI_eq, nI_clamp]
      exact ih (fun i h1 h2 => by
        rcases Nat.lt_or_ge i (st + k) with h' | h'
        · exact hall i h1 h'
        · rw [show i = st + k by omega]; exact hs1)
    · skip
      simp (disch := first | omega | (simp only [List.length_cons, List.length_nil]; omega)) only [r_if_eq (tgt := 47) dX2_readSmall_31 rfl, r_al0 dX2_readSmall_34, r_dup_i dX2_readSmall_35, r_dup_r dX2_readSmall_35, r_getf dX2_readSmall_36 F2_21, r_iconst dX2_readSmall_39 ki1, r_iadd dX2_readSmall_40, r_putf dX2_readSmall_41 F2_21, r_gotoB (tgt := 5) dX2_readSmall_44 rfl, r_vret dX2_readSmall_47 (Nat.zero_le _) (Nat.zero_le _), List.cons_append, List.nil_append, Nat.reduceAdd, Option.toList, fit_i, ft2_8, g2_8, p2_8, pk_un, pk_us, rd_up_eq, rd_up_ne, true_and, up_eq, up_ne, up_up, z0]
      exact ⟨fun _ => hQ (st + k) ⟨by omega, by omega, hall, fun _ => hs1⟩, fun h => absurd trivial h⟩
theorem c_readDigits (hR : hm rd = some (.inr (2, fs_RD a u))) (ha : a 3 = tp) (hT : TP hm tp tu tA) (hd : tp + 2 ≤ rd ∨ rd < tp) (e4 : u 4 = nI e) (he : e ≤ 900) (e8 : u 8 = nI st) (e10 : u 10 = nI st) (hst : st < e)
    (hQ : ∀ q', nxq (tA 1) e isDg st q' → Q none (im_up hm rd (.inr (2, fs_RD a (upd (upd (upd u 9 1) 12 (dgv (tA 1) st (q' - st))) 8 (nI q'))))) hs) : CC X EV (d + 2) 38 [.ref rd] hm hs Q := by
  refine c_of (ls2 := [.ref rd, .null]) Y38 (Nat.le_of_ble_eq_true rfl) rfl I38 ?_
  simp (disch := first | omega | (simp only [List.length_cons, List.length_nil]; omega)) only [r_al0 dX2_readDigits_0, r_iconst dX2_readDigits_1 ki1, r_putf dX2_readDigits_2 F2_24, r_al0 dX2_readDigits_5, r_iconst dX2_readDigits_6 ki0, r_putf dX2_readDigits_7 F2_33, List.cons_append, List.nil_append, Nat.reduceAdd, Option.toList, fit_i, ft2_12, ft2_9, p2_12, p2_9, pk_un, pk_us, rd_up_eq, rd_up_ne, true_and, up_eq, up_ne, up_up, z0, hR, rd_own hR]
  have eu : upd (upd u 9 1) 12 0 = upd (upd (upd u 9 1) 12 (dgv (tA 1) st 0)) 8 (nI st) := by funext i; unfold upd dgv; grind
  rw [eu]
  suffices H : ∀ k, k ≤ e - st → ∀ w, (∀ i, st ≤ i → i < st + k → isDg (tA 1 i)) → E1 X EV (d + 1) 2 0 0 none false cX2_readDigits Q 10 [.ref rd, w] [] 0 0 (im_up hm rd (.inr (2, fs_RD a (upd (upd (upd u 9 1) 12 (dgv (tA 1) st k)) 8 (nI (st + k)))))) hs from H 0 (by omega) _ (fun i h1 h2 => absurd h2 (by omega))
  have hT' : ∀ c, TP (im_up hm rd c) tp tu tA := fun c => hT.k (by omega)
  have r4 : ∀ x y, (upd (upd (upd u 9 1) 12 y) 8 x) 4 = nI e := fun x y => by rw [pk_un (by decide), pk_un (by decide), pk_un (by decide)]; exact e4
  have r10 : ∀ x y, (upd (upd (upd u 9 1) 12 y) 8 x) 10 = nI st := fun x y => by rw [pk_un (by decide), pk_un (by decide), pk_un (by decide)]; exact e10
  have r12 : ∀ x y, (upd (upd (upd u 9 1) 12 y) 8 x) 12 = y := fun x y => by rw [pk_un (by decide), pk_us]
  refine up_loop (e - st) _ ?_ ?_
  · intro w hall
    have hQ := hQ e
    rw [show st + (e - st) = e by omega] at hall ⊢
    have hT1 := hT' (.inr (2, fs_RD a (upd (upd (upd u 9 1) 12 (dgv (tA 1) st (e - st))) 8 (nI e))))
    simp only [r_al0 dX2_readDigits_10, r_getf dX2_readDigits_11 F2_21, r_al0 dX2_readDigits_14, r_getf dX2_readDigits_15 F2_40, r_ic_ge (tgt := 106) dX2_readDigits_18 rfl, r_al0 dX2_readDigits_21, r_getf dX2_readDigits_22 F2_36, r_getf dX2_readDigits_25 F2_73, r_al0 dX2_readDigits_28, r_getf dX2_readDigits_29 F2_21, r_iald dX2_readDigits_32, r_vret dX2_readDigits_106 (Nat.zero_le _) (Nat.zero_le _), List.cons_append, List.nil_append, Nat.reduceAdd, Option.toList, aI_ok, g2_3, g2_4, g2_8, g8_1, z0, up_eq, rd_up_eq, ha, hT1.r, rd_own hT1.r, hT1.r1, rd_own hT1.r1, r4, pk_us]
    simp (disch := omega) only [E2, nI_1, nI_add, nI_leI, nI_ltI, nI_eq, nI_clamp]
    exact ⟨fun _ => hQ ⟨by omega, Nat.le_refl _, hall, fun h => absurd h (Nat.lt_irrefl _)⟩, fun h => absurd (Nat.le_refl _) h⟩
  · intro k hk ih w hall
    have hT1 := hT' (.inr (2, fs_RD a (upd (upd (upd u 9 1) 12 (dgv (tA 1) st k)) 8 (nI (st + k)))))
    simp only [r_al0 dX2_readDigits_10, r_getf dX2_readDigits_11 F2_21, r_al0 dX2_readDigits_14, r_getf dX2_readDigits_15 F2_40, r_ic_ge (tgt := 106) dX2_readDigits_18 rfl, r_al0 dX2_readDigits_21, r_getf dX2_readDigits_22 F2_36, r_getf dX2_readDigits_25 F2_73, r_al0 dX2_readDigits_28, r_getf dX2_readDigits_29 F2_21, r_iald dX2_readDigits_32, r_vret dX2_readDigits_106 (Nat.zero_le _) (Nat.zero_le _), List.cons_append, List.nil_append, Nat.reduceAdd, Option.toList, aI_ok, g2_3, g2_4, g2_8, g8_1, z0, up_eq, rd_up_eq, ha, hT1.r, rd_own hT1.r, hT1.r1, rd_own hT1.r1, r4, pk_us]
    simp (disch := omega) only [E2, nI_1, nI_add, nI_leI, nI_ltI, nI_eq, nI_clamp]
    refine ⟨fun h => absurd h (by omega), fun _ => ⟨vp_in_nI (by omega) (by omega), ?_⟩⟩
    refine r_ist1 dX2_readDigits_33 M2_79 Y40 (Nat.le_of_ble_eq_true rfl) (Nat.le_refl _) (Nat.le_refl _) ?_
    refine c_isDigit (fun hs1 => ?_) (fun hs1 => ?_)
    · have s4 : nI (st + k) - nI st = nI k := by rw [nI_sub (by omega), show st + k - st = k by omega]
      have hin := vp_in_nI (show st + k < 900 by omega) (by omega)
      have hcl := nI_clamp (show st + k < 2 ^ 31 by omega)
      have fin : ∀ y w, y = dgv (tA 1) st (k + 1) → E1 X EV (d + 1) 2 0 0 none false cX2_readDigits Q 10 [.ref rd, w] [] 0 0 (im_up hm rd (.inr (2, fs_RD a (upd (upd (upd (upd (upd u 9 1) 12 (dgv (tA 1) st k)) 8 (nI (st + k))) 12 y) 8 (nI (st + k + 1)))))) hs := by
        intro y w ey
        rw [ey]
        have e9 : upd (upd (upd (upd (upd u 9 1) 12 (dgv (tA 1) st k)) 8 (nI (st + k))) 12 (dgv (tA 1) st (k + 1))) 8 (nI (st + k + 1)) = upd (upd (upd u 9 1) 12 (dgv (tA 1) st (k + 1))) 8 (nI (st + (k + 1))) := by
          funext i; unfold upd; grind
        rw [e9]
        exact ih w (fun i h1 h2 => by
          rcases Nat.lt_or_ge i (st + k) with h' | h'
          · exact hall i h1 h'
          · rw [show i = st + k by omega]; exact hs1)
      simp (disch := first | omega | (simp only [List.length_cons, List.length_nil]; omega)) only [r_if_eq (tgt := 106) dX2_readDigits_36 rfl, r_al0 dX2_readDigits_39, r_getf dX2_readDigits_40 F2_21, r_al0 dX2_readDigits_43, r_getf dX2_readDigits_44 F2_27, r_isub dX2_readDigits_47, r_iconst dX2_readDigits_48 ki4, r_ic_lt (tgt := 56) dX2_readDigits_49 rfl, r_iconst dX2_readDigits_52 ki1, r_goto (tgt := 57) dX2_readDigits_53 rfl, r_iconst dX2_readDigits_56 ki0, r_is1 dX2_readDigits_57, r_al0 dX2_readDigits_58, r_il1 dX2_readDigits_59, r_if_eq (tgt := 67) dX2_readDigits_60 rfl, r_iconst dX2_readDigits_63 kim1, r_goto (tgt := 90) dX2_readDigits_64 rfl, r_bipush dX2_readDigits_67 kb10, r_al0 dX2_readDigits_69, r_getf dX2_readDigits_70 F2_33, r_imul dX2_readDigits_73, r_al0 dX2_readDigits_74, r_getf dX2_readDigits_75 F2_36, r_getf dX2_readDigits_78 F2_73, r_al0 dX2_readDigits_81, r_getf dX2_readDigits_82 F2_21, r_iald dX2_readDigits_85, r_iadd dX2_readDigits_86, r_bipush dX2_readDigits_87 kb48, r_isub dX2_readDigits_89, r_putf dX2_readDigits_90 F2_33, r_al0 dX2_readDigits_93, r_dup_i dX2_readDigits_94, r_dup_r dX2_readDigits_94, r_getf dX2_readDigits_95 F2_21, r_iconst dX2_readDigits_98 ki1, r_iadd dX2_readDigits_99, r_putf dX2_readDigits_100 F2_21, r_gotoB (tgt := 10) dX2_readDigits_103 rfl, r_vret dX2_readDigits_106 (Nat.zero_le _) (Nat.zero_le _), List.cons_append, List.nil_append, Nat.reduceAdd, Option.toList, aI_ok, cat_f, cat_i, cat_n, cat_r, eq_self, fit_i, ft2_12, ft2_8, g2_10, g2_12, g2_3, g2_8, g8_1, p2_12, p2_8, pk_un, pk_us, rd_up_eq, rd_up_ne, true_and, up_eq, up_ne, up_up, z0, up_eq, rd_up_eq, pk_us, up_up, r10, r12, e10, s4, ha, hT1.r, rd_own hT1.r, hT1.r1, rd_own hT1.r1, hcl, show (4 : Int32) = nI 4 from rfl]
      simp (disch := omega) only [E2, nI_1, nI_add, nI_leI, nI_ltI, nI_eq, nI_clamp]
      refine ⟨fun h => absurd h (by decide), fun _ => ⟨fun h4 => ⟨fun _ => ⟨hin, fin _ _ (by rw [dgv, if_neg (by omega)])⟩, fun h => absurd trivial h⟩, fun h4 => ⟨fun h => absurd h (by decide), fun _ => fin _ _ (by rw [dgv, if_pos (by omega)])⟩⟩⟩
    · skip
      simp (disch := first | omega | (simp only [List.length_cons, List.length_nil]; omega)) only [r_if_eq (tgt := 106) dX2_readDigits_36 rfl, r_al0 dX2_readDigits_39, r_getf dX2_readDigits_40 F2_21, r_al0 dX2_readDigits_43, r_getf dX2_readDigits_44 F2_27, r_isub dX2_readDigits_47, r_iconst dX2_readDigits_48 ki4, r_ic_lt (tgt := 56) dX2_readDigits_49 rfl, r_iconst dX2_readDigits_52 ki1, r_goto (tgt := 57) dX2_readDigits_53 rfl, r_iconst dX2_readDigits_56 ki0, r_is1 dX2_readDigits_57, r_al0 dX2_readDigits_58, r_il1 dX2_readDigits_59, r_if_eq (tgt := 67) dX2_readDigits_60 rfl, r_iconst dX2_readDigits_63 kim1, r_goto (tgt := 90) dX2_readDigits_64 rfl, r_bipush dX2_readDigits_67 kb10, r_al0 dX2_readDigits_69, r_getf dX2_readDigits_70 F2_33, r_imul dX2_readDigits_73, r_al0 dX2_readDigits_74, r_getf dX2_readDigits_75 F2_36, r_getf dX2_readDigits_78 F2_73, r_al0 dX2_readDigits_81, r_getf dX2_readDigits_82 F2_21, r_iald dX2_readDigits_85, r_iadd dX2_readDigits_86, r_bipush dX2_readDigits_87 kb48, r_isub dX2_readDigits_89, r_putf dX2_readDigits_90 F2_33, r_al0 dX2_readDigits_93, r_dup_i dX2_readDigits_94, r_dup_r dX2_readDigits_94, r_getf dX2_readDigits_95 F2_21, r_iconst dX2_readDigits_98 ki1, r_iadd dX2_readDigits_99, r_putf dX2_readDigits_100 F2_21, r_gotoB (tgt := 10) dX2_readDigits_103 rfl, r_vret dX2_readDigits_106 (Nat.zero_le _) (Nat.zero_le _), List.cons_append, List.nil_append, Nat.reduceAdd, Option.toList, aI_ok, cat_f, cat_i, cat_n, cat_r, eq_self, fit_i, ft2_12, ft2_8, g2_10, g2_12, g2_3, g2_8, g8_1, p2_12, p2_8, pk_un, pk_us, rd_up_eq, rd_up_ne, true_and, up_eq, up_ne, up_up, z0]
      have hQ := hQ (st + k)
      rw [show st + k - st = k by omega] at hQ
      exact ⟨fun _ => hQ ⟨by omega, by omega, hall, fun _ => hs1⟩, fun h => absurd trivial h⟩
theorem c_readPiece (hR : hm rd = some (.inr (2, fs_RD a u))) (ha : a 3 = tp) (hT : TP hm tp tu tA) (hd : tp + 2 ≤ rd ∨ rd < tp) (e4 : u 4 = nI e) (he : e ≤ 900) (e8 : u 8 = nI q) (hq : q ≤ e)
    (hQ : ∀ st q' u', rpc (tA 1) e q st q' u u' → Q none (im_up hm rd (.inr (2, fs_RD a u'))) hs) : CC X EV (d + 3) 37 [.ref rd] hm hs Q := by
  have eu : u = upd u 8 (nI q) := by funext i; unfold upd; grind
  have hT' : ∀ c, TP (im_up hm rd c) tp tu tA := fun c => hT.k (by omega)
  have ehm : hm = im_up hm rd (.inr (2, fs_RD a (upd u 8 (nI (q + 0))))) := by
    funext x
    by_cases h : x = rd
    · rw [h, up_eq, hR, Nat.add_zero, ← eu]
    · rw [up_ne h]
  refine c_of (ls2 := [.ref rd]) Y37 (Nat.le_of_ble_eq_true rfl) rfl I37 ?_
  suffices H : ∀ k, k ≤ e - q → (∀ i, q ≤ i → i < q + k → tA 1 i = 32) → E1 X EV (d + 2) 2 0 0 none false cX2_readPiece Q 0 [.ref rd] [] 0 0 (im_up hm rd (.inr (2, fs_RD a (upd u 8 (nI (q + k)))))) hs by
    have := H 0 (by omega) (fun i h1 h2 => absurd h2 (by omega))
    rw [← ehm] at this
    exact this
  have fin : ∀ st, nxq (tA 1) e (fun x => x = 32) q st → E1 X EV (d + 2) 2 0 0 none false cX2_readPiece Q 41 [.ref rd] [] 0 0 (im_up hm rd (.inr (2, fs_RD a (upd u 8 (nI st))))) hs := by
    intro st hn
    have hst := hn.2.1
    have hT1 := hT' (.inr (2, fs_RD a (upd (upd u 8 (nI st)) 10 (nI st))))
    obtain ⟨u2, eu2⟩ : ∃ u2, u2 = upd (upd u 8 (nI st)) 10 (nI st) := ⟨_, rfl⟩
    have v4 : u2 4 = nI e := by rw [eu2, pk_un (by decide), pk_un (by decide)]; exact e4
    have v8 : u2 8 = nI st := by rw [eu2, pk_un (by decide), pk_us]
    have v10 : u2 10 = nI st := by rw [eu2, pk_us]
    have vlo : ∀ s, s < 8 → u2 s = u s := fun s hs => by rw [eu2, pk_un (by omega), pk_un (by omega)]
    have v12 : u2 12 = u 12 := by rw [eu2, pk_un (by omega), pk_un (by omega)]
    simp (disch := first | omega | (simp only [List.length_cons, List.length_nil]; omega)) only [r_al0 dX2_readPiece_41, r_al0 dX2_readPiece_42, r_getf dX2_readPiece_43 F2_21, r_putf dX2_readPiece_46 F2_27, r_al0 dX2_readPiece_49, r_getf dX2_readPiece_50 F2_21, r_al0 dX2_readPiece_53, r_getf dX2_readPiece_54 F2_40, r_ic_ltB (tgt := 68) dX2_readPiece_57 rfl, r_al0 dX2_readPiece_60, r_iconst dX2_readPiece_61 ki0, r_putf dX2_readPiece_62 F2_24, r_gotoB (tgt := 133) dX2_readPiece_65 rfl, List.cons_append, List.nil_append, Nat.reduceAdd, Option.toList, fit_i, ft2_10, ft2_9, g2_4, g2_8, p2_10, p2_9, pk_un, pk_us, rd_up_eq, rd_up_ne, true_and, up_eq, up_ne, up_up, z0, up_eq, rd_up_eq, up_up, pk_us, e4]
    rw [← eu2] at hT1 ⊢
    have hR2 : (im_up hm rd (.inr (2, fs_RD a u2))) rd = some (.inr (2, fs_RD a u2)) := up_eq _ _ _
    have last : ∀ u3 q', (∀ s, s < 8 → u3 s = u s) → u3 8 = nI q' → u3 10 = nI st → st ≤ q' → q' ≤ e → ((st = e ∧ u3 9 = 0 ∧ q' = st ∧ u3 12 = u 12) ∨ (st < e ∧ isDg (tA 1 st) ∧ u3 9 = 1 ∧ nxq (tA 1) e isDg st q' ∧ u3 12 = dgv (tA 1) st (q' - st)) ∨ (st < e ∧ ¬ isDg (tA 1 st) ∧ isSm (tA 1 st) ∧ u3 9 = 2 ∧ nxq (tA 1) e isSm st q' ∧ u3 12 = u 12) ∨ (st < e ∧ ¬ isDg (tA 1 st) ∧ ¬ isSm (tA 1 st) ∧ u3 9 = 3 ∧ q' = st + 1 ∧ u3 12 = u 12)) → E1 X EV (d + 2) 2 0 0 none false cX2_readPiece Q 133 [.ref rd] [] 0 0 (im_up hm rd (.inr (2, fs_RD a u3))) hs := by
      intro u3 q' w1 w2 w3 w4 w5 w6
      simp (disch := first | omega | (simp only [List.length_cons, List.length_nil]; omega)) only [r_al0 dX2_readPiece_133, r_al0 dX2_readPiece_134, r_getf dX2_readPiece_135 F2_21, r_al0 dX2_readPiece_138, r_getf dX2_readPiece_139 F2_27, r_isub dX2_readPiece_142, r_putf dX2_readPiece_143 F2_30, r_vret dX2_readPiece_146 (Nat.zero_le _) (Nat.zero_le _), List.cons_append, List.nil_append, Nat.reduceAdd, Option.toList, fit_i, ft2_11, g2_10, g2_8, p2_11, pk_un, pk_us, rd_up_eq, rd_up_ne, true_and, up_eq, up_ne, up_up, z0, up_eq, rd_up_eq, up_up, w2, w3, nI_sub w4]
      refine hQ st q' _ ⟨fun s hs => by rw [pk_un (by omega)]; exact w1 s hs, by rw [pk_un (by omega)]; exact w2, by rw [pk_un (by omega)]; exact w3, pk_us, hn, w4, w5, ?_⟩
      rw [pk_un (by omega), pk_un (by omega)]
      exact w6
    simp (disch := omega) only [E2, nI_1, nI_add, nI_leI, nI_ltI, nI_eq, nI_clamp]
    refine ⟨fun hlt => ?_, fun hge => ?_⟩
    · have hin := vp_in_nI (show st < 900 by omega) (by omega)
      have hcl := nI_clamp (show st < 2 ^ 31 by omega)
      simp only [r_al0 dX2_readPiece_68, r_getf dX2_readPiece_69 F2_36, r_getf dX2_readPiece_72 F2_73, r_al0 dX2_readPiece_75, r_getf dX2_readPiece_76 F2_21, r_iald dX2_readPiece_79, List.cons_append, List.nil_append, Nat.reduceAdd, Option.toList, aI_ok, g2_3, g2_8, g8_1, z0, hR2, rd_own hR2, ha, hT1.r, rd_own hT1.r, hT1.r1, rd_own hT1.r1, v8, hcl]
      refine ⟨hin, ?_⟩
      refine r_ist1 dX2_readPiece_80 M2_79 Y40 (Nat.le_of_ble_eq_true rfl) (Nat.le_refl _) (Nat.le_refl _) ?_
      refine c_isDigit (fun h1 => ?_) (fun h1 => ?_)
      · skip
        simp only [r_if_eqB (tgt := 93) dX2_readPiece_83 rfl, r_al0 dX2_readPiece_86, List.cons_append, List.nil_append, Nat.reduceAdd, Option.toList, z0]
        refine ⟨fun h => absurd h (by decide), fun _ => ?_⟩
        refine r_iv1 dX2_readPiece_87 M2_83 Y38 O38 (Nat.le_of_ble_eq_true rfl) (rcv_own hR2) (Nat.le_refl _) (Nat.le_refl _) ?_
        refine c_readDigits hR2 ha hT1 hd v4 he v8 v10 hlt (fun q' hq' => ?_)
        rw [up_up]
        simp only [r_gotoB (tgt := 133) dX2_readPiece_90 rfl, List.cons_append, List.nil_append, Nat.reduceAdd, Option.toList, z0]
        simp (disch := omega) only [E2, nI_1, nI_add, nI_leI, nI_ltI, nI_eq, nI_clamp]
        refine last _ q' (fun s hs => ?_) pk_us ?_ hq'.1 hq'.2.1 (Or.inr (Or.inl ⟨hlt, h1, ?_, hq', ?_⟩))
        · rw [pk_un (by omega), pk_un (by omega), pk_un (by omega)]; exact vlo s hs
        · rw [pk_un (by omega), pk_un (by omega), pk_un (by omega)]; exact v10
        · rw [pk_un (by omega), pk_un (by omega), pk_us]
        · rw [pk_un (by omega), pk_us]
      · skip
        simp only [r_if_eqB (tgt := 93) dX2_readPiece_83 rfl, r_al0 dX2_readPiece_86, List.cons_append, List.nil_append, Nat.reduceAdd, Option.toList, z0]
        refine ⟨fun _ => ?_, fun h => absurd trivial h⟩
        simp (disch := omega) only [E2, nI_1, nI_add, nI_leI, nI_ltI, nI_eq, nI_clamp]
        simp only [r_al0 dX2_readPiece_93, r_getf dX2_readPiece_94 F2_36, r_getf dX2_readPiece_97 F2_73, r_al0 dX2_readPiece_100, r_getf dX2_readPiece_101 F2_21, r_iald dX2_readPiece_104, List.cons_append, List.nil_append, Nat.reduceAdd, Option.toList, aI_ok, g2_3, g2_8, g8_1, z0, hR2, rd_own hR2, ha, hT1.r, rd_own hT1.r, hT1.r1, rd_own hT1.r1, v8, hcl]
        refine ⟨hin, ?_⟩
        refine r_ist1 dX2_readPiece_105 M2_86 Y41 (Nat.le_of_ble_eq_true rfl) (Nat.le_refl _) (Nat.le_refl _) ?_
        refine c_isSmall (fun h2 => ?_) (fun h2 => ?_)
        · skip
          simp only [r_if_eqB (tgt := 118) dX2_readPiece_108 rfl, r_al0 dX2_readPiece_111, List.cons_append, List.nil_append, Nat.reduceAdd, Option.toList, z0]
          refine ⟨fun h => absurd h (by decide), fun _ => ?_⟩
          refine r_iv1 dX2_readPiece_112 M2_89 Y39 O39 (Nat.le_of_ble_eq_true rfl) (rcv_own hR2) (Nat.le_refl _) (Nat.le_refl _) ?_
          refine c_readSmall hR2 ha hT1 hd v4 he v8 hlt (fun q' hq' => ?_)
          rw [up_up]
          simp only [r_gotoB (tgt := 133) dX2_readPiece_115 rfl, List.cons_append, List.nil_append, Nat.reduceAdd, Option.toList, z0]
          simp (disch := omega) only [E2, nI_1, nI_add, nI_leI, nI_ltI, nI_eq, nI_clamp]
          refine last _ q' (fun s hs => ?_) pk_us ?_ hq'.1 hq'.2.1 (Or.inr (Or.inr (Or.inl ⟨hlt, h1, h2, ?_, hq', ?_⟩)))
          · rw [pk_un (by omega), pk_un (by omega)]; exact vlo s hs
          · rw [pk_un (by omega), pk_un (by omega)]; exact v10
          · rw [pk_un (by omega), pk_us]
          · rw [pk_un (by omega), pk_un (by omega)]; exact v12
        · skip
          simp only [r_if_eqB (tgt := 118) dX2_readPiece_108 rfl, r_al0 dX2_readPiece_111, List.cons_append, List.nil_append, Nat.reduceAdd, Option.toList, z0]
          refine ⟨fun _ => ?_, fun h => absurd trivial h⟩
          simp (disch := omega) only [E2, nI_1, nI_add, nI_leI, nI_ltI, nI_eq, nI_clamp]
          simp (disch := first | omega | (simp only [List.length_cons, List.length_nil]; omega)) only [r_al0 dX2_readPiece_118, r_iconst dX2_readPiece_119 ki3, r_putf dX2_readPiece_120 F2_24, r_al0 dX2_readPiece_123, r_dup_i dX2_readPiece_124, r_dup_r dX2_readPiece_124, r_getf dX2_readPiece_125 F2_21, r_iconst dX2_readPiece_128 ki1, r_iadd dX2_readPiece_129, r_putf dX2_readPiece_130 F2_21, List.cons_append, List.nil_append, Nat.reduceAdd, Option.toList, fit_i, ft2_8, ft2_9, g2_8, p2_8, p2_9, pk_un, pk_us, rd_up_eq, rd_up_ne, true_and, up_eq, up_ne, up_up, z0, hR2, rd_own hR2, v8, nI_1, up_up]
          refine last _ (st + 1) (fun s hs => ?_) pk_us ?_ (by omega) (by omega) (Or.inr (Or.inr (Or.inr ⟨hlt, h1, h2, ?_, rfl, ?_⟩)))
          · rw [pk_un (by omega), pk_un (by omega)]; exact vlo s hs
          · rw [pk_un (by omega), pk_un (by omega)]; exact v10
          · rw [pk_un (by omega), pk_us]
          · rw [pk_un (by omega), pk_un (by omega)]; exact v12
    · refine last _ st (fun s hs => ?_) ?_ ?_ (Nat.le_refl _) hst (Or.inl ⟨by omega, pk_us, rfl, ?_⟩)
      · rw [pk_un (by omega)]; exact vlo s hs
      · rw [pk_un (by omega)]; exact v8
      · rw [pk_un (by omega)]; exact v10
      · rw [pk_un (by omega)]; exact v12
  refine up_loop (e - q) _ ?_ ?_
  · intro hall
    rw [show q + (e - q) = e by omega] at hall ⊢
    have hT1 := hT' (.inr (2, fs_RD a (upd u 8 (nI e))))
    simp (disch := first | omega | (simp only [List.length_cons, List.length_nil]; omega)) only [r_al0 dX2_readPiece_0, r_getf dX2_readPiece_1 F2_21, r_al0 dX2_readPiece_4, r_getf dX2_readPiece_5 F2_40, r_ic_geB (tgt := 41) dX2_readPiece_8 rfl, r_al0 dX2_readPiece_11, r_getf dX2_readPiece_12 F2_36, r_getf dX2_readPiece_15 F2_73, r_al0 dX2_readPiece_18, r_getf dX2_readPiece_19 F2_21, r_iald dX2_readPiece_22, r_bipush dX2_readPiece_23 kb32, r_ic_neB (tgt := 41) dX2_readPiece_25 rfl, r_al0 dX2_readPiece_28, r_dup_i dX2_readPiece_29, r_dup_r dX2_readPiece_29, r_getf dX2_readPiece_30 F2_21, r_iconst dX2_readPiece_33 ki1, r_iadd dX2_readPiece_34, r_putf dX2_readPiece_35 F2_21, r_gotoB (tgt := 0) dX2_readPiece_38 rfl, List.cons_append, List.nil_append, Nat.reduceAdd, Option.toList, aI_ok, fit_i, ft2_8, g2_3, g2_4, g2_8, g8_1, p2_8, pk_un, pk_us, rd_up_eq, rd_up_ne, true_and, up_eq, up_ne, up_up, z0, up_eq, rd_up_eq, ha, hT1.r, rd_own hT1.r, hT1.r1, rd_own hT1.r1, e4, pk_us]
    simp (disch := omega) only [E2, nI_1, nI_add, nI_leI, nI_ltI, nI_eq, nI_clamp]
    exact ⟨fun _ => fin e ⟨by omega, Nat.le_refl _, hall, fun h => absurd h (Nat.lt_irrefl _)⟩, fun h => absurd (Nat.le_refl _) h⟩
  · intro k hk ih hall
    have hT1 := hT' (.inr (2, fs_RD a (upd u 8 (nI (q + k)))))
    simp (disch := first | omega | (simp only [List.length_cons, List.length_nil]; omega)) only [r_al0 dX2_readPiece_0, r_getf dX2_readPiece_1 F2_21, r_al0 dX2_readPiece_4, r_getf dX2_readPiece_5 F2_40, r_ic_geB (tgt := 41) dX2_readPiece_8 rfl, r_al0 dX2_readPiece_11, r_getf dX2_readPiece_12 F2_36, r_getf dX2_readPiece_15 F2_73, r_al0 dX2_readPiece_18, r_getf dX2_readPiece_19 F2_21, r_iald dX2_readPiece_22, r_bipush dX2_readPiece_23 kb32, r_ic_neB (tgt := 41) dX2_readPiece_25 rfl, r_al0 dX2_readPiece_28, r_dup_i dX2_readPiece_29, r_dup_r dX2_readPiece_29, r_getf dX2_readPiece_30 F2_21, r_iconst dX2_readPiece_33 ki1, r_iadd dX2_readPiece_34, r_putf dX2_readPiece_35 F2_21, r_gotoB (tgt := 0) dX2_readPiece_38 rfl, List.cons_append, List.nil_append, Nat.reduceAdd, Option.toList, aI_ok, fit_i, ft2_8, g2_3, g2_4, g2_8, g8_1, p2_8, pk_un, pk_us, rd_up_eq, rd_up_ne, true_and, up_eq, up_ne, up_up, z0, up_eq, rd_up_eq, ha, hT1.r, rd_own hT1.r, hT1.r1, rd_own hT1.r1, e4, pk_us, upd_upd, up_up]
    simp (disch := omega) only [E2, nI_1, nI_add, nI_leI, nI_ltI, nI_eq, nI_clamp]
    refine ⟨fun h => absurd h (by omega), fun _ => ⟨vp_in_nI (by omega) (by omega), fun h5 => ?_, fun h5 => ?_⟩⟩
    · exact fin (q + k) ⟨by omega, by omega, hall, fun _ => h5⟩
    · exact ih (fun i h1 h2 => by
        rcases Nat.lt_or_ge i (q + k) with h' | h'
        · exact hall i h1 h'
        · rw [show i = q + k by omega]; exact Classical.not_not.mp h5)
end R1
