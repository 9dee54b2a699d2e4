def ciS (x y c j : Nat) : Nat := if c = 0 then y * 24 + x + j else if c = 1 then (y + j) * 24 + x else if c = 2 then (y + j) * 24 + x + j else (y + j) * 24 + x - j
/-- the stroke's last cell is on the page -/
def roomN (x y c l w h : Nat) : Prop := if c = 0 then x + (l - 1) < w else if c = 1 then y + (l - 1) < h else if c = 2 then x + (l - 1) < w ∧ y + (l - 1) < h else l - 1 ≤ x ∧ y + (l - 1) < h
theorem i_neg1 (a b : Int32) : a + -1 * b = a - b := by grind
theorem i_z0 (a b : Int32) : a + 0 * b = a := by grind
theorem i_o1 (a b : Int32) : a + 1 * b = a + b := by grind
theorem sub_neg {a b : Nat} (h : a < b) (hb : b < 1000) : ¬ (0 : Int32) ≤ nI a - nI b := by
  have e : nI a - nI b = - nI (b - a) := by
    have : nI b = nI (b - a) + nI a := by rw [nI_add, show b - a + a = b by omega]
    rw [this]; generalize nI (b - a) = y; generalize nI a = z; grind
  rw [e]
  exact (by decide +kernel : ∀ k, k < 1000 → 0 < k → ¬ (0 : Int32) ≤ - nI k) (b - a) (by omega) (by omega)
theorem room_iff {x y c l w h : Nat} (hx : x < w) (hy : y < h) (hw : w ≤ 24) (hh : h ≤ 12) (hc : c < 4) (hl : 1 ≤ l) (hl9 : l ≤ 9) : ((0 ≤ nI x + mstX (nI c) * (nI l - 1) ∧ nI x + mstX (nI c) * (nI l - 1) < nI w) ∧ (0 ≤ nI y + mstY (nI c) * (nI l - 1) ∧ nI y + mstY (nI c) * (nI l - 1) < nI h)) ↔ roomN x y c l w h := by
  have e1 : nI l - 1 = nI (l - 1) := by rw [show (1 : Int32) = nI 1 from rfl, nI_sub hl]
  have p0 : ∀ k, k < 1000 → (0 : Int32) ≤ nI k := fun k hk => nI_pos' (by omega)
  rw [e1]
  unfold roomN
  rcases (show c = 0 ∨ c = 1 ∨ c = 2 ∨ c = 3 by omega) with rfl | rfl | rfl | rfl
  · rw [if_pos rfl, show mstX (nI 0) = 1 from rfl, show mstY (nI 0) = 0 from rfl, i_o1, i_z0, nI_add, nI_ltI (by omega) (by omega), nI_ltI (by omega) (by omega)]
    exact ⟨fun z => z.1.2, fun z => ⟨⟨p0 _ (by omega), z⟩, p0 _ (by omega), hy⟩⟩
  · rw [if_neg (by decide), if_pos rfl, show mstX (nI 1) = 0 from rfl, show mstY (nI 1) = 1 from rfl, i_o1, i_z0, nI_add, nI_ltI (by omega) (by omega), nI_ltI (by omega) (by omega)]
    exact ⟨fun z => z.2.2, fun z => ⟨⟨p0 _ (by omega), hx⟩, p0 _ (by omega), z⟩⟩
  · rw [if_neg (by decide), if_neg (by decide), if_pos rfl, show mstX (nI 2) = 1 from rfl, show mstY (nI 2) = 1 from rfl, i_o1, i_o1, nI_add, nI_add, nI_ltI (by omega) (by omega), nI_ltI (by omega) (by omega)]
    exact ⟨fun z => ⟨z.1.2, z.2.2⟩, fun z => ⟨⟨p0 _ (by omega), z.1⟩, p0 _ (by omega), z.2⟩⟩
  · rw [if_neg (by decide), if_neg (by decide), if_neg (by decide), show mstX (nI 3) = -1 from rfl, show mstY (nI 3) = 1 from rfl, i_neg1, i_o1, nI_add, nI_ltI (a := y + (l - 1)) (by omega) (by omega)]
    constructor
    · intro z
      refine ⟨?_, z.2.2⟩
      rcases Nat.lt_or_ge x (l - 1) with w1 | w1
      · exact absurd z.1.1 (sub_neg w1 (by omega))
      · exact w1
    · intro z
      rw [nI_sub z.1]
      exact ⟨⟨p0 _ (by omega), (nI_ltI (by omega) (by omega)).mpr (by omega)⟩, p0 _ (by omega), z.2⟩
theorem ci_ok {x y c l w h : Nat} (hx : x < w) (hy : y < h) (hw : w ≤ 24) (hh : h ≤ 12) (hc : c < 4) (hl9 : l ≤ 9) (hr : roomN x y c l w h) : ∀ j, j < l → (nI y + mstY (nI c) * nI j) * 24 + nI x + mstX (nI c) * nI j = nI (ciS x y c j) ∧ ciS x y c j < 288 := by
  intro j hj
  have e24 : ∀ a, nI a * 24 = nI (a * 24) := fun a => by rw [show (24 : Int32) = nI 24 from rfl, pk_mul]
  unfold roomN at hr
  unfold ciS
  rcases (show c = 0 ∨ c = 1 ∨ c = 2 ∨ c = 3 by omega) with rfl | rfl | rfl | rfl
  · rw [if_pos rfl] at hr
    rw [if_pos rfl, show mstX (nI 0) = 1 from rfl, show mstY (nI 0) = 0 from rfl, i_o1, i_z0, e24, nI_add, nI_add]
    exact ⟨rfl, by omega⟩
  · rw [if_neg (by decide), if_pos rfl] at hr
    rw [if_neg (by decide), if_pos rfl, show mstX (nI 1) = 0 from rfl, show mstY (nI 1) = 1 from rfl, i_o1, i_z0, nI_add, e24, nI_add]
    exact ⟨rfl, by omega⟩
  · rw [if_neg (by decide), if_neg (by decide), if_pos rfl] at hr
    rw [if_neg (by decide), if_neg (by decide), if_pos rfl, show mstX (nI 2) = 1 from rfl, show mstY (nI 2) = 1 from rfl, i_o1, i_o1, nI_add, e24, nI_add, nI_add]
    exact ⟨rfl, by omega⟩
  · rw [if_neg (by decide), if_neg (by decide), if_neg (by decide)] at hr
    rw [if_neg (by decide), if_neg (by decide), if_neg (by decide), show mstX (nI 3) = -1 from rfl, show mstY (nI 3) = 1 from rfl, i_neg1, i_o1, nI_add, e24, nI_add, nI_sub (by omega)]
    exact ⟨rfl, by omega⟩
theorem ci_inj {x y c l : Nat} (hc : c < 4) (hx : c = 3 → l - 1 ≤ x) : ∀ j k, j < l → k < l → ciS x y c j = ciS x y c k → j = k := by
  intro j k hj hk h
  unfold ciS at h
  rcases (show c = 0 ∨ c = 1 ∨ c = 2 ∨ c = 3 by omega) with rfl | rfl | rfl | rfl
  · rw [if_pos rfl, if_pos rfl] at h; omega
  · rw [if_neg (by decide), if_pos rfl, if_neg (by decide), if_pos rfl] at h; omega
  · rw [if_neg (by decide), if_neg (by decide), if_pos rfl, if_neg (by decide), if_neg (by decide), if_pos rfl] at h; omega
  · have := hx rfl
    rw [if_neg (by decide), if_neg (by decide), if_neg (by decide), if_neg (by decide), if_neg (by decide), if_neg (by decide)] at h; omega
section R5
variable {X : HM} {EV : Nat → Value} {d : Nat} {hm0 hm hm2 : HM} {hs : Nat} {Q : QT} {B n : Nat} {rd tp p s g e q : Nat} {u u' tu pu su gu : Nat → Int32} {tA pA sA gA A' : Nat → Nat → Int32}
theorem c_readStroke {st0 w h : Nat} (hX : RX hm0 hm rd tp p s g u tu tA pu pA su sA gu gA) (hXT : XT X EV B) (hB : B ≤ p) (hBs : B ≤ s) (hlow : lowN B hm0) (e4 : u 4 = nI e) (he : e ≤ 900) (e8 : u 8 = nI q) (hq : q ≤ e) (e10 : u 10 = nI st0) (en : pu 2 = nI n) (hn : n ≤ 12) (ew : pu 0 = nI w) (hw : w ≤ 24) (hw3 : 3 ≤ w) (eh : pu 1 = nI h) (hh : h ≤ 12) (hh3 : 3 ≤ h)
    (h0 : ¬ n < 12 → FK hm0 rd tp p s g tu tA gu gA Q hs 4 st0)
    (h1 : n < 12 → ∀ st1 q1 v1 f1, nmO (tA 1) e q 0 (nI (w - 1)) st1 q1 v1 f1 → (f1 ≠ 0 → FK hm0 rd tp p s g tu tA gu gA Q hs f1 st1) ∧ (f1 = 0 → ∀ x, x < w → v1 = nI x → ∀ st2 q2 v2 f2, nmO (tA 1) e q1 0 (nI (h - 1)) st2 q2 v2 f2 → (f2 ≠ 0 → FK hm0 rd tp p s g tu tA gu gA Q hs f2 st2) ∧
      (f2 = 0 → ∀ y, y < h → v2 = nI y → ∀ st3 q3 v3 f3, nmO (tA 1) e q2 0 (nI 3) st3 q3 v3 f3 → (f3 ≠ 0 → FK hm0 rd tp p s g tu tA gu gA Q hs f3 st3) ∧ (f3 = 0 → ∀ c, c < 4 → v3 = nI c → ∀ st4 q4 v4 f4, nmO (tA 1) e q3 1 9 st4 q4 v4 f4 → (f4 ≠ 0 → FK hm0 rd tp p s g tu tA gu gA Q hs f4 st4) ∧
      (f4 = 0 → ∀ l, 1 ≤ l → l ≤ 9 → v4 = nI l → (¬ roomN x y c l w h → FK hm0 rd tp p s g tu tA gu gA Q hs 2 st4) ∧ (roomN x y c l w h → ∀ hm' u' A' met, RX hm0 hm' rd tp p s g u' tu tA (upd pu 2 (nI n + 1)) A' su sA gu gA → A' 6 = upd (pA 6) n (nI x) → A' 7 = upd (pA 7) n (nI y) → A' 8 = upd (pA 8) n (nI c) → A' 9 = upd (pA 9) n (nI l) → A' 11 = upd (pA 11) n 0 → A' 12 = upd (pA 12) n 0 → A' 13 = upd (pA 13) n 0 →
        (∀ q, A' 14 q = pA 14 q ||| sb n ∧ (∃ j, j < l ∧ ciS x y c j = q) ∨ A' 14 q = pA 14 q ∧ ¬ ∃ j, j < l ∧ ciS x y c j = q) → (∀ i, i < 32 → (bt met i = true ↔ ∃ j, j < l ∧ bt (pA 14 (ciS x y c j)) i = true)) → (∀ k, A' 10 k = if k = n then met else if k < n ∧ bt met k = true then pA 10 k ||| sb n else pA 10 k) → (∀ s, s < 8 → u' s = u s) → u' 8 = nI q4 → Q (some (.int 1)) hm' hs)))))) : CC X EV (d + 5) 48 [.ref rd] hm hs Q := by
  have had := hX.ad
  unfold adX at had
  have hlo : ∀ {hm' u' pu' pA' su' sA' gu' gA'}, RX hm0 hm' rd tp p s g u' tu tA pu' pA' su' sA' gu' gA' → lowN B hm' := fun hX' a ha => (hX'.fr a (by omega) (by omega) (by omega) (by omega)).trans (hlow a ha)
  have hR := hX.r
  have hp := hX.pg
  have ew1 : nI w - 1 = nI (w - 1) := by rw [show (1 : Int32) = nI 1 from rfl, nI_sub (by omega)]
  have eh1 : nI h - 1 = nI (h - 1) := by rw [show (1 : Int32) = nI 1 from rfl, nI_sub (by omega)]
  refine c_of (ls2 := [.ref rd, .null, .null, .null]) Y48 (Nat.le_of_ble_eq_true rfl) rfl I48 ?_
  simp only [r_al0 dX2_readStroke_0, r_getf dX2_readStroke_1 F2_43, r_getf dX2_readStroke_4 F2_158, r_bipush dX2_readStroke_7 kb12, r_ic_lt (tgt := 22) dX2_readStroke_9 rfl, r_al0 dX2_readStroke_12, r_iconst dX2_readStroke_13 ki4, r_al0 dX2_readStroke_14, r_getf dX2_readStroke_15 F2_27, r_al0 dX2_readStroke_22, r_iconst dX2_readStroke_23 ki0, r_al0 dX2_readStroke_24, r_getf dX2_readStroke_25 F2_43, r_getf dX2_readStroke_28 F2_152, r_iconst dX2_readStroke_31 ki1, r_isub dX2_readStroke_32, List.cons_append, List.nil_append, Nat.reduceAdd, Option.toList, g1_0, g1_2, g2_10, g2_5, z0, hR, rd_own hR, e10, ra_5, hp.r, rd_own hp.r, hp.r, rd_own hp.r, en, ew, ew1, show (12 : Int32) = nI 12 from rfl]
  simp (disch := omega) only [E2, nI_1, nI_add, nI_leI, nI_ltI, nI_eq, nI_clamp]
  refine ⟨fun k => ?_, fun k => ?_⟩
  · have h1 := h1 k
    refine r_iv3 dX2_readStroke_33 M2_149 Y46 O46 (Nat.le_of_ble_eq_true rfl) (rcv_own hR) (Nat.le_refl _) (Nat.le_refl _) ?_
    refine c_num hX e4 he e8 hq (fun st1 q1 v1 f1 hm1 u1 k1 k2 hX1 k3 k4 => ?_) (fun st1 q1 v1 hm1 u1 k2 hX1 k3 k4 k5 k6 => ?_)
    · skip
      simp only [r_if_ne (tgt := 41) dX2_readStroke_36 rfl, r_iconst dX2_readStroke_39 ki0, r_zret0 dX2_readStroke_40 (Nat.zero_le _) (Nat.zero_le _), r_zret1 dX2_readStroke_40 (Nat.zero_le _) (Nat.zero_le _), r_zretc dX2_readStroke_40 (Nat.zero_le _) (Nat.zero_le _), r_al0 dX2_readStroke_41, r_getf dX2_readStroke_42 F2_33, r_is1 dX2_readStroke_45, r_al0 dX2_readStroke_46, r_iconst dX2_readStroke_47 ki0, r_al0 dX2_readStroke_48, r_getf dX2_readStroke_49 F2_43, r_getf dX2_readStroke_52 F2_155, r_iconst dX2_readStroke_55 ki1, r_isub dX2_readStroke_56, List.cons_append, List.nil_append, Nat.reduceAdd, Option.toList, cat_f, cat_i, cat_n, cat_r, eq_self, g1_1, g2_12, g2_5, true_and, z0]
      exact ⟨fun h => absurd trivial h, fun _ => (h1 st1 q1 v1 f1 k2).1 k1 _ _ _ _ _ _ hX1 k3 k4⟩
    obtain ⟨x, hx, ex⟩ := ixle (by omega) (nmO_in k2).1 (nmO_in k2).2
    have h1 := (h1 st1 q1 v1 0 k2).2 rfl x (by omega) ex
    have hR1 := hX1.r
    have hp1 := hX1.pg
    simp only [r_if_ne (tgt := 41) dX2_readStroke_36 rfl, r_iconst dX2_readStroke_39 ki0, r_zret0 dX2_readStroke_40 (Nat.zero_le _) (Nat.zero_le _), r_zret1 dX2_readStroke_40 (Nat.zero_le _) (Nat.zero_le _), r_zretc dX2_readStroke_40 (Nat.zero_le _) (Nat.zero_le _), r_al0 dX2_readStroke_41, r_getf dX2_readStroke_42 F2_33, r_is1 dX2_readStroke_45, r_al0 dX2_readStroke_46, r_iconst dX2_readStroke_47 ki0, r_al0 dX2_readStroke_48, r_getf dX2_readStroke_49 F2_43, r_getf dX2_readStroke_52 F2_155, r_iconst dX2_readStroke_55 ki1, r_isub dX2_readStroke_56, List.cons_append, List.nil_append, Nat.reduceAdd, Option.toList, cat_f, cat_i, cat_n, cat_r, eq_self, g1_1, g2_12, g2_5, true_and, z0, hR1, rd_own hR1, ra_5, hp1.r, rd_own hp1.r, hp1.r, rd_own hp1.r, k6, eh, eh1]
    refine ⟨fun _ => ?_, fun h => absurd (Classical.not_not.mp h) (by decide)⟩
    refine r_iv3 dX2_readStroke_57 M2_149 Y46 O46 (Nat.le_of_ble_eq_true rfl) (rcv_own hR1) (Nat.le_refl _) (Nat.le_refl _) ?_
    refine c_num hX1 (by rw [k3 4 (by omega)]; exact e4) he k4 (nmO_le k2) (fun st2 q2 v2 f2 hm2 u2 g1 g2 hX2 g3 g4 => ?_) (fun st2 q2 v2 hm2 u2 g2 hX2 g3 g4 g5 g6 => ?_)
    · skip
      simp only [r_if_ne (tgt := 65) dX2_readStroke_60 rfl, r_iconst dX2_readStroke_63 ki0, r_zret0 dX2_readStroke_64 (Nat.zero_le _) (Nat.zero_le _), r_zret1 dX2_readStroke_64 (Nat.zero_le _) (Nat.zero_le _), r_zretc dX2_readStroke_64 (Nat.zero_le _) (Nat.zero_le _), r_al0 dX2_readStroke_65, r_getf dX2_readStroke_66 F2_33, r_is2 dX2_readStroke_69, r_al0 dX2_readStroke_70, r_iconst dX2_readStroke_71 ki0, r_gets dX2_readStroke_72 S2_161, r_alen dX2_readStroke_75, r_iconst dX2_readStroke_76 ki1, r_isub dX2_readStroke_77, List.cons_append, List.nil_append, Nat.reduceAdd, Option.toList, aN_ok, cat_f, cat_i, cat_n, cat_r, eq_self, g2_12, true_and, z0]
      exact ⟨fun h => absurd trivial h, fun _ => (h1 st2 q2 v2 f2 g2).1 g1 _ _ _ _ _ _ hX2 g3 g4⟩
    obtain ⟨y, hy, ey⟩ := ixle (by omega) (nmO_in g2).1 (nmO_in g2).2
    have h1 := (h1 st2 q2 v2 0 g2).2 rfl y (by omega) ey
    have hR2 := hX2.r
    obtain ⟨ra, rb, ea, eb, ra1, rb1⟩ := hXT.rd (hlo hX2)
    simp only [r_if_ne (tgt := 65) dX2_readStroke_60 rfl, r_iconst dX2_readStroke_63 ki0, r_zret0 dX2_readStroke_64 (Nat.zero_le _) (Nat.zero_le _), r_zret1 dX2_readStroke_64 (Nat.zero_le _) (Nat.zero_le _), r_zretc dX2_readStroke_64 (Nat.zero_le _) (Nat.zero_le _), r_al0 dX2_readStroke_65, r_getf dX2_readStroke_66 F2_33, r_is2 dX2_readStroke_69, r_al0 dX2_readStroke_70, r_iconst dX2_readStroke_71 ki0, r_gets dX2_readStroke_72 S2_161, r_alen dX2_readStroke_75, r_iconst dX2_readStroke_76 ki1, r_isub dX2_readStroke_77, List.cons_append, List.nil_append, Nat.reduceAdd, Option.toList, aN_ok, cat_f, cat_i, cat_n, cat_r, eq_self, g2_12, true_and, z0, hR2, rd_own hR2, g6, ea, ra1, show nI 4 - 1 = nI 3 from rfl]
    refine ⟨fun _ => ?_, fun h => absurd (Classical.not_not.mp h) (by decide)⟩
    refine r_iv3 dX2_readStroke_78 M2_149 Y46 O46 (Nat.le_of_ble_eq_true rfl) (rcv_own hR2) (Nat.le_refl _) (Nat.le_refl _) ?_
    refine c_num hX2 (by rw [g3 4 (by omega), k3 4 (by omega)]; exact e4) he g4 (nmO_le g2) (fun st3 q3 v3 f3 hm3 u3 y1 y2 hX3 y3 y4 => ?_) (fun st3 q3 v3 hm3 u3 y2 hX3 y3 y4 y5 y6 => ?_)
    · skip
      simp only [r_if_ne (tgt := 86) dX2_readStroke_81 rfl, r_iconst dX2_readStroke_84 ki0, r_zret0 dX2_readStroke_85 (Nat.zero_le _) (Nat.zero_le _), r_zret1 dX2_readStroke_85 (Nat.zero_le _) (Nat.zero_le _), r_zretc dX2_readStroke_85 (Nat.zero_le _) (Nat.zero_le _), r_al0 dX2_readStroke_86, r_getf dX2_readStroke_87 F2_33, r_is3 dX2_readStroke_90, r_al0 dX2_readStroke_91, r_iconst dX2_readStroke_92 ki1, r_bipush dX2_readStroke_93 kb9, List.cons_append, List.nil_append, Nat.reduceAdd, Option.toList, cat_f, cat_i, cat_n, cat_r, eq_self, g2_12, true_and, z0]
      exact ⟨fun h => absurd trivial h, fun _ => (h1 st3 q3 v3 f3 y2).1 y1 _ _ _ _ _ _ hX3 y3 y4⟩
    obtain ⟨c, hc, ec⟩ := ixle (by omega) (nmO_in y2).1 (nmO_in y2).2
    have h1 := (h1 st3 q3 v3 0 y2).2 rfl c (by omega) ec
    have hR3 := hX3.r
    simp only [r_if_ne (tgt := 86) dX2_readStroke_81 rfl, r_iconst dX2_readStroke_84 ki0, r_zret0 dX2_readStroke_85 (Nat.zero_le _) (Nat.zero_le _), r_zret1 dX2_readStroke_85 (Nat.zero_le _) (Nat.zero_le _), r_zretc dX2_readStroke_85 (Nat.zero_le _) (Nat.zero_le _), r_al0 dX2_readStroke_86, r_getf dX2_readStroke_87 F2_33, r_is3 dX2_readStroke_90, r_al0 dX2_readStroke_91, r_iconst dX2_readStroke_92 ki1, r_bipush dX2_readStroke_93 kb9, List.cons_append, List.nil_append, Nat.reduceAdd, Option.toList, cat_f, cat_i, cat_n, cat_r, eq_self, g2_12, true_and, z0, hR3, rd_own hR3, y6]
    refine ⟨fun _ => ?_, fun h => absurd (Classical.not_not.mp h) (by decide)⟩
    refine r_iv3 dX2_readStroke_95 M2_149 Y46 O46 (Nat.le_of_ble_eq_true rfl) (rcv_own hR3) (Nat.le_refl _) (Nat.le_refl _) ?_
    refine c_num hX3 (by rw [y3 4 (by omega), g3 4 (by omega), k3 4 (by omega)]; exact e4) he y4 (nmO_le y2) (fun st4 q4 v4 f4 hm4 u4 z1 z2 hX4 z3 z4 => ?_) (fun st4 q4 v4 hm4 u4 z2 hX4 z3 z4 z5 z6 => ?_)
    · skip
      simp only [r_if_ne (tgt := 103) dX2_readStroke_98 rfl, r_iconst dX2_readStroke_101 ki0, r_zret0 dX2_readStroke_102 (Nat.zero_le _) (Nat.zero_le _), r_zret1 dX2_readStroke_102 (Nat.zero_le _) (Nat.zero_le _), r_zretc dX2_readStroke_102 (Nat.zero_le _) (Nat.zero_le _), r_al0 dX2_readStroke_103, r_getf dX2_readStroke_104 F2_43, r_il1 dX2_readStroke_107, r_il2 dX2_readStroke_108, r_il3 dX2_readStroke_109, r_al0 dX2_readStroke_110, r_getf dX2_readStroke_111 F2_33, List.cons_append, List.nil_append, Nat.reduceAdd, Option.toList, g2_12, g2_5, z0]
      exact ⟨fun h => absurd trivial h, fun _ => (h1 st4 q4 v4 f4 z2).1 z1 _ _ _ _ _ _ hX4 z3 z4⟩
    have hv4 := nmO_in z2
    obtain ⟨l, hl, el⟩ := ixle (n := 9) (by omega) (Int32.le_trans (by decide) hv4.1) hv4.2
    have hl1 : 1 ≤ l := by
      rw [el, show (1 : Int32) = nI 1 from rfl, nI_leI (by omega) (by omega)] at hv4
      exact hv4.1
    obtain ⟨m1, m2⟩ := (h1 st4 q4 v4 0 z2).2 rfl l hl1 hl el
    have hR4 := hX4.r
    rw [el] at z6
    simp only [r_if_ne (tgt := 103) dX2_readStroke_98 rfl, r_iconst dX2_readStroke_101 ki0, r_zret0 dX2_readStroke_102 (Nat.zero_le _) (Nat.zero_le _), r_zret1 dX2_readStroke_102 (Nat.zero_le _) (Nat.zero_le _), r_zretc dX2_readStroke_102 (Nat.zero_le _) (Nat.zero_le _), r_al0 dX2_readStroke_103, r_getf dX2_readStroke_104 F2_43, r_il1 dX2_readStroke_107, r_il2 dX2_readStroke_108, r_il3 dX2_readStroke_109, r_al0 dX2_readStroke_110, r_getf dX2_readStroke_111 F2_33, List.cons_append, List.nil_append, Nat.reduceAdd, Option.toList, g2_12, g2_5, z0, hR4, rd_own hR4, ra_5, z6]
    refine ⟨fun _ => ?_, fun h => absurd (Classical.not_not.mp h) (by decide)⟩
    rw [ex, ey, ec]
    have hri := room_iff (x := x) (y := y) (c := c) (l := l) (w := w) (h := h) (by omega) (by omega) hw hh (by omega) hl1 hl
    refine r_iv5 dX2_readStroke_114 M2_164 Y10 O10 (Nat.le_of_ble_eq_true rfl) (rcv_own hX4.pg.r) (Nat.le_refl _) (Nat.le_refl _) ?_
    refine c_hasRoomFor hX4.pg hXT (hlo hX4) (by omega) ?_
    rw [ew, eh]
    simp only [r_if_ne (tgt := 130) dX2_readStroke_117 rfl, r_al0 dX2_readStroke_120, r_iconst dX2_readStroke_121 ki2, r_al0 dX2_readStroke_122, r_getf dX2_readStroke_123 F2_27, r_al0 dX2_readStroke_130, r_getf dX2_readStroke_131 F2_43, r_il1 dX2_readStroke_134, r_il2 dX2_readStroke_135, r_il3 dX2_readStroke_136, r_al0 dX2_readStroke_137, r_getf dX2_readStroke_138 F2_33, List.cons_append, List.nil_append, Nat.reduceAdd, Option.toList, g2_10, g2_12, g2_5, z0, hR4, rd_own hR4, ra_5, z6, z5]
    refine ⟨fun w1 => ?_, fun w1 => ?_⟩
    · have hroom := hri.mp (Classical.not_not.mp w1)
      refine r_iv5 dX2_readStroke_141 M2_168 Y11 O11 (Nat.le_of_ble_eq_true rfl) (rcv_own hX4.pg.r) (Nat.le_refl _) (Nat.le_refl _) ?_
      refine c_addStroke hX4.pg hXT (hlo hX4) hB en k (by omega) hl (ci_ok (by omega) (by omega) hw hh (by omega) hl hroom) (ci_inj (by omega) (fun e3 => by subst e3; unfold roomN at hroom; exact hroom.1)) (fun hm5 A5 met hP5 a1 a2 a3 a4 a5 a6 a7 a8 a9 a10 a11 s5 => ?_)
      simp only [r_iconst dX2_readStroke_144 ki1, r_zret0 dX2_readStroke_145 (Nat.zero_le _) (Nat.zero_le _), r_zret1 dX2_readStroke_145 (Nat.zero_le _) (Nat.zero_le _), r_zretc dX2_readStroke_145 (Nat.zero_le _) (Nat.zero_le _), List.cons_append, List.nil_append, Nat.reduceAdd, Option.toList, z0]
      exact m2 hroom _ u4 A5 met (hX4.s_pg hP5 s5) a1 a2 a3 a4 a5 a6 a7 a9 a10 a11 (fun s hs => (((z3 s hs).trans (y3 s hs)).trans (g3 s hs)).trans (k3 s hs)) z4
    · skip
      refine r_iv3 dX2_readStroke_126 M2_145 Y43 O43 (Nat.le_of_ble_eq_true rfl) (rcv_own hR4) (Nat.le_refl _) (Nat.le_refl _) ?_
      refine c_no (lab := 0) hX4 rfl ?_
      intro hm' u' pu' pA' su' sA' hX' b1 b2
      simp only [r_zret0 dX2_readStroke_129 (Nat.zero_le _) (Nat.zero_le _), r_zret1 dX2_readStroke_129 (Nat.zero_le _) (Nat.zero_le _), r_zretc dX2_readStroke_129 (Nat.zero_le _) (Nat.zero_le _), List.cons_append, List.nil_append, Nat.reduceAdd, Option.toList, z0]
      exact m1 (fun z => Classical.not_not.mp w1 (hri.mpr z)) hm' u' pu' pA' su' sA' hX' b1 b2
  · skip
    refine r_iv3 dX2_readStroke_18 M2_145 Y43 O43 (Nat.le_of_ble_eq_true rfl) (rcv_own hR) (Nat.le_refl _) (Nat.le_refl _) ?_
    refine c_no (lab := 0) hX rfl ?_
    intro hm' u' pu' pA' su' sA' hX' k1 k2
    simp only [r_zret0 dX2_readStroke_21 (Nat.zero_le _) (Nat.zero_le _), r_zret1 dX2_readStroke_21 (Nat.zero_le _) (Nat.zero_le _), r_zretc dX2_readStroke_21 (Nat.zero_le _) (Nat.zero_le _), List.cons_append, List.nil_append, Nat.reduceAdd, Option.toList, z0]
    exact h0 k hm' u' pu' pA' su' sA' hX' k1 k2
end R5
