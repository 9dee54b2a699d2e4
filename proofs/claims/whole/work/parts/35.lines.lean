/-! ===== the Reader's lines ===== -/
def rdA (tp p s g : Nat) : Nat → Nat
  | 3 => tp
  | 5 => p
  | 6 => s
  | _ => g
def adX (rd tp p s g : Nat) : Prop := p + 10 ≤ s ∧ s + 11 ≤ tp ∧ tp + 2 ≤ g ∧ g + 3 ≤ rd
def RX (hm0 hm : HM) (rd tp p s g : Nat) (u tu : Nat → Int32) (tA : Nat → Nat → Int32) (pu : Nat → Int32) (pA : Nat → Nat → Int32) (su : Nat → Int32) (sA : Nat → Nat → Int32) (gu : Nat → Int32) (gA : Nat → Nat → Int32) : Prop :=
  hm rd = some (.inr (2, fs_RD (rdA tp p s g) u)) ∧ TP hm tp tu tA ∧ PG hm p pu pA ∧ SC hm s su sA ∧ RG hm g gu gA ∧ adX rd tp p s g ∧ (∀ a, (a < p ∨ p + 10 ≤ a) → (a < s ∨ s + 11 ≤ a) → (a < g ∨ g + 3 ≤ a) → a ≠ rd → hm a = hm0 a)
section R2
variable {X : HM} {EV : Nat → Value} {d : Nat} {hm0 hm hm2 : HM} {hs : Nat} {Q : QT} {B n : Nat} {rd tp p s g e q : Nat} {u u' tu pu su gu : Nat → Int32} {tA pA sA gA A' : Nat → Nat → Int32}
theorem ra_3 : rdA tp p s g 3 = tp := rfl
theorem ra_5 : rdA tp p s g 5 = p := rfl
theorem ra_6 : rdA tp p s g 6 = s := rfl
theorem ra_7 : rdA tp p s g 7 = g := rfl
theorem RX.r (h : RX hm0 hm rd tp p s g u tu tA pu pA su sA gu gA) : hm rd = some (.inr (2, fs_RD (rdA tp p s g) u)) := h.1
theorem RX.tt (h : RX hm0 hm rd tp p s g u tu tA pu pA su sA gu gA) : TP hm tp tu tA := h.2.1
theorem RX.pg (h : RX hm0 hm rd tp p s g u tu tA pu pA su sA gu gA) : PG hm p pu pA := h.2.2.1
theorem RX.sc (h : RX hm0 hm rd tp p s g u tu tA pu pA su sA gu gA) : SC hm s su sA := h.2.2.2.1
theorem RX.rg (h : RX hm0 hm rd tp p s g u tu tA pu pA su sA gu gA) : RG hm g gu gA := h.2.2.2.2.1
theorem RX.ad (h : RX hm0 hm rd tp p s g u tu tA pu pA su sA gu gA) : adX rd tp p s g := h.2.2.2.2.2.1
theorem RX.fr (h : RX hm0 hm rd tp p s g u tu tA pu pA su sA gu gA) : ∀ a, (a < p ∨ p + 10 ≤ a) → (a < s ∨ s + 11 ≤ a) → (a < g ∨ g + 3 ≤ a) → a ≠ rd → hm a = hm0 a := h.2.2.2.2.2.2
theorem RX.o (h : RX hm0 hm rd tp p s g u tu tA pu pA su sA gu gA) (u2 : Nat → Int32) : RX hm0 (im_up hm rd (.inr (2, fs_RD (rdA tp p s g) u2))) rd tp p s g u2 tu tA pu pA su sA gu gA := by
  have ha := h.ad
  unfold adX at ha
  exact ⟨up_eq _ _ _, h.tt.k (by omega), h.pg.k (by omega), h.sc.k (by omega), h.rg.k (by omega), h.ad, fun a h1 h2 h3 h4 => by rw [up_ne h4]; exact h.fr a h1 h2 h3 h4⟩
theorem RX.s_pg (h : RX hm0 hm rd tp p s g u tu tA pu pA su sA gu gA) (hp : PG hm2 p u' A') (hs : sm p (p + 10) hm hm2) : RX hm0 hm2 rd tp p s g u tu tA u' A' su sA gu gA := by
  have ha := h.ad
  unfold adX at ha
  exact ⟨(hs _ (by omega)).trans h.r, h.tt.s hs (by omega), hp, h.sc.s hs (by omega), h.rg.s hs (by omega), h.ad, fun a h1 h2 h3 h4 => by rw [hs a h1]; exact h.fr a h1 h2 h3 h4⟩
theorem RX.s_sc (h : RX hm0 hm rd tp p s g u tu tA pu pA su sA gu gA) (hp : SC hm2 s u' A') (hs : sm s (s + 11) hm hm2) : RX hm0 hm2 rd tp p s g u tu tA pu pA u' A' gu gA := by
  have ha := h.ad
  unfold adX at ha
  exact ⟨(hs _ (by omega)).trans h.r, h.tt.s hs (by omega), h.pg.s hs (by omega), hp, h.rg.s hs (by omega), h.ad, fun a h1 h2 h3 h4 => by rw [hs a h2]; exact h.fr a h1 h2 h3 h4⟩
theorem RX.s_rg (h : RX hm0 hm rd tp p s g u tu tA pu pA su sA gu gA) (hp : RG hm2 g u' A') (hs : sm g (g + 3) hm hm2) : RX hm0 hm2 rd tp p s g u tu tA pu pA su sA u' A' := by
  have ha := h.ad
  unfold adX at ha
  exact ⟨(hs _ (by omega)).trans h.r, h.tt.s hs (by omega), h.pg.s hs (by omega), h.sc.s hs (by omega), hp, h.ad, fun a h1 h2 h3 h4 => by rw [hs a h3]; exact h.fr a h1 h2 h3 h4⟩
/-- a number is read at q: its start, its end, its value, the fault -/
def nmO (T : Nat → Int32) (e q : Nat) (lo hi : Int32) (st q' : Nat) (v : Int32) (f : Nat) : Prop := nxq T e (fun x => x = 32) q st ∧ ((f = 1 ∧ ¬ (st < e ∧ isDg (T st))) ∨ (st < e ∧ isDg (T st) ∧ nxq T e isDg st q' ∧ v = dgv T st (q' - st) ∧ ((f = 2 ∧ ¬ (lo ≤ v ∧ v ≤ hi)) ∨ (f = 0 ∧ lo ≤ v ∧ v ≤ hi))))
theorem c_num {lo hi : Int32} (hX : RX hm0 hm rd tp p s g u tu tA pu pA su sA gu gA) (e4 : u 4 = nI e) (he : e ≤ 900) (e8 : u 8 = nI q) (hq : q ≤ e)
    (hF : ∀ st q' v f hm' u', f ≠ 0 → nmO (tA 1) e q lo hi st q' v f → RX hm0 hm' rd tp p s g u' tu tA pu pA su sA gu gA → u' 0 = nI f → u' 1 = nI st → Q (some (.int 0)) hm' hs)
    (hS : ∀ st q' v hm' u', nmO (tA 1) e q lo hi st q' v 0 → RX hm0 hm' rd tp p s g u' tu tA pu pA su sA gu gA → (∀ s, s < 8 → u' s = u s) → u' 8 = nI q' → u' 10 = nI st → u' 12 = v → Q (some (.int 1)) hm' hs) : CC X EV (d + 4) 46 [.ref rd, .int lo, .int hi] hm hs Q := by
  have ha := hX.ad
  unfold adX at ha
  refine c_of (ls2 := [.ref rd, .int lo, .int hi, .null]) Y46 (Nat.le_of_ble_eq_true rfl) rfl I46 ?_
  simp only [r_al0 dX2_readNumber_0, List.cons_append, List.nil_append, Nat.reduceAdd, Option.toList, z0]
  refine r_iv1 dX2_readNumber_1 M2_63 Y37 O37 (Nat.le_of_ble_eq_true rfl) (rcv_own hX.r) (Nat.le_refl _) (Nat.le_refl _) ?_
  refine c_readPiece hX.r ra_3 hX.tt (by omega) e4 he e8 hq (fun st q' u1 hr => ?_)
  have hX1 := hX.o u1
  have hR1 := hX1.r
  obtain ⟨h1, h2, h3, h4, h5, h6, h7, h8⟩ := hr
  simp only [r_al0 dX2_readNumber_4, r_getf dX2_readNumber_5 F2_24, r_iconst dX2_readNumber_8 ki1, r_ic_eq (tgt := 22) dX2_readNumber_9 rfl, r_al0 dX2_readNumber_12, r_iconst dX2_readNumber_13 ki1, r_al0 dX2_readNumber_14, r_getf dX2_readNumber_15 F2_27, r_al0 dX2_readNumber_22, r_getf dX2_readNumber_23 F2_33, r_il1 dX2_readNumber_26, r_ic_lt (tgt := 42) dX2_readNumber_27 rfl, r_al0 dX2_readNumber_30, r_getf dX2_readNumber_31 F2_33, r_il2 dX2_readNumber_34, r_ic_gt (tgt := 42) dX2_readNumber_35 rfl, r_iconst dX2_readNumber_38 ki1, r_goto (tgt := 43) dX2_readNumber_39 rfl, r_iconst dX2_readNumber_42 ki0, r_is3 dX2_readNumber_43, r_il3 dX2_readNumber_44, r_if_ne (tgt := 60) dX2_readNumber_45 rfl, r_al0 dX2_readNumber_48, r_iconst dX2_readNumber_49 ki2, r_al0 dX2_readNumber_50, r_getf dX2_readNumber_51 F2_27, r_iconst dX2_readNumber_60 ki1, r_goto (tgt := 65) dX2_readNumber_61 rfl, r_zret0 dX2_readNumber_65 (Nat.zero_le _) (Nat.zero_le _), r_zret1 dX2_readNumber_65 (Nat.zero_le _) (Nat.zero_le _), r_zretc dX2_readNumber_65 (Nat.zero_le _) (Nat.zero_le _), List.cons_append, List.nil_append, Nat.reduceAdd, Option.toList, cat_f, cat_i, cat_n, cat_r, eq_self, g2_10, g2_12, g2_9, true_and, z0, hR1, rd_own hR1, h3]
  refine ⟨fun hk => ?_, fun hk => ?_⟩
  · have hd : st < e ∧ isDg (tA 1 st) ∧ nxq (tA 1) e isDg st q' ∧ u1 12 = dgv (tA 1) st (q' - st) := by
      rcases h8 with h | h | h | h
      · rw [h.2.1] at hk; exact absurd hk (by decide)
      · exact ⟨h.1, h.2.1, h.2.2.2.1, h.2.2.2.2⟩
      · rw [h.2.2.2.1] at hk; exact absurd hk (by decide)
      · rw [h.2.2.2.1] at hk; exact absurd hk (by decide)
    obtain ⟨d1, d2, d3, d4⟩ := hd
    have bad : ¬ (lo ≤ u1 12 ∧ u1 12 ≤ hi) → ∀ w, E1 X EV (d + 3) 2 0 0 (some .boolean) false cX2_readNumber Q 54 [.ref rd, .int lo, .int hi, w] [.int (nI st), .int 2, .ref rd] 0 0 (im_up hm rd (.inr (2, fs_RD (rdA tp p s g) u1))) hs := by
      intro hb w
      refine r_iv3 dX2_readNumber_54 M2_145 Y43 O43 (Nat.le_of_ble_eq_true rfl) (rcv_own hR1) (Nat.le_refl _) (Nat.le_refl _) ?_
      refine c_refuse hR1 ?_
      have hX2 := hX1.o (upd (upd u1 0 2) 1 (nI st))
      rw [up_up] at hX2 ⊢
      simp only [r_if_eq (tgt := 64) dX2_readNumber_57 rfl, r_iconst dX2_readNumber_60 ki1, r_goto (tgt := 65) dX2_readNumber_61 rfl, r_iconst dX2_readNumber_64 ki0, r_zret0 dX2_readNumber_65 (Nat.zero_le _) (Nat.zero_le _), r_zret1 dX2_readNumber_65 (Nat.zero_le _) (Nat.zero_le _), r_zretc dX2_readNumber_65 (Nat.zero_le _) (Nat.zero_le _), List.cons_append, List.nil_append, Nat.reduceAdd, Option.toList, z0]
      refine ⟨fun _ => ?_, fun h => absurd trivial h⟩
      exact hF st q' (u1 12) 2 _ _ (by decide) ⟨h5, Or.inr ⟨d1, d2, d3, d4, Or.inl ⟨rfl, hb⟩⟩⟩ hX2 (by rw [pk_un (by decide), pk_us]; rfl) pk_us
    have good : (lo ≤ u1 12 ∧ u1 12 ≤ hi) → Q (some (.int 1)) (im_up hm rd (.inr (2, fs_RD (rdA tp p s g) u1))) hs := fun hb => hS st q' (u1 12) _ u1 ⟨h5, Or.inr ⟨d1, d2, d3, d4, Or.inr ⟨rfl, hb.1, hb.2⟩⟩⟩ hX1 h1 h2 h3 rfl
    exact ⟨fun h => ⟨fun h2 => absurd trivial h2, fun _ => bad (fun z => by grind) _⟩, fun h => ⟨fun h2 => ⟨fun h3 => absurd trivial h3, fun _ => bad (fun z => by grind) _⟩, fun h2 => ⟨fun _ => good (by grind), fun h3 => absurd (Classical.not_not.mp h3) (by decide)⟩⟩⟩
  · skip
    refine r_iv3 dX2_readNumber_18 M2_145 Y43 O43 (Nat.le_of_ble_eq_true rfl) (rcv_own hR1) (Nat.le_refl _) (Nat.le_refl _) ?_
    refine c_refuse hR1 ?_
    have hX2 := hX1.o (upd (upd u1 0 1) 1 (nI st))
    rw [up_up] at hX2 ⊢
    simp only [r_zret0 dX2_readNumber_21 (Nat.zero_le _) (Nat.zero_le _), r_zret1 dX2_readNumber_21 (Nat.zero_le _) (Nat.zero_le _), r_zretc dX2_readNumber_21 (Nat.zero_le _) (Nat.zero_le _), List.cons_append, List.nil_append, Nat.reduceAdd, Option.toList, z0]
    refine hF st q' (u1 12) 1 _ _ (by decide) ⟨h5, Or.inl ⟨rfl, fun z => hk ?_⟩⟩ hX2 (by rw [pk_un (by decide), pk_us]; rfl) pk_us
    rcases h8 with h | h | h | h
    · omega
    · exact h.2.2.1
    · exact absurd z.2 h.2.1
    · exact absurd z.2 h.2.1
theorem c_semi (hX : RX hm0 hm rd tp p s g u tu tA pu pA su sA gu gA) (e4 : u 4 = nI e) (he : e ≤ 900) (e8 : u 8 = nI q) (hq : q ≤ e)
    (hF : ∀ st hm' u', nxq (tA 1) e (fun x => x = 32) q st → ¬ (st < e ∧ tA 1 st = 59) → RX hm0 hm' rd tp p s g u' tu tA pu pA su sA gu gA → u' 0 = 1 → u' 1 = nI st → Q (some (.int 0)) hm' hs)
    (hS : ∀ st hm' u', nxq (tA 1) e (fun x => x = 32) q st → st < e → tA 1 st = 59 → RX hm0 hm' rd tp p s g u' tu tA pu pA su sA gu gA → (∀ s, s < 8 → u' s = u s) → u' 8 = nI (st + 1) → Q (some (.int 1)) hm' hs) : CC X EV (d + 4) 45 [.ref rd] hm hs Q := by
  have ha := hX.ad
  unfold adX at ha
  refine c_of (ls2 := [.ref rd, .null]) Y45 (Nat.le_of_ble_eq_true rfl) rfl I45 ?_
  simp only [r_al0 dX2_readSemicolon_0, List.cons_append, List.nil_append, Nat.reduceAdd, Option.toList, z0]
  refine r_iv1 dX2_readSemicolon_1 M2_63 Y37 O37 (Nat.le_of_ble_eq_true rfl) (rcv_own hX.r) (Nat.le_refl _) (Nat.le_refl _) ?_
  refine c_readPiece hX.r ra_3 hX.tt (by omega) e4 he e8 hq (fun st q' u1 hr => ?_)
  have hX1 := hX.o u1
  have hR1 := hX1.r
  have hT1 := hX1.tt
  obtain ⟨h1, h2, h3, h4, h5, h6, h7, h8⟩ := hr
  have bad : ¬ (st < e ∧ tA 1 st = 59) → ∀ w, E1 X EV (d + 3) 2 0 0 (some .boolean) false cX2_readSemicolon Q 45 [.ref rd, w] [.int (nI st), .int 1, .ref rd] 0 0 (im_up hm rd (.inr (2, fs_RD (rdA tp p s g) u1))) hs := by
    intro hb w
    refine r_iv3 dX2_readSemicolon_45 M2_145 Y43 O43 (Nat.le_of_ble_eq_true rfl) (rcv_own hR1) (Nat.le_refl _) (Nat.le_refl _) ?_
    refine c_refuse hR1 ?_
    have hX2 := hX1.o (upd (upd u1 0 1) 1 (nI st))
    rw [up_up] at hX2 ⊢
    simp only [r_if_eq (tgt := 55) dX2_readSemicolon_48 rfl, r_iconst dX2_readSemicolon_51 ki1, r_goto (tgt := 56) dX2_readSemicolon_52 rfl, r_iconst dX2_readSemicolon_55 ki0, r_zret0 dX2_readSemicolon_56 (Nat.zero_le _) (Nat.zero_le _), r_zret1 dX2_readSemicolon_56 (Nat.zero_le _) (Nat.zero_le _), r_zretc dX2_readSemicolon_56 (Nat.zero_le _) (Nat.zero_le _), List.cons_append, List.nil_append, Nat.reduceAdd, Option.toList, z0]
    refine ⟨fun _ => ?_, fun h => absurd trivial h⟩
    exact hF st _ _ h5 hb hX2 (by rw [pk_un (by decide), pk_us]) pk_us
  have good : st < e → tA 1 st = 59 → Q (some (.int 1)) (im_up hm rd (.inr (2, fs_RD (rdA tp p s g) u1))) hs := by
    intro k1 k2
    refine hS st _ u1 h5 k1 k2 hX1 h1 ?_
    rcases h8 with h | h | h | h
    · omega
    · exact absurd h.2.1 (by rw [k2]; unfold isDg; decide)
    · exact absurd h.2.2.1 (by rw [k2]; unfold isSm; decide)
    · rw [h2, h.2.2.2.2.1]
  have hlt : u1 9 = 3 → st < e := by
    intro hk
    rcases h8 with h | h | h | h
    · rw [h.2.1] at hk; exact absurd hk (by decide)
    · exact h.1
    · exact h.1
    · exact h.1
  simp only [r_al0 dX2_readSemicolon_4, r_getf dX2_readSemicolon_5 F2_24, r_iconst dX2_readSemicolon_8 ki3, r_ic_ne (tgt := 33) dX2_readSemicolon_9 rfl, r_iconst dX2_readSemicolon_33 ki0, r_is1 dX2_readSemicolon_34, r_il1 dX2_readSemicolon_35, r_if_ne (tgt := 51) dX2_readSemicolon_36 rfl, r_al0 dX2_readSemicolon_39, r_iconst dX2_readSemicolon_40 ki1, r_al0 dX2_readSemicolon_41, r_getf dX2_readSemicolon_42 F2_27, r_iconst dX2_readSemicolon_51 ki1, r_goto (tgt := 56) dX2_readSemicolon_52 rfl, r_zret0 dX2_readSemicolon_56 (Nat.zero_le _) (Nat.zero_le _), r_zret1 dX2_readSemicolon_56 (Nat.zero_le _) (Nat.zero_le _), r_zretc dX2_readSemicolon_56 (Nat.zero_le _) (Nat.zero_le _), List.cons_append, List.nil_append, Nat.reduceAdd, Option.toList, cat_f, cat_i, cat_n, cat_r, eq_self, g2_10, g2_9, true_and, z0, hR1, rd_own hR1, h3]
  refine ⟨fun hk => ?_, fun hk => ?_⟩
  · refine ⟨fun h => absurd trivial h, fun _ => bad (fun z => ?_) _⟩
    apply hk
    rcases h8 with h | h | h | h
    · omega
    · exact absurd h.2.1 (by rw [z.2]; unfold isDg; decide)
    · exact absurd h.2.2.1 (by rw [z.2]; unfold isSm; decide)
    · exact h.2.2.2.1
  · have hst := hlt (Classical.not_not.mp hk)
    simp only [r_al0 dX2_readSemicolon_12, r_getf dX2_readSemicolon_13 F2_36, r_getf dX2_readSemicolon_16 F2_73, r_al0 dX2_readSemicolon_19, r_getf dX2_readSemicolon_20 F2_27, r_iald dX2_readSemicolon_23, r_bipush dX2_readSemicolon_24 kb59, r_ic_ne (tgt := 33) dX2_readSemicolon_26 rfl, r_iconst dX2_readSemicolon_29 ki1, r_goto (tgt := 34) dX2_readSemicolon_30 rfl, r_iconst dX2_readSemicolon_33 ki0, r_is1 dX2_readSemicolon_34, r_il1 dX2_readSemicolon_35, r_if_ne (tgt := 51) dX2_readSemicolon_36 rfl, r_al0 dX2_readSemicolon_39, r_iconst dX2_readSemicolon_40 ki1, r_al0 dX2_readSemicolon_41, r_getf dX2_readSemicolon_42 F2_27, r_iconst dX2_readSemicolon_51 ki1, r_goto (tgt := 56) dX2_readSemicolon_52 rfl, r_zret0 dX2_readSemicolon_56 (Nat.zero_le _) (Nat.zero_le _), r_zret1 dX2_readSemicolon_56 (Nat.zero_le _) (Nat.zero_le _), r_zretc dX2_readSemicolon_56 (Nat.zero_le _) (Nat.zero_le _), List.cons_append, List.nil_append, Nat.reduceAdd, Option.toList, aI_ok, cat_f, cat_i, cat_n, cat_r, eq_self, g2_10, g2_3, g8_1, true_and, z0, hR1, rd_own hR1, h3, ra_3, hT1.r, rd_own hT1.r, hT1.r1, rd_own hT1.r1, nI_clamp (show st < 2 ^ 31 by omega)]
    refine ⟨vp_in_nI (by omega) (by omega), fun k2 => ⟨fun h => absurd trivial h, fun _ => bad (fun z => k2 z.2) _⟩, fun k2 => ⟨fun _ => good hst (Classical.not_not.mp k2), fun h => absurd (Classical.not_not.mp h) (by decide)⟩⟩
theorem c_isNamed {sr L st z : Nat} {f : Nat → Nat} (hX : RX hm0 hm rd tp p s g u tu tA pu pA su sA gu gA) (hStr : STR X EV hm sr L f) (e10 : u 10 = nI st) (e11 : u 11 = nI z) (hz : st + z ≤ 900) {c : Prop} [Decidable c] (hc : c ↔ (u 9 = 2 ∧ z = L ∧ ∀ i, i < L → tA 1 (st + i) = nI (f i)))
    (hQ : Q (some (.int (if c then 1 else 0))) hm hs) : CC X EV (d + 5) 42 [.ref rd, .ref sr] hm hs Q := by
  have hQ := zq hQ
  rw [hc] at hQ
  have hR := hX.r
  have hT := hX.tt
  obtain ⟨-, -, v, hr, -, hL, h128⟩ := id hStr
  refine c_of (ls2 := [.ref rd, .ref sr, .null]) Y42 (Nat.le_of_ble_eq_true rfl) rfl I42 ?_
  simp only [r_al0 dX2_isNamed_0, r_getf dX2_isNamed_1 F2_24, r_iconst dX2_isNamed_4 ki2, r_ic_ne (tgt := 19) dX2_isNamed_5 rfl, r_al0 dX2_isNamed_8, r_getf dX2_isNamed_9 F2_30, r_al1 dX2_isNamed_12, r_iconst dX2_isNamed_19 ki0, r_zret0 dX2_isNamed_20 (Nat.zero_le _) (Nat.zero_le _), r_zret1 dX2_isNamed_20 (Nat.zero_le _) (Nat.zero_le _), r_zretc dX2_isNamed_20 (Nat.zero_le _) (Nat.zero_le _), List.cons_append, List.nil_append, Nat.reduceAdd, Option.toList, g2_11, g2_9, z0, hR, rd_own hR, e11]
  refine ⟨fun h => hQ.2 (fun z => h z.1), fun h => ?_⟩
  have h9 := Classical.not_not.mp h
  refine r_iv1 dX2_isNamed_13 M2_92 Y264 O264 (Nat.le_of_ble_eq_true rfl) (by rw [hr]; exact rfl) (Nat.le_refl _) (Nat.le_refl _) ?_
  refine c_length hStr ?_
  simp only [r_ic_eq (tgt := 21) dX2_isNamed_16 rfl, r_iconst dX2_isNamed_19 ki0, r_zret0 dX2_isNamed_20 (Nat.zero_le _) (Nat.zero_le _), r_zret1 dX2_isNamed_20 (Nat.zero_le _) (Nat.zero_le _), r_zretc dX2_isNamed_20 (Nat.zero_le _) (Nat.zero_le _), r_iconst dX2_isNamed_21 ki0, r_is2 dX2_isNamed_22, List.cons_append, List.nil_append, Nat.reduceAdd, Option.toList, cat_f, cat_i, cat_n, cat_r, eq_self, true_and, z0]
  simp (disch := omega) only [E2, nI_1, nI_add, nI_leI, nI_ltI, nI_eq, nI_clamp]
  refine ⟨fun h2 => ?_, fun h2 => hQ.2 (fun z => h2 z.2.1)⟩
  subst h2
  suffices H : ∀ k, k ≤ z → (∀ i, i < k → tA 1 (st + i) = nI (f i)) → E1 X EV (d + 4) 2 0 0 (some .boolean) false cX2_isNamed Q 23 [.ref rd, .ref sr, .int (nI k)] [] 0 0 hm hs from H 0 (by omega) (fun i hi => absurd hi (Nat.not_lt_zero i))
  refine up_loop z _ ?_ ?_
  · intro hall
    simp only [r_il2 dX2_isNamed_23, r_al0 dX2_isNamed_24, r_getf dX2_isNamed_25 F2_30, r_ic_ge (tgt := 61) dX2_isNamed_28 rfl, r_al0 dX2_isNamed_31, r_getf dX2_isNamed_32 F2_36, r_getf dX2_isNamed_35 F2_73, r_al0 dX2_isNamed_38, r_getf dX2_isNamed_39 F2_27, r_il2 dX2_isNamed_42, r_iadd dX2_isNamed_43, r_iald dX2_isNamed_44, r_al1 dX2_isNamed_45, r_il2 dX2_isNamed_46, r_iconst dX2_isNamed_61 ki1, r_zret0 dX2_isNamed_62 (Nat.zero_le _) (Nat.zero_le _), r_zret1 dX2_isNamed_62 (Nat.zero_le _) (Nat.zero_le _), r_zretc dX2_isNamed_62 (Nat.zero_le _) (Nat.zero_le _), List.cons_append, List.nil_append, Nat.reduceAdd, Option.toList, aI_ok, g2_10, g2_11, g2_3, g8_1, z0, hR, rd_own hR, e11]
    exact ⟨fun _ => hQ.1 ⟨h9, rfl, hall⟩, fun h => absurd (Int32.le_refl _) h⟩
  · intro k hk ih hall
    simp only [r_il2 dX2_isNamed_23, r_al0 dX2_isNamed_24, r_getf dX2_isNamed_25 F2_30, r_ic_ge (tgt := 61) dX2_isNamed_28 rfl, r_al0 dX2_isNamed_31, r_getf dX2_isNamed_32 F2_36, r_getf dX2_isNamed_35 F2_73, r_al0 dX2_isNamed_38, r_getf dX2_isNamed_39 F2_27, r_il2 dX2_isNamed_42, r_iadd dX2_isNamed_43, r_iald dX2_isNamed_44, r_al1 dX2_isNamed_45, r_il2 dX2_isNamed_46, r_iconst dX2_isNamed_61 ki1, r_zret0 dX2_isNamed_62 (Nat.zero_le _) (Nat.zero_le _), r_zret1 dX2_isNamed_62 (Nat.zero_le _) (Nat.zero_le _), r_zretc dX2_isNamed_62 (Nat.zero_le _) (Nat.zero_le _), List.cons_append, List.nil_append, Nat.reduceAdd, Option.toList, aI_ok, g2_10, g2_11, g2_3, g8_1, z0, hR, rd_own hR, e11, e10, ra_3, hT.r, rd_own hT.r, hT.r1, rd_own hT.r1, nI_add]
    simp (disch := omega) only [E2, nI_1, nI_add, nI_leI, nI_ltI, nI_eq, nI_clamp]
    refine ⟨fun h => absurd h (by omega), fun _ => ⟨vp_in_nI (by omega) (by omega), ?_⟩⟩
    refine r_iv2 dX2_isNamed_47 M2_98 Y265 O265 (Nat.le_of_ble_eq_true rfl) (by rw [hr]; exact rfl) (Nat.le_refl _) (Nat.le_refl _) ?_
    refine c_charAt hStr hk ?_
    simp only [r_ic_eq (tgt := 55) dX2_isNamed_50 rfl, r_iconst dX2_isNamed_53 ki0, r_zret0 dX2_isNamed_54 (Nat.zero_le _) (Nat.zero_le _), r_zret1 dX2_isNamed_54 (Nat.zero_le _) (Nat.zero_le _), r_zretc dX2_isNamed_54 (Nat.zero_le _) (Nat.zero_le _), r_ii2 dX2_isNamed_55 kn1, r_gotoB (tgt := 23) dX2_isNamed_58 rfl, List.cons_append, List.nil_append, Nat.reduceAdd, Option.toList, cat_f, cat_i, cat_n, cat_r, eq_self, true_and, z0]
    refine ⟨fun h2 => ?_, fun h2 => hQ.2 (fun z => h2 (z.2.2 k hk))⟩
    simp (disch := omega) only [E2, nI_1, nI_add, nI_leI, nI_ltI, nI_eq, nI_clamp]
    exact ih (fun i hi => by
      rcases Nat.lt_or_ge i k with h' | h'
      · exact hall i h'
      · rw [show i = k by omega]; exact h2)
/-- what follows a refusal -/
def FK (hm0 : HM) (rd tp p s g : Nat) (tu : Nat → Int32) (tA : Nat → Nat → Int32) (gu : Nat → Int32) (gA : Nat → Nat → Int32) (Q : QT) (hs f at' : Nat) : Prop := ∀ hm' u' pu' pA' su' sA', RX hm0 hm' rd tp p s g u' tu tA pu' pA' su' sA' gu gA → u' 0 = nI f → u' 1 = nI at' → Q (some (.int 0)) hm' hs
theorem c_no {lab : Nat} {f at' : Nat} {x : Int32} (hX : RX hm0 hm rd tp p s g u tu tA pu pA su sA gu gA) (ex : x = nI f) (hQ : FK hm0 rd tp p s g tu tA gu gA Q hs f at') : CC X EV (d + 1) 43 [.ref rd, .int x, .int (nI at')] hm hs Q := by
  refine c_refuse hX.r ?_
  refine hQ _ _ _ _ _ _ (hX.o (upd (upd u 0 x) 1 (nI at'))) ?_ pk_us
  rw [pk_un (by decide), pk_us, ex]
theorem c_readPage {st0 : Nat} (hX : RX hm0 hm rd tp p s g u tu tA pu pA su sA gu gA) (e4 : u 4 = nI e) (he : e ≤ 900) (e8 : u 8 = nI q) (hq : q ≤ e) (e10 : u 10 = nI st0)
    (h0 : 0 < u 2 → FK hm0 rd tp p s g tu tA gu gA Q hs 1 st0)
    (h1 : ¬ 0 < u 2 → ∀ st1 q1 v1 f1, nmO (tA 1) e q 3 24 st1 q1 v1 f1 → (f1 ≠ 0 → FK hm0 rd tp p s g tu tA gu gA Q hs f1 st1) ∧ (f1 = 0 → ∀ st2 q2 v2 f2, nmO (tA 1) e q1 3 12 st2 q2 v2 f2 → (f2 ≠ 0 → FK hm0 rd tp p s g tu tA gu gA Q hs f2 st2) ∧
      (f2 = 0 → ∀ hm' u', RX hm0 hm' rd tp p s g u' tu tA (upd (upd pu 0 v1) 1 v2) pA su sA gu gA → (∀ s, s < 8 → u' s = u s) → u' 8 = nI q2 → Q (some (.int 1)) hm' hs))) : CC X EV (d + 5) 47 [.ref rd] hm hs Q := by
  have hR := hX.r
  refine c_of (ls2 := [.ref rd]) Y47 (Nat.le_of_ble_eq_true rfl) rfl I47 ?_
  simp only [r_al0 dX2_readPage_0, r_getf dX2_readPage_1 F2_18, r_if_le (tgt := 17) dX2_readPage_4 rfl, r_al0 dX2_readPage_7, r_iconst dX2_readPage_8 ki1, r_al0 dX2_readPage_9, r_getf dX2_readPage_10 F2_27, r_al0 dX2_readPage_17, r_iconst dX2_readPage_18 ki3, r_bipush dX2_readPage_19 kb24, List.cons_append, List.nil_append, Nat.reduceAdd, Option.toList, g2_10, g2_2, z0, hR, rd_own hR, e10]
  refine ⟨fun k => ?_, fun k => ?_⟩
  · have h1 := h1 (by grind)
    refine r_iv3 dX2_readPage_21 M2_149 Y46 O46 (Nat.le_of_ble_eq_true rfl) (rcv_own hR) (Nat.le_refl _) (Nat.le_refl _) ?_
    refine c_num hX e4 he e8 hq (fun st1 q1 v1 f1 hm1 u1 k1 k2 hX1 k3 k4 => ?_) (fun st1 q1 v1 hm1 u1 k2 hX1 k3 k4 k5 k6 => ?_)
    · skip
      simp (disch := first | omega | (simp only [List.length_cons, List.length_nil]; omega)) only [r_if_ne (tgt := 29) dX2_readPage_24 rfl, r_iconst dX2_readPage_27 ki0, r_zret0 dX2_readPage_28 (Nat.zero_le _) (Nat.zero_le _), r_zret1 dX2_readPage_28 (Nat.zero_le _) (Nat.zero_le _), r_zretc dX2_readPage_28 (Nat.zero_le _) (Nat.zero_le _), r_al0 dX2_readPage_29, r_getf dX2_readPage_30 F2_43, r_al0 dX2_readPage_33, r_getf dX2_readPage_34 F2_33, r_putf dX2_readPage_37 F2_152, r_al0 dX2_readPage_40, r_iconst dX2_readPage_41 ki3, r_bipush dX2_readPage_42 kb12, List.cons_append, List.nil_append, Nat.reduceAdd, Option.toList, fit_i, ft1_0, g2_12, g2_5, p1_0, pk_un, pk_us, rd_up_eq, rd_up_ne, true_and, up_eq, up_ne, up_up, z0]
      exact ⟨fun h => absurd trivial h, fun _ => (h1 st1 q1 v1 f1 k2).1 k1 _ _ _ _ _ _ hX1 k3 k4⟩
    · have h1 := (h1 st1 q1 v1 0 k2).2 rfl
      have hR1 := hX1.r
      have hp1 := hX1.pg
      simp (disch := first | omega | (simp only [List.length_cons, List.length_nil]; omega)) only [r_if_ne (tgt := 29) dX2_readPage_24 rfl, r_iconst dX2_readPage_27 ki0, r_zret0 dX2_readPage_28 (Nat.zero_le _) (Nat.zero_le _), r_zret1 dX2_readPage_28 (Nat.zero_le _) (Nat.zero_le _), r_zretc dX2_readPage_28 (Nat.zero_le _) (Nat.zero_le _), r_al0 dX2_readPage_29, r_getf dX2_readPage_30 F2_43, r_al0 dX2_readPage_33, r_getf dX2_readPage_34 F2_33, r_putf dX2_readPage_37 F2_152, r_al0 dX2_readPage_40, r_iconst dX2_readPage_41 ki3, r_bipush dX2_readPage_42 kb12, List.cons_append, List.nil_append, Nat.reduceAdd, Option.toList, fit_i, ft1_0, g2_12, g2_5, p1_0, pk_un, pk_us, rd_up_eq, rd_up_ne, true_and, up_eq, up_ne, up_up, z0, hR1, rd_own hR1, ra_5, hp1.r, rd_own hp1.r, hp1.r, rd_own hp1.r, k6]
      refine ⟨fun _ => ?_, fun h => absurd (Classical.not_not.mp h) (by decide)⟩
      have hX2 := hX1.s_pg (hp1.o (upd pu 0 v1)) (sm.rf.up (by omega))
      have hq1 : q1 ≤ e := by
        obtain ⟨-, h | h⟩ := k2
        · omega
        · exact h.2.2.1.2.1
      refine r_iv3 dX2_readPage_44 M2_149 Y46 O46 (Nat.le_of_ble_eq_true rfl) (rcv_own hX2.r) (Nat.le_refl _) (Nat.le_refl _) ?_
      refine c_num hX2 (by rw [k3 4 (by omega)]; exact e4) he k4 hq1 (fun st2 q2 v2 f2 hm2 u2 g1 g2 hX3 g3 g4 => ?_) (fun st2 q2 v2 hm2 u2 g2 hX3 g3 g4 g5 g6 => ?_)
      · skip
        simp (disch := first | omega | (simp only [List.length_cons, List.length_nil]; omega)) only [r_if_ne (tgt := 52) dX2_readPage_47 rfl, r_iconst dX2_readPage_50 ki0, r_zret0 dX2_readPage_51 (Nat.zero_le _) (Nat.zero_le _), r_zret1 dX2_readPage_51 (Nat.zero_le _) (Nat.zero_le _), r_zretc dX2_readPage_51 (Nat.zero_le _) (Nat.zero_le _), r_al0 dX2_readPage_52, r_getf dX2_readPage_53 F2_43, r_al0 dX2_readPage_56, r_getf dX2_readPage_57 F2_33, r_putf dX2_readPage_60 F2_155, r_iconst dX2_readPage_63 ki1, r_zret0 dX2_readPage_64 (Nat.zero_le _) (Nat.zero_le _), r_zret1 dX2_readPage_64 (Nat.zero_le _) (Nat.zero_le _), r_zretc dX2_readPage_64 (Nat.zero_le _) (Nat.zero_le _), List.cons_append, List.nil_append, Nat.reduceAdd, Option.toList, fit_i, ft1_1, g2_12, g2_5, p1_1, pk_un, pk_us, rd_up_eq, rd_up_ne, true_and, up_eq, up_ne, up_up, z0]
        exact ⟨fun h => absurd trivial h, fun _ => (h1 st2 q2 v2 f2 g2).1 g1 _ _ _ _ _ _ hX3 g3 g4⟩
      · have h1 := (h1 st2 q2 v2 0 g2).2 rfl
        have hR3 := hX3.r
        have hp3 := hX3.pg
        simp (disch := first | omega | (simp only [List.length_cons, List.length_nil]; omega)) only [r_if_ne (tgt := 52) dX2_readPage_47 rfl, r_iconst dX2_readPage_50 ki0, r_zret0 dX2_readPage_51 (Nat.zero_le _) (Nat.zero_le _), r_zret1 dX2_readPage_51 (Nat.zero_le _) (Nat.zero_le _), r_zretc dX2_readPage_51 (Nat.zero_le _) (Nat.zero_le _), r_al0 dX2_readPage_52, r_getf dX2_readPage_53 F2_43, r_al0 dX2_readPage_56, r_getf dX2_readPage_57 F2_33, r_putf dX2_readPage_60 F2_155, r_iconst dX2_readPage_63 ki1, r_zret0 dX2_readPage_64 (Nat.zero_le _) (Nat.zero_le _), r_zret1 dX2_readPage_64 (Nat.zero_le _) (Nat.zero_le _), r_zretc dX2_readPage_64 (Nat.zero_le _) (Nat.zero_le _), List.cons_append, List.nil_append, Nat.reduceAdd, Option.toList, fit_i, ft1_1, g2_12, g2_5, p1_1, pk_un, pk_us, rd_up_eq, rd_up_ne, true_and, up_eq, up_ne, up_up, z0, hR3, rd_own hR3, ra_5, hp3.r, rd_own hp3.r, hp3.r, rd_own hp3.r, g6]
        refine ⟨fun _ => ?_, fun h => absurd (Classical.not_not.mp h) (by decide)⟩
        exact h1 _ u2 (hX3.s_pg (hp3.o (upd (upd pu 0 v1) 1 v2)) (sm.rf.up (by omega))) (fun s hs => (g3 s hs).trans (k3 s hs)) g4
  · skip
    refine r_iv3 dX2_readPage_13 M2_145 Y43 O43 (Nat.le_of_ble_eq_true rfl) (rcv_own hR) (Nat.le_refl _) (Nat.le_refl _) ?_
    refine c_no (lab := 0) hX rfl ?_
    intro hm' u' pu' pA' su' sA' hX' k1 k2
    simp only [r_zret0 dX2_readPage_16 (Nat.zero_le _) (Nat.zero_le _), r_zret1 dX2_readPage_16 (Nat.zero_le _) (Nat.zero_le _), r_zretc dX2_readPage_16 (Nat.zero_le _) (Nat.zero_le _), List.cons_append, List.nil_append, Nat.reduceAdd, Option.toList, z0]
    exact h0 (by grind) hm' u' pu' pA' su' sA' hX' k1 k2
end R2
