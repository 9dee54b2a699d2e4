/-- what the class has read -/
def TXO (r : OU) (u pu : Nat → Int32) (pA : Nat → Nat → Int32) (su : Nat → Int32) (sA : Nat → Nat → Int32) (gu gu' : Nat → Int32) (gA gA' : Nat → Nat → Int32) : Prop := match r with
  | .inl (lm, S) => u 0 = 0 ∧ u 1 = -1 ∧ u 2 = nI lm ∧ CPS S pu pA su sA ∧ gu' = gu ∧ gA' = gA
  | .inr (f, at', rg) => (1 ≤ f ∧ f ≤ 6) ∧ u 0 = nI f ∧ u 1 = nI at' ∧ RGC rg gu gu' gA gA'
def TXQ (hm0 : HM) (rd tp p s g : Nat) (tu : Nat → Int32) (tA : Nat → Nat → Int32) (gu : Nat → Int32) (gA : Nat → Nat → Int32) (hs e : Nat) (T S : Nat → Int32) : QT := fun v hm2 hs2 => v = none ∧ hs2 = hs ∧ ∃ c r u2 pu pA su sA gu' gA', TR T e c 0 0 S r ∧ RX hm0 hm2 rd tp p s g u2 tu tA pu pA su sA gu' gA' ∧ TXO r u2 pu pA su sA gu gu' gA gA'
section CF
variable {X : HM} {EV : Nat → Value} {d : Nat} {hm0 hm hm2 : HM} {hs : Nat} {Q : QT} {B n w h nl np nw nr lm : Nat} {L : Nat → Nat} {rd tp p s g e q st z : Nat} {u u' tu pu su gu S T : Nat → Int32} {tA pA sA gA : Nat → Nat → Int32}
/-- a plain leaf -/
theorem s00_0 : S00 0 = nI 3 := by unfold S00; rw [if_pos (.inl rfl)]; rfl
theorem s00_1 : S00 1 = nI 3 := by unfold S00; rw [if_pos (.inr rfl)]; rfl
theorem s00_o {j : Nat} (h : 2 ≤ j) : S00 j = nI 0 := by unfold S00; rw [if_neg (by omega)]; rfl
theorem cpg_0 (hS : ∀ j, j < 217 → S j = S00 j) (h0 : pu 0 = nI 3) (h1 : pu 1 = nI 3) (h2 : pu 2 = nI 0) (h3 : pu 3 = 0) (h4 : pu 4 = 0) (h5 : pu 5 = 0) (h14 : ∀ q, q < 288 → pA 14 q = 0) : CPg S 0 3 3 (fun _ => 0) pu pA := by
  refine ⟨⟨h0, (hS 0 (by omega)).trans s00_0, by omega, by omega⟩, ⟨h1, (hS 1 (by omega)).trans s00_1, by omega, by omega⟩, ⟨h2, (hS 2 (by omega)).trans (s00_o (by omega))⟩, ⟨by omega, fun k hk => absurd hk (by omega), fun k hk => absurd hk (by omega), fun k hk => absurd hk (by omega), fun k j hk => absurd hk (by omega)⟩, ?_, fun i hi => ?_, fun k hk => absurd hk (by omega), fun k hk => absurd hk (by omega), fun k hk => absurd hk (by omega), fun k hk => absurd hk (by omega), fun k hk => absurd hk (by omega), fun k hk => absurd hk (by omega), fun q hq i hi => ?_⟩
  · unfold sumI; exact h3
  · rw [h4, h5, b_0]; exact ⟨⟨fun z => absurd z (by decide), fun z => absurd z.1 (by omega)⟩, ⟨fun z => absurd z (by decide), fun z => absurd z.1 (by omega)⟩⟩
  · rw [h14 q hq, b_0]; exact ⟨fun z => absurd z (by decide), fun z => absurd z.1 (by omega)⟩
theorem csc_0 (hS : ∀ j, j < 217 → S j = S00 j) (h0 : su 0 = nI 0) (h1 : su 1 = nI 0) (h2 : su 2 = nI 0) (h3 : su 3 = nI 0) : CSc S 0 0 0 0 w h su sA :=
  ⟨⟨⟨(hS 3 (by omega)).trans (s00_o (by omega)), by omega⟩, ⟨(hS 4 (by omega)).trans (s00_o (by omega)), by omega⟩, ⟨(hS 5 (by omega)).trans (s00_o (by omega)), by omega⟩, ⟨(hS 6 (by omega)).trans (s00_o (by omega)), by omega⟩, fun k hk => absurd hk (by omega), fun k hk => absurd hk (by omega), fun k hk => absurd hk (by omega)⟩, fun k j hk => absurd hk (by omega), ⟨h0, h1, h2, h3⟩, fun k hk => absurd hk (by omega), fun k hk => absurd hk (by omega), fun k hk => absurd hk (by omega), fun k hk => absurd hk (by omega), fun k hk => absurd hk (by omega)⟩
theorem cl_text (hX : RX hm0 hm rd tp p s g u tu tA pu pA su sA gu gA) (hK : KW X EV B) (hXT : XT X EV B) (hBp : B ≤ p) (hlow : lowN B hm0) (e4 : u 4 = nI e) (he : e ≤ 900) (e0 : u 0 = 0) (e1 : u 1 = -1) (e2 : u 2 = 0) (e8 : u 8 = 0) (hT : TE (tA 1) T e) (hS : ∀ j, j < 217 → S j = S00 j) :
    CC X EV (d + 7) 36 [.ref rd] hm hs (TXQ hm0 rd tp p s g tu tA gu gA hs e T S) := by
  have had := hX.ad
  unfold adX at had
  have hR := hX.r
  obtain ⟨Q, hQ⟩ : ∃ Q : QT, Q = TXQ hm0 rd tp p s g tu tA gu gA hs e T S := ⟨_, rfl⟩
  rw [← hQ]
  refine c_of (ls2 := [.ref rd, .null]) Y36 (Nat.le_of_ble_eq_true rfl) rfl I36 ?_
  simp only [r_al0 dX2_readText_0, r_getf dX2_readText_1 F2_43, List.cons_append, List.nil_append, Nat.reduceAdd, Option.toList, g2_5, z0, hR, rd_own hR, ra_3, ra_5, ra_6, ra_7]
  refine r_iv1 dX2_readText_4 M2_55 Y4 O4 (Nat.le_of_ble_eq_true rfl) (rcv_own hX.pg.r) (Nat.le_refl _) (Nat.le_refl _) ?_
  refine c_clear hX.pg (fun hm1 pA1 hP1 a1 a14 s1 => ?_)
  have hX1 := hX.s_pg hP1 s1
  have hR1 := hX1.r
  simp only [r_al0 dX2_readText_7, r_getf dX2_readText_8 F2_47, List.cons_append, List.nil_append, Nat.reduceAdd, Option.toList, g2_6, z0, hR1, rd_own hR1, ra_3, ra_5, ra_6, ra_7]
  refine r_iv1 dX2_readText_11 M2_60 Y63 O63 (Nat.le_of_ble_eq_true rfl) (rcv_own hX1.sc.r) (Nat.le_refl _) (Nat.le_refl _) ?_
  refine c_scClear hX1.sc (fun hm2 hP2 s2 => ?_)
  have hX2 := hX1.s_sc hP2 s2
  have H0 := cpg_0 (S := S) (pu := upd (upd (upd (upd (upd (upd pu 0 3) 1 3) 2 0) 3 0) 4 0) 5 0) (pA := pA1) hS rfl rfl rfl rfl rfl rfl a14
  have C0 := csc_0 (S := S) (su := upd (upd (upd (upd su 0 0) 1 0) 2 0) 3 0) (sA := sA) (w := 3) (h := 3) hS rfl rfl rfl rfl
  generalize upd (upd (upd (upd (upd (upd pu 0 3) 1 3) 2 0) 3 0) 4 0) 5 0 = pu1 at hX2 H0
  generalize upd (upd (upd (upd su 0 0) 1 0) 2 0) 3 0 = su1 at hX2 C0
  clear hX hX1 hR hR1 hP1 hP2 a1 a14 s1 s2
  simp only [r_al0 dX2_readText_14, List.cons_append, List.nil_append, Nat.reduceAdd, Option.toList, z0]
  refine r_iv1 dX2_readText_15 M2_63 Y37 O37 (Nat.le_of_ble_eq_true rfl) (rcv_own hX2.r) (Nat.le_refl _) (Nat.le_refl _) ?_
  refine c_piece hX2 e4 he (e8.trans (show (0 : Int32) = nI 0 from rfl)) (by omega) (fun st z hm3 u3 hw hX3 ue x10 hst x9 x92 xz xq => ?_)
  simp only [r_iconst dX2_readText_18 ki0, r_is1 dX2_readText_19, List.cons_append, List.nil_append, Nat.reduceAdd, Option.toList, cat_f, cat_i, cat_n, cat_r, eq_self, true_and, z0]
  suffices H : ∀ i, i ≤ 900 → ∀ q st z hm' u' Si pu' pA' su' sA' n w h L nl np nw nr, RX hm0 hm' rd tp p s g u' tu tA pu' pA' su' sA' gu gA → (∀ c r, TR T e c i q Si r → ∃ c', TR T e c' 0 0 S r) → i ≤ q → wdO (tA 1) e q st z → u' 0 = 0 → u' 1 = -1 → u' 2 = nI i → u' 4 = nI e → u' 10 = nI st → (u' 9 = 0 ↔ st = e) → (u' 9 = 2 ↔ 0 < z) → (0 < z → u' 11 = nI z ∧ u' 8 = nI (st + z) ∧ st + z ≤ e) → (∃ q', u' 8 = nI q' ∧ u' 11 = nI (q' - st) ∧ q' ≤ e) → CPg Si n w h L pu' pA' → CSc Si nl np nw nr w h su' sA' → (i = 0 → n = 0 ∧ np = 0) → E1 X EV (d + 6) 2 0 0 none false cX2_readText Q 20 [.ref rd, .int (nI i)] [] 0 0 hm' hs by
    exact H 0 (by omega) 0 st z hm3 u3 S pu1 pA1 su1 sA 0 3 3 _ 0 0 0 0 hX3 (fun c r h => ⟨c, h⟩) (by omega) hw ((ue 0 (by omega)).trans e0) ((ue 1 (by omega)).trans e1) ((ue 2 (by omega)).trans e2) ((ue 4 (by omega)).trans e4) x10 x9 x92 xz xq H0 C0 (fun _ => ⟨rfl, rfl⟩)
  have i900 : (900 : Int32) = nI 900 := rfl
  refine up_loop 900 _ ?_ ?_
  · intro q st z hm' u' Si pu' pA' su' sA' n w h L nl np nw nr hX' ac hiq hw y0 y1 y2 y4 y10 y9 y92 yz yq H C hz
    simp only [r_il1 dX2_readText_20, r_sipush dX2_readText_21 ks900, r_ic_ge (tgt := 69) dX2_readText_24 rfl, r_al0 dX2_readText_27, r_getf dX2_readText_28 F2_24, r_if_eq (tgt := 69) dX2_readText_31 rfl, r_al0 dX2_readText_34, r_vret dX2_readText_69 (Nat.zero_le _) (Nat.zero_le _), List.cons_append, List.nil_append, Nat.reduceAdd, Option.toList, g2_9, z0, i900]
    refine ⟨fun _ => ?_, fun z => absurd (Int32.le_refl _) z⟩
    have hst := (hT.wd hw).1
    have := hst.1
    have := hst.2.1
    obtain rfl : st = e := by omega
    obtain ⟨c', hc'⟩ := ac 0 _ ⟨hst, rfl⟩
    rw [hQ]; exact ⟨rfl, rfl, c', _, u', pu', pA', su', sA', gu, gA, hc', hX', y0, y1, y2, ⟨n, w, h, L, nl, np, nw, nr, H, C⟩, rfl, rfl⟩
  · intro i hi ih q st z hm' u' Si pu' pA' su' sA' n w h L nl np nw nr hX' ac hiq hw y0 y1 y2 y4 y10 y9 y92 yz yq H C hz
    have hR' := hX'.r
    have hst := (hT.wd hw).1
    have hqs := hst.1
    have hse := hst.2.1
    simp only [r_il1 dX2_readText_20, r_sipush dX2_readText_21 ks900, r_ic_geB (tgt := 69) dX2_readText_24 rfl, r_al0 dX2_readText_27, r_getf dX2_readText_28 F2_24, r_if_eqB (tgt := 69) dX2_readText_31 rfl, r_al0 dX2_readText_34, List.cons_append, List.nil_append, Nat.reduceAdd, Option.toList, g2_9, z0, i900, hR', rd_own hR']
    try simp (disch := omega) only [E2, nI_1, nI_add, nI_leI, nI_ltI, nI_eq, nI_clamp]
    refine ⟨fun y => absurd y (by omega), fun _ => ⟨fun h9 => ?_, fun h9 => ?_⟩⟩
    · have := y9.mp h9
      subst this
      try simp (disch := omega) only [E2, nI_1, nI_add, nI_leI, nI_ltI, nI_eq, nI_clamp]
      simp only [r_vret dX2_readText_69 (Nat.zero_le _) (Nat.zero_le _), List.cons_append, List.nil_append, Nat.reduceAdd, Option.toList, z0]
      obtain ⟨c', hc'⟩ := ac 0 _ ⟨hst, rfl⟩
      rw [hQ]; exact ⟨rfl, rfl, c', _, u', pu', pA', su', sA', gu, gA, hc', hX', y0, y1, y2, ⟨n, w, h, L, nl, np, nw, nr, H, C⟩, rfl, rfl⟩
    · have hlt : st < e := by
        have : ¬ st = e := fun y => h9 (y9.mpr y)
        omega
      have hs0 : nxq T e (fun x => x = 32) st st := ⟨Nat.le_refl _, hse, fun j a b => absurd b (by omega), hst.2.2.2⟩
      refine r_iv1 dX2_readText_35 M2_66 Y44 O44 (Nat.le_of_ble_eq_true rfl) (rcv_own hX'.r) (Nat.le_refl _) (Nat.le_refl _) ?_
      refine c_mono (cl_line hX' hK hXT hBp hlow y4 he hw y10 y92 (fun a => ⟨(yz a).1, (yz a).2.1⟩) yq hT H C y2 (by omega) hz) ?_
      rintro v hm4 hs4 ⟨rfl, o, ho, ⟨rfl, f, at', rg, u4, pu4, pA4, su4, sA4, gu4, gA4, hf, rfl, hX4, w0, w1, hrg⟩ | ⟨rfl, q1, S1, u4, pu4, pA4, su4, sA4, rfl, hq1, w8, wu, hX4, n4, w4, h4, L4, nl4, np4, nw4, nr4, H4, C4⟩⟩
      · simp only [r_if_eq (tgt := 48) dX2_readText_38 rfl, r_al0 dX2_readText_41, r_vret dX2_readText_48 (Nat.zero_le _) (Nat.zero_le _), List.cons_append, List.nil_append, Nat.reduceAdd, Option.toList, z0]
        refine ⟨fun _ => ?_, fun y => absurd trivial y⟩
        obtain ⟨c', hc'⟩ := ac 1 (oNo f at' rg) ⟨st, hst, hlt, by omega, _, lr_no hs0 hf ho, .inl ⟨f, at', rg, hf.1, hf.2, rfl, rfl⟩⟩
        rw [hQ]; exact ⟨rfl, rfl, c', _, u4, pu4, pA4, su4, sA4, gu4, gA4, hc', hX4, hf, w0, w1, hrg⟩
      · simp only [r_if_eq (tgt := 48) dX2_readText_38 rfl, r_al0 dX2_readText_41, r_vret dX2_readText_48 (Nat.zero_le _) (Nat.zero_le _), List.cons_append, List.nil_append, Nat.reduceAdd, Option.toList, z0]
        refine ⟨fun y => absurd y (by decide), fun _ => ?_⟩
        refine r_iv1 dX2_readText_42 M2_70 Y45 O45 (Nat.le_of_ble_eq_true rfl) (rcv_own hX4.r) (Nat.le_refl _) (Nat.le_refl _) ?_
        refine c_semi hX4 ((wu 4 (by omega)).trans y4) he w8 hq1 (fun st1 hm5 u5 hn5 hno hX5 z0 z1 => ?_) (fun st1 hm5 u5 hn5 hl5 h59 hX5 zu z8 => ?_)
        · simp (disch := first | omega | (simp only [List.length_cons, List.length_nil]; omega)) only [r_if_ne (tgt := 49) dX2_readText_45 rfl, r_vret dX2_readText_48 (Nat.zero_le _) (Nat.zero_le _), r_al0 dX2_readText_49, r_dup_i dX2_readText_50, r_dup_r dX2_readText_50, r_getf dX2_readText_51 F2_18, r_iconst dX2_readText_54 ki1, r_iadd dX2_readText_55, r_putf dX2_readText_56 F2_18, r_al0 dX2_readText_59, List.cons_append, List.nil_append, Nat.reduceAdd, Option.toList, fit_i, ft2_2, g2_2, p2_2, pk_un, pk_us, rd_up_eq, rd_up_ne, true_and, up_eq, up_ne, up_up, z0]
          refine ⟨fun y => absurd trivial y, fun _ => ?_⟩
          have hno' : ¬ (st1 < e ∧ T st1 = 59) := fun y => hno ⟨y.1, (hT.p asc_59 y.1).1.mpr y.2⟩
          obtain ⟨c', hc'⟩ := ac 1 (oNo 1 st1 none) ⟨st, hst, hlt, by omega, _, (lr_ok hs0 ho hq1 (hT.nx asc_32 hn5) (.inl ⟨hno', rfl⟩)).1, .inl ⟨1, st1, none, by omega, by omega, rfl, rfl⟩⟩
          rw [hQ]; exact ⟨rfl, rfl, c', _, u5, _, _, _, _, gu, gA, hc', hX5, by omega, z0, z1, rfl, rfl⟩
        · have h59' : T st1 = 59 := (hT.p asc_59 hl5).1.mp h59
          obtain ⟨hL, hle⟩ := lr_ok hs0 ho hq1 (hT.nx asc_32 hn5) (.inr ⟨hl5, h59', rfl⟩)
          have hR5 := hX5.r
          have hq5 := hn5.1
          have z2 : u5 2 = nI i := (zu 2 (by omega)).trans ((wu 2 (by omega)).trans y2)
          simp (disch := first | omega | (simp only [List.length_cons, List.length_nil]; omega)) only [r_if_ne (tgt := 49) dX2_readText_45 rfl, r_vret dX2_readText_48 (Nat.zero_le _) (Nat.zero_le _), r_al0 dX2_readText_49, r_dup_i dX2_readText_50, r_dup_r dX2_readText_50, r_getf dX2_readText_51 F2_18, r_iconst dX2_readText_54 ki1, r_iadd dX2_readText_55, r_putf dX2_readText_56 F2_18, r_al0 dX2_readText_59, List.cons_append, List.nil_append, Nat.reduceAdd, Option.toList, fit_i, ft2_2, g2_2, p2_2, pk_un, pk_us, rd_up_eq, rd_up_ne, true_and, up_eq, up_ne, up_up, z0, hR5, rd_own hR5, z2, nI_1]
          refine ⟨fun _ => ?_, fun y => absurd (by decide) y⟩
          have hX6 := hX5.o (upd u5 2 (nI (i + 1)))
          refine r_iv1 dX2_readText_60 M2_63 Y37 O37 (Nat.le_of_ble_eq_true rfl) (rcv_own hX6.r) (Nat.le_refl _) (Nat.le_refl _) ?_
          refine c_piece hX6 (show u5 4 = nI e from (zu 4 (by omega)).trans ((wu 4 (by omega)).trans y4)) he (show u5 8 = nI (st1 + 1) from z8) (by omega) (fun st6 z6 hm7 u7 hw7 hX7 ue7 x10 hst7 x9 x92 xz xq => ?_)
          simp only [r_ii1 dX2_readText_63 kn1, r_gotoB (tgt := 20) dX2_readText_66 rfl, List.cons_append, List.nil_append, Nat.reduceAdd, Option.toList, cat_f, cat_i, cat_n, cat_r, eq_self, true_and, z0]
          try simp (disch := omega) only [E2, nI_1, nI_add, nI_leI, nI_ltI, nI_eq, nI_clamp]
          refine ih (st1 + 1) st6 z6 hm7 u7 S1 pu4 pA4 su4 sA4 n4 w4 h4 L4 nl4 np4 nw4 nr4 hX7 (fun c r hc => ac (c + 1) r ⟨st, hst, hlt, by omega, _, hL, .inr ⟨st1 + 1, S1, rfl, by omega, hc⟩⟩) (by omega) hw7 ?_ ?_ ?_ ?_ x10 x9 x92 xz xq H4 C4 (fun y => absurd y (by omega))
          · exact (ue7 0 (by omega)).trans ((zu 0 (by omega)).trans ((wu 0 (by omega)).trans y0))
          · exact (ue7 1 (by omega)).trans ((zu 1 (by omega)).trans ((wu 1 (by omega)).trans y1))
          · exact ue7 2 (by omega)
          · exact (ue7 4 (by omega)).trans ((zu 4 (by omega)).trans ((wu 4 (by omega)).trans y4))
end CF
