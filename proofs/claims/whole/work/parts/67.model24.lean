/-- the ring as the model shows it -/
def RGM (S : Nat → Int32) (n : Nat) (dst : Nat → Nat) (a b D : Nat) (G : Nat → Int32) : Prop := G 0 = nI a ∧ G 1 = nI b ∧ ∀ i, 2 ≤ i → i < D + 1 → ∃ p, p < n ∧ G (i - 1) = nI p ∧ nxR S n dst p (D + 1 - i) < n ∧ G i = nI (nxR S n dst p (D + 1 - i))
/-- what a shown ring may leave changed -/
def KR (u u' : Nat → Int32) (A A' : Nat → Nat → Int32) : Prop := (∀ k, k ≠ 4 → k ≠ 15 → k ≠ 18 → k ≠ 20 → k ≠ 22 → k ≠ 23 → u' k = u k) ∧ (∀ s, s ≠ 13 → s ≠ 14 → s ≠ 16 → s ≠ 17 → s ≠ 21 → A' s = A s)
theorem KM.kr {u u' : Nat → Int32} {A A' : Nat → Nat → Int32} (h : KM u u' A A') : KR u u' A A' := ⟨fun k a b _ c e f => h.1 k a b c e f, fun s a b _ c e => h.2 s a b c e⟩
theorem KR.trans {u u' u2 : Nat → Int32} {A A' A2 : Nat → Nat → Int32} (h : KR u u' A A') (g : KR u' u2 A' A2) : KR u u2 A A2 :=
  ⟨fun k a b c e f i => (g.1 k a b c e f i).trans (h.1 k a b c e f i), fun s a b c e f => (g.2 s a b c e f).trans (h.2 s a b c e f)⟩
theorem KR.S {u u' : Nat → Int32} {A A' : Nat → Nat → Int32} (h : KR u u' A A') : A' 0 = A 0 := h.2 0 (by decide) (by decide) (by decide) (by decide) (by decide)
theorem cl_iff {S : Nat → Int32} {n k j : Nat} (hk : k < n) (hj : j < n) : bt (cl S n k) j = true ↔ ovr (fun k => S (195 + k)) n k j := wsm_iff hk hj
theorem or_clr {x : Int32} {k : Nat} (hk : k < 32) (h : bt x k = false) : (x ||| sb k) &&& (sb k ^^^ (-1)) = x := by
  apply b_ext
  intro i hi
  rw [b_and, b_or, b_not _ hi, b_sb hk hi]
  by_cases e : i = k
  · rw [e, h, decide_eq_true rfl]; rfl
  · rw [decide_eq_false e, Bool.or_false, Bool.not_false, Bool.and_true]
section M24
variable {X : HM} {EV : Nat → Value} {d : Nat} {hm : HM} {hs : Nat} {Q : QT} {m n : Nat} {u : Nat → Int32} {A : Nat → Nat → Int32} {R : Nat → Int64} {w h nl np nw nr : Nat} {L : Nat → Nat}
theorem m_leadsF {to most l : Nat} {dst : Nat → Nat} {F : Nat → Int32} (hn : A 0 2 = nI n) (hn12 : n ≤ 12) (hto : to < n) (hD : DST (A 0) n to dst) (h2 : 2 ≤ most) (h3 : most ≤ 12) (hl : l < n) (hlt : l ≠ to) (hM : MO hm m u (va_up A 17 F) R) (hF : F 1 = nI l) (hd : most - 1 < dst l)
    (hQ : ∀ hm' F', MO hm' m u (va_up A 17 F') R → (∀ i, i < 2 → F' i = F i) → sm m (m + 16) hm hm' → Q (some (.int 0)) hm' hs) : CC X EV (d + 14) 193 [.ref m, .int (nI 2), .int (nI to), .int (nI most)] hm hs Q := by
  rw [show d + 14 = (d + 14 - most) + (most - 1) + 1 by omega]
  exact (m_leads hn hn12 hto hD (most - 1) (by omega) 2 most l (by omega) (by omega) h3 hl hlt _ hm u F Q hM hF).1 hd hQ
theorem m_leadsS {to most l : Nat} {dst : Nat → Nat} {F : Nat → Int32} (hn : A 0 2 = nI n) (hn12 : n ≤ 12) (hto : to < n) (hD : DST (A 0) n to dst) (h2 : 2 ≤ most) (h3 : most ≤ 12) (hl : l < n) (hlt : l ≠ to) (hM : MO hm m u (va_up A 17 F) R) (hF0 : F 0 = nI to) (hF : F 1 = nI l) (hd : dst l = most - 1)
    (hQ : ∀ hm' F', MO hm' m u (va_up A 17 F') R → (∀ i, i < 2 → F' i = F i) → (∀ i, 2 ≤ i → i < most → ∃ p, p < n ∧ F' (i - 1) = nI p ∧ nxR (A 0) n dst p (most - i) < n ∧ F' i = nI (nxR (A 0) n dst p (most - i))) → sm m (m + 16) hm hm' → Q (some (.int 1)) hm' hs) : CC X EV (d + 14) 193 [.ref m, .int (nI 2), .int (nI to), .int (nI most)] hm hs Q := by
  rw [show d + 14 = (d + 14 - most) + (most - 1) + 1 by omega]
  refine (m_leads hn hn12 hto hD (most - 1) (by omega) 2 most l (by omega) (by omega) h3 hl hlt _ hm u F Q hM hF).2 hd (fun i hi => ?_) hQ
  rcases (show i = 0 ∨ i = 1 by omega) with e | e
  · rw [e]; exact ⟨to, hto, hF0, .inl rfl⟩
  · rw [e]; exact ⟨l, hl, hF, .inr (by omega)⟩
theorem m_whyOver {a b : Nat} (hM : MO hm m u A R) (hn : A 0 2 = nI n) (hn12 : n ≤ 12) (ha : a < n) (hb : b < n) (hab : b ≠ a) (hnt : bt (A 0 (195 + a)) b = false)
    (h1 : bt (cl (A 0) n b) a = true → ∀ hm' u' A' D, D = dsf (A 0) n a b → 1 ≤ D → D ≤ 11 → MO hm' m u' A' R → KR u u' A A' → u' 18 = nI (D + 1) → RGM (A 0) n (dsf (A 0) n a) a b D (A' 16) → sm m (m + 16) hm hm' → Q (some (.int (-5))) hm' hs)
    (h2 : ¬ bt (cl (A 0) n b) a = true → ∀ hm' u' A', MO hm' m u' A' R → KM u u' A A' → sm m (m + 16) hm hm' → Q (some (.int (if wyM (upd (A 0) (195 + a) (A 0 (195 + a) ||| sb b)) n = 0 then -9 else 0))) hm' hs) : CC X EV (d + 15) 194 [.ref m, .int (nI a), .int (nI b)] hm hs Q := by
  refine c_of (ls2 := [.ref m, .int (nI a), .int (nI b), .null]) Y194 (Nat.le_of_ble_eq_true rfl) rfl I194 ?_
  simp only [r_al0 dX10_whyOver_0, List.cons_append, List.nil_append, Nat.reduceAdd, Option.toList, z0]
  refine r_iv1 dX10_whyOver_1 M10_169 Y189 O189 (Nat.le_of_ble_eq_true rfl) (rcv_own hM.r) (Nat.le_refl _) (Nat.le_refl _) ?_
  refine m_laysOver2 hM hn hn12 (fun hm2 A2 hM2 k2 l2 s2 => ?_)
  have e0 : A2 0 = A 0 := k2.S
  simp only [r_al0 dX10_whyOver_4, r_getf dX10_whyOver_5 F10_30, r_il2 dX10_whyOver_8, r_iald dX10_whyOver_9, r_il1 dX10_whyOver_10, List.cons_append, List.nil_append, Nat.reduceAdd, Option.toList, aI_ok, g10_13, z0, hM2.r, rd_own hM2.r, hM2.r13, rd_own hM2.r13, nI_clamp (show b < 2 ^ 31 by omega)]
  refine ⟨vp_in_nI (by omega) (by omega), ?_⟩
  refine r_ist2 dX10_whyOver_11 M10_178 Y156 (Nat.le_of_ble_eq_true rfl) (Nat.le_refl _) (Nat.le_refl _) ?_
  refine m_has (by omega) ?_
  rw [l2 b hb, e0]
  rw [← e0] at h1 h2 hn hnt
  rw [e0] at h1 h2
  by_cases hc : bt (cl (A 0) n b) a = true
  · rw [if_pos hc]
    have hover := (cl_iff hb ha).mp hc
    have hDS : DST (A 0) n a (dsf (A 0) n a) := DST_dsf ha
    obtain ⟨hD1, hD2⟩ := dsf_11 hn12 ha hb hab hover
    obtain ⟨D, eD⟩ : ∃ D, D = dsf (A 0) n a b := ⟨_, rfl⟩
    rw [← eD] at hD1 hD2
    have h1 := h1 hc
    obtain ⟨F0, eF0⟩ : ∃ F0, F0 = upd (upd (A2 17) 0 (nI a)) 1 (nI b) := ⟨_, rfl⟩
    have f0 : F0 0 = nI a := by rw [eF0, pk_un (by decide), pk_us]
    have f1 : F0 1 = nI b := by rw [eF0, pk_us]
    have hM3 := hM2.w17 F0
    simp (disch := first | omega | (simp only [List.length_cons, List.length_nil]; omega)) only [r_if_eq (tgt := 93) dX10_whyOver_14 rfl, r_al0 dX10_whyOver_17, r_getf dX10_whyOver_18 F10_39, r_iconst dX10_whyOver_21 ki0, r_il1 dX10_whyOver_22, r_iast dX10_whyOver_23, r_al0 dX10_whyOver_24, r_getf dX10_whyOver_25 F10_39, r_iconst dX10_whyOver_28 ki1, r_il2 dX10_whyOver_29, r_iast dX10_whyOver_30, r_al0 dX10_whyOver_31, r_iconst dX10_whyOver_32 ki2, r_putf dX10_whyOver_33 F10_218, r_al0 dX10_whyOver_93, r_getf dX10_whyOver_94 F10_13, r_sipush dX10_whyOver_97 ks195, r_il1 dX10_whyOver_100, r_iadd dX10_whyOver_101, r_dup2_ir dX10_whyOver_102, r_dup2_l dX10_whyOver_102, r_iald dX10_whyOver_103, r_iconst dX10_whyOver_104 ki1, r_il2 dX10_whyOver_105, r_ishl dX10_whyOver_106, r_ior dX10_whyOver_107, r_iast dX10_whyOver_108, r_al0 dX10_whyOver_109, List.cons_append, List.nil_append, Nat.reduceAdd, Option.toList, aI_ok, fit_i, ft10_18, g10_0, g10_17, p10_18, pk_un, pk_us, rd_up_eq, rd_up_ne, sI_ok, true_and, up_eq, up_ne, up_up, z0, hM2.r, rd_own hM2.r, hM2.r17, rd_own hM2.r17, show (0 : Int32) = nI 0 from rfl, show (1 : Int32) = nI 1 from rfl, nI_clamp (show 0 < 2 ^ 31 by omega), nI_clamp (show 1 < 2 ^ 31 by omega)]
    refine ⟨fun z => absurd z (by decide), fun _ => ⟨vp_in_nI (by omega) (by omega), vp_in_nI (by omega) (by omega), ?_⟩⟩
    rw [← eF0]
    rw [← e0] at hDS
    suffices H : ∀ x, x ≤ D - 1 → ∀ hm3 F, MO hm3 m (upd u 18 (nI (2 + x))) (va_up A2 17 F) R → F 0 = nI a → F 1 = nI b → sm m (m + 16) hm hm3 → E1 X EV (d + 14) 10 0 0 (some .int) false cX10_whyOver Q 36 [.ref m, .int (nI a), .int (nI b), .null] [] 0 0 hm3 hs from
      H 0 (by omega) _ F0 (hM3.o _) f0 f1 ((s2.up (by omega)).up (by omega))
    refine up_loop (D - 1) _ ?_ ?_
    · intro hm3 F hM4 g0 g1 s3
      have e18 : (upd u 18 (nI (2 + (D - 1)))) 18 = nI (2 + (D - 1)) := pk_us
      simp only [r_al0 dX10_whyOver_36, r_iconst dX10_whyOver_37 ki2, r_il1 dX10_whyOver_38, r_al0 dX10_whyOver_39, r_getf dX10_whyOver_40 F10_218, List.cons_append, List.nil_append, Nat.reduceAdd, Option.toList, g10_18, z0, hM4.r, rd_own hM4.r, hM4.r, rd_own hM4.r, e18]
      refine r_iv4 dX10_whyOver_43 M10_215 Y193 O193 (Nat.le_of_ble_eq_true rfl) (rcv_own hM4.r) (Nat.le_refl _) (Nat.le_refl _) ?_
      refine m_leadsS (A := A2) hn hn12 ha hDS (by omega) (by omega) hb hab hM4 g0 g1 (by rw [e0, ← eD]; omega) (fun hm5 F5 hM5 p5 q5 s5 => ?_)
      rw [show 2 + (D - 1) = D + 1 by omega] at hM5 q5
      simp (disch := first | omega | (simp only [List.length_cons, List.length_nil]; omega)) only [r_if_ne (tgt := 62) dX10_whyOver_46 rfl, r_al0 dX10_whyOver_49, r_dup_i dX10_whyOver_50, r_dup_r dX10_whyOver_50, r_getf dX10_whyOver_51 F10_218, r_iconst dX10_whyOver_54 ki1, r_iadd dX10_whyOver_55, r_putf dX10_whyOver_56 F10_218, r_gotoB (tgt := 36) dX10_whyOver_59 rfl, r_iconst dX10_whyOver_62 ki0, r_is3 dX10_whyOver_63, List.cons_append, List.nil_append, Nat.reduceAdd, Option.toList, cat_f, cat_i, cat_n, cat_r, eq_self, fit_i, ft10_18, g10_18, p10_18, pk_un, pk_us, rd_up_eq, rd_up_ne, true_and, up_eq, up_ne, up_up, z0]
      refine ⟨fun _ => ?_, fun z => absurd (Classical.not_not.mp z) (by decide)⟩
      suffices H : ∀ x, x ≤ D + 1 → ∀ hm6 G, MO hm6 m (upd u 18 (nI (D + 1))) (va_up (va_up A2 17 F5) 16 G) R → (∀ i, i < x → G i = F5 i) → sm m (m + 16) hm hm6 → E1 X EV (d + 14) 10 0 0 (some .int) false cX10_whyOver Q 64 [.ref m, .int (nI a), .int (nI b), .int (nI x)] [] 0 0 hm6 hs from
        H 0 (by omega) hm5 (A2 16) (by rw [show va_up (va_up A2 17 F5) 16 (A2 16) = va_up A2 17 F5 from va_self (va_up A2 17 F5) 16]; exact hM5) (fun i hi => absurd hi (Nat.not_lt_zero i)) (s3.trans s5)
      refine up_loop (D + 1) _ ?_ ?_
      · intro hm6 G hM6 hG s6
        have e18' : (upd u 18 (nI (D + 1))) 18 = nI (D + 1) := pk_us
        simp (disch := first | omega | (simp only [List.length_cons, List.length_nil]; omega)) only [r_il3 dX10_whyOver_64, r_al0 dX10_whyOver_65, r_getf dX10_whyOver_66 F10_218, r_ic_ge (tgt := 90) dX10_whyOver_69 rfl, r_al0 dX10_whyOver_72, r_getf dX10_whyOver_73 F10_36, r_il3 dX10_whyOver_76, r_al0 dX10_whyOver_77, r_getf dX10_whyOver_78 F10_39, r_il3 dX10_whyOver_81, r_iald dX10_whyOver_82, r_iast dX10_whyOver_83, r_ii3 dX10_whyOver_84 kn1, r_gotoB (tgt := 64) dX10_whyOver_87 rfl, r_bipush dX10_whyOver_90 kbm5, r_iret dX10_whyOver_92 (Nat.zero_le _) (Nat.zero_le _), List.cons_append, List.nil_append, Nat.reduceAdd, Option.toList, aI_ok, cat_f, cat_i, cat_n, cat_r, eq_self, g10_16, g10_17, g10_18, pk_un, pk_us, rd_up_eq, rd_up_ne, sI_ok, true_and, up_eq, up_ne, up_up, z0, hM6.r, rd_own hM6.r, hM6.r, rd_own hM6.r, e18']
        refine ⟨fun _ => ?_, fun z => absurd (Int32.le_refl _) z⟩
        refine h1 hm6 _ _ D eD hD1 hD2 hM6 ⟨fun k c1 c2 c3 c4 c5 c6 => pk_un c3, fun s c1 c2 c3 c4 c5 => by rw [vu_ne c3, vu_ne c4]; exact k2.2 s c1 c2 c4 c5⟩ pk_us ?_ s6
        rw [vu_eq]
        refine ⟨by rw [hG 0 (by omega), p5 0 (by omega)]; exact g0, by rw [hG 1 (by omega), p5 1 (by omega)]; exact g1, fun i hi1 hi2 => ?_⟩
        obtain ⟨p, hp, y1, y2, y3⟩ := q5 i hi1 hi2
        rw [e0] at y2 y3
        exact ⟨p, hp, by rw [hG _ (by omega)]; exact y1, y2, by rw [hG i hi2]; exact y3⟩
      · intro x hx ih hm6 G hM6 hG s6
        have e18' : (upd u 18 (nI (D + 1))) 18 = nI (D + 1) := pk_us
        have e16 : (va_up (va_up A2 17 F5) 16 G) 16 = G := vu_eq _ _ _
        have e17 : (va_up (va_up A2 17 F5) 16 G) 17 = F5 := rfl
        simp (disch := first | omega | (simp only [List.length_cons, List.length_nil]; omega)) only [r_il3 dX10_whyOver_64, r_al0 dX10_whyOver_65, r_getf dX10_whyOver_66 F10_218, r_ic_ge (tgt := 90) dX10_whyOver_69 rfl, r_al0 dX10_whyOver_72, r_getf dX10_whyOver_73 F10_36, r_il3 dX10_whyOver_76, r_al0 dX10_whyOver_77, r_getf dX10_whyOver_78 F10_39, r_il3 dX10_whyOver_81, r_iald dX10_whyOver_82, r_iast dX10_whyOver_83, r_ii3 dX10_whyOver_84 kn1, r_gotoB (tgt := 64) dX10_whyOver_87 rfl, r_bipush dX10_whyOver_90 kbm5, r_iret dX10_whyOver_92 (Nat.zero_le _) (Nat.zero_le _), List.cons_append, List.nil_append, Nat.reduceAdd, Option.toList, aI_ok, cat_f, cat_i, cat_n, cat_r, eq_self, g10_16, g10_17, g10_18, pk_un, pk_us, rd_up_eq, rd_up_ne, sI_ok, true_and, up_eq, up_ne, up_up, z0, hM6.r, rd_own hM6.r, hM6.r16, rd_own hM6.r16, hM6.r17, rd_own hM6.r17, e18', e16, e17, nI_clamp (show x < 2 ^ 31 by omega)]
        refine ⟨fun q => absurd ((nI_leI (by omega) (by omega)).mp q) (by omega), fun _ => ⟨vp_in_nI (by omega) (by omega), vp_in_nI (by omega) (by omega), ?_⟩⟩
        try simp (disch := omega) only [E2, nI_1, nI_add, nI_leI, nI_ltI, nI_eq, nI_clamp]
        have h4 := hM6.w16 (upd G x (F5 x))
        rw [va_va] at h4
        refine ih _ _ h4 (fun i hi => ?_) (s6.up (by omega))
        by_cases e : i = x
        · rw [e, pk_us]
        · rw [pk_un e]; exact hG i (by omega)
    · intro x hx ih hm3 F hM4 g0 g1 s3
      have e18 : (upd u 18 (nI (2 + x))) 18 = nI (2 + x) := pk_us
      simp only [r_al0 dX10_whyOver_36, r_iconst dX10_whyOver_37 ki2, r_il1 dX10_whyOver_38, r_al0 dX10_whyOver_39, r_getf dX10_whyOver_40 F10_218, List.cons_append, List.nil_append, Nat.reduceAdd, Option.toList, g10_18, z0, hM4.r, rd_own hM4.r, hM4.r, rd_own hM4.r, e18]
      refine r_iv4 dX10_whyOver_43 M10_215 Y193 O193 (Nat.le_of_ble_eq_true rfl) (rcv_own hM4.r) (Nat.le_refl _) (Nat.le_refl _) ?_
      refine m_leadsF (A := A2) hn hn12 ha hDS (by omega) (by omega) hb hab hM4 g1 (by rw [e0, ← eD]; omega) (fun hm5 F5 hM5 p5 s5 => ?_)
      have := ih _ F5 (hM5.o _) ((p5 0 (by omega)).trans g0) ((p5 1 (by omega)).trans g1) ((s3.trans s5).up (by omega))
      simp (disch := first | omega | (simp only [List.length_cons, List.length_nil]; omega)) only [r_if_ne (tgt := 62) dX10_whyOver_46 rfl, r_al0 dX10_whyOver_49, r_dup_i dX10_whyOver_50, r_dup_r dX10_whyOver_50, r_getf dX10_whyOver_51 F10_218, r_iconst dX10_whyOver_54 ki1, r_iadd dX10_whyOver_55, r_putf dX10_whyOver_56 F10_218, r_gotoB (tgt := 36) dX10_whyOver_59 rfl, r_iconst dX10_whyOver_62 ki0, r_is3 dX10_whyOver_63, List.cons_append, List.nil_append, Nat.reduceAdd, Option.toList, cat_f, cat_i, cat_n, cat_r, eq_self, fit_i, ft10_18, g10_18, p10_18, pk_un, pk_us, rd_up_eq, rd_up_ne, true_and, up_eq, up_ne, up_up, z0, hM5.r, rd_own hM5.r, hM5.r, rd_own hM5.r, e18, nI_1, upd_upd]
      refine ⟨fun z => absurd trivial z, fun _ => ?_⟩
      try simp (disch := omega) only [E2, nI_1, nI_add, nI_leI, nI_ltI, nI_eq, nI_clamp]
      exact this
  · rw [if_neg hc]
    have h2 := h2 hc
    have hin := vp_in_nI (show 195 + a < 217 by omega) (by omega)
    simp (disch := first | omega | (simp only [List.length_cons, List.length_nil]; omega)) only [r_if_eq (tgt := 93) dX10_whyOver_14 rfl, r_al0 dX10_whyOver_17, r_getf dX10_whyOver_18 F10_39, r_iconst dX10_whyOver_21 ki0, r_il1 dX10_whyOver_22, r_iast dX10_whyOver_23, r_al0 dX10_whyOver_24, r_getf dX10_whyOver_25 F10_39, r_iconst dX10_whyOver_28 ki1, r_il2 dX10_whyOver_29, r_iast dX10_whyOver_30, r_al0 dX10_whyOver_31, r_iconst dX10_whyOver_32 ki2, r_putf dX10_whyOver_33 F10_218, r_al0 dX10_whyOver_93, r_getf dX10_whyOver_94 F10_13, r_sipush dX10_whyOver_97 ks195, r_il1 dX10_whyOver_100, r_iadd dX10_whyOver_101, r_dup2_ir dX10_whyOver_102, r_dup2_l dX10_whyOver_102, r_iald dX10_whyOver_103, r_iconst dX10_whyOver_104 ki1, r_il2 dX10_whyOver_105, r_ishl dX10_whyOver_106, r_ior dX10_whyOver_107, r_iast dX10_whyOver_108, r_al0 dX10_whyOver_109, List.cons_append, List.nil_append, Nat.reduceAdd, Option.toList, aI_ok, fit_i, ft10_18, g10_0, g10_17, p10_18, pk_un, pk_us, rd_up_eq, rd_up_ne, sI_ok, true_and, up_eq, up_ne, up_up, z0, hM2.r, rd_own hM2.r, hM2.r0, rd_own hM2.r0, e0, s195, nI_clamp (show 195 + a < 2 ^ 31 by omega)]
    refine ⟨fun _ => ⟨hin, hin, ?_⟩, fun z => absurd trivial z⟩
    rw [e0] at hn hnt
    obtain ⟨S', eS'⟩ : ∃ S', S' = upd (A 0) (195 + a) (A 0 (195 + a) ||| sb b) := ⟨_, rfl⟩
    have hM3 := hM2.w0 S'
    have s3 := s2.up (a := m + 1) (c := ia 217 S') (by omega)
    have e3 : (va_up A2 0 S') 0 = S' := vu_eq _ _ _
    have hn3 : (va_up A2 0 S') 0 2 = nI n := by rw [e3, eS', pk_un (by omega)]; exact hn
    show E1 X EV (d + 14) 10 0 0 (some .int) false cX10_whyOver Q 110 _ _ 0 0 (im_up hm2 (m + 1) (ia 217 (upd (A 0) (195 + a) (A 0 (195 + a) ||| sb b)))) hs
    rw [← eS']
    rw [← eS'] at h2
    refine r_iv1 dX10_whyOver_110 M10_221 Y191 O191 (Nat.le_of_ble_eq_true rfl) (rcv_own hM3.r) (Nat.le_refl _) (Nat.le_refl _) ?_
    refine m_lays2 hM3 (n := n) hn3 hn12 (fun hm4 u4 A4 hM4 k4 l4 s4 => ?_)
    have e4 : A4 0 = S' := k4.S.trans e3
    have e15 : u4 15 = nI (wyM S' n) := by rw [l4.2.1, e4]
    have eb : S' (195 + a) = A 0 (195 + a) ||| sb b := by rw [eS', pk_us]
    have ec : (A 0 (195 + a) ||| sb b) &&& ((1 : Int32) <<< (nI b &&& 31) ^^^ (-1)) = A 0 (195 + a) := or_clr (by omega) hnt
    have ed : upd S' (195 + a) (A 0 (195 + a)) = A 0 := by rw [eS']; funext j; unfold upd; grind
    have hM5 := hM4.w0 (A 0)
    have h2 := h2 _ u4 _ hM5 ⟨fun k c1 c2 c3 c4 c5 => k4.1 k c1 c2 c3 c4 c5, fun s c1 c2 c3 c4 => by
      by_cases hs0 : s = 0
      · rw [hs0, vu_eq]
      · rw [vu_ne hs0, k4.2 s c1 c2 c3 c4, vu_ne hs0]; exact k2.2 s c1 c2 c3 c4⟩ ((s3.trans s4).up (by omega))
    have hwl := wyM_lt (S := S') hn12
    generalize wyM S' n = wn at e15 h2 hwl
    simp (disch := first | omega | (simp only [List.length_cons, List.length_nil]; omega)) only [r_al0 dX10_whyOver_113, r_getf dX10_whyOver_114 F10_13, r_sipush dX10_whyOver_117 ks195, r_il1 dX10_whyOver_120, r_iadd dX10_whyOver_121, r_dup2_ir dX10_whyOver_122, r_dup2_l dX10_whyOver_122, r_iald dX10_whyOver_123, r_iconst dX10_whyOver_124 ki1, r_il2 dX10_whyOver_125, r_ishl dX10_whyOver_126, r_iconst dX10_whyOver_127 kim1, r_ixor dX10_whyOver_128, r_iand dX10_whyOver_129, r_iast dX10_whyOver_130, r_al0 dX10_whyOver_131, r_getf dX10_whyOver_132 F10_212, r_if_ne (tgt := 143) dX10_whyOver_135 rfl, r_bipush dX10_whyOver_138 kbm9, r_goto (tgt := 144) dX10_whyOver_140 rfl, r_iconst dX10_whyOver_143 ki0, r_iret dX10_whyOver_144 (Nat.zero_le _) (Nat.zero_le _), List.cons_append, List.nil_append, Nat.reduceAdd, Option.toList, aI_ok, g10_0, g10_15, pk_un, pk_us, rd_up_eq, rd_up_ne, sI_ok, up_eq, up_ne, up_up, z0, hM4.r, rd_own hM4.r, hM4.r0, rd_own hM4.r0, e4, e15, eb, ec, ed, s195, nI_clamp (show 195 + a < 2 ^ 31 by omega)]
    refine ⟨hin, hin, fun z => ?_, fun z => ?_⟩
    · rw [if_neg (fun e => z (by rw [e]; rfl))] at h2; exact h2
    · rw [if_pos ((nI_eq (b := 0) (by omega) (by omega)).mp (Classical.not_not.mp z))] at h2; exact h2
end M24
