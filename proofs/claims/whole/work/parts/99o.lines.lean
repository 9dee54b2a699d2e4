/-! ===== the class reads a line as the model does ===== -/
def RGC (rg : OR) (gu gu' : Nat → Int32) (gA gA' : Nat → Nat → Int32) : Prop := match rg with
  | none => gu' = gu ∧ gA' = gA
  | some (S, n, i, j) => ∃ mm, gu' 0 = nI (mm + 2) ∧ ∀ D G, D = dsf S n i j → 1 ≤ D → D ≤ 11 → RGM S n (dsf S n i) i j D G → mm + 2 = D + 1 ∧ ∀ x, x < D + 1 → gA' 1 x = G x
def CPS (S pu : Nat → Int32) (pA : Nat → Nat → Int32) (su : Nat → Int32) (sA : Nat → Nat → Int32) : Prop := ∃ n w h L nl np nw nr, CPg S n w h L pu pA ∧ CSc S nl np nw nr w h su sA
def LQ (hm0 : HM) (rd tp p s g : Nat) (tu : Nat → Int32) (tA : Nat → Nat → Int32) (u gu : Nat → Int32) (gA : Nat → Nat → Int32) (hs e : Nat) (BR : OU → Prop) : QT := fun v hm' hs' => hs' = hs ∧ ∃ o, BR o ∧
  ((v = some (.int 0) ∧ ∃ f at' rg u' pu' pA' su' sA' gu' gA', (1 ≤ f ∧ f ≤ 6) ∧ o = oNo f at' rg ∧ RX hm0 hm' rd tp p s g u' tu tA pu' pA' su' sA' gu' gA' ∧ u' 0 = nI f ∧ u' 1 = nI at' ∧ RGC rg gu gu' gA gA') ∨
   (v = some (.int 1) ∧ ∃ q1 S1 u' pu' pA' su' sA', o = oOk q1 S1 ∧ q1 ≤ e ∧ u' 8 = nI q1 ∧ (∀ s, s < 8 → u' s = u s) ∧ RX hm0 hm' rd tp p s g u' tu tA pu' pA' su' sA' gu gA ∧ CPS S1 pu' pA' su' sA'))
def BK (T : Nat → Int32) (e bg q : Nat) (S : Nat → Int32) (k : Nat) (o : OU) : Prop := (isFl S k ∧ o = oNo 4 bg none) ∨ (¬ isFl S k ∧ LB T e bg q S k o)
def LK (T : Nat → Int32) (e bg q : Nat) (S : Nat → Int32) (lm k : Nat) (o : OU) : Prop := (k = 0 ∧ 0 < lm ∧ o = oNo 1 bg none) ∨ (¬ (k = 0 ∧ 0 < lm) ∧ BK T e bg q S k o)
section CA
variable {S : Nat → Int32} {n nl np nw nr : Nat}
theorem fl_1 (h : S 2 = nI n) (hn : n ≤ 12) : isFl S 1 ↔ ¬ n < 12 := by
  unfold isFl; rw [h, show (nI n = 12) = (n = 12) from propext (nI_eq (b := 12) (by omega) (by omega))]; omega
theorem fl_4 (h : S 3 = nI n) (hn : n ≤ 10) : isFl S 4 ↔ ¬ n < 10 := by
  unfold isFl; rw [h, show (nI n = 10) = (n = 10) from propext (nI_eq (b := 10) (by omega) (by omega))]; omega
theorem fl_5 (h : S 4 = nI n) (hn : n ≤ 8) : isFl S 5 ↔ ¬ n < 8 := by
  unfold isFl; rw [h, show (nI n = 8) = (n = 8) from propext (nI_eq (b := 8) (by omega) (by omega))]; omega
theorem fl_6 (h : S 5 = nI n) (hn : n ≤ 12) : isFl S 6 ↔ ¬ n < 12 := by
  unfold isFl; rw [h, show (nI n = 12) = (n = 12) from propext (nI_eq (b := 12) (by omega) (by omega))]; omega
theorem fl_7 (h : S 6 = nI n) (hn : n ≤ 4) : isFl S 7 ↔ ¬ n < 4 := by
  unfold isFl; rw [h, show (nI n = 4) = (n = 4) from propext (nI_eq (b := 4) (by omega) (by omega))]; omega
theorem fl_0 : ¬ isFl S 0 ∧ ¬ isFl S 2 ∧ ¬ isFl S 3 := by unfold isFl; omega
theorem nm_16 {T : Nat → Int32} {e q st q' f : Nat} {lo hi v : Int32} (h : nmO T e q lo hi st q' v f) (hf : f ≠ 0) : 1 ≤ f ∧ f ≤ 6 := by have := nm_f h; omega
end CA
section CB
variable {X : HM} {EV : Nat → Value} {d : Nat} {hm0 hm hm2 : HM} {hs : Nat} {Q : QT} {B n w h nl np nw nr lm : Nat} {L : Nat → Nat} {rd tp p s g e q st0 : Nat} {u u' tu pu su gu S T : Nat → Int32} {tA pA sA gA : Nat → Nat → Int32} {BR : OU → Prop}
theorem lq_no {f at' : Nat} (h : BR (oNo f at' none)) (hf : 1 ≤ f ∧ f ≤ 6) : FK hm0 rd tp p s g tu tA gu gA (LQ hm0 rd tp p s g tu tA u gu gA hs e BR) hs f at' := fun _ u' pu' pA' su' sA' hX e0 e1 => ⟨rfl, _, h, .inl ⟨rfl, f, at', none, u', pu', pA', su', sA', gu, gA, hf, rfl, hX, e0, e1, rfl, rfl⟩⟩
theorem lq_ok {q1 : Nat} {S1 u' pu' su' : Nat → Int32} {pA' sA' : Nat → Nat → Int32} (h : BR (oOk q1 S1)) (hq : q1 ≤ e) (e8 : u' 8 = nI q1) (eu : ∀ s, s < 8 → u' s = u s) (hX : RX hm0 hm rd tp p s g u' tu tA pu' pA' su' sA' gu gA) (hc : CPS S1 pu' pA' su' sA') : LQ hm0 rd tp p s g tu tA u gu gA hs e BR (some (.int 1)) hm hs := ⟨rfl, _, h, .inr ⟨rfl, q1, S1, u', pu', pA', su', sA', rfl, hq, e8, eu, hX, hc⟩⟩
theorem nf (hk : lm = 0) (k : Nat) : ¬ (k = 0 ∧ 0 < lm) := by omega
theorem cl_page (hX : RX hm0 hm rd tp p s g u tu tA pu pA su sA gu gA) (e4 : u 4 = nI e) (he : e ≤ 900) (e8 : u 8 = nI q) (hq : q ≤ e) (e10 : u 10 = nI st0) (hT : TE (tA 1) T e) (H : CPg S n w h L pu pA) (C : CSc S nl np nw nr w h su sA) (e2 : u 2 = nI lm) (hlm : lm ≤ 900) (h0 : lm = 0 → n = 0 ∧ np = 0) :
    CC X EV (d + 5) 47 [.ref rd] hm hs (LQ hm0 rd tp p s g tu tA u gu gA hs e (fun o => LK T e st0 q S lm 0 o)) := by
  have hl : (0 < u 2) = (0 < lm) := by rw [e2]; exact propext (nI_ltI (a := 0) (by omega) (by omega))
  refine c_readPage hX e4 he e8 hq e10 (fun h => lq_no (.inl ⟨rfl, hl.mp h, rfl⟩) (by omega)) (fun hno st1 q1 v1 f1 hn1 => ?_)
  rw [hl] at hno
  have hno' : ¬ (0 = 0 ∧ 0 < lm) := fun z => hno z.2
  obtain ⟨n0, p0⟩ := h0 (by omega)
  subst n0; subst p0
  refine ⟨fun hf => lq_no (.inr ⟨hno', .inr ⟨fl_0.1, .inl ⟨rfl, st1, q1, v1, f1, hT.nm hn1, .inl ⟨hf, rfl⟩⟩⟩⟩) (nm_16 hn1 hf), fun hf st2 q2 v2 f2 hn2 => ⟨fun hf2 => lq_no (.inr ⟨hno', .inr ⟨fl_0.1, .inl ⟨rfl, st1, q1, v1, f1, hT.nm hn1, .inr ⟨hf, st2, q2, v2, f2, hT.nm hn2, .inl ⟨hf2, rfl⟩⟩⟩⟩⟩) (nm_16 hn2 hf2), fun hf2 hm' u' hX' eu e8' => ?_⟩⟩
  refine lq_ok (.inr ⟨hno', .inr ⟨fl_0.1, .inl ⟨rfl, st1, q1, v1, f1, hT.nm hn1, .inr ⟨hf, st2, q2, v2, f2, hT.nm hn2, .inr ⟨hf2, rfl⟩⟩⟩⟩⟩) (by subst hf2; exact nm_q hn2) e8' eu hX' ?_
  subst hf; subst hf2
  obtain ⟨a1, a2⟩ := nmO_in hn1
  obtain ⟨b1, b2⟩ := nmO_in hn2
  obtain ⟨a, ha, rfl⟩ := ixle (n := 24) (by omega) (Int32.le_trans (by decide) a1) a2
  obtain ⟨b, hb, rfl⟩ := ixle (n := 12) (by omega) (Int32.le_trans (by decide) b1) b2
  have ha3 : 3 ≤ a := (nI_leI (a := 3) (by omega) (by omega)).mp a1
  have hb3 : 3 ≤ b := (nI_leI (a := 3) (by omega) (by omega)).mp b1
  exact ⟨0, a, b, L, nl, 0, nw, nr, H.pag ha3 ha hb3 hb, C.pag⟩
theorem cl_hand (hX : RX hm0 hm rd tp p s g u tu tA pu pA su sA gu gA) (e4 : u 4 = nI e) (he : e ≤ 900) (e8 : u 8 = nI q) (hq : q ≤ e) (e10 : u 10 = nI st0) (hT : TE (tA 1) T e) (H : CPg S n w h L pu pA) (C : CSc S nl np nw nr w h su sA) :
    CC X EV (d + 5) 49 [.ref rd] hm hs (LQ hm0 rd tp p s g tu tA u gu gA hs e (fun o => LK T e st0 q S lm 2 o)) := by
  have wr : ∀ o, BHand T e st0 q S n o → LK T e st0 q S lm 2 o := fun o hb => .inr ⟨by omega, .inr ⟨fl_0.2.1, .inr (.inr (.inl ⟨rfl, n, H.s2, H.n12, hb⟩))⟩⟩
  refine c_readHand hX e4 he e8 hq e10 H.u2 H.n12 (fun st1 q1 v1 f1 hn1 => ⟨fun hf => lq_no (wr _ ⟨st1, q1, v1, f1, hT.nm hn1, .inl ⟨hf, rfl⟩⟩) (nm_16 hn1 hf), fun hf i hi ev1 st2 q2 v2 f2 hn2 => ⟨fun hf2 => lq_no (wr _ ⟨st1, q1, v1, f1, hT.nm hn1, .inr ⟨hf, i, st2, q2, v2, f2, hi, ev1, hT.nm hn2, .inl ⟨hf2, rfl⟩⟩⟩) (nm_16 hn2 hf2), fun hf2 => ?_⟩⟩)
  subst hf2
  obtain ⟨b1, b2⟩ := nmO_in hn2
  have hv : v2 = -1 ∨ v2 = 0 ∨ v2 = 1 := by
    obtain ⟨b, hb, rfl⟩ := ixle (n := 1) (by omega) b1 b2
    rcases (show b = 0 ∨ b = 1 by omega) with rfl | rfl
    · exact .inr (.inl rfl)
    · exact .inr (.inr rfl)
  have hw := hand_way H.g hi H.hm H.clo hv
  refine ⟨fun hno => lq_no (wr _ ⟨st1, q1, v1, f1, hT.nm hn1, .inr ⟨hf, i, st2, q2, v2, 0, hi, ev1, hT.nm hn2, .inr ⟨rfl, .inl ⟨hw.mp hno, rfl⟩⟩⟩⟩) (by omega), fun hok hm' u' pu' hX' a4 a5 ao eu e8' => ?_⟩
  have hnw : ¬ wyM (upd S (183 + i) (v2 + 1)) n = 0 := fun z => hok (hw.mpr z)
  refine lq_ok (wr _ ⟨st1, q1, v1, f1, hT.nm hn1, .inr ⟨hf, i, st2, q2, v2, 0, hi, ev1, hT.nm hn2, .inr ⟨rfl, .inr ⟨hnw, rfl⟩⟩⟩⟩) (nm_q hn2) e8' eu hX' ?_
  have hn := H.n12
  exact ⟨n, w, h, L, nl, np, nw, nr, H.hnd hi hv (gs_hand H.g hi hv hnw) a4 a5 ao, C.ex (fun j hj => pk_un (by omega))⟩
theorem cl_over (hX : RX hm0 hm rd tp p s g u tu tA pu pA su sA gu gA) (e4 : u 4 = nI e) (he : e ≤ 900) (e8 : u 8 = nI q) (hq : q ≤ e) (e10 : u 10 = nI st0) (hT : TE (tA 1) T e) (H : CPg S n w h L pu pA) (C : CSc S nl np nw nr w h su sA) :
    CC X EV (d + 5) 50 [.ref rd] hm hs (LQ hm0 rd tp p s g tu tA u gu gA hs e (fun o => LK T e st0 q S lm 3 o)) := by
  have hn := H.n12
  have wr : ∀ o, BOver T e st0 q S L n o → LK T e st0 q S lm 3 o := fun o hb => .inr ⟨by omega, .inr ⟨fl_0.2.2, .inr (.inr (.inr (.inl ⟨rfl, n, L, H.s2, hn, H.sk.ln, hb⟩)))⟩⟩
  refine c_readOver hX e4 he e8 hq e10 H.u2 hn (fun st1 q1 v1 f1 hn1 => ⟨fun hf => lq_no (wr _ ⟨st1, q1, v1, f1, hT.nm hn1, .inl ⟨hf, rfl⟩⟩) (nm_16 hn1 hf), fun hf i hi ev1 st2 q2 v2 f2 hn2 => ⟨fun hf2 => lq_no (wr _ ⟨st1, q1, v1, f1, hT.nm hn1, .inr ⟨hf, i, st2, q2, v2, f2, hi, ev1, hT.nm hn2, .inl ⟨hf2, rfl⟩⟩⟩) (nm_16 hn2 hf2), fun hf2 j hj ev2 => ?_⟩⟩)
  subst hf2
  rw [ref_eq H.l hi hj]
  have wr2 : ∀ o, ((¬ ((i ≠ j ∧ cmn S L i j ≠ -1) ∧ ¬ bt (S (195 + i)) j = true) ∧ o = oNo 3 st2 none) ∨ (((i ≠ j ∧ cmn S L i j ≠ -1) ∧ ¬ bt (S (195 + i)) j = true) ∧
    ((bt (cl S n j) i = true ∧ o = oNo 5 st0 (some (S, n, i, j))) ∨ (¬ bt (cl S n j) i = true ∧ ((wyM (tldM S i j) n = 0 ∧ o = oNo 6 st0 none) ∨ (¬ wyM (tldM S i j) n = 0 ∧ o = oOk q2 (tldM S i j))))))) → LK T e st0 q S lm 3 o := fun o hb => wr o ⟨st1, q1, v1, f1, hT.nm hn1, .inr ⟨hf, i, st2, q2, v2, 0, hi, ev1, hT.nm hn2, .inr ⟨rfl, j, hj, ev2, hb⟩⟩⟩
  by_cases hc : ¬ ((i ≠ j ∧ cmn S L i j ≠ -1) ∧ ¬ bt (S (195 + i)) j = true)
  · rw [if_pos hc]
    exact ⟨fun _ => lq_no (wr2 _ (.inl ⟨hc, rfl⟩)) (by omega), fun z => absurd z (by decide), fun z => absurd z (by decide), fun z => absurd z (by decide)⟩
  · rw [if_neg hc]
    have hc := Classical.not_not.mp hc
    by_cases hb : bt (cl S n j) i = true
    · rw [if_pos hb]
      refine ⟨fun z => absurd z (by decide), fun z => absurd z (by decide), fun _ hm' u' gA' far m c hX' x0 x1 y1 y2 y3 y4 y5 y6 y7 y8 y9 => ?_, fun z => absurd z (by decide)⟩
      refine ⟨rfl, _, wr2 _ (.inr ⟨hc, .inl ⟨hb, rfl⟩⟩), .inl ⟨rfl, 5, st0, some (S, n, i, j), u', pu, pA, su, sA, _, gA', by omega, rfl, hX', x0, x1, m, pk_us, fun D G eD D1 D11 hR => ?_⟩⟩
      exact e_ring (T := pA 11) (r := gA' 1) hn hi hj (fun z => hc.1.1 z.symm) H.td H.g.tb eD D1 D11 y1 y2 y3 y4 y5 y6 y7 y8 y9 hR
    · rw [if_neg hb]
      by_cases hw : wyM (tldM S i j) n = 0
      · rw [if_pos hw]
        exact ⟨fun z => absurd z (by decide), fun _ => lq_no (wr2 _ (.inr ⟨hc, .inr ⟨hb, .inl ⟨hw, rfl⟩⟩⟩)) (by omega), fun z => absurd z (by decide), fun z => absurd z (by decide)⟩
      · rw [if_neg hw]
        refine ⟨fun z => absurd z (by decide), fun z => absurd z (by decide), fun z => absurd z (by decide), fun _ hm' u' hX' eu e8' => ?_⟩
        refine lq_ok (wr2 _ (.inr ⟨hc, .inr ⟨hb, .inr ⟨hw, rfl⟩⟩⟩)) (nm_q hn2) e8' eu hX' ?_
        have hbf : bt (S (195 + i)) j = false := by
          have := hc.2
          cases hq : bt (S (195 + i)) j
          · rfl
          · exact absurd hq this
        exact ⟨n, w, h, L, nl, np, nw, nr, H.tld hi hj hc.1.1 hbf hb hw, C.ex (fun j hj => pk_un (by omega))⟩
end CB
