section CD
variable {X : HM} {EV : Nat → Value} {d : Nat} {hm0 hm hm2 : HM} {hs : Nat} {Q : QT} {B n w h nl np nw nr lm : Nat} {L : Nat → Nat} {rd tp p s g e q st0 : Nat} {u u' tu pu su gu S T : Nat → Int32} {tA pA sA gA : Nat → Nat → Int32} {BR : OU → Prop}
theorem cl_stroke (hX : RX hm0 hm rd tp p s g u tu tA pu pA su sA gu gA) (hXT : XT X EV B) (hBp : B ≤ p) (hBs : B ≤ s) (hlow : lowN B hm0) (e4 : u 4 = nI e) (he : e ≤ 900) (e8 : u 8 = nI q) (hq : q ≤ e) (e10 : u 10 = nI st0) (hT : TE (tA 1) T e) (H : CPg S n w h L pu pA) (C : CSc S nl np nw nr w h su sA) :
    CC X EV (d + 5) 48 [.ref rd] hm hs (LQ hm0 rd tp p s g tu tA u gu gA hs e (fun o => LK T e st0 q S lm 1 o)) := by
  have hn := H.n12
  have fl := fl_1 H.s2 hn
  refine c_readStroke hX hXT hBp hBs hlow e4 he e8 hq e10 H.u2 hn H.u0 H.w24 H.1.2.2.1 H.u1 H.h12 H.2.1.2.2.1 (fun hno => lq_no (.inr ⟨by omega, .inl ⟨fl.mpr hno, rfl⟩⟩) (by omega)) (fun hlt => ?_)
  have wr : ∀ o, BStroke T e q S n w h o → LK T e st0 q S lm 1 o := fun o hb => .inr ⟨by omega, .inr ⟨fun z => fl.mp z hlt, .inr (.inl ⟨rfl, n, w, h, H.s2, hlt, H.1.2.1, H.1.2.2.1, H.w24, H.2.1.2.1, H.2.1.2.2.1, H.h12, hb⟩)⟩⟩
  intro st1 q1 v1 f1 hn1
  refine ⟨fun hf => lq_no (wr _ ⟨st1, q1, v1, f1, hT.nm hn1, .inl ⟨hf, rfl⟩⟩) (nm_16 hn1 hf), fun hf x hx ev1 st2 q2 v2 f2 hn2 => ?_⟩
  have w1 : ∀ o, (∃ x st2 q2 v2 f2, x < w ∧ v1 = nI x ∧ nmO T e q1 0 (nI (h - 1)) st2 q2 v2 f2 ∧ _) → LK T e st0 q S lm 1 o := fun o hb => wr o ⟨st1, q1, v1, f1, hT.nm hn1, .inr ⟨hf, hb⟩⟩
  refine ⟨fun hf2 => lq_no (w1 _ ⟨x, st2, q2, v2, f2, hx, ev1, hT.nm hn2, .inl ⟨hf2, rfl⟩⟩) (nm_16 hn2 hf2), fun hf2 y hy ev2 st3 q3 v3 f3 hn3 => ?_⟩
  have w2 : ∀ o, (∃ y st3 q3 v3 f3, y < h ∧ v2 = nI y ∧ nmO T e q2 0 3 st3 q3 v3 f3 ∧ _) → LK T e st0 q S lm 1 o := fun o hb => w1 o ⟨x, st2, q2, v2, f2, hx, ev1, hT.nm hn2, .inr ⟨hf2, hb⟩⟩
  refine ⟨fun hf3 => lq_no (w2 _ ⟨y, st3, q3, v3, f3, hy, ev2, hT.nm hn3, .inl ⟨hf3, rfl⟩⟩) (nm_16 hn3 hf3), fun hf3 c hc ev3 st4 q4 v4 f4 hn4 => ?_⟩
  have w3 : ∀ o, (∃ c st4 q4 v4 f4, c < 4 ∧ v3 = nI c ∧ nmO T e q3 1 9 st4 q4 v4 f4 ∧ _) → LK T e st0 q S lm 1 o := fun o hb => w2 o ⟨y, st3, q3, v3, f3, hy, ev2, hT.nm hn3, .inr ⟨hf3, hb⟩⟩
  refine ⟨fun hf4 => lq_no (w3 _ ⟨c, st4, q4, v4, f4, hc, ev3, hT.nm hn4, .inl ⟨hf4, rfl⟩⟩) (nm_16 hn4 hf4), fun hf4 l l1 l9 ev4 => ⟨fun hno => lq_no (w3 _ ⟨c, st4, q4, v4, f4, hc, ev3, hT.nm hn4, .inr ⟨hf4, l, l1, l9, ev4, .inl ⟨hno, rfl⟩⟩⟩) (by omega), fun hr hm' u' A' met hX' a6 a7 a8 a9 a11 a12 a13 a14 am a10 eu e8' => ?_⟩⟩
  refine lq_ok (w3 _ ⟨c, st4, q4, v4, f4, hc, ev3, hT.nm hn4, .inr ⟨hf4, l, l1, l9, ev4, .inr ⟨hr, rfl⟩⟩⟩) (by subst hf4; exact nm_q hn4) e8' eu hX' ?_
  exact ⟨n + 1, w, h, _, nl, np, nw, nr, H.str hlt hx hy hc l1 l9 hr a6 a7 a8 a9 a11 a12 a13 a14 am a10, C.ex (fun j hj => stS_o (by omega) (by omega) (by omega) (by omega))⟩
theorem cl_letter (hX : RX hm0 hm rd tp p s g u tu tA pu pA su sA gu gA) (e4 : u 4 = nI e) (he : e ≤ 900) (e8 : u 8 = nI q) (hq : q ≤ e) (e10 : u 10 = nI st0) (hT : TE (tA 1) T e) (H : CPg S n w h L pu pA) (C : CSc S nl np nw nr w h su sA) :
    CC X EV (d + 5) 51 [.ref rd] hm hs (LQ hm0 rd tp p s g tu tA u gu gA hs e (fun o => LK T e st0 q S lm 4 o)) := by
  have hn := C.ws.1.2
  have fl := fl_4 C.ws.1.1 hn
  refine c_readLetter hX e4 he e8 hq e10 C.2.2.1.1 hn (fun hno => lq_no (.inr ⟨by omega, .inl ⟨fl.mpr hno, rfl⟩⟩) (by omega)) (fun hlt st z hw => ?_)
  have wr : ∀ o, BLetter T e q S nl o → LK T e st0 q S lm 4 o := fun o hb => .inr ⟨by omega, .inr ⟨fun z => fl.mp z hlt, .inr (.inr (.inr (.inr (.inl ⟨rfl, nl, C.ws.1.1, hlt, hb⟩))))⟩⟩
  refine ⟨fun hz => lq_no (wr _ ⟨st, z, hT.wd hw, .inl ⟨hz, rfl⟩⟩) (by omega), fun hz => ?_⟩
  subst hz
  obtain ⟨hsm, ec, hle⟩ := hT.wc hw (x := 0) (by omega)
  rw [Nat.add_zero] at hsm ec hle
  rw [C.nam, ec]
  rw [ec] at hsm
  refine ⟨fun hno => lq_no (wr _ ⟨st, 1, hT.wd hw, .inr ⟨rfl, .inl ⟨hno, rfl⟩⟩⟩) (by omega), fun hok st1 q1 v1 f1 hn1 => ?_⟩
  have w1 : ∀ o, (∃ st1 q1 v1 f1, nmO T e (st + 1) 1 511 st1 q1 v1 f1 ∧ _) → LK T e st0 q S lm 4 o := fun o hb => wr o ⟨st, 1, hT.wd hw, .inr ⟨rfl, .inr ⟨hok, hb⟩⟩⟩
  refine ⟨fun hf => lq_no (w1 _ ⟨st1, q1, v1, f1, hT.nm hn1, .inl ⟨hf, rfl⟩⟩) (nm_16 hn1 hf), fun hf st2 q2 v2 f2 hn2 => ⟨fun hf2 => lq_no (w1 _ ⟨st1, q1, v1, f1, hT.nm hn1, .inr ⟨hf, st2, q2, v2, f2, hT.nm hn2, .inl ⟨hf2, rfl⟩⟩⟩) (nm_16 hn2 hf2), fun hf2 hm' u' hX' eu e8' => ?_⟩⟩
  refine lq_ok (w1 _ ⟨st1, q1, v1, f1, hT.nm hn1, .inr ⟨hf, st2, q2, v2, f2, hT.nm hn2, .inr ⟨hf2, rfl⟩⟩⟩) (by subst hf2; exact nm_q hn2) e8' eu hX' ?_
  subst hf2
  obtain ⟨b1, b2⟩ := nmO_in hn2
  obtain ⟨y, hy, ey⟩ := ixle (n := 99) (by omega) (Int32.le_trans (by decide) b1) b2
  rw [ey] at b1
  have y1 : 1 ≤ y := (nI_leI (a := 1) (by omega) (by omega)).mp b1
  obtain ⟨c, hc, e1⟩ := ixle (n := 122) (by omega) (Int32.le_trans (by decide) hsm.1) hsm.2
  have c97 : 97 ≤ c := (nI_leI (a := 97) (by omega) (by omega)).mp (e1 ▸ hsm.1)
  have e2 : T st - 96 = nI (c - 96) := by rw [e1]; exact nI_sub (b := 96) (by omega)
  exact ⟨n, w, h, L, nl + 1, np, nw, nr, H.ex (fun j hj => by unfold leS; rw [pk_un (by omega), pk_un (by omega), pk_un (by omega), pk_un (by omega)]), C.let hlt (by omega) (by omega) e2 y1 hy ey rfl rfl rfl (fun k k4 k5 k6 => by rw [vu_ne k6, vu_ne k5, vu_ne k4])⟩
theorem cl_place (hX : RX hm0 hm rd tp p s g u tu tA pu pA su sA gu gA) (e4 : u 4 = nI e) (he : e ≤ 900) (e8 : u 8 = nI q) (hq : q ≤ e) (e10 : u 10 = nI st0) (hT : TE (tA 1) T e) (H : CPg S n w h L pu pA) (C : CSc S nl np nw nr w h su sA) :
    CC X EV (d + 5) 52 [.ref rd] hm hs (LQ hm0 rd tp p s g tu tA u gu gA hs e (fun o => LK T e st0 q S lm 5 o)) := by
  have hn := C.ws.2.1.2
  have fl := fl_5 C.ws.2.1.1 hn
  have hw := H.w24
  have hh := H.h12
  have hw3 := H.1.2.2.1
  have hh3 := H.2.1.2.2.1
  refine c_readPlace hX e4 he e8 hq e10 C.2.2.1.2.1 hn (fun hno => lq_no (.inr ⟨by omega, .inl ⟨fl.mpr hno, rfl⟩⟩) (by omega)) (fun hlt st1 q1 v1 f1 hn1 => ?_)
  have wr : ∀ o, BPlace T e q S np o → LK T e st0 q S lm 5 o := fun o hb => .inr ⟨by omega, .inr ⟨fun z => fl.mp z hlt, .inr (.inr (.inr (.inr (.inr (.inl ⟨rfl, np, C.ws.2.1.1, hlt, hb⟩)))))⟩⟩
  have p0 : pu 0 = S 0 := H.u0.trans H.1.2.1.symm
  have p1 : pu 1 = S 1 := H.u1.trans H.2.1.2.1.symm
  rw [p0] at hn1
  rw [p1]
  refine ⟨fun hf => lq_no (wr _ ⟨st1, q1, v1, f1, hT.nm hn1, .inl ⟨hf, rfl⟩⟩) (nm_16 hn1 hf), fun hf st2 q2 v2 f2 hn2 => ⟨fun hf2 => lq_no (wr _ ⟨st1, q1, v1, f1, hT.nm hn1, .inr ⟨hf, st2, q2, v2, f2, hT.nm hn2, .inl ⟨hf2, rfl⟩⟩⟩) (nm_16 hn2 hf2), fun hf2 hm' u' hX' eu e8' => ?_⟩⟩
  refine lq_ok (wr _ ⟨st1, q1, v1, f1, hT.nm hn1, .inr ⟨hf, st2, q2, v2, f2, hT.nm hn2, .inr ⟨hf2, rfl⟩⟩⟩) (by subst hf2; exact nm_q hn2) e8' eu hX' ?_
  subst hf; subst hf2
  obtain ⟨a1, a2⟩ := nmO_in hn1
  obtain ⟨b1, b2⟩ := nmO_in hn2
  rw [H.1.2.1, show nI w - 3 = nI (w - 3) from nI_sub (b := 3) (by omega)] at a2
  rw [H.2.1.2.1, show nI h - 3 = nI (h - 3) from nI_sub (b := 3) (by omega)] at b2
  obtain ⟨x, hx, e1⟩ := ixle (n := w - 3) (by omega) a1 a2
  obtain ⟨y, hy, e2⟩ := ixle (n := h - 3) (by omega) b1 b2
  exact ⟨n, w, h, L, nl, np + 1, nw, nr, H.ex (fun j hj => by unfold plS; rw [pk_un (by omega), pk_un (by omega), pk_un (by omega)]), C.pla hlt (by omega) (by omega) e1 e2 rfl rfl rfl (fun k k7 k8 k9 => by rw [vu_ne k9, vu_ne k8, vu_ne k7])⟩
theorem cl_word (hX : RX hm0 hm rd tp p s g u tu tA pu pA su sA gu gA) (e4 : u 4 = nI e) (he : e ≤ 900) (e8 : u 8 = nI q) (hq : q ≤ e) (e10 : u 10 = nI st0) (hT : TE (tA 1) T e) (H : CPg S n w h L pu pA) (C : CSc S nl np nw nr w h su sA) :
    CC X EV (d + 4) 53 [.ref rd] hm hs (LQ hm0 rd tp p s g tu tA u gu gA hs e (fun o => LK T e st0 q S lm 6 o)) := by
  have hl := C.ws.1.2
  have hn := C.ws.2.2.1.2
  have fl := fl_6 C.ws.2.2.1.1 hn
  refine c_readWord hX e4 he e8 hq e10 C.2.2.1.1 hl C.2.2.1.2.2.1 hn (fun hno => lq_no (.inr ⟨by omega, .inl ⟨fl.mpr hno, rfl⟩⟩) (by omega)) (fun hlt st z hw => ?_)
  have wr : ∀ o, BWord T e q S nl nw o → LK T e st0 q S lm 6 o := fun o hb => .inr ⟨by omega, .inr ⟨fun z => fl.mp z hlt, .inr (.inr (.inr (.inr (.inr (.inr (.inl ⟨rfl, nl, nw, C.ws.1.1, hl, C.ws.2.2.1.1, hlt, hb⟩))))))⟩⟩
  refine ⟨fun hz => lq_no (wr _ ⟨st, z, hT.wd hw, .inl ⟨hz, rfl⟩⟩) (by omega), fun z1 z6 => ⟨fun k hk hlo hno => ?_, fun hok hm' u' sA' hX' so s10 s11 eu e8' => ?_⟩⟩
  · rw [C.nam, (hT.wc hw hk).2.1] at hno
    exact lq_no (wr _ ⟨st, z, hT.wd hw, .inr ⟨z1, z6, .inl ⟨fun a => a k hk hno, rfl⟩⟩⟩) (by omega)
  · have hok' : ∀ x, x < z → ¬ lnm S nl (T (st + x)) = -1 := fun x hx => by
      have := hok x hx
      rw [C.nam, (hT.wc hw hx).2.1] at this; exact this
    refine lq_ok (S1 := fun j => if j = 5 then nI (nw + 1) else if j = 91 + 7 * nw then nI z else if 91 + 7 * nw + 1 ≤ j ∧ j < 91 + 7 * nw + 1 + z then lnm S nl (T (st + (j - (91 + 7 * nw + 1)))) else S j) (wr _ ⟨st, z, hT.wd hw, .inr ⟨z1, z6, .inr ⟨hok', _, fun _ => rfl, rfl⟩⟩⟩) (wd_le hw).2 e8' eu hX' ?_
    refine ⟨n, w, h, L, nl, np, nw + 1, nr, H.ex (fun j hj => ?_), C.wor hlt z1 z6 hok' (fun _ => rfl) s10 (fun x => ?_) so⟩
    · rw [if_neg (by omega), if_neg (by omega), if_neg (by omega)]
    · rw [s11 x]
      by_cases hx : 6 * nw ≤ x ∧ x < 6 * nw + z
      · rw [if_pos hx, if_pos hx, C.nam, (hT.wc hw (show x - 6 * nw < z by omega)).2.1]
      · rw [if_neg hx, if_neg hx]
theorem cl_run (hX : RX hm0 hm rd tp p s g u tu tA pu pA su sA gu gA) (e4 : u 4 = nI e) (he : e ≤ 900) (e8 : u 8 = nI q) (hq : q ≤ e) (e10 : u 10 = nI st0) (hT : TE (tA 1) T e) (H : CPg S n w h L pu pA) (C : CSc S nl np nw nr w h su sA) :
    CC X EV (d + 5) 54 [.ref rd] hm hs (LQ hm0 rd tp p s g tu tA u gu gA hs e (fun o => LK T e st0 q S lm 7 o)) := by
  have hp := C.ws.2.1.2
  have hn := C.ws.2.2.2.1.2
  have fl := fl_7 C.ws.2.2.2.1.1 hn
  refine c_readRun hX e4 he e8 hq e10 C.2.2.1.2.1 hp C.2.2.1.2.2.2 hn (fun hno => lq_no (.inr ⟨by omega, .inl ⟨fl.mpr hno, rfl⟩⟩) (by omega)) (fun hlt st1 q1 v1 f1 hn1 => ?_)
  have wr : ∀ o, BRun T e q S np nr o → LK T e st0 q S lm 7 o := fun o hb => .inr ⟨by omega, .inr ⟨fun z => fl.mp z hlt, .inr (.inr (.inr (.inr (.inr (.inr (.inr ⟨rfl, np, nr, C.ws.2.1.1, hp, C.ws.2.2.2.1.1, hlt, C.ws.2.2.2.2.1, hb⟩))))))⟩⟩
  refine ⟨fun hf => lq_no (wr _ ⟨st1, q1, v1, f1, hT.nm hn1, .inl ⟨hf, rfl⟩⟩) (nm_16 hn1 hf), fun hf i hi ev1 st2 q2 v2 f2 hn2 => ?_⟩
  have w1 : ∀ o, (∃ i st2 q2 v2 f2, i < np ∧ v1 = nI i ∧ nmO T e q1 1 (nI (min 6 (np - i))) st2 q2 v2 f2 ∧ _) → LK T e st0 q S lm 7 o := fun o hb => wr o ⟨st1, q1, v1, f1, hT.nm hn1, .inr ⟨hf, hb⟩⟩
  refine ⟨fun hf2 => lq_no (w1 _ ⟨i, st2, q2, v2, f2, hi, ev1, hT.nm hn2, .inl ⟨hf2, rfl⟩⟩) (nm_16 hn2 hf2), fun hf2 l l1 l6 ev2 => ?_⟩
  have e9 : ∀ x, x < l → sA 9 (i + x) = runM S nr (i + x) := fun x hx => (C.2.2.2.2.1 (i + x) (by omega)).2.2.1
  refine ⟨fun hno => lq_no (w1 _ ⟨i, st2, q2, v2, f2, hi, ev1, hT.nm hn2, .inr ⟨hf2, l, l1, l6, ev2, .inl ⟨fun a => hno (fun x hx => (e9 x hx).trans (a x hx)), rfl⟩⟩⟩) (by omega), fun hok hm' u' sA' hX' so s12 s13 s9 eu e8' => ?_⟩
  have hok' : ∀ x, x < l → runM S nr (i + x) = -1 := fun x hx => (e9 x hx).symm.trans (hok x hx)
  refine lq_ok (w1 _ ⟨i, st2, q2, v2, f2, hi, ev1, hT.nm hn2, .inr ⟨hf2, l, l1, l6, ev2, .inr ⟨hok', rfl⟩⟩⟩) (by subst hf2; exact nm_q hn2) e8' eu hX' ?_
  exact ⟨n, w, h, L, nl, np, nw, nr + 1, H.ex (fun j hj => by unfold ruS; rw [pk_un (by omega), pk_un (by omega), pk_un (by omega)]), C.run hlt hi l1 (by omega) (by omega) hok' s12 s13 s9 so⟩
end CD
