/-- a line without what is skipped ahead of it and without its end -/
def LA0 (T : Nat → Int32) (e st : Nat) (S : Nat → Int32) (lm : Nat) (o : OU) : Prop := (¬ (st < e ∧ isSm (T st)) ∧ o = oNo 1 st none) ∨ (st < e ∧ isSm (T st) ∧ ∃ z, nxq T e isSm st (st + z) ∧ (((∀ k, k < 8 → ¬ isKey T st z k) ∧ o = oNo 1 st none) ∨ ∃ k, k < 8 ∧ isKey T st z k ∧ LK T e st (st + z) S lm k o))
section LL
variable {T S : Nat → Int32} {e st lm q q1 : Nat} {S1 : Nat → Int32}
theorem nm_le {lo hi v : Int32} {q' f : Nat} (h : nmO T e q lo hi st q' v f) (hf : f = 0) : q ≤ q' := by
  rcases h.2 with h1 | ⟨-, -, h1, -⟩
  · omega
  · exact Nat.le_trans h.1.1 h1.1
theorem ou_ne {f a : Nat} {r : OR} {q : Nat} {S : Nat → Int32} (h : oOk q S = oNo f a r) : False := by cases h
theorem ou_q {q q' : Nat} {S S' : Nat → Int32} (h : oOk q S = oOk q' S') : q = q' := by cases h; rfl
theorem lb_le {bg k : Nat} (h : LB T e bg q S k (oOk q1 S1)) : q ≤ q1 := by
  rcases h with ⟨-, st1, a1, v1, f1, n1, h⟩ | ⟨-, n, w, h, -, -, -, -, -, -, -, -, st1, a1, v1, f1, n1, h⟩ | ⟨-, n, -, -, st1, a1, v1, f1, n1, h⟩ | ⟨-, n, L, -, -, -, st1, a1, v1, f1, n1, h⟩ | ⟨-, nl, -, -, st1, z, w1, h⟩ | ⟨-, np, -, -, st1, a1, v1, f1, n1, h⟩ | ⟨-, nl, nw, -, -, -, -, st1, z, w1, h⟩ | ⟨-, np, nr, -, -, -, -, -, st1, a1, v1, f1, n1, h⟩
  · rcases h with ⟨-, h⟩ | ⟨g1, st2, a2, v2, f2, n2, ⟨-, h⟩ | ⟨g2, h⟩⟩
    · exact (ou_ne h).elim
    · exact (ou_ne h).elim
    · rw [ou_q h]; exact Nat.le_trans (nm_le n1 g1) (nm_le n2 g2)
  · rcases h with ⟨-, h⟩ | ⟨g1, x, st2, a2, v2, f2, -, -, n2, ⟨-, h⟩ | ⟨g2, y, st3, a3, v3, f3, -, -, n3, ⟨-, h⟩ | ⟨g3, c, st4, a4, v4, f4, -, -, n4, ⟨-, h⟩ | ⟨g4, l, -, -, -, ⟨-, h⟩ | ⟨-, h⟩⟩⟩⟩⟩
    · exact (ou_ne h).elim
    · exact (ou_ne h).elim
    · exact (ou_ne h).elim
    · exact (ou_ne h).elim
    · exact (ou_ne h).elim
    · rw [ou_q h]; exact Nat.le_trans (nm_le n1 g1) (Nat.le_trans (nm_le n2 g2) (Nat.le_trans (nm_le n3 g3) (nm_le n4 g4)))
  · rcases h with ⟨-, h⟩ | ⟨g1, i, st2, a2, v2, f2, -, -, n2, ⟨-, h⟩ | ⟨g2, ⟨-, h⟩ | ⟨-, h⟩⟩⟩
    · exact (ou_ne h).elim
    · exact (ou_ne h).elim
    · exact (ou_ne h).elim
    · rw [ou_q h]; exact Nat.le_trans (nm_le n1 g1) (nm_le n2 g2)
  · rcases h with ⟨-, h⟩ | ⟨g1, i, st2, a2, v2, f2, -, -, n2, ⟨-, h⟩ | ⟨g2, j, -, -, ⟨-, h⟩ | ⟨-, ⟨-, h⟩ | ⟨-, ⟨-, h⟩ | ⟨-, h⟩⟩⟩⟩⟩
    · exact (ou_ne h).elim
    · exact (ou_ne h).elim
    · exact (ou_ne h).elim
    · exact (ou_ne h).elim
    · exact (ou_ne h).elim
    · rw [ou_q h]; exact Nat.le_trans (nm_le n1 g1) (nm_le n2 g2)
  · rcases h with ⟨-, h⟩ | ⟨-, ⟨-, h⟩ | ⟨-, st2, a2, v2, f2, n2, ⟨-, h⟩ | ⟨g2, st3, a3, v3, f3, n3, ⟨-, h⟩ | ⟨g3, h⟩⟩⟩⟩
    · exact (ou_ne h).elim
    · exact (ou_ne h).elim
    · exact (ou_ne h).elim
    · exact (ou_ne h).elim
    · rw [ou_q h]
      have := nm_le n2 g2
      have := nm_le n3 g3
      have := w1.1.1
      omega
  · rcases h with ⟨-, h⟩ | ⟨g1, st2, a2, v2, f2, n2, ⟨-, h⟩ | ⟨g2, h⟩⟩
    · exact (ou_ne h).elim
    · exact (ou_ne h).elim
    · rw [ou_q h]; exact Nat.le_trans (nm_le n1 g1) (nm_le n2 g2)
  · rcases h with ⟨-, h⟩ | ⟨-, -, ⟨-, h⟩ | ⟨-, S', -, h⟩⟩
    · exact (ou_ne h).elim
    · exact (ou_ne h).elim
    · rw [ou_q h]; have := w1.1.1; omega
  · rcases h with ⟨-, h⟩ | ⟨g1, i, st2, a2, v2, f2, -, -, n2, ⟨-, h⟩ | ⟨g2, l, -, -, -, ⟨-, h⟩ | ⟨-, h⟩⟩⟩
    · exact (ou_ne h).elim
    · exact (ou_ne h).elim
    · exact (ou_ne h).elim
    · rw [ou_q h]; exact Nat.le_trans (nm_le n1 g1) (nm_le n2 g2)
theorem lr_no {f a : Nat} {r : OR} (hs : nxq T e (fun x => x = 32) st st) (hf : 1 ≤ f ∧ f ≤ 6) (h : LA0 T e st S lm (oNo f a r)) : LR T e st S lm (oNo f a r) := by
  refine ⟨st, hs, ?_⟩
  rcases h with h | ⟨h1, h2, z, h3, h | ⟨k, hk, hky, h | ⟨h4, h | ⟨h5, h⟩⟩⟩⟩
  · exact .inl h
  · exact .inr ⟨h1, h2, z, h3, .inl h⟩
  · exact .inr ⟨h1, h2, z, h3, .inr ⟨k, hk, hky, .inl h⟩⟩
  · exact .inr ⟨h1, h2, z, h3, .inr ⟨k, hk, hky, .inr ⟨h4, .inl h⟩⟩⟩
  · exact .inr ⟨h1, h2, z, h3, .inr ⟨k, hk, hky, .inr ⟨h4, .inr ⟨h5, _, h, .inl ⟨f, a, r, hf.1, hf.2, rfl, rfl⟩⟩⟩⟩⟩
theorem lr_ok {st1 : Nat} {o : OU} (hs : nxq T e (fun x => x = 32) st st) (h : LA0 T e st S lm (oOk q1 S1)) (hq : q1 ≤ e) (hn : nxq T e (fun x => x = 32) q1 st1) (ho : (¬ (st1 < e ∧ T st1 = 59) ∧ o = oNo 1 st1 none) ∨ (st1 < e ∧ T st1 = 59 ∧ o = oOk (st1 + 1) S1)) : LR T e st S lm o ∧ st ≤ q1 := by
  rcases h with ⟨-, h⟩ | ⟨h1, h2, z, h3, ⟨-, h⟩ | ⟨k, hk, hky, ⟨-, -, h⟩ | ⟨h4, ⟨-, h⟩ | ⟨h5, h⟩⟩⟩⟩
  · exact (ou_ne h).elim
  · exact (ou_ne h).elim
  · exact (ou_ne h).elim
  · exact (ou_ne h).elim
  · exact ⟨⟨st, hs, .inr ⟨h1, h2, z, h3, .inr ⟨k, hk, hky, .inr ⟨h4, .inr ⟨h5, _, h, .inr ⟨q1, S1, st1, rfl, hq, hn, ho⟩⟩⟩⟩⟩⟩, by have := lb_le h; omega⟩
end LL
section CE
variable {X : HM} {EV : Nat → Value} {d : Nat} {hm0 hm hm2 : HM} {hs : Nat} {Q : QT} {B n w h nl np nw nr lm : Nat} {L : Nat → Nat} {rd tp p s g e q st z : Nat} {u u' tu pu su gu S T : Nat → Int32} {tA pA sA gA : Nat → Nat → Int32} {BR BR' : OU → Prop}
theorem LQ.mono (hi : ∀ o, BR o → BR' o) {v : Option Value} {hm' : HM} {hs' : Nat} (h : LQ hm0 rd tp p s g tu tA u gu gA hs e BR v hm' hs') : LQ hm0 rd tp p s g tu tA u gu gA hs e BR' v hm' hs' := ⟨h.1, h.2.choose, hi _ h.2.choose_spec.1, h.2.choose_spec.2⟩
theorem LQ.v {v : Option Value} {hm' : HM} {hs' : Nat} (h : LQ hm0 rd tp p s g tu tA u gu gA hs e BR v hm' hs') : v = some (.int 0) ∨ v = some (.int 1) := by
  obtain ⟨-, o, -, h | h⟩ := h
  · exact .inl h.1
  · exact .inr h.1
theorem cl_line (hX : RX hm0 hm rd tp p s g u tu tA pu pA su sA gu gA) (hK : KW X EV B) (hXT : XT X EV B) (hBp : B ≤ p) (hlow : lowN B hm0) (e4 : u 4 = nI e) (he : e ≤ 900) (hw : wdO (tA 1) e q st z) (e10 : u 10 = nI st) (e9 : u 9 = 2 ↔ 0 < z) (ez : 0 < z → u 11 = nI z ∧ u 8 = nI (st + z)) (eq : ∃ q', u 8 = nI q' ∧ u 11 = nI (q' - st) ∧ q' ≤ e) (hT : TE (tA 1) T e) (H : CPg S n w h L pu pA) (C : CSc S nl np nw nr w h su sA) (e2 : u 2 = nI lm) (hlm : lm ≤ 900) (h0 : lm = 0 → n = 0 ∧ np = 0) :
    CC X EV (d + 6) 44 [.ref rd] hm hs (LQ hm0 rd tp p s g tu tA u gu gA hs e (fun o => LA0 T e st S lm o)) := by
  have had := hX.ad
  unfold adX at had
  have hlo : lowN B hm := fun a ha => by rw [hX.fr a (by omega) (by omega) (by omega) (by omega)]; exact hlow a ha
  obtain ⟨hse, hze⟩ := wd_le hw
  rcases Nat.eq_zero_or_pos z with z0 | z0
  · subst z0
    have h2 : ¬ u 9 = 2 := fun y => absurd (e9.mp y) (by omega)
    have hns : ¬ (st < e ∧ isSm (T st)) := by
      rcases (hT.wd hw).2 with ⟨-, h⟩ | ⟨h, -⟩
      · exact h
      · omega
    obtain ⟨q', -, e11, hq'⟩ := eq
    exact c_readLine hX hK hlo e10 e11 (by omega) (fun k hk y => absurd y h2) (fun _ => lq_no (.inl ⟨hns, rfl⟩) (by omega))
  · obtain ⟨e11, e8⟩ := ez z0
    obtain ⟨hlt, hsm, hnx⟩ : st < e ∧ isSm (T st) ∧ nxq T e isSm st (st + z) := by
      rcases (hT.wd hw).2 with ⟨h, -⟩ | ⟨-, h1, h2, h3⟩
      · omega
      · exact ⟨h1, h2, h3⟩
    refine c_readLine hX hK hlo e10 e11 (by omega) (fun k hk _ hky => ?_) (fun hno => lq_no (.inr ⟨hlt, hsm, z, hnx, .inl ⟨fun k hk hky => hno ⟨e9.mpr z0, k, hk, (hT.ky hk hze).mpr hky⟩, rfl⟩⟩) (by omega))
    have hky' := (hT.ky hk hze).mp hky
    have up : ∀ {v hm' hs'}, LQ hm0 rd tp p s g tu tA u gu gA hs e (fun o => LK T e st (st + z) S lm k o) v hm' hs' → (v = some (.int 0) ∨ v = some (.int 1)) ∧ LQ hm0 rd tp p s g tu tA u gu gA hs e (fun o => LA0 T e st S lm o) v hm' hs' := fun h => ⟨h.v, h.mono (fun o ho => .inr ⟨hlt, hsm, z, hnx, .inr ⟨k, hk, hky', ho⟩⟩)⟩
    refine c_mono (Q := LQ hm0 rd tp p s g tu tA u gu gA hs e (fun o => LK T e st (st + z) S lm k o)) ?_ (fun v hm' hs' h => up h)
    match k, hk with
    | 0, _ => exact cl_page hX e4 he e8 hze e10 hT H C e2 hlm h0
    | 1, _ => exact cl_stroke hX hXT hBp (by omega) hlow e4 he e8 hze e10 hT H C
    | 2, _ => exact cl_hand hX e4 he e8 hze e10 hT H C
    | 3, _ => exact cl_over hX e4 he e8 hze e10 hT H C
    | 4, _ => exact cl_letter hX e4 he e8 hze e10 hT H C
    | 5, _ => exact cl_place hX e4 he e8 hze e10 hT H C
    | 6, _ => exact cl_word (d := d + 1) hX e4 he e8 hze e10 hT H C
    | 7, _ => exact cl_run hX e4 he e8 hze e10 hT H C
end CE
