section CL4
variable {D : va_G} {X : HM} {EV : Nat → Value} {B ci nL mc ms d : Nat} {rt : Option FieldType} {ini : Bool} {cc : ByteArray} {p : Program} {l : Launch} {e : Env} {R : Room} {s : State} {m : MethodId} {args : Array Value} {below : List Frame} {meth : Method} {c : Code} {Qw : State → Prop}
variable {C : CT} {Q : QT} {pc n : Nat} {ls st : List Value} {cu su : Nat} {hm : HM} {hs : Nat}
theorem im_run {Q' : QT} {a : Array Value} {H : Heap} {locs : List Loc} {lsA : Array Slot} {r : List Value} {c1 s1 : Nat} (hr : va_Run p l e R s m args below meth c H locs cu su c1 s1 (F0 m pc lsA st) r (im_Qc D B Q' a) (fun q => B ≤ q)) (hS : va_S (fun q => B ≤ q) s.heap H locs)
    (kk : ∀ (v : Option Value) (hm : HM) (H1 : Heap) (locs1 : List Loc), Q' v hm H1.size → im_rep D B s hm H1 → va_S (fun q => B ≤ q) s.heap H1 locs1 → W p l e R s m args below meth c H1 locs1 (cu + c1) (su + s1) Qw (F0 m (pc + 3) lsA (v.toList ++ r))) : W p l e R s m args below meth c H locs cu su Qw (F0 m pc lsA st) := by
  intro T hT XX
  obtain ⟨v, st₀, t, T', L, h0, X', hL, e1, e2, ⟨r', hm', hv, hQ, hRep, hsz, hk⟩, stp⟩ := hr T hT XX
  cases hv
  rw [h0] at hsz hk
  have hal : t.vm.Alike s.vm := by rw [← e2]; exact X'.warmed.alike.symm
  obtain ⟨t2, a1, b1⟩ := kk v hm' T'.heap (locs ++ L) (by rw [e1]; exact hQ) (by rw [e1]; exact hRep.moved hal)
    ⟨Nat.le_trans hS.1 (by rw [e1]; exact hsz), fun q h1 h2 => by rw [e1, hk q (Nat.lt_of_lt_of_le h1 hS.1) h2]; exact hS.2.1 q h1 h2, fun q hq => by
      rcases List.mem_append.mp hq with h | h
      · exact hS.2.2 q h
      · exact hL q h⟩ T' rfl X'
  exact ⟨t2, stp t2 a1, b1⟩
theorem im_pre {as : List Value} {H : Heap} {locs : List Loc} (hF : im_F D X EV B s s.heap) (hB : B ≤ s.heap.size) (hR : im_rep D B s hm H) (hS : va_S (fun q => B ≤ q) s.heap H locs) (hz : H.size = hs) : ∀ U : State, U.heap = H → s.WarmedH U.vm → im_Pc D X EV B as hm hs as.toArray U := by
  intro U hU hW
  have h1 : im_F D X EV B U H := (im_F.kept hF hS.2.1).moved hW
  exact ⟨rfl, by rw [hU]; exact h1, by rw [hU]; exact hR.moved hW.alike, by rw [hU]; exact hz, by have := hS.1; omega⟩
theorem im_recv {b cj : Nat} {fs : List Value} {H : Heap} {locs : List Loc} (hF : im_F D X EV B s s.heap) (hR : im_rep D B s hm H) (hS : va_S (fun q => B ≤ q) s.heap H locs) (h : im_rd X hm b = some (.inr (cj, fs))) : ∃ cell : Cell, H[b]? = some cell ∧ cell.vm.isStatics = false ∧ s.vm.findClass (im_cn cj) = some cell.cls := by
  rcases im_rd_cases h with h | ⟨-, h⟩
  · obtain ⟨hlt, cell, g1, g2, g3, -⟩ := im_obj (hR _ _ h).2
    exact ⟨cell, g1, by rw [g3]; rfl, by rw [g2]; exact (hF.1 cj _ (im_clx cj hlt)).2.1⟩
  · obtain ⟨rfl, ⟨cell, g1, g2, g3, g4⟩, -⟩ := hF.2.1 _ _ h
    exact ⟨cell, by rw [hS.2.1 _ (Array.getElem?_eq_some_iff.mp g1).1 g4]; exact g1, g2, g3⟩
theorem im_W8 {m : MethodId} {r : List Value} {lsA : Array Slot} {st : List Value} {pc : Nat} (h : r.length ≤ 4) : 2 * (F0 m pc lsA st).monitorRoom + (r.map fun v => v.category).sum ≤ 8 := by
  have := im_sum4 h
  show 2 * 0 + _ ≤ 8
  omega
theorem im_cok_ref {kd y : Nat} {as : List Value} (h : im_cok X hm kd y as) (hk : kd = 0 ∨ kd = 2 ∨ kd = 3) : ∃ b As, as = .ref b :: As := by
  rcases as with _ | ⟨v, As⟩
  · rcases hk with rfl | rfl | rfl <;> exact h.elim
  · cases v with
    | ref b => exact ⟨b, As, rfl⟩
    | _ => rcases hk with rfl | rfl | rfl <;> exact h.elim
theorem im_inone {y : Nat} {r : IMM} (hy : im_mth y = some r) (hn : r.2.1.name = "<init>") : r.2.2.2.2.1 = none := by
  have h1 : im_mths.all (fun r => decide (r.2.1.name = "<init>" → r.2.2.2.2.1 = none)) = true := by decide +kernel
  have h2 := List.all_eq_true.mp h1 r (List.mem_of_getElem? hy)
  simp only [decide_eq_true_eq] at h2
  exact h2 hn
/-- what a call of the small machine is in the machine -/
theorem cl_call (K : im_ctx D X EV B ci nL mc ms ini cc p R s m args meth c) (hM : im_Met D X EV B l d C) (hfd : d + 1 ≤ R.frames) (hld : 64 * d + 64 ≤ R.locals) {idx kd y k p1 p2 p3 : Nat} {i : Instr} {vk : Nat → Bool} (hk : im_mtd ci idx = some (kd, y, k, p1, p2, p3)) (hkd : kd < 5) {r0 : IMM} (hy : im_mth y = some r0)
    (hd : decode cc pc = .ok (i, 3)) (hiv : (i = .invokevirtual idx ∧ vk = (fun k => k == 0)) ∨ (i = .invokestatic idx ∧ vk = (fun k => k == 1 || k == 4 || k == 6 || k == 7 || k == 8)) ∨ (i = .invokespecial idx ∧ vk = (fun k => k == 2 || k == 3 || k == 5))) {as r : List Value} (hp : im_pop k st = some (as, r))
    (hi : im_in C Q (im_ws D B nL p l e R s m args below meth c Qw) (o_cl (vk kd = true ∧ im_cok X hm kd y as ∧ r.length ≤ 4 ∧ cu + r0.2.2.2.2.2.1 ≤ mc ∧ su + r0.2.2.2.2.2.2 ≤ ms) y as hm hs (fun v hm' hs' => (pc + 3, ls, v.toList ++ r, cu + r0.2.2.2.2.2.1, su + r0.2.2.2.2.2.2, hm', hs')))) : (im_ws D B nL p l e R s m args below meth c Qw) (pc, ls, st, cu, su, hm, hs) := by
  obtain ⟨hx, hb, hml, hown, hts, hF, hRc, hRs, hini, hB, hfr, hlo⟩ := K
  obtain ⟨⟨hvk, hok, hr4, hcc, hss⟩, hC⟩ := hi
  have hMy := hM y r0 as hm hs _ hy hC
  obtain ⟨hst, hal⟩ := im_pop_spec hp
  obtain ⟨w1, w2, w3, w4, w5, w6⟩ := im_mspec hy
  have hyn := im_ynm hy
  have hq := im_kspec hk
  intro H locs lsA hR hS hz hl
  have fix : CallFix p m c cc nL s args lw_g (im_cn ci) := ⟨hx, hb, hml, hown, hts⟩
  have hroom : (im_rm d r0.2.2.2.2.2.1 r0.2.2.2.2.2.2).frames + 1 ≤ R.frames ∧ 8 + (r0.2.2.2.1 + 11) + (im_rm d r0.2.2.2.2.2.1 r0.2.2.2.2.2.2).locals ≤ R.locals := by
    refine ⟨hfd, ?_⟩
    show 8 + (r0.2.2.2.1 + 11) + 64 * d ≤ R.locals
    omega
  have hfit : cu + r0.2.2.2.2.2.1 ≤ R.cells ∧ su + r0.2.2.2.2.2.2 ≤ R.slots := ⟨Nat.le_trans hcc hRc, Nat.le_trans hss hRs⟩
  have fin : ∀ (v : Option Value) (hm' : HM) (H1 : Heap) (locs1 : List Loc), (im_ws D B nL p l e R s m args below meth c Qw) (pc + 3, ls, v.toList ++ r, cu + r0.2.2.2.2.2.1, su + r0.2.2.2.2.2.2, hm', H1.size) → im_rep D B s hm' H1 → va_S (fun q => B ≤ q) s.heap H1 locs1 → W p l e R s m args below meth c H1 locs1 (cu + r0.2.2.2.2.2.1) (su + r0.2.2.2.2.2.2) Qw (F0 m (pc + 3) lsA (v.toList ++ r)) :=
    fun v hm' H1 locs1 h1 h2 h3 => h1 H1 locs1 lsA h2 h3 rfl hl
  have cb : ∀ (nn : Nat), im_pn r0.2.1 = some nn → (Cond.methodLink (im_cn ci) idx r0.2.1).before args s = true → CallB R s args (im_cn ci) idx r0.2.1 r0.2.2.1 r0.2.2.2.1 r0.2.2.2.2.1 (im_wsy r0) (im_rm d r0.2.2.2.2.2.1 r0.2.2.2.2.2.2) r0.2.2.2.2.2.1 r0.2.2.2.2.2.2 nn :=
    fun nn hn hl => callB_of nn hts (im_goody hy) rfl rfl rfl (hts _ w1) hl ⟨w4, w5, hn⟩ hroom
  have cn : ∀ (nn : Nat), im_pn r0.2.1 = some nn → va_Nw (.methodLinkNest (im_cn ci) idx r0.2.1 "TwoHands") s → va_CN R s args (im_cn ci) idx r0.2.1 "TwoHands" r0.2.2.1 r0.2.2.2.1 r0.2.2.2.2.1 (im_wsy r0) (im_rm d r0.2.2.2.2.2.1 r0.2.2.2.2.2.2) r0.2.2.2.2.2.1 r0.2.2.2.2.2.2 nn :=
    fun nn hn hl => va_cnB nn hts (im_goody hy) rfl rfl rfl hl (hts _ w1) ⟨w4, w5, hn⟩ hroom
  have pre : PreS s H (im_Pc D X EV B as hm hs) as := ⟨im_blind D X EV B as hm hs, im_pre hF hB hR hS hz⟩
  obtain rfl | rfl | rfl | rfl | rfl : kd = 0 ∨ kd = 1 ∨ kd = 2 ∨ kd = 3 ∨ kd = 4 := by omega
  · have hi0 : i = .invokevirtual idx := by
      rcases hiv with ⟨h, -⟩ | ⟨-, h⟩ | ⟨-, h⟩
      · exact h
      · subst h; cases hvk
      · subst h; cases hvk
    subst hi0
    simp only [im_kchk, Bool.and_eq_true, decide_eq_true_eq, hyn] at hq
    obtain ⟨⟨⟨⟨⟨-, q1⟩, q2⟩, q3⟩, q4⟩, q5⟩ := hq
    obtain ⟨b, As, rfl⟩ := im_cok_ref hok (by decide)
    · obtain ⟨cj, fs, hrd, hcn, -⟩ := hok
      rw [hyn] at hcn
      have hrc := im_recv hF hR hS hrd
      rw [hcn] at hrc
      have hsel : (Cond.selects r0.2.1.cls r0.2.1 r0.2.1).before args s = true := hts _ (List.mem_filter.mpr ⟨List.mem_of_getElem? q3, rfl⟩)
      have hlen : As.length = k - 1 := by simp at hal; omega
      exact im_run (va_runV (As := As) (rest := r) (b := b) fix hMy ⟨cb _ q5 (hts _ (im_tbl q1)), hts _ (im_tbl q2), hsel⟩ ⟨pre.1, hrc, pre.2⟩ rfl hlen hl.1.1 (by rw [hst]; simp) (im_W8 hr4) hd hfit) hS fin
  · have hi0 : i = .invokestatic idx := by
      rcases hiv with ⟨-, h⟩ | ⟨h, -⟩ | ⟨-, h⟩
      · subst h; cases hvk
      · exact h
      · subst h; cases hvk
    subst hi0
    simp only [im_kchk, Bool.and_eq_true, decide_eq_true_eq, hyn] at hq
    obtain ⟨⟨⟨-, q1⟩, q2⟩, q5⟩ := hq
    exact im_run (va_runS (As := as) (rest := r) fix hMy ⟨cb _ q5 (hts _ (im_tbl q1)), hts _ (im_tbl q2)⟩ pre rfl hal hl.1.1 (by rw [hst]) (im_W8 hr4) hd hfit) hS fin
  · have hi0 : i = .invokespecial idx := by
      rcases hiv with ⟨-, h⟩ | ⟨-, h⟩ | ⟨h, -⟩
      · subst h; cases hvk
      · subst h; cases hvk
      · exact h
    subst hi0
    simp only [im_kchk, Bool.and_eq_true, decide_eq_true_eq, hyn] at hq
    obtain ⟨⟨⟨⟨⟨-, q1⟩, q2⟩, q3⟩, q4⟩, q5⟩ := hq
    obtain ⟨b, As, rfl⟩ := im_cok_ref hok (by decide)
    · have hlen : As.length = k - 1 := by simp at hal; omega
      have hnone : r0.2.2.2.2.1 = none := im_inone hy q3
      have cb0 := cb _ q5 (hts _ (im_tbl q1))
      rw [hnone] at cb0
      exact im_run (va_runI (As := As) (rest := r) (b := b) fix hMy ⟨cb0, q3, hts _ (im_tbl q2)⟩ pre rfl hlen hl.1.1 (by rw [hst]; simp) (im_W8 hr4) hd hfit) hS fin
  · have hi0 : i = .invokespecial idx := by
      rcases hiv with ⟨-, h⟩ | ⟨-, h⟩ | ⟨h, -⟩
      · subst h; cases hvk
      · subst h; cases hvk
      · exact h
    subst hi0
    simp only [im_kchk, Bool.and_eq_true, decide_eq_true_eq, hyn] at hq
    obtain ⟨⟨⟨⟨⟨-, q1⟩, q2⟩, q3⟩, q4⟩, q5⟩ := hq
    obtain ⟨b, As, rfl⟩ := im_cok_ref hok (by decide)
    · have hlen : As.length = k - 1 := by simp at hal; omega
      have hnone : r0.2.2.2.2.1 = none := im_inone hy q3
      have cb0 := cn _ q5 (hF.2.2.2.2.2 _ (im_tblA q1) rfl)
      rw [hnone] at cb0
      exact im_run (va_runIN (As := As) (rest := r) (b := b) fix hMy ⟨cb0, q3, hts _ (im_tbl q2)⟩ pre rfl hlen hl.1.1 (by rw [hst]; simp) (im_W8 hr4) hd hfit) hS fin
  · have hi0 : i = .invokestatic idx := by
      rcases hiv with ⟨-, h⟩ | ⟨h, -⟩ | ⟨-, h⟩
      · subst h; cases hvk
      · exact h
      · subst h; cases hvk
    subst hi0
    simp only [im_kchk, Bool.and_eq_true, decide_eq_true_eq, hyn] at hq
    obtain ⟨⟨⟨-, q1⟩, q2⟩, q5⟩ := hq
    exact im_run (va_runSN (As := as) (rest := r) fix hMy ⟨cn _ q5 (hF.2.2.2.2.2 _ (im_tblA q1) rfl), hts _ (im_tbl q2), trivial⟩ pre rfl hal hl.1.1 (by rw [hst]) (im_W8 hr4) hd hfit) hS fin
theorem cl_inv (K : im_ctx D X EV B ci nL mc ms ini cc p R s m args meth c) (hM : im_Met D X EV B l d C) (hfd : d + 1 ≤ R.frames) (hld : 64 * d + 64 ≤ R.locals) {idx : Nat} {i : Instr} {vk : Nat → Bool}
    (hd : decode cc pc = .ok (i, 3)) (hiv : (i = .invokevirtual idx ∧ vk = (fun k => k == 0)) ∨ (i = .invokestatic idx ∧ vk = (fun k => k == 1 || k == 4 || k == 6 || k == 7 || k == 8)) ∨ (i = .invokespecial idx ∧ vk = (fun k => k == 2 || k == 3 || k == 5)))
    (hi : im_in C Q (im_ws D B nL p l e R s m args below meth c Qw) (i_inv X ci mc ms pc ls st cu su hm hs idx vk)) : (im_ws D B nL p l e R s m args below meth c Qw) (pc, ls, st, cu, su, hm, hs) := by
  have K0 := K
  obtain ⟨hx, hb, hml, hown, hts, hF, hRc, hRs, hini, hB, hfr, hlo⟩ := K0
  unfold i_inv at hi
  split at hi
  · rename_i y k p1 p2 p3 hk
    have hq := im_kspec hk
    simp only [im_kchk, Bool.and_eq_true, decide_eq_true_eq] at hq
    split at hi
    · rename_i b r
      obtain ⟨⟨hvk, hr4⟩, hi⟩ := hi
      have hi0 : i = .invokespecial idx := by
        rcases hiv with ⟨-, h⟩ | ⟨-, h⟩ | ⟨h, -⟩
        · subst h; cases hvk
        · subst h; cases hvk
        · exact h
      subst hi0
      intro H locs lsA hR hS hz hl
      refine W.objInit hx hb hown (hts _ (im_tbl hq.1.1.1)) (hts _ (im_tbl hq.1.1.2)) (hts _ (im_tbl hq.1.2)) rfl (by rw [hml]; exact hl.1.1) rfl hd hfr ?_ (hi H locs lsA hR hS hz hl)
      have := im_sum4 hr4
      show 2 * 0 + _ + 12 ≤ _
      omega
    · exact hi.1.elim
  · rename_i y k p1 p2 p3 hk
    split at hi
    · rename_i hvk
      have hi0 : i = .invokestatic idx := by
        rcases hiv with ⟨-, h⟩ | ⟨h, -⟩ | ⟨-, h⟩
        · subst h; cases hvk
        · exact h
        · subst h; cases hvk
      subst hi0
      exact cl_copy K hk hd hi
    · exact hi.1.elim
  · rename_i y k p1 p2 p3 hk
    have hq := im_kspec hk
    simp only [im_kchk, Bool.and_eq_true, decide_eq_true_eq] at hq
    split at hi
    · obtain ⟨⟨hvk, hr4, hc1, hs1⟩, hi⟩ := hi
      have hi0 : i = .invokestatic idx := by
        rcases hiv with ⟨-, h⟩ | ⟨h, -⟩ | ⟨-, h⟩
        · subst h; cases hvk
        · exact h
        · subst h; cases hvk
      subst hi0
      intro H locs lsA hR hS hz hl
      have := im_sum4 hr4
      exact va_mmax hx hb (by rw [hml]; exact hl.1.1.symm) hown (hts _ (im_tbl hq.1.1.1)) (hts _ (im_tbl hq.1.1.2)) (hts _ (im_tbl im_iMath)) (hts _ (im_tbl hq.1.2)) hfr (by omega) (Nat.le_trans hc1 hRc) (Nat.le_trans hs1 hRs) hd (hi H locs lsA hR hS hz hl)
    · exact hi.1.elim
  · rename_i y k p1 p2 p3 hk
    have hq := im_kspec hk
    simp only [im_kchk, Bool.and_eq_true, decide_eq_true_eq] at hq
    split at hi
    · obtain ⟨⟨hvk, hr4, hc1, hs1⟩, hi⟩ := hi
      have hi0 : i = .invokestatic idx := by
        rcases hiv with ⟨-, h⟩ | ⟨h, -⟩ | ⟨-, h⟩
        · subst h; cases hvk
        · exact h
        · subst h; cases hvk
      subst hi0
      intro H locs lsA hR hS hz hl
      have := im_sum4 hr4
      exact va_mmin hx hb (by rw [hml]; exact hl.1.1.symm) hown (hts _ (im_tbl hq.1.1.1)) (hts _ (im_tbl hq.1.1.2)) (hts _ (im_tbl im_iMath)) (hts _ (im_tbl hq.1.2)) hfr (by omega) (Nat.le_trans hc1 hRc) (Nat.le_trans hs1 hRs) hd (hi H locs lsA hR hS hz hl)
    · exact hi.1.elim
  · rename_i kd y k p1 p2 p3 h5 h6 h7 h8 hk
    split at hi
    · rename_i as r q0 q1 q2 q3 q4 c1 s1 hp hy
      have hkd : kd < 5 := by
        have hq := im_kspec hk
        have g5 : kd ≠ 5 := h5
        have g6 : kd ≠ 6 := h6
        have g7 : kd ≠ 7 := h7
        have g8 : kd ≠ 8 := h8
        rcases Nat.lt_or_ge kd 9 with h | h
        · omega
        · obtain ⟨z, rfl⟩ : ∃ z, kd = z + 9 := ⟨kd - 9, by omega⟩
          cases hq
      exact cl_call K hM hfd hld hk hkd hy hd hiv hp hi
    · exact hi.1.elim
  · exact hi.1.elim
end CL4
