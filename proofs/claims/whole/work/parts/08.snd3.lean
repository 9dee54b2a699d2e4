/-! ===== cells made, calls, ends; the whole ===== -/
section CL3
variable {D : va_G} {X : HM} {EV : Nat → Value} {B ci nL mc ms : Nat} {rt : Option FieldType} {ini : Bool} {cc : ByteArray} {p : Program} {l : Launch} {e : Env} {R : Room} {s : State} {m : MethodId} {args : Array Value} {below : List Frame} {meth : Method} {c : Code} {Qw : State → Prop}
variable {C : CT} {Q : QT} {pc n : Nat} {ls st : List Value} {cu su : Nat} {hm : HM} {hs : Nat}
theorem cl_aastore (K : im_ctx D X EV B ci nL mc ms ini cc p R s m args meth c)  (hd : decode cc pc = .ok (.aastore, n)) (hi : im_in C Q (im_ws D B nL p l e R s m args below meth c Qw) (im_ins X EV ci mc ms rt ini pc ls st cu su hm hs (.aastore) n)) : (im_ws D B nL p l e R s m args below meth c Qw) (pc, ls, st, cu, su, hm, hs) := by
  obtain ⟨hx, hb, hml, hown, hts, hF, hRc, hRs, hini, hB, hfr, hlo⟩ := K
  have hj0 := im_len hi
  clear hi
  obtain ⟨rfl, hi⟩ := hj0
  unfold i_aast at hi
  split at hi
  · rename_i v j a r
    split at hi
    · rename_i C0 nn f cv vs hrd hrv
      obtain ⟨⟨hin, hcv, hcn⟩, hi⟩ := hi
      intro H locs lsA hR hS hz hl
      obtain ⟨h0, cA, h1, h2, h3⟩ := hR _ _ hrd
      obtain ⟨hlt, cellV, g1, g2, g3, -⟩ := im_obj (hR v _ hrv).2
      obtain ⟨h7, h8⟩ := im_inb hin (Nat.le_refl nn)
      have hcls := (hF.1 cv _ (im_clx cv hlt)).2
      have h3' := h3
      obtain ⟨kA, comp, k1, k2, k3, -⟩ := h3
      have hcomp : comp = D.1 cv := by rw [← hcn] at k3; exact Option.some.inj (k3.symm.trans hcls.1)
      subst hcomp
      obtain ⟨kC, hkC, -⟩ := hcls.2
      refine W.aast hx hb h1 (fun q h => by cases h) (fun h => by cases h) k1 k2 rfl hkC ⟨fun q => h7 (Or.inl q), by show _ < (arrV _ _ _).slots.size; rw [arrV_size]; exact h8⟩ g1 (fun q h => by rw [g3] at h; cases h) (by rw [g2]; exact hkC) (by rw [g2]; exact va_assign hcls) rfl rfl hd fun H1 e1 z1 o1 => ?_
      refine hi H1 _ lsA (hR.up h0 ⟨cA, ?_, h2, h3'⟩ (fun q _ hq => o1 q hq)) (im_S.set hS z1 o1 h0) (by rw [z1]; exact hz) hl
      rw [e1, vp_cell_q, vp_cell_q, arrV_store]
      congr 2
      funext q
      by_cases hq : q = j.toNatClampNeg
      · subst hq
        simp [updV, va_up, va_rf]
      · simp [updV, va_up, hq]
    · exact hi.1.elim
  · exact hi.1.elim
theorem im_zero_cell {at' : ArrayType} {cA : ClassId} {N : Nat} {H : Heap} {a : Nat} (h3 : at' = .int ∨ at' = .long ∨ at' = .byte) (h : H[a]? = some (arrV cA N (fun _ => defaultValue (newarray.typeOf at')))) (h1 : ArrOfT s cA (newarray.typeOf at')) (h2 : s.vm.findClass ("[" ++ (newarray.typeOf at').toString) = some cA) : im_cell D s a (im_zero (newarray.typeOf at') N) H := by
  rcases h3 with rfl | rfl | rfl
  · exact ⟨cA, h, h1, h2⟩
  · exact ⟨cA, h, h1, h2⟩
  · exact ⟨cA, h, h1, h2⟩
theorem im_arw {at' : ArrayType} (h3 : at' = .int ∨ at' = .long ∨ at' = .byte) : Cond.arrayClass (newarray.typeOf at') ∈ lw_g := by
  rcases h3 with rfl | rfl | rfl
  · exact im_tbl im_arI
  · exact im_tbl im_arL
  · exact im_tbl im_arB
theorem im_cby {at' : ArrayType} (h3 : at' = .int ∨ at' = .long ∨ at' = .byte) {N : Nat} (hN : N ≤ 100000) : N * componentBytes (newarray.typeOf at') ≤ 536870912 := by
  have : componentBytes (newarray.typeOf at') ≤ 8 := by
    rcases h3 with rfl | rfl | rfl <;> decide
  calc N * componentBytes (newarray.typeOf at') ≤ 100000 * 8 := Nat.mul_le_mul hN this
    _ ≤ 536870912 := by decide
theorem cl_newarray (K : im_ctx D X EV B ci nL mc ms ini cc p R s m args meth c) {t : ArrayType} (hd : decode cc pc = .ok (.newarray t, n)) (hi : im_in C Q (im_ws D B nL p l e R s m args below meth c Qw) (im_ins X EV ci mc ms rt ini pc ls st cu su hm hs (.newarray t) n)) : (im_ws D B nL p l e R s m args below meth c Qw) (pc, ls, st, cu, su, hm, hs) := by
  obtain ⟨hx, hb, hml, hown, hts, hF, hRc, hRs, hini, hB, hfr, hlo⟩ := K
  have hj0 := im_len hi
  clear hi
  obtain ⟨rfl, hi⟩ := hj0
  unfold i_newa at hi
  split at hi
  · rename_i k r
    obtain ⟨⟨hk, hN, hc, hsl, h3⟩, hi⟩ := hi
    intro H locs lsA hR hS hz hl
    refine va_newaK hx hb (hts _ (im_arw h3)) rfl hd rfl hk rfl (im_cby h3 hN) (Nat.le_trans hc hRc) (Nat.le_trans hsl hRs) hz fun H1 cA e1 z1 o1 hAr hNm => ?_
    have hB2 : B ≤ hs := by have := hS.1; omega
    refine hi H1 _ lsA (hR.up hB2 (im_zero_cell h3 e1 hAr hNm) (fun q hq _ => o1 q (by omega))) (im_S.push hS (by omega) (fun q hq => o1 q (by omega))) (by omega) hl
  · exact hi.1.elim
theorem im_nspec {ci idx cj p1 p2 p3 : Nat} (h : im_new ci idx = some (cj, p1, p2, p3)) : cj < 11 ∧ Cond.classLink (im_cn ci) idx (im_cn cj) ∈ lw_g ∧ Cond.instantiable (im_cn cj) (im_N cj) ∈ lw_g ∧ Cond.initialized (im_cn cj) ∈ lw_g := by
  have h1 := List.all_eq_true.mp im_ntab_ok _ (im_look_spec h)
  simp only [im_nchk, Bool.and_eq_true, decide_eq_true_eq] at h1
  exact ⟨h1.1.1.1, im_tbl h1.1.1.2, im_tbl h1.1.2, im_tbl h1.2⟩
theorem cl_anewarray (K : im_ctx D X EV B ci nL mc ms ini cc p R s m args meth c) {idx : Nat} (hd : decode cc pc = .ok (.anewarray idx, n)) (hi : im_in C Q (im_ws D B nL p l e R s m args below meth c Qw) (im_ins X EV ci mc ms rt ini pc ls st cu su hm hs (.anewarray idx) n)) : (im_ws D B nL p l e R s m args below meth c Qw) (pc, ls, st, cu, su, hm, hs) := by
  obtain ⟨hx, hb, hml, hown, hts, hF, hRc, hRs, hini, hB, hfr, hlo⟩ := K
  have hj0 := im_len hi
  clear hi
  obtain ⟨rfl, hi⟩ := hj0
  unfold i_anew at hi
  split at hi
  · rename_i k r
    split at hi
    · rename_i cj p1 p2 p3 hn
      obtain ⟨⟨rfl, hk, hN, hc, hsl⟩, hi⟩ := hi
      obtain ⟨-, hw, -, -⟩ := im_nspec hn
      intro H locs lsA hR hS hz hl
      refine W.anew hx hb hown (hts _ hw) (va_AO.use hF.2.2.2.2.1) rfl hd rfl hk (by omega) (Nat.le_trans hc hRc) (Nat.le_trans hsl hRs) fun cA kA comp q1 q2 q3 q4 => ?_
      have hB2 : B ≤ hs := by have := hS.1; omega
      subst hz
      refine hi _ _ lsA (hR.up hB2 ⟨cA, ?_, ?_, kA, comp, q2, q3, q4, q1⟩ (fun q hq _ => by rw [Array.getElem?_push, if_neg (Nat.ne_of_lt hq)])) (im_S.push hS (by simp) (fun q hq => by rw [Array.getElem?_push, if_neg (Nat.ne_of_lt hq)])) (by simp) hl
      · rw [Array.getElem?_push, if_pos rfl, vp_cell_q, arrV_new]
        rfl
      · intro n0 z0
        exact ⟨fun _ h => (by cases h), kA, q2, comp, q3⟩
    · exact hi.1.elim
  · exact hi.1.elim
theorem cl_new (K : im_ctx D X EV B ci nL mc ms ini cc p R s m args meth c) {idx : Nat} (hd : decode cc pc = .ok (.new idx, n)) (hi : im_in C Q (im_ws D B nL p l e R s m args below meth c Qw) (im_ins X EV ci mc ms rt ini pc ls st cu su hm hs (.new idx) n)) : (im_ws D B nL p l e R s m args below meth c Qw) (pc, ls, st, cu, su, hm, hs) := by
  obtain ⟨hx, hb, hml, hown, hts, hF, hRc, hRs, hini, hB, hfr, hlo⟩ := K
  have hj0 := im_len hi
  clear hi
  obtain ⟨rfl, hi⟩ := hj0
  unfold i_new at hi
  split at hi
  · rename_i cj p1 p2 p3 hn
    obtain ⟨⟨hc, hsl⟩, hi⟩ := hi
    obtain ⟨hlt, hw1, hw2, hw3⟩ := im_nspec hn
    intro H locs lsA hR hS hz hl
    have hKn := hF.1 cj _ (im_clx cj hlt)
    refine W.newcK hx hb hown (hts _ hw1) (hts _ hw2) (hts _ hw3) rfl hd (Nat.le_trans hc hRc) (Nat.le_trans hsl hRs) hKn.2.1 hz fun H1 kC hkC e1 z1 o1 => ?_
    have hB2 : B ≤ hs := by have := hS.1; omega
    refine hi H1 _ lsA (hR.up hB2 ⟨_, im_clx cj hlt, ?_⟩ (fun q hq _ => o1 q (by omega))) (im_S.push hS (by omega) (fun q hq => o1 q (by omega))) (by omega) hl
    refine (u_born (im_ty cj) hts (im_inX cj hlt) hKn hkC e1 (im_tyk cj hlt)).to (fun j hj => ?_)
    show defaultValue (im_ty cj j) = (im_dfs cj).getD j .null
    unfold im_dfs
    rw [List.getD_eq_getElem?_getD, List.getElem?_map, List.getElem?_range hj]
    rfl
  · exact hi.1.elim
theorem im_sum4 : ∀ {r : List Value}, r.length ≤ 4 → (r.map fun v => v.category).sum ≤ 8 := by
  intro r h
  have : ∀ r : List Value, (r.map fun v => v.category).sum ≤ 2 * r.length := by
    intro r
    induction r with
    | nil => simp
    | cons v r ih =>
      have hv : v.category ≤ 2 := by cases v <;> simp [Value.category]
      simp only [List.map_cons, List.sum_cons, List.length_cons]
      omega
  have := this r
  omega
theorem im_kspec {ci idx kd y n p1 p2 p3 : Nat} (h : im_mtd ci idx = some (kd, y, n, p1, p2, p3)) : im_kchk (ci, idx, kd, y, n, p1, p2, p3) = true := List.all_eq_true.mp im_mtab_ok _ (im_look_spec h)
theorem cl_copy (K : im_ctx D X EV B ci nL mc ms ini cc p R s m args meth c) {idx y nn p1 p2 p3 : Nat} (hk : im_mtd ci idx = some (6, y, nn, p1, p2, p3)) (hd : decode cc pc = .ok (.invokestatic idx, 3)) (hi : im_in C Q (im_ws D B nL p l e R s m args below meth c Qw) (i_copy pc ls st cu su hm hs)) : (im_ws D B nL p l e R s m args below meth c Qw) (pc, ls, st, cu, su, hm, hs) := by
  obtain ⟨hx, hb, hml, hown, hts, hF, hRc, hRs, hini, hB, hfr, hlo⟩ := K
  have hq := im_kspec hk
  simp only [im_kchk, Bool.and_eq_true, decide_eq_true_eq] at hq
  have hw1 := hts _ (im_tbl hq.1.1.1)
  have hw2 := hts _ (im_tbl hq.1.1.2)
  have hw3 := hts _ (im_tbl hq.1.2)
  unfold i_copy at hi
  split at hi
  · rename_i n dp b sp a r
    split at hi
    · rename_i n0 f n1 g ha hb1
      obtain ⟨⟨⟨h1, h2, h3⟩, h4, h5, h6⟩, hi⟩ := hi
      intro H locs lsA hR hS hz hl
      obtain ⟨-, c0, hc0, hA0, -⟩ := hR _ _ ha
      obtain ⟨hBb, c1, hc1, hA1, hA1'⟩ := hR _ _ hb1
      have nn : ∀ z : Int32, ¬ z < 0 → z.toInt = (z.toNatClampNeg : Int) := by
        intro z hz
        have hz0 : (0 : Int) ≤ z.toInt := by
          have := Int32.not_lt.mp hz
          simpa using Int32.le_iff_toInt_le.mp this
        show z.toInt = ((z.toInt.toNat : Nat) : Int)
        omega
      intro T hT XX
      obtain ⟨-, k0, hk0, cm0, hkk0⟩ := hA0 n0 (fun j => .int (f j))
      obtain ⟨-, k1, hk1, cm1, hkk1⟩ := hA1 n1 (fun j => .int (g j))
      obtain ⟨vm', X', step⟩ := XX.arraycopy hx hown hw1 hw2 hw3 (hts _ (im_tbl im_iSys)) (src := a) (dst := b) (cs := vp_cell c0 (n0, .inl f)) (cd := vp_cell c1 (n1, .inl g)) (srcPos := sp) (destPos := dp) (n := n) (by rw [hT]; exact hc0) (by rw [hT]; exact hc1)
        (fun _ h => by cases h) (fun _ h => by cases h) (fun h => by cases h) (fun h => by cases h) hk0 hk1 hkk0 hkk1 (by simp [refKind]) h1 h2 h3
        (by rw [nn sp h1, nn n h3]; show ¬ _ > ((arrV c0 n0 (fun j => .int (f j))).slots.size : Int); rw [arrV_size]; omega)
        (by rw [nn dp h2, nn n h3]; show ¬ _ > ((arrV c1 n1 (fun j => .int (g j))).slots.size : Int); rw [arrV_size]; omega)
        (fun vm₁ _ i hi => by
          have e : (vp_cell c0 (n0, .inl f)).slots.getD (sp.toNatClampNeg + i) .null = .int (f (sp.toNatClampNeg + i)) := by
            show (arrV c0 n0 (fun j => .int (f j))).slots.getD _ _ = _
            rw [Array.getD_eq_getD_getElem?, arrV_read _ _ (by omega)]
            rfl
          refine ⟨?_, ?_⟩
          · rw [e]
            rfl
          · rw [e]
            exact trivial)
        (g := F0 m pc lsA (.int n :: .int dp :: .ref b :: .int sp :: .ref a :: r)) rfl (by rw [hml]; exact hl.1.1) (rest := r) rfl (by rw [hb]; exact hd) hfr (by
          have := im_sum4 h6
          have e7 : nativeFrameWords "java/lang/System" "arraycopy" 5 = 7 := by decide
          show 2 * 0 + _ + _ ≤ _
          omega)
      have e1 : copied (vp_cell c0 (n0, .inl f)) (vp_cell c1 (n1, .inl g)) sp dp n = vp_cell c1 (n1, .inl (va_cpy f g sp.toNatClampNeg dp.toNatClampNeg n.toNatClampNeg)) := va_copied (fun z => .int z) c0 c1 f g h4
      rw [e1] at X' step
      have hlb : b < H.size := (Array.getElem?_eq_some_iff.mp hc1).1
      have hheap : ((T.setVm vm').setCell b (vp_cell c1 (n1, .inl (va_cpy f g sp.toNatClampNeg dp.toNatClampNeg n.toNatClampNeg)))).heap = H.setIfInBounds b (vp_cell c1 (n1, .inl (va_cpy f g sp.toNatClampNeg dp.toNatClampNeg n.toNatClampNeg))) := by rw [← hT]; rfl
      have oq : ∀ q : Nat, q ≠ b → (H.setIfInBounds b (vp_cell c1 (n1, .inl (va_cpy f g sp.toNatClampNeg dp.toNatClampNeg n.toNatClampNeg))))[q]? = H[q]? := fun q hq => by simp [Array.getElem?_setIfInBounds, Ne.symm hq]
      obtain ⟨t, a1, b1⟩ := hi _ _ lsA (hR.up hBb ⟨c1, (show (H.setIfInBounds b _)[b]? = some _ by simp [Array.getElem?_setIfInBounds, hlb]), hA1, hA1'⟩ (fun q _ h => oq q h)) (⟨by simp; exact hS.1, fun q g1 g2 => by
          rw [oq q (fun e => g2 (by rw [e]; exact hBb))]
          exact hS.2.1 q g1 g2, fun q hq => by
          rcases List.mem_append.mp hq with h | h
          · exact hS.2.2 q h
          · obtain ⟨z, -, hz⟩ := List.mem_map.mp h
            rw [← hz]
            exact hBb⟩) (by simp; exact hz) hl _ hheap X'
      exact ⟨t, step t a1, b1⟩
    · exact hi.1.elim
  · exact hi.1.elim
theorem im_pop_spec : ∀ {n : Nat} {st as r : List Value}, im_pop n st = some (as, r) → st = as.reverse ++ r ∧ as.length = n := by
  intro n
  induction n with
  | zero =>
    intro st as r h
    simp only [im_pop, Option.some.injEq, Prod.mk.injEq] at h
    obtain ⟨rfl, rfl⟩ := h
    exact ⟨rfl, rfl⟩
  | succ n ih =>
    intro st as r h
    cases st with
    | nil => simp [im_pop] at h
    | cons v st =>
      simp only [im_pop] at h
      cases hp : im_pop n st with
      | none => rw [hp] at h; simp at h
      | some q =>
        obtain ⟨as', r'⟩ := q
        rw [hp] at h
        simp only [Option.some.injEq, Prod.mk.injEq] at h
        obtain ⟨rfl, rfl⟩ := h
        obtain ⟨h1, h2⟩ := ih hp
        exact ⟨by rw [h1]; simp, by simp [h2]⟩
/-! methods: their words, starts and ends -/
def im_wsy (r : IMM) : List Cond := Cond.code r.2.1 r.2.2.1 r.2.2.2.1 r.2.2.2.2.1 :: lw_g
def im_rm (d mc ms : Nat) : Room := { frames := d, cells := mc, slots := ms, locals := 64 * d }
def im_Pc (D : va_G) (X : HM) (EV : Nat → Value) (B : Nat) (as : List Value) (hm : HM) (hs : Nat) : Array Value → State → Prop := fun v U => v = as.toArray ∧ im_F D X EV B U U.heap ∧ im_rep D B U hm U.heap ∧ U.heap.size = hs ∧ B ≤ hs
def im_Qc (D : va_G) (B : Nat) (Q : QT) : Array Value → State → Outcome → State → Prop := fun _ st oc t => ∃ (r : Option Value) (hm : HM), oc = .returned r ∧ Q r hm t.heap.size ∧ im_rep D B t hm t.heap ∧ st.heap.size ≤ t.heap.size ∧ ∀ q : Nat, q < st.heap.size → ¬ B ≤ q → t.heap[q]? = st.heap[q]?
def im_Met (D : va_G) (X : HM) (EV : Nat → Value) (B : Nat) (l : Launch) (d : Nat) (C : CT) : Prop := ∀ (y : Nat) (r : IMM) (as : List Value) (hm : HM) (hs : Nat) (Q : QT), im_mth y = some r → C y as hm hs Q →
  Met l r.2.1 (im_wsy r) (im_rm d r.2.2.2.2.2.1 r.2.2.2.2.2.2) (im_Pc D X EV B as hm hs) (im_Qc D B Q) r.2.2.2.2.2.1 r.2.2.2.2.2.2 (fun q => B ≤ q)
theorem im_blind (D : va_G) (X : HM) (EV : Nat → Value) (B : Nat) (as : List Value) (hm : HM) (hs : Nat) : FrameBlind (im_Pc D X EV B as hm hs) := by
  intro a U g mk h
  obtain ⟨h1, h2, h3, h4, h5⟩ := h
  exact ⟨h1, im_F.same (s := U) (U := U.calling g mk a) rfl h2, im_rep.moved (u := U) (U := U.calling g mk a) (Vm.Alike.refl U.vm) h3, h4, h5⟩
theorem im_codew {y : Nat} {r : IMM} (h : im_mth y = some r) : Cond.code r.2.1 r.2.2.1 r.2.2.2.1 r.2.2.2.2.1 ∈ lw_g := by
  have h1 : Cond.code r.2.1 r.2.2.1 r.2.2.2.1 r.2.2.2.2.1 ∈ im_mths.map (fun r => Cond.code r.2.1 r.2.2.1 r.2.2.2.1 r.2.2.2.2.1) := List.mem_map.mpr ⟨r, List.mem_of_getElem? h, rfl⟩
  rw [im_codes_ok] at h1
  obtain ⟨i, -, hi⟩ := List.mem_filterMap.mp h1
  exact im_tbl hi
theorem im_mspec {y : Nat} {r : IMM} (h : im_mth y = some r) : Cond.initialized r.2.1.cls ∈ lw_g ∧ plainName r.2.1.cls = true ∧ im_cn r.1 = r.2.1.cls ∧ r.2.1.cls ≠ "java/lang/invoke/MethodHandle" ∧ r.2.1.cls ≠ "java/lang/invoke/VarHandle" ∧ r.2.2.2.1 ≤ 40 := by
  have hlt : y < im_mths.length := (List.getElem?_eq_some_iff.mp h).1
  have h2 : y < im_ipos.length := by rw [im_ilen]; exact hlt
  have hz : (r, im_ipos[y]) ∈ im_mths.zip im_ipos := by
    refine List.mem_of_getElem? (i := y) ?_
    rw [List.getElem?_zip_eq_some]
    exact ⟨h, List.getElem?_eq_getElem h2⟩
  have h1 := List.all_eq_true.mp im_mths_ok _ hz
  simp only [im_mchk, Bool.and_eq_true, decide_eq_true_eq] at h1
  exact ⟨im_tbl h1.1.1.1.1.1, h1.1.1.1.1.2, h1.1.1.1.2, h1.1.1.2, h1.1.2, h1.2⟩
theorem im_ynm {y : Nat} {r : IMM} (h : im_mth y = some r) : im_yn y = r.2.1 := by
  unfold im_yn
  rw [List.getD_eq_getElem?_getD]
  unfold im_mth at h
  rw [h]
  rfl
/-- every word of the tables goes along into a callee -/
theorem im_good : GoodIn lw_g lw_g := fun w hw => ⟨hw, good_of_word (List.mem_filter.mp hw).2⟩
theorem im_goody {y : Nat} {r : IMM} (h : im_mth y = some r) : GoodIn lw_g (im_wsy r) := by
  intro w hw
  rcases List.mem_cons.mp hw with rfl | hw
  · exact im_good _ (im_codew h)
  · exact im_good _ hw
end CL3
