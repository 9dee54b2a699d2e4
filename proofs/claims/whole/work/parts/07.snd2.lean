/-! ===== cells and calls ===== -/
theorem im_clx : ∀ cj : Nat, cj < 11 → vwCl[cj]? = some (im_cn cj, im_T cj, im_N cj) := by
  intro cj h
  match cj, h with
  | 0, _ => rfl
  | 1, _ => rfl
  | 2, _ => rfl
  | 3, _ => rfl
  | 4, _ => rfl
  | 5, _ => rfl
  | 6, _ => rfl
  | 7, _ => rfl
  | 8, _ => rfl
  | 9, _ => rfl
  | 10, _ => rfl
  | k + 11, h => exact absurd h (by omega)
theorem im_inX : ∀ cj : Nat, cj < 11 → ∀ w ∈ u_ws (im_cn cj) (im_T cj) (im_N cj), w ∈ lw_g := by
  intro cj h
  match cj, h with
  | 0, _ => exact inX0
  | 1, _ => exact inX1
  | 2, _ => exact inX2
  | 3, _ => exact inX3
  | 4, _ => exact inX4
  | 5, _ => exact inX5
  | 6, _ => exact inX6
  | 7, _ => exact inX7
  | 8, _ => exact inX8
  | 9, _ => exact inX9
  | 10, _ => exact inX10
  | k + 11, h => exact absurd h (by omega)
theorem im_nm : ∀ cj : Nat, cj < 11 → ∀ a, a < im_N cj → ∀ b, b < im_N cj → a ≠ b → (im_T cj a).2.1 ≠ (im_T cj b).2.1 := by
  intro cj h
  match cj, h with
  | 0, _ => exact nmX0
  | 1, _ => exact nmX1
  | 2, _ => exact nmX2
  | 3, _ => exact nmX3
  | 4, _ => exact nmX4
  | 5, _ => exact nmX5
  | 6, _ => exact nmX6
  | 7, _ => exact nmX7
  | 8, _ => exact nmX8
  | 9, _ => exact nmX9
  | 10, _ => exact nmX10
  | k + 11, h => exact absurd h (by omega)
theorem im_tyk : ∀ cj : Nat, cj < 11 → ∀ k, k < im_N cj → parseFieldDescriptor (im_T cj k).2.2.1 = some (im_ty cj k) := by
  intro cj h
  match cj, h with
  | 0, _ => exact tyX0_ok
  | 1, _ => exact tyX1_ok
  | 2, _ => exact tyX2_ok
  | 3, _ => exact tyX3_ok
  | 4, _ => exact tyX4_ok
  | 5, _ => exact tyX5_ok
  | 6, _ => exact tyX6_ok
  | 7, _ => exact tyX7_ok
  | 8, _ => exact tyX8_ok
  | 9, _ => exact tyX9_ok
  | 10, _ => exact tyX10_ok
  | k + 11, h => exact absurd h (by omega)
theorem im_dec : ∀ cj : Nat, cj < 11 → ∀ k, k < im_N cj → (im_T cj k).1 = im_cn cj := by decide +kernel
theorem im_cl_lt {cj : Nat} {r : vw_C} (h : vwCl[cj]? = some r) : cj < 11 := (List.getElem?_eq_some_iff.mp h).1
theorem im_obj {D : va_G} {U : State} {a cj : Nat} {fs : List Value} {H : Heap} (h : im_cell D U a (.inr (cj, fs)) H) : cj < 11 ∧ t_OB a (D.1 cj) (im_N cj) (D.2 cj) H (vp_V fs) := by
  obtain ⟨r, h1, h2⟩ := h
  have hl := im_cl_lt h1
  rw [im_clx _ hl] at h1
  cases h1
  exact ⟨hl, h2⟩
theorem im_fspec {ci idx cj k fl ps : Nat} (h : im_fld ci idx = some (cj, k, fl, ps)) : Cond.fieldLink (im_cn ci) idx (im_T cj k).1 (im_T cj k).2.1 (im_T cj k).2.2.1 ∈ lw_g ∧ k < im_N cj ∧ ((im_T cj k).2.2.2 = true ↔ fl = 1) := by
  have h1 := List.all_eq_true.mp im_ftab_ok _ (im_look_spec h)
  simp only [im_fchk, Bool.and_eq_true, decide_eq_true_eq] at h1
  refine ⟨im_tbl h1.1.1, h1.1.2, ?_⟩
  have h2 := h1.2
  cases hz : (im_T cj k).2.2.2 <;> simp_all
section CL2
variable {D : va_G} {X : HM} {EV : Nat → Value} {B ci nL mc ms : Nat} {rt : Option FieldType} {ini : Bool} {cc : ByteArray} {p : Program} {l : Launch} {e : Env} {R : Room} {s : State} {m : MethodId} {args : Array Value} {below : List Frame} {meth : Method} {c : Code} {Qw : State → Prop}
variable {C : CT} {Q : QT} {pc n : Nat} {ls st : List Value} {cu su : Nat} {hm : HM} {hs : Nat}
theorem im_rd_cases {a : Nat} {x : HC} (h : im_rd X hm a = some x) : hm a = some x ∨ (hm a = none ∧ X a = some x) := by
  unfold im_rd at h
  cases hh : hm a with
  | some y => rw [hh] at h; exact Or.inl h
  | none => rw [hh] at h; exact Or.inr ⟨rfl, h⟩
theorem cl_getfield (K : im_ctx D X EV B ci nL mc ms ini cc p R s m args meth c) {idx : Nat} (hd : decode cc pc = .ok (.getfield idx, n)) (hi : im_in C Q (im_ws D B nL p l e R s m args below meth c Qw) (im_ins X EV ci mc ms rt ini pc ls st cu su hm hs (.getfield idx) n)) : (im_ws D B nL p l e R s m args below meth c Qw) (pc, ls, st, cu, su, hm, hs) := by
  obtain ⟨hx, hb, hml, hown, hts, hF, hRc, hRs, hini, hB, hfr, hlo⟩ := K
  have hj0 := im_len hi
  clear hi
  obtain ⟨rfl, hi⟩ := hj0
  unfold i_getf at hi
  split at hi
  · rename_i a r
    split at hi
    · rename_i cj k fl ps hfl
      obtain ⟨hw, hk, -⟩ := im_fspec hfl
      split at hi
      · rename_i ck fs hrd
        split at hi
        · rename_i v hv
          obtain ⟨rfl, hi⟩ := hi
          intro H locs lsA hR hS hz hl
          rcases im_rd_cases hrd with h | ⟨-, h⟩
          · obtain ⟨h1, h2⟩ := hR a _ h
            have hlt := (im_obj h2).1
            exact va_get (D := D) (cl := vwCl) (ci := ck) (ws := [(a, .inr (ck, fs))]) (tys := []) (C := im_cn ck) (T := im_T ck) (N := im_N ck) hx hb hts (im_inX ck hlt) hown ⟨hF.1, fun k q h => by simp at h⟩ (fun k q h => by
              cases k with
              | zero => simp at h; subst h; exact h2
              | succ k => simp at h) 0 rfl (im_clx ck hlt) k hk (hts _ hw) (fun _ h => h) hv hd (hi H locs lsA hR hS hz hl)
          · obtain ⟨rfl, h2, h3⟩ := hF.2.1 a _ h
            exact vk_getf (A := fun q => B ≤ q) hx hb (h3 k v hv) hS hown (hts _ hw) (fun _ h => h) hd (hi H locs lsA hR hS hz hl)
        · exact hi.1.elim
      · exact hi.1.elim
    · exact hi.1.elim
  · exact hi.1.elim
theorem cl_putfield (K : im_ctx D X EV B ci nL mc ms ini cc p R s m args meth c) {idx : Nat} (hd : decode cc pc = .ok (.putfield idx, n)) (hi : im_in C Q (im_ws D B nL p l e R s m args below meth c Qw) (im_ins X EV ci mc ms rt ini pc ls st cu su hm hs (.putfield idx) n)) : (im_ws D B nL p l e R s m args below meth c Qw) (pc, ls, st, cu, su, hm, hs) := by
  obtain ⟨hx, hb, hml, hown, hts, hF, hRc, hRs, hini, hB, hfr, hlo⟩ := K
  have hj0 := im_len hi
  clear hi
  obtain ⟨rfl, hi⟩ := hj0
  unfold i_putf at hi
  split at hi
  · rename_i v a r
    split at hi
    · rename_i cj k fl ps hfl
      obtain ⟨hw, hk, hfin⟩ := im_fspec hfl
      split at hi
      · rename_i ck fs hrd
        obtain ⟨⟨rfl, hlen, hfit, hfl1⟩, hi⟩ := hi
        intro H locs lsA hR hS hz hl
        obtain ⟨h1, h2⟩ := hR a _ hrd
        obtain ⟨hlt, cell, q1, q2, q3, q4⟩ := im_obj h2
        have hc := im_clx ck hlt
        have hK : va_K D vwCl [] s := ⟨hF.1, fun k q h => by simp at h⟩
        have hap := va_apart (own := im_cn ci) hts (im_inX ck hlt) (im_ty ck) (im_tyk ck hlt) (im_nm ck hlt) hK hc
        obtain ⟨hSl, hfc, kC, hkC, hkind⟩ := hF.1 ck _ hc
        obtain ⟨cf, kf, fi, f, hif, hsl⟩ := hSl k hk
        have hlay := hts _ (im_inX ck hlt _ (u_in_lay hk))
        unfold u_lay at hlay
        have hst := (u_facts hfc hkC (u_lays hts (im_inX ck hlt) hk) hif).1
        have fin : ∀ H' : Heap, H'[a]? = some (cell.setSlot (D.2 ck k) v) → H'.size = H.size → (∀ q : Nat, q ≠ a → H'[q]? = H[q]?) → W p l e R s m args below meth c H' (locs ++ [⟨a, D.2 ck k⟩]) cu su Qw (F0 m (pc + 3) lsA r) := by
          intro H' e1 e2 e3
          refine hi H' _ lsA (hR.up h1 ?_ (fun q _ hq => e3 q hq)) (im_S.set hS e2 e3 h1) (by rw [e2]; exact hz) hl
          exact ⟨_, hc, t_OB.to (V := updV (vp_V fs) k v) ⟨_, e1, q2, q3, t_set q4 hap hk v⟩ (fun j _ => vp_updV_set hlen v j)⟩
        by_cases hf1 : (im_T ck k).2.2.2 = true
        · rw [if_pos hf1] at hlay
          obtain ⟨hi1, rfl⟩ := hfl1 (hfin.mp hf1)
          have hcf : m.cls = cf := by
            obtain ⟨_, _, c', _, _, _, -, -, hf', -, -, -, hown2, -⟩ := Cond.laysFinal_spec hlay
            have e1 : c' = cf := by have := hif.symm.trans hf'; simp at this; exact this.1.symm
            rw [im_dec ck hlt k hk] at hown2
            rw [← e1]; exact Option.some.inj (hown.symm.trans hown2)
          have h6 := u_fits hfc hkC hkind (Or.inr hlay) hif (im_tyk ck hlt k hk) hfit.1 hfit.2
          refine W.putFinK hx hb hown (hts _ hw) hif hst hcf (hini hi1) (by rw [q2]; exact h6) q1 q3 (by rw [hsl]; exact k2_hasslot (q4 k hk)) rfl rfl hd fun H' e1 e2 e3 => ?_
          rw [hsl] at e1 ⊢
          exact fin H' e1 e2 e3
        · rw [if_neg hf1] at hlay
          have h6 := u_store hfc hkC hkind hlay hif (im_tyk ck hlt k hk) hfit.1 hfit.2
          refine W.putK hx hb (f := f) ⟨hown, hts _ hw, ⟨_, _, _, hif⟩, hst⟩ (by rw [q2]; exact h6) q1 q3 (by rw [hsl]; exact k2_hasslot (q4 k hk)) rfl rfl hd fun H' e1 e2 e3 => ?_
          rw [hsl] at e1 ⊢
          exact fin H' e1 e2 e3
      · exact hi.1.elim
    · exact hi.1.elim
  · exact hi.1.elim
theorem im_sspec {ci idx k ne ps : Nat} (h : im_sta ci idx = some (k, ne, ps)) : k < 4 ∧ (ne = 0 → Cond.fieldLink (im_cn ci) idx (im_sn k).1 (im_sn k).2.1 (im_sn k).2.2 ∈ lw_g) ∧ (¬ ne = 0 → Cond.fieldLinkNest (im_cn ci) idx (im_sn k).1 (im_sn k).2.1 (im_sn k).2.2 "TwoHands" ∈ lw_tbl) := by
  have h1 := List.all_eq_true.mp im_stab_ok _ (im_look_spec h)
  simp only [im_schk, Bool.and_eq_true, decide_eq_true_eq] at h1
  refine ⟨h1.1, fun q => ?_, fun q => ?_⟩
  · have h2 := h1.2
    rw [if_pos q] at h2
    exact im_tbl h2
  · have h2 := h1.2
    rw [if_neg q] at h2
    exact im_tblA h2
theorem cl_getstatic (K : im_ctx D X EV B ci nL mc ms ini cc p R s m args meth c) {idx : Nat} (hd : decode cc pc = .ok (.getstatic idx, n)) (hi : im_in C Q (im_ws D B nL p l e R s m args below meth c Qw) (im_ins X EV ci mc ms rt ini pc ls st cu su hm hs (.getstatic idx) n)) : (im_ws D B nL p l e R s m args below meth c Qw) (pc, ls, st, cu, su, hm, hs) := by
  obtain ⟨hx, hb, hml, hown, hts, hF, hRc, hRs, hini, hB, hfr, hlo⟩ := K
  have hj0 := im_len hi
  clear hi
  obtain ⟨rfl, hi⟩ := hj0
  unfold i_gets at hi
  split at hi
  · rename_i k ne ps hk
    obtain ⟨h4, hw, hw'⟩ := im_sspec hk
    intro H locs lsA hR hS hz hl
    by_cases h0 : ne = 0
    · exact va_gets hx hb (hF.2.2.1 k h4) hS hown (hts _ (hw h0)) (fun _ h => h) hd (hi.2 H locs lsA hR hS hz hl)
    · exact va_getsN hx hb (hF.2.2.1 k h4) hS hown (va_Nw.use rfl (hF.2.2.2.2.2 _ (hw' h0) rfl)) (fun _ h => h) hd (hi.2 H locs lsA hR hS hz hl)
  · exact hi.1.elim
theorem im_cspec {ci idx ps : Nat} {v : Value ⊕ Nat} (h : im_cst ci idx = some (v, ps)) : (∀ z, v = .inl z → goodWord (im_cword ci idx v) = true → im_cword ci idx v ∈ lw_g) ∧ ∀ k, v = .inr k → im_txs[k - 4]? = some (ci, idx, im_tx k) ∧ 4 ≤ k := by
  have h1 := List.all_eq_true.mp im_ctab_ok _ (im_look_spec h)
  simp only [im_cchk, Bool.and_eq_true, decide_eq_true_eq] at h1
  refine ⟨fun _ _ hg => im_tbl h1.1 hg, fun k hk => ?_⟩
  subst hk
  have h2 := h1.2
  simp only [Bool.and_eq_true, decide_eq_true_eq] at h2
  exact h2
theorem cl_cst {w : Bool} {idx k : Nat} (K : im_ctx D X EV B ci nL mc ms ini cc p R s m args meth c) (hd : (decode cc pc = .ok (.ldc idx, 2) ∧ k = 2 ∧ w = false) ∨ (decode cc pc = .ok (.ldc_w idx, 3) ∧ k = 3 ∧ w = false) ∨ (decode cc pc = .ok (.ldc2_w idx, 3) ∧ k = 3 ∧ w = true))
    (hi : im_in C Q (im_ws D B nL p l e R s m args below meth c Qw) (i_cst EV ci pc ls st cu su hm hs k idx w)) : (im_ws D B nL p l e R s m args below meth c Qw) (pc, ls, st, cu, su, hm, hs) := by
  obtain ⟨hx, hb, hml, hown, hts, hF, hRc, hRs, hini, hB, hfr, hlo⟩ := K
  unfold i_cst at hi
  split at hi
  · rename_i v ps hk
    obtain ⟨hw, -⟩ := im_cspec hk
    intro H locs lsA hR hS hz hl
    rcases hd with ⟨hd, rfl, rfl⟩ | ⟨hd, rfl, rfl⟩ | ⟨hd, rfl, rfl⟩
    · exact lv_ldc hx hb hown (hts _ (hw _ rfl rfl)) hd (hi.2 H locs lsA hR hS hz hl)
    · exact lv_ldcw hx hb hown (hts _ (hw _ rfl rfl)) hd (hi.2 H locs lsA hR hS hz hl)
    · exact absurd hi.1 (by decide)
  · rename_i v ps hk
    obtain ⟨hw, -⟩ := im_cspec hk
    intro H locs lsA hR hS hz hl
    rcases hd with ⟨hd, rfl, rfl⟩ | ⟨hd, rfl, rfl⟩ | ⟨hd, rfl, rfl⟩
    · exact lv_ldcf hx hb hown (hts _ (hw _ rfl rfl)) hd (hi.2 H locs lsA hR hS hz hl)
    · exact lv_ldcwf hx hb hown (hts _ (hw _ rfl rfl)) hd (hi.2 H locs lsA hR hS hz hl)
    · exact absurd hi.1 (by decide)
  · rename_i v ps hk
    obtain ⟨hw, -⟩ := im_cspec hk
    intro H locs lsA hR hS hz hl
    rcases hd with ⟨hd, rfl, rfl⟩ | ⟨hd, rfl, rfl⟩ | ⟨hd, rfl, rfl⟩
    · exact absurd hi.1 (by decide)
    · exact absurd hi.1 (by decide)
    · exact lv_ldc2 hx hb hown (hts _ (hw _ rfl rfl)) hd (hi.2 H locs lsA hR hS hz hl)
  · rename_i j ps hk
    obtain ⟨hw, h2⟩ := im_cspec hk
    obtain ⟨h3, h4⟩ := h2 j rfl
    obtain ⟨q, h5, h6⟩ := hF.2.2.2.1 _ _ h3
    rw [show j - 4 + 4 = j by omega] at h5
    intro H locs lsA hR hS hz hl
    have hh := hi.2 H locs lsA hR hS hz hl
    rw [h5] at hh
    rcases hd with ⟨hd, rfl, rfl⟩ | ⟨hd, rfl, rfl⟩ | ⟨hd, rfl, rfl⟩
    · exact va_ldcS hx hb hown h6 hd hh
    · exact absurd hi.1.2 (by decide)
    · exact absurd hi.1.1 (by decide)
  · exact hi.1.elim
theorem im_arr {a nn : Nat} {ty : FieldType} {f : Nat → Int32} {H : Heap} {locs : List Loc} (hF : im_F D X EV B s s.heap) (hR : im_rep D B s hm H) (hS : va_S (fun q => B ≤ q) s.heap H locs) (h : im_rd X hm a = some (.inl (ty, nn, .inl f))) :
    ∃ cell : Cell, H[a]? = some cell ∧ s.isArrayOf cell ty ∧ cell.vm ≠ .unknown ∧ nn ≤ cell.slots.size ∧ cell.slots.size.toInt32 = nI nn ∧ ∀ j : Nat, j < nn → cell.slots[j]? = some (.int (f j)) := by
  rcases im_rd_cases h with h | ⟨-, h⟩
  · obtain ⟨-, cA, h1, h2, -⟩ := hR a _ h
    refine ⟨_, h1, h2 nn (fun j => .int (f j)), fun q => by (cases q), ?_, ?_, fun j hj => ?_⟩
    · show nn ≤ (arrV _ _ _).slots.size
      rw [arrV_size]
      exact Nat.le_refl _
    · show (arrV _ _ _).slots.size.toInt32 = _
      rw [arrV_size]
      rfl
    · show (arrV _ _ _).slots[j]? = _
      rw [arrV_read _ _ hj]
  · obtain ⟨cell, h1, h2, h3, h4, h5, h6, h7⟩ := hF.2.1 a _ h
    exact ⟨cell, by rw [hS.2.1 a (Array.getElem?_eq_some_iff.mp h1).1 h7]; exact h1, h2, h3, h4, h5, h6⟩
theorem im_inb {j : Int32} {nn : Nat} {N : Nat} (h : vp_in j nn) (hN : nn ≤ N) : ¬ (j < 0 ∨ N ≤ j.toNatClampNeg) ∧ j.toNatClampNeg < nn := by
  have h2 : j.toNatClampNeg < nn := Nat.not_le.mp fun q => h (Or.inr q)
  refine ⟨?_, h2⟩
  rintro (q | q)
  · exact h (Or.inl q)
  · omega
theorem cl_iaload (K : im_ctx D X EV B ci nL mc ms ini cc p R s m args meth c) (hd : decode cc pc = .ok (.iaload, n)) (hi : im_in C Q (im_ws D B nL p l e R s m args below meth c Qw) (im_ins X EV ci mc ms rt ini pc ls st cu su hm hs (.iaload) n)) : (im_ws D B nL p l e R s m args below meth c Qw) (pc, ls, st, cu, su, hm, hs) := by
  obtain ⟨hx, hb, hml, hown, hts, hF, hRc, hRs, hini, hB, hfr, hlo⟩ := K
  have hj0 := im_len hi
  clear hi
  obtain ⟨rfl, hi⟩ := hj0
  unfold i_iald at hi
  split at hi
  · split at hi
    · rename_i nn f hrd
      intro H locs lsA hR hS hz hl
      obtain ⟨cell, h1, h2, h3, h4, -, h6⟩ := im_arr hF hR hS hrd
      obtain ⟨h7, h8⟩ := im_inb hi.1 h4
      exact W.iald hx hb h1 h2 h3 h7 (h6 _ h8) rfl rfl hd (hi.2 H locs lsA hR hS hz hl)
    · exact hi.1.elim
  · exact hi.1.elim
theorem cl_baload (K : im_ctx D X EV B ci nL mc ms ini cc p R s m args meth c) (hd : decode cc pc = .ok (.baload, n)) (hi : im_in C Q (im_ws D B nL p l e R s m args below meth c Qw) (im_ins X EV ci mc ms rt ini pc ls st cu su hm hs (.baload) n)) : (im_ws D B nL p l e R s m args below meth c Qw) (pc, ls, st, cu, su, hm, hs) := by
  obtain ⟨hx, hb, hml, hown, hts, hF, hRc, hRs, hini, hB, hfr, hlo⟩ := K
  have hj0 := im_len hi
  clear hi
  obtain ⟨rfl, hi⟩ := hj0
  unfold i_bald at hi
  split at hi
  · split at hi
    · rename_i nn f hrd
      intro H locs lsA hR hS hz hl
      obtain ⟨cell, h1, h2, h3, h4, -, h6⟩ := im_arr hF hR hS hrd
      obtain ⟨h7, h8⟩ := im_inb hi.1 h4
      exact W.bald hx hb h1 h2 h3 h7 (h6 _ h8) rfl rfl hd (hi.2 H locs lsA hR hS hz hl)
    · exact hi.1.elim
  · exact hi.1.elim
theorem cl_laload (K : im_ctx D X EV B ci nL mc ms ini cc p R s m args meth c) (hd : decode cc pc = .ok (.laload, n)) (hi : im_in C Q (im_ws D B nL p l e R s m args below meth c Qw) (im_ins X EV ci mc ms rt ini pc ls st cu su hm hs (.laload) n)) : (im_ws D B nL p l e R s m args below meth c Qw) (pc, ls, st, cu, su, hm, hs) := by
  obtain ⟨hx, hb, hml, hown, hts, hF, hRc, hRs, hini, hB, hfr, hlo⟩ := K
  have hj0 := im_len hi
  clear hi
  obtain ⟨rfl, hi⟩ := hj0
  unfold i_lald at hi
  split at hi
  · split at hi
    · rename_i nn f hrd
      intro H locs lsA hR hS hz hl
      obtain ⟨-, cA, h1, h2, -⟩ := hR _ _ hrd
      obtain ⟨h7, h8⟩ := im_inb hi.1 (Nat.le_refl nn)
      exact W.lald hx hb h1 (h2 nn (fun j => .long (f j))) (fun q => by cases q) (by show ¬ (_ < 0 ∨ (arrV _ _ _).slots.size ≤ _); rw [arrV_size]; exact h7) (by show (arrV _ _ _).slots[_]? = _; rw [arrV_read _ _ h8]) rfl rfl hd (hi.2 H locs lsA hR hS hz hl)
    · exact hi.1.elim
  · exact hi.1.elim
theorem cl_aaload (K : im_ctx D X EV B ci nL mc ms ini cc p R s m args meth c) (hd : decode cc pc = .ok (.aaload, n)) (hi : im_in C Q (im_ws D B nL p l e R s m args below meth c Qw) (im_ins X EV ci mc ms rt ini pc ls st cu su hm hs (.aaload) n)) : (im_ws D B nL p l e R s m args below meth c Qw) (pc, ls, st, cu, su, hm, hs) := by
  obtain ⟨hx, hb, hml, hown, hts, hF, hRc, hRs, hini, hB, hfr, hlo⟩ := K
  have hj0 := im_len hi
  clear hi
  obtain ⟨rfl, hi⟩ := hj0
  unfold i_aald at hi
  split at hi
  · split at hi
    · rename_i C0 nn f hrd
      intro H locs lsA hR hS hz hl
      obtain ⟨-, cA, h1, h2, -⟩ := hR _ _ hrd
      obtain ⟨h7, h8⟩ := im_inb hi.1 (Nat.le_refl nn)
      exact W.aald hx hb h1 (h2 nn (fun j => va_rf (f j))) rfl (fun q => by cases q) (by show ¬ (_ < 0 ∨ (arrV _ _ _).slots.size ≤ _); rw [arrV_size]; exact h7) (by show (arrV _ _ _).slots[_]? = _; rw [arrV_read _ _ h8]) rfl rfl hd (hi.2 H locs lsA hR hS hz hl)
    · exact hi.1.elim
  · exact hi.1.elim
theorem cl_arraylength (K : im_ctx D X EV B ci nL mc ms ini cc p R s m args meth c) (hd : decode cc pc = .ok (.arraylength, n)) (hi : im_in C Q (im_ws D B nL p l e R s m args below meth c Qw) (im_ins X EV ci mc ms rt ini pc ls st cu su hm hs (.arraylength) n)) : (im_ws D B nL p l e R s m args below meth c Qw) (pc, ls, st, cu, su, hm, hs) := by
  obtain ⟨hx, hb, hml, hown, hts, hF, hRc, hRs, hini, hB, hfr, hlo⟩ := K
  have hj0 := im_len hi
  clear hi
  obtain ⟨rfl, hi⟩ := hj0
  unfold i_alen at hi
  split at hi
  · split at hi
    · rename_i ty nn x hrd
      intro H locs lsA hR hS hz hl
      rcases im_rd_cases hrd with h | ⟨-, h⟩
      · obtain ⟨-, cA, h1, h2, -⟩ := hR _ _ h
        have key : ∃ z : Nat → Value, vp_cell cA (nn, x) = arrV cA nn z := by
          rcases x with f | f | f | f | f
          · exact ⟨_, vp_cell_i cA nn f⟩
          · exact ⟨_, vp_cell_l cA nn f⟩
          · exact ⟨_, vp_cell_f cA nn f⟩
          · exact ⟨_, vp_cell_d cA nn f⟩
          · exact ⟨_, vp_cell_q cA nn f⟩
        obtain ⟨z, hz1⟩ := key
        rw [hz1] at h1
        exact W.alen hx hb h1 (h2 nn z) (by rw [arrV_size]; rfl) rfl rfl hd (hi.2 H locs lsA hR hS hz hl)
      · rcases x with f | f
        · obtain ⟨cell, h1, h2, h3, h4, h5, h6, h7⟩ := hF.2.1 _ _ h
          exact W.alen hx hb (by rw [hS.2.1 _ (Array.getElem?_eq_some_iff.mp h1).1 h7]; exact h1) h2 h5 rfl rfl hd (hi.2 H locs lsA hR hS hz hl)
        · exact (hF.2.1 _ _ h).elim
    · exact hi.1.elim
  · exact hi.1.elim
theorem cl_iastore (K : im_ctx D X EV B ci nL mc ms ini cc p R s m args meth c) (hd : decode cc pc = .ok (.iastore, n)) (hi : im_in C Q (im_ws D B nL p l e R s m args below meth c Qw) (im_ins X EV ci mc ms rt ini pc ls st cu su hm hs (.iastore) n)) : (im_ws D B nL p l e R s m args below meth c Qw) (pc, ls, st, cu, su, hm, hs) := by
  obtain ⟨hx, hb, hml, hown, hts, hF, hRc, hRs, hini, hB, hfr, hlo⟩ := K
  have hj0 := im_len hi
  clear hi
  obtain ⟨rfl, hi⟩ := hj0
  unfold i_iast at hi
  split at hi
  · rename_i x j a r
    split at hi
    · rename_i nn f hrd
      intro H locs lsA hR hS hz hl
      obtain ⟨h0, cA, h1, h2, h3⟩ := hR _ _ hrd
      obtain ⟨h7, h8⟩ := im_inb hi.1 (Nat.le_refl nn)
      refine W.iast hx hb h1 (h2 nn (fun j => .int (f j))) (fun q => by cases q) (by show ¬ (_ < 0 ∨ (arrV _ _ _).slots.size ≤ _); rw [arrV_size]; exact h7) rfl rfl hd fun H1 e1 z1 o1 => ?_
      refine hi.2 H1 _ lsA (hR.up h0 ⟨cA, ?_, h2, h3⟩ (fun q _ hq => o1 q hq)) (im_S.set hS z1 o1 h0) (by rw [z1]; exact hz) hl
      rw [e1]
      rw [vp_cell_i, vp_cell_i, arrV_store]
      congr 2
      funext k
      unfold updV upd
      split <;> rfl
    · exact hi.1.elim
  · exact hi.1.elim
theorem cl_bastore (K : im_ctx D X EV B ci nL mc ms ini cc p R s m args meth c) (hd : decode cc pc = .ok (.bastore, n)) (hi : im_in C Q (im_ws D B nL p l e R s m args below meth c Qw) (im_ins X EV ci mc ms rt ini pc ls st cu su hm hs (.bastore) n)) : (im_ws D B nL p l e R s m args below meth c Qw) (pc, ls, st, cu, su, hm, hs) := by
  obtain ⟨hx, hb, hml, hown, hts, hF, hRc, hRs, hini, hB, hfr, hlo⟩ := K
  have hj0 := im_len hi
  clear hi
  obtain ⟨rfl, hi⟩ := hj0
  unfold i_bast at hi
  split at hi
  · rename_i x j a r
    split at hi
    · rename_i nn f hrd
      intro H locs lsA hR hS hz hl
      obtain ⟨h0, cA, h1, h2, h3⟩ := hR _ _ hrd
      obtain ⟨h7, h8⟩ := im_inb hi.1 (Nat.le_refl nn)
      refine W.bast hx hb h1 (h2 nn (fun j => .int (f j))) (fun q => by cases q) (by show ¬ (_ < 0 ∨ (arrV _ _ _).slots.size ≤ _); rw [arrV_size]; exact h7) rfl rfl hd fun H1 e1 z1 o1 => ?_
      refine hi.2 H1 _ lsA (hR.up h0 ⟨cA, ?_, h2, h3⟩ (fun q _ hq => o1 q hq)) (im_S.set hS z1 o1 h0) (by rw [z1]; exact hz) hl
      rw [e1]
      rw [vp_cell_i, vp_cell_i, arrV_store]
      congr 2
      funext k
      unfold updV upd
      split <;> rfl
    · exact hi.1.elim
  · exact hi.1.elim
theorem cl_lastore (K : im_ctx D X EV B ci nL mc ms ini cc p R s m args meth c) (hd : decode cc pc = .ok (.lastore, n)) (hi : im_in C Q (im_ws D B nL p l e R s m args below meth c Qw) (im_ins X EV ci mc ms rt ini pc ls st cu su hm hs (.lastore) n)) : (im_ws D B nL p l e R s m args below meth c Qw) (pc, ls, st, cu, su, hm, hs) := by
  obtain ⟨hx, hb, hml, hown, hts, hF, hRc, hRs, hini, hB, hfr, hlo⟩ := K
  have hj0 := im_len hi
  clear hi
  obtain ⟨rfl, hi⟩ := hj0
  unfold i_last at hi
  split at hi
  · rename_i x j a r
    split at hi
    · rename_i nn f hrd
      intro H locs lsA hR hS hz hl
      obtain ⟨h0, cA, h1, h2, h3⟩ := hR _ _ hrd
      obtain ⟨h7, h8⟩ := im_inb hi.1 (Nat.le_refl nn)
      refine W.last hx hb h1 (h2 nn (fun j => .long (f j))) (fun q => by cases q) (by show ¬ (_ < 0 ∨ (arrV _ _ _).slots.size ≤ _); rw [arrV_size]; exact h7) rfl rfl hd fun H1 e1 z1 o1 => ?_
      refine hi.2 H1 _ lsA (hR.up h0 ⟨cA, ?_, h2, h3⟩ (fun q _ hq => o1 q hq)) (im_S.set hS z1 o1 h0) (by rw [z1]; exact hz) hl
      rw [e1]
      rw [vp_cell_l, vp_cell_l, arrV_store]
      congr 2
      funext k
      unfold updV vp_updL
      split <;> rfl
    · exact hi.1.elim
  · exact hi.1.elim
end CL2
