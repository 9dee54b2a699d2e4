/-! ===== call by call: strokes, likelihood, spoilt ===== -/
section X4
variable {S S' : Nat → Int32} {n w h nl np nw nr : Nat} {L : Nat → Nat} {su : Nat → Int32} {sA : Nat → Nat → Int32}
theorem WS.ext (H : WS S nl np nw nr) (h1 : ∀ j, j < 183 → S' j = S j) (h2 : ∀ k, k < nl → S' (207 + k) = S (207 + k)) : WS S' nl np nw nr := by
  obtain ⟨⟨a1, a2⟩, ⟨b1, b2⟩, ⟨c1, c2⟩, ⟨d1, d2⟩, e, f, g⟩ := H
  refine ⟨⟨(h1 3 (by omega)).trans a1, a2⟩, ⟨(h1 4 (by omega)).trans b1, b2⟩, ⟨(h1 5 (by omega)).trans c1, c2⟩, ⟨(h1 6 (by omega)).trans d1, d2⟩, fun r hr => ?_, fun x hx => ?_, fun k hk => ?_⟩
  · rw [h1 _ (by omega), h1 _ (by omega)]; exact e r hr
  · obtain ⟨l, l1, l6, el, hl⟩ := f x hx
    exact ⟨l, l1, l6, (h1 _ (by omega)).trans el, fun i hi => by rw [h1 _ (by omega)]; exact hl i hi⟩
  · rw [h2 k hk]; exact g k hk
theorem runP_ext {q r : Nat} (h1 : ∀ j, j < 183 → S' j = S j) (hr : r < 4) : runP S' q r ↔ runP S q r := by unfold runP; rw [h1 _ (by omega), h1 _ (by omega)]
theorem runM_ext {q : Nat} (h1 : ∀ j, j < 183 → S' j = S j) (hr : nr ≤ 4) : runM S' nr q = runM S nr q := fst1_ext (fun r hr' => runP_ext h1 (by omega))
theorem DJ.ext (hr : nr ≤ 4) (H : DJ S nr) (h1 : ∀ j, j < 183 → S' j = S j) : DJ S' nr := fun r q hr' hq => by
  rw [runM_ext h1 hr]; exact H r q hr' ((runP_ext h1 (by omega)).mp hq)
/-- the script does not know of hands and twos -/
theorem CSc.ext (C : CSc S nl np nw nr w h su sA) (h1 : ∀ j, j < 183 → S' j = S j) (h2 : ∀ k, k < 10 → S' (207 + k) = S (207 + k)) : CSc S' nl np nw nr w h su sA := by
  have hr := C.ws.2.2.2.1.2
  have hl := C.ws.1.2
  have hp := C.ws.2.1.2
  have hw := C.ws.2.2.1.2
  have hj := C.dj
  have hW := C.ws
  obtain ⟨-, -, c3, c4, c5, c6, c7, c8⟩ := C
  refine ⟨hW.ext h1 (fun k hk => h2 k (by omega)), DJ.ext hr hj h1, c3, fun k hk => ?_, fun q hq => ?_, fun x hx => ?_, fun r hr' => ?_, fun k hk => ?_⟩
  · obtain ⟨a, b, e⟩ := c4 k hk
    exact ⟨a.trans (by show S (55 + 2 * k) + 96 = S' (55 + 2 * k) + 96; rw [h1 _ (by omega)]), b.trans (by show S (55 + 2 * k + 1) = S' (55 + 2 * k + 1); rw [h1 _ (by omega)]), e.trans (h2 k (by omega)).symm⟩
  · rw [h1 _ (by omega), h1 _ (by omega), runM_ext h1 hr]; exact c5 q hq
  · obtain ⟨a, b⟩ := c6 x hx
    refine ⟨a.trans (h1 _ (by omega)).symm, fun l el l6 i hi => ?_⟩
    rw [h1 _ (by omega)] at el
    rw [b l el l6 i hi, sV11 (by omega), sV11 (by omega), h1 _ (by omega)]
  · rw [h1 _ (by omega), h1 _ (by omega)]; exact c7 r hr'
  · rw [h1 _ (by omega)]; exact c8 k hk
end X4
section S4
variable {X : HM} {EV : Nat → Value} {d : Nat} {B t m : Nat} {hm hm1 hm2 : HM} {hs : Nat} {V V' : Nat → Nat → Int32} {AA AA' : Nat → Nat → Nat → Int32} {R R' : Nat → Int64} {u u' : Nat → Int32} {A A' : Nat → Nat → Int32} {RM RM' : Nat → Int64} {n w h nl np nw nr : Nat} {L : Nat → Nat} {pa pb qa qb : Nat}
theorem st_likelihood {r k : Int32} (hI : INV B t m hm hs) : PR X EV (d + 19) 142 241 [.ref t, .int r, .int k] [.ref m, .int r, .int k] hm hs (KI32 B t m) := by
  obtain ⟨g, pa, pb, qa, qb, V, AA, R, u, A, RM, n, w, h, L, nl, np, nw, nr, hW, hM, c⟩ := hI
  have hp8 := c.sc.ws.2.1.2
  have hr4 := c.sc.ws.2.2.2.1.2
  have hw12 := c.sc.ws.2.2.1.2
  have hl10 := c.sc.ws.1.2
  have hrun : ∀ i f l, i < nr → AA 2 12 i = nI f → AA 2 13 i = nI l → f < 2 ^ 31 → l < 2 ^ 31 → A 0 (175 + 2 * i) = nI f ∧ A 0 (175 + 2 * i + 1) = nI l ∧ f + l ≤ np ∧ l ≤ 6 := fun i f l hi ef el hf hl => by
    have ef' : A 0 (175 + 2 * i) = nI f := (c.sc.2.2.2.2.2.2.1 i hi).1.symm.trans ef
    have el' : A 0 (175 + 2 * i + 1) = nI l := (c.sc.2.2.2.2.2.2.1 i hi).2.symm.trans el
    obtain ⟨f', l', e1, e2, h1, h2, h3⟩ := c.sc.ws.2.2.2.2.1 i hi
    rw [ef', nI_eq (by omega) (by omega)] at e1
    rw [el', nI_eq (by omega) (by omega)] at e2
    exact ⟨ef', el', by omega, by omega⟩
  unfold PR
  refine c_likelihood hW c.sz c.c8 (wtc c) (fun x hx l e hl i hi => ?_) (fun K r f l j hK hr hj ef el h8 hl6 hf i hi => ?_) (fun h0 => ⟨_, rfl, ?_⟩) (fun i j f l hi hj e ek ef el h8 hl6 hm1 V1 AA1 hW1 k1 z1 r1 s1 => ⟨_, rfl, ?_⟩)
  · obtain ⟨t, a, b, e1, -⟩ := ltc c hx e hl hi
    exact ⟨t, a, e1⟩
  · obtain ⟨ef', el', hfl, -⟩ := hrun r f l hr ef el (by omega) (by omega)
    have iff1 := wfc c hK (F := ftM (A 0) L n nl) (fun _ _ => rfl) hr hj ef' el' hfl hl6
    obtain ⟨t, b1, b2, b3, b4⟩ := ltc c hj (hf.1.trans el) hl6 hi
    have := sur_in (i := i) c.sc.ws c.sc.dj hr hj ef' el' (by omega) hl6 (iff1.mp hf) hi
    rw [(c.pg.sight c.sc hK (show f + i < np by omega)).2.2, b3]
    rw [b4] at this; exact this
  · exact m_likelihood hM c.mz c.sc.dj (fun _ hm2 u2 A2 hM2 k2 s2 => ⟨rfl, ⟨_, rfl⟩, f0 g hW c hM2 k2.ki s2⟩) (fun i j f l hi hj e ek => absurd ⟨nix (by omega) hi e, nix (by omega) hj ek⟩ h0)
  · obtain ⟨ef', el', hfl, -⟩ := hrun i f l hi ef el (by omega) (by omega)
    refine m_likelihood (g.mo hM s1) c.mz c.sc.dj (fun h0 => absurd ⟨nix (by omega) hi e, nix (by omega) hj ek⟩ h0) (fun i' j' f' l' a1 b1 a2 b2 a3 a4 a5 a6 hm2 u2 A2 hM2 k2 s2 => ⟨?_, ⟨_, rfl⟩, f8 g hW1 c k1 (fun _ => r1) s1 hM2 k2.ki s2⟩)
    have e1 : i' = i := by rw [e] at a2; exact ((nI_eq (by omega) (by omega)).mp a2).symm
    have e2 : j' = j := by rw [ek] at b2; exact ((nI_eq (by omega) (by omega)).mp b2).symm
    subst e1; subst e2
    rw [ef', nI_eq (by omega) (by omega)] at a3
    rw [el', nI_eq (by omega) (by omega)] at a4
    subst a3; subst a4
    have iff1 := wfc c r1 (F := ftM (A 0) L n nl) (fun _ _ => rfl) hi hj ef' el' a5 hl6
    by_cases hf : wfP (AA 2) (AA1 8 2) i' f l j'
    · have h10 : AA 2 10 j' = nI l := hf.1.trans el
      rw [if_pos hf, if_pos (iff1.mp hf), lkB_ext (fun k hk => (c.sc.2.2.2.1 k hk).2.2) (fun i hi => (c.pg.sight c.sc r1 (show f + i < np by omega)).2.2) (fun i hi => ?_) (fun i hi => ?_) l (Nat.le_refl _)]
      · obtain ⟨t, b1, b2, b3, b4⟩ := ltc c hj h10 hl6 hi
        show (AA 2 11 (6 * j' + i)).toNatClampNeg = (sV (A 0) 11 (6 * j' + i)).toNatClampNeg
        rw [b3, b4]
      · obtain ⟨t, b1, b2, b3, b4⟩ := ltc c hj h10 hl6 hi
        show (AA 2 11 (6 * j' + i)).toNatClampNeg < nl
        rw [b3, nI_clamp (by omega)]; exact b1
    · rw [if_neg hf, if_neg (fun z => hf (iff1.mpr z))]
theorem st_spoilt {k z : Int32} (hI : INV B t m hm hs) : PR X EV (d + 19) 143 252 [.ref t, .int k, .int z] [.ref m, .int k, .int z] hm hs (KI32 B t m) := by
  obtain ⟨g, pa, pb, qa, qb, V, AA, R, u, A, RM, n, w, h, L, nl, np, nw, nr, hW, hM, c⟩ := hI
  have hn := c.pg.n12
  unfold PR
  refine c_spoilt hW c.sz (fun h0 => ⟨_, rfl, ?_⟩) (fun h0 h1 h2 => ⟨_, rfl, ?_⟩) (fun i hi e hz => ⟨_, rfl, ?_⟩)
  · exact m_spoilt hM c.mz (fun _ hm2 u2 A2 hM2 k2 s2 => ⟨rfl, ⟨_, rfl⟩, f0 g hW c hM2 k2.ki s2⟩) (fun h => absurd h h0) (fun i hi e => absurd (nix (by omega) hi e) h0)
  · have hno : ¬ (0 ≤ z ∧ z ≤ 1) := fun q => by
      obtain ⟨x, hx, rfl⟩ := ixle (n := 1) (by omega) q.1 q.2
      rcases (show x = 0 ∨ x = 1 by omega) with e | e <;> subst e
      · exact h1 rfl
      · exact h2 rfl
    exact m_spoilt hM c.mz (fun h => absurd h0 h) (fun _ _ hm2 u2 A2 hM2 k2 s2 => ⟨rfl, ⟨_, rfl⟩, f0 g hW c hM2 k2.ki s2⟩) (fun i hi e h => absurd h hno)
  · have h01 : 0 ≤ z ∧ z ≤ 1 := by rcases hz with e | e <;> (rw [e]; decide)
    refine m_spoilt hM c.mz (fun h0 => absurd (nix (by omega) hi e) h0) (fun _ h => absurd h01 h) (fun i' hi' e' _ S' eS hm2 u2 A2 hM2 k2 s2 => ⟨?_, ⟨_, rfl⟩, f0 g hW c hM2 k2.ki s2⟩)
    have e1 : i' = i := by rw [e] at e'; exact ((nI_eq (by omega) (by omega)).mp e').symm
    subst e1
    have hv : z = -1 ∨ z = 0 ∨ z = 1 := .inr hz
    have way := hand_way c.pg.g hi c.pg.hm c.pg.clo hv
    by_cases hw : wyM S' n = 0
    · rw [if_pos hw, if_pos (way.mpr (eS ▸ hw))]
    · rw [if_neg hw, if_neg (fun q => hw (eS ▸ way.mp q))]
      have hT' : TBn S' n := fun k hk x h1 h2 => by rw [eS, pk_un (by omega)]; exact c.pg.g.tb k hk x h1 h2
      have hG' : GS S' n := ⟨hn, hT', fun k hk q => c.pg.g.ac k hk ((ovr_ext (fun k hk j hj => by show bt (S' (195 + k)) j = _; rw [eS, pk_un (by omega)]) hk).mp q), fun k hk => by
          rw [eS]
          by_cases e : k = i'
          · subst e; rw [pk_us]; rcases hz with e | e <;> (rw [e]; decide)
          · rw [pk_un (by omega)]; exact c.pg.g.hv k hk, (wy_pos hn hT').mp hw⟩
      have H' := c.pg.hnd (pu' := upd (upd (V 0) 4 (if z = 0 then (V 0 4 &&& (sb i' ^^^ (-1))) ||| sb i' else V 0 4 &&& (sb i' ^^^ (-1)))) 5 (if z = 1 then (V 0 5 &&& (sb i' ^^^ (-1))) ||| sb i' else V 0 5 &&& (sb i' ^^^ (-1)))) hi hv (eS ▸ hG') rfl rfl (fun s h4 h5 => by rw [pk_un h5, pk_un h4])
      rw [← eS] at H'
      have C' : CSc S' nl np nw nr w h (V 2) (AA 2) := c.sc.ext (fun j hj => by rw [eS, pk_un (by omega)]) (fun k hk => by rw [eS, pk_un (by omega)])
      have elo : (if z = 0 then V 0 4 ||| sb i' else V 0 4 &&& (sb i' ^^^ (-1))) = (if z = 0 then (V 0 4 &&& (sb i' ^^^ (-1))) ||| sb i' else V 0 4 &&& (sb i' ^^^ (-1))) := by
        by_cases e : z = 0
        · rw [if_pos e, if_pos e]
          apply b_ext
          intro j hj
          rw [b_or, b_or, b_and, b_xor, b_m1 j hj]
          cases bt (V 0 4) j <;> cases bt (sb i') j <;> rfl
        · rw [if_neg e, if_neg e]
      rw [elo, cfs_sum (G := ftM (A 0) L n nl) np (fun q hq => ?_), cfs_sum (G := ftM S' L n nl) np (fun q hq => ?_)]
      · obtain ⟨e7, e8, -, x, y, hx, hy, ex, ey⟩ := C'.2.2.2.2.1 q hq
        rw [e7, e8, ex, ey]
        obtain ⟨l1, l2, -⟩ := look_sh (pu := V 0) (pA := AA 0) (sc := 0) (no := -1) H'.g H'.w24 H'.h12 H'.sk H'.ce H'.bl H'.hm c.pg.u0 c.pg.u1 rfl rfl hx hy ex ey (.inl ⟨rfl, rfl⟩)
        exact fit_eq l1 l2 (fun k hk => (C'.2.2.2.1 k hk).2.1)
      · obtain ⟨l1, l2, -⟩ := c.pg.look c.sc hq (.inl ⟨rfl, rfl⟩)
        exact fit_eq l1 l2 (fun k hk => (c.sc.2.2.2.1 k hk).2.1)
theorem st_stroke {k wh : Int32} (hI : INV B t m hm hs) : PR X EV (d + 19) 112 205 [.ref t, .int k, .int wh] [.ref m, .int k, .int wh] hm hs (KI32 B t m) := by
  obtain ⟨g, pa, pb, qa, qb, V, AA, R, u, A, RM, n, w, h, L, nl, np, nw, nr, hW, hM, c⟩ := hI
  have hn := c.pg.n12
  obtain ⟨rk1, rk2⟩ := rkk_12 c.pg.g
  unfold PR
  refine c_stroke hW c.sz (fun h0 => ⟨_, rfl, ?_⟩) (fun i hi e => ⟨_, rfl, ?_⟩)
  · exact m_stroke hM c.pg.s2 hn c.pg.sk.ln rk1 rk2 (fun _ hm2 u2 A2 hM2 k2 s2 => ⟨rfl, ⟨_, rfl⟩, f0 g hW c hM2 k2.ki s2⟩) (fun i x hi _ e => absurd (nix (by omega) hi e) h0)
  · refine m_stroke hM c.pg.s2 hn c.pg.sk.ln rk1 rk2 (fun h0 hm2 u2 A2 hM2 k2 s2 => ⟨?_, ⟨_, rfl⟩, f0 g hW c hM2 k2.ki s2⟩) (fun i' x hi' hx e' ew hm2 u2 A2 hM2 k2 s2 => ⟨?_, ⟨_, rfl⟩, f0 g hW c hM2 k2.ki s2⟩)
    · have hno : ¬ (0 ≤ wh ∧ wh ≤ 9) := fun z => h0 ⟨nix (by omega) hi e, z⟩
      rw [if_neg (fun z => hno (by rw [z]; decide)), if_neg (fun z => hno (by rw [z]; decide)), if_neg (fun z => hno (by rw [z]; decide)), if_neg (fun z => hno (by rw [z]; decide)), if_neg (fun z => hno (by rw [z]; decide)), if_neg (fun z => hno (by rw [z]; decide)), if_neg (fun z => hno (by rw [z]; decide)), if_neg (fun z => hno (by rw [z]; decide)), if_neg (fun z => hno (by rw [z]; decide)), if_neg (fun z => hno (by rw [z]; decide))]
    · have e1 : i' = i := by rw [e] at e'; exact ((nI_eq (by omega) (by omega)).mp e').symm
      subst e1
      obtain ⟨t1, t2, t3, t4⟩ := c.pg.st i' hi
      have hmk := c.pg.hm i' (by omega)
      have E4 : (if bt (V 0 4) i' = true then 0 else if bt (V 0 5) i' = true then 1 else -1) + 1 = A 0 (183 + i') := by
        rcases c.pg.g.hv i' hi with q | q | q
        · rw [if_neg (fun z => by rw [(hmk.1.mp z).2] at q; exact absurd q (by decide)), if_neg (fun z => by rw [(hmk.2.mp z).2] at q; exact absurd q (by decide)), q]; rfl
        · rw [if_pos (hmk.1.mpr ⟨hi, q⟩), q]; rfl
        · rw [if_neg (fun z => by rw [(hmk.1.mp z).2] at q; exact absurd q (by decide)), if_pos (hmk.2.mpr ⟨hi, q⟩), q]; rfl
      have hlo : (¬ V 0 4 &&& (AA 0 13 i' ||| sb i') = 0) ↔ lwM (A 0) n i' = wyM (A 0) n := by
        rw [must_lo hn c.pg.g.tb c.pg.g.co hi, b_meet]
        constructor
        · rintro ⟨x, hx, h1, h2⟩
          obtain ⟨xn, x1⟩ := (c.pg.hm x hx).1.mp h1
          rw [b_or, Bool.or_eq_true, b_sb (by omega) hx, decide_eq_true_eq] at h2
          rcases h2 with h2 | h2
          · exact .inr ⟨x, xn, x1, ((c.pg.clo i' hi x hx).2.mp h2).2⟩
          · subst h2; exact .inl x1
        · rintro (h1 | ⟨x, xn, x1, x2⟩)
          · exact ⟨i', by omega, hmk.1.mpr ⟨hi, h1⟩, by rw [b_or, Bool.or_eq_true, b_sb (by omega) (by omega), decide_eq_true_eq]; exact .inr rfl⟩
          · exact ⟨x, by omega, (c.pg.hm x (by omega)).1.mpr ⟨xn, x1⟩, by rw [b_or, Bool.or_eq_true]; exact .inl ((c.pg.clo i' hi x (by omega)).2.mpr ⟨xn, x2⟩)⟩
      have hup : (¬ V 0 5 &&& (AA 0 12 i' ||| sb i') = 0) ↔ lwM (A 0) n i' = 0 := by
        rw [must_up hn c.pg.g.tb c.pg.g.co hi, b_meet]
        constructor
        · rintro ⟨x, hx, h1, h2⟩
          obtain ⟨xn, x1⟩ := (c.pg.hm x hx).2.mp h1
          rw [b_or, Bool.or_eq_true, b_sb (by omega) hx, decide_eq_true_eq] at h2
          rcases h2 with h2 | h2
          · exact .inr ⟨x, xn, x1, ((c.pg.clo i' hi x hx).1.mp h2).2⟩
          · subst h2; exact .inl x1
        · rintro (h1 | ⟨x, xn, x1, x2⟩)
          · exact ⟨i', by omega, hmk.2.mpr ⟨hi, h1⟩, by rw [b_or, Bool.or_eq_true, b_sb (by omega) (by omega), decide_eq_true_eq]; exact .inr rfl⟩
          · exact ⟨x, by omega, (c.pg.hm x (by omega)).2.mpr ⟨xn, x1⟩, by rw [b_or, Bool.or_eq_true]; exact .inl ((c.pg.clo i' hi x (by omega)).1.mpr ⟨xn, x2⟩)⟩
      have E5 : (if ¬ V 0 4 &&& (AA 0 13 i' ||| sb i') = 0 then 0 else if ¬ V 0 5 &&& (AA 0 12 i' ||| sb i') = 0 then 1 else 2) = (if lwM (A 0) n i' = wyM (A 0) n then (0 : Int32) else if lwM (A 0) n i' = 0 then 1 else 2) := by
        by_cases h1 : lwM (A 0) n i' = wyM (A 0) n
        · rw [if_pos h1, if_pos (hlo.mpr h1)]
        · rw [if_neg h1, if_neg (fun z => h1 (hlo.mp z))]
          by_cases h2 : lwM (A 0) n i' = 0
          · rw [if_pos h2, if_pos (hup.mpr h2)]
          · rw [if_neg h2, if_neg (fun z => h2 (hup.mp z))]
      rw [E4, E5, e_layer c.pg.g c.pg.bl hi, c.pg.cr i' hi, c.pg.bl i' hi, c.pg.ab i' hi, t1, t2, t3, t4, ew]
      rcases (show x = 0 ∨ x = 1 ∨ x = 2 ∨ x = 3 ∨ x = 4 ∨ x = 5 ∨ x = 6 ∨ x = 7 ∨ x = 8 ∨ x = 9 by omega) with e | e | e | e | e | e | e | e | e | e <;> subst e <;> rfl
end S4
