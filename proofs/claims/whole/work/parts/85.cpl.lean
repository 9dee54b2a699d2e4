/-! ===== the coupling of a page and a script with the model's array ===== -/
def CPg (S : Nat → Int32) (n w h : Nat) (L : Nat → Nat) (pu : Nat → Int32) (pA : Nat → Nat → Int32) : Prop :=
  (pu 0 = nI w ∧ S 0 = nI w ∧ 3 ≤ w ∧ w ≤ 24) ∧ (pu 1 = nI h ∧ S 1 = nI h ∧ 3 ≤ h ∧ h ≤ 12) ∧ (pu 2 = nI n ∧ S 2 = nI n) ∧ GS S n ∧ pu 3 = sumI (fun k => pcnt (S (195 + k))) n ∧ HMk S n (pu 4) (pu 5) ∧ SKs S L n w h ∧
  (∀ k, k < n → pA 6 k = S (7 + 4 * k) ∧ pA 7 k = S (7 + 4 * k + 1) ∧ pA 8 k = S (7 + 4 * k + 2) ∧ pA 9 k = S (7 + 4 * k + 3)) ∧ (∀ k, k < n → pA 10 k = acc (fun o => k ≠ o ∧ cmn S L k o ≠ -1) n) ∧ (∀ k, k < n → pA 11 k = S (195 + k)) ∧
  (∀ k, k < n → ∀ i, 12 ≤ i → i < 32 → bt (pA 11 k) i = false) ∧ CLO (tT S) n (pA 12) (pA 13) ∧ CLs S L n (pA 14)
def CSc (S : Nat → Int32) (nl np nw nr w h : Nat) (su : Nat → Int32) (sA : Nat → Nat → Int32) : Prop :=
  WS S nl np nw nr ∧ DJ S nr ∧ (su 0 = nI nl ∧ su 1 = nI np ∧ su 2 = nI nw ∧ su 3 = nI nr) ∧ (∀ k, k < nl → sA 4 k = sV S 4 k ∧ sA 5 k = sV S 5 k ∧ sA 6 k = sV S 6 k) ∧
  (∀ q, q < np → sA 7 q = S (75 + 2 * q) ∧ sA 8 q = S (75 + 2 * q + 1) ∧ sA 9 q = runM S nr q ∧ ∃ x y, x + 2 < w ∧ y + 2 < h ∧ S (75 + 2 * q) = nI x ∧ S (75 + 2 * q + 1) = nI y) ∧
  (∀ x, x < nw → sA 10 x = S (91 + 7 * x) ∧ ∀ l, S (91 + 7 * x) = nI l → l ≤ 6 → ∀ i, i < l → sA 11 (6 * x + i) = sV S 11 (6 * x + i)) ∧
  (∀ r, r < nr → sA 12 r = S (175 + 2 * r) ∧ sA 13 r = S (175 + 2 * r + 1)) ∧ (∀ k, k < nl → ∃ v, 1 ≤ v ∧ v ≤ 26 ∧ S (55 + 2 * k) = nI v)
section CP
variable {S : Nat → Int32} {n w h nl np nw nr : Nat} {L : Nat → Nat} {pu su : Nat → Int32} {pA sA : Nat → Nat → Int32}
theorem CPg.u0 (H : CPg S n w h L pu pA) : pu 0 = nI w := H.1.1
theorem CPg.w24 (H : CPg S n w h L pu pA) : w ≤ 24 := H.1.2.2.2
theorem CPg.u1 (H : CPg S n w h L pu pA) : pu 1 = nI h := H.2.1.1
theorem CPg.h12 (H : CPg S n w h L pu pA) : h ≤ 12 := H.2.1.2.2.2
theorem CPg.u2 (H : CPg S n w h L pu pA) : pu 2 = nI n := H.2.2.1.1
theorem CPg.s2 (H : CPg S n w h L pu pA) : S 2 = nI n := H.2.2.1.2
theorem CPg.g (H : CPg S n w h L pu pA) : GS S n := H.2.2.2.1
theorem CPg.u3 (H : CPg S n w h L pu pA) : pu 3 = sumI (fun k => pcnt (S (195 + k))) n := H.2.2.2.2.1
theorem CPg.hm (H : CPg S n w h L pu pA) : HMk S n (pu 4) (pu 5) := H.2.2.2.2.2.1
theorem CPg.sk (H : CPg S n w h L pu pA) : SKs S L n w h := H.2.2.2.2.2.2.1
theorem CPg.st (H : CPg S n w h L pu pA) : ∀ k, k < n → pA 6 k = S (7 + 4 * k) ∧ pA 7 k = S (7 + 4 * k + 1) ∧ pA 8 k = S (7 + 4 * k + 2) ∧ pA 9 k = S (7 + 4 * k + 3) := H.2.2.2.2.2.2.2.1
theorem CPg.cr (H : CPg S n w h L pu pA) : ∀ k, k < n → pA 10 k = acc (fun o => k ≠ o ∧ cmn S L k o ≠ -1) n := H.2.2.2.2.2.2.2.2.1
theorem CPg.td (H : CPg S n w h L pu pA) : ∀ k, k < n → pA 11 k = S (195 + k) := H.2.2.2.2.2.2.2.2.2.1
theorem CPg.hi (H : CPg S n w h L pu pA) : ∀ k, k < n → ∀ i, 12 ≤ i → i < 32 → bt (pA 11 k) i = false := H.2.2.2.2.2.2.2.2.2.2.1
theorem CPg.clo (H : CPg S n w h L pu pA) : CLO (tT S) n (pA 12) (pA 13) := H.2.2.2.2.2.2.2.2.2.2.2.1
theorem CPg.ce (H : CPg S n w h L pu pA) : CLs S L n (pA 14) := H.2.2.2.2.2.2.2.2.2.2.2.2
theorem CPg.n12 (H : CPg S n w h L pu pA) : n ≤ 12 := H.g.n12
theorem CPg.bl (H : CPg S n w h L pu pA) : ∀ k, k < n → pA 12 k = cl S n k := (H.clo.of H.n12 H.g.tb).1
theorem CPg.ab (H : CPg S n w h L pu pA) : ∀ k, k < n → pA 13 k = acc (fun o => bt (cl S n o) k = true) n := (H.clo.of H.n12 H.g.tb).2
theorem CPg.mz (H : CPg S n w h L pu pA) (hW : WS S nl np nw nr) : MZ S n w h nl np nw nr L := ⟨⟨H.1.2.1, H.w24⟩, ⟨H.2.1.2.1, H.h12⟩, ⟨H.s2, H.n12⟩, H.sk.ln, hW⟩
theorem CSc.ws (C : CSc S nl np nw nr w h su sA) : WS S nl np nw nr := C.1
theorem CSc.dj (C : CSc S nl np nw nr w h su sA) : DJ S nr := C.2.1
/-- the class's script is in order -/
theorem CSc.scw (C : CSc S nl np nw nr w h su sA) : scW su sA np nw nr := by
  obtain ⟨hW, hD, ⟨u0, u1, u2, u3⟩, c1, c2, c3, c4, -⟩ := C
  obtain ⟨⟨-, hl10⟩, ⟨-, hp8⟩, ⟨-, hw12⟩, ⟨-, hr4⟩, hR, hWd, -⟩ := hW
  refine ⟨⟨u1, hp8⟩, ⟨u2, hw12⟩, ⟨u3, hr4⟩, fun r hr => ?_, fun x hx => ?_, fun q hq => ?_⟩
  · obtain ⟨f, l, e1, e2, h1, h2, h3⟩ := hR r hr
    exact ⟨f, l, (c4 r hr).1.trans e1, (c4 r hr).2.trans e2, by omega, h3⟩
  · obtain ⟨l, h1, h2, e1, h3⟩ := hWd x hx
    refine ⟨l, h2, (c3 x hx).1.trans e1, fun i hi => ?_⟩
    obtain ⟨t, ht, et⟩ := h3 i hi
    refine ⟨t, by omega, ?_⟩
    rw [(c3 x hx).2 l e1 h2 i hi, sV11 (by omega)]; exact et
  · have e := (c2 q hq).2.2.1
    rcases fst1_cases (runP S q) nr with e1 | ⟨r, hr, e1, hrp⟩
    · exact .inl (e.trans e1)
    · obtain ⟨f, l, ef, el, h1, h2, h3⟩ := hR r hr
      unfold runP at hrp
      rw [ef, el, nI_clamp (by omega), nI_clamp (by omega)] at hrp
      exact .inr ⟨r, f, l, hr, e.trans e1, (c4 r hr).1.trans ef, (c4 r hr).2.trans el, hrp.1, hrp.2, by omega, h3⟩
theorem sz_of {V : Nat → Nat → Int32} {AA : Nat → Nat → Nat → Int32} (H : CPg S n w h L (V 0) (AA 0)) (C : CSc S nl np nw nr w h (V 2) (AA 2)) : SZ V AA n w h nl np nw nr :=
  ⟨⟨H.u0, H.w24⟩, ⟨H.u1, H.h12⟩, ⟨H.u2, H.n12⟩, ⟨C.2.2.1.1, C.ws.1.2⟩, C.scw⟩
/-- a look at a place -/
theorem look_f {lo up sc no : Int32} {bl ce : Nat → Int32} {a b i : Nat} (hG : GS S n) (hw : w ≤ 24) (hh : h ≤ 12) (hS : SKs S L n w h) (hC : CLs S L n ce) (hb : ∀ k, k < n → bl k = cl S n k) (hH : HMk S n lo up) (e0 : pu 0 = nI w) (e1 : pu 1 = nI h) (ec : pA 14 = ce) (ha : a + 2 < w) (hb2 : b + 2 < h) (hi : i < 9)
    (hsc : (sc = 0 ∧ no = -1) ∨ ∃ s, s < n ∧ sc = sb s ∧ no = nI s) : seenv bl n (sAt pu pA (nI a + nI (i % 3)) (nI b + nI (i / 3)) &&& (sc ^^^ (-1))) (mlow lo bl n) = senM S L n (nI a + nI (i % 3)) (nI b + nI (i / 3)) no := by
  have h3 : i % 3 < 3 := Nat.mod_lt _ (by omega)
  have h4 : i / 3 < 3 := by omega
  rw [nI_add, nI_add]
  refine e_seen hG hb hH ?_
  have eat : sAt pu pA (nI (a + i % 3)) (nI (b + i / 3)) = ce ((b + i / 3) * 24 + (a + i % 3)) := by
    unfold sAt
    rw [e0, e1, if_pos ⟨⟨nI_pos' (by omega), nI_lt (by omega) (by omega)⟩, ⟨nI_pos' (by omega), nI_lt (by omega) (by omega)⟩⟩, ec, show (24 : Int32) = nI 24 from rfl, pk_mul, nI_add, nI_clamp (by omega)]
  rw [eat]
  rcases hsc with ⟨e, e'⟩ | ⟨s, hs, e, e'⟩
  · rw [e, e', show ((0 : Int32) ^^^ (-1)) = -1 from rfl]
    have : ∀ x : Int32, x &&& (-1) = x := fun x => b_ext (fun i hi => by rw [b_and, b_m1 i hi, Bool.and_true])
    rw [this]
    exact at_thr hG.n12 hw hh hS hC (by omega) (by omega)
  · rw [e, e']
    exact at_scr hG.n12 hw hh hS hC (by omega) (by omega) hs
theorem look_sh {lo up sc no : Int32} {bl ce : Nat → Int32} {q a b : Nat} (hG : GS S n) (hw : w ≤ 24) (hh : h ≤ 12) (hS : SKs S L n w h) (hC : CLs S L n ce) (hb : ∀ k, k < n → bl k = cl S n k) (hH : HMk S n lo up) (e0 : pu 0 = nI w) (e1 : pu 1 = nI h) (ec : pA 14 = ce) (ebl : pA 12 = bl) (ha : a + 2 < w) (hb2 : b + 2 < h) (ea : S (75 + 2 * q) = nI a) (eb : S (75 + 2 * q + 1) = nI b)
    (hsc : (sc = 0 ∧ no = -1) ∨ ∃ s, s < n ∧ sc = sb s ∧ no = nI s) :
    emv (lkP pu pA n (nI a) (nI b) (mlow lo bl n) sc) = shwM S L n q 0 no ∧ shv (lkP pu pA n (nI a) (nI b) (mlow lo bl n) sc) = shwM S L n q 1 no ∧ hdv (lkP pu pA n (nI a) (nI b) (mlow lo bl n) sc) = shwM S L n q 2 no := by
  have key := fun i hi => look_f (pu := pu) (pA := pA) (i := i) hG hw hh hS hC hb hH e0 e1 ec ha hb2 hi hsc
  unfold lkP shwM
  rw [ebl, ea, eb]
  refine ⟨?_, ?_, ?_⟩
  · rw [lk_em]; exact acc_ext (fun i hi => by rw [key i hi])
  · rw [lk_sh]; exact acc_ext (fun i hi => by rw [key i hi])
  · rw [lk_hd (fun i hi => by rw [key i hi]; exact senM_val)]; exact acc_ext (fun i hi => by rw [key i hi])
theorem fit_eq {look no : Int32} {fm : Nat → Int32} {q : Nat} (h1 : emv look = shwM S L n q 0 no) (h2 : shv look = shwM S L n q 1 no) (hf : ∀ k, k < nl → fm k = sV S 5 k) : fitv fm look nl = fitM S L n nl q no := by
  unfold fitv fitM
  refine acc_ext (fun k hk => ?_)
  rw [h1, h2, hf k hk]
  have comm : ∀ x y : Int32, x &&& y = y &&& x := fun x y => b_ext (fun i hi => by rw [b_and, b_and, Bool.and_comm])
  show (S (55 + 2 * k + 1) &&& _ = 0 ∧ _ &&& (S (55 + 2 * k + 1) ^^^ (-1)) = 0) ↔ _
  rw [comm (S (55 + 2 * k + 1)) (shwM S L n q 0 no)]
  exact ⟨fun z => ⟨z.2, z.1⟩, fun z => ⟨z.2, z.1⟩⟩
theorem CPg.look (H : CPg S n w h L pu pA) (C : CSc S nl np nw nr w h su sA) {q : Nat} (hq : q < np) {sc no : Int32} (hsc : (sc = 0 ∧ no = -1) ∨ ∃ s, s < n ∧ sc = sb s ∧ no = nI s) :
    emv (lkP pu pA n (sA 7 q) (sA 8 q) (mlow (pu 4) (pA 12) n) sc) = shwM S L n q 0 no ∧ shv (lkP pu pA n (sA 7 q) (sA 8 q) (mlow (pu 4) (pA 12) n) sc) = shwM S L n q 1 no ∧ hdv (lkP pu pA n (sA 7 q) (sA 8 q) (mlow (pu 4) (pA 12) n) sc) = shwM S L n q 2 no := by
  obtain ⟨e7, e8, -, x, y, hx, hy, ex, ey⟩ := C.2.2.2.2.1 q hq
  rw [e7, e8, ex, ey]
  exact look_sh (pu := pu) (pA := pA) H.g H.w24 H.h12 H.sk H.ce H.bl H.hm H.u0 H.u1 rfl rfl hx hy ex ey hsc
/-- what is kept of the looks -/
theorem CPg.sight (H : CPg S n w h L pu pA) (C : CSc S nl np nw nr w h su sA) {K : Nat → Nat → Int32} (hK : siR pu pA sA n nl np nw nr K) {q : Nat} (hq : q < np) :
    (emv (K 1 q) = shwM S L n q 0 (-1) ∧ shv (K 1 q) = shwM S L n q 1 (-1) ∧ hdv (K 1 q) = shwM S L n q 2 (-1)) ∧ K 2 q = ftM S L n nl q ∧ K 3 q = surM S (ftM S L n nl) nw nr q := by
  obtain ⟨k1, k2, k3⟩ := hK
  have hl := H.look C hq (sc := 0) (no := -1) (.inl ⟨rfl, rfl⟩)
  have k2' : ∀ q, q < np → K 2 q = ftM S L n nl q := by
    intro q hq
    have hl := H.look C hq (sc := 0) (no := -1) (.inl ⟨rfl, rfl⟩)
    rw [k2 q hq, k1 q hq]
    exact fit_eq hl.1 hl.2.1 (fun k hk => (C.2.2.2.1 k hk).2.1)
  refine ⟨by rw [k1 q hq]; exact hl, k2' q hq, ?_⟩
  obtain ⟨h1, h2⟩ := k3 q hq
  have e9 := (C.2.2.2.2.1 q hq).2.2.1
  have hp8 := C.ws.2.1.2
  have hr4 := C.ws.2.2.2.1.2
  unfold surM
  rcases fst1_cases (runP S q) nr with e | ⟨r, hr, e, hrp⟩
  · have e : runM S nr q = -1 := e
    rw [e, if_pos rfl, h1 (e9.trans e)]; exact k2' q hq
  · have e : runM S nr q = nI r := e
    obtain ⟨f, l, ef, el, g1, g2, g3⟩ := C.ws.2.2.2.2.1 r hr
    unfold runP at hrp
    rw [ef, el, nI_clamp (by omega), nI_clamp (by omega)] at hrp
    obtain ⟨c12, c13⟩ := C.2.2.2.2.2.2.1 r hr
    rw [e, if_neg (nI_nm1 (by omega)), nI_clamp (by omega), h2 r f l hr (e9.trans e) (c12.trans ef) (c13.trans el) hrp.1 hrp.2 (by omega) g3]
    unfold surR
    rw [ef, el, nI_clamp (by omega), nI_clamp (by omega)]
    refine lowv_ext (fun x hx => (C.2.2.2.2.2.1 x hx).1) c13 (fun x hx ex i hi => ?_) (fun i hi => k2' _ (by omega)) hrp.1 hrp.2 nw (Nat.le_refl nw)
    have ex2 : S (91 + 7 * x) = nI l := ((C.2.2.2.2.2.1 x hx).1.symm.trans ex).trans (c13.trans el)
    exact (C.2.2.2.2.2.1 x hx).2 l ex2 g3 i hi
theorem CPg.common (H : CPg S n w h L pu pA) {i j c l : Nat} (hi : i < n) (hj : j < n) (hc : c < 4) (hl : l ≤ 9) (ec : pA 8 i = nI c) (el : pA 9 i = nI l) :
    fstv (fun k => bt (sAt pu pA (pA 6 i + mstX (nI c) * nI k) (pA 7 i + mstY (nI c) * nI k)) j = true) (fun k => 100 * (pA 7 i + mstY (nI c) * nI k) + (pA 6 i + mstX (nI c) * nI k)) l = cmn S L i j := by
  obtain ⟨x, y, c', hs⟩ := H.sk i hi
  obtain ⟨x', y', c'', hs'⟩ := H.sk j hj
  obtain ⟨e6, e7, e8, e9⟩ := H.st i hi
  have hn := H.n12
  have hw := H.w24
  have hh := H.h12
  have hLl : L i = l := by
    have e4 := hs.2.2.2.2.2.2.2.2.2
    rw [e9, e4, nI_eq (by have := hs.2.2.2.2.1; omega) (by omega)] at el; exact el
  have ecS : S (7 + 4 * i + 2) = nI c := e8.symm.trans ec
  have exx : ∀ k : Nat, pA 6 i + mstX (nI c) * nI k = mX S i (nI k) := fun k => by unfold mX; rw [e6, ecS, Int32.mul_comm]
  have eyy : ∀ k : Nat, pA 7 i + mstY (nI c) * nI k = mY S i (nI k) := fun k => by unfold mY; rw [e7, ecS, Int32.mul_comm]
  unfold cmn
  rw [← hLl]
  refine fstv_ext (fun k hk => ?_) (fun k hk => ?_)
  · rw [exx k, eyy k]
    obtain ⟨a, b, h1, h2, h3, h4, h5⟩ := cell_xy hw hh hs hk
    rw [h3, h4]
    have eat : sAt pu pA (nI a) (nI b) = pA 14 (b * 24 + a) := by
      unfold sAt
      rw [H.u0, H.u1, if_pos ⟨⟨nI_pos' (by omega), nI_lt (by omega) (by omega)⟩, ⟨nI_pos' (by omega), nI_lt (by omega) (by omega)⟩⟩, show (24 : Int32) = nI 24 from rfl, pk_mul, nI_add, nI_clamp (by omega)]
    rw [eat, H.ce _ (by omega) j (by omega), ← cov_iff hw hh hs' h1 h2]
    exact ⟨fun z => z.2, fun z => ⟨hj, z⟩⟩
  · rw [exx k, eyy k]
end CP
