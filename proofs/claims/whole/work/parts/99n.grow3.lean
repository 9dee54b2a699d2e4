section GC
variable {S S' : Nat → Int32} {n w h nl np nw nr : Nat} {su su' : Nat → Int32} {sA sA' : Nat → Nat → Int32}
theorem runP_ex {q r : Nat} (h1 : ∀ j, 175 ≤ j → j < 183 → S' j = S j) (hr : r < 4) : runP S' q r ↔ runP S q r := by unfold runP; rw [h1 _ (by omega) (by omega), h1 _ (by omega) (by omega)]
theorem runM_ex {q : Nat} (h1 : ∀ j, 175 ≤ j → j < 183 → S' j = S j) (hr : nr ≤ 4) : runM S' nr q = runM S nr q := fst1_ext (fun r hr' => runP_ex h1 (by omega))
theorem DJ.ex (hr : nr ≤ 4) (H : DJ S nr) (h1 : ∀ j, 175 ≤ j → j < 183 → S' j = S j) : DJ S' nr := fun r q hr' hq => by
  rw [runM_ex h1 hr]; exact H r q hr' ((runP_ex h1 (by omega)).mp hq)
theorem CSc.ex (C : CSc S nl np nw nr w h su sA) (h1 : ∀ j, ((3 ≤ j ∧ j < 7) ∨ (55 ≤ j ∧ j < 183) ∨ (207 ≤ j ∧ j < 217)) → S' j = S j) : CSc S' nl np nw nr w h su sA := by
  have hr := C.ws.2.2.2.1.2
  have hl := C.ws.1.2
  have hp := C.ws.2.1.2
  have hw := C.ws.2.2.1.2
  have hj := C.dj
  have hW := C.ws
  have h2 : ∀ j, 175 ≤ j → j < 183 → S' j = S j := fun j a b => h1 j (by omega)
  obtain ⟨-, -, c3, c4, c5, c6, c7, c8⟩ := C
  refine ⟨?_, DJ.ex hr hj h2, c3, fun k hk => ?_, fun q hq => ?_, fun x hx => ?_, fun r hr' => ?_, fun k hk => ?_⟩
  · obtain ⟨⟨a1, a2⟩, ⟨b1, b2⟩, ⟨c1, c2⟩, ⟨d1, d2⟩, e, f, g⟩ := hW
    refine ⟨⟨(h1 3 (by omega)).trans a1, a2⟩, ⟨(h1 4 (by omega)).trans b1, b2⟩, ⟨(h1 5 (by omega)).trans c1, c2⟩, ⟨(h1 6 (by omega)).trans d1, d2⟩, fun r hr => ?_, fun x hx => ?_, fun k hk => ?_⟩
    · rw [h1 _ (by omega), h1 _ (by omega)]; exact e r hr
    · obtain ⟨l, l1, l6, el, hl⟩ := f x hx
      exact ⟨l, l1, l6, (h1 _ (by omega)).trans el, fun i hi => by rw [h1 _ (by omega)]; exact hl i hi⟩
    · rw [h1 _ (by omega)]; exact g k hk
  · obtain ⟨a, b, e⟩ := c4 k hk
    exact ⟨a.trans (by show S (55 + 2 * k) + 96 = S' (55 + 2 * k) + 96; rw [h1 _ (by omega)]), b.trans (by show S (55 + 2 * k + 1) = S' (55 + 2 * k + 1); rw [h1 _ (by omega)]), e.trans (h1 _ (by omega)).symm⟩
  · rw [h1 _ (by omega), h1 _ (by omega), runM_ex h2 hr]; exact c5 q hq
  · obtain ⟨a, b⟩ := c6 x hx
    refine ⟨a.trans (h1 _ (by omega)).symm, fun l el l6 i hi => ?_⟩
    rw [h1 _ (by omega)] at el
    rw [b l el l6 i hi, sV11 (by omega), sV11 (by omega), h1 _ (by omega)]
  · rw [h1 _ (by omega), h1 _ (by omega)]; exact c7 r hr'
  · rw [h1 _ (by omega)]; exact c8 k hk
/-- a page of another size, while there is no place -/
theorem CSc.pag (C : CSc S nl 0 nw nr w h su sA) {a b : Int32} {w' h' : Nat} : CSc (upd (upd S 0 a) 1 b) nl 0 nw nr w' h' su sA := by
  have C' := C.ex (S' := upd (upd S 0 a) 1 b) (fun j hj => by rw [pk_un (by omega), pk_un (by omega)])
  exact ⟨C'.1, C'.2.1, C'.2.2.1, C'.2.2.2.1, fun q hq => absurd hq (by omega), C'.2.2.2.2.2⟩
theorem CSc.let (C : CSc S nl np nw nr w h su sA) {v y : Nat} {c v1 v2 : Int32} (hn : nl < 10) (hv1 : 1 ≤ v) (hv2 : v ≤ 26) (ec : c - 96 = nI v) (hy1 : 1 ≤ y) (hy2 : y ≤ 99) (ey : v2 = nI y)
    (e4 : sA' 4 = upd (sA 4) nl c) (e5 : sA' 5 = upd (sA 5) nl v1) (e6 : sA' 6 = upd (sA 6) nl v2) (eo : ∀ k, k ≠ 4 → k ≠ 5 → k ≠ 6 → sA' k = sA k) : CSc (leS S nl (c - 96) v1 v2) (nl + 1) np nw nr w h (upd su 0 (nI nl + 1)) sA' := by
  have hr := C.ws.2.2.2.1.2
  have hp := C.ws.2.1.2
  have hw := C.ws.2.2.1.2
  have hj := C.dj
  have hW := C.ws
  have so : ∀ j, j ≠ 55 + 2 * nl → j ≠ 55 + 2 * nl + 1 → j ≠ 207 + nl → j ≠ 3 → leS S nl (c - 96) v1 v2 j = S j := fun j a b e f => by unfold leS; rw [pk_un f, pk_un e, pk_un b, pk_un a]
  have s0 : leS S nl (c - 96) v1 v2 (55 + 2 * nl) = c - 96 := by unfold leS; rw [pk_un (by omega), pk_un (by omega), pk_un (by omega), pk_us]
  have s1 : leS S nl (c - 96) v1 v2 (55 + 2 * nl + 1) = v1 := by unfold leS; rw [pk_un (by omega), pk_un (by omega), pk_us]
  have s2 : leS S nl (c - 96) v1 v2 (207 + nl) = v2 := by unfold leS; rw [pk_un (by omega), pk_us]
  have s3 : leS S nl (c - 96) v1 v2 3 = nI (nl + 1) := by unfold leS; rw [pk_us]
  generalize leS S nl (c - 96) v1 v2 = S' at so s0 s1 s2 s3 ⊢
  have h2 : ∀ j, 175 ≤ j → j < 183 → S' j = S j := fun j a b => so j (by omega) (by omega) (by omega) (by omega)
  obtain ⟨-, -, ⟨u0, u1, u2, u3⟩, c4, c5, c6, c7, c8⟩ := C
  refine ⟨?_, DJ.ex hr hj h2, ⟨by rw [pk_us]; exact nI_add nl 1, by rw [pk_un (by omega)]; exact u1, by rw [pk_un (by omega)]; exact u2, by rw [pk_un (by omega)]; exact u3⟩, fun k hk => ?_, fun q hq => ?_, fun x hx => ?_, fun r hr' => ?_, fun k hk => ?_⟩
  · obtain ⟨⟨a1, a2⟩, ⟨b1, b2⟩, ⟨c1, c2⟩, ⟨d1, d2⟩, e, f, g⟩ := hW
    refine ⟨⟨s3, by omega⟩, ⟨(so 4 (by omega) (by omega) (by omega) (by omega)).trans b1, b2⟩, ⟨(so 5 (by omega) (by omega) (by omega) (by omega)).trans c1, c2⟩, ⟨(so 6 (by omega) (by omega) (by omega) (by omega)).trans d1, d2⟩, fun r hr => ?_, fun x hx => ?_, fun k hk => ?_⟩
    · rw [h2 _ (by omega) (by omega), h2 _ (by omega) (by omega)]; exact e r hr
    · obtain ⟨l, l1, l6, el, hl⟩ := f x hx
      refine ⟨l, l1, l6, (so _ (by omega) (by omega) (by omega) (by omega)).trans el, fun i hi => ?_⟩
      obtain ⟨t, ht, et⟩ := hl i hi
      exact ⟨t, by omega, (so _ (by omega) (by omega) (by omega) (by omega)).trans et⟩
    · by_cases ek : k = nl
      · rw [ek, s2]; exact ⟨y, hy1, hy2, ey⟩
      · rw [so _ (by omega) (by omega) (by omega) (by omega)]; exact g k (by omega)
  · rw [e4, e5, e6]
    by_cases ek : k = nl
    · rw [ek, pk_us, pk_us, pk_us]
      refine ⟨?_, ?_, ?_⟩
      · show c = S' (55 + 2 * nl) + 96; rw [s0]; grind
      · show v1 = S' (55 + 2 * nl + 1); rw [s1]
      · show v2 = S' (207 + nl); rw [s2]
    · rw [pk_un ek, pk_un ek, pk_un ek]
      obtain ⟨a, b, e⟩ := c4 k (by omega)
      exact ⟨a.trans (by show S (55 + 2 * k) + 96 = S' (55 + 2 * k) + 96; rw [so _ (by omega) (by omega) (by omega) (by omega)]), b.trans (by show S (55 + 2 * k + 1) = S' (55 + 2 * k + 1); rw [so _ (by omega) (by omega) (by omega) (by omega)]), e.trans (so _ (by omega) (by omega) (by omega) (by omega)).symm⟩
  · rw [so _ (by omega) (by omega) (by omega) (by omega), so _ (by omega) (by omega) (by omega) (by omega), runM_ex h2 hr, eo 7 (by decide) (by decide) (by decide), eo 8 (by decide) (by decide) (by decide), eo 9 (by decide) (by decide) (by decide)]; exact c5 q hq
  · obtain ⟨a, b⟩ := c6 x hx
    rw [eo 10 (by decide) (by decide) (by decide), eo 11 (by decide) (by decide) (by decide)]
    refine ⟨a.trans (so _ (by omega) (by omega) (by omega) (by omega)).symm, fun l el l6 i hi => ?_⟩
    rw [so _ (by omega) (by omega) (by omega) (by omega)] at el
    rw [b l el l6 i hi, sV11 (by omega), sV11 (by omega), so _ (by omega) (by omega) (by omega) (by omega)]
  · rw [h2 _ (by omega) (by omega), h2 _ (by omega) (by omega), eo 12 (by decide) (by decide) (by decide), eo 13 (by decide) (by decide) (by decide)]; exact c7 r hr'
  · by_cases ek : k = nl
    · rw [ek, s0]; exact ⟨v, hv1, hv2, ec⟩
    · rw [so _ (by omega) (by omega) (by omega) (by omega)]; exact c8 k (by omega)
theorem CSc.pla (C : CSc S nl np nw nr w h su sA) {x y : Nat} {v1 v2 : Int32} (hn : np < 8) (hx : x + 2 < w) (hy : y + 2 < h) (e1 : v1 = nI x) (e2 : v2 = nI y)
    (e7 : sA' 7 = upd (sA 7) np v1) (e8 : sA' 8 = upd (sA 8) np v2) (e9 : sA' 9 = upd (sA 9) np (-1)) (eo : ∀ k, k ≠ 7 → k ≠ 8 → k ≠ 9 → sA' k = sA k) : CSc (plS S np v1 v2) nl (np + 1) nw nr w h (upd su 1 (nI np + 1)) sA' := by
  have hr := C.ws.2.2.2.1.2
  have hl := C.ws.1.2
  have hw := C.ws.2.2.1.2
  have hj := C.dj
  have hW := C.ws
  have so : ∀ j, j ≠ 75 + 2 * np → j ≠ 75 + 2 * np + 1 → j ≠ 4 → plS S np v1 v2 j = S j := fun j a b e => by unfold plS; rw [pk_un e, pk_un b, pk_un a]
  have s0 : plS S np v1 v2 (75 + 2 * np) = v1 := by unfold plS; rw [pk_un (by omega), pk_un (by omega), pk_us]
  have s1 : plS S np v1 v2 (75 + 2 * np + 1) = v2 := by unfold plS; rw [pk_un (by omega), pk_us]
  have s4 : plS S np v1 v2 4 = nI (np + 1) := by unfold plS; rw [pk_us]
  generalize plS S np v1 v2 = S' at so s0 s1 s4 ⊢
  have h2 : ∀ j, 175 ≤ j → j < 183 → S' j = S j := fun j a b => so j (by omega) (by omega) (by omega)
  have rn : runM S nr np = -1 := by
    rcases fst1_cases (runP S np) nr with e1 | ⟨r, hr', e1, hrp⟩
    · exact e1
    · obtain ⟨f, l, ef, el, h1, _⟩ := hW.2.2.2.2.1 r hr'
      unfold runP at hrp
      rw [ef, el, nI_clamp (by omega), nI_clamp (by omega)] at hrp
      omega
  obtain ⟨-, -, ⟨u0, u1, u2, u3⟩, c4, c5, c6, c7, c8⟩ := C
  refine ⟨?_, DJ.ex hr hj h2, ⟨by rw [pk_un (by omega)]; exact u0, by rw [pk_us]; exact nI_add np 1, by rw [pk_un (by omega)]; exact u2, by rw [pk_un (by omega)]; exact u3⟩, fun k hk => ?_, fun q hq => ?_, fun x hx => ?_, fun r hr' => ?_, fun k hk => ?_⟩
  · obtain ⟨⟨a1, a2⟩, ⟨b1, b2⟩, ⟨c1, c2⟩, ⟨d1, d2⟩, e, f, g⟩ := hW
    refine ⟨⟨(so 3 (by omega) (by omega) (by omega)).trans a1, a2⟩, ⟨s4, by omega⟩, ⟨(so 5 (by omega) (by omega) (by omega)).trans c1, c2⟩, ⟨(so 6 (by omega) (by omega) (by omega)).trans d1, d2⟩, fun r hr => ?_, fun x hx => ?_, fun k hk => ?_⟩
    · rw [h2 _ (by omega) (by omega), h2 _ (by omega) (by omega)]
      obtain ⟨f, l, z1, z2, z3, z4⟩ := e r hr
      exact ⟨f, l, z1, z2, by omega, z4⟩
    · obtain ⟨l, l1, l6, el, hl⟩ := f x hx
      exact ⟨l, l1, l6, (so _ (by omega) (by omega) (by omega)).trans el, fun i hi => by rw [so _ (by omega) (by omega) (by omega)]; exact hl i hi⟩
    · rw [so _ (by omega) (by omega) (by omega)]; exact g k hk
  · rw [eo 4 (by decide) (by decide) (by decide), eo 5 (by decide) (by decide) (by decide), eo 6 (by decide) (by decide) (by decide)]
    obtain ⟨a, b, e⟩ := c4 k hk
    exact ⟨a.trans (by show S (55 + 2 * k) + 96 = S' (55 + 2 * k) + 96; rw [so _ (by omega) (by omega) (by omega)]), b.trans (by show S (55 + 2 * k + 1) = S' (55 + 2 * k + 1); rw [so _ (by omega) (by omega) (by omega)]), e.trans (so _ (by omega) (by omega) (by omega)).symm⟩
  · rw [e7, e8, e9, runM_ex h2 hr]
    by_cases eq : q = np
    · rw [eq, pk_us, pk_us, pk_us, s0, s1]; exact ⟨rfl, rfl, rn.symm, x, y, hx, hy, e1, e2⟩
    · rw [pk_un eq, pk_un eq, pk_un eq, so _ (by omega) (by omega) (by omega), so _ (by omega) (by omega) (by omega)]; exact c5 q (by omega)
  · obtain ⟨a, b⟩ := c6 x hx
    rw [eo 10 (by decide) (by decide) (by decide), eo 11 (by decide) (by decide) (by decide)]
    refine ⟨a.trans (so _ (by omega) (by omega) (by omega)).symm, fun l el l6 i hi => ?_⟩
    rw [so _ (by omega) (by omega) (by omega)] at el
    rw [b l el l6 i hi, sV11 (by omega), sV11 (by omega), so _ (by omega) (by omega) (by omega)]
  · rw [h2 _ (by omega) (by omega), h2 _ (by omega) (by omega), eo 12 (by decide) (by decide) (by decide), eo 13 (by decide) (by decide) (by decide)]; exact c7 r hr'
  · rw [so _ (by omega) (by omega) (by omega)]; exact c8 k hk
/-- a letter by its name, in the class and in the model -/
theorem CSc.nam (C : CSc S nl np nw nr w h su sA) {c : Int32} : fst1 (fun y => sA 4 y = c) nl = lnm S nl c := fst1_ext (fun k hk => by
  rw [(C.2.2.2.1 k hk).1]
  show S (55 + 2 * k) + 96 = c ↔ S (55 + 2 * k) = c - 96
  constructor
  · intro e; rw [← e]; grind
  · intro e; rw [e]; grind)
theorem CSc.wor (C : CSc S nl np nw nr w h su sA) {T : Nat → Int32} {st z : Nat} (hn : nw < 12) (hz1 : 1 ≤ z) (hz6 : z ≤ 6) (hk : ∀ x, x < z → ¬ lnm S nl (T (st + x)) = -1) (hS : woS S S' T nl nw st z)
    (e10 : sA' 10 = upd (sA 10) nw (nI z)) (e11 : ∀ x, sA' 11 x = if 6 * nw ≤ x ∧ x < 6 * nw + z then lnm S nl (T (st + (x - 6 * nw))) else sA 11 x) (eo : ∀ k, k ≠ 10 → k ≠ 11 → sA' k = sA k) : CSc S' nl np (nw + 1) nr w h (upd su 2 (nI nw + 1)) sA' := by
  have hr := C.ws.2.2.2.1.2
  have hl := C.ws.1.2
  have hp := C.ws.2.1.2
  have hj := C.dj
  have hW := C.ws
  have so : ∀ j, j ≠ 5 → (j < 91 + 7 * nw ∨ 91 + 7 * nw + 7 ≤ j) → S' j = S j := fun j a b => by rw [hS j, if_neg a, if_neg (by omega), if_neg (by omega)]
  have s5 : S' 5 = nI (nw + 1) := by rw [hS 5, if_pos rfl]
  have s0 : S' (91 + 7 * nw) = nI z := by rw [hS, if_neg (by omega), if_pos rfl]
  have s1 : ∀ i, i < z → S' (91 + 7 * nw + 1 + i) = lnm S nl (T (st + i)) := fun i hi => by
    rw [hS, if_neg (by omega), if_neg (by omega), if_pos (by omega), show 91 + 7 * nw + 1 + i - (91 + 7 * nw + 1) = i by omega]
  have h2 : ∀ j, 175 ≤ j → j < 183 → S' j = S j := fun j a b => so j (by omega) (by omega)
  clear hS
  obtain ⟨-, -, ⟨u0, u1, u2, u3⟩, c4, c5, c6, c7, c8⟩ := C
  refine ⟨?_, DJ.ex hr hj h2, ⟨by rw [pk_un (by omega)]; exact u0, by rw [pk_un (by omega)]; exact u1, by rw [pk_us]; exact nI_add nw 1, by rw [pk_un (by omega)]; exact u3⟩, fun k hk => ?_, fun q hq => ?_, fun x hx => ?_, fun r hr' => ?_, fun k hk => ?_⟩
  · obtain ⟨⟨a1, a2⟩, ⟨b1, b2⟩, ⟨c1, c2⟩, ⟨d1, d2⟩, e, f, g⟩ := hW
    refine ⟨⟨(so 3 (by omega) (by omega)).trans a1, a2⟩, ⟨(so 4 (by omega) (by omega)).trans b1, b2⟩, ⟨s5, by omega⟩, ⟨(so 6 (by omega) (by omega)).trans d1, d2⟩, fun r hr => ?_, fun x hx => ?_, fun k hk => ?_⟩
    · rw [h2 _ (by omega) (by omega), h2 _ (by omega) (by omega)]; exact e r hr
    · by_cases ex : x = nw
      · rw [ex]
        refine ⟨z, hz1, hz6, s0, fun i hi => ?_⟩
        rw [s1 i hi]
        rcases fst1_cases (fun k => S (55 + 2 * k) = T (st + i) - 96) nl with e1 | ⟨k, hk', e1, -⟩
        · exact absurd e1 (hk i hi)
        · exact ⟨k, hk', e1⟩
      · obtain ⟨l, l1, l6, el, hl⟩ := f x (by omega)
        exact ⟨l, l1, l6, (so _ (by omega) (by omega)).trans el, fun i hi => by rw [so _ (by omega) (by omega)]; exact hl i hi⟩
    · rw [so _ (by omega) (by omega)]; exact g k hk
  · rw [eo 4 (by decide) (by decide), eo 5 (by decide) (by decide), eo 6 (by decide) (by decide)]
    obtain ⟨a, b, e⟩ := c4 k hk
    exact ⟨a.trans (by show S (55 + 2 * k) + 96 = S' (55 + 2 * k) + 96; rw [so _ (by omega) (by omega)]), b.trans (by show S (55 + 2 * k + 1) = S' (55 + 2 * k + 1); rw [so _ (by omega) (by omega)]), e.trans (so _ (by omega) (by omega)).symm⟩
  · rw [so _ (by omega) (by omega), so _ (by omega) (by omega), runM_ex h2 hr, eo 7 (by decide) (by decide), eo 8 (by decide) (by decide), eo 9 (by decide) (by decide)]; exact c5 q hq
  · rw [e10]
    by_cases ex : x = nw
    · rw [ex, pk_us, s0]
      refine ⟨rfl, fun l el l6 i hi => ?_⟩
      obtain rfl : z = l := (nI_eq (by omega) (by omega)).mp el
      rw [sV11 (by omega), s1 i hi, e11, if_pos (by omega), show 6 * nw + i - 6 * nw = i by omega]
    · obtain ⟨a, b⟩ := c6 x (by omega)
      rw [pk_un ex]
      refine ⟨a.trans (so _ (by omega) (by omega)).symm, fun l el l6 i hi => ?_⟩
      rw [so _ (by omega) (by omega)] at el
      rw [e11, if_neg (by omega), b l el l6 i hi, sV11 (by omega), sV11 (by omega), so _ (by omega) (by omega)]
  · rw [h2 _ (by omega) (by omega), h2 _ (by omega) (by omega), eo 12 (by decide) (by decide), eo 13 (by decide) (by decide)]; exact c7 r hr'
  · rw [so _ (by omega) (by omega)]; exact c8 k hk
theorem CSc.run (C : CSc S nl np nw nr w h su sA) {i l : Nat} (hn : nr < 4) (hi : i < np) (l1 : 1 ≤ l) (l6 : l ≤ 6) (hil : i + l ≤ np) (hf : ∀ x, x < l → runM S nr (i + x) = -1)
    (e12 : sA' 12 = upd (sA 12) nr (nI i)) (e13 : sA' 13 = upd (sA 13) nr (nI l)) (e9 : ∀ x, sA' 9 x = if i ≤ x ∧ x < i + l then nI nr else sA 9 x) (eo : ∀ k, k ≠ 9 → k ≠ 12 → k ≠ 13 → sA' k = sA k) : CSc (ruS S nr (nI i) (nI l)) nl np nw (nr + 1) w h (upd su 3 (nI nr + 1)) sA' := by
  have hl := C.ws.1.2
  have hp := C.ws.2.1.2
  have hw := C.ws.2.2.1.2
  have hj := C.dj
  have hW := C.ws
  have so : ∀ j, j ≠ 175 + 2 * nr → j ≠ 175 + 2 * nr + 1 → j ≠ 6 → ruS S nr (nI i) (nI l) j = S j := fun j a b e => by unfold ruS; rw [pk_un e, pk_un b, pk_un a]
  have s0 : ruS S nr (nI i) (nI l) (175 + 2 * nr) = nI i := by unfold ruS; rw [pk_un (by omega), pk_un (by omega), pk_us]
  have s1 : ruS S nr (nI i) (nI l) (175 + 2 * nr + 1) = nI l := by unfold ruS; rw [pk_un (by omega), pk_us]
  have s6 : ruS S nr (nI i) (nI l) 6 = nI (nr + 1) := by unfold ruS; rw [pk_us]
  generalize ruS S nr (nI i) (nI l) = S' at so s0 s1 s6 ⊢
  have rp : ∀ q r, r < nr → (runP S' q r ↔ runP S q r) := fun q r hr => by unfold runP; rw [so _ (by omega) (by omega) (by omega), so _ (by omega) (by omega) (by omega)]
  have rpn : ∀ q, runP S' q nr ↔ i ≤ q ∧ q < i + l := fun q => by unfold runP; rw [s0, s1, nI_clamp (by omega), nI_clamp (by omega)]
  have ro : ∀ q, fst1 (runP S' q) nr = runM S nr q := fun q => fst1_ext (fun r hr => rp q r hr)
  have rm : ∀ q, runM S' (nr + 1) q = if i ≤ q ∧ q < i + l then nI nr else runM S nr q := fun q => by
    show (if fst1 (runP S' q) nr = -1 then (if runP S' q nr then nI nr else -1) else fst1 (runP S' q) nr) = _
    rw [ro q]
    by_cases hq : i ≤ q ∧ q < i + l
    · have := hf (q - i) (by omega)
      rw [show i + (q - i) = q by omega] at this
      rw [if_pos this, if_pos ((rpn q).mpr hq), if_pos hq]
    · rw [if_neg (fun z => hq ((rpn q).mp z)), if_neg hq]
      by_cases e : runM S nr q = -1
      · rw [if_pos e, e]
      · rw [if_neg e]
  obtain ⟨-, -, ⟨u0, u1, u2, u3⟩, c4, c5, c6, c7, c8⟩ := C
  refine ⟨?_, fun r q hr hq => ?_, ⟨by rw [pk_un (by omega)]; exact u0, by rw [pk_un (by omega)]; exact u1, by rw [pk_un (by omega)]; exact u2, by rw [pk_us]; exact nI_add nr 1⟩, fun k hk => ?_, fun q hq => ?_, fun x hx => ?_, fun r hr' => ?_, fun k hk => ?_⟩
  · obtain ⟨⟨a1, a2⟩, ⟨b1, b2⟩, ⟨c1, c2⟩, ⟨d1, d2⟩, e, f, g⟩ := hW
    refine ⟨⟨(so 3 (by omega) (by omega) (by omega)).trans a1, a2⟩, ⟨(so 4 (by omega) (by omega) (by omega)).trans b1, b2⟩, ⟨(so 5 (by omega) (by omega) (by omega)).trans c1, c2⟩, ⟨s6, by omega⟩, fun r hr => ?_, fun x hx => ?_, fun k hk => ?_⟩
    · by_cases er : r = nr
      · rw [er]; exact ⟨i, l, s0, s1, hil, l1, l6⟩
      · rw [so _ (by omega) (by omega) (by omega), so _ (by omega) (by omega) (by omega)]; exact e r (by omega)
    · obtain ⟨l, l1, l6, el, hl⟩ := f x hx
      exact ⟨l, l1, l6, (so _ (by omega) (by omega) (by omega)).trans el, fun i hi => by rw [so _ (by omega) (by omega) (by omega)]; exact hl i hi⟩
    · rw [so _ (by omega) (by omega) (by omega)]; exact g k hk
  · rw [rm q]
    by_cases er : r = nr
    · rw [er] at hq
      rw [if_pos ((rpn q).mp hq), er]
    · have hq' := (rp q r (by omega)).mp hq
      have := hj r q (by omega) hq'
      by_cases hin : i ≤ q ∧ q < i + l
      · have h0 := hf (q - i) (by omega)
        rw [show i + (q - i) = q by omega, this] at h0
        exact absurd h0 (nI_nm1 (by omega))
      · rw [if_neg hin]; exact this
  · rw [eo 4 (by decide) (by decide) (by decide), eo 5 (by decide) (by decide) (by decide), eo 6 (by decide) (by decide) (by decide)]
    obtain ⟨a, b, e⟩ := c4 k hk
    exact ⟨a.trans (by show S (55 + 2 * k) + 96 = S' (55 + 2 * k) + 96; rw [so _ (by omega) (by omega) (by omega)]), b.trans (by show S (55 + 2 * k + 1) = S' (55 + 2 * k + 1); rw [so _ (by omega) (by omega) (by omega)]), e.trans (so _ (by omega) (by omega) (by omega)).symm⟩
  · rw [so _ (by omega) (by omega) (by omega), so _ (by omega) (by omega) (by omega), rm q, eo 7 (by decide) (by decide) (by decide), eo 8 (by decide) (by decide) (by decide), e9 q]
    obtain ⟨z1, z2, z3, z4⟩ := c5 q hq
    refine ⟨z1, z2, ?_, z4⟩
    by_cases hin : i ≤ q ∧ q < i + l
    · rw [if_pos hin, if_pos hin]
    · rw [if_neg hin, if_neg hin]; exact z3
  · obtain ⟨a, b⟩ := c6 x hx
    rw [eo 10 (by decide) (by decide) (by decide), eo 11 (by decide) (by decide) (by decide)]
    refine ⟨a.trans (so _ (by omega) (by omega) (by omega)).symm, fun l el l6 i hi => ?_⟩
    rw [so _ (by omega) (by omega) (by omega)] at el
    rw [b l el l6 i hi, sV11 (by omega), sV11 (by omega), so _ (by omega) (by omega) (by omega)]
  · rw [e12, e13]
    by_cases er : r = nr
    · rw [er, pk_us, pk_us, s0, s1]; exact ⟨rfl, rfl⟩
    · rw [pk_un er, pk_un er, so _ (by omega) (by omega) (by omega), so _ (by omega) (by omega) (by omega)]; exact c7 r (by omega)
  · rw [so _ (by omega) (by omega) (by omega)]; exact c8 k hk
end GC
