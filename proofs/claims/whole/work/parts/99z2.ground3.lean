section GS3
variable {s : State} {b L : Nat} {xs : Nat → Int32} {adK adV : Nat → Nat} {a0 a1 : Nat} {v3 : Value}
theorem gX_k (hK : ∀ i j, i < 9 → j < 9 → adK i = adK j → i = j) {i : Nat} (hi : i < 9) : gX adK adV a0 a1 b L xs (adK i) = some (.inr (12, [.ref (adV i), .int 0])) := by
  have e : fstN (fun j => adK j = adK i) 9 = i := fstN_uq hi rfl (fun j hj h => hK j i hj hi h)
  unfold gX
  rw [e, if_pos hi]
theorem gX_v (hV : ∀ i j, i < 9 → j < 9 → adV i = adV j → i = j) (hKV : ∀ i j, i < 9 → j < 9 → adK i ≠ adV j) {i : Nat} (hi : i < 9) : gX adK adV a0 a1 b L xs (adV i) = some (ba (txl i) (txf i)) := by
  have e0 : fstN (fun j => adK j = adV i) 9 = 9 := fstN_none (fun j hj => hKV j i hj hi)
  have e : fstN (fun j => adV j = adV i) 9 = i := fstN_uq hi rfl (fun j hj h => hV j i hj hi h)
  unfold gX
  rw [e0, if_neg (by omega), e, if_pos hi]
theorem gX_o {a : Nat} (h1 : ∀ i, i < 9 → adK i ≠ a) (h2 : ∀ i, i < 9 → adV i ≠ a) : gX adK adV a0 a1 b L xs a = if a = a0 then some (ia 4 (fun k => mstX (nI k))) else if a = a1 then some (ia 4 (fun k => mstY (nI k))) else if a = b then some (ia L xs) else none := by
  unfold gX
  rw [fstN_none h1, if_neg (by omega), fstN_none h2, if_neg (by omega)]
theorem gr_all (hts : ∀ w ∈ lw_tbl, w.before #[Value.ref b] s = true) (h : gr_c.before #[Value.ref b] s = true) (hf : heapFits s = true) (hX : va_X b L xs s s.heap) (hL : L ≤ 3072) :
    ∃ (D : va_G) (X : HM) (EV : Nat → Value) (f : Nat → Int32), im_F D X EV s.heap.size s s.heap ∧ KW X EV s.heap.size ∧ KY X EV s.heap.size ∧ XT X EV s.heap.size ∧ X b = some (ia L f) := by
  have hs := flat_of_before _ h
  have hA : ∀ a : Nat, a < s.heap.size → ¬ (fun q : Nat => s.heap.size ≤ q) a := fun a ha => Nat.not_le.mpr ha
  obtain ⟨adK, adV, ⟨hS, hK⟩, hev⟩ := gr_S h
  obtain ⟨a0, ev0, hT0⟩ := gr_X h
  obtain ⟨a1, ev1, hT1⟩ := gr_Y h
  obtain ⟨v3, ev3, hr3⟩ := Cond.isRef_spec (hs (.isRef (.static "jdk/internal/util/Preconditions" "SIOOBE_FORMATTER" "Ljava/util/function/BiFunction;")) (by decide +kernel))
  have ev2 := va_eqi (hs (.eq (.static "java/lang/String" "COMPACT_STRINGS" "Z") (.int 1)) (by decide +kernel))
  have hTb := hX.t
  have hTV : ∀ i, i < 9 → va_T .byte (adV i) (txl i) (fun j => .int (txf i j)) (fun q => s.heap.size ≤ q) s s.heap := fun i hi => by
    obtain ⟨c, e, a, x, y, z, d, w⟩ := (hS i hi).2.2.2
    have el := tx_len i hi
    exact ⟨c, e, a, x, by rw [← el]; exact y, by rw [← el]; exact z, fun j hj => by rw [d j (by rw [el]; exact hj)]; show some (Value.int ((gr_byt.getD i []).getD j 0)) = some (Value.int (txf i j)); rw [tx_byt i hi j (by rw [el]; exact hj)], w⟩
  have lV : ∀ i, i < 9 → txl i < 2 ^ 31 := fun i hi => by rw [← tx_len i hi]; exact gr_l31 i hi
  have hV : ∀ i j, i < 9 → j < 9 → adV i = adV j → i = j := fun i j hi hj e => by
    have g1 := (hS i hi).2.2.2
    have g2 := (hS j hj).2.2.2
    rw [e] at g1
    obtain ⟨-, e1, e2⟩ := gr_TT g1 g2 (gr_l31 i hi) (gr_l31 j hj)
    rcases tx_df i hi j hj with (x | x) | ⟨x, y⟩
    · exact x
    · exact absurd e1 x
    · exact absurd (Value.int.inj (e2 0 x)) y
  have nKT : ∀ {ty : FieldType} {N : Nat} {f : Nat → Value} {t : Nat}, ty = .int ∨ ty = .byte → va_T ty t N f (fun q => s.heap.size ≤ q) s s.heap → ∀ i, i < 9 → adK i ≠ t := fun hty hT i hi e => by
    obtain ⟨c, e1, a, -⟩ := hT
    rw [← e] at e1
    exact gr_oa hf hty e1 a (hS i hi).2.2.1
  have nVT : ∀ {N : Nat} {f : Nat → Value} {t : Nat}, va_T .int t N f (fun q => s.heap.size ≤ q) s s.heap → N < 2 ^ 31 → ∀ i, i < 9 → adV i ≠ t := fun hT hN i hi e => by
    have g := hTV i hi
    rw [e] at g
    cases (gr_TT g hT (lV i hi) hN).1
  have hKV : ∀ i j, i < 9 → j < 9 → adK i ≠ adV j := fun i j hi hj => nKT (.inr rfl) (hTV j hj) i hi
  have n01 : a1 ≠ a0 := fun e => by
    rw [e] at hT1
    have := (gr_TT hT0 hT1 (by omega) (by omega)).2.2 0 (by omega)
    exact absurd (Value.int.inj this) (by decide)
  have lt : ∀ {ty : FieldType} {N : Nat} {f : Nat → Value} {t : Nat}, va_T ty t N f (fun q => s.heap.size ≤ q) s s.heap → t < s.heap.size := fun hT => by
    obtain ⟨c, e1, -⟩ := hT
    exact (Array.getElem?_eq_some_iff.mp e1).1
  have ltK : ∀ i, i < 9 → adK i < s.heap.size := fun i hi => by
    obtain ⟨c, e1, -⟩ := (hS i hi).1
    exact (Array.getElem?_eq_some_iff.mp e1).1
  have x0 : gX adK adV a0 a1 b L xs a0 = some (ia 4 (fun k => mstX (nI k))) := by rw [gX_o (nKT (.inl rfl) hT0) (nVT hT0 (by omega)), if_pos rfl]
  have x1 : gX adK adV a0 a1 b L xs a1 = some (ia 4 (fun k => mstY (nI k))) := by rw [gX_o (nKT (.inl rfl) hT1) (nVT hT1 (by omega)), if_neg n01, if_pos rfl]
  have xk : ∀ i, i < 9 → gX adK adV a0 a1 b L xs (adK i) = some (.inr (12, [.ref (adV i), .int 0])) := fun i hi => gX_k hK hi
  have xv : ∀ i, i < 9 → gX adK adV a0 a1 b L xs (adV i) = some (ba (txl i) (txf i)) := fun i hi => gX_v hV hKV hi
  have xb : ∃ f, gX adK adV a0 a1 b L xs b = some (ia L f) := by
    rw [gX_o (nKT (.inl rfl) hTb) (nVT hTb (by omega))]
    by_cases e0 : b = a0
    · have g := hTb
      rw [e0] at g
      have := (gr_TT g hT0 (by omega) (by omega)).2.1
      rw [if_pos e0, this]; exact ⟨_, rfl⟩
    · rw [if_neg e0]
      by_cases e1 : b = a1
      · have g := hTb
        rw [e1] at g
        have := (gr_TT g hT1 (by omega) (by omega)).2.1
        rw [if_pos e1, this]; exact ⟨_, rfl⟩
      · rw [if_neg e1, if_pos rfl]; exact ⟨_, rfl⟩
  have h3 : v3 = .null ∨ ∃ x, v3 = .ref x := by
    cases v3 with
    | null => exact .inl rfl
    | ref x => exact .inr ⟨x, rfl⟩
    | _ => cases hr3
  obtain ⟨f, xb⟩ := xb
  have htg : ∀ w ∈ lw_g, w.before #[Value.ref b] s = true := fun w hw => hts w (List.mem_filter.mp hw).1
  obtain ⟨c0, i0, k0⟩ := u_known (n := 5) htg inX0 (hts _ (im_tblA (i := 206) (by decide +kernel)))
  obtain ⟨c1, i1, k1⟩ := u_known (n := 15) htg inX1 (hts _ (im_tblA (i := 28) (by decide +kernel)))
  obtain ⟨c2, i2, k2⟩ := u_known (n := 13) htg inX2 (hts _ (im_tblA (i := 360) (by decide +kernel)))
  obtain ⟨c3, i3, k3⟩ := u_known (n := 3) htg inX3 (hts _ (im_tblA (i := 188) (by decide +kernel)))
  obtain ⟨c4, i4, k4⟩ := u_known (n := 4) htg inX4 (hts _ (im_tblA (i := 288) (by decide +kernel)))
  obtain ⟨c5, i5, k5⟩ := u_known (n := 14) htg inX5 (hts _ (im_tblA (i := 103) (by decide +kernel)))
  obtain ⟨c6, i6, k6⟩ := u_known (n := 4) htg inX6 (hts _ (im_tblA (i := 264) (by decide +kernel)))
  obtain ⟨c7, i7, k7⟩ := u_known (n := 7) htg inX7 (hts _ (im_tblA (i := 232) (by decide +kernel)))
  obtain ⟨c8, i8, k8⟩ := u_known (n := 2) htg inX8 (hts _ (im_tblA (i := 173) (by decide +kernel)))
  obtain ⟨c9, i9, k9⟩ := u_known (n := 12) htg inX9 (hts _ (im_tblA (i := 20) (by decide +kernel)))
  obtain ⟨c10, i10, k10⟩ := u_known (n := 29) htg inX10 (hts _ (im_tblA (i := 1090) (by decide +kernel)))
  refine ⟨(fun k => [c0, c1, c2, c3, c4, c5, c6, c7, c8, c9, c10].getD k c0, fun k => [i0, i1, i2, i3, i4, i5, i6, i7, i8, i9, i10].getD k i0), gX adK adV a0 a1 b L xs, gE adK a0 a1 v3, f, ⟨?_, ?_, ?_, ?_, ?_, ?_⟩, ?_, ?_, ?_, xb⟩
  · intro k q hq
    match k, hq with
    | 0, hq => cases hq; exact k0
    | 1, hq => cases hq; exact k1
    | 2, hq => cases hq; exact k2
    | 3, hq => cases hq; exact k3
    | 4, hq => cases hq; exact k4
    | 5, hq => cases hq; exact k5
    | 6, hq => cases hq; exact k6
    | 7, hq => cases hq; exact k7
    | 8, hq => cases hq; exact k8
    | 9, hq => cases hq; exact k9
    | 10, hq => cases hq; exact k10
    | k + 11, hq => cases hq
  · intro a c hc
    by_cases q1 : ∃ i, i < 9 ∧ adK i = a
    · obtain ⟨i, hi, rfl⟩ := q1
      rw [xk i hi] at hc
      cases hc
      refine ⟨rfl, (hS i hi).1, fun k v hk => ?_⟩
      match k, hk with
      | 0, hk => cases hk; exact (hS i hi).2.2.1
      | 1, hk => cases hk; exact (hS i hi).2.1
      | k + 2, hk => cases hk
    by_cases q2 : ∃ i, i < 9 ∧ adV i = a
    · obtain ⟨i, hi, rfl⟩ := q2
      rw [xv i hi] at hc
      cases hc
      exact hTV i hi
    rw [gX_o (fun i hi e => q1 ⟨i, hi, e⟩) (fun i hi e => q2 ⟨i, hi, e⟩)] at hc
    by_cases e0 : a = a0
    · rw [if_pos e0] at hc; cases hc; rw [e0]; exact hT0
    rw [if_neg e0] at hc
    by_cases e1 : a = a1
    · rw [if_pos e1] at hc; cases hc; rw [e1]; exact hT1
    rw [if_neg e1] at hc
    by_cases e2 : a = b
    · rw [if_pos e2] at hc; cases hc; rw [e2]; exact hTb
    · rw [if_neg e2] at hc; cases hc
  · intro k hk
    match k, hk with
    | 0, _ => exact va_Zof (hts _ (im_tblA (i := 513) (by decide +kernel))) (hts _ (im_tblA (i := 1) (by decide +kernel))) ev0 hA
    | 1, _ => exact va_Zof (hts _ (im_tblA (i := 520) (by decide +kernel))) (hts _ (im_tblA (i := 1) (by decide +kernel))) ev1 hA
    | 2, _ => exact va_Zof (hts _ (im_tblA (i := 456) (by decide +kernel))) (hts _ (im_tblA (i := 12) (by decide +kernel))) ev2 hA
    | 3, _ => exact va_Zof (hts _ (im_tblA (i := 472) (by decide +kernel))) (hts _ (im_tblA (i := 14) (by decide +kernel))) ev3 hA
    | k + 4, hk => exact absurd hk (by omega)
  · intro j e he
    match j, he with
    | 0, he => cases he; exact ⟨adK 0, rfl, vk_R.of (hts _ (im_tblA (i := 442) (by decide +kernel))) (hev 0 (by omega))⟩
    | 1, he => cases he; exact ⟨adK 1, rfl, vk_R.of (hts _ (im_tblA (i := 507) (by decide +kernel))) (hev 1 (by omega))⟩
    | 2, he => cases he; exact ⟨adK 2, rfl, vk_R.of (hts _ (im_tblA (i := 529) (by decide +kernel))) (hev 2 (by omega))⟩
    | 3, he => cases he; exact ⟨adK 3, rfl, vk_R.of (hts _ (im_tblA (i := 542) (by decide +kernel))) (hev 3 (by omega))⟩
    | 4, he => cases he; exact ⟨adK 4, rfl, vk_R.of (hts _ (im_tblA (i := 594) (by decide +kernel))) (hev 4 (by omega))⟩
    | 5, he => cases he; exact ⟨adK 5, rfl, vk_R.of (hts _ (im_tblA (i := 607) (by decide +kernel))) (hev 5 (by omega))⟩
    | 6, he => cases he; exact ⟨adK 6, rfl, vk_R.of (hts _ (im_tblA (i := 616) (by decide +kernel))) (hev 6 (by omega))⟩
    | 7, he => cases he; exact ⟨adK 7, rfl, vk_R.of (hts _ (im_tblA (i := 621) (by decide +kernel))) (hev 7 (by omega))⟩
    | 8, he => cases he; exact ⟨adK 8, rfl, vk_R.of (hts _ (im_tblA (i := 1219) (by decide +kernel))) (hev 8 (by omega))⟩
    | j + 9, he => cases he
  · exact va_AO.of (hts _ (im_tblA (i := 287) (by decide +kernel)))
  · intro w hw hn
    refine va_Nw.of ?_ (hts w hw)
    cases w with
    | fieldLinkNest a b c d e f => rfl
    | methodLinkNest a b c d => rfl
    | _ => cases hn
  · refine ⟨rfl, h3, fun k hk => ⟨adK k, adV k, ?_, ltK k (by omega), lt (hTV k (by omega)), xk k (by omega), ?_⟩⟩
    · show (if 4 + k = 0 then Value.ref a0 else if 4 + k = 1 then .ref a1 else if 4 + k = 2 then .int 1 else if 4 + k = 3 then v3 else .ref (adK (4 + k - 4))) = _
      rw [if_neg (by omega), if_neg (by omega), if_neg (by omega), if_neg (by omega), show 4 + k - 4 = k by omega]
    · rw [xv k (by omega)]
      unfold txl txf
      rw [if_pos hk, if_pos hk]
  · exact ⟨rfl, h3, adK 8, adV 8, rfl, ltK 8 (by omega), lt (hTV 8 (by omega)), xk 8 (by omega), xv 8 (by omega)⟩
  · exact ⟨a0, a1, rfl, rfl, lt hT0, lt hT1, x0, x1⟩
end GS3
