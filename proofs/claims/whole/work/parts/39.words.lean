/-! ===== the words of a line ===== -/
def kws : Nat → List Nat
  | 0 => [112, 97, 103, 101]
  | 1 => [115, 116, 114, 111, 107, 101]
  | 2 => [104, 97, 110, 100]
  | 3 => [111, 118, 101, 114]
  | 4 => [108, 101, 116, 116, 101, 114]
  | 5 => [112, 108, 97, 99, 101]
  | 6 => [119, 111, 114, 100]
  | _ => [114, 117, 110]
def kwL (k : Nat) : Nat := (kws k).length
def kwc (k i : Nat) : Nat := (kws k).getD i 0
theorem kw_ok : ∀ k, k < 8 → kwL k < 1000 ∧ ∀ i, i < kwL k → kwc k i < 128 := by
  have h : ∀ k, k < 8 → kwL k < 10 ∧ ∀ i, i < 10 → kwc k i < 128 := by decide +kernel
  intro k hk
  exact ⟨by have := (h k hk).1; omega, fun i hi => (h k hk).2 i (by have := (h k hk).1; omega)⟩
/-- the strings of the class -/
def KW (X : HM) (EV : Nat → Value) (B : Nat) : Prop := EV 2 = .int 1 ∧ (EV 3 = .null ∨ ∃ x, EV 3 = .ref x) ∧ ∀ k, k < 8 → ∃ sr v, EV (4 + k) = .ref sr ∧ sr < B ∧ v < B ∧ X sr = some (.inr (12, [.ref v, .int 0])) ∧ X v = some (ba (kwL k) (fun i => nI (kwc k i)))
theorem KW.str {X : HM} {EV : Nat → Value} {B : Nat} {hm : HM} (h : KW X EV B) (hl : lowN B hm) {k : Nat} (hk : k < 8) : ∃ sr, EV (4 + k) = .ref sr ∧ STR X EV hm sr (kwL k) (kwc k) := by
  obtain ⟨h1, h2, h3⟩ := h
  obtain ⟨sr, v, e1, e2, e3, e4, e5⟩ := h3 k hk
  exact ⟨sr, e1, h1, h2, v, by rw [rd_ext (hl sr e2)]; exact e4, by rw [rd_ext (hl v e3)]; exact e5, (kw_ok k hk).1, (kw_ok k hk).2⟩
def isKey (T : Nat → Int32) (st z k : Nat) : Prop := z = kwL k ∧ ∀ i, i < kwL k → T (st + i) = nI (kwc k i)
section R6
variable {X : HM} {EV : Nat → Value} {d : Nat} {hm0 hm hm2 : HM} {hs : Nat} {Q : QT} {B n : Nat} {rd tp p s g e q : Nat} {u u' tu pu su gu : Nat → Int32} {tA pA sA gA A' : Nat → Nat → Int32}
theorem c_key {st z k : Nat} (hX : RX hm0 hm rd tp p s g u tu tA pu pA su sA gu gA) {sr : Nat} (hS : STR X EV hm sr (kwL k) (kwc k)) (e10 : u 10 = nI st) (e11 : u 11 = nI z) (hz : st + z ≤ 900)
    (h1 : u 9 = 2 → isKey (tA 1) st z k → Q (some (.int 1)) hm hs) (h2 : ¬ (u 9 = 2 ∧ isKey (tA 1) st z k) → Q (some (.int 0)) hm hs) : CC X EV (d + 5) 42 [.ref rd, .ref sr] hm hs Q := by
  refine c_isNamed hX hS e10 e11 hz (c := u 9 = 2 ∧ z = kwL k ∧ ∀ i, i < kwL k → tA 1 (st + i) = nI (kwc k i)) Iff.rfl ?_
  by_cases h : u 9 = 2 ∧ z = kwL k ∧ ∀ i, i < kwL k → tA 1 (st + i) = nI (kwc k i)
  · rw [if_pos h]; exact h1 h.1 h.2
  · rw [if_neg h]; exact h2 h
theorem c_readLine {st z : Nat} (hX : RX hm0 hm rd tp p s g u tu tA pu pA su sA gu gA) (hK : KW X EV B) (hlo : lowN B hm) (e10 : u 10 = nI st) (e11 : u 11 = nI z) (hz : st + z ≤ 900)
    (H : ∀ k, k < 8 → u 9 = 2 → isKey (tA 1) st z k → CC X EV (d + 5) (47 + k) [.ref rd] hm hs (fun v hm' hs' => (v = some (.int 0) ∨ v = some (.int 1)) ∧ Q v hm' hs'))
    (h0 : ¬ (u 9 = 2 ∧ ∃ k, k < 8 ∧ isKey (tA 1) st z k) → FK hm0 rd tp p s g tu tA gu gA Q hs 1 st) : CC X EV (d + 6) 44 [.ref rd] hm hs Q := by
  have hR := hX.r
  obtain ⟨s0, a0, b0⟩ := hK.str hlo (show 0 < 8 by omega)
  obtain ⟨s1, a1, b1⟩ := hK.str hlo (show 1 < 8 by omega)
  obtain ⟨s2, a2, b2⟩ := hK.str hlo (show 2 < 8 by omega)
  obtain ⟨s3, a3, b3⟩ := hK.str hlo (show 3 < 8 by omega)
  obtain ⟨s4, a4, b4⟩ := hK.str hlo (show 4 < 8 by omega)
  obtain ⟨s5, a5, b5⟩ := hK.str hlo (show 5 < 8 by omega)
  obtain ⟨s6, a6, b6⟩ := hK.str hlo (show 6 < 8 by omega)
  obtain ⟨s7, a7, b7⟩ := hK.str hlo (show 7 < 8 by omega)
  simp only [Nat.reduceAdd] at a0 a1 a2 a3 a4 a5 a6 a7
  refine c_of (ls2 := [.ref rd]) Y44 (Nat.le_of_ble_eq_true rfl) rfl I44 ?_
  simp only [r_al0 dX2_readLine_0, r_ldcs dX2_readLine_1 K2_102, List.cons_append, List.nil_append, Nat.reduceAdd, Option.toList, z0, a0]
  refine r_iv2 dX2_readLine_3 M2_103 Y42 O42 (Nat.le_of_ble_eq_true rfl) (rcv_own hR) (Nat.le_refl _) (Nat.le_refl _) ?_
  refine c_key hX b0 e10 e11 hz (fun w1 w2 => ?_) (fun n0 => ?_)
  · skip
    simp only [r_if_eqB (tgt := 14) dX2_readLine_6 rfl, r_al0 dX2_readLine_9, List.cons_append, List.nil_append, Nat.reduceAdd, Option.toList, z0, a1]
    refine ⟨fun h => absurd h (by decide), fun _ => ?_⟩
    refine r_iv1 dX2_readLine_10 M2_107 Y47 O47 (Nat.le_of_ble_eq_true rfl) (rcv_own hR) (Nat.le_refl _) (Nat.le_refl _) ?_
    refine c_mono (H 0 (by omega) w1 w2) (fun r hm' hs' hh => ?_)
    rcases hh with ⟨rfl | rfl, hq⟩
    · skip
      simp only [r_zret0 dX2_readLine_13 (Nat.zero_le _) (Nat.zero_le _), r_zret1 dX2_readLine_13 (Nat.zero_le _) (Nat.zero_le _), r_zretc dX2_readLine_13 (Nat.zero_le _) (Nat.zero_le _), List.cons_append, List.nil_append, Nat.reduceAdd, Option.toList, z0]
      exact hq
    · skip
      simp only [r_zret0 dX2_readLine_13 (Nat.zero_le _) (Nat.zero_le _), r_zret1 dX2_readLine_13 (Nat.zero_le _) (Nat.zero_le _), r_zretc dX2_readLine_13 (Nat.zero_le _) (Nat.zero_le _), List.cons_append, List.nil_append, Nat.reduceAdd, Option.toList, z0]
      exact hq
  simp only [r_if_eqB (tgt := 14) dX2_readLine_6 rfl, r_al0 dX2_readLine_9, List.cons_append, List.nil_append, Nat.reduceAdd, Option.toList, z0, a1]
  refine ⟨fun _ => ?_, fun h => absurd trivial h⟩
  simp (disch := omega) only [E2, nI_1, nI_add, nI_leI, nI_ltI, nI_eq, nI_clamp]
  simp only [r_al0 dX2_readLine_14, r_ldcs dX2_readLine_15 K2_110, List.cons_append, List.nil_append, Nat.reduceAdd, Option.toList, z0, a1]
  refine r_iv2 dX2_readLine_17 M2_103 Y42 O42 (Nat.le_of_ble_eq_true rfl) (rcv_own hR) (Nat.le_refl _) (Nat.le_refl _) ?_
  refine c_key hX b1 e10 e11 hz (fun w1 w2 => ?_) (fun n1 => ?_)
  · skip
    simp only [r_if_eqB (tgt := 28) dX2_readLine_20 rfl, r_al0 dX2_readLine_23, List.cons_append, List.nil_append, Nat.reduceAdd, Option.toList, z0, a2]
    refine ⟨fun h => absurd h (by decide), fun _ => ?_⟩
    refine r_iv1 dX2_readLine_24 M2_112 Y48 O48 (Nat.le_of_ble_eq_true rfl) (rcv_own hR) (Nat.le_refl _) (Nat.le_refl _) ?_
    refine c_mono (H 1 (by omega) w1 w2) (fun r hm' hs' hh => ?_)
    rcases hh with ⟨rfl | rfl, hq⟩
    · skip
      simp only [r_zret0 dX2_readLine_27 (Nat.zero_le _) (Nat.zero_le _), r_zret1 dX2_readLine_27 (Nat.zero_le _) (Nat.zero_le _), r_zretc dX2_readLine_27 (Nat.zero_le _) (Nat.zero_le _), List.cons_append, List.nil_append, Nat.reduceAdd, Option.toList, z0]
      exact hq
    · skip
      simp only [r_zret0 dX2_readLine_27 (Nat.zero_le _) (Nat.zero_le _), r_zret1 dX2_readLine_27 (Nat.zero_le _) (Nat.zero_le _), r_zretc dX2_readLine_27 (Nat.zero_le _) (Nat.zero_le _), List.cons_append, List.nil_append, Nat.reduceAdd, Option.toList, z0]
      exact hq
  simp only [r_if_eqB (tgt := 28) dX2_readLine_20 rfl, r_al0 dX2_readLine_23, List.cons_append, List.nil_append, Nat.reduceAdd, Option.toList, z0, a2]
  refine ⟨fun _ => ?_, fun h => absurd trivial h⟩
  simp (disch := omega) only [E2, nI_1, nI_add, nI_leI, nI_ltI, nI_eq, nI_clamp]
  simp only [r_al0 dX2_readLine_28, r_ldcs dX2_readLine_29 K2_115, List.cons_append, List.nil_append, Nat.reduceAdd, Option.toList, z0, a2]
  refine r_iv2 dX2_readLine_31 M2_103 Y42 O42 (Nat.le_of_ble_eq_true rfl) (rcv_own hR) (Nat.le_refl _) (Nat.le_refl _) ?_
  refine c_key hX b2 e10 e11 hz (fun w1 w2 => ?_) (fun n2 => ?_)
  · skip
    simp only [r_if_eqB (tgt := 42) dX2_readLine_34 rfl, r_al0 dX2_readLine_37, List.cons_append, List.nil_append, Nat.reduceAdd, Option.toList, z0, a3]
    refine ⟨fun h => absurd h (by decide), fun _ => ?_⟩
    refine r_iv1 dX2_readLine_38 M2_117 Y49 O49 (Nat.le_of_ble_eq_true rfl) (rcv_own hR) (Nat.le_refl _) (Nat.le_refl _) ?_
    refine c_mono (H 2 (by omega) w1 w2) (fun r hm' hs' hh => ?_)
    rcases hh with ⟨rfl | rfl, hq⟩
    · skip
      simp only [r_zret0 dX2_readLine_41 (Nat.zero_le _) (Nat.zero_le _), r_zret1 dX2_readLine_41 (Nat.zero_le _) (Nat.zero_le _), r_zretc dX2_readLine_41 (Nat.zero_le _) (Nat.zero_le _), List.cons_append, List.nil_append, Nat.reduceAdd, Option.toList, z0]
      exact hq
    · skip
      simp only [r_zret0 dX2_readLine_41 (Nat.zero_le _) (Nat.zero_le _), r_zret1 dX2_readLine_41 (Nat.zero_le _) (Nat.zero_le _), r_zretc dX2_readLine_41 (Nat.zero_le _) (Nat.zero_le _), List.cons_append, List.nil_append, Nat.reduceAdd, Option.toList, z0]
      exact hq
  simp only [r_if_eqB (tgt := 42) dX2_readLine_34 rfl, r_al0 dX2_readLine_37, List.cons_append, List.nil_append, Nat.reduceAdd, Option.toList, z0, a3]
  refine ⟨fun _ => ?_, fun h => absurd trivial h⟩
  simp (disch := omega) only [E2, nI_1, nI_add, nI_leI, nI_ltI, nI_eq, nI_clamp]
  simp only [r_al0 dX2_readLine_42, r_ldcs dX2_readLine_43 K2_120, List.cons_append, List.nil_append, Nat.reduceAdd, Option.toList, z0, a3]
  refine r_iv2 dX2_readLine_45 M2_103 Y42 O42 (Nat.le_of_ble_eq_true rfl) (rcv_own hR) (Nat.le_refl _) (Nat.le_refl _) ?_
  refine c_key hX b3 e10 e11 hz (fun w1 w2 => ?_) (fun n3 => ?_)
  · skip
    simp only [r_if_eqB (tgt := 56) dX2_readLine_48 rfl, r_al0 dX2_readLine_51, List.cons_append, List.nil_append, Nat.reduceAdd, Option.toList, z0, a4]
    refine ⟨fun h => absurd h (by decide), fun _ => ?_⟩
    refine r_iv1 dX2_readLine_52 M2_122 Y50 O50 (Nat.le_of_ble_eq_true rfl) (rcv_own hR) (Nat.le_refl _) (Nat.le_refl _) ?_
    refine c_mono (H 3 (by omega) w1 w2) (fun r hm' hs' hh => ?_)
    rcases hh with ⟨rfl | rfl, hq⟩
    · skip
      simp only [r_zret0 dX2_readLine_55 (Nat.zero_le _) (Nat.zero_le _), r_zret1 dX2_readLine_55 (Nat.zero_le _) (Nat.zero_le _), r_zretc dX2_readLine_55 (Nat.zero_le _) (Nat.zero_le _), List.cons_append, List.nil_append, Nat.reduceAdd, Option.toList, z0]
      exact hq
    · skip
      simp only [r_zret0 dX2_readLine_55 (Nat.zero_le _) (Nat.zero_le _), r_zret1 dX2_readLine_55 (Nat.zero_le _) (Nat.zero_le _), r_zretc dX2_readLine_55 (Nat.zero_le _) (Nat.zero_le _), List.cons_append, List.nil_append, Nat.reduceAdd, Option.toList, z0]
      exact hq
  simp only [r_if_eqB (tgt := 56) dX2_readLine_48 rfl, r_al0 dX2_readLine_51, List.cons_append, List.nil_append, Nat.reduceAdd, Option.toList, z0, a4]
  refine ⟨fun _ => ?_, fun h => absurd trivial h⟩
  simp (disch := omega) only [E2, nI_1, nI_add, nI_leI, nI_ltI, nI_eq, nI_clamp]
  simp only [r_al0 dX2_readLine_56, r_ldcs dX2_readLine_57 K2_125, List.cons_append, List.nil_append, Nat.reduceAdd, Option.toList, z0, a4]
  refine r_iv2 dX2_readLine_59 M2_103 Y42 O42 (Nat.le_of_ble_eq_true rfl) (rcv_own hR) (Nat.le_refl _) (Nat.le_refl _) ?_
  refine c_key hX b4 e10 e11 hz (fun w1 w2 => ?_) (fun n4 => ?_)
  · skip
    simp only [r_if_eqB (tgt := 70) dX2_readLine_62 rfl, r_al0 dX2_readLine_65, List.cons_append, List.nil_append, Nat.reduceAdd, Option.toList, z0, a5]
    refine ⟨fun h => absurd h (by decide), fun _ => ?_⟩
    refine r_iv1 dX2_readLine_66 M2_127 Y51 O51 (Nat.le_of_ble_eq_true rfl) (rcv_own hR) (Nat.le_refl _) (Nat.le_refl _) ?_
    refine c_mono (H 4 (by omega) w1 w2) (fun r hm' hs' hh => ?_)
    rcases hh with ⟨rfl | rfl, hq⟩
    · skip
      simp only [r_zret0 dX2_readLine_69 (Nat.zero_le _) (Nat.zero_le _), r_zret1 dX2_readLine_69 (Nat.zero_le _) (Nat.zero_le _), r_zretc dX2_readLine_69 (Nat.zero_le _) (Nat.zero_le _), List.cons_append, List.nil_append, Nat.reduceAdd, Option.toList, z0]
      exact hq
    · skip
      simp only [r_zret0 dX2_readLine_69 (Nat.zero_le _) (Nat.zero_le _), r_zret1 dX2_readLine_69 (Nat.zero_le _) (Nat.zero_le _), r_zretc dX2_readLine_69 (Nat.zero_le _) (Nat.zero_le _), List.cons_append, List.nil_append, Nat.reduceAdd, Option.toList, z0]
      exact hq
  simp only [r_if_eqB (tgt := 70) dX2_readLine_62 rfl, r_al0 dX2_readLine_65, List.cons_append, List.nil_append, Nat.reduceAdd, Option.toList, z0, a5]
  refine ⟨fun _ => ?_, fun h => absurd trivial h⟩
  simp (disch := omega) only [E2, nI_1, nI_add, nI_leI, nI_ltI, nI_eq, nI_clamp]
  simp only [r_al0 dX2_readLine_70, r_ldcs dX2_readLine_71 K2_130, List.cons_append, List.nil_append, Nat.reduceAdd, Option.toList, z0, a5]
  refine r_iv2 dX2_readLine_73 M2_103 Y42 O42 (Nat.le_of_ble_eq_true rfl) (rcv_own hR) (Nat.le_refl _) (Nat.le_refl _) ?_
  refine c_key hX b5 e10 e11 hz (fun w1 w2 => ?_) (fun n5 => ?_)
  · skip
    simp only [r_if_eqB (tgt := 84) dX2_readLine_76 rfl, r_al0 dX2_readLine_79, List.cons_append, List.nil_append, Nat.reduceAdd, Option.toList, z0, a6]
    refine ⟨fun h => absurd h (by decide), fun _ => ?_⟩
    refine r_iv1 dX2_readLine_80 M2_132 Y52 O52 (Nat.le_of_ble_eq_true rfl) (rcv_own hR) (Nat.le_refl _) (Nat.le_refl _) ?_
    refine c_mono (H 5 (by omega) w1 w2) (fun r hm' hs' hh => ?_)
    rcases hh with ⟨rfl | rfl, hq⟩
    · skip
      simp only [r_zret0 dX2_readLine_83 (Nat.zero_le _) (Nat.zero_le _), r_zret1 dX2_readLine_83 (Nat.zero_le _) (Nat.zero_le _), r_zretc dX2_readLine_83 (Nat.zero_le _) (Nat.zero_le _), List.cons_append, List.nil_append, Nat.reduceAdd, Option.toList, z0]
      exact hq
    · skip
      simp only [r_zret0 dX2_readLine_83 (Nat.zero_le _) (Nat.zero_le _), r_zret1 dX2_readLine_83 (Nat.zero_le _) (Nat.zero_le _), r_zretc dX2_readLine_83 (Nat.zero_le _) (Nat.zero_le _), List.cons_append, List.nil_append, Nat.reduceAdd, Option.toList, z0]
      exact hq
  simp only [r_if_eqB (tgt := 84) dX2_readLine_76 rfl, r_al0 dX2_readLine_79, List.cons_append, List.nil_append, Nat.reduceAdd, Option.toList, z0, a6]
  refine ⟨fun _ => ?_, fun h => absurd trivial h⟩
  simp (disch := omega) only [E2, nI_1, nI_add, nI_leI, nI_ltI, nI_eq, nI_clamp]
  simp only [r_al0 dX2_readLine_84, r_ldcs dX2_readLine_85 K2_135, List.cons_append, List.nil_append, Nat.reduceAdd, Option.toList, z0, a6]
  refine r_iv2 dX2_readLine_87 M2_103 Y42 O42 (Nat.le_of_ble_eq_true rfl) (rcv_own hR) (Nat.le_refl _) (Nat.le_refl _) ?_
  refine c_key hX b6 e10 e11 hz (fun w1 w2 => ?_) (fun n6 => ?_)
  · skip
    simp only [r_if_eqB (tgt := 98) dX2_readLine_90 rfl, r_al0 dX2_readLine_93, List.cons_append, List.nil_append, Nat.reduceAdd, Option.toList, z0, a7]
    refine ⟨fun h => absurd h (by decide), fun _ => ?_⟩
    refine r_iv1 dX2_readLine_94 M2_137 Y53 O53 (Nat.le_of_ble_eq_true rfl) (rcv_own hR) (Nat.le_refl _) (Nat.le_refl _) ?_
    refine c_mono (H 6 (by omega) w1 w2) (fun r hm' hs' hh => ?_)
    rcases hh with ⟨rfl | rfl, hq⟩
    · skip
      simp only [r_zret0 dX2_readLine_97 (Nat.zero_le _) (Nat.zero_le _), r_zret1 dX2_readLine_97 (Nat.zero_le _) (Nat.zero_le _), r_zretc dX2_readLine_97 (Nat.zero_le _) (Nat.zero_le _), List.cons_append, List.nil_append, Nat.reduceAdd, Option.toList, z0]
      exact hq
    · skip
      simp only [r_zret0 dX2_readLine_97 (Nat.zero_le _) (Nat.zero_le _), r_zret1 dX2_readLine_97 (Nat.zero_le _) (Nat.zero_le _), r_zretc dX2_readLine_97 (Nat.zero_le _) (Nat.zero_le _), List.cons_append, List.nil_append, Nat.reduceAdd, Option.toList, z0]
      exact hq
  simp only [r_if_eqB (tgt := 98) dX2_readLine_90 rfl, r_al0 dX2_readLine_93, List.cons_append, List.nil_append, Nat.reduceAdd, Option.toList, z0, a7]
  refine ⟨fun _ => ?_, fun h => absurd trivial h⟩
  simp (disch := omega) only [E2, nI_1, nI_add, nI_leI, nI_ltI, nI_eq, nI_clamp]
  simp only [r_al0 dX2_readLine_98, r_ldcs dX2_readLine_99 K2_140, List.cons_append, List.nil_append, Nat.reduceAdd, Option.toList, z0, a7]
  refine r_iv2 dX2_readLine_101 M2_103 Y42 O42 (Nat.le_of_ble_eq_true rfl) (rcv_own hR) (Nat.le_refl _) (Nat.le_refl _) ?_
  refine c_key hX b7 e10 e11 hz (fun w1 w2 => ?_) (fun n7 => ?_)
  · skip
    simp only [r_if_eqB (tgt := 112) dX2_readLine_104 rfl, r_al0 dX2_readLine_107, List.cons_append, List.nil_append, Nat.reduceAdd, Option.toList, z0, hR]
    refine ⟨fun h => absurd h (by decide), fun _ => ?_⟩
    refine r_iv1 dX2_readLine_108 M2_142 Y54 O54 (Nat.le_of_ble_eq_true rfl) (rcv_own hR) (Nat.le_refl _) (Nat.le_refl _) ?_
    refine c_mono (H 7 (by omega) w1 w2) (fun r hm' hs' hh => ?_)
    rcases hh with ⟨rfl | rfl, hq⟩
    · skip
      simp only [r_zret0 dX2_readLine_111 (Nat.zero_le _) (Nat.zero_le _), r_zret1 dX2_readLine_111 (Nat.zero_le _) (Nat.zero_le _), r_zretc dX2_readLine_111 (Nat.zero_le _) (Nat.zero_le _), List.cons_append, List.nil_append, Nat.reduceAdd, Option.toList, z0]
      exact hq
    · skip
      simp only [r_zret0 dX2_readLine_111 (Nat.zero_le _) (Nat.zero_le _), r_zret1 dX2_readLine_111 (Nat.zero_le _) (Nat.zero_le _), r_zretc dX2_readLine_111 (Nat.zero_le _) (Nat.zero_le _), List.cons_append, List.nil_append, Nat.reduceAdd, Option.toList, z0]
      exact hq
  simp only [r_if_eqB (tgt := 112) dX2_readLine_104 rfl, r_al0 dX2_readLine_107, List.cons_append, List.nil_append, Nat.reduceAdd, Option.toList, z0, hR]
  refine ⟨fun _ => ?_, fun h => absurd trivial h⟩
  simp (disch := omega) only [E2, nI_1, nI_add, nI_leI, nI_ltI, nI_eq, nI_clamp]
  simp only [r_al0 dX2_readLine_112, r_iconst dX2_readLine_113 ki1, r_al0 dX2_readLine_114, r_getf dX2_readLine_115 F2_27, List.cons_append, List.nil_append, Nat.reduceAdd, Option.toList, g2_10, z0, hR, rd_own hR, e10]
  refine r_iv3 dX2_readLine_118 M2_145 Y43 O43 (Nat.le_of_ble_eq_true rfl) (rcv_own hR) (Nat.le_refl _) (Nat.le_refl _) ?_
  refine c_no (lab := 0) hX rfl ?_
  intro hm' u' pu' pA' su' sA' hX' y1 y2
  simp only [r_zret0 dX2_readLine_121 (Nat.zero_le _) (Nat.zero_le _), r_zret1 dX2_readLine_121 (Nat.zero_le _) (Nat.zero_le _), r_zretc dX2_readLine_121 (Nat.zero_le _) (Nat.zero_le _), List.cons_append, List.nil_append, Nat.reduceAdd, Option.toList, z0]
  refine h0 (fun ⟨w, k, hk, hw⟩ => ?_) hm' u' pu' pA' su' sA' hX' y1 y2
  rcases (show k = 0 ∨ k = 1 ∨ k = 2 ∨ k = 3 ∨ k = 4 ∨ k = 5 ∨ k = 6 ∨ k = 7 by omega) with rfl | rfl | rfl | rfl | rfl | rfl | rfl | rfl
  · exact n0 ⟨w, hw⟩
  · exact n1 ⟨w, hw⟩
  · exact n2 ⟨w, hw⟩
  · exact n3 ⟨w, hw⟩
  · exact n4 ⟨w, hw⟩
  · exact n5 ⟨w, hw⟩
  · exact n6 ⟨w, hw⟩
  · exact n7 ⟨w, hw⟩
end R6
