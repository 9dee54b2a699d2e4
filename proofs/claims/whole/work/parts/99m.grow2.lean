section GB
variable {S S' : Nat → Int32} {n N w h : Nat} {L L' : Nat → Nat} {pu pu' : Nat → Int32} {pA pA' : Nat → Nat → Int32}
theorem stS_o {x y c l : Int32} {j : Nat} (h1 : ¬ (7 + 4 * n ≤ j ∧ j < 11 + 4 * n)) (h2 : j ≠ 183 + n) (h3 : j ≠ 195 + n) (h4 : j ≠ 2) : stS S n x y c l j = S j := by
  unfold stS
  rw [pk_un h4, pk_un h3, pk_un h2, pk_un (by omega), pk_un (by omega), pk_un (by omega), pk_un (by omega)]
theorem stS_n {x y c l : Int32} (hn : n < 12) : stS S n x y c l (7 + 4 * n) = x ∧ stS S n x y c l (7 + 4 * n + 1) = y ∧ stS S n x y c l (7 + 4 * n + 2) = c ∧ stS S n x y c l (7 + 4 * n + 3) = l ∧ stS S n x y c l (183 + n) = 0 ∧ stS S n x y c l (195 + n) = 0 ∧ stS S n x y c l 2 = nI (n + 1) := by
  unfold stS
  refine ⟨?_, ?_, ?_, ?_, ?_, ?_, pk_us⟩
  · rw [pk_un (by omega), pk_un (by omega), pk_un (by omega), pk_un (by omega), pk_un (by omega), pk_un (by omega), pk_us]
  · rw [pk_un (by omega), pk_un (by omega), pk_un (by omega), pk_un (by omega), pk_un (by omega), pk_us]
  · rw [pk_un (by omega), pk_un (by omega), pk_un (by omega), pk_un (by omega), pk_us]
  · rw [pk_un (by omega), pk_un (by omega), pk_un (by omega), pk_us]
  · rw [pk_un (by omega), pk_un (by omega), pk_us]
  · rw [pk_un (by omega), pk_us]
theorem CPg.str (H : CPg S n w h L pu pA) {x y c l : Nat} {met : Int32} (hn : n < 12) (hx : x < w) (hy : y < h) (hc : c < 4) (l1 : 1 ≤ l) (l9 : l ≤ 9) (hr : roomN x y c l w h)
    (e6 : pA' 6 = upd (pA 6) n (nI x)) (e7 : pA' 7 = upd (pA 7) n (nI y)) (e8 : pA' 8 = upd (pA 8) n (nI c)) (e9 : pA' 9 = upd (pA 9) n (nI l)) (e11 : pA' 11 = upd (pA 11) n 0) (e12 : pA' 12 = upd (pA 12) n 0) (e13 : pA' 13 = upd (pA 13) n 0)
    (e14 : ∀ q, pA' 14 q = pA 14 q ||| sb n ∧ (∃ j, j < l ∧ ciS x y c j = q) ∨ pA' 14 q = pA 14 q ∧ ¬ ∃ j, j < l ∧ ciS x y c j = q) (em : ∀ i, i < 32 → (bt met i = true ↔ ∃ j, j < l ∧ bt (pA 14 (ciS x y c j)) i = true)) (e10 : ∀ k, pA' 10 k = if k = n then met else if k < n ∧ bt met k = true then pA 10 k ||| sb n else pA 10 k) :
    CPg (stS S n (nI x) (nI y) (nI c) (nI l)) (n + 1) w h (fun k => if k = n then l else L k) (upd pu 2 (nI n + 1)) pA' := by
  have hw := H.w24
  have hh := H.h12
  obtain ⟨s0, s1, s2, s3, s4, s5, s6⟩ := stS_n (S := S) (x := nI x) (y := nI y) (c := nI c) (l := nI l) hn
  have so := fun j (h1 : ¬ (7 + 4 * n ≤ j ∧ j < 11 + 4 * n)) (h2 : j ≠ 183 + n) (h3 : j ≠ 195 + n) (h4 : j ≠ 2) => stS_o (S := S) (x := nI x) (y := nI y) (c := nI c) (l := nI l) (n := n) h1 h2 h3 h4
  generalize stS S n (nI x) (nI y) (nI c) (nI l) = S' at s0 s1 s2 s3 s4 s5 s6 so ⊢
  obtain ⟨L', eL⟩ : ∃ L', L' = fun k => if k = n then l else L k := ⟨_, rfl⟩
  have Ln : L' n = l := by rw [eL]; exact if_pos rfl
  have Lo : ∀ k, k < n → L' k = L k := fun k hk => by rw [eL]; exact if_neg (by omega)
  rw [← eL]
  have eC : eqC S S' n := fun j h7 hj => so j (by omega) (by omega) (by omega) (by omega)
  have t0 : ∀ k, k < n → S' (195 + k) = S (195 + k) := fun k hk => so _ (by omega) (by omega) (by omega) (by omega)
  have v0 : ∀ k, k < n → S' (183 + k) = S (183 + k) := fun k hk => so _ (by omega) (by omega) (by omega) (by omega)
  have tb := H.g.tb
  have skn : SK S' L' w h n x y c := ⟨hx, hy, hc, by rw [Ln]; exact l1, by rw [Ln]; exact l9, by rw [Ln]; exact hr, s0, s1, s2, by rw [Ln]; exact s3⟩
  have sko : ∀ k, k < n → ∃ a b d, SK S L w h k a b d ∧ SK S' L' w h k a b d := fun k hk => by
    obtain ⟨a, b, d, hs⟩ := H.sk k hk
    exact ⟨a, b, d, hs, eC.sk Lo hk hs⟩
  have cqn : ∀ j, cq S' n j = ciS x y c j := fun j => by unfold cq; rw [s0, s1, s2, nI_clamp (by omega), nI_clamp (by omega), nI_clamp (by omega)]
  have ho : ∀ a b, a < n + 1 → (ovr (tT S') (n + 1) a b ↔ a < n ∧ b < n ∧ ovr (tT S) n a b) := fun a b ha => ovr_more (fun k hk j hj => by show bt (S' (195 + k)) j = bt (S (195 + k)) j; rw [t0 k hk]) (fun k hk => by
      show bt (S' (195 + k)) n = false
      by_cases e : k = n
      · rw [e, s5]; exact b_0 n
      · rw [t0 k (by omega)]; exact tb k (by omega) n (by omega) (by omega)) (fun j => by show bt (S' (195 + n)) j = false; rw [s5]; exact b_0 j) ha
  refine ⟨⟨by rw [pk_un (by omega)]; exact H.u0, (so 0 (by omega) (by omega) (by omega) (by omega)).trans H.1.2.1, H.1.2.2⟩, ⟨by rw [pk_un (by omega)]; exact H.u1, (so 1 (by omega) (by omega) (by omega) (by omega)).trans H.2.1.2.1, H.2.1.2.2⟩, ⟨by rw [pk_us]; exact nI_add n 1, s6⟩, ⟨by omega, fun k hk i a b => ?_, fun k hk z => ?_, fun k hk => ?_, fun i j hi hj a b z => ?_⟩, ?_, fun i hi => ⟨?_, ?_⟩, fun k hk => ?_, fun k hk => ?_, fun k hk => ?_, fun k hk => ?_, fun k hk i a b => ?_, fun k hk j hj => ⟨?_, ?_⟩, fun q hq i hi => ?_⟩
  · by_cases e : k = n
    · rw [e, s5]; exact b_0 i
    · rw [t0 k (by omega)]; exact tb k (by omega) i (by omega) b
  · obtain ⟨z1, z2, z3⟩ := (ho k k hk).mp z
    exact H.g.ac k z1 z3
  · by_cases e : k = n
    · rw [e, s4]; exact .inl rfl
    · rw [v0 k (by omega)]; exact H.g.hv k (by omega)
  · obtain ⟨z1, z2, z3⟩ := (ho i j hi).mp z
    rw [v0 i z1] at a
    rw [v0 j z2] at b
    exact H.g.co i j z1 z2 a b z3
  · rw [pk_un (by omega), H.u3]
    show sumI (fun k => pcnt (S (195 + k))) n = sumI (fun k => pcnt (S' (195 + k))) n + pcnt (S' (195 + n))
    rw [s5, show pcnt 0 = 0 from rfl, sumI_ext (f := fun k => pcnt (S' (195 + k))) (g := fun k => pcnt (S (195 + k))) (fun k hk => by rw [t0 k hk])]
    exact (Int32.add_zero _).symm
  · rw [pk_un (by omega), (H.hm i hi).1]
    constructor
    · rintro ⟨a, b⟩; exact ⟨by omega, by rw [v0 i a]; exact b⟩
    · rintro ⟨a, b⟩
      by_cases e : i = n
      · rw [e, s4] at b; exact absurd b (by decide)
      · exact ⟨by omega, by rw [v0 i (by omega)] at b; exact b⟩
  · rw [pk_un (by omega), (H.hm i hi).2]
    constructor
    · rintro ⟨a, b⟩; exact ⟨by omega, by rw [v0 i a]; exact b⟩
    · rintro ⟨a, b⟩
      by_cases e : i = n
      · rw [e, s4] at b; exact absurd b (by decide)
      · exact ⟨by omega, by rw [v0 i (by omega)] at b; exact b⟩
  · by_cases e : k = n
    · rw [e]; exact ⟨x, y, c, skn⟩
    · obtain ⟨a, b, d, _, hs⟩ := sko k (by omega)
      exact ⟨a, b, d, hs⟩
  · rw [e6, e7, e8, e9]
    by_cases e : k = n
    · rw [e, pk_us, pk_us, pk_us, pk_us, s0, s1, s2, s3]; exact ⟨rfl, rfl, rfl, rfl⟩
    · rw [pk_un e, pk_un e, pk_un e, pk_un e, so _ (by omega) (by omega) (by omega) (by omega), so _ (by omega) (by omega) (by omega) (by omega), so _ (by omega) (by omega) (by omega) (by omega), so _ (by omega) (by omega) (by omega) (by omega)]
      exact H.st k (by omega)
  · have mt : ∀ k, k < 32 → (bt met k = true ↔ k < n ∧ ∃ i j, i < l ∧ j < L k ∧ cq S k j = ciS x y c i) := by
      intro k hk
      rw [em k hk]
      constructor
      · rintro ⟨j, hj, hb⟩
        obtain ⟨a, b, a1, b1, _, _, e⟩ := cell_xy hw hh skn (j := j) (by rw [Ln]; exact hj)
        rw [cqn] at e
        obtain ⟨z1, i, z2, z3⟩ := (H.ce (ciS x y c j) (by omega) k hk).mp hb
        exact ⟨z1, j, i, hj, z2, z3⟩
      · rintro ⟨hkn, j, i, hj, hi, e⟩
        obtain ⟨a, b, a1, b1, _, _, e2⟩ := cell_xy hw hh skn (j := j) (by rw [Ln]; exact hj)
        rw [cqn] at e2
        exact ⟨j, hj, (H.ce (ciS x y c j) (by omega) k hk).mpr ⟨hkn, i, hi, e⟩⟩
    have cn : ∀ k, k < n → (cmn S' L' k n ≠ -1 ↔ bt met k = true) ∧ (cmn S' L' n k ≠ -1 ↔ bt met k = true) := by
      intro k hk
      obtain ⟨a, b, d, hs, hs'⟩ := sko k hk
      rw [mt k (by omega), cmn_iff hw hh hs' skn, cmn_iff hw hh skn hs', Ln, Lo k hk]
      constructor
      · constructor
        · rintro ⟨i, j, z1, z2, z3⟩; rw [cqn, eC.fq hk] at z3; exact ⟨hk, j, i, z2, z1, z3.symm⟩
        · rintro ⟨_, i, j, z1, z2, z3⟩; exact ⟨j, i, z2, z1, by rw [cqn, eC.fq hk]; exact z3.symm⟩
      · constructor
        · rintro ⟨i, j, z1, z2, z3⟩; rw [cqn, eC.fq hk] at z3; exact ⟨hk, i, j, z1, z2, z3⟩
        · rintro ⟨_, i, j, z1, z2, z3⟩; exact ⟨i, j, z1, z2, by rw [cqn, eC.fq hk]; exact z3⟩
    rw [e10 k]
    by_cases e : k = n
    · rw [if_pos e, e]
      refine b_ext (fun i hi => ?_)
      rw [b_acc _ (by omega) hi, Bool.eq_iff_iff, decide_eq_true_eq]
      constructor
      · intro hb
        have hin := ((mt i hi).mp hb).1
        exact ⟨by omega, by omega, (cn i hin).2.mpr hb⟩
      · rintro ⟨z1, z2, z3⟩
        exact (cn i (by omega)).2.mp z3
    · have hk' : k < n := by omega
      rw [if_neg e]
      have ea : acc (fun o => k ≠ o ∧ cmn S' L' k o ≠ -1) (n + 1) = if k ≠ n ∧ cmn S' L' k n ≠ -1 then acc (fun o => k ≠ o ∧ cmn S' L' k o ≠ -1) n ||| sb n else acc (fun o => k ≠ o ∧ cmn S' L' k o ≠ -1) n := rfl
      have eb : acc (fun o => k ≠ o ∧ cmn S' L' k o ≠ -1) n = pA 10 k := by
        rw [H.cr k hk']
        exact acc_ext (fun o ho => by rw [cmn_L (Lo k hk') (Lo o ho), eC.fC hk' ho])
      rw [ea, eb]
      by_cases hb : bt met k = true
      · rw [if_pos ⟨hk', hb⟩, if_pos ⟨e, (cn k hk').1.mpr hb⟩]
      · rw [if_neg (fun z => hb z.2), if_neg (fun z => hb ((cn k hk').1.mp z.2))]
  · rw [e11]
    by_cases e : k = n
    · rw [e, pk_us, s5]
    · rw [pk_un e, t0 k (by omega)]; exact H.td k (by omega)
  · rw [e11]
    by_cases e : k = n
    · rw [e, pk_us]; exact b_0 i
    · rw [pk_un e]; exact H.hi k (by omega) i a b
  · rw [e12, ho k j hk]
    by_cases e : k = n
    · rw [e, pk_us, b_0]; exact ⟨fun z => absurd z (by decide), fun z => absurd z.2.1 (by omega)⟩
    · rw [pk_un e, (H.clo k (by omega) j hj).1]
      exact ⟨fun z => ⟨by omega, by omega, z.1, z.2⟩, fun z => ⟨z.2.2.1, z.2.2.2⟩⟩
  · rw [e13]
    by_cases e : k = n
    · rw [e, pk_us, b_0]; exact ⟨fun z => absurd z (by decide), fun z => absurd ((ho j n z.1).mp z.2).2.1 (by omega)⟩
    · rw [pk_un e, (H.clo k (by omega) j hj).2]
      exact ⟨fun z => ⟨by omega, (ho j k (by omega)).mpr ⟨z.1, by omega, z.2⟩⟩, fun z => ⟨((ho j k z.1).mp z.2).1, ((ho j k z.1).mp z.2).2.2⟩⟩
  · have old := H.ce q hq i hi
    rcases e14 q with ⟨e1, j, hj, ej⟩ | ⟨e1, hno⟩
    · rw [e1, b_or, b_sb (by omega) hi, Bool.or_eq_true, decide_eq_true_eq, old]
      constructor
      · rintro (⟨z1, j', z2, z3⟩ | z)
        · exact ⟨by omega, j', by rw [Lo i z1]; exact z2, by rw [eC.fq z1]; exact z3⟩
        · rw [z]; exact ⟨by omega, j, by rw [Ln]; exact hj, by rw [cqn]; exact ej⟩
      · rintro ⟨z1, j', z2, z3⟩
        by_cases e : i = n
        · exact .inr e
        · have hin : i < n := by omega
          rw [Lo i hin] at z2; rw [eC.fq hin] at z3
          exact .inl ⟨hin, j', z2, z3⟩
    · rw [e1, old]
      constructor
      · rintro ⟨z1, j', z2, z3⟩
        exact ⟨by omega, j', by rw [Lo i z1]; exact z2, by rw [eC.fq z1]; exact z3⟩
      · rintro ⟨z1, j', z2, z3⟩
        by_cases e : i = n
        · rw [e, Ln] at z2; rw [e, cqn] at z3; exact absurd ⟨j', z2, z3⟩ hno
        · have hin : i < n := by omega
          rw [Lo i hin] at z2; rw [eC.fq hin] at z3
          exact ⟨hin, j', z2, z3⟩
end GB
