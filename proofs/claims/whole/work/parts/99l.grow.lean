/-! ===== the coupling grows with the lines ===== -/
def eqC (S S' : Nat → Int32) (N : Nat) : Prop := ∀ j, 7 ≤ j → j < 7 + 4 * N → S' j = S j
section GA
variable {S S' : Nat → Int32} {n N w h : Nat} {L L' : Nat → Nat} {pu pu' : Nat → Int32} {pA pA' : Nat → Nat → Int32}
theorem eqC.fX (h : eqC S S' N) {k : Nat} {i : Int32} (hk : k < N) : mX S' k i = mX S k i := by unfold mX; rw [h _ (by omega) (by omega), h _ (by omega) (by omega)]
theorem eqC.fY (h : eqC S S' N) {k : Nat} {i : Int32} (hk : k < N) : mY S' k i = mY S k i := by unfold mY; rw [h _ (by omega) (by omega), h _ (by omega) (by omega)]
theorem eqC.fC (h : eqC S S' N) {a b : Nat} (ha : a < N) (hb : b < N) : cmn S' L a b = cmn S L a b := by
  show fstv _ _ _ = fstv _ _ _
  refine fstv_ext (fun i _ => ?_) (fun i _ => ?_)
  · simp only [h.fX ha, h.fX hb, h.fY ha, h.fY hb]
  · simp only [h.fX ha, h.fY ha]
theorem cmn_L {a b : Nat} (ha : L' a = L a) (hb : L' b = L b) : cmn S L' a b = cmn S L a b := by unfold cmn; rw [ha, hb]
theorem eqC.fq (h : eqC S S' N) {k j : Nat} (hk : k < N) : cq S' k j = cq S k j := by unfold cq; rw [h _ (by omega) (by omega), h _ (by omega) (by omega), h _ (by omega) (by omega)]
theorem eqC.sk {hh : Nat} (h : eqC S S' N) (hL : ∀ k, k < N → L' k = L k) {k x y c : Nat} (hk : k < N) (hs : SK S L w hh k x y c) : SK S' L' w hh k x y c := by
  obtain ⟨a1, a2, a3, a4, a5, a6, b1, b2, b3, b4⟩ := hs
  unfold SK
  rw [hL k hk, h _ (by omega) (by omega), h _ (by omega) (by omega), h _ (by omega) (by omega), h _ (by omega) (by omega)]
  exact ⟨a1, a2, a3, a4, a5, a6, b1, b2, b3, b4⟩
theorem CPg.ex (H : CPg S n w h L pu pA) (h1 : ∀ j, (j < 3 ∨ (7 ≤ j ∧ j < 55) ∨ (183 ≤ j ∧ j < 207)) → S' j = S j) : CPg S' n w h L pu pA := by
  have hn := H.n12
  have t55 : eqC S S' n := fun x h7 hx => h1 x (by omega)
  have ho : ∀ a b, a < n → (ovr (tT S') n a b ↔ ovr (tT S) n a b) := fun a b ha => ovr_ext (fun k hk j hj => by show bt (S' (195 + k)) j = bt (S (195 + k)) j; rw [h1 _ (by omega)]) ha
  refine ⟨⟨H.u0, (h1 0 (by omega)).trans H.1.2.1, H.1.2.2⟩, ⟨H.u1, (h1 1 (by omega)).trans H.2.1.2.1, H.2.1.2.2⟩, ⟨H.u2, (h1 2 (by omega)).trans H.s2⟩, H.g.ext (fun j _ h => h1 j (by omega)), ?_, fun i hi => ⟨?_, ?_⟩, fun k hk => ?_, ?_, ?_, ?_, H.hi, ?_, fun q hq i hi => ?_⟩
  · rw [H.u3]; exact sumI_ext (fun k hk => by rw [h1 _ (by omega)])
  · rw [(H.hm i hi).1]; exact and_congr_right (fun hin => by rw [h1 _ (by omega)])
  · rw [(H.hm i hi).2]; exact and_congr_right (fun hin => by rw [h1 _ (by omega)])
  · obtain ⟨x, y, c, hs⟩ := H.sk k hk
    exact ⟨x, y, c, t55.sk (fun _ _ => rfl) hk hs⟩
  · intro k hk; rw [h1 _ (by omega), h1 _ (by omega), h1 _ (by omega), h1 _ (by omega)]; exact H.st k hk
  · intro k hk; rw [H.cr k hk]; exact acc_ext (fun o ho => by rw [t55.fC hk ho])
  · intro k hk; rw [h1 _ (by omega)]; exact H.td k hk
  · intro k hk j hj
    rw [(H.clo k hk j hj).1, (H.clo k hk j hj).2]
    exact ⟨and_congr_right (fun _ => (ho k j hk).symm), and_congr_right (fun hjn => (ho j k hjn).symm)⟩
  · rw [H.ce q hq i hi]
    exact and_congr_right (fun hin => exists_congr (fun j => and_congr_right (fun _ => by rw [t55.fq hin])))
theorem CPg.pag (H : CPg S 0 w h L pu pA) {a b : Nat} (ha : 3 ≤ a) (ha2 : a ≤ 24) (hb : 3 ≤ b) (hb2 : b ≤ 12) : CPg (upd (upd S 0 (nI a)) 1 (nI b)) 0 a b L (upd (upd pu 0 (nI a)) 1 (nI b)) pA :=
  ⟨⟨by rw [pk_un (by omega), pk_us], by rw [pk_un (by omega), pk_us], ha, ha2⟩, ⟨pk_us, pk_us, hb, hb2⟩, ⟨by rw [pk_un (by omega), pk_un (by omega)]; exact H.u2, by rw [pk_un (by omega), pk_un (by omega)]; exact H.s2⟩,
    H.g.ext (fun j _ _ => by rw [pk_un (by omega), pk_un (by omega)]), by rw [pk_un (by omega), pk_un (by omega)]; exact H.u3, fun i hi => by
      rw [pk_un (show (4 : Nat) ≠ 1 by omega), pk_un (show (4 : Nat) ≠ 0 by omega), pk_un (show (5 : Nat) ≠ 1 by omega), pk_un (show (5 : Nat) ≠ 0 by omega)]
      exact ⟨⟨fun z => absurd ((H.hm i hi).1.mp z).1 (by omega), fun z => absurd z.1 (by omega)⟩, ⟨fun z => absurd ((H.hm i hi).2.mp z).1 (by omega), fun z => absurd z.1 (by omega)⟩⟩,
    fun k hk => absurd hk (by omega), fun k hk => absurd hk (by omega), fun k hk => absurd hk (by omega), fun k hk => absurd hk (by omega), H.hi, fun k hk => absurd hk (by omega), fun q hq i hi => ⟨fun z => absurd ((H.ce q hq i hi).mp z).1 (by omega), fun z => absurd z.1 (by omega)⟩⟩
/-- one row more, empty, and nobody reaches it: the same chains -/
theorem pth_more {T T' : Nat → Int32} (hT : ∀ k, k < n → ∀ j, j < n → bt (T' k) j = bt (T k) j) (hN : ∀ k, k < n + 1 → bt (T' k) n = false) (h0 : ∀ j, bt (T' n) j = false) : ∀ i a b, pth T' (n + 1) (i + 1) a b ↔ a < n ∧ pth T n (i + 1) a b ∨ (n + 1 ≤ a ∧ pth T' (n + 1) (i + 1) a b) := by
  intro i
  induction i with
  | zero =>
    intro a b
    constructor
    · intro hp
      rcases Nat.lt_or_ge a (n + 1) with hl | hl
      · refine .inl ?_
        obtain ⟨x, hx, hb, e⟩ := hp
        rcases Nat.lt_or_ge a n with ha | ha
        · have hxn : x ≠ n := fun z => by rw [z, hN a hl] at hb; cases hb
          exact ⟨ha, x, by omega, by rw [← hT a ha x (by omega)]; exact hb, e⟩
        · obtain rfl : a = n := by omega
          rw [h0] at hb; cases hb
      · exact .inr ⟨hl, hp⟩
    · rintro (⟨ha, x, hx, hb, e⟩ | ⟨_, h⟩)
      · exact ⟨x, by omega, by rw [hT a ha x hx]; exact hb, e⟩
      · exact h
  | succ i ih =>
    intro a b
    constructor
    · intro hp
      rcases Nat.lt_or_ge a (n + 1) with hl | hl
      · refine .inl ?_
        obtain ⟨x, hx, hb, hp⟩ := hp
        rcases Nat.lt_or_ge a n with ha | ha
        · have hxn : x ≠ n := fun z => by rw [z, hN a hl] at hb; cases hb
          rcases (ih x b).mp hp with ⟨_, h⟩ | ⟨h, _⟩
          · exact ⟨ha, x, by omega, by rw [← hT a ha x (by omega)]; exact hb, h⟩
          · omega
        · obtain rfl : a = n := by omega
          rw [h0] at hb; cases hb
      · exact .inr ⟨hl, hp⟩
    · rintro (⟨ha, x, hx, hb, hp⟩ | ⟨_, h⟩)
      · exact ⟨x, by omega, by rw [hT a ha x hx]; exact hb, (ih x b).mpr (.inl ⟨hx, hp⟩)⟩
      · exact h
theorem pth_lt2 {T : Nat → Int32} : ∀ i a b, pth T n (i + 1) a b → b < n := by
  intro i
  induction i with
  | zero => rintro a b ⟨x, hx, _, e⟩; rw [← (show x = b from e)]; exact hx
  | succ i ih => rintro a b ⟨x, hx, _, h⟩; exact ih x b h
theorem ovr_more {T T' : Nat → Int32} (hT : ∀ k, k < n → ∀ j, j < n → bt (T' k) j = bt (T k) j) (hN : ∀ k, k < n + 1 → bt (T' k) n = false) (h0 : ∀ j, bt (T' n) j = false) {a b : Nat} (ha : a < n + 1) : ovr T' (n + 1) a b ↔ a < n ∧ b < n ∧ ovr T n a b := by
  constructor
  · rintro ⟨i, hp⟩
    rcases (pth_more hT hN h0 i a b).mp hp with ⟨h1, h2⟩ | ⟨h1, _⟩
    · exact ⟨h1, pth_lt2 i a b h2, i, h2⟩
    · omega
  · rintro ⟨h1, -, i, h2⟩
    exact ⟨i, (pth_more hT hN h0 i a b).mpr (.inl ⟨h1, h2⟩)⟩
end GA
