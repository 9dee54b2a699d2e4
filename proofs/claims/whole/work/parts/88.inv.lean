/-! ===== what holds between the calls ===== -/
def ITP (V : Nat → Nat → Int32) (AA : Nat → Nat → Nat → Int32) (u : Nat → Int32) (A : Nat → Nat → Int32) : Prop := ∃ z, z ≤ 900 ∧ V 4 0 = nI z ∧ u 6 = nI z ∧ ∀ i, i < z → ∃ b, b < 256 ∧ AA 4 1 i = nI b ∧ A 5 i = (nI b).toInt8.toInt32
def IRG (V : Nat → Nat → Int32) (AA : Nat → Nat → Nat → Int32) (u : Nat → Int32) (A : Nat → Nat → Int32) : Prop := ∃ z, z ≤ 12 ∧ V 5 0 = nI z ∧ u 18 = nI z ∧ ∀ i, i < z → AA 5 1 i = A 16 i
/-- a kept state: of the act x -/
def snp (A : Nat → Nat → Int32) (a x : Nat) : Nat → Int32 := fun j => if x < a ∧ 183 ≤ j ∧ j < 217 then A 2 (34 * x + (j - 183)) else A 0 j
/-- taking an act back leads from S1 to S0 -/
def Udo (n nl : Nat) (k f s : Int32) (S0 S1 : Nat → Int32) : Prop :=
  (k = 0 ∧ ∃ i j, i < n ∧ j < n ∧ f = nI i ∧ s = nI j ∧ bt (S1 (195 + i)) j = true ∧ S0 = takM S1 i j) ∨ (k = 1 ∧ ∃ i j, i < n ∧ j < n ∧ f = nI i ∧ s = nI j ∧ bt (S1 (195 + i)) j = false ∧ S0 = tldM S1 i j) ∨
  (k = 2 ∧ ∃ i, i < n ∧ f = nI i ∧ (s = -1 ∨ s = 0 ∨ s = 1) ∧ S0 = upd S1 (183 + i) (s + 1)) ∨ (k = 3 ∧ ∃ i, i < nl ∧ f = nI i ∧ S0 = upd S1 (207 + i) s)
def IAC (V : Nat → Nat → Int32) (AA : Nat → Nat → Nat → Int32) (u : Nat → Int32) (A : Nat → Nat → Int32) (n nl : Nat) : Prop := ∃ a z, a ≤ 12 ∧ z < 12 ∧ V 6 0 = nI a ∧ V 6 1 = nI z ∧ u 3 = nI a ∧
  (∀ x, x < a → GS (snp A a x) n ∧ WT (sV (snp A a x) 6) nl) ∧ (∀ x, x < a → Udo n nl (AA 6 2 ((z + 12 - a + x) % 12)) (AA 6 3 ((z + 12 - a + x) % 12)) (AA 6 4 ((z + 12 - a + x) % 12)) (snp A a x) (snp A a (x + 1)))
def IRW (V : Nat → Nat → Int32) (AA : Nat → Nat → Nat → Int32) (A : Nat → Nat → Int32) : Prop := ∀ i, i < 4 → ∃ z, z ≤ 12 ∧ V (9 + i) 2 = nI z ∧ ((V (9 + i) 0 = 0 ∧ A 24 i = -1) ∨ (¬ V (9 + i) 0 = 0 ∧ A 24 i = nI z ∧ V (9 + i) 1 = A 25 i ∧ ∀ j, j < z → AA (9 + i) 3 j = A 26 (12 * i + j)))
def ICA (V : Nat → Nat → Int32) (AA : Nat → Nat → Nat → Int32) (R : Nat → Int64) (n nl np nw nr : Nat) : Prop := (V 8 0 = 0 → siR (V 0) (AA 0) (AA 2) n nl np nw nr (AA 8)) ∧ (V 7 0 = 0 → tb1 (AA 0 12) n (AA 7 3) (V 7 2)) ∧ (V 7 1 = 0 → tb2 (AA 0 12) n (AA 7 5) R)
def CPL (V : Nat → Nat → Int32) (AA : Nat → Nat → Nat → Int32) (R : Nat → Int64) (u : Nat → Int32) (A : Nat → Nat → Int32) (n w h : Nat) (L : Nat → Nat) (nl np nw nr : Nat) : Prop :=
  CPg (A 0) n w h L (V 0) (AA 0) ∧ CSc (A 0) nl np nw nr w h (V 2) (AA 2) ∧ ITP V AA u A ∧ (V 13 10 = u 9 ∧ V 13 11 = u 10) ∧ IRG V AA u A ∧ IAC V AA u A n nl ∧ IRW V AA A ∧ ICA V AA R n nl np nw nr
def GEO (B t m : Nat) (hm : HM) (hs : Nat) : Prop := t + 70 ≤ m ∧ m + 16 ≤ hs ∧ B ≤ t ∧ lowN B hm
def INV (B t m : Nat) (hm : HM) (hs : Nat) : Prop := GEO B t m hm hs ∧ ∃ pa pb qa qb V AA R u A RM n w h L nl np nw nr, TW hm t pa pb qa qb V AA R ∧ MO hm m u A RM ∧ CPL V AA R u A n w h L nl np nw nr
def PR (X : HM) (EV : Nat → Value) (dd y1 y2 : Nat) (as1 as2 : List Value) (hm : HM) (hs : Nat) (K : Value → HM → Nat → Prop) : Prop := CC X EV dd y1 as1 hm hs (fun v1 hm1 hs1 => ∃ a, v1 = some a ∧ CC X EV dd y2 as2 hm1 hs1 (fun v2 hm2 hs2 => v2 = some a ∧ K a hm2 hs2))
section IV
variable {B t m : Nat} {hm hm1 hm2 : HM} {hs : Nat} {V V' : Nat → Nat → Int32} {AA AA' : Nat → Nat → Nat → Int32} {R R' : Nat → Int64} {u u' : Nat → Int32} {A A' : Nat → Nat → Int32} {RM : Nat → Int64} {n w h nl np nw nr : Nat} {L : Nat → Nat} {pa pb qa qb : Nat}
theorem GEO.s1 (g : GEO B t m hm hs) (s : sm t (t + 70) hm hm1) : GEO B t m hm1 hs := ⟨g.1, g.2.1, g.2.2.1, fun a ha => by rw [s a (by have := g.2.2.1; omega)]; exact g.2.2.2 a ha⟩
theorem GEO.s2 (g : GEO B t m hm hs) (s : sm m (m + 16) hm hm1) : GEO B t m hm1 hs := ⟨g.1, g.2.1, g.2.2.1, fun a ha => by rw [s a (by have := g.2.2.1; have := g.1; omega)]; exact g.2.2.2 a ha⟩
theorem GEO.mo (g : GEO B t m hm hs) (hM : MO hm m u A RM) (s : sm t (t + 70) hm hm1) : MO hm1 m u A RM := hM.s s (by have := g.1; omega)
theorem GEO.tw (g : GEO B t m hm hs) (hW : TW hm t pa pb qa qb V AA R) (s : sm m (m + 16) hm hm1) : TW hm1 t pa pb qa qb V AA R := hW.s s (.inr (by have := g.1; omega))
/-- what the model may change between questions -/
def KI (u u' : Nat → Int32) (A A' : Nat → Nat → Int32) : Prop := (u' 3 = u 3 ∧ u' 6 = u 6 ∧ u' 9 = u 9 ∧ u' 10 = u 10 ∧ u' 18 = u 18) ∧ A' 0 = A 0 ∧ A' 2 = A 2 ∧ A' 5 = A 5 ∧ (∀ x, x < 12 → A' 16 x = A 16 x) ∧ A' 24 = A 24 ∧ A' 25 = A 25 ∧ A' 26 = A 26
theorem KM.ki (k : KM u u' A A') : KI u u' A A' := by
  have f : ∀ s, s ≠ 13 → s ≠ 14 → s ≠ 17 → s ≠ 21 → A' s = A s := k.2
  have g : ∀ s, s ≠ 4 → s ≠ 15 → s ≠ 20 → s ≠ 22 → s ≠ 23 → u' s = u s := k.1
  exact ⟨⟨g 3 (by decide) (by decide) (by decide) (by decide) (by decide), g 6 (by decide) (by decide) (by decide) (by decide) (by decide), g 9 (by decide) (by decide) (by decide) (by decide) (by decide), g 10 (by decide) (by decide) (by decide) (by decide) (by decide), g 18 (by decide) (by decide) (by decide) (by decide) (by decide)⟩,
    f 0 (by decide) (by decide) (by decide) (by decide), f 2 (by decide) (by decide) (by decide) (by decide), f 5 (by decide) (by decide) (by decide) (by decide), fun x _ => by rw [f 16 (by decide) (by decide) (by decide) (by decide)], f 24 (by decide) (by decide) (by decide) (by decide), f 25 (by decide) (by decide) (by decide) (by decide), f 26 (by decide) (by decide) (by decide) (by decide)⟩
theorem snp_ext {a x : Nat} (h0 : A' 0 = A 0) (h2 : A' 2 = A 2) : snp A' a x = snp A a x := by unfold snp; rw [h0, h2]
theorem CPL.ki (c : CPL V AA R u A n w h L nl np nw nr) (k : KI u u' A A') : CPL V AA R u' A' n w h L nl np nw nr := by
  obtain ⟨⟨k3, k6, k9, k10, k18⟩, a0, a2, a5, a16, a24, a25, a26⟩ := k
  obtain ⟨c1, c2, ⟨z, z1, z2, z3, z4⟩, ⟨c4, c5⟩, ⟨y, y1, y2, y3, y4⟩, ⟨a, x, x1, x2, x3, x4, x5, x6, x7⟩, c8, c9⟩ := c
  refine ⟨by rw [a0]; exact c1, by rw [a0]; exact c2, ⟨z, z1, z2, k6.trans z3, fun i hi => by rw [a5]; exact z4 i hi⟩, ⟨c4.trans k9.symm, c5.trans k10.symm⟩, ⟨y, y1, y2, k18.trans y3, fun i hi => by rw [a16 i (by omega)]; exact y4 i hi⟩, ⟨a, x, x1, x2, x3, x4, k3.trans x5, fun i hi => ?_, fun i hi => ?_⟩, fun i hi => ?_, c9⟩
  · rw [snp_ext a0 a2]; exact x6 i hi
  · rw [snp_ext a0 a2, snp_ext a0 a2]; exact x7 i hi
  · obtain ⟨z, h1, h2, h3⟩ := c8 i hi
    refine ⟨z, h1, h2, ?_⟩
    rw [a24, a25, a26]; exact h3
theorem CPL.k8 (c : CPL V AA R u A n w h L nl np nw nr) (k : KX 8 V V' AA AA') (h1 : V' 8 0 = 0 → siR (V 0) (AA 0) (AA 2) n nl np nw nr (AA' 8)) : CPL V' AA' R u A n w h L nl np nw nr := by
  have e := fun j hj => (k j hj).1
  have f := fun j hj => (k j hj).2
  obtain ⟨c1, c2, c3, c4, c5, c6, c7, c8⟩ := c
  unfold CPL ITP IRG IAC ICA at *
  rw [e 0 (by decide), e 2 (by decide), e 4 (by decide), e 5 (by decide), e 6 (by decide), e 7 (by decide), e 13 (by decide), f 0 (by decide), f 2 (by decide), f 4 (by decide), f 5 (by decide), f 6 (by decide), f 7 (by decide)]
  refine ⟨c1, c2, c3, c4, c5, c6, fun i hi => ?_, h1, c8.2⟩
  have := c7 i hi
  rw [e (9 + i) (by omega), f (9 + i) (by omega)]; exact this
theorem CPL.k7 (c : CPL V AA R u A n w h L nl np nw nr) (k : KX 7 V V' AA AA') (h1 : V' 7 0 = 0 → tb1 (AA 0 12) n (AA' 7 3) (V' 7 2)) (h2 : V' 7 1 = 0 → tb2 (AA 0 12) n (AA' 7 5) R') : CPL V' AA' R' u A n w h L nl np nw nr := by
  have e := fun j hj => (k j hj).1
  have f := fun j hj => (k j hj).2
  obtain ⟨c1, c2, c3, c4, c5, c6, c7, c8⟩ := c
  unfold CPL ITP IRG IAC ICA at *
  rw [e 0 (by decide), e 2 (by decide), e 4 (by decide), e 5 (by decide), e 6 (by decide), e 8 (by decide), e 13 (by decide), f 0 (by decide), f 2 (by decide), f 4 (by decide), f 5 (by decide), f 6 (by decide), f 8 (by decide)]
  refine ⟨c1, c2, c3, c4, c5, c6, fun i hi => ?_, c8.1, h1, h2⟩
  have := c7 i hi
  rw [e (9 + i) (by omega), f (9 + i) (by omega)]; exact this
theorem CPL.pg (c : CPL V AA R u A n w h L nl np nw nr) : CPg (A 0) n w h L (V 0) (AA 0) := c.1
theorem CPL.sc (c : CPL V AA R u A n w h L nl np nw nr) : CSc (A 0) nl np nw nr w h (V 2) (AA 2) := c.2.1
theorem CPL.sz (c : CPL V AA R u A n w h L nl np nw nr) : SZ V AA n w h nl np nw nr := sz_of c.1 c.2.1
theorem CPL.mz (c : CPL V AA R u A n w h L nl np nw nr) : MZ (A 0) n w h nl np nw nr L := c.1.mz c.2.1.ws
theorem CPL.c8 (c : CPL V AA R u A n w h L nl np nw nr) : V 8 0 = 0 → siR (V 0) (AA 0) (AA 2) n nl np nw nr (AA 8) := c.2.2.2.2.2.2.2.1
theorem CPL.t1 (c : CPL V AA R u A n w h L nl np nw nr) : V 7 0 = 0 → tb1 (AA 0 12) n (AA 7 3) (V 7 2) := c.2.2.2.2.2.2.2.2.1
theorem CPL.t2 (c : CPL V AA R u A n w h L nl np nw nr) : V 7 1 = 0 → tb2 (AA 0 12) n (AA 7 5) R := c.2.2.2.2.2.2.2.2.2
end IV
