/-! ===== told, taken, hands: the coupling stays ===== -/
def eq55 (S S' : Nat → Int32) : Prop := ∀ j, j < 55 → S' j = S j
section E5
variable {S S' : Nat → Int32} {n w hh : Nat} {L : Nat → Nat}
theorem eq55.fX (h : eq55 S S') {k : Nat} {i : Int32} (hk : k < 12) : mX S' k i = mX S k i := by unfold mX; rw [h _ (by omega), h _ (by omega)]
theorem eq55.fY (h : eq55 S S') {k : Nat} {i : Int32} (hk : k < 12) : mY S' k i = mY S k i := by unfold mY; rw [h _ (by omega), h _ (by omega)]
theorem eq55.fC (h : eq55 S S') {a b : Nat} (ha : a < 12) (hb : b < 12) : cmn S' L a b = cmn S L a b := by
  show fstv _ _ _ = fstv _ _ _
  refine fstv_ext (fun i _ => ?_) (fun i _ => ?_)
  · simp only [h.fX ha, h.fX hb, h.fY ha, h.fY hb]
  · simp only [h.fX ha, h.fY ha]
theorem eq55.fq (h : eq55 S S') {k j : Nat} (hk : k < 12) : cq S' k j = cq S k j := by unfold cq; rw [h _ (by omega), h _ (by omega), h _ (by omega)]
theorem eq55.sk (h : eq55 S S') (hn : n ≤ 12) (hs : SKs S L n w hh) : SKs S' L n w hh := fun k hk => by
  obtain ⟨x, y, c, a1, a2, a3, a4, a5, a6, b1, b2, b3, b4⟩ := hs k hk
  exact ⟨x, y, c, a1, a2, a3, a4, a5, a6, (h _ (by omega)).trans b1, (h _ (by omega)).trans b2, (h _ (by omega)).trans b3, (h _ (by omega)).trans b4⟩
theorem eq55.ce (h : eq55 S S') (hn : n ≤ 12) {ce : Nat → Int32} (hc : CLs S L n ce) : CLs S' L n ce := fun q hq i hi => by
  rw [hc q hq i hi]
  constructor
  · rintro ⟨a, j, b, c⟩; exact ⟨a, j, b, by rw [h.fq (by omega)]; exact c⟩
  · rintro ⟨a, j, b, c⟩; exact ⟨a, j, b, by rw [h.fq (by omega)] at c; exact c⟩
theorem eq55.cr (h : eq55 S S') (hn : n ≤ 12) {k : Nat} (hk : k < n) : acc (fun o => k ≠ o ∧ cmn S' L k o ≠ -1) n = acc (fun o => k ≠ o ∧ cmn S L k o ≠ -1) n := acc_ext (fun o ho => by rw [h.fC (by omega) (by omega)])
end E5
/-- what telling looks at -/
def CPl (S : Nat → Int32) (n : Nat) (L : Nat → Nat) (pu : Nat → Int32) (pA : Nat → Nat → Int32) : Prop := pu 2 = nI n ∧ GS S n ∧ HMk S n (pu 4) (pu 5) ∧ (∀ k, k < n → pA 10 k = acc (fun o => k ≠ o ∧ cmn S L k o ≠ -1) n) ∧ (∀ k, k < n → pA 11 k = S (195 + k)) ∧ CLO (tT S) n (pA 12) (pA 13)
section C2
variable {S S' : Nat → Int32} {n w h nl np nw nr : Nat} {L : Nat → Nat} {pu su : Nat → Int32} {pA sA : Nat → Nat → Int32}
theorem CPg.l (H : CPg S n w h L pu pA) : CPl S n L pu pA := ⟨H.u2, H.g, H.hm, H.cr, H.td, H.clo⟩
theorem CPl.bl (H : CPl S n L pu pA) : ∀ k, k < n → pA 12 k = cl S n k := (H.2.2.2.2.2.of H.2.1.n12 H.2.1.tb).1
theorem ref_no (a b : Int32) (h : ¬ ((0 ≤ a ∧ a < nI n) ∧ (0 ≤ b ∧ b < nI n))) : refV pu pA n a b = -2 := by unfold refV; rw [if_pos h]
theorem ref_eq (H : CPl S n L pu pA) {i j : Nat} (hi : i < n) (hj : j < n) : refV pu pA n (nI i) (nI j) = if ¬ ((i ≠ j ∧ cmn S L i j ≠ -1) ∧ ¬ bt (S (195 + i)) j = true) then -5 else if bt (cl S n j) i = true then -105 else if wyM (tldM S i j) n = 0 then -9 else 0 := by
  have hn := H.2.1.n12
  unfold refV
  rw [if_neg (fun z => z ⟨ix2 (by omega) hi, ix2 (by omega) hj⟩), nI_clamp (by omega), nI_clamp (by omega), H.bl j hj]
  have e1 : (¬ (i ≠ j ∧ bt (pA 10 i) j = true ∧ bt (pA 11 i) j = false)) ↔ ¬ ((i ≠ j ∧ cmn S L i j ≠ -1) ∧ ¬ bt (S (195 + i)) j = true) := by
    rw [H.2.2.2.1 i hi, H.2.2.2.2.1 i hi, b_acc _ (by omega) (by omega), decide_eq_true_eq]
    refine not_congr ⟨fun z => ⟨z.2.1.2, by rw [z.2.2]; decide⟩, fun z => ⟨z.1.1, ⟨hj, z.1⟩, by cases h : bt (S (195 + i)) j; rfl; exact absurd h z.2⟩⟩
  have e2 := link_way H.2.1 hi hj H.2.2.1 H.2.2.2.2.2
  by_cases c1 : ¬ ((i ≠ j ∧ cmn S L i j ≠ -1) ∧ ¬ bt (S (195 + i)) j = true)
  · rw [if_pos (e1.mpr c1), if_pos c1]
  · rw [if_neg (fun z => c1 (e1.mp z)), if_neg c1]
    by_cases c2 : bt (cl S n j) i = true
    · rw [if_pos c2, if_pos c2]
    · rw [if_neg c2, if_neg c2]
      rw [H.bl j hj] at e2
      by_cases c3 : wyM (tldM S i j) n = 0
      · rw [if_pos (e2.mpr c3), if_pos c3]
      · rw [if_neg (fun z => c3 (e2.mp z)), if_neg c3]
theorem tld55 {i j : Nat} : eq55 S (tldM S i j) := fun x hx => pk_un (by omega)
theorem lnk_10 {i j : Nat} : lnkA n i j pA 10 = pA 10 := rfl
theorem lnk_11 {i j : Nat} : lnkA n i j pA 11 = upd (pA 11) i (pA 11 i ||| sb j) := rfl
/-- told one more -/
theorem CPl.tld (H : CPl S n L pu pA) {i j : Nat} (hi : i < n) (hj : j < n) (hij : i ≠ j) (hr : ¬ bt (cl S n j) i = true) (hw : ¬ wyM (tldM S i j) n = 0) {x : Int32} : CPl (tldM S i j) n L (upd pu 3 x) (lnkA n i j pA) := by
  have hn := H.2.1.n12
  refine ⟨(pk_un (by decide)).trans H.1, H.2.1.tld hi hj (fun z => hr ((cl_iff hj hi).mpr z)) hij hw, fun k hk => ?_, fun k hk => ?_, fun k hk => ?_, ?_⟩
  · have := H.2.2.1 k hk
    rw [pk_un (by decide), pk_un (by decide)]
    refine ⟨this.1.trans ⟨fun z => ⟨z.1, (tld_h (by omega)).trans z.2⟩, fun z => ⟨z.1, (tld_h (by omega)).symm.trans z.2⟩⟩, this.2.trans ⟨fun z => ⟨z.1, (tld_h (by omega)).trans z.2⟩, fun z => ⟨z.1, (tld_h (by omega)).symm.trans z.2⟩⟩⟩
  · rw [lnk_10, H.2.2.2.1 k hk]; exact (tld55.cr hn hk).symm
  · rw [lnk_11]
    by_cases e : k = i
    · rw [e, pk_us, H.2.2.2.2.1 i hi]; exact pk_us.symm
    · rw [pk_un e, H.2.2.2.2.1 k hk]; exact (pk_un (by omega)).symm
  · exact chs_clo hn hi hj H.2.2.2.2.2 (tld_b hn hj)
theorem pc_or {x : Int32} {j : Nat} (hj : j < 12) (hx : ∀ i, 12 ≤ i → i < 32 → bt x i = false) (hb : bt x j = false) : pcnt (x ||| sb j) = pcnt x + 1 := by
  obtain ⟨m, hm, e⟩ := msk (n := 12) (by omega) hx
  subst e
  have hbm : m.testBit j = false := by rw [← b_nI (a := m) (i := j) (by omega)]; exact hb
  obtain ⟨o1, o2⟩ := or_xor hbm
  rw [orsb (by omega), pcn_k _ hm, pcn_k _ (or_lt hm hj)]
  have := cntb_xor (n := 12) hj o2
  rw [o1] at this
  rw [← this, nI_succ]
theorem sumI_upd {f g : Nat → Int32} {i : Nat} {d : Int32} : ∀ k, i < k → (∀ x, x < k → x ≠ i → g x = f x) → g i = f i + d → sumI g k = sumI f k + d := by
  intro k
  induction k with
  | zero => intro h; omega
  | succ k ih =>
    intro hi h1 h2
    unfold sumI
    by_cases e : i = k
    · subst e
      rw [h2, sumI_ext (f := g) (g := f) (fun x hx => h1 x (by omega) (by omega)), Int32.add_assoc]
    · rw [ih (by omega) (fun x hx hne => h1 x (by omega) hne) h2, h1 k (by omega) (by omega)]
      rw [Int32.add_assoc, Int32.add_assoc, Int32.add_comm d]
theorem or_hi {x : Int32} {j : Nat} (hj : j < 12) (hx : ∀ i, 12 ≤ i → i < 32 → bt x i = false) : ∀ i, 12 ≤ i → i < 32 → bt (x ||| sb j) i = false := fun i h1 h2 => by
  rw [b_or, hx i h1 h2, b_sb (by omega) h2, decide_eq_false (by omega)]; rfl
theorem and_hi {x y : Int32} (hx : ∀ i, 12 ≤ i → i < 32 → bt x i = false) : ∀ i, 12 ≤ i → i < 32 → bt (x &&& y) i = false := fun i h1 h2 => by
  rw [b_and, hx i h1 h2]; rfl
theorem CPg.tld (H : CPg S n w h L pu pA) {i j : Nat} (hi : i < n) (hj : j < n) (hij : i ≠ j) (hnt : bt (S (195 + i)) j = false) (hr : ¬ bt (cl S n j) i = true) (hw : ¬ wyM (tldM S i j) n = 0) : CPg (tldM S i j) n w h L (upd pu 3 (pu 3 + 1)) (lnkA n i j pA) := by
  have hn := H.n12
  have l := H.l.tld hi hj hij hr hw (x := pu 3 + 1)
  have t55 : eq55 S (tldM S i j) := tld55
  refine ⟨⟨(pk_un (by decide)).trans H.u0, (t55 0 (by omega)).trans H.1.2.1, H.1.2.2⟩, ⟨(pk_un (by decide)).trans H.u1, (t55 1 (by omega)).trans H.2.1.2.1, H.2.1.2.2⟩, ⟨l.1, (t55 2 (by omega)).trans H.s2⟩, l.2.1, ?_, l.2.2.1, t55.sk hn H.sk, ?_, l.2.2.2.1, l.2.2.2.2.1, ?_, l.2.2.2.2.2, t55.ce hn H.ce⟩
  · rw [pk_us, H.u3]
    symm
    refine sumI_upd (i := i) n hi (fun x hx hne => ?_) ?_
    · show pcnt (upd S (195 + i) _ (195 + x)) = _
      rw [pk_un (by omega)]
    · show pcnt (upd S (195 + i) _ (195 + i)) = _
      rw [pk_us]
      refine pc_or (by omega) (fun x h1 h2 => ?_) hnt
      rw [← H.td i hi]; exact H.hi i (by omega) x h1 h2
  · intro k hk
    obtain ⟨a, b, c, d⟩ := H.st k hk
    exact ⟨a.trans (t55 _ (by omega)).symm, b.trans (t55 _ (by omega)).symm, c.trans (t55 _ (by omega)).symm, d.trans (t55 _ (by omega)).symm⟩
  · intro k hk
    rw [lnk_11]
    by_cases e : k = i
    · rw [e, pk_us]; exact or_hi (by omega) (H.hi i (by omega))
    · rw [pk_un e]; exact H.hi k hk
/-- taken away -/
def takM (S : Nat → Int32) (i j : Nat) : Nat → Int32 := upd S (195 + i) (S (195 + i) &&& (sb j ^^^ (-1)))
theorem tak55 {i j : Nat} : eq55 S (takM S i j) := fun x hx => pk_un (by omega)
theorem tak_h {i j k : Nat} (hk : k < 12) : takM S i j (183 + k) = S (183 + k) := pk_un (by omega)
theorem tak_b {i j : Nat} (hn : n ≤ 12) (hj : j < n) : ∀ k, k < n → ∀ x, x < 32 → (bt (tT (takM S i j) k) x = true ↔ bt (tT S k) x = true ∧ ¬ (k = i ∧ x = j)) := by
  intro k hk x hx
  show bt (upd S (195 + i) (S (195 + i) &&& (sb j ^^^ (-1))) (195 + k)) x = true ↔ _
  by_cases e : k = i
  · rw [e, pk_us, b_and, b_not _ hx, b_sb (by omega) hx, Bool.and_eq_true]
    by_cases e2 : x = j
    · rw [decide_eq_true e2]; exact ⟨fun z => (by cases z.2), fun z => absurd ⟨rfl, e2⟩ z.2⟩
    · rw [decide_eq_false e2]; exact ⟨fun z => ⟨z.1, fun q => e2 q.2⟩, fun z => ⟨z.1, rfl⟩⟩
  · rw [pk_un (by omega)]; exact ⟨fun z => ⟨z, fun q => e q.1⟩, fun z => z.1⟩
theorem tak_ov {i j a b : Nat} (hn : n ≤ 12) (hj : j < n) (ha : a < n) (h : ovr (tT (takM S i j)) n a b) : ovr (tT S) n a b := by
  obtain ⟨x, hp⟩ := h
  refine ⟨x, ?_⟩
  generalize x + 1 = y at hp
  induction y generalizing a with
  | zero => exact hp
  | succ y ih =>
    obtain ⟨z, hz, hb, hp⟩ := hp
    exact ⟨z, hz, ((tak_b hn hj a ha z (by omega)).mp hb).1, ih hz hp⟩
theorem GS.tak (hG : GS S n) {i j : Nat} (hj : j < n) : GS (takM S i j) n := by
  have hn := hG.n12
  refine ⟨hn, fun k hk x h1 h2 => ?_, fun k hk ho => hG.ac k hk (tak_ov hn hj hk ho), fun k hk => by rw [tak_h (by omega)]; exact hG.hv k hk, fun a b ha hb h1 h2 h3 => ?_⟩
  · cases h : bt (takM S i j (195 + k)) x
    · rfl
    · have := ((tak_b hn hj k hk x h2).mp h).1
      have h3 := hG.tb k hk x h1 h2
      rw [show tT S k = S (195 + k) from rfl, h3] at this; cases this
  · rw [tak_h (by omega)] at h1 h2
    exact hG.co a b ha hb h1 h2 (tak_ov hn hj ha h3)
theorem CPg.tak (H : CPg S n w h L pu pA) {i j : Nat} (hi : i < n) (hj : j < n) (ht : bt (S (195 + i)) j = true) : CPg (takM S i j) n w h L (upd pu 3 (pu 3 - 1)) (unlA n i j pA) := by
  have hn := H.n12
  have t55 : eq55 S (takM S i j) := tak55
  have hG := H.g.tak (i := i) hj
  have e11 : unlA n i j pA 11 = upd (pA 11) i (pA 11 i &&& (sb j ^^^ (-1))) := rfl
  have etd : ∀ k, k < n → unlA n i j pA 11 k = takM S i j (195 + k) := by
    intro k hk
    rw [e11]
    by_cases e : k = i
    · rw [e, pk_us, H.td i hi]; exact pk_us.symm
    · rw [pk_un e, H.td k hk]; exact (pk_un (by omega)).symm
  refine ⟨⟨(pk_un (by decide)).trans H.u0, (t55 0 (by omega)).trans H.1.2.1, H.1.2.2⟩, ⟨(pk_un (by decide)).trans H.u1, (t55 1 (by omega)).trans H.2.1.2.1, H.2.1.2.2⟩, ⟨(pk_un (by decide)).trans H.u2, (t55 2 (by omega)).trans H.s2⟩, hG, ?_, ?_, t55.sk hn H.sk, ?_, ?_, etd, ?_, ?_, t55.ce hn H.ce⟩
  · rw [pk_us, H.u3]
    have e := sumI_upd (f := fun k => pcnt (takM S i j (195 + k))) (g := fun k => pcnt (S (195 + k))) (i := i) (d := 1) n hi (fun x hx hne => by
      show _ = pcnt (upd S (195 + i) _ (195 + x))
      rw [pk_un (by omega)]) (by
      show pcnt (S (195 + i)) = pcnt (upd S (195 + i) _ (195 + i)) + 1
      rw [pk_us, ← pc_or (x := S (195 + i) &&& (sb j ^^^ (-1))) (j := j) (by omega) (and_hi (fun x h1 h2 => by rw [← H.td i hi]; exact H.hi i (by omega) x h1 h2)) (by rw [b_and, b_not _ (by omega), b_sb (by omega) (by omega), decide_eq_true rfl]; simp)]
      congr 1
      apply b_ext
      intro x hx
      rw [b_or, b_and, b_not _ hx, b_sb (by omega) hx]
      by_cases e : x = j
      · rw [e, ht, decide_eq_true rfl]; rfl
      · rw [decide_eq_false e]; simp)
    rw [e]
    exact Int32.add_sub_cancel _ _
  · intro k hk
    have := H.hm k hk
    rw [pk_un (by decide), pk_un (by decide)]
    refine ⟨this.1.trans ⟨fun z => ⟨z.1, (tak_h (by omega)).trans z.2⟩, fun z => ⟨z.1, (tak_h (by omega)).symm.trans z.2⟩⟩, this.2.trans ⟨fun z => ⟨z.1, (tak_h (by omega)).trans z.2⟩, fun z => ⟨z.1, (tak_h (by omega)).symm.trans z.2⟩⟩⟩
  · intro k hk
    obtain ⟨a, b, c, d⟩ := H.st k hk
    exact ⟨a.trans (t55 _ (by omega)).symm, b.trans (t55 _ (by omega)).symm, c.trans (t55 _ (by omega)).symm, d.trans (t55 _ (by omega)).symm⟩
  · intro k hk
    show pA 10 k = _
    rw [H.cr k hk]; exact (t55.cr hn hk).symm
  · intro k hk
    rw [e11]
    by_cases e : k = i
    · rw [e, pk_us]; exact and_hi (H.hi i (by omega))
    · rw [pk_un e]; exact H.hi k hk
  · have := cha_all (td := upd (pA 11) i (pA 11 i &&& (sb j ^^^ (-1)))) (b0 := pA 12) (a0 := pA 13) hn
    refine CLO.ext (T := upd (pA 11) i (pA 11 i &&& (sb j ^^^ (-1)))) this (fun k hk x hx => ?_)
    rw [← e11, etd k hk]
/-- a hand told, taken back -/
theorem CPg.hnd (H : CPg S n w h L pu pA) {i : Nat} {v : Int32} {pu' : Nat → Int32} (hi : i < n) (hv : v = -1 ∨ v = 0 ∨ v = 1) (hG : GS (upd S (183 + i) (v + 1)) n)
    (h4 : pu' 4 = if v = 0 then (pu 4 &&& (sb i ^^^ (-1))) ||| sb i else pu 4 &&& (sb i ^^^ (-1))) (h5 : pu' 5 = if v = 1 then (pu 5 &&& (sb i ^^^ (-1))) ||| sb i else pu 5 &&& (sb i ^^^ (-1))) (hu : ∀ s, s ≠ 4 → s ≠ 5 → pu' s = pu s) : CPg (upd S (183 + i) (v + 1)) n w h L pu' pA := by
  have hn := H.n12
  have t55 : eq55 S (upd S (183 + i) (v + 1)) := fun x hx => pk_un (by omega)
  have ht : ∀ k, k < n → upd S (183 + i) (v + 1) (195 + k) = S (195 + k) := fun k hk => pk_un (by omega)
  refine ⟨⟨(hu 0 (by decide) (by decide)).trans H.u0, (t55 0 (by omega)).trans H.1.2.1, H.1.2.2⟩, ⟨(hu 1 (by decide) (by decide)).trans H.u1, (t55 1 (by omega)).trans H.2.1.2.1, H.2.1.2.2⟩, ⟨(hu 2 (by decide) (by decide)).trans H.u2, (t55 2 (by omega)).trans H.s2⟩, hG, ?_, ?_, t55.sk hn H.sk, ?_, ?_, ?_, H.hi, ?_, t55.ce hn H.ce⟩
  · rw [hu 3 (by decide) (by decide), H.u3]; exact sumI_ext (fun k hk => by rw [ht k hk])
  · intro k hk
    obtain ⟨a, b⟩ := H.hm k hk
    have hb : ∀ x : Int32, bt (x &&& (sb i ^^^ (-1))) k = true ↔ bt x k = true ∧ k ≠ i := fun x => by
      rw [b_and, b_not _ hk, b_sb (by omega) hk, Bool.and_eq_true]
      by_cases e : k = i
      · rw [decide_eq_true e]; exact ⟨fun z => (by cases z.2), fun z => absurd e z.2⟩
      · rw [decide_eq_false e]; exact ⟨fun z => ⟨z.1, e⟩, fun z => ⟨z.1, rfl⟩⟩
    have hb2 : ∀ x : Int32, bt ((x &&& (sb i ^^^ (-1))) ||| sb i) k = true ↔ (bt x k = true ∧ k ≠ i) ∨ k = i := fun x => by
      rw [b_or, Bool.or_eq_true, hb, b_sb (by omega) hk, decide_eq_true_eq]
    constructor
    · rw [h4]
      by_cases e : k = i
      · subst e
        rcases hv with e | e | e
        · rw [if_neg (by rw [e]; decide), hb, pk_us, e]; exact ⟨fun z => absurd rfl z.2, fun z => absurd z.2 (by decide)⟩
        · rw [if_pos e, hb2, pk_us, e]; exact ⟨fun _ => ⟨hi, by decide⟩, fun _ => .inr rfl⟩
        · rw [if_neg (by rw [e]; decide), hb, pk_us, e]; exact ⟨fun z => absurd rfl z.2, fun z => absurd z.2 (by decide)⟩
      · rw [pk_un (show 183 + k ≠ 183 + i by omega)]
        split
        · rw [hb2, a]; exact ⟨fun z => z.elim (fun q => q.1) (fun q => absurd q e), fun z => .inl ⟨z, e⟩⟩
        · rw [hb, a]; exact ⟨fun z => z.1, fun z => ⟨z, e⟩⟩
    · rw [h5]
      by_cases e : k = i
      · subst e
        rcases hv with e | e | e
        · rw [if_neg (by rw [e]; decide), hb, pk_us, e]; exact ⟨fun z => absurd rfl z.2, fun z => absurd z.2 (by decide)⟩
        · rw [if_neg (by rw [e]; decide), hb, pk_us, e]; exact ⟨fun z => absurd rfl z.2, fun z => absurd z.2 (by decide)⟩
        · rw [if_pos e, hb2, pk_us, e]; exact ⟨fun _ => ⟨hi, by decide⟩, fun _ => .inr rfl⟩
      · rw [pk_un (show 183 + k ≠ 183 + i by omega)]
        split
        · rw [hb2, b]; exact ⟨fun z => z.elim (fun q => q.1) (fun q => absurd q e), fun z => .inl ⟨z, e⟩⟩
        · rw [hb, b]; exact ⟨fun z => z.1, fun z => ⟨z, e⟩⟩
  · intro k hk
    obtain ⟨a, b, c, d⟩ := H.st k hk
    exact ⟨a.trans (t55 _ (by omega)).symm, b.trans (t55 _ (by omega)).symm, c.trans (t55 _ (by omega)).symm, d.trans (t55 _ (by omega)).symm⟩
  · intro k hk
    rw [H.cr k hk]; exact (t55.cr hn hk).symm
  · intro k hk; rw [H.td k hk]; exact (ht k hk).symm
  · exact H.clo.ext (fun k hk x hx => by show bt (S (195 + k)) x = _; rw [← ht k hk])
end C2
