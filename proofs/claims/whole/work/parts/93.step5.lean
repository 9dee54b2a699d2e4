/-! ===== call by call: rows, mending ===== -/
theorem va_us {α : Type} {f : Nat → α} {k : Nat} {v : α} : va_up f k v k = v := if_pos rfl
theorem va_un {α : Type} {f : Nat → α} {k j : Nat} {v : α} (h : j ≠ k) : va_up f k v j = f j := if_neg h
section S5
variable {X : HM} {EV : Nat → Value} {d : Nat} {B t m : Nat} {hm hm1 hm2 : HM} {hs : Nat} {V V' : Nat → Nat → Int32} {AA AA' : Nat → Nat → Nat → Int32} {R R' : Nat → Int64} {u u' : Nat → Int32} {A A' : Nat → Nat → Int32} {RM RM' : Nat → Int64} {n w h nl np nw nr : Nat} {L : Nat → Nat} {pa pb qa qb : Nat}
theorem CPL.rw (c : CPL V AA R u A n w h L nl np nw nr) : IRW V AA A := c.2.2.2.2.2.2.1
theorem CPL.rz (c : CPL V AA R u A n w h L nl np nw nr) : ∀ i, i < 4 → A 24 i = -1 ∨ ∃ z, z ≤ 12 ∧ A 24 i = nI z := fun i hi => by
  obtain ⟨z, h1, h2, h3⟩ := c.rw i hi
  exact h3.elim (fun a => .inl a.2) (fun a => .inr ⟨z, h1, a.2.1⟩)
theorem CPL.rs (c : CPL V AA R u A n w h L nl np nw nr) : ∀ i, i < 4 → ∃ z, z ≤ 12 ∧ V (9 + i) 2 = nI z := fun i hi => by
  obtain ⟨z, h1, h2, h3⟩ := c.rw i hi
  exact ⟨z, h1, h2⟩
/-- a row changed, here and there -/
theorem CPL.row (c : CPL V AA R u A n w h L nl np nw nr) (e : ∀ k, k < 9 ∨ 13 ≤ k → V' k = V k ∧ AA' k = AA k) (hu : u' 3 = u 3 ∧ u' 6 = u 6 ∧ u' 9 = u 9 ∧ u' 10 = u 10 ∧ u' 18 = u 18) (hA : ∀ s, s ≠ 24 → s ≠ 25 → s ≠ 26 → A' s = A s) (hr : IRW V' AA' A') : CPL V' AA' R u' A' n w h L nl np nw nr := by
  have e1 := fun j hj => (e j hj).1
  have f1 := fun j hj => (e j hj).2
  obtain ⟨k3, k6, k9, k10, k18⟩ := hu
  obtain ⟨c1, c2, ⟨z, z1, z2, z3, z4⟩, ⟨c4, c5⟩, ⟨y, y1, y2, y3, y4⟩, ⟨a, x, x1, x2, x3, x4, x5, x6, x7⟩, c8, c9⟩ := c
  have a0 := hA 0 (by decide) (by decide) (by decide)
  have a2 := hA 2 (by decide) (by decide) (by decide)
  have a5 := hA 5 (by decide) (by decide) (by decide)
  have a16 := hA 16 (by decide) (by decide) (by decide)
  unfold CPL ITP IRG IAC ICA at *
  rw [e1 0 (by omega), e1 2 (by omega), e1 4 (by omega), e1 5 (by omega), e1 6 (by omega), e1 7 (by omega), e1 8 (by omega), e1 13 (by omega), f1 0 (by omega), f1 2 (by omega), f1 4 (by omega), f1 5 (by omega), f1 6 (by omega), f1 7 (by omega), f1 8 (by omega), a0, a5, a16]
  refine ⟨c1, c2, ⟨z, z1, z2, k6.trans z3, z4⟩, ⟨c4.trans k9.symm, c5.trans k10.symm⟩, ⟨y, y1, y2, k18.trans y3, y4⟩, ⟨a, x, x1, x2, x3, x4, k3.trans x5, fun i hi => ?_, fun i hi => ?_⟩, hr, c9⟩
  · rw [snp_ext a0 a2]; exact x6 i hi
  · rw [snp_ext a0 a2, snp_ext a0 a2]; exact x7 i hi
/-- the scratch page -/
theorem CPL.k1 (c : CPL V AA R u A n w h L nl np nw nr) (k : KX 1 V V' AA AA') : CPL V' AA' R u A n w h L nl np nw nr := by
  have e := fun j hj => (k j hj).1
  have f := fun j hj => (k j hj).2
  obtain ⟨c1, c2, c3, c4, c5, c6, c7, c8⟩ := c
  unfold CPL ITP IRG IAC ICA at *
  rw [e 0 (by decide), e 2 (by decide), e 4 (by decide), e 5 (by decide), e 6 (by decide), e 7 (by decide), e 8 (by decide), e 13 (by decide), f 0 (by decide), f 2 (by decide), f 4 (by decide), f 5 (by decide), f 6 (by decide), f 7 (by decide), f 8 (by decide)]
  refine ⟨c1, c2, c3, c4, c5, c6, fun i hi => ?_, c8⟩
  have := c7 i hi
  rw [e (9 + i) (by omega), f (9 + i) (by omega)]; exact this
theorem CPL.k17 (c : CPL V AA R u A n w h L nl np nw nr) (k : ∀ j, j ≠ 1 → j ≠ 7 → V' j = V j ∧ AA' j = AA j) (e7 : V' 7 = upd (V 7) 0 1) (f7 : AA' 7 5 = AA 7 5) : CPL V' AA' R u A n w h L nl np nw nr := by
  have e := fun j h1 hj => (k j h1 hj).1
  have f := fun j h1 hj => (k j h1 hj).2
  obtain ⟨c1, c2, c3, c4, c5, c6, c7, c8⟩ := c
  unfold CPL ITP IRG IAC ICA at *
  rw [e 0 (by decide) (by decide), e 2 (by decide) (by decide), e 4 (by decide) (by decide), e 5 (by decide) (by decide), e 6 (by decide) (by decide), e 8 (by decide) (by decide), e 13 (by decide) (by decide), f 0 (by decide) (by decide), f 2 (by decide) (by decide), f 4 (by decide) (by decide), f 5 (by decide) (by decide), f 6 (by decide) (by decide), f 8 (by decide) (by decide)]
  refine ⟨c1, c2, c3, c4, c5, c6, fun i hi => ?_, c8.1, fun z => ?_, fun z => ?_⟩
  · have := c7 i hi
    rw [e (9 + i) (by omega) (by omega), f (9 + i) (by omega) (by omega)]; exact this
  · rw [e7] at z; exact absurd z (show ¬ (1 : Int32) = 0 by decide)
  · rw [e7] at z; rw [f7]; exact c8.2.2 z
theorem mnS_ext {S : Nat → Int32} {N N' : Nat → Int32} : ∀ k, (∀ j, j < 2 * k → N j = N' j) → mnS S L n N k = mnS S L n N' k := by
  intro k
  induction k with
  | zero => intro _; rfl
  | succ k ih =>
    intro hN
    have ih := ih (fun j hj => hN j (by omega))
    unfold mnS
    rw [ih, hN (2 * k) (by omega), hN (2 * k + 1) (by omega)]
theorem st_row {r so z : Int32} (hI : INV B t m hm hs) : PR X EV (d + 19) 145 254 [.ref t, .int r, .int so, .int z] [.ref m, .int r, .int so, .int z] hm hs (KI32 B t m) := by
  obtain ⟨g, pa, pb, qa, qb, V, AA, R, u, A, RM, n, w, h, L, nl, np, nw, nr, hW, hM, c⟩ := hI
  have four : ∀ {i : Nat}, i < 4 → r = nI i → 0 ≤ r ∧ r < 4 := fun hi e => nix (n := 4) (by omega) hi e
  unfold PR
  refine c_row hW (fun h0 => ⟨_, rfl, ?_⟩) (fun h0 h1 => ⟨_, rfl, ?_⟩) (fun i hi e hso hz hm1 A1 hW1 hA1 s1 => ⟨_, rfl, ?_⟩)
  · exact m_row hM (fun _ hm2 hM2 s2 => ⟨rfl, ⟨_, rfl⟩, f0 g hW c hM2 kiU4 s2⟩) (fun h => absurd h h0) (fun i zz hi _ e => absurd (four hi e) h0)
  · exact m_row hM (fun h => absurd h0 h) (fun _ _ hm2 hM2 s2 => ⟨rfl, ⟨_, rfl⟩, f0 g hW c hM2 kiU4 s2⟩) (fun i zz hi hzz e ez hso => absurd ⟨hso, by rw [ez]; exact ⟨nI_pos' (by omega), (nI_leI (b := 12) (by omega) (by omega)).mpr hzz⟩⟩ h1)
  · refine m_row (g.mo hM s1) (fun h => absurd (four hi e) h) (fun _ h => absurd ⟨hso, hz⟩ h) (fun i' zz hi' hzz e' ez _ hm2 G hM2 hG s2 => ⟨rfl, ⟨_, rfl⟩, (g.s1 s1).s2 s2, pa, pb, qa, qb, _, _, R, _, _, RM, n, w, h, L, nl, np, nw, nr, (g.s1 s1).tw hW1 s2, hM2, ?_⟩)
    have e1 : i' = i := by rw [e] at e'; exact ((nI_eq (by omega) (by omega)).mp e').symm
    subst e1
    refine c.row (fun k hk => ⟨va_un (by omega), va_un (by omega)⟩) ⟨rfl, rfl, rfl, rfl, rfl⟩ (fun s h4 h5 h6 => by rw [va_un h6, va_un h5, va_un h4]) (fun x hx => ?_)
    by_cases ex : x = i'
    · subst ex
      refine ⟨zz, hzz, ?_, .inr ⟨?_, ?_, ?_, fun j hj => ?_⟩⟩
      · rw [va_us]; exact ez
      · rw [va_us]; exact (show ¬ (1 : Int32) = 0 by decide)
      · show upd (A 24) x z x = _; rw [pk_us]; exact ez
      · rw [va_us]; show so = upd (A 25) x so x; rw [pk_us]
      · rw [va_us, hA1 j (by omega)]; show 0 = G (12 * x + j); rw [hG, if_pos (by omega)]
    · obtain ⟨y, y1, y2, y3⟩ := c.rw x hx
      refine ⟨y, y1, by rw [va_un (by omega)]; exact y2, ?_⟩
      rw [va_un (show 9 + x ≠ 9 + i' by omega), va_un (show 9 + x ≠ 9 + i' by omega)]
      show _ ∨ _ ∧ upd (A 24) i' z x = nI y ∧ _ = upd (A 25) i' so x ∧ ∀ j, j < y → _ = G (12 * x + j)
      have e24 : va_up (va_up (va_up A 24 (upd (A 24) i' z)) 25 (upd (A 25) i' so)) 26 G 24 x = A 24 x := by show upd (A 24) i' z x = _; rw [pk_un ex]
      rw [e24, pk_un ex, pk_un ex]
      rcases y3 with y3 | ⟨y3, y4, y5, y6⟩
      · exact .inl y3
      · exact .inr ⟨y3, y4, y5, fun j hj => by rw [hG, if_neg (by omega)]; exact y6 j hj⟩
theorem st_write {r q v : Int32} (hI : INV B t m hm hs) : PR X EV (d + 19) 146 255 [.ref t, .int r, .int q, .int v] [.ref m, .int r, .int q, .int v] hm hs (KI32 B t m) := by
  obtain ⟨g, pa, pb, qa, qb, V, AA, R, u, A, RM, n, w, h, L, nl, np, nw, nr, hW, hM, c⟩ := hI
  have four : ∀ {i : Nat}, i < 4 → r = nI i → 0 ≤ r ∧ r < 4 := fun hi e => nix (n := 4) (by omega) hi e
  have same : ∀ {i i' : Nat}, i < 4 → i' < 4 → r = nI i → r = nI i' → i' = i := fun hi hi' e e' => by rw [e] at e'; exact ((nI_eq (by omega) (by omega)).mp e').symm
  unfold PR
  refine c_write hW c.rs (fun h0 => ⟨_, rfl, ?_⟩) (fun i hi e hv => ⟨_, rfl, ?_⟩) (fun i hi e hv hq => ⟨_, rfl, ?_⟩) (fun i j z hi e hv ez hz hj ej hm1 hW1 s1 => ⟨_, rfl, ?_⟩)
  · exact m_write hM c.rz (fun _ hm2 hM2 s2 => ⟨rfl, ⟨_, rfl⟩, f0 g hW c hM2 kiU4 s2⟩) (fun i hi e => absurd (four hi e) h0) (fun i z hi _ e => absurd (four hi e) h0) (fun i z j hi _ _ e => absurd (four hi e) h0)
  · obtain ⟨y, y1, y2, y3⟩ := c.rw i hi
    have y3 := y3.elim (fun a => a.2) (fun a => absurd hv a.1)
    refine m_write hM c.rz (fun h => absurd (four hi e) h) (fun i' hi' e' _ hm2 hM2 s2 => ⟨rfl, ⟨_, rfl⟩, f0 g hW c hM2 kiU4 s2⟩) (fun i' z hi' hz e' h24 => ?_) (fun i' z j hi' hz _ e' h24 => ?_)
    · rw [same hi hi' e e', y3] at h24; exact absurd h24.symm (nI_nm1 (by omega))
    · rw [same hi hi' e e', y3] at h24; exact absurd h24.symm (nI_nm1 (by omega))
  · obtain ⟨y, y1, y2, y3⟩ := c.rw i hi
    obtain ⟨y3, y4, y5, y6⟩ := y3.resolve_left (fun a => hv a.1)
    rw [y2] at hq
    refine m_write hM c.rz (fun h => absurd (four hi e) h) (fun i' hi' e' h => ?_) (fun i' z hi' hz e' h24 _ hm2 hM2 s2 => ⟨rfl, ⟨_, rfl⟩, f0 g hW c hM2 kiU4 s2⟩) (fun i' z j hi' hz hj e' h24 ej => ?_)
    · rw [same hi hi' e e', y4] at h; exact absurd h (nI_nm1 (by omega))
    · rw [same hi hi' e e', y4, nI_eq (by omega) (by omega)] at h24
      subst h24
      exact absurd (nix (by omega) hj ej) hq
  · obtain ⟨y, y1, y2, y3⟩ := c.rw i hi
    obtain ⟨y3, y4, y5, y6⟩ := y3.resolve_left (fun a => hv a.1)
    have ey : y = z := by rw [y2, nI_eq (by omega) (by omega)] at ez; exact ez
    subst ey
    refine m_write (g.mo hM s1) c.rz (fun h => absurd (four hi e) h) (fun i' hi' e' h => ?_) (fun i' z hi' hz' e' h24 hno => ?_) (fun i' z j' hi' hz' hj' e' h24 ej' x ex hm2 hM2 s2 => ?_)
    · rw [same hi hi' e e', y4] at h; exact absurd h (nI_nm1 (by omega))
    · rw [same hi hi' e e', y4, nI_eq (by omega) (by omega)] at h24
      subst h24
      exact absurd (nix (by omega) hj ej) hno
    · have e1 := same hi hi' e e'
      subst e1
      have e2 : j' = j := by rw [ej] at ej'; exact ((nI_eq (by omega) (by omega)).mp ej').symm
      subst e2
      rw [← y5] at ex
      subst ex
      refine ⟨rfl, ⟨_, rfl⟩, (g.s1 s1).s2 s2, pa, pb, qa, qb, _, _, R, _, _, RM, n, w, h, L, nl, np, nw, nr, (g.s1 s1).tw hW1 s2, hM2, ?_⟩
      refine c.row (fun k hk => ⟨rfl, va_un (by omega)⟩) ⟨rfl, rfl, rfl, rfl, rfl⟩ (fun s h4 h5 h6 => va_un h6) (fun x hx => ?_)
      by_cases ex : x = i'
      · subst ex
        refine ⟨y, y1, y2, .inr ⟨y3, y4, y5, fun k hk => ?_⟩⟩
        rw [va_us, va_us]
        show _ = upd (A 26) (12 * x + j') _ (12 * x + k)
        by_cases ek : k = j'
        · subst ek; rw [pk_us, pk_us]
        · rw [pk_un ek, pk_un (by omega)]; exact y6 k hk
      · obtain ⟨a, a1, a2, a3⟩ := c.rw x hx
        refine ⟨a, a1, a2, a3.imp id (fun ⟨b1, b2, b3, b4⟩ => ⟨b1, b2, b3, fun k hk => ?_⟩)⟩
        rw [va_un (show 9 + x ≠ 9 + i' by omega)]
        show _ = upd (A 26) (12 * i' + j') _ (12 * x + k)
        rw [pk_un (by omega)]; exact b4 k hk
theorem st_paste {r1 a r2 b z : Int32} (hI : INV B t m hm hs) : PR X EV (d + 19) 147 256 [.ref t, .int r1, .int a, .int r2, .int b, .int z] [.ref m, .int r1, .int a, .int r2, .int b, .int z] hm hs (KI32 B t m) := by
  obtain ⟨g, pa, pb, qa, qb, V, AA, R, u, A, RM, n, w, h, L, nl, np, nw, nr, hW, hM, c⟩ := hI
  have four : ∀ {r : Int32} {i : Nat}, i < 4 → r = nI i → 0 ≤ r ∧ r < 4 := fun hi e => nix (n := 4) (by omega) hi e
  have same : ∀ {r : Int32} {i i' : Nat}, i < 4 → i' < 4 → r = nI i → r = nI i' → i' = i := fun hi hi' e e' => by rw [e] at e'; exact ((nI_eq (by omega) (by omega)).mp e').symm
  have none : ∀ i, i < 4 → (V (9 + i) 0 = 0 ↔ A 24 i = -1) := fun i hi => by
    obtain ⟨y, y1, y2, y3⟩ := c.rw i hi
    rcases y3 with ⟨p, q⟩ | ⟨p, q, -⟩
    · exact ⟨fun _ => q, fun _ => p⟩
    · exact ⟨fun z => absurd z p, fun z => absurd (q.symm.trans z) (nI_nm1 (by omega))⟩
  have some : ∀ i z, i < 4 → z ≤ 12 → A 24 i = nI z → ¬ V (9 + i) 0 = 0 ∧ V (9 + i) 2 = nI z ∧ V (9 + i) 1 = A 25 i ∧ ∀ j, j < z → AA (9 + i) 3 j = A 26 (12 * i + j) := fun i z hi hz e => by
    obtain ⟨y, y1, y2, y3⟩ := c.rw i hi
    rcases y3 with ⟨p, q⟩ | ⟨p, q, p1, p2⟩
    · exact absurd (e.symm.trans q) (nI_nm1 (by omega))
    · have : y = z := by rw [e, nI_eq (by omega) (by omega)] at q; exact q.symm
      subst this
      exact ⟨p, y2, p1, p2⟩
  unfold PR
  refine c_paste hW c.rs (fun h0 => ⟨_, rfl, ?_⟩) (fun i j hi hj e e2 hv => ⟨_, rfl, ?_⟩) (fun i j hi hj e e2 hv hv2 hso => ⟨_, rfl, ?_⟩) (fun i j hi hj e e2 hv hv2 hso hno => ⟨_, rfl, ?_⟩) (fun i j z1 z2 zz a' b' hi hj e e2 hv hv2 hso ez1 ez2 l1 l2 ez ea eb ha hb hm1 hW1 s1 => ⟨_, rfl, ?_⟩)
  · exact m_paste hM c.rz (fun _ hm2 u2 A2 hM2 k2 s2 => ⟨rfl, ⟨_, rfl⟩, f0 g hW c hM2 k2.ki s2⟩) (fun i j hi hj e e2 => absurd ⟨four hi e, four hj e2⟩ h0) (fun i j hi hj e e2 => absurd ⟨four hi e, four hj e2⟩ h0) (fun i j z1 z2 hi hj e e2 => absurd ⟨four hi e, four hj e2⟩ h0) (fun i j z1 z2 zz a' b' hi hj e e2 => absurd ⟨four hi e, four hj e2⟩ h0)
  · have hv' : A 24 i = -1 ∨ A 24 j = -1 := hv.imp (none i hi).mp (none j hj).mp
    have no : ∀ {i' j' : Nat} {P : Prop}, i' < 4 → j' < 4 → r1 = nI i' → r2 = nI j' → ¬ A 24 i' = -1 → ¬ A 24 j' = -1 → P := fun hi' hj' e' e2' h1 h2 => by
      rw [same hi hi' e e'] at h1
      rw [same hj hj' e2 e2'] at h2
      exact absurd hv' (fun z => z.elim h1 h2)
    refine m_paste hM c.rz (fun h => absurd ⟨four hi e, four hj e2⟩ h) (fun i' j' _ _ _ _ _ hm2 u2 A2 hM2 k2 s2 => ⟨rfl, ⟨_, rfl⟩, f0 g hW c hM2 k2.ki s2⟩) (fun i' j' hi' hj' e' e2' h1 h2 => no hi' hj' e' e2' h1 h2) (fun i' j' z1 z2 hi' hj' e' e2' l1 l2 h1 h2 => no hi' hj' e' e2' (by rw [h1]; exact nI_nm1 (by omega)) (by rw [h2]; exact nI_nm1 (by omega))) (fun i' j' z1 z2 zz a' b' hi' hj' e' e2' l1 l2 h1 h2 => no hi' hj' e' e2' (by rw [h1]; exact nI_nm1 (by omega)) (by rw [h2]; exact nI_nm1 (by omega)))
  · have hv' : ¬ A 24 i = -1 := fun z => hv ((none i hi).mpr z)
    have hv2' : ¬ A 24 j = -1 := fun z => hv2 ((none j hj).mpr z)
    obtain ⟨y, y1, y2⟩ := (c.rz i hi).resolve_left hv'
    obtain ⟨x, x1, x2⟩ := (c.rz j hj).resolve_left hv2'
    have hso' : ¬ A 25 i = A 25 j := by rw [← (some i y hi y1 y2).2.2.1, ← (some j x hj x1 x2).2.2.1]; exact hso
    have no : ∀ {i' j' : Nat} {P : Prop}, i' < 4 → j' < 4 → r1 = nI i' → r2 = nI j' → A 25 i' = A 25 j' → P := fun hi' hj' e' e2' h1 => by
      rw [same hi hi' e e', same hj hj' e2 e2'] at h1
      exact absurd h1 hso'
    refine m_paste hM c.rz (fun h => absurd ⟨four hi e, four hj e2⟩ h) (fun i' j' hi' hj' e' e2' h => ?_) (fun i' j' _ _ _ _ _ _ _ hm2 u2 A2 hM2 k2 s2 => ⟨rfl, ⟨_, rfl⟩, f0 g hW c hM2 k2.ki s2⟩) (fun i' j' z1 z2 hi' hj' e' e2' l1 l2 h1 h2 h3 => no hi' hj' e' e2' h3) (fun i' j' z1 z2 zz a' b' hi' hj' e' e2' l1 l2 h1 h2 h3 => no hi' hj' e' e2' h3)
    rw [same hi hi' e e', same hj hj' e2 e2'] at h
    exact absurd h (fun z => z.elim hv' hv2')
  · have hv' : ¬ A 24 i = -1 := fun z => hv ((none i hi).mpr z)
    have hv2' : ¬ A 24 j = -1 := fun z => hv2 ((none j hj).mpr z)
    obtain ⟨y, y1, y2⟩ := (c.rz i hi).resolve_left hv'
    obtain ⟨x, x1, x2⟩ := (c.rz j hj).resolve_left hv2'
    have hso' : A 25 i = A 25 j := by rw [← (some i y hi y1 y2).2.2.1, ← (some j x hj x1 x2).2.2.1]; exact hso
    rw [(some i y hi y1 y2).2.1, (some j x hj x1 x2).2.1] at hno
    refine m_paste hM c.rz (fun h => absurd ⟨four hi e, four hj e2⟩ h) (fun i' j' hi' hj' e' e2' h => ?_) (fun i' j' hi' hj' e' e2' _ _ h => ?_) (fun i' j' z1 z2 hi' hj' e' e2' l1 l2 h1 h2 h3 _ hm2 u2 A2 hM2 k2 s2 => ⟨rfl, ⟨_, rfl⟩, f0 g hW c hM2 k2.ki s2⟩) (fun i' j' z1 z2 zz a' b' hi' hj' e' e2' l1 l2 h1 h2 h3 ez ea eb ha hb => ?_)
    · rw [same hi hi' e e', same hj hj' e2 e2'] at h
      exact absurd h (fun z => z.elim hv' hv2')
    · rw [same hi hi' e e', same hj hj' e2 e2'] at h
      exact absurd hso' h
    · have ei := same hi hi' e e'
      have ej := same hj hj' e2 e2'
      subst ei; subst ej
      have q1 : z1 = y := by rw [y2, nI_eq (by omega) (by omega)] at h1; exact h1.symm
      have q2 : z2 = x := by rw [x2, nI_eq (by omega) (by omega)] at h2; exact h2.symm
      subst q1; subst q2
      refine absurd ?_ hno
      rw [ez, ea, eb, nI_sub (show zz ≤ z1 by omega), nI_sub (show zz ≤ z2 by omega)]
      exact ⟨⟨⟨nI_pos' (by omega), (nI_leI (by omega) (by omega)).mpr (by omega)⟩, nI_pos' (by omega), (nI_leI (by omega) (by omega)).mpr (by omega)⟩, ⟨nI_pos' (by omega), (nI_leI (by omega) (by omega)).mpr (by omega)⟩, nI_pos' (by omega), (nI_leI (by omega) (by omega)).mpr (by omega)⟩
  · have hv' : ¬ A 24 i = -1 := fun z => hv ((none i hi).mpr z)
    have hv2' : ¬ A 24 j = -1 := fun z => hv2 ((none j hj).mpr z)
    obtain ⟨y, y1, y2⟩ := (c.rz i hi).resolve_left hv'
    obtain ⟨x, x1, x2⟩ := (c.rz j hj).resolve_left hv2'
    obtain ⟨o1, o2, o3, o4⟩ := some i y hi y1 y2
    obtain ⟨p1, p2, p3, p4⟩ := some j x hj x1 x2
    have q1 : y = z1 := by rw [o2, nI_eq (by omega) (by omega)] at ez1; exact ez1
    have q2 : x = z2 := by rw [p2, nI_eq (by omega) (by omega)] at ez2; exact ez2
    subst q1; subst q2
    have hso' : A 25 i = A 25 j := by rw [← o3, ← p3]; exact hso
    refine m_paste (g.mo hM s1) c.rz (fun h => absurd ⟨four hi e, four hj e2⟩ h) (fun i' j' hi' hj' e' e2' h => ?_) (fun i' j' hi' hj' e' e2' _ _ h => ?_) (fun i' j' z1 z2 hi' hj' e' e2' k1 k2 h1 h2 h3 hno => ?_) (fun i' j' z1 z2 zz2 a2 b2 hi' hj' e' e2' k1 k2 h1 h2 h3 ez' ea' eb' ha' hb' hm2 u2 A2 hM2 u4 kA kB s2 => ?_)
    · rw [same hi hi' e e', same hj hj' e2 e2'] at h
      exact absurd h (fun z => z.elim hv' hv2')
    · rw [same hi hi' e e', same hj hj' e2 e2'] at h
      exact absurd hso' h
    · have ei := same hi hi' e e'
      have ej := same hj hj' e2 e2'
      subst ei; subst ej
      rw [y2, nI_eq (by omega) (by omega)] at h1
      rw [x2, nI_eq (by omega) (by omega)] at h2
      subst h1; subst h2
      refine absurd ?_ hno
      rw [ez, ea, eb, nI_toInt (by omega), nI_toInt (by omega), nI_toInt (by omega)]
      exact ⟨⟨nI_pos' (by omega), nI_pos' (by omega), nI_pos' (by omega)⟩, by omega, by omega⟩
    · have ei := same hi hi' e e'
      have ej := same hj hj' e2 e2'
      subst ei; subst ej
      rw [y2, nI_eq (by omega) (by omega)] at h1
      rw [x2, nI_eq (by omega) (by omega)] at h2
      subst h1; subst h2
      rw [ez, nI_eq (by omega) (by omega)] at ez'
      rw [ea, nI_eq (by omega) (by omega)] at ea'
      rw [eb, nI_eq (by omega) (by omega)] at eb'
      subst ez'; subst ea'; subst eb'
      refine ⟨rfl, ⟨_, rfl⟩, (g.s1 s1).s2 s2, pa, pb, qa, qb, _, _, R, _, _, RM, n, w, h, L, nl, np, nw, nr, (g.s1 s1).tw hW1 s2, hM2, ?_⟩
      refine c.row (fun k hk => ⟨rfl, va_un (by omega)⟩) ⟨u4 3 (by decide), u4 6 (by decide), u4 9 (by decide), u4 10 (by decide), u4 18 (by decide)⟩ (fun s h4 h5 h6 => kA s h6) (fun k hk => ?_)
      rw [kA 24 (by decide), kA 25 (by decide)]
      by_cases ek : k = j'
      · subst ek
        refine ⟨x, x1, p2, .inr ⟨p1, x2, p3, fun k' hk' => ?_⟩⟩
        rw [va_us, va_us, kB]
        unfold va_cpy
        by_cases hin : b' ≤ k' ∧ k' < b' + zz
        · rw [if_pos hin, if_pos (by omega), o4 _ (by omega)]
          congr 1; omega
        · rw [if_neg hin, if_neg (by omega)]; exact p4 k' hk'
      · obtain ⟨q, q1, q2, q3⟩ := c.rw k hk
        refine ⟨q, q1, q2, q3.imp id (fun ⟨b1, b2, b3, b4⟩ => ⟨b1, b2, b3, fun k' hk' => ?_⟩)⟩
        rw [va_un (show 9 + k ≠ 9 + j' by omega), kB, if_neg (by omega)]
        exact b4 k' hk'
theorem st_mending {r wh : Int32} (hI : INV B t m hm hs) : PR X EV (d + 19) 148 258 [.ref t, .int r, .int wh] [.ref m, .int r, .int wh] hm hs (KI64 B t m) := by
  obtain ⟨g, pa, pb, qa, qb, V, AA, R, u, A, RM, n, w, h, L, nl, np, nw, nr, hW, hM, c⟩ := hI
  have hn := c.pg.n12
  have four : ∀ {i : Nat}, i < 4 → r = nI i → 0 ≤ r ∧ r < 4 := fun hi e => nix (n := 4) (by omega) hi e
  have same : ∀ {i i' : Nat}, i < 4 → i' < 4 → r = nI i → r = nI i' → i' = i := fun hi hi' e e' => by rw [e] at e'; exact ((nI_eq (by omega) (by omega)).mp e').symm
  unfold PR
  refine c_mending hW c.pg.u2 hn c.rs (fun h0 => ⟨_, rfl, ?_⟩) (fun i hi e hw hv => ⟨_, rfl, ?_⟩) (fun i z hi e hw hv ez hz hm1 V1 AA1 u0 A0 eu0 eA0 hW1 k1 s1 => ?_)
  · exact m_mending hM c.pg.s2 hn c.pg.sk.ln c.rz (fun _ hm2 u2 A2 hM2 k2 s2 => ⟨rfl, ⟨_, rfl⟩, f0 g hW c hM2 k2.ki s2⟩) (fun i hi e hw => absurd ⟨four hi e, hw⟩ h0) (fun i z hi _ e hw => absurd ⟨four hi e, hw⟩ h0)
  · obtain ⟨y, y1, y2, y3⟩ := c.rw i hi
    have y3 := y3.elim (fun a => a.2) (fun a => absurd hv a.1)
    refine m_mending hM c.pg.s2 hn c.pg.sk.ln c.rz (fun h => absurd ⟨four hi e, hw⟩ h) (fun i' hi' e' _ _ hm2 u2 A2 hM2 k2 s2 => ⟨rfl, ⟨_, rfl⟩, f0 g hW c hM2 k2.ki s2⟩) (fun i' z hi' hz e' _ h24 => ?_)
    rw [same hi hi' e e', y3] at h24; exact absurd h24.symm (nI_nm1 (by omega))
  · obtain ⟨y, y1, y2, y3⟩ := c.rw i hi
    obtain ⟨y3, y4, y5, y6⟩ := y3.resolve_left (fun a => hv a.1)
    have ey : y = z := by rw [y2, nI_eq (by omega) (by omega)] at ez; exact ez
    subst ey
    have H0 : CPl (A 0) n L u0 A0 := by
      have H := c.pg.l
      rw [eu0]
      refine ⟨H.1, H.2.1, H.2.2.1, fun k hk => (eA0 k (by omega)).1.trans (H.2.2.2.1 k hk), fun k hk => (eA0 k (by omega)).2.1.trans (H.2.2.2.2.1 k hk), fun k hk j hj => ?_⟩
      rw [(eA0 k (by omega)).2.2.1, (eA0 k (by omega)).2.2.2]; exact H.2.2.2.2.2 k hk j hj
    have hN : mnS (A 0) L n (AA (9 + i) 3) (y / 2) = mnS (A 0) L n (fun j => A 26 (12 * i + j)) (y / 2) := mnS_ext (y / 2) (fun j hj => y6 j (by omega))
    obtain ⟨M1, M2, M3⟩ := e_mend (N := AA (9 + i) 3) H0 (y / 2)
    have model : ∀ hm1, MO hm1 m u A RM → ∀ (v : Value) (K : HM → Prop), (∀ hm2 u2 A2 R2, MO hm2 m u2 A2 R2 → KI u u2 A A2 → sm m (m + 16) hm1 hm2 → K hm2) → v = .long (if wh = 0 then lN (lin (cl (mnS (A 0) L n (AA (9 + i) 3) (y / 2)).1 n) n (2 ^ n - 1)) else (mnS (A 0) L n (AA (9 + i) 3) (y / 2)).2.toInt64) → CC X EV (d + 19) 258 [.ref m, .int r, .int wh] hm1 hs (fun v2 hm2 hs2 => v2 = some v ∧ K hm2 ∧ hs2 = hs) := by
      intro hm1 hM1 v K hK ev
      refine m_mending hM1 c.pg.s2 hn c.pg.sk.ln c.rz (fun h => absurd ⟨four hi e, hw⟩ h) (fun i' hi' e' _ h => ?_) (fun i' z hi' hz e' _ h24 hm2 u2 A2 R2 hM2 k2 kA k16 s2 q eq => ⟨?_, hK hm2 u2 A2 R2 hM2 ⟨⟨k2 3 (by decide) (by decide) (by decide) (by decide) (by decide), k2 6 (by decide) (by decide) (by decide) (by decide) (by decide), k2 9 (by decide) (by decide) (by decide) (by decide) (by decide), k2 10 (by decide) (by decide) (by decide) (by decide) (by decide), k2 18 (by decide) (by decide) (by decide) (by decide) (by decide)⟩, kA 0 (by decide) (by decide) (by decide) (by decide) (by decide) (by decide) (by decide), kA 2 (by decide) (by decide) (by decide) (by decide) (by decide) (by decide) (by decide), kA 5 (by decide) (by decide) (by decide) (by decide) (by decide) (by decide) (by decide), k16, kA 24 (by decide) (by decide) (by decide) (by decide) (by decide) (by decide) (by decide), kA 25 (by decide) (by decide) (by decide) (by decide) (by decide) (by decide) (by decide), kA 26 (by decide) (by decide) (by decide) (by decide) (by decide) (by decide) (by decide)⟩ s2, rfl⟩)
      · rw [same hi hi' e e', y4] at h; exact absurd h (nI_nm1 (by omega))
      · have ei := same hi hi' e e'
        subst ei
        rw [y4, nI_eq (by omega) (by omega)] at h24
        subst h24
        rw [eq, ev, hN]
    refine ⟨fun h1 e7 f7 => ⟨_, rfl, ?_⟩, fun h1 T0 e7 f7 t0 t1 => ⟨_, rfl, ?_⟩⟩
    · have kx : KX 1 V V1 AA AA1 := fun j hj => by
        by_cases e : j = 7
        · subst e; exact ⟨e7, f7⟩
        · exact k1 j hj e
      refine c_mono (model hm1 (g.mo hM s1) _ (fun hm2 => INV B t m hm2 hs) (fun hm2 u2 A2 R2 hM2 ki s2 => ⟨(g.s1 s1).s2 s2, pa, pb, qa, qb, V1, AA1, R, u2, A2, R2, n, w, h, L, nl, np, nw, nr, (g.s1 s1).tw hW1 s2, hM2, (c.k1 kx).ki ki⟩) ?_) (fun v hm2 hs2 z => ⟨z.1, ⟨_, rfl⟩, by rw [z.2.2]; exact z.2.1⟩)
      rw [M3, if_neg (by rw [h1]; decide)]
    · have h0 : wh = 0 := by
        obtain ⟨x, hx, rfl⟩ := ixle (n := 1) (by omega) hw.1 hw.2
        rcases (show x = 0 ∨ x = 1 by omega) with e | e <;> subst e
        · rfl
        · exact absurd rfl h1
      refine c_mono (model hm1 (g.mo hM s1) _ (fun hm2 => INV B t m hm2 hs) (fun hm2 u2 A2 R2 hM2 ki s2 => ⟨(g.s1 s1).s2 s2, pa, pb, qa, qb, V1, AA1, R, u2, A2, R2, n, w, h, L, nl, np, nw, nr, (g.s1 s1).tw hW1 s2, hM2, (c.k17 k1 e7 (f7 5 (by decide))).ki ki⟩) ?_) (fun v hm2 hs2 z => ⟨z.1, ⟨_, rfl⟩, by rw [z.2.2]; exact z.2.1⟩)
      rw [if_pos h0, ← e_orders M1.2.1 M1.bl (T := pal ((mnd n (AA (9 + i) 3) (y / 2) (u0, A0, 0)).2.1 12) n (2 ^ n - 1) T0) ⟨T0, t0, t1, rfl, rfl⟩]
end S5
