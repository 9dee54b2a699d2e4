/-! ===== call by call: orders, ways, layers ===== -/
theorem cfs_sum {F : Nat → Int32} {G : Nat → Int32} : ∀ k, (∀ q, q < k → F q = G q) → cfs F k = sumI (fun q => pcnt (G q)) k := by
  intro k
  induction k with
  | zero => intro _; rfl
  | succ k ih =>
    intro h
    have a1 : cfs F (k + 1) = cfs F k + pcnt (F k) := rfl
    have a2 : sumI (fun q => pcnt (G q)) (k + 1) = sumI (fun q => pcnt (G q)) k + pcnt (G k) := rfl
    rw [a1, a2, ih (fun q hq => h q (by omega)), h k (by omega)]
theorem kiU4 {u : Nat → Int32} {A : Nat → Nat → Int32} : KI u (upd u 4 0) A A := ⟨⟨rfl, rfl, rfl, rfl, rfl⟩, rfl, rfl, rfl, fun _ _ => rfl, rfl, rfl, rfl⟩
section S3
variable {X : HM} {EV : Nat → Value} {d : Nat} {B t m : Nat} {hm hm1 hm2 : HM} {hs : Nat} {V V' : Nat → Nat → Int32} {AA AA' : Nat → Nat → Nat → Int32} {R R' : Nat → Int64} {u u' : Nat → Int32} {A A' : Nat → Nat → Int32} {RM RM' : Nat → Int64} {n w h nl np nw nr : Nat} {L : Nat → Nat} {pa pb qa qb : Nat}
theorem st_crossing {a b : Int32} (hX : XT X EV B) (hI : INV B t m hm hs) : PR X EV (d + 19) 113 206 [.ref t, .int a, .int b] [.ref m, .int a, .int b] hm hs (KI32 B t m) := by
  obtain ⟨g, pa, pb, qa, qb, V, AA, R, u, A, RM, n, w, h, L, nl, np, nw, nr, hW, hM, c⟩ := hI
  have hn := c.pg.n12
  unfold PR
  refine c_crossing hW hX g.2.2.2 c.sz (fun i hi => ?_) (fun h0 => ⟨_, rfl, ?_⟩) (fun i j x l hi hj hij ea eb hx hl ex el => ⟨_, rfl, ?_⟩)
  · obtain ⟨x, y, x', h1, h2, h3, h4, h5, h6, e1, e2, e3, e4⟩ := c.pg.sk i hi
    exact ⟨x', L i, h3, h5, (c.pg.st i hi).2.2.1.trans e3, (c.pg.st i hi).2.2.2.trans e4⟩
  · exact m_crossing hM c.pg.s2 hn c.pg.sk.ln (fun _ hm2 u2 A2 hM2 k2 s2 => ⟨rfl, ⟨_, rfl⟩, f0 g hW c hM2 k2.ki s2⟩) (fun i j hi hj hij ea eb => absurd ⟨nix (by omega) hi ea, nix (by omega) hj eb, fun z => hij ((nI_eq (by omega) (by omega)).mp (ea.symm.trans (z.trans eb)))⟩ h0)
  · refine m_crossing hM c.pg.s2 hn c.pg.sk.ln (fun h0 => absurd ⟨nix (by omega) hi ea, nix (by omega) hj eb, fun z => hij ((nI_eq (by omega) (by omega)).mp (ea.symm.trans (z.trans eb)))⟩ h0) (fun i' j' hi' hj' _ ea' eb' hm2 u2 A2 hM2 k2 s2 => ⟨?_, ⟨_, rfl⟩, f0 g hW c hM2 k2.ki s2⟩)
    have e1 : i' = i := by rw [ea] at ea'; exact ((nI_eq (by omega) (by omega)).mp ea').symm
    have e2 : j' = j := by rw [eb] at eb'; exact ((nI_eq (by omega) (by omega)).mp eb').symm
    subst e1; subst e2
    rw [c.pg.common hi hj hx hl ex el]
theorem st_order {k : Int32} (hI : INV B t m hm hs) : PR X EV (d + 19) 115 208 [.ref t, .int k] [.ref m, .int k] hm hs (KI32 B t m) := by
  obtain ⟨g, pa, pb, qa, qb, V, AA, R, u, A, RM, n, w, h, L, nl, np, nw, nr, hW, hM, c⟩ := hI
  have hn := c.pg.n12
  have hex : ∀ i, i < n → fstN (fun k => bt (ordm (cl (A 0) n) n i) k = false ∧ cl (A 0) n k &&& (ordm (cl (A 0) n) n i ^^^ (-1)) = 0) n < n := fun i hi => (ord_ex c.pg.g i (by omega)).2 hi
  have neg : ∀ i, i < n → k = nI i → ¬ k < 0 ∧ k < nI n := fun i hi e => by
    obtain ⟨a, b⟩ := nix (by omega) hi e
    exact ⟨by grind, b⟩
  unfold PR
  refine c_order hW c.pg.u2 hn (fun h0 => ⟨_, rfl, ?_⟩) (fun h0 h1 => ⟨_, rfl, ?_⟩) (fun i hi e => ⟨_, rfl, ?_⟩)
  · exact m_order hM c.pg.s2 hn hex (fun _ hm2 u2 A2 hM2 k2 s2 => ⟨rfl, ⟨_, rfl⟩, f0 g hW c hM2 k2.ki s2⟩) (fun h => absurd h0 h) (fun i hi e => absurd h0 (neg i hi e).1)
  · exact m_order hM c.pg.s2 hn hex (fun h => absurd h h0) (fun _ _ hm2 u2 A2 hM2 k2 s2 => ⟨rfl, ⟨_, rfl⟩, f0 g hW c hM2 k2.ki s2⟩) (fun i hi e => absurd (neg i hi e).2 h1)
  · refine m_order hM c.pg.s2 hn hex (fun h => absurd h (neg i hi e).1) (fun _ h => absurd (neg i hi e).2 h) (fun i' hi' e' hm2 u2 A2 hM2 k2 s2 => ⟨?_, ⟨_, rfl⟩, f0 g hW c hM2 k2.ki s2⟩)
    have e1 : i' = i := by rw [e] at e'; exact ((nI_eq (by omega) (by omega)).mp e').symm
    subst e1
    rw [e_order c.pg.g c.pg.bl hi]
theorem st_orders (hI : INV B t m hm hs) : PR X EV (d + 19) 116 210 [.ref t] [.ref m] hm hs (KI64 B t m) := by
  obtain ⟨g, pa, pb, qa, qb, V, AA, R, u, A, RM, n, w, h, L, nl, np, nw, nr, hW, hM, c⟩ := hI
  have hn := c.pg.n12
  unfold PR
  refine c_orders hW c.pg.u2 hn c.t1 (fun hm1 V1 AA1 hW1 k1 z1 z2 e5 r1 s1 => ⟨_, rfl, ?_⟩)
  refine m_orders (g.mo hM s1) c.pg.s2 hn (fun hm2 u2 A2 R2 hM2 k2 s2 => ⟨?_, ⟨_, rfl⟩, f7 g hW1 c k1 (fun _ => r1) (fun z => by rw [e5]; exact c.t2 (z2 ▸ z)) s1 hM2 k2.ki s2⟩)
  rw [e_orders c.pg.g c.pg.bl r1]
theorem st_ahead {a b : Int32} (hI : INV B t m hm hs) : PR X EV (d + 19) 117 212 [.ref t, .int a, .int b] [.ref m, .int a, .int b] hm hs (KI64 B t m) := by
  obtain ⟨g, pa, pb, qa, qb, V, AA, R, u, A, RM, n, w, h, L, nl, np, nw, nr, hW, hM, c⟩ := hI
  have hn := c.pg.n12
  unfold PR
  refine c_ahead hW c.pg.u2 hn c.t1 c.t2 (fun h0 => ⟨_, rfl, ?_⟩) (fun i j hi hj hij ea eb hm1 V1 AA1 R1 hW1 k1 z1 z2 r1 r2 s1 => ⟨_, rfl, ?_⟩)
  · exact m_ahead hM c.pg.s2 hn (fun _ hm2 u2 A2 hM2 k2 s2 => ⟨rfl, ⟨_, rfl⟩, f0 g hW c hM2 k2.ki s2⟩) (fun i j hi hj hij ea eb => absurd ⟨nix (by omega) hi ea, nix (by omega) hj eb, fun z => hij ((nI_eq (by omega) (by omega)).mp (ea.symm.trans (z.trans eb)))⟩ h0)
  · refine m_ahead (g.mo hM s1) c.pg.s2 hn (fun h0 => absurd ⟨nix (by omega) hi ea, nix (by omega) hj eb, fun z => hij ((nI_eq (by omega) (by omega)).mp (ea.symm.trans (z.trans eb)))⟩ h0) (fun i' j' hi' hj' _ ea' eb' hm2 u2 A2 R2 hM2 k2 s2 => ⟨?_, ⟨_, rfl⟩, f7 g hW1 c k1 (fun _ => r1) (fun _ => r2) s1 hM2 k2.ki s2⟩)
    have e1 : i' = i := by rw [ea] at ea'; exact ((nI_eq (by omega) (by omega)).mp ea').symm
    have e2 : j' = j := by rw [eb] at eb'; exact ((nI_eq (by omega) (by omega)).mp eb').symm
    subst e1; subst e2
    obtain ⟨e, l⟩ := e_ahead c.pg.g c.pg.bl r2 hi hj hij
    rw [e, nI_l (by omega)]
theorem st_ways (hI : INV B t m hm hs) : PR X EV (d + 19) 118 213 [.ref t] [.ref m] hm hs (KI32 B t m) := by
  obtain ⟨g, pa, pb, qa, qb, V, AA, R, u, A, RM, n, w, h, L, nl, np, nw, nr, hW, hM, c⟩ := hI
  have hn := c.pg.n12
  unfold PR
  refine c_ways hW c.pg.u2 hn c.t1 (fun hm1 V1 AA1 hW1 k1 z1 z2 e5 r1 s1 => ⟨_, rfl, ?_⟩)
  refine m_ways (g.mo hM s1) c.pg.s2 hn (fun hm2 u2 A2 hM2 k2 s2 => ⟨?_, ⟨_, rfl⟩, f7 g hW1 c k1 (fun _ => r1) (fun z => by rw [e5]; exact c.t2 (z2 ▸ z)) s1 hM2 k2.ki s2⟩)
  rw [e_ways c.pg.g c.pg.bl r1 c.pg.hm]
theorem st_layers (hI : INV B t m hm hs) : PR X EV (d + 19) 119 214 [.ref t] [.ref m] hm hs (KI32 B t m) := by
  obtain ⟨g, pa, pb, qa, qb, V, AA, R, u, A, RM, n, w, h, L, nl, np, nw, nr, hW, hM, c⟩ := hI
  have hn := c.pg.n12
  obtain ⟨r1, r2⟩ := rkk_12 c.pg.g
  unfold PR
  refine c_layers hW c.pg.u2 hn ⟨_, rfl, ?_⟩
  refine m_layers hM c.pg.s2 hn r1 r2 (fun hm2 u2 A2 hM2 k2 s2 => ⟨?_, ⟨_, rfl⟩, f0 g hW c hM2 k2.ki s2⟩)
  rw [e_layers c.pg.g c.pg.bl]
theorem st_asking {wh : Int32} (hI : INV B t m hm hs) : PR X EV (d + 19) 135 246 [.ref t, .int wh] [.ref m, .int wh] hm hs (KI64 B t m) := by
  obtain ⟨g, pa, pb, qa, qb, V, AA, R, u, A, RM, n, w, h, L, nl, np, nw, nr, hW, hM, c⟩ := hI
  have hn := c.pg.n12
  unfold PR
  refine c_asking hW c.pg.u2 hn c.t1 c.t2 (fun h0 => ⟨_, rfl, ?_⟩) (fun w0 w2 hm1 V1 AA1 R1 hW1 k1 z1 z2 r1 r2 s1 => ?_)
  · exact m_asking hM c.pg.s2 hn c.pg.sk.ln (fun _ hm2 u2 A2 hM2 k2 s2 => ⟨rfl, ⟨_, rfl⟩, f0 g hW c hM2 k2.ki s2⟩) (fun h => absurd h h0)
  · have hk := e_ask c.pg.l r2 (u 22) (u 23) n (Nat.le_refl _)
    refine ⟨fun hno => ⟨_, rfl, ?_⟩, fun a b hab hb hyes => ⟨_, rfl, ?_⟩⟩
    · refine m_asking (g.mo hM s1) c.pg.s2 hn c.pg.sk.ln (fun h0 => absurd ⟨w0, w2⟩ h0) (fun _ hm2 u2 A2 R2 q hM2 k2 eq s2 => ⟨?_, ⟨_, rfl⟩, f7 g hW1 c k1 (fun _ => r1) (fun _ => r2) s1 hM2 k2.ki s2⟩)
      rw [← eq] at hk
      rcases hk with ⟨-, h2⟩ | ⟨a, b, h1, h2, e1, -⟩
      · rw [if_pos (.inl h2), h2]
      · rw [e1] at hno; exact absurd hno (nI_nm1 (by omega))
    · refine m_asking (g.mo hM s1) c.pg.s2 hn c.pg.sk.ln (fun h0 => absurd ⟨w0, w2⟩ h0) (fun _ hm2 u2 A2 R2 q hM2 k2 eq s2 => ⟨?_, ⟨_, rfl⟩, f7 g hW1 c k1 (fun _ => r1) (fun _ => r2) s1 hM2 k2.ki s2⟩)
      rw [← eq] at hk
      rcases hk with ⟨h1, -⟩ | ⟨a', b', h1, h2, e1, e2⟩
      · rw [h1] at hyes; exact absurd hyes.symm (nI_nm1 (by omega))
      · rw [e1] at hyes
        have hab' := (nI_eq (by omega) (by omega)).mp hyes
        have ea : a' = a := by omega
        have eb : b' = b := by omega
        subst ea; subst eb
        obtain ⟨k1, -, k3⟩ := ak_eq c.pg.g c.pg.bl r2 (show a' < n by omega) hb (by omega)
        rw [e2]
        have nm : ¬ lN (akN (A 0) n a' b') = -1 := fun z => by
          have := (l6_lt (a := akN (A 0) n a' b') (b := 479001601) (by omega) (by omega)).mpr (by omega)
          have h0 := (l6_le (a := 0) (b := akN (A 0) n a' b') (by omega) (by omega)).mpr (by omega)
          rw [z] at h0; exact absurd h0 (by decide)
        by_cases h2 : wh = 2
        · rw [if_pos h2, if_pos (.inr h2), k1, nI_l (by omega)]
        · rw [if_neg h2, if_neg (fun z => z.elim nm h2)]
theorem st_span {k wh : Int32} (hI : INV B t m hm hs) : PR X EV (d + 19) 140 215 [.ref t, .int k, .int wh] [.ref m, .int k, .int wh] hm hs (KI64 B t m) := by
  obtain ⟨g, pa, pb, qa, qb, V, AA, R, u, A, RM, n, w, h, L, nl, np, nw, nr, hW, hM, c⟩ := hI
  have hn := c.pg.n12
  have p0 : 0 < 2 ^ n := Nat.two_pow_pos n
  have l12 := lin_12 (o := cl (A 0) n) hn (show 2 ^ n - 1 < 2 ^ n by omega)
  have lpos := lin_all c.pg.g
  have hall : ¬ lN (lin (cl (A 0) n) n (2 ^ n - 1)) = 0 := fun z => lpos ((lN_eq (b := 0) (by omega) (by omega)).mp z)
  unfold PR
  refine c_span hW c.pg.u2 hn c.t1 c.t2 (fun h0 => ⟨_, rfl, ?_⟩) (fun i hi e hw2 => ⟨_, rfl, ?_⟩) (fun i hi e hw2 hm1 V1 AA1 R1 hW1 k1 z1 z2 r1 r2 s1 => ⟨_, rfl, ?_⟩)
  · exact m_span hM c.pg.s2 hn hall (fun _ hm2 u2 A2 hM2 k2 s2 => ⟨rfl, ⟨_, rfl⟩, f0 g hW c hM2 k2.ki s2⟩) (fun i hi e _ => absurd (nix (by omega) hi e) h0)
  · refine m_span hM c.pg.s2 hn hall (fun h0 hm2 u2 A2 hM2 k2 s2 => ⟨?_, ⟨_, rfl⟩, f0 g hW c hM2 k2.ki s2⟩) (fun i' hi' e' hwr hm2 u2 A2 R2 hM2 k2 s2 => ⟨?_, ⟨_, rfl⟩, f0 g hW c hM2 k2.ki s2⟩)
    · have hno : ¬ (0 ≤ wh ∧ wh ≤ 2) := fun z => h0 ⟨nix (by omega) hi e, z⟩
      rw [if_neg (fun z => hno (by rw [z]; decide)), if_neg (fun z => hno (by rw [z]; decide))]
    · have e1 : i' = i := by rw [e] at e'; exact ((nI_eq (by omega) (by omega)).mp e').symm
      subst e1
      obtain ⟨x, hx, rfl⟩ := ixle (n := 2) (by omega) hwr.1 hwr.2
      rcases (show x = 0 ∨ x = 1 ∨ x = 2 by omega) with e | e | e <;> subst e
      · rw [if_pos (show nI 0 = 0 from rfl), if_pos (show nI 0 = 0 from rfl), c.pg.bl i' hi]
      · rw [if_neg (by decide), if_pos (show nI 1 = 1 from rfl), if_neg (by decide), if_pos (show nI 1 = 1 from rfl), c.pg.ab i' hi]
      · exact absurd rfl hw2
  · refine m_span (g.mo hM s1) c.pg.s2 hn hall (fun h0 => absurd ⟨nix (by omega) hi e, by rw [hw2]; decide⟩ h0) (fun i' hi' e' hwr hm2 u2 A2 R2 hM2 k2 s2 => ⟨?_, ⟨_, rfl⟩, f7 g hW1 c k1 (fun _ => r1) (fun _ => r2) s1 hM2 k2.ki s2⟩)
    have e1 : i' = i := by rw [e] at e'; exact ((nI_eq (by omega) (by omega)).mp e').symm
    subst e1
    have ea : V1 7 2 = nI (lin (cl (A 0) n) n (2 ^ n - 1)) := by rw [(tb1_lin r1).2, lin_ext c.pg.bl]
    rw [hw2, if_neg (by decide), if_neg (by decide), ea, if_pos (by rw [show (0 : Int32) = nI 0 from rfl]; exact nI_lt (by omega) (by omega)), nI_l (by omega), e_mean c.pg.g c.pg.bl r2 hi]
theorem st_paired {a b : Int32} (hI : INV B t m hm hs) : PR X EV (d + 19) 141 216 [.ref t, .int a, .int b] [.ref m, .int a, .int b] hm hs (KI32 B t m) := by
  obtain ⟨g, pa, pb, qa, qb, V, AA, R, u, A, RM, n, w, h, L, nl, np, nw, nr, hW, hM, c⟩ := hI
  have hn := c.pg.n12
  unfold PR
  refine c_paired hW c.pg.u2 hn (fun h0 => ⟨_, rfl, ?_⟩) (fun i j hi hj hij ea eb => ⟨_, rfl, ?_⟩)
  · exact m_paired hM c.pg.s2 hn (fun _ hm2 u2 A2 hM2 k2 s2 => ⟨rfl, ⟨_, rfl⟩, f0 g hW c hM2 k2.ki s2⟩) (fun i j hi hj hij ea eb => absurd ⟨nix (by omega) hi ea, nix (by omega) hj eb, fun z => hij ((nI_eq (by omega) (by omega)).mp (ea.symm.trans (z.trans eb)))⟩ h0)
  · refine m_paired hM c.pg.s2 hn (fun h0 => absurd ⟨nix (by omega) hi ea, nix (by omega) hj eb, fun z => hij ((nI_eq (by omega) (by omega)).mp (ea.symm.trans (z.trans eb)))⟩ h0) (fun i' j' hi' hj' _ ea' eb' hm2 u2 A2 hM2 k2 s2 => ⟨?_, ⟨_, rfl⟩, f0 g hW c hM2 k2.ki s2⟩)
    have e1 : i' = i := by rw [ea] at ea'; exact ((nI_eq (by omega) (by omega)).mp ea').symm
    have e2 : j' = j := by rw [eb] at eb'; exact ((nI_eq (by omega) (by omega)).mp eb').symm
    subst e1; subst e2
    rw [← c.pg.bl i' hi, ← c.pg.bl j' hj, ← c.pg.ab i' hi, ← c.pg.ab j' hj]
    have tr : ∀ x y, x < n → y < n → ¬ AA 0 12 x &&& AA 0 13 y = 0 → bt (AA 0 12 x) y = true := fun x y hx hy hh => by
      obtain ⟨z, hz, z1, z2⟩ := b_meet.mp hh
      exact (c.pg.clo x hx y (by omega)).1.mpr ⟨hy, (((c.pg.clo x hx z hz).1.mp z1).2).trans (((c.pg.clo y hy z hz).2.mp z2).2)⟩
    have ac : ∀ x y, x < n → y < n → bt (AA 0 12 x) y = true → bt (AA 0 12 y) x = true → False := fun x y hx hy h1 h2 => c.pg.g.ac x hx ((((c.pg.clo x hx y (by omega)).1.mp h1).2).trans (((c.pg.clo y hy x (by omega)).1.mp h2).2))
    by_cases h1 : bt (AA 0 12 i') j' = true
    · rw [if_pos h1]
      have hno : AA 0 12 j' &&& AA 0 13 i' = 0 := Classical.byContradiction fun z => ac i' j' hi hj h1 (tr j' i' hj hi z)
      by_cases h2 : AA 0 12 i' &&& AA 0 13 j' = 0
      · rw [if_pos h2, if_neg (fun z => z.elim (fun q => q h2) (fun q => q hno))]
      · rw [if_neg h2, if_pos (.inl h2)]
    · rw [if_neg h1]
      have hno : AA 0 12 i' &&& AA 0 13 j' = 0 := Classical.byContradiction fun z => h1 (tr i' j' hi hj z)
      by_cases h3 : bt (AA 0 12 j') i' = true
      · rw [if_pos h3]
        by_cases h2 : AA 0 12 j' &&& AA 0 13 i' = 0
        · rw [if_pos h2, if_neg (fun z => z.elim (fun q => q hno) (fun q => q h2))]
        · rw [if_neg h2, if_pos (.inr h2)]
      · have hno2 : AA 0 12 j' &&& AA 0 13 i' = 0 := Classical.byContradiction fun z => h3 (tr j' i' hj hi z)
        rw [if_neg h3, if_pos rfl, if_neg (fun z => z.elim (fun q => q hno) (fun q => q hno2))]
theorem st_ring {k : Int32} (hI : INV B t m hm hs) : PR X EV (d + 19) 114 207 [.ref t, .int k] [.ref m, .int k] hm hs (KI32 B t m) := by
  obtain ⟨g, pa, pb, qa, qb, V, AA, R, u, A, RM, n, w, h, L, nl, np, nw, nr, hW, hM, c⟩ := hI
  obtain ⟨z, z12, e1, e2, hr⟩ : IRG V AA u A := c.2.2.2.2.1
  unfold PR
  refine c_ring hW e1 z12 ⟨_, rfl, ?_⟩
  refine m_ring hM e2 z12 (fun hm2 hM2 s2 => ⟨?_, ⟨_, rfl⟩, f0 g hW c hM2 kiU4 s2⟩)
  by_cases h0 : k < 0
  · rw [if_pos h0, if_pos h0]
  · rw [if_neg h0, if_neg h0]
    by_cases h1 : k < nI z
    · rw [if_pos h1, if_pos h1]
      obtain ⟨i, hi, rfl⟩ := ix (by omega) ⟨Int32.not_lt.mp h0, h1⟩
      rw [nI_clamp (by omega), hr i hi]
    · rw [if_neg h1, if_neg h1]
theorem st_fault {k : Int32} (hI : INV B t m hm hs) : PR X EV (d + 19) 103 181 [.ref t, .int k] [.ref m, .int k] hm hs (KI32 B t m) := by
  obtain ⟨g, pa, pb, qa, qb, V, AA, R, u, A, RM, n, w, h, L, nl, np, nw, nr, hW, hM, c⟩ := hI
  obtain ⟨e1, e2⟩ := c.2.2.2.1
  unfold PR
  refine c_fault hW ⟨_, rfl, ?_⟩
  refine m_fault hM (fun hm2 hM2 s2 => ⟨by rw [e1, e2], ⟨_, rfl⟩, f0 g hW c hM2 kiU4 s2⟩)
theorem st_count {wh : Int32} (hI : INV B t m hm hs) : PR X EV (d + 19) 151 260 [.ref t, .int wh] [.ref m, .int wh] hm hs (KI32 B t m) := by
  obtain ⟨g, pa, pb, qa, qb, V, AA, R, u, A, RM, n, w, h, L, nl, np, nw, nr, hW, hM, c⟩ := hI
  have e5 : V 0 3 = sumI (fun k => pcnt (A 0 (195 + k))) n := c.pg.u3
  obtain ⟨e1, e2, e3, e4⟩ := c.sc.2.2.1
  obtain ⟨⟨o1, -⟩, ⟨o2, -⟩, ⟨o3, -⟩, ⟨o4, -⟩, -⟩ := c.sc.ws
  obtain ⟨a, z, -, -, a1, -, a2, -⟩ : IAC V AA u A n nl := c.2.2.2.2.2.1
  obtain ⟨y, -, y1, y2, -⟩ : ITP V AA u A := c.2.2.1
  have hrw : IRW V AA A := c.2.2.2.2.2.2.1
  have e12 : wcn (fun i => ¬ V (9 + i) 0 = 0) 4 = wcn (fun i => ¬ A 24 i = -1) 4 := wcn_ext (fun i hi => by
    obtain ⟨z, z12, -, hh⟩ := hrw i hi
    rcases hh with ⟨p, q⟩ | ⟨p, q, -⟩
    · exact ⟨fun z => absurd p z, fun z => absurd q z⟩
    · exact ⟨fun _ e => nI_nm1 (by omega) (q.symm.trans e), fun _ => p⟩)
  have e11 : sumI (fun k => pcnt (AA 0 10 k)) n = sumI (fun k => pcnt (acc (fun o => k ≠ o ∧ cmn (A 0) L k o ≠ -1) n)) n := sumI_ext (fun k hk => by rw [c.pg.cr k hk])
  unfold PR
  refine c_count hW c.sz c.c8 (fun hw => ⟨_, rfl, ?_⟩) (fun hw hm1 V1 AA1 hW1 k1 z1 r1 s1 => ⟨_, rfl, ?_⟩)
  · refine m_count hM c.mz (fun hm2 u2 A2 hM2 k2 s2 => ⟨?_, ⟨_, rfl⟩, f0 g hW c hM2 k2.ki s2⟩)
    rw [if_neg hw, e12, e11, e5, c.pg.u2, c.pg.s2, e1, e2, e3, e4, o1, o2, o3, o4, a1, a2, y1, y2, c.pg.u0, c.pg.1.2.1, c.pg.u1, c.pg.2.1.2.1]
  · refine m_count (g.mo hM s1) c.mz (fun hm2 u2 A2 hM2 k2 s2 => ⟨?_, ⟨_, rfl⟩, f8 g hW1 c k1 (fun _ => r1) s1 hM2 k2.ki s2⟩)
    rw [hw, cfs_sum np (fun q hq => (c.pg.sight c.sc r1 hq).1.2.2)]; rfl
end S3
