/-! ===== the small machine is the machine's: what Ex promises, W holds ===== -/
def im_K (D : va_G) (U : State) : Prop := ∀ (c : Nat) (q : vw_C), vwCl[c]? = some q → u_Kn U q.1 q.2.1 q.2.2 (D.1 c) (D.2 c)
def im_cell (D : va_G) (U : State) (a : Nat) (c : HC) (H : Heap) : Prop := match c with
  | .inl (ty, x) => ∃ cA : ClassId, H[a]? = some (vp_cell cA x) ∧ ArrOfT U cA ty ∧ va_RA U cA ty
  | .inr o => va_at D vwCl (a, .inr o) H
def im_ext (A : Nat → Prop) (U : State) (a : Nat) (c : HC) (H : Heap) : Prop := match c with
  | .inl (ty, n, .inl f) => va_T ty a n (fun j => .int (f j)) A U H
  | .inl _ => False
  | .inr (cj, fs) => cj = 12 ∧ va_O RJ0 a A U H ∧ ∀ (k : Nat) (v : Value), fs[k]? = some v → va_OF (TS12 k).1 (TS12 k).2.1 (TS12 k).2.2.1 v a A U H
def im_isN (w : Cond) : Bool := match w with
  | .fieldLinkNest .. => true
  | .methodLinkNest .. => true
  | _ => false
theorem im_isN.warm {w : Cond} {s U : State} (hn : im_isN w = true) (hW : s.WarmedH U.vm) (h : va_Nw w s) : va_Nw w U := by
  cases w with
  | fieldLinkNest a b c d e f => exact va_Nw.warmF hW h
  | methodLinkNest a b c d => exact va_Nw.warmM hW h
  | _ => cases hn
theorem im_isN.same {w : Cond} {s U : State} (hn : im_isN w = true) (hv : U.vm = s.vm) (h : va_Nw w s) : va_Nw w U := by
  cases w with
  | fieldLinkNest a b c d e f => exact va_Nw.same rfl hv.symm h
  | methodLinkNest a b c d => exact va_Nw.same rfl hv.symm h
  | _ => cases hn
def im_F (D : va_G) (X : HM) (EV : Nat → Value) (B : Nat) (U : State) (H : Heap) : Prop :=
  im_K D U ∧ (∀ a c, X a = some c → im_ext (fun q => B ≤ q) U a c H) ∧ (∀ k, k < 4 → va_Z (im_sn k).1 (im_sn k).2.1 (im_sn k).2.2 (EV k) (fun q => B ≤ q) U H) ∧
    (∀ (j : Nat) (e : Nat × Nat × String), im_txs[j]? = some e → ∃ q : Nat, EV (j + 4) = .ref q ∧ vk_R (im_cn e.1) e.2.1 e.2.2 q U) ∧ va_AO RX4 U ∧ ∀ w ∈ lw_tbl, im_isN w = true → va_Nw w U
theorem im_ext.moved {A : Nat → Prop} {u U : State} {a : Nat} {c : HC} {H : Heap} (hvm : u.vm.Alike U.vm) (h : im_ext A u a c H) : im_ext A U a c H := by
  rcases c with ⟨ty, n, f | f⟩ | ⟨cj, fs⟩
  · exact va_T.moved hvm h
  · exact h.elim
  · exact ⟨h.1, va_O.moved hvm h.2.1, fun k v hk => va_OF.moved hvm (h.2.2 k v hk)⟩
theorem im_ext.kept {A : Nat → Prop} {U : State} {a : Nat} {c : HC} {H H1 : Heap} (h : im_ext A U a c H) (hq : ∀ a : Nat, a < H.size → ¬ A a → H1[a]? = H[a]?) : im_ext A U a c H1 := by
  rcases c with ⟨ty, n, f | f⟩ | ⟨cj, fs⟩
  · exact va_T.kept h hq
  · exact h.elim
  · exact ⟨h.1, h.2.1.kept hq, fun k v hk => (h.2.2 k v hk).kept hq⟩
theorem im_F.moved {D : va_G} {X : HM} {EV : Nat → Value} {B : Nat} {s U : State} {H : Heap} (hW : s.WarmedH U.vm) (h : im_F D X EV B s H) : im_F D X EV B U H :=
  ⟨fun c q hq => u_Kn_moved hW.alike (h.1 c q hq), fun a c hc => (h.2.1 a c hc).moved hW.alike, fun k hk => va_Z.moved hW.alike (h.2.2.1 k hk), fun j e he => by
    obtain ⟨q, h1, h2⟩ := h.2.2.2.1 j e he
    exact ⟨q, h1, vk_R.warm hW h2⟩, va_AO.moved hW.alike h.2.2.2.2.1, fun w hw hn => im_isN.warm hn hW (h.2.2.2.2.2 w hw hn)⟩
theorem im_F.same {D : va_G} {X : HM} {EV : Nat → Value} {B : Nat} {s U : State} {H : Heap} (hv : U.vm = s.vm) (h : im_F D X EV B s H) : im_F D X EV B U H := by
  have hA : s.vm.Alike U.vm := by rw [hv]; exact Vm.Alike.refl _
  exact ⟨fun c q hq => u_Kn_moved hA (h.1 c q hq), fun a c hc => (h.2.1 a c hc).moved hA, fun k hk => va_Z.moved hA (h.2.2.1 k hk), fun j e he => by
    obtain ⟨q, h1, h2⟩ := h.2.2.2.1 j e he
    exact ⟨q, h1, vk_R.same hv h2⟩, va_AO.moved hA h.2.2.2.2.1, fun w hw hn => im_isN.same hn hv (h.2.2.2.2.2 w hw hn)⟩
theorem im_F.kept {D : va_G} {X : HM} {EV : Nat → Value} {B : Nat} {U : State} {H H1 : Heap} (h : im_F D X EV B U H) (hq : ∀ a : Nat, a < H.size → ¬ B ≤ a → H1[a]? = H[a]?) : im_F D X EV B U H1 :=
  ⟨h.1, fun a c hc => (h.2.1 a c hc).kept hq, fun k hk => (h.2.2.1 k hk).kept hq, h.2.2.2⟩
def im_rep (D : va_G) (B : Nat) (U : State) (hm : HM) (H : Heap) : Prop := ∀ (a : Nat) (c : HC), hm a = some c → B ≤ a ∧ im_cell D U a c H
theorem im_cell.lt {D : va_G} {U : State} {a : Nat} {c : HC} {H : Heap} (h : im_cell D U a c H) : a < H.size := by
  rcases c with ⟨ty, x⟩ | o
  · obtain ⟨cA, h1, -⟩ := h
    exact (Array.getElem?_eq_some_iff.mp h1).1
  · exact va_at.lt (D := D) (cl := vwCl) (q := (a, .inr o)) h
theorem im_cell.kept {D : va_G} {U : State} {a : Nat} {c : HC} {H H1 : Heap} (h : im_cell D U a c H) (hq : H1[a]? = H[a]?) : im_cell D U a c H1 := by
  rcases c with ⟨ty, x⟩ | o
  · obtain ⟨cA, h1, h2⟩ := h
    exact ⟨cA, by rw [hq]; exact h1, h2⟩
  · exact va_at.kept (D := D) (cl := vwCl) (q := (a, .inr o)) h hq
theorem im_cell.moved {D : va_G} {u U : State} {a : Nat} {c : HC} {H : Heap} (hvm : u.vm.Alike U.vm) (h : im_cell D u a c H) : im_cell D U a c H := by
  rcases c with ⟨ty, x⟩ | o
  · obtain ⟨cA, h1, h2, h3⟩ := h
    exact ⟨cA, h1, arrOfT_moved hvm h2, h3.moved hvm⟩
  · exact h
theorem im_rep.moved {D : va_G} {B : Nat} {u U : State} {hm : HM} {H : Heap} (hvm : u.vm.Alike U.vm) (h : im_rep D B u hm H) : im_rep D B U hm H := fun a c hc => ⟨(h a c hc).1, (h a c hc).2.moved hvm⟩
theorem im_rep.up {D : va_G} {B : Nat} {U : State} {hm : HM} {H H1 : Heap} {a : Nat} {c : HC} (h : im_rep D B U hm H) (hB : B ≤ a) (hc : im_cell D U a c H1) (hq : ∀ q : Nat, q < H.size → q ≠ a → H1[q]? = H[q]?) : im_rep D B U (im_up hm a c) H1 := by
  intro x c1 hx
  unfold im_up at hx
  by_cases hxa : x = a
  · rw [if_pos hxa] at hx
    cases hx
    subst hxa
    exact ⟨hB, hc⟩
  · rw [if_neg hxa] at hx
    obtain ⟨h1, h2⟩ := h x c1 hx
    exact ⟨h1, h2.kept (hq x h2.lt hxa)⟩
theorem im_S.set {B : Nat} {H0 H H1 : Heap} {locs : List Loc} {a k : Nat} (h : va_S (fun q => B ≤ q) H0 H locs) (z : H1.size = H.size) (oq : ∀ q : Nat, q ≠ a → H1[q]? = H[q]?) (ha : B ≤ a) : va_S (fun q => B ≤ q) H0 H1 (locs ++ [⟨a, k⟩]) := h.put z oq ha
theorem im_S.push {B : Nat} {H0 H H1 : Heap} {locs : List Loc} (h : va_S (fun q => B ≤ q) H0 H locs) (z : H1.size = H.size + 1) (oq : ∀ q : Nat, q < H.size → H1[q]? = H[q]?) : va_S (fun q => B ≤ q) H0 H1 locs :=
  ⟨by have := h.1; omega, fun q h1 h2 => (oq q (Nat.lt_of_lt_of_le h1 h.1)).trans (h.2.1 q h1 h2), h.2.2⟩
/-! locals -/
def im_as (ls : List Value) : List (Nat × Value) := (ls.zipIdx.filter (fun q => !(q.1 == Value.null))).map (fun q => (q.2, q.1))
theorem im_as_mem {ls : List Value} {i : Nat} {v : Value} : (i, v) ∈ im_as ls ↔ ls[i]? = some v ∧ v ≠ .null := by
  unfold im_as
  simp only [List.mem_map, List.mem_filter, Prod.mk.injEq, Prod.exists]
  constructor
  · rintro ⟨a, b, ⟨h1, h2⟩, rfl, rfl⟩
    refine ⟨List.mem_zipIdx_iff_getElem?.mp h1, ?_⟩
    simpa using h2
  · rintro ⟨h1, h2⟩
    exact ⟨v, i, ⟨List.mem_zipIdx_iff_getElem?.mpr h1, by simpa using h2⟩, rfl, rfl⟩
def im_ls (lsA : Array Slot) (nL : Nat) (ls : List Value) : Prop := lv_has lsA nL (im_as ls) ∧ ls.length ≤ nL
theorem im_ls.at {lsA : Array Slot} {nL : Nat} {ls : List Value} {i : Nat} {v : Value} (h : im_ls lsA nL ls) (hi : ls[i]? = some v) (hv : v ≠ .null) : lsA[i]? = some (.val v) := h.1.2.2 (i, v) (im_as_mem.mpr ⟨hi, hv⟩)
theorem im_ls.sub {lsA : Array Slot} {nL : Nat} {ls : List Value} {l : List (Nat × Value)} (h : lv_has lsA nL l) (hn : ls.length ≤ nL) (hs : ∀ i v, ls[i]? = some v → v ≠ .null → (i, v) ∈ l) : im_ls lsA nL ls :=
  ⟨⟨h.1, h.2.1, fun q hq => h.2.2 q (by obtain ⟨i, v⟩ := q; exact hs i v (im_as_mem.mp hq).1 (im_as_mem.mp hq).2)⟩, hn⟩
theorem im_ls.st1 {ls : List Value} {i : Nat} {v : Value} {nL : Nat} {lsA : Array Slot} (hn : ls.length ≤ nL) (hp : im_pv ls i)
    (h : lv_has lsA nL ((i, v) :: (im_as ls).filter (fun q => !(q.1 == i) && !(q.1 + 1 == i && q.2.category == 2)))) : im_ls lsA nL (ls.set i v) := by
  refine im_ls.sub h (by simpa using hn) (fun j w hj hw => ?_)
  by_cases hji : j = i
  · subst hji
    rw [List.getElem?_set] at hj
    simp only [if_true] at hj
    split at hj
    · cases hj
      exact List.mem_cons_self
    · cases hj
  · rw [List.getElem?_set_ne (fun q => hji q.symm)] at hj
    refine List.mem_cons_of_mem _ (List.mem_filter.mpr ⟨im_as_mem.mpr ⟨hj, hw⟩, ?_⟩)
    simp only [Bool.and_eq_true, Bool.not_eq_true', beq_eq_false_iff_ne, ne_eq]
    refine ⟨hji, ?_⟩
    cases i with
    | zero => simp
    | succ i =>
      by_cases e : j = i
      · subst e
        have := hp w hj
        simp [this]
      · simp only [Bool.and_eq_false_imp, beq_iff_eq]
        intro q
        omega
theorem im_ls.st2 {ls : List Value} {i : Nat} {v : Value} {nL : Nat} {lsA : Array Slot} (hn : ls.length ≤ nL) (hp : im_pv ls i)
    (h : lv_has lsA nL ((i, v) :: (im_as ls).filter (fun q => !(q.1 == i) && (!(q.1 == i + 1) && !(q.1 + 1 == i && q.2.category == 2))))) : im_ls lsA nL ((ls.set i v).set (i + 1) .null) := by
  refine im_ls.sub h (by simpa using hn) (fun j w hj hw => ?_)
  by_cases hj1 : j = i + 1
  · subst hj1
    rw [List.getElem?_set] at hj
    simp only [if_true] at hj
    split at hj
    · cases hj
      exact absurd rfl hw
    · cases hj
  · rw [List.getElem?_set_ne (fun q => hj1 q.symm)] at hj
    by_cases hji : j = i
    · subst hji
      rw [List.getElem?_set] at hj
      simp only [if_true] at hj
      split at hj
      · cases hj
        exact List.mem_cons_self
      · cases hj
    · rw [List.getElem?_set_ne (fun q => hji q.symm)] at hj
      refine List.mem_cons_of_mem _ (List.mem_filter.mpr ⟨im_as_mem.mpr ⟨hj, hw⟩, ?_⟩)
      simp only [Bool.and_eq_true, Bool.not_eq_true', beq_eq_false_iff_ne, ne_eq]
      refine ⟨hji, hj1, ?_⟩
      cases i with
      | zero => simp
      | succ i =>
        by_cases e : j = i
        · subst e
          have := hp w hj
          simp [this]
        · simp only [Bool.and_eq_false_imp, beq_iff_eq]
          intro q
          omega
theorem im_ent_mem (as : List Value) : ∀ (k j : Nat) (w : Value), (im_ent1 as)[j]? = some w → w ≠ .null → (k + j, w) ∈ lv_args k as := by
  induction as with
  | nil => intro k j w h; simp [im_ent1] at h
  | cons v vs ih =>
    intro k j w h hw
    unfold im_ent1 at h ih
    rw [List.flatMap_cons] at h
    unfold lv_args
    by_cases hc : v.category = 2
    · rw [if_pos hc] at h ⊢
      rcases j with _ | _ | j
      · simp at h
        subst h
        exact List.mem_cons_self
      · simp at h
        exact absurd h.symm hw
      · have h' : (List.flatMap (fun v => if v.category = 2 then [v, .null] else [v]) vs)[j]? = some w := by simpa using h
        have := ih (k + 2) j w h' hw
        rw [show k + 2 + j = k + (j + 2) by omega] at this
        exact List.mem_cons_of_mem _ this
    · rw [if_neg hc] at h ⊢
      rcases j with _ | j
      · simp at h
        subst h
        exact List.mem_cons_self
      · have h' : (List.flatMap (fun v => if v.category = 2 then [v, .null] else [v]) vs)[j]? = some w := by simpa using h
        have := ih (k + 1) j w h' hw
        rw [show k + 1 + j = k + (j + 1) by omega] at this
        exact List.mem_cons_of_mem _ this
theorem im_ent_len (as : List Value) : (lg_sl as).length = (im_ent1 as).length := by
  induction as with
  | nil => rfl
  | cons v vs ih =>
    unfold im_ent1 lg_sl at *
    rw [List.flatMap_cons, List.flatMap_cons, List.length_append, List.length_append, ih]
    congr 1
    by_cases hc : v.category = 2 <;> simp [hc]
theorem im_ls.entry {as : List Value} {nL : Nat} (h : (im_ent1 as).length ≤ nL) : im_ls ((lg_sl as ++ List.replicate (nL - (lg_sl as).length) Slot.unset).toArray) nL (im_ent nL as) := by
  refine im_ls.sub (lv_entry as (by rw [im_ent_len]; exact h)) (by unfold im_ent; simp; omega) (fun j w hj hw => ?_)
  unfold im_ent at hj
  by_cases hl : j < (im_ent1 as).length
  · rw [List.getElem?_append_left hl] at hj
    have := im_ent_mem as 0 j w hj hw
    simpa using this
  · rw [List.getElem?_append_right (by omega)] at hj
    have := List.eq_of_mem_replicate (List.mem_of_getElem? hj)
    exact absurd this hw
/-! what the tables say, of a method that runs -/
def im_ctx (D : va_G) (X : HM) (EV : Nat → Value) (B ci nL mc ms : Nat) (ini : Bool) (cc : ByteArray) (p : Program) (R : Room) (s : State) (m : MethodId) (args : Array Value) (meth : Method) (c : Code) : Prop :=
  p.tables.exec = Jvm.exec ∧ c.code = cc ∧ c.maxLocals = nL ∧ s.vm.findClass (im_cn ci) = some m.cls ∧ (∀ w ∈ lw_g, w.before args s = true) ∧ im_F D X EV B s s.heap ∧ mc ≤ R.cells ∧ ms ≤ R.slots ∧ (ini = true → meth.name = "<init>") ∧ B ≤ s.heap.size ∧ 1 ≤ R.frames ∧ 64 ≤ R.locals
def im_ws (D : va_G) (B nL : Nat) (p : Program) (l : Launch) (e : Env) (R : Room) (s : State) (m : MethodId) (args : Array Value) (below : List Frame) (meth : Method) (c : Code) (Qw : State → Prop) (t : ST) : Prop := match t with
  | (pc, ls, st, cu, su, hm, hs) => ∀ (H : Heap) (locs : List Loc) (lsA : Array Slot), im_rep D B s hm H → va_S (fun q => B ≤ q) s.heap H locs → H.size = hs → im_ls lsA nL ls → W p l e R s m args below meth c H locs cu su Qw (F0 m pc lsA st)
theorem im_len {C : CT} {Q : QT} {P : ST → Prop} {n k : Nat} {o : OUT} (h : im_in C Q P (i_len n k o)) : n = k ∧ im_in C Q P o := by
  unfold i_len at h
  split at h
  · rename_i hk
    exact ⟨hk, h⟩
  · exact h.1.elim
theorem im_jt {pc : Nat} {off : Int} (h : 0 ≤ (pc : Int) + off) : (pc : Int) + off = (im_jmp pc off : Int) := by
  unfold im_jmp
  omega
theorem lv_ldcwf {p : Program} {l : Launch} {e : Env} {R : Room} {s : State} {m : MethodId} {args : Array Value} {below : List Frame} {meth : Method} {c : Code} {H : Heap} {locs : List Loc} {cells slots : Nat} {Q : State → Prop} {cc : ByteArray} {pc : Nat} {ls : Array Slot} {rest : List Value} (hexec : p.tables.exec = Jvm.exec) (hb : c.code = cc) {own : String} {index : Nat} {v : UInt32} (hown : s.vm.findClass own = some m.cls) (hconst : (Jvm.Cond.constantFloat own index v).before args s = true) (hdg : decode cc pc = .ok (.ldc_w index, 3)) (k : W p l e R s m args below meth c H locs cells slots Q (F0 m (pc + 3) ls (.float v :: rest))) : W p l e R s m args below meth c H locs cells slots Q (F0 m pc ls rest) := by
  intro T hT X
  obtain ⟨t, a, b⟩ := k T hT X
  refine ⟨t, ?_, b⟩
  obtain ⟨k, cf, hk, hcf, hcp⟩ := Cond.constantFloat_spec hown hconst
  obtain ⟨k', hk', he⟩ := X.warmed.alike.2.2 _ _ hk
  jvm_step X.here [hexec, hb, hdg, ldc_w.wp_float (s := T) (f := F0 m pc ls rest) X.here.top hk' (by rw [he]; exact hcf) hcp]
  exact a
section CL1
variable {D : va_G} {X : HM} {EV : Nat → Value} {B ci nL mc ms : Nat} {rt : Option FieldType} {ini : Bool} {cc : ByteArray} {p : Program} {l : Launch} {e : Env} {R : Room} {s : State} {m : MethodId} {args : Array Value} {below : List Frame} {meth : Method} {c : Code} {Qw : State → Prop}
variable {C : CT} {Q : QT} {pc n : Nat} {ls st : List Value} {cu su : Nat} {hm : HM} {hs : Nat}
theorem cl_iconst (K : im_ctx D X EV B ci nL mc ms ini cc p R s m args meth c) {k : Int} (hd : decode cc pc = .ok (.iconst k, n)) (hi : im_in C Q (im_ws D B nL p l e R s m args below meth c Qw) (im_ins X EV ci mc ms rt ini pc ls st cu su hm hs (.iconst k) n)) : (im_ws D B nL p l e R s m args below meth c Qw) (pc, ls, st, cu, su, hm, hs) := by
  obtain ⟨hx, hb, hml, hown, hts, hF, hRc, hRs, hini, hB, hfr, hlo⟩ := K
  have hj0 := im_len hi
  clear hi
  obtain ⟨rfl, hi⟩ := hj0
  intro H locs lsA hR hS hz hl
  exact lv_iconst hx hb hd rfl (hi.2 H locs lsA hR hS hz hl)
theorem cl_bipush (K : im_ctx D X EV B ci nL mc ms ini cc p R s m args meth c) {k : Int} (hd : decode cc pc = .ok (.bipush k, n)) (hi : im_in C Q (im_ws D B nL p l e R s m args below meth c Qw) (im_ins X EV ci mc ms rt ini pc ls st cu su hm hs (.bipush k) n)) : (im_ws D B nL p l e R s m args below meth c Qw) (pc, ls, st, cu, su, hm, hs) := by
  obtain ⟨hx, hb, hml, hown, hts, hF, hRc, hRs, hini, hB, hfr, hlo⟩ := K
  have hj0 := im_len hi
  clear hi
  obtain ⟨rfl, hi⟩ := hj0
  intro H locs lsA hR hS hz hl
  exact lv_bipush hx hb hd rfl (hi.2 H locs lsA hR hS hz hl)
theorem cl_sipush (K : im_ctx D X EV B ci nL mc ms ini cc p R s m args meth c) {k : Int} (hd : decode cc pc = .ok (.sipush k, n)) (hi : im_in C Q (im_ws D B nL p l e R s m args below meth c Qw) (im_ins X EV ci mc ms rt ini pc ls st cu su hm hs (.sipush k) n)) : (im_ws D B nL p l e R s m args below meth c Qw) (pc, ls, st, cu, su, hm, hs) := by
  obtain ⟨hx, hb, hml, hown, hts, hF, hRc, hRs, hini, hB, hfr, hlo⟩ := K
  have hj0 := im_len hi
  clear hi
  obtain ⟨rfl, hi⟩ := hj0
  intro H locs lsA hR hS hz hl
  exact lv_sipush hx hb hd rfl (hi.2 H locs lsA hR hS hz hl)
theorem cl_lconst (K : im_ctx D X EV B ci nL mc ms ini cc p R s m args meth c) {k : Fin 2} (hd : decode cc pc = .ok (.lconst k, n)) (hi : im_in C Q (im_ws D B nL p l e R s m args below meth c Qw) (im_ins X EV ci mc ms rt ini pc ls st cu su hm hs (.lconst k) n)) : (im_ws D B nL p l e R s m args below meth c Qw) (pc, ls, st, cu, su, hm, hs) := by
  obtain ⟨hx, hb, hml, hown, hts, hF, hRc, hRs, hini, hB, hfr, hlo⟩ := K
  have hj0 := im_len hi
  clear hi
  obtain ⟨rfl, hi⟩ := hj0
  intro H locs lsA hR hS hz hl
  exact lv_lconst hx hb hd rfl (hi.2 H locs lsA hR hS hz hl)
theorem cl_fconst (K : im_ctx D X EV B ci nL mc ms ini cc p R s m args meth c) {k : Fin 3} (hd : decode cc pc = .ok (.fconst k, n)) (hi : im_in C Q (im_ws D B nL p l e R s m args below meth c Qw) (im_ins X EV ci mc ms rt ini pc ls st cu su hm hs (.fconst k) n)) : (im_ws D B nL p l e R s m args below meth c Qw) (pc, ls, st, cu, su, hm, hs) := by
  obtain ⟨hx, hb, hml, hown, hts, hF, hRc, hRs, hini, hB, hfr, hlo⟩ := K
  have hj0 := im_len hi
  clear hi
  obtain ⟨rfl, hi⟩ := hj0
  intro H locs lsA hR hS hz hl
  have hk := hi.2 H locs lsA hR hS hz hl
  match k, hd, hk with
  | 0, hd, hk => exact lv_fconst0 hx hb hd hk
  | 1, hd, hk => exact lv_fconst1 hx hb hd hk
  | 2, hd, hk => exact lv_fconst2 hx hb hd hk
theorem cl_iload_n (K : im_ctx D X EV B ci nL mc ms ini cc p R s m args meth c) {k : Fin 4} (hd : decode cc pc = .ok (.iload_n k, n)) (hi : im_in C Q (im_ws D B nL p l e R s m args below meth c Qw) (im_ins X EV ci mc ms rt ini pc ls st cu su hm hs (.iload_n k) n)) : (im_ws D B nL p l e R s m args below meth c Qw) (pc, ls, st, cu, su, hm, hs) := by
  obtain ⟨hx, hb, hml, hown, hts, hF, hRc, hRs, hini, hB, hfr, hlo⟩ := K
  have hj0 := im_len hi
  clear hi
  obtain ⟨rfl, hi⟩ := hj0
  unfold i_iload at hi
  split at hi
  · rename_i x hk
    intro H locs lsA hR hS hz hl
    exact lv_iload_n hx hb hd rfl (hl.at hk (fun q => by cases q)) (hi.2 H locs lsA hR hS hz hl)
  · exact hi.1.elim
theorem cl_iload (K : im_ctx D X EV B ci nL mc ms ini cc p R s m args meth c) {k : Nat} (hd : decode cc pc = .ok (.iload k, n)) (hi : im_in C Q (im_ws D B nL p l e R s m args below meth c Qw) (im_ins X EV ci mc ms rt ini pc ls st cu su hm hs (.iload k) n)) : (im_ws D B nL p l e R s m args below meth c Qw) (pc, ls, st, cu, su, hm, hs) := by
  obtain ⟨hx, hb, hml, hown, hts, hF, hRc, hRs, hini, hB, hfr, hlo⟩ := K
  have hj0 := im_len hi
  clear hi
  obtain ⟨rfl, hi⟩ := hj0
  unfold i_iload at hi
  split at hi
  · rename_i x hk
    intro H locs lsA hR hS hz hl
    exact lv_iload hx hb hd (hl.at hk (fun q => by cases q)) (hi.2 H locs lsA hR hS hz hl)
  · exact hi.1.elim
theorem cl_lload_n (K : im_ctx D X EV B ci nL mc ms ini cc p R s m args meth c) {k : Fin 4} (hd : decode cc pc = .ok (.lload_n k, n)) (hi : im_in C Q (im_ws D B nL p l e R s m args below meth c Qw) (im_ins X EV ci mc ms rt ini pc ls st cu su hm hs (.lload_n k) n)) : (im_ws D B nL p l e R s m args below meth c Qw) (pc, ls, st, cu, su, hm, hs) := by
  obtain ⟨hx, hb, hml, hown, hts, hF, hRc, hRs, hini, hB, hfr, hlo⟩ := K
  have hj0 := im_len hi
  clear hi
  obtain ⟨rfl, hi⟩ := hj0
  unfold i_lload at hi
  split at hi
  · rename_i x hk
    intro H locs lsA hR hS hz hl
    exact lv_lload_n hx hb hd rfl (hl.at hk (fun q => by cases q)) (hi.2 H locs lsA hR hS hz hl)
  · exact hi.1.elim
theorem cl_lload (K : im_ctx D X EV B ci nL mc ms ini cc p R s m args meth c) {k : Nat} (hd : decode cc pc = .ok (.lload k, n)) (hi : im_in C Q (im_ws D B nL p l e R s m args below meth c Qw) (im_ins X EV ci mc ms rt ini pc ls st cu su hm hs (.lload k) n)) : (im_ws D B nL p l e R s m args below meth c Qw) (pc, ls, st, cu, su, hm, hs) := by
  obtain ⟨hx, hb, hml, hown, hts, hF, hRc, hRs, hini, hB, hfr, hlo⟩ := K
  have hj0 := im_len hi
  clear hi
  obtain ⟨rfl, hi⟩ := hj0
  unfold i_lload at hi
  split at hi
  · rename_i x hk
    intro H locs lsA hR hS hz hl
    exact lv_lload hx hb hd (hl.at hk (fun q => by cases q)) (hi.2 H locs lsA hR hS hz hl)
  · exact hi.1.elim
theorem cl_aload_n (K : im_ctx D X EV B ci nL mc ms ini cc p R s m args meth c) {k : Fin 4} (hd : decode cc pc = .ok (.aload_n k, n)) (hi : im_in C Q (im_ws D B nL p l e R s m args below meth c Qw) (im_ins X EV ci mc ms rt ini pc ls st cu su hm hs (.aload_n k) n)) : (im_ws D B nL p l e R s m args below meth c Qw) (pc, ls, st, cu, su, hm, hs) := by
  obtain ⟨hx, hb, hml, hown, hts, hF, hRc, hRs, hini, hB, hfr, hlo⟩ := K
  have hj0 := im_len hi
  clear hi
  obtain ⟨rfl, hi⟩ := hj0
  unfold i_aload at hi
  split at hi
  · rename_i x hk
    intro H locs lsA hR hS hz hl
    exact lv_aload_n hx hb hd rfl (hl.at hk (fun q => by cases q)) (hi.2 H locs lsA hR hS hz hl)
  · exact hi.1.elim
theorem cl_aload (K : im_ctx D X EV B ci nL mc ms ini cc p R s m args meth c) {k : Nat} (hd : decode cc pc = .ok (.aload k, n)) (hi : im_in C Q (im_ws D B nL p l e R s m args below meth c Qw) (im_ins X EV ci mc ms rt ini pc ls st cu su hm hs (.aload k) n)) : (im_ws D B nL p l e R s m args below meth c Qw) (pc, ls, st, cu, su, hm, hs) := by
  obtain ⟨hx, hb, hml, hown, hts, hF, hRc, hRs, hini, hB, hfr, hlo⟩ := K
  have hj0 := im_len hi
  clear hi
  obtain ⟨rfl, hi⟩ := hj0
  unfold i_aload at hi
  split at hi
  · rename_i x hk
    intro H locs lsA hR hS hz hl
    exact lv_aload hx hb hd (hl.at hk (fun q => by cases q)) (hi.2 H locs lsA hR hS hz hl)
  · exact hi.1.elim
theorem cl_fload_n (K : im_ctx D X EV B ci nL mc ms ini cc p R s m args meth c) {k : Fin 4} (hd : decode cc pc = .ok (.fload_n k, n)) (hi : im_in C Q (im_ws D B nL p l e R s m args below meth c Qw) (im_ins X EV ci mc ms rt ini pc ls st cu su hm hs (.fload_n k) n)) : (im_ws D B nL p l e R s m args below meth c Qw) (pc, ls, st, cu, su, hm, hs) := by
  obtain ⟨hx, hb, hml, hown, hts, hF, hRc, hRs, hini, hB, hfr, hlo⟩ := K
  have hj0 := im_len hi
  clear hi
  obtain ⟨rfl, hi⟩ := hj0
  unfold i_fload at hi
  split at hi
  · rename_i x hk
    intro H locs lsA hR hS hz hl
    exact lv_fload_n hx hb hd rfl (hl.at hk (fun q => by cases q)) (hi.2 H locs lsA hR hS hz hl)
  · exact hi.1.elim
theorem cl_istore_n (K : im_ctx D X EV B ci nL mc ms ini cc p R s m args meth c) {k : Fin 4} (hd : decode cc pc = .ok (.istore_n k, n)) (hi : im_in C Q (im_ws D B nL p l e R s m args below meth c Qw) (im_ins X EV ci mc ms rt ini pc ls st cu su hm hs (.istore_n k) n)) : (im_ws D B nL p l e R s m args below meth c Qw) (pc, ls, st, cu, su, hm, hs) := by
  obtain ⟨hx, hb, hml, hown, hts, hF, hRc, hRs, hini, hB, hfr, hlo⟩ := K
  have hj0 := im_len hi
  clear hi
  obtain ⟨rfl, hi⟩ := hj0
  unfold i_istore at hi
  split at hi
  · intro H locs lsA hR hS hz hl
    exact lv_istore_n hx hb hd rfl hl.1 (Nat.lt_of_lt_of_le hi.1.1 hl.2) rfl (fun ls' hl' => hi.2 H locs ls' hR hS hz (im_ls.st1 hl.2 hi.1.2 hl'))
  · exact hi.1.elim
theorem cl_istore (K : im_ctx D X EV B ci nL mc ms ini cc p R s m args meth c) {k : Nat} (hd : decode cc pc = .ok (.istore k, n)) (hi : im_in C Q (im_ws D B nL p l e R s m args below meth c Qw) (im_ins X EV ci mc ms rt ini pc ls st cu su hm hs (.istore k) n)) : (im_ws D B nL p l e R s m args below meth c Qw) (pc, ls, st, cu, su, hm, hs) := by
  obtain ⟨hx, hb, hml, hown, hts, hF, hRc, hRs, hini, hB, hfr, hlo⟩ := K
  have hj0 := im_len hi
  clear hi
  obtain ⟨rfl, hi⟩ := hj0
  unfold i_istore at hi
  split at hi
  · intro H locs lsA hR hS hz hl
    exact lv_istore hx hb hd hl.1 (Nat.lt_of_lt_of_le hi.1.1 hl.2) rfl (fun ls' hl' => hi.2 H locs ls' hR hS hz (im_ls.st1 hl.2 hi.1.2 hl'))
  · exact hi.1.elim
theorem cl_astore_n (K : im_ctx D X EV B ci nL mc ms ini cc p R s m args meth c) {k : Fin 4} (hd : decode cc pc = .ok (.astore_n k, n)) (hi : im_in C Q (im_ws D B nL p l e R s m args below meth c Qw) (im_ins X EV ci mc ms rt ini pc ls st cu su hm hs (.astore_n k) n)) : (im_ws D B nL p l e R s m args below meth c Qw) (pc, ls, st, cu, su, hm, hs) := by
  obtain ⟨hx, hb, hml, hown, hts, hF, hRc, hRs, hini, hB, hfr, hlo⟩ := K
  have hj0 := im_len hi
  clear hi
  obtain ⟨rfl, hi⟩ := hj0
  unfold i_astore at hi
  split at hi
  · intro H locs lsA hR hS hz hl
    exact lv_astore_n hx hb hd rfl hl.1 (Nat.lt_of_lt_of_le hi.1.1 hl.2) rfl (fun ls' hl' => hi.2 H locs ls' hR hS hz (im_ls.st1 hl.2 hi.1.2 hl'))
  · exact hi.1.elim
theorem cl_astore (K : im_ctx D X EV B ci nL mc ms ini cc p R s m args meth c) {k : Nat} (hd : decode cc pc = .ok (.astore k, n)) (hi : im_in C Q (im_ws D B nL p l e R s m args below meth c Qw) (im_ins X EV ci mc ms rt ini pc ls st cu su hm hs (.astore k) n)) : (im_ws D B nL p l e R s m args below meth c Qw) (pc, ls, st, cu, su, hm, hs) := by
  obtain ⟨hx, hb, hml, hown, hts, hF, hRc, hRs, hini, hB, hfr, hlo⟩ := K
  have hj0 := im_len hi
  clear hi
  obtain ⟨rfl, hi⟩ := hj0
  unfold i_astore at hi
  split at hi
  · intro H locs lsA hR hS hz hl
    exact lv_astore hx hb hd hl.1 (Nat.lt_of_lt_of_le hi.1.1 hl.2) rfl (fun ls' hl' => hi.2 H locs ls' hR hS hz (im_ls.st1 hl.2 hi.1.2 hl'))
  · exact hi.1.elim
theorem cl_fstore_n (K : im_ctx D X EV B ci nL mc ms ini cc p R s m args meth c) {k : Fin 4} (hd : decode cc pc = .ok (.fstore_n k, n)) (hi : im_in C Q (im_ws D B nL p l e R s m args below meth c Qw) (im_ins X EV ci mc ms rt ini pc ls st cu su hm hs (.fstore_n k) n)) : (im_ws D B nL p l e R s m args below meth c Qw) (pc, ls, st, cu, su, hm, hs) := by
  obtain ⟨hx, hb, hml, hown, hts, hF, hRc, hRs, hini, hB, hfr, hlo⟩ := K
  have hj0 := im_len hi
  clear hi
  obtain ⟨rfl, hi⟩ := hj0
  unfold i_fstore at hi
  split at hi
  · intro H locs lsA hR hS hz hl
    exact lv_fstore_n hx hb hd rfl hl.1 (Nat.lt_of_lt_of_le hi.1.1 hl.2) rfl (fun ls' hl' => hi.2 H locs ls' hR hS hz (im_ls.st1 hl.2 hi.1.2 hl'))
  · exact hi.1.elim
theorem cl_lstore_n (K : im_ctx D X EV B ci nL mc ms ini cc p R s m args meth c) {k : Fin 4} (hd : decode cc pc = .ok (.lstore_n k, n)) (hi : im_in C Q (im_ws D B nL p l e R s m args below meth c Qw) (im_ins X EV ci mc ms rt ini pc ls st cu su hm hs (.lstore_n k) n)) : (im_ws D B nL p l e R s m args below meth c Qw) (pc, ls, st, cu, su, hm, hs) := by
  obtain ⟨hx, hb, hml, hown, hts, hF, hRc, hRs, hini, hB, hfr, hlo⟩ := K
  have hj0 := im_len hi
  clear hi
  obtain ⟨rfl, hi⟩ := hj0
  unfold i_lstore at hi
  split at hi
  · intro H locs lsA hR hS hz hl
    exact lv_lstore_n hx hb hd rfl hl.1 (Nat.lt_of_lt_of_le hi.1.1 hl.2) rfl (fun ls' hl' => hi.2 H locs ls' hR hS hz (im_ls.st2 hl.2 hi.1.2 hl'))
  · exact hi.1.elim
theorem cl_lstore (K : im_ctx D X EV B ci nL mc ms ini cc p R s m args meth c) {k : Nat} (hd : decode cc pc = .ok (.lstore k, n)) (hi : im_in C Q (im_ws D B nL p l e R s m args below meth c Qw) (im_ins X EV ci mc ms rt ini pc ls st cu su hm hs (.lstore k) n)) : (im_ws D B nL p l e R s m args below meth c Qw) (pc, ls, st, cu, su, hm, hs) := by
  obtain ⟨hx, hb, hml, hown, hts, hF, hRc, hRs, hini, hB, hfr, hlo⟩ := K
  have hj0 := im_len hi
  clear hi
  obtain ⟨rfl, hi⟩ := hj0
  unfold i_lstore at hi
  split at hi
  · intro H locs lsA hR hS hz hl
    exact lv_lstore hx hb hd hl.1 (Nat.lt_of_lt_of_le hi.1.1 hl.2) rfl (fun ls' hl' => hi.2 H locs ls' hR hS hz (im_ls.st2 hl.2 hi.1.2 hl'))
  · exact hi.1.elim
theorem cl_iinc (K : im_ctx D X EV B ci nL mc ms ini cc p R s m args meth c) {k : Nat} {d : Int} (hd : decode cc pc = .ok (.iinc k d, n)) (hi : im_in C Q (im_ws D B nL p l e R s m args below meth c Qw) (im_ins X EV ci mc ms rt ini pc ls st cu su hm hs (.iinc k d) n)) : (im_ws D B nL p l e R s m args below meth c Qw) (pc, ls, st, cu, su, hm, hs) := by
  obtain ⟨hx, hb, hml, hown, hts, hF, hRc, hRs, hini, hB, hfr, hlo⟩ := K
  have hj0 := im_len hi
  clear hi
  obtain ⟨rfl, hi⟩ := hj0
  unfold i_iinc at hi
  split at hi
  · rename_i x hk
    intro H locs lsA hR hS hz hl
    obtain ⟨j, hj⟩ := List.getElem?_of_mem (im_as_mem.mpr ⟨hk, fun q => by cases q⟩)
    exact lv_iinc hx hb hd hl.1 hj rfl (Nat.lt_of_lt_of_le hi.1.1 hl.2) rfl (fun ls' hl' => hi.2 H locs ls' hR hS hz (im_ls.st1 hl.2 hi.1.2 hl'))
  · exact hi.1.elim
theorem cl_iadd (K : im_ctx D X EV B ci nL mc ms ini cc p R s m args meth c)  (hd : decode cc pc = .ok (.iadd, n)) (hi : im_in C Q (im_ws D B nL p l e R s m args below meth c Qw) (im_ins X EV ci mc ms rt ini pc ls st cu su hm hs (.iadd) n)) : (im_ws D B nL p l e R s m args below meth c Qw) (pc, ls, st, cu, su, hm, hs) := by
  obtain ⟨hx, hb, hml, hown, hts, hF, hRc, hRs, hini, hB, hfr, hlo⟩ := K
  have hj0 := im_len hi
  clear hi
  obtain ⟨rfl, hi⟩ := hj0
  unfold i_bin at hi
  split at hi
  · intro H locs lsA hR hS hz hl
    exact lv_iadd hx hb hd (hi.2 H locs lsA hR hS hz hl)
  · exact hi.1.elim
theorem cl_isub (K : im_ctx D X EV B ci nL mc ms ini cc p R s m args meth c)  (hd : decode cc pc = .ok (.isub, n)) (hi : im_in C Q (im_ws D B nL p l e R s m args below meth c Qw) (im_ins X EV ci mc ms rt ini pc ls st cu su hm hs (.isub) n)) : (im_ws D B nL p l e R s m args below meth c Qw) (pc, ls, st, cu, su, hm, hs) := by
  obtain ⟨hx, hb, hml, hown, hts, hF, hRc, hRs, hini, hB, hfr, hlo⟩ := K
  have hj0 := im_len hi
  clear hi
  obtain ⟨rfl, hi⟩ := hj0
  unfold i_bin at hi
  split at hi
  · intro H locs lsA hR hS hz hl
    exact lv_isub hx hb hd (hi.2 H locs lsA hR hS hz hl)
  · exact hi.1.elim
theorem cl_imul (K : im_ctx D X EV B ci nL mc ms ini cc p R s m args meth c)  (hd : decode cc pc = .ok (.imul, n)) (hi : im_in C Q (im_ws D B nL p l e R s m args below meth c Qw) (im_ins X EV ci mc ms rt ini pc ls st cu su hm hs (.imul) n)) : (im_ws D B nL p l e R s m args below meth c Qw) (pc, ls, st, cu, su, hm, hs) := by
  obtain ⟨hx, hb, hml, hown, hts, hF, hRc, hRs, hini, hB, hfr, hlo⟩ := K
  have hj0 := im_len hi
  clear hi
  obtain ⟨rfl, hi⟩ := hj0
  unfold i_bin at hi
  split at hi
  · intro H locs lsA hR hS hz hl
    exact lv_imul hx hb hd (hi.2 H locs lsA hR hS hz hl)
  · exact hi.1.elim
theorem cl_iand (K : im_ctx D X EV B ci nL mc ms ini cc p R s m args meth c)  (hd : decode cc pc = .ok (.iand, n)) (hi : im_in C Q (im_ws D B nL p l e R s m args below meth c Qw) (im_ins X EV ci mc ms rt ini pc ls st cu su hm hs (.iand) n)) : (im_ws D B nL p l e R s m args below meth c Qw) (pc, ls, st, cu, su, hm, hs) := by
  obtain ⟨hx, hb, hml, hown, hts, hF, hRc, hRs, hini, hB, hfr, hlo⟩ := K
  have hj0 := im_len hi
  clear hi
  obtain ⟨rfl, hi⟩ := hj0
  unfold i_bin at hi
  split at hi
  · intro H locs lsA hR hS hz hl
    exact lv_iand hx hb hd (hi.2 H locs lsA hR hS hz hl)
  · exact hi.1.elim
theorem cl_ior (K : im_ctx D X EV B ci nL mc ms ini cc p R s m args meth c)  (hd : decode cc pc = .ok (.ior, n)) (hi : im_in C Q (im_ws D B nL p l e R s m args below meth c Qw) (im_ins X EV ci mc ms rt ini pc ls st cu su hm hs (.ior) n)) : (im_ws D B nL p l e R s m args below meth c Qw) (pc, ls, st, cu, su, hm, hs) := by
  obtain ⟨hx, hb, hml, hown, hts, hF, hRc, hRs, hini, hB, hfr, hlo⟩ := K
  have hj0 := im_len hi
  clear hi
  obtain ⟨rfl, hi⟩ := hj0
  unfold i_bin at hi
  split at hi
  · intro H locs lsA hR hS hz hl
    exact lv_ior hx hb hd (hi.2 H locs lsA hR hS hz hl)
  · exact hi.1.elim
theorem cl_ixor (K : im_ctx D X EV B ci nL mc ms ini cc p R s m args meth c)  (hd : decode cc pc = .ok (.ixor, n)) (hi : im_in C Q (im_ws D B nL p l e R s m args below meth c Qw) (im_ins X EV ci mc ms rt ini pc ls st cu su hm hs (.ixor) n)) : (im_ws D B nL p l e R s m args below meth c Qw) (pc, ls, st, cu, su, hm, hs) := by
  obtain ⟨hx, hb, hml, hown, hts, hF, hRc, hRs, hini, hB, hfr, hlo⟩ := K
  have hj0 := im_len hi
  clear hi
  obtain ⟨rfl, hi⟩ := hj0
  unfold i_bin at hi
  split at hi
  · intro H locs lsA hR hS hz hl
    exact lv_ixor hx hb hd (hi.2 H locs lsA hR hS hz hl)
  · exact hi.1.elim
theorem cl_ishl (K : im_ctx D X EV B ci nL mc ms ini cc p R s m args meth c)  (hd : decode cc pc = .ok (.ishl, n)) (hi : im_in C Q (im_ws D B nL p l e R s m args below meth c Qw) (im_ins X EV ci mc ms rt ini pc ls st cu su hm hs (.ishl) n)) : (im_ws D B nL p l e R s m args below meth c Qw) (pc, ls, st, cu, su, hm, hs) := by
  obtain ⟨hx, hb, hml, hown, hts, hF, hRc, hRs, hini, hB, hfr, hlo⟩ := K
  have hj0 := im_len hi
  clear hi
  obtain ⟨rfl, hi⟩ := hj0
  unfold i_bin at hi
  split at hi
  · intro H locs lsA hR hS hz hl
    exact lv_ishl hx hb hd (hi.2 H locs lsA hR hS hz hl)
  · exact hi.1.elim
theorem cl_ishr (K : im_ctx D X EV B ci nL mc ms ini cc p R s m args meth c)  (hd : decode cc pc = .ok (.ishr, n)) (hi : im_in C Q (im_ws D B nL p l e R s m args below meth c Qw) (im_ins X EV ci mc ms rt ini pc ls st cu su hm hs (.ishr) n)) : (im_ws D B nL p l e R s m args below meth c Qw) (pc, ls, st, cu, su, hm, hs) := by
  obtain ⟨hx, hb, hml, hown, hts, hF, hRc, hRs, hini, hB, hfr, hlo⟩ := K
  have hj0 := im_len hi
  clear hi
  obtain ⟨rfl, hi⟩ := hj0
  unfold i_bin at hi
  split at hi
  · intro H locs lsA hR hS hz hl
    exact lv_ishr hx hb hd (hi.2 H locs lsA hR hS hz hl)
  · exact hi.1.elim
theorem cl_iushr (K : im_ctx D X EV B ci nL mc ms ini cc p R s m args meth c)  (hd : decode cc pc = .ok (.iushr, n)) (hi : im_in C Q (im_ws D B nL p l e R s m args below meth c Qw) (im_ins X EV ci mc ms rt ini pc ls st cu su hm hs (.iushr) n)) : (im_ws D B nL p l e R s m args below meth c Qw) (pc, ls, st, cu, su, hm, hs) := by
  obtain ⟨hx, hb, hml, hown, hts, hF, hRc, hRs, hini, hB, hfr, hlo⟩ := K
  have hj0 := im_len hi
  clear hi
  obtain ⟨rfl, hi⟩ := hj0
  unfold i_bin at hi
  split at hi
  · intro H locs lsA hR hS hz hl
    exact lv_iushr hx hb hd rfl (hi.2 H locs lsA hR hS hz hl)
  · exact hi.1.elim
theorem cl_idiv (K : im_ctx D X EV B ci nL mc ms ini cc p R s m args meth c)  (hd : decode cc pc = .ok (.idiv, n)) (hi : im_in C Q (im_ws D B nL p l e R s m args below meth c Qw) (im_ins X EV ci mc ms rt ini pc ls st cu su hm hs (.idiv) n)) : (im_ws D B nL p l e R s m args below meth c Qw) (pc, ls, st, cu, su, hm, hs) := by
  obtain ⟨hx, hb, hml, hown, hts, hF, hRc, hRs, hini, hB, hfr, hlo⟩ := K
  have hj0 := im_len hi
  clear hi
  obtain ⟨rfl, hi⟩ := hj0
  unfold i_div at hi
  split at hi
  · intro H locs lsA hR hS hz hl
    exact lv_idiv hx hb hd hi.1 (hi.2 H locs lsA hR hS hz hl)
  · exact hi.1.elim
theorem cl_irem (K : im_ctx D X EV B ci nL mc ms ini cc p R s m args meth c)  (hd : decode cc pc = .ok (.irem, n)) (hi : im_in C Q (im_ws D B nL p l e R s m args below meth c Qw) (im_ins X EV ci mc ms rt ini pc ls st cu su hm hs (.irem) n)) : (im_ws D B nL p l e R s m args below meth c Qw) (pc, ls, st, cu, su, hm, hs) := by
  obtain ⟨hx, hb, hml, hown, hts, hF, hRc, hRs, hini, hB, hfr, hlo⟩ := K
  have hj0 := im_len hi
  clear hi
  obtain ⟨rfl, hi⟩ := hj0
  unfold i_div at hi
  split at hi
  · intro H locs lsA hR hS hz hl
    exact lv_irem hx hb hd hi.1 (hi.2 H locs lsA hR hS hz hl)
  · exact hi.1.elim
theorem cl_ineg (K : im_ctx D X EV B ci nL mc ms ini cc p R s m args meth c)  (hd : decode cc pc = .ok (.ineg, n)) (hi : im_in C Q (im_ws D B nL p l e R s m args below meth c Qw) (im_ins X EV ci mc ms rt ini pc ls st cu su hm hs (.ineg) n)) : (im_ws D B nL p l e R s m args below meth c Qw) (pc, ls, st, cu, su, hm, hs) := by
  obtain ⟨hx, hb, hml, hown, hts, hF, hRc, hRs, hini, hB, hfr, hlo⟩ := K
  have hj0 := im_len hi
  clear hi
  obtain ⟨rfl, hi⟩ := hj0
  unfold i_un at hi
  split at hi
  · intro H locs lsA hR hS hz hl
    exact lv_ineg hx hb hd (hi.2 H locs lsA hR hS hz hl)
  · exact hi.1.elim
theorem cl_i2l (K : im_ctx D X EV B ci nL mc ms ini cc p R s m args meth c)  (hd : decode cc pc = .ok (.i2l, n)) (hi : im_in C Q (im_ws D B nL p l e R s m args below meth c Qw) (im_ins X EV ci mc ms rt ini pc ls st cu su hm hs (.i2l) n)) : (im_ws D B nL p l e R s m args below meth c Qw) (pc, ls, st, cu, su, hm, hs) := by
  obtain ⟨hx, hb, hml, hown, hts, hF, hRc, hRs, hini, hB, hfr, hlo⟩ := K
  have hj0 := im_len hi
  clear hi
  obtain ⟨rfl, hi⟩ := hj0
  unfold i_un at hi
  split at hi
  · intro H locs lsA hR hS hz hl
    exact lv_i2l hx hb hd rfl (hi.2 H locs lsA hR hS hz hl)
  · exact hi.1.elim
theorem cl_i2s (K : im_ctx D X EV B ci nL mc ms ini cc p R s m args meth c)  (hd : decode cc pc = .ok (.i2s, n)) (hi : im_in C Q (im_ws D B nL p l e R s m args below meth c Qw) (im_ins X EV ci mc ms rt ini pc ls st cu su hm hs (.i2s) n)) : (im_ws D B nL p l e R s m args below meth c Qw) (pc, ls, st, cu, su, hm, hs) := by
  obtain ⟨hx, hb, hml, hown, hts, hF, hRc, hRs, hini, hB, hfr, hlo⟩ := K
  have hj0 := im_len hi
  clear hi
  obtain ⟨rfl, hi⟩ := hj0
  unfold i_un at hi
  split at hi
  · intro H locs lsA hR hS hz hl
    exact lv_i2s hx hb hd rfl (hi.2 H locs lsA hR hS hz hl)
  · exact hi.1.elim
theorem cl_i2b (K : im_ctx D X EV B ci nL mc ms ini cc p R s m args meth c)  (hd : decode cc pc = .ok (.i2b, n)) (hi : im_in C Q (im_ws D B nL p l e R s m args below meth c Qw) (im_ins X EV ci mc ms rt ini pc ls st cu su hm hs (.i2b) n)) : (im_ws D B nL p l e R s m args below meth c Qw) (pc, ls, st, cu, su, hm, hs) := by
  obtain ⟨hx, hb, hml, hown, hts, hF, hRc, hRs, hini, hB, hfr, hlo⟩ := K
  have hj0 := im_len hi
  clear hi
  obtain ⟨rfl, hi⟩ := hj0
  unfold i_un at hi
  split at hi
  · intro H locs lsA hR hS hz hl
    exact lv_i2b hx hb hd rfl (hi.2 H locs lsA hR hS hz hl)
  · exact hi.1.elim
theorem cl_i2c (K : im_ctx D X EV B ci nL mc ms ini cc p R s m args meth c)  (hd : decode cc pc = .ok (.i2c, n)) (hi : im_in C Q (im_ws D B nL p l e R s m args below meth c Qw) (im_ins X EV ci mc ms rt ini pc ls st cu su hm hs (.i2c) n)) : (im_ws D B nL p l e R s m args below meth c Qw) (pc, ls, st, cu, su, hm, hs) := by
  obtain ⟨hx, hb, hml, hown, hts, hF, hRc, hRs, hini, hB, hfr, hlo⟩ := K
  have hj0 := im_len hi
  clear hi
  obtain ⟨rfl, hi⟩ := hj0
  unfold i_un at hi
  split at hi
  · intro H locs lsA hR hS hz hl
    exact lv_i2c hx hb hd rfl (hi.2 H locs lsA hR hS hz hl)
  · exact hi.1.elim
theorem cl_i2f (K : im_ctx D X EV B ci nL mc ms ini cc p R s m args meth c)  (hd : decode cc pc = .ok (.i2f, n)) (hi : im_in C Q (im_ws D B nL p l e R s m args below meth c Qw) (im_ins X EV ci mc ms rt ini pc ls st cu su hm hs (.i2f) n)) : (im_ws D B nL p l e R s m args below meth c Qw) (pc, ls, st, cu, su, hm, hs) := by
  obtain ⟨hx, hb, hml, hown, hts, hF, hRc, hRs, hini, hB, hfr, hlo⟩ := K
  have hj0 := im_len hi
  clear hi
  obtain ⟨rfl, hi⟩ := hj0
  unfold i_un at hi
  split at hi
  · intro H locs lsA hR hS hz hl
    exact lv_i2f hx hb hd (hi.2 H locs lsA hR hS hz hl)
  · exact hi.1.elim
theorem cl_l2i (K : im_ctx D X EV B ci nL mc ms ini cc p R s m args meth c)  (hd : decode cc pc = .ok (.l2i, n)) (hi : im_in C Q (im_ws D B nL p l e R s m args below meth c Qw) (im_ins X EV ci mc ms rt ini pc ls st cu su hm hs (.l2i) n)) : (im_ws D B nL p l e R s m args below meth c Qw) (pc, ls, st, cu, su, hm, hs) := by
  obtain ⟨hx, hb, hml, hown, hts, hF, hRc, hRs, hini, hB, hfr, hlo⟩ := K
  have hj0 := im_len hi
  clear hi
  obtain ⟨rfl, hi⟩ := hj0
  unfold i_l2i at hi
  split at hi
  · intro H locs lsA hR hS hz hl
    exact lv_l2i hx hb hd rfl (hi.2 H locs lsA hR hS hz hl)
  · exact hi.1.elim
theorem cl_ladd (K : im_ctx D X EV B ci nL mc ms ini cc p R s m args meth c)  (hd : decode cc pc = .ok (.ladd, n)) (hi : im_in C Q (im_ws D B nL p l e R s m args below meth c Qw) (im_ins X EV ci mc ms rt ini pc ls st cu su hm hs (.ladd) n)) : (im_ws D B nL p l e R s m args below meth c Qw) (pc, ls, st, cu, su, hm, hs) := by
  obtain ⟨hx, hb, hml, hown, hts, hF, hRc, hRs, hini, hB, hfr, hlo⟩ := K
  have hj0 := im_len hi
  clear hi
  obtain ⟨rfl, hi⟩ := hj0
  unfold i_binL at hi
  split at hi
  · intro H locs lsA hR hS hz hl
    exact lv_ladd hx hb hd (hi.2 H locs lsA hR hS hz hl)
  · exact hi.1.elim
theorem cl_lsub (K : im_ctx D X EV B ci nL mc ms ini cc p R s m args meth c)  (hd : decode cc pc = .ok (.lsub, n)) (hi : im_in C Q (im_ws D B nL p l e R s m args below meth c Qw) (im_ins X EV ci mc ms rt ini pc ls st cu su hm hs (.lsub) n)) : (im_ws D B nL p l e R s m args below meth c Qw) (pc, ls, st, cu, su, hm, hs) := by
  obtain ⟨hx, hb, hml, hown, hts, hF, hRc, hRs, hini, hB, hfr, hlo⟩ := K
  have hj0 := im_len hi
  clear hi
  obtain ⟨rfl, hi⟩ := hj0
  unfold i_binL at hi
  split at hi
  · intro H locs lsA hR hS hz hl
    exact lv_lsub hx hb hd (hi.2 H locs lsA hR hS hz hl)
  · exact hi.1.elim
theorem cl_lmul (K : im_ctx D X EV B ci nL mc ms ini cc p R s m args meth c)  (hd : decode cc pc = .ok (.lmul, n)) (hi : im_in C Q (im_ws D B nL p l e R s m args below meth c Qw) (im_ins X EV ci mc ms rt ini pc ls st cu su hm hs (.lmul) n)) : (im_ws D B nL p l e R s m args below meth c Qw) (pc, ls, st, cu, su, hm, hs) := by
  obtain ⟨hx, hb, hml, hown, hts, hF, hRc, hRs, hini, hB, hfr, hlo⟩ := K
  have hj0 := im_len hi
  clear hi
  obtain ⟨rfl, hi⟩ := hj0
  unfold i_binL at hi
  split at hi
  · intro H locs lsA hR hS hz hl
    exact lv_lmul hx hb hd (hi.2 H locs lsA hR hS hz hl)
  · exact hi.1.elim
theorem cl_ldiv (K : im_ctx D X EV B ci nL mc ms ini cc p R s m args meth c)  (hd : decode cc pc = .ok (.ldiv, n)) (hi : im_in C Q (im_ws D B nL p l e R s m args below meth c Qw) (im_ins X EV ci mc ms rt ini pc ls st cu su hm hs (.ldiv) n)) : (im_ws D B nL p l e R s m args below meth c Qw) (pc, ls, st, cu, su, hm, hs) := by
  obtain ⟨hx, hb, hml, hown, hts, hF, hRc, hRs, hini, hB, hfr, hlo⟩ := K
  have hj0 := im_len hi
  clear hi
  obtain ⟨rfl, hi⟩ := hj0
  unfold i_divL at hi
  split at hi
  · intro H locs lsA hR hS hz hl
    exact lv_ldiv hx hb hd hi.1 (hi.2 H locs lsA hR hS hz hl)
  · exact hi.1.elim
theorem cl_lrem (K : im_ctx D X EV B ci nL mc ms ini cc p R s m args meth c)  (hd : decode cc pc = .ok (.lrem, n)) (hi : im_in C Q (im_ws D B nL p l e R s m args below meth c Qw) (im_ins X EV ci mc ms rt ini pc ls st cu su hm hs (.lrem) n)) : (im_ws D B nL p l e R s m args below meth c Qw) (pc, ls, st, cu, su, hm, hs) := by
  obtain ⟨hx, hb, hml, hown, hts, hF, hRc, hRs, hini, hB, hfr, hlo⟩ := K
  have hj0 := im_len hi
  clear hi
  obtain ⟨rfl, hi⟩ := hj0
  unfold i_divL at hi
  split at hi
  · intro H locs lsA hR hS hz hl
    exact lv_lrem hx hb hd hi.1 (hi.2 H locs lsA hR hS hz hl)
  · exact hi.1.elim
theorem cl_lshl (K : im_ctx D X EV B ci nL mc ms ini cc p R s m args meth c)  (hd : decode cc pc = .ok (.lshl, n)) (hi : im_in C Q (im_ws D B nL p l e R s m args below meth c Qw) (im_ins X EV ci mc ms rt ini pc ls st cu su hm hs (.lshl) n)) : (im_ws D B nL p l e R s m args below meth c Qw) (pc, ls, st, cu, su, hm, hs) := by
  obtain ⟨hx, hb, hml, hown, hts, hF, hRc, hRs, hini, hB, hfr, hlo⟩ := K
  have hj0 := im_len hi
  clear hi
  obtain ⟨rfl, hi⟩ := hj0
  unfold i_shL at hi
  split at hi
  · intro H locs lsA hR hS hz hl
    exact lv_lshl hx hb hd rfl (hi.2 H locs lsA hR hS hz hl)
  · exact hi.1.elim
theorem cl_lshr (K : im_ctx D X EV B ci nL mc ms ini cc p R s m args meth c)  (hd : decode cc pc = .ok (.lshr, n)) (hi : im_in C Q (im_ws D B nL p l e R s m args below meth c Qw) (im_ins X EV ci mc ms rt ini pc ls st cu su hm hs (.lshr) n)) : (im_ws D B nL p l e R s m args below meth c Qw) (pc, ls, st, cu, su, hm, hs) := by
  obtain ⟨hx, hb, hml, hown, hts, hF, hRc, hRs, hini, hB, hfr, hlo⟩ := K
  have hj0 := im_len hi
  clear hi
  obtain ⟨rfl, hi⟩ := hj0
  unfold i_shL at hi
  split at hi
  · intro H locs lsA hR hS hz hl
    exact lv_lshr hx hb hd rfl (hi.2 H locs lsA hR hS hz hl)
  · exact hi.1.elim
theorem cl_lcmp (K : im_ctx D X EV B ci nL mc ms ini cc p R s m args meth c)  (hd : decode cc pc = .ok (.lcmp, n)) (hi : im_in C Q (im_ws D B nL p l e R s m args below meth c Qw) (im_ins X EV ci mc ms rt ini pc ls st cu su hm hs (.lcmp) n)) : (im_ws D B nL p l e R s m args below meth c Qw) (pc, ls, st, cu, su, hm, hs) := by
  obtain ⟨hx, hb, hml, hown, hts, hF, hRc, hRs, hini, hB, hfr, hlo⟩ := K
  have hj0 := im_len hi
  clear hi
  obtain ⟨rfl, hi⟩ := hj0
  unfold i_lcmp at hi
  split at hi
  · intro H locs lsA hR hS hz hl
    exact W.lcmp hx hb hd (hi.2 H locs lsA hR hS hz hl)
  · exact hi.1.elim
theorem cl_fmul (K : im_ctx D X EV B ci nL mc ms ini cc p R s m args meth c)  (hd : decode cc pc = .ok (.fmul, n)) (hi : im_in C Q (im_ws D B nL p l e R s m args below meth c Qw) (im_ins X EV ci mc ms rt ini pc ls st cu su hm hs (.fmul) n)) : (im_ws D B nL p l e R s m args below meth c Qw) (pc, ls, st, cu, su, hm, hs) := by
  obtain ⟨hx, hb, hml, hown, hts, hF, hRc, hRs, hini, hB, hfr, hlo⟩ := K
  have hj0 := im_len hi
  clear hi
  obtain ⟨rfl, hi⟩ := hj0
  unfold i_binF at hi
  split at hi
  · intro H locs lsA hR hS hz hl
    exact lv_fmul hx hb hd hi.1 (hi.2 H locs lsA hR hS hz hl)
  · exact hi.1.elim
theorem cl_fdiv (K : im_ctx D X EV B ci nL mc ms ini cc p R s m args meth c)  (hd : decode cc pc = .ok (.fdiv, n)) (hi : im_in C Q (im_ws D B nL p l e R s m args below meth c Qw) (im_ins X EV ci mc ms rt ini pc ls st cu su hm hs (.fdiv) n)) : (im_ws D B nL p l e R s m args below meth c Qw) (pc, ls, st, cu, su, hm, hs) := by
  obtain ⟨hx, hb, hml, hown, hts, hF, hRc, hRs, hini, hB, hfr, hlo⟩ := K
  have hj0 := im_len hi
  clear hi
  obtain ⟨rfl, hi⟩ := hj0
  unfold i_binF at hi
  split at hi
  · intro H locs lsA hR hS hz hl
    exact lv_fdiv hx hb hd hi.1 (hi.2 H locs lsA hR hS hz hl)
  · exact hi.1.elim
theorem cl_fsub (K : im_ctx D X EV B ci nL mc ms ini cc p R s m args meth c)  (hd : decode cc pc = .ok (.fsub, n)) (hi : im_in C Q (im_ws D B nL p l e R s m args below meth c Qw) (im_ins X EV ci mc ms rt ini pc ls st cu su hm hs (.fsub) n)) : (im_ws D B nL p l e R s m args below meth c Qw) (pc, ls, st, cu, su, hm, hs) := by
  obtain ⟨hx, hb, hml, hown, hts, hF, hRc, hRs, hini, hB, hfr, hlo⟩ := K
  have hj0 := im_len hi
  clear hi
  obtain ⟨rfl, hi⟩ := hj0
  unfold i_binF at hi
  split at hi
  · intro H locs lsA hR hS hz hl
    exact lv_fsub hx hb hd hi.1 (hi.2 H locs lsA hR hS hz hl)
  · exact hi.1.elim
theorem cl_fcmp (K : im_ctx D X EV B ci nL mc ms ini cc p R s m args meth c) {op : CmpOp} (hd : decode cc pc = .ok (.fcmp op, n)) (hi : im_in C Q (im_ws D B nL p l e R s m args below meth c Qw) (im_ins X EV ci mc ms rt ini pc ls st cu su hm hs (.fcmp op) n)) : (im_ws D B nL p l e R s m args below meth c Qw) (pc, ls, st, cu, su, hm, hs) := by
  obtain ⟨hx, hb, hml, hown, hts, hF, hRc, hRs, hini, hB, hfr, hlo⟩ := K
  have hj0 := im_len hi
  clear hi
  obtain ⟨rfl, hi⟩ := hj0
  unfold i_fcmp at hi
  split at hi
  · intro H locs lsA hR hS hz hl
    exact lv_fcmp hx hb hd (hi.2 H locs lsA hR hS hz hl)
  · exact hi.1.elim
theorem cl_f2i (K : im_ctx D X EV B ci nL mc ms ini cc p R s m args meth c)  (hd : decode cc pc = .ok (.f2i, n)) (hi : im_in C Q (im_ws D B nL p l e R s m args below meth c Qw) (im_ins X EV ci mc ms rt ini pc ls st cu su hm hs (.f2i) n)) : (im_ws D B nL p l e R s m args below meth c Qw) (pc, ls, st, cu, su, hm, hs) := by
  obtain ⟨hx, hb, hml, hown, hts, hF, hRc, hRs, hini, hB, hfr, hlo⟩ := K
  have hj0 := im_len hi
  clear hi
  obtain ⟨rfl, hi⟩ := hj0
  unfold i_f2i at hi
  split at hi
  · intro H locs lsA hR hS hz hl
    exact lv_f2i hx hb hd (hi.2 H locs lsA hR hS hz hl)
  · exact hi.1.elim
theorem cl_dup (K : im_ctx D X EV B ci nL mc ms ini cc p R s m args meth c)  (hd : decode cc pc = .ok (.dup, n)) (hi : im_in C Q (im_ws D B nL p l e R s m args below meth c Qw) (im_ins X EV ci mc ms rt ini pc ls st cu su hm hs (.dup) n)) : (im_ws D B nL p l e R s m args below meth c Qw) (pc, ls, st, cu, su, hm, hs) := by
  obtain ⟨hx, hb, hml, hown, hts, hF, hRc, hRs, hini, hB, hfr, hlo⟩ := K
  have hj0 := im_len hi
  clear hi
  obtain ⟨rfl, hi⟩ := hj0
  unfold i_dup at hi
  split at hi
  · intro H locs lsA hR hS hz hl
    exact lv_dup hx hb hd hi.1 (hi.2 H locs lsA hR hS hz hl)
  · exact hi.1.elim
theorem cl_pop (K : im_ctx D X EV B ci nL mc ms ini cc p R s m args meth c)  (hd : decode cc pc = .ok (.pop, n)) (hi : im_in C Q (im_ws D B nL p l e R s m args below meth c Qw) (im_ins X EV ci mc ms rt ini pc ls st cu su hm hs (.pop) n)) : (im_ws D B nL p l e R s m args below meth c Qw) (pc, ls, st, cu, su, hm, hs) := by
  obtain ⟨hx, hb, hml, hown, hts, hF, hRc, hRs, hini, hB, hfr, hlo⟩ := K
  have hj0 := im_len hi
  clear hi
  obtain ⟨rfl, hi⟩ := hj0
  unfold i_pop at hi
  split at hi
  · intro H locs lsA hR hS hz hl
    exact lv_pop hx hb hd hi.1 (hi.2 H locs lsA hR hS hz hl)
  · exact hi.1.elim
theorem cl_dup2 (K : im_ctx D X EV B ci nL mc ms ini cc p R s m args meth c)  (hd : decode cc pc = .ok (.dup2, n)) (hi : im_in C Q (im_ws D B nL p l e R s m args below meth c Qw) (im_ins X EV ci mc ms rt ini pc ls st cu su hm hs (.dup2) n)) : (im_ws D B nL p l e R s m args below meth c Qw) (pc, ls, st, cu, su, hm, hs) := by
  obtain ⟨hx, hb, hml, hown, hts, hF, hRc, hRs, hini, hB, hfr, hlo⟩ := K
  have hj0 := im_len hi
  clear hi
  obtain ⟨rfl, hi⟩ := hj0
  unfold i_dup2 at hi
  split at hi
  · intro H locs lsA hR hS hz hl
    exact lv_dup2_2 hx hb hd rfl (hi.2 H locs lsA hR hS hz hl)
  · intro H locs lsA hR hS hz hl
    exact lv_dup2_11 hx hb hd hi.1.1 hi.1.2 (hi.2 H locs lsA hR hS hz hl)
  · exact hi.1.elim
theorem cl_goto (K : im_ctx D X EV B ci nL mc ms ini cc p R s m args meth c) {off : Int} (hd : decode cc pc = .ok (.goto off, n)) (hi : im_in C Q (im_ws D B nL p l e R s m args below meth c Qw) (im_ins X EV ci mc ms rt ini pc ls st cu su hm hs (.goto off) n)) : (im_ws D B nL p l e R s m args below meth c Qw) (pc, ls, st, cu, su, hm, hs) := by
  obtain ⟨hx, hb, hml, hown, hts, hF, hRc, hRs, hini, hB, hfr, hlo⟩ := K
  have hj0 := im_len hi
  clear hi
  obtain ⟨rfl, hi⟩ := hj0
  intro H locs lsA hR hS hz hl
  exact lv_goto hx hb hd (im_jt hi.1) (hi.2 H locs lsA hR hS hz hl)
theorem cl_ifCond (K : im_ctx D X EV B ci nL mc ms ini cc p R s m args meth c) {k : ClassFile.Cond} {off : Int} (hd : decode cc pc = .ok (.ifCond k off, n)) (hi : im_in C Q (im_ws D B nL p l e R s m args below meth c Qw) (im_ins X EV ci mc ms rt ini pc ls st cu su hm hs (.ifCond k off) n)) : (im_ws D B nL p l e R s m args below meth c Qw) (pc, ls, st, cu, su, hm, hs) := by
  obtain ⟨hx, hb, hml, hown, hts, hF, hRc, hRs, hini, hB, hfr, hlo⟩ := K
  have hj0 := im_len hi
  clear hi
  obtain ⟨rfl, hi⟩ := hj0
  unfold i_if at hi
  split at hi
  · split at hi
    · rename_i hj
      intro H locs lsA hR hS hz hl
      cases k with
      | eq => exact lv_if_eq hx hb hd (im_jt hj) (fun q => hi.1 q H locs lsA hR hS hz hl) (fun q => hi.2 q H locs lsA hR hS hz hl)
      | ne => exact lv_if_ne hx hb hd (im_jt hj) (fun q => hi.1 q H locs lsA hR hS hz hl) (fun q => hi.2 (fun z => z q) H locs lsA hR hS hz hl)
      | lt => exact lv_if_lt hx hb hd (im_jt hj) (fun q => hi.1 q H locs lsA hR hS hz hl) (fun q => hi.2 q H locs lsA hR hS hz hl)
      | ge => exact lv_if_ge hx hb hd (im_jt hj) (fun q => hi.1 q H locs lsA hR hS hz hl) (fun q => hi.2 q H locs lsA hR hS hz hl)
      | gt => exact lv_if_gt hx hb hd (im_jt hj) (fun q => hi.1 q H locs lsA hR hS hz hl) (fun q => hi.2 q H locs lsA hR hS hz hl)
      | le => exact lv_if_le hx hb hd (im_jt hj) (fun q => hi.1 q H locs lsA hR hS hz hl) (fun q => hi.2 q H locs lsA hR hS hz hl)
    · exact hi.1.elim
  · exact hi.1.elim
theorem cl_if_icmp (K : im_ctx D X EV B ci nL mc ms ini cc p R s m args meth c) {k : ClassFile.Cond} {off : Int} (hd : decode cc pc = .ok (.if_icmp k off, n)) (hi : im_in C Q (im_ws D B nL p l e R s m args below meth c Qw) (im_ins X EV ci mc ms rt ini pc ls st cu su hm hs (.if_icmp k off) n)) : (im_ws D B nL p l e R s m args below meth c Qw) (pc, ls, st, cu, su, hm, hs) := by
  obtain ⟨hx, hb, hml, hown, hts, hF, hRc, hRs, hini, hB, hfr, hlo⟩ := K
  have hj0 := im_len hi
  clear hi
  obtain ⟨rfl, hi⟩ := hj0
  unfold i_icmp at hi
  split at hi
  · split at hi
    · rename_i hj
      intro H locs lsA hR hS hz hl
      cases k with
      | eq => exact lv_icmp_eq hx hb hd (im_jt hj) (fun q => hi.1 q H locs lsA hR hS hz hl) (fun q => hi.2 q H locs lsA hR hS hz hl)
      | ne => exact lv_icmp_ne hx hb hd (im_jt hj) (fun q => hi.1 q H locs lsA hR hS hz hl) (fun q => hi.2 (fun z => z q) H locs lsA hR hS hz hl)
      | lt => exact lv_icmp_lt hx hb hd (im_jt hj) (fun q => hi.1 q H locs lsA hR hS hz hl) (fun q => hi.2 q H locs lsA hR hS hz hl)
      | ge => exact lv_icmp_ge hx hb hd (im_jt hj) (fun q => hi.1 q H locs lsA hR hS hz hl) (fun q => hi.2 q H locs lsA hR hS hz hl)
      | gt => exact lv_icmp_gt hx hb hd (im_jt hj) (fun q => hi.1 q H locs lsA hR hS hz hl) (fun q => hi.2 q H locs lsA hR hS hz hl)
      | le => exact lv_icmp_le hx hb hd (im_jt hj) (fun q => hi.1 q H locs lsA hR hS hz hl) (fun q => hi.2 q H locs lsA hR hS hz hl)
    · exact hi.1.elim
  · exact hi.1.elim
theorem cl_tableswitch (K : im_ctx D X EV B ci nL mc ms ini cc p R s m args meth c) {dd lo hi1 : Int} {offs : Array Int} (hd : decode cc pc = .ok (.tableswitch dd lo hi1 offs, n)) (hi : im_in C Q (im_ws D B nL p l e R s m args below meth c Qw) (im_ins X EV ci mc ms rt ini pc ls st cu su hm hs (.tableswitch dd lo hi1 offs) n)) : (im_ws D B nL p l e R s m args below meth c Qw) (pc, ls, st, cu, su, hm, hs) := by
  obtain ⟨hx, hb, hml, hown, hts, hF, hRc, hRs, hini, hB, hfr, hlo⟩ := K
  replace hi : im_in C Q (im_ws D B nL p l e R s m args below meth c Qw) (i_tsw pc ls st cu su hm hs dd lo hi1 offs) := hi
  unfold i_tsw at hi
  split at hi
  · split at hi
    · rename_i ho
      intro H locs lsA hR hS hz hl
      exact lv_tableOut hx hb hd ho (im_jt hi.1) (hi.2 H locs lsA hR hS hz hl)
    · rename_i ho
      split at hi
      · rename_i off hoff
        intro H locs lsA hR hS hz hl
        exact lv_tableIn hx hb hd (fun q => ho (Or.inl q)) (fun q => ho (Or.inr q)) hoff (im_jt hi.1) (hi.2 H locs lsA hR hS hz hl)
      · exact hi.1.elim
  · exact hi.1.elim
end CL1
