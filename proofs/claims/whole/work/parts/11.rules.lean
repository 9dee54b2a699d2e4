/-! ===== rules of the small machine, to rewrite by ===== -/
def E1 (X : HM) (EV : Nat → Value) (d ci mc ms : Nat) (rt : Option FieldType) (ini : Bool) (cc : ByteArray) (Q : QT) (pc : Nat) (ls st : List Value) (cu su : Nat) (hm : HM) (hs : Nat) : Prop := Ex X EV (CC X EV d) ci mc ms rt ini cc Q (pc, ls, st, cu, su, hm, hs)
/-- the same, at a place where a walk stops -/
def E2 (X : HM) (EV : Nat → Value) (d ci mc ms : Nat) (rt : Option FieldType) (ini : Bool) (cc : ByteArray) (Q : QT) (pc : Nat) (ls st : List Value) (cu su : Nat) (hm : HM) (hs : Nat) : Prop := E1 X EV d ci mc ms rt ini cc Q pc ls st cu su hm hs
/-- reads of cells, with what comes behind -/
def gF (c : Option HC) (cj k : Nat) (K : Value → Prop) : Prop := match c with
  | some (.inr (ck, fs)) => match fs[k]? with
    | some v => ck = cj ∧ K v
    | none => False
  | _ => False
def pF (c : Option HC) (cj k : Nat) (ok : Prop) (v : Value) (K : HC → Prop) : Prop := match c with
  | some (.inr (ck, fs)) => (ck = cj ∧ k < fs.length ∧ ok) ∧ K (.inr (ck, fs.set k v))
  | _ => False
def aI (c : Option HC) (j : Int32) (K : Int32 → Prop) : Prop := match c with
  | some (.inl (.int, n, .inl f)) => vp_in j n ∧ K (f j.toNatClampNeg)
  | _ => False
def aB (c : Option HC) (j : Int32) (K : Int32 → Prop) : Prop := match c with
  | some (.inl (.byte, n, .inl f)) => vp_in j n ∧ K (f j.toNatClampNeg)
  | _ => False
def aJ (c : Option HC) (j : Int32) (K : Int64 → Prop) : Prop := match c with
  | some (.inl (.long, n, .inr (.inl f))) => vp_in j n ∧ K (f j.toNatClampNeg)
  | _ => False
def aR (c : Option HC) (j : Int32) (K : Value → Prop) : Prop := match c with
  | some (.inl (.object _, n, .inr (.inr (.inr (.inr f))))) => vp_in j n ∧ K (va_rf (f j.toNatClampNeg))
  | _ => False
def aN (c : Option HC) (K : Int32 → Prop) : Prop := match c with
  | some (.inl (_, n, _)) => K (nI n)
  | _ => False
def sI (c : Option HC) (j x : Int32) (K : HC → Prop) : Prop := match c with
  | some (.inl (.int, n, .inl f)) => vp_in j n ∧ K (.inl (.int, n, .inl (upd f j.toNatClampNeg x)))
  | _ => False
def sB (c : Option HC) (j x : Int32) (K : HC → Prop) : Prop := match c with
  | some (.inl (.byte, n, .inl f)) => vp_in j n ∧ K (.inl (.byte, n, .inl (upd f j.toNatClampNeg (vp_nar .byte x))))
  | _ => False
def sJ (c : Option HC) (j : Int32) (x : Int64) (K : HC → Prop) : Prop := match c with
  | some (.inl (.long, n, .inr (.inl f))) => vp_in j n ∧ K (.inl (.long, n, .inr (.inl (vp_updL f j.toNatClampNeg x))))
  | _ => False
def sR (c c2 : Option HC) (j : Int32) (v : Nat) (K : HC → Prop) : Prop := match c, c2 with
  | some (.inl (.object C, n, .inr (.inr (.inr (.inr f))))), some (.inr (cv, _)) => (vp_in j n ∧ cv < 11 ∧ im_cn cv = C) ∧ K (.inl (.object C, n, .inr (.inr (.inr (.inr (va_up f j.toNatClampNeg (some v)))))))
  | _, _ => False
def cpI (c c2 : Option HC) (sp dp n : Int32) (K : HC → Prop) : Prop := match c, c2 with
  | some (.inl (.int, n0, .inl f)), some (.inl (.int, n1, .inl g)) => ((¬ sp < 0 ∧ ¬ dp < 0 ∧ ¬ n < 0) ∧ sp.toNatClampNeg + n.toNatClampNeg ≤ n0 ∧ dp.toNatClampNeg + n.toNatClampNeg ≤ n1) ∧ K (.inl (.int, n1, .inl (va_cpy f g sp.toNatClampNeg dp.toNatClampNeg n.toNatClampNeg)))
  | _, _ => False
def rcv (c : Option HC) (cj : Nat) : Prop := match c with
  | some (.inr (ck, _)) => ck = cj
  | _ => False
def im_rok (cj y : Nat) : Prop := im_cn cj = (im_yn y).cls ∧ (cj < 11 ∨ cj = 12)
theorem aI_ok {n : Nat} {f : Nat → Int32} {j : Int32} {K : Int32 → Prop} : aI (some (.inl (.int, n, .inl f))) j K = (vp_in j n ∧ K (f j.toNatClampNeg)) := rfl
theorem aB_ok {n : Nat} {f : Nat → Int32} {j : Int32} {K : Int32 → Prop} : aB (some (.inl (.byte, n, .inl f))) j K = (vp_in j n ∧ K (f j.toNatClampNeg)) := rfl
theorem aJ_ok {n : Nat} {f : Nat → Int64} {j : Int32} {K : Int64 → Prop} : aJ (some (.inl (.long, n, .inr (.inl f)))) j K = (vp_in j n ∧ K (f j.toNatClampNeg)) := rfl
theorem aR_ok {C : String} {n : Nat} {f : Nat → Option Nat} {j : Int32} {K : Value → Prop} : aR (some (.inl (.object C, n, .inr (.inr (.inr (.inr f)))))) j K = (vp_in j n ∧ K (va_rf (f j.toNatClampNeg))) := rfl
theorem aN_ok {ty : FieldType} {n : Nat} {f : (Nat → Int32) ⊕ (Nat → Int64) ⊕ (Nat → UInt32) ⊕ (Nat → UInt64) ⊕ (Nat → Option Nat)} {K : Int32 → Prop} : aN (some (.inl (ty, n, f))) K = K (nI n) := rfl
theorem sI_ok {n : Nat} {f : Nat → Int32} {j x : Int32} {K : HC → Prop} : sI (some (.inl (.int, n, .inl f))) j x K = (vp_in j n ∧ K (.inl (.int, n, .inl (upd f j.toNatClampNeg x)))) := rfl
theorem sB_ok {n : Nat} {f : Nat → Int32} {j x : Int32} {K : HC → Prop} : sB (some (.inl (.byte, n, .inl f))) j x K = (vp_in j n ∧ K (.inl (.byte, n, .inl (upd f j.toNatClampNeg (vp_nar .byte x))))) := rfl
theorem sJ_ok {n : Nat} {f : Nat → Int64} {j : Int32} {x : Int64} {K : HC → Prop} : sJ (some (.inl (.long, n, .inr (.inl f)))) j x K = (vp_in j n ∧ K (.inl (.long, n, .inr (.inl (vp_updL f j.toNatClampNeg x))))) := rfl
theorem cpI_ok {n0 n1 : Nat} {f g : Nat → Int32} {sp dp n : Int32} {K : HC → Prop} : cpI (some (.inl (.int, n0, .inl f))) (some (.inl (.int, n1, .inl g))) sp dp n K = (((¬ sp < 0 ∧ ¬ dp < 0 ∧ ¬ n < 0) ∧ sp.toNatClampNeg + n.toNatClampNeg ≤ n0 ∧ dp.toNatClampNeg + n.toNatClampNeg ≤ n1) ∧ K (.inl (.int, n1, .inl (va_cpy f g sp.toNatClampNeg dp.toNatClampNeg n.toNatClampNeg)))) := rfl
theorem rcv_ok {cj : Nat} {fs : List Value} : rcv (some (.inr (cj, fs))) cj = True := propext ⟨fun _ => trivial, fun _ => rfl⟩
theorem up_eq (hm : HM) (a : Nat) (c : HC) : im_up hm a c a = some c := if_pos rfl
theorem up_ne {hm : HM} {a b : Nat} {c : HC} (h : b ≠ a) : im_up hm a c b = hm b := if_neg h
theorem rd_up_eq (X hm : HM) (a : Nat) (c : HC) : im_rd X (im_up hm a c) a = some c := by unfold im_rd; rw [up_eq]
theorem rd_up_ne {X hm : HM} {a b : Nat} {c : HC} (h : b ≠ a) : im_rd X (im_up hm a c) b = im_rd X hm b := by unfold im_rd; rw [up_ne h]
theorem rd_own {X hm : HM} {a : Nat} {c : HC} (h : hm a = some c) : im_rd X hm a = some c := by unfold im_rd; rw [h]
theorem rd_ext {X hm : HM} {a : Nat} (h : hm a = none) : im_rd X hm a = X a := by unfold im_rd; rw [h]
theorem up_up (hm : HM) (a : Nat) (c c2 : HC) : im_up (im_up hm a c) a c2 = im_up hm a c2 := by
  funext x
  unfold im_up
  split <;> rfl
theorem up_comm (hm : HM) {a b : Nat} (h : a ≠ b) (c c2 : HC) : im_up (im_up hm a c) b c2 = im_up (im_up hm b c2) a c := by
  funext x
  unfold im_up
  by_cases h1 : x = a
  · subst h1
    rw [if_pos rfl, if_neg h, if_pos rfl]
  · rw [if_neg h1, if_neg h1]
theorem up_self {hm : HM} {a : Nat} {c : HC} (h : hm a = some c) : im_up hm a c = hm := by
  funext x
  unfold im_up
  by_cases h1 : x = a
  · rw [if_pos h1, h1, h]
  · rw [if_neg h1]
theorem cat_i (x : Int32) : (Value.int x).category = 1 := rfl
theorem cat_r (x : Nat) : (Value.ref x).category = 1 := rfl
theorem cat_f (x : UInt32) : (Value.float x).category = 1 := rfl
theorem cat_n : Value.null.category = 1 := rfl
theorem fit_i (x : Int32) : im_fit .int (.int x) = True := propext ⟨fun _ => trivial, fun _ => ⟨rfl, rfl⟩⟩
theorem fit_a (t : FieldType) (x : Nat) : im_fit (.array t) (.ref x) = True := propext ⟨fun _ => trivial, fun _ => ⟨rfl, rfl⟩⟩
theorem fit_o (t : String) (x : Nat) : im_fit (.object t) (.ref x) = True := propext ⟨fun _ => trivial, fun _ => ⟨rfl, rfl⟩⟩
theorem fit_z0 : im_fit .boolean (.int 0) = True := propext ⟨fun _ => trivial, fun _ => ⟨rfl, rfl⟩⟩
theorem fit_z1 : im_fit .boolean (.int 1) = True := propext ⟨fun _ => trivial, fun _ => ⟨rfl, rfl⟩⟩
section RU
variable {X : HM} {EV : Nat → Value} {d ci mc ms : Nat} {rt : Option FieldType} {ini : Bool} {cc : ByteArray} {Q : QT} {pc : Nat} {ls st : List Value} {cu su : Nat} {hm : HM} {hs : Nat}
theorem e_step {i : Instr} {n : Nat} (hd : decode cc pc = .ok (i, n)) : E1 X EV d ci mc ms rt ini cc Q pc ls st cu su hm hs = im_in (CC X EV d) Q (fun t => Ex X EV (CC X EV d) ci mc ms rt ini cc Q t) (im_ins X EV ci mc ms rt ini pc ls st cu su hm hs i n) := by
  apply propext
  have e : im_out X EV ci mc ms rt ini cc (pc, ls, st, cu, su, hm, hs) = im_ins X EV ci mc ms rt ini pc ls st cu su hm hs i n := by simp only [im_out, hd]
  constructor
  · intro h
    have h2 := Ex.unfold (CC_mono X EV d) h
    rw [e] at h2
    exact h2
  · intro h
    refine Ex.fold (CC_mono X EV d) ?_
    rw [e]
    exact h
theorem e_go {P : Prop} : (True ∧ P) = P := propext ⟨fun h => h.2, fun h => ⟨trivial, h⟩⟩
theorem r_iconst {k : Int} {v : Int32} (hd : decode cc pc = .ok (.iconst k, 1)) (hv : Int32.ofInt k = v) : E1 X EV d ci mc ms rt ini cc Q pc ls st cu su hm hs = E1 X EV d ci mc ms rt ini cc Q (pc + 1) ls (.int v :: st) cu su hm hs := by subst hv; exact (e_step hd).trans e_go
theorem r_bipush {k : Int} {v : Int32} (hd : decode cc pc = .ok (.bipush k, 2)) (hv : (Int8.ofInt k).toInt32 = v) : E1 X EV d ci mc ms rt ini cc Q pc ls st cu su hm hs = E1 X EV d ci mc ms rt ini cc Q (pc + 2) ls (.int v :: st) cu su hm hs := by subst hv; exact (e_step hd).trans e_go
theorem r_sipush {k : Int} {v : Int32} (hd : decode cc pc = .ok (.sipush k, 3)) (hv : (Int16.ofInt k).toInt32 = v) : E1 X EV d ci mc ms rt ini cc Q pc ls st cu su hm hs = E1 X EV d ci mc ms rt ini cc Q (pc + 3) ls (.int v :: st) cu su hm hs := by subst hv; exact (e_step hd).trans e_go
theorem r_lconst {k : Fin 2} {v : Int64} (hd : decode cc pc = .ok (.lconst k, 1)) (hv : Int64.ofNat (k : Nat) = v) : E1 X EV d ci mc ms rt ini cc Q pc ls st cu su hm hs = E1 X EV d ci mc ms rt ini cc Q (pc + 1) ls (.long v :: st) cu su hm hs := by subst hv; exact (e_step hd).trans e_go
theorem r_fconst {k : Fin 3} (hd : decode cc pc = .ok (.fconst k, 1)) : E1 X EV d ci mc ms rt ini cc Q pc ls st cu su hm hs = E1 X EV d ci mc ms rt ini cc Q (pc + 1) ls (.float (i_fcs k) :: st) cu su hm hs := (e_step hd).trans e_go
theorem r_ldc {idx ps : Nat} {v : Int32} (hd : decode cc pc = .ok (.ldc idx, 2)) (hc : im_cst ci idx = some (.inl (.int v), ps)) : E1 X EV d ci mc ms rt ini cc Q pc ls st cu su hm hs = E1 X EV d ci mc ms rt ini cc Q (pc + 2) ls (.int v :: st) cu su hm hs := by
  rw [e_step hd]
  show im_in _ _ _ (i_cst EV ci pc ls st cu su hm hs 2 idx false) = _
  unfold i_cst
  rw [hc]
  exact propext ⟨fun h => h.2, fun h => ⟨rfl, h⟩⟩
theorem r_ldcw {idx ps : Nat} {v : Int32} (hd : decode cc pc = .ok (.ldc_w idx, 3)) (hc : im_cst ci idx = some (.inl (.int v), ps)) : E1 X EV d ci mc ms rt ini cc Q pc ls st cu su hm hs = E1 X EV d ci mc ms rt ini cc Q (pc + 3) ls (.int v :: st) cu su hm hs := by
  rw [e_step hd]
  show im_in _ _ _ (i_cst EV ci pc ls st cu su hm hs 3 idx false) = _
  unfold i_cst
  rw [hc]
  exact propext ⟨fun h => h.2, fun h => ⟨rfl, h⟩⟩
theorem r_ldcwf {idx ps : Nat} {v : UInt32} (hd : decode cc pc = .ok (.ldc_w idx, 3)) (hc : im_cst ci idx = some (.inl (.float v), ps)) : E1 X EV d ci mc ms rt ini cc Q pc ls st cu su hm hs = E1 X EV d ci mc ms rt ini cc Q (pc + 3) ls (.float v :: st) cu su hm hs := by
  rw [e_step hd]
  show im_in _ _ _ (i_cst EV ci pc ls st cu su hm hs 3 idx false) = _
  unfold i_cst
  rw [hc]
  exact propext ⟨fun h => h.2, fun h => ⟨rfl, h⟩⟩
theorem r_ldc2 {idx ps : Nat} {v : Int64} (hd : decode cc pc = .ok (.ldc2_w idx, 3)) (hc : im_cst ci idx = some (.inl (.long v), ps)) : E1 X EV d ci mc ms rt ini cc Q pc ls st cu su hm hs = E1 X EV d ci mc ms rt ini cc Q (pc + 3) ls (.long v :: st) cu su hm hs := by
  rw [e_step hd]
  show im_in _ _ _ (i_cst EV ci pc ls st cu su hm hs 3 idx true) = _
  unfold i_cst
  rw [hc]
  exact propext ⟨fun h => h.2, fun h => ⟨rfl, h⟩⟩
theorem r_ldcs {idx ps k : Nat} (hd : decode cc pc = .ok (.ldc idx, 2)) (hc : im_cst ci idx = some (.inr k, ps)) : E1 X EV d ci mc ms rt ini cc Q pc ls st cu su hm hs = E1 X EV d ci mc ms rt ini cc Q (pc + 2) ls (EV k :: st) cu su hm hs := by
  rw [e_step hd]
  show im_in _ _ _ (i_cst EV ci pc ls st cu su hm hs 2 idx false) = _
  unfold i_cst
  rw [hc]
  exact propext ⟨fun h => h.2, fun h => ⟨⟨rfl, rfl⟩, h⟩⟩
theorem r_gets {idx ps ne k : Nat} (hd : decode cc pc = .ok (.getstatic idx, 3)) (hc : im_sta ci idx = some (k, ne, ps)) : E1 X EV d ci mc ms rt ini cc Q pc ls st cu su hm hs = E1 X EV d ci mc ms rt ini cc Q (pc + 3) ls (EV k :: st) cu su hm hs := by
  rw [e_step hd]
  show im_in _ _ _ (i_gets EV ci pc ls st cu su hm hs idx) = _
  unfold i_gets
  rw [hc]
  exact e_go
theorem r_il0 {x : Int32} {t : List Value} (hd : decode cc pc = .ok (.iload_n 0, 1)) : E1 X EV d ci mc ms rt ini cc Q pc (.int x :: t) st cu su hm hs = E1 X EV d ci mc ms rt ini cc Q (pc + 1) (.int x :: t) (.int x :: st) cu su hm hs := (e_step hd).trans e_go
theorem r_ll0 {x : Int64} {t : List Value} (hd : decode cc pc = .ok (.lload_n 0, 1)) : E1 X EV d ci mc ms rt ini cc Q pc (.long x :: t) st cu su hm hs = E1 X EV d ci mc ms rt ini cc Q (pc + 1) (.long x :: t) (.long x :: st) cu su hm hs := (e_step hd).trans e_go
theorem r_al0 {x : Nat} {t : List Value} (hd : decode cc pc = .ok (.aload_n 0, 1)) : E1 X EV d ci mc ms rt ini cc Q pc (.ref x :: t) st cu su hm hs = E1 X EV d ci mc ms rt ini cc Q (pc + 1) (.ref x :: t) (.ref x :: st) cu su hm hs := (e_step hd).trans e_go
theorem r_fl0 {x : UInt32} {t : List Value} (hd : decode cc pc = .ok (.fload_n 0, 1)) : E1 X EV d ci mc ms rt ini cc Q pc (.float x :: t) st cu su hm hs = E1 X EV d ci mc ms rt ini cc Q (pc + 1) (.float x :: t) (.float x :: st) cu su hm hs := (e_step hd).trans e_go
theorem r_is0 {a0 : Value} {x : Int32} {t : List Value} (hd : decode cc pc = .ok (.istore_n 0, 1)) : E1 X EV d ci mc ms rt ini cc Q pc (a0 :: t) (.int x :: st) cu su hm hs = (E1 X EV d ci mc ms rt ini cc Q (pc + 1) (.int x :: t) st cu su hm hs) := (e_step hd).trans (propext ⟨fun h => h.2, fun h => ⟨⟨by show (_ : Nat) < List.length _; simp only [List.length_cons]; first | omega | exact Nat.succ_pos _, trivial⟩, h⟩⟩)
theorem r_as0 {a0 : Value} {x : Nat} {t : List Value} (hd : decode cc pc = .ok (.astore_n 0, 1)) : E1 X EV d ci mc ms rt ini cc Q pc (a0 :: t) (.ref x :: st) cu su hm hs = (E1 X EV d ci mc ms rt ini cc Q (pc + 1) (.ref x :: t) st cu su hm hs) := (e_step hd).trans (propext ⟨fun h => h.2, fun h => ⟨⟨by show (_ : Nat) < List.length _; simp only [List.length_cons]; first | omega | exact Nat.succ_pos _, trivial⟩, h⟩⟩)
theorem r_fs0 {a0 : Value} {x : UInt32} {t : List Value} (hd : decode cc pc = .ok (.fstore_n 0, 1)) : E1 X EV d ci mc ms rt ini cc Q pc (a0 :: t) (.float x :: st) cu su hm hs = (E1 X EV d ci mc ms rt ini cc Q (pc + 1) (.float x :: t) st cu su hm hs) := (e_step hd).trans (propext ⟨fun h => h.2, fun h => ⟨⟨by show (_ : Nat) < List.length _; simp only [List.length_cons]; first | omega | exact Nat.succ_pos _, trivial⟩, h⟩⟩)
theorem r_ii0 {x v : Int32} {k : Int} {t : List Value} (hd : decode cc pc = .ok (.iinc 0 k, 3)) (hv : Int32.ofInt k = v) : E1 X EV d ci mc ms rt ini cc Q pc (.int x :: t) st cu su hm hs = (E1 X EV d ci mc ms rt ini cc Q (pc + 3) (.int (x + v) :: t) st cu su hm hs) := by subst hv; exact (e_step hd).trans (propext ⟨fun h => h.2, fun h => ⟨⟨by show (_ : Nat) < List.length _; simp only [List.length_cons]; first | omega | exact Nat.succ_pos _, trivial⟩, h⟩⟩)
theorem r_ls0 {a0 a1 : Value} {x : Int64} {t : List Value} (hd : decode cc pc = .ok (.lstore_n 0, 1)) : E1 X EV d ci mc ms rt ini cc Q pc (a0 :: a1 :: t) (.long x :: st) cu su hm hs = (E1 X EV d ci mc ms rt ini cc Q (pc + 1) (.long x :: .null :: t) st cu su hm hs) := (e_step hd).trans (propext ⟨fun h => h.2, fun h => ⟨⟨by show (_ : Nat) < List.length _; simp only [List.length_cons]; first | omega | exact Nat.succ_pos _, trivial⟩, h⟩⟩)
theorem r_il1 {a0 : Value} {x : Int32} {t : List Value} (hd : decode cc pc = .ok (.iload_n 1, 1)) : E1 X EV d ci mc ms rt ini cc Q pc (a0 :: .int x :: t) st cu su hm hs = E1 X EV d ci mc ms rt ini cc Q (pc + 1) (a0 :: .int x :: t) (.int x :: st) cu su hm hs := (e_step hd).trans e_go
theorem r_ll1 {a0 : Value} {x : Int64} {t : List Value} (hd : decode cc pc = .ok (.lload_n 1, 1)) : E1 X EV d ci mc ms rt ini cc Q pc (a0 :: .long x :: t) st cu su hm hs = E1 X EV d ci mc ms rt ini cc Q (pc + 1) (a0 :: .long x :: t) (.long x :: st) cu su hm hs := (e_step hd).trans e_go
theorem r_al1 {a0 : Value} {x : Nat} {t : List Value} (hd : decode cc pc = .ok (.aload_n 1, 1)) : E1 X EV d ci mc ms rt ini cc Q pc (a0 :: .ref x :: t) st cu su hm hs = E1 X EV d ci mc ms rt ini cc Q (pc + 1) (a0 :: .ref x :: t) (.ref x :: st) cu su hm hs := (e_step hd).trans e_go
theorem r_fl1 {a0 : Value} {x : UInt32} {t : List Value} (hd : decode cc pc = .ok (.fload_n 1, 1)) : E1 X EV d ci mc ms rt ini cc Q pc (a0 :: .float x :: t) st cu su hm hs = E1 X EV d ci mc ms rt ini cc Q (pc + 1) (a0 :: .float x :: t) (.float x :: st) cu su hm hs := (e_step hd).trans e_go
theorem r_is1 {a0 a1 : Value} {x : Int32} {t : List Value} (hd : decode cc pc = .ok (.istore_n 1, 1)) : E1 X EV d ci mc ms rt ini cc Q pc (a0 :: a1 :: t) (.int x :: st) cu su hm hs = (a0.category = 1 ∧ E1 X EV d ci mc ms rt ini cc Q (pc + 1) (a0 :: .int x :: t) st cu su hm hs) := (e_step hd).trans (propext ⟨fun h => ⟨h.1.2 _ rfl, h.2⟩, fun h => ⟨⟨by simp only [List.length_cons]; show 1 < _; omega, fun w hw => by cases hw; exact h.1⟩, h.2⟩⟩)
theorem r_as1 {a0 a1 : Value} {x : Nat} {t : List Value} (hd : decode cc pc = .ok (.astore_n 1, 1)) : E1 X EV d ci mc ms rt ini cc Q pc (a0 :: a1 :: t) (.ref x :: st) cu su hm hs = (a0.category = 1 ∧ E1 X EV d ci mc ms rt ini cc Q (pc + 1) (a0 :: .ref x :: t) st cu su hm hs) := (e_step hd).trans (propext ⟨fun h => ⟨h.1.2 _ rfl, h.2⟩, fun h => ⟨⟨by simp only [List.length_cons]; show 1 < _; omega, fun w hw => by cases hw; exact h.1⟩, h.2⟩⟩)
theorem r_fs1 {a0 a1 : Value} {x : UInt32} {t : List Value} (hd : decode cc pc = .ok (.fstore_n 1, 1)) : E1 X EV d ci mc ms rt ini cc Q pc (a0 :: a1 :: t) (.float x :: st) cu su hm hs = (a0.category = 1 ∧ E1 X EV d ci mc ms rt ini cc Q (pc + 1) (a0 :: .float x :: t) st cu su hm hs) := (e_step hd).trans (propext ⟨fun h => ⟨h.1.2 _ rfl, h.2⟩, fun h => ⟨⟨by simp only [List.length_cons]; show 1 < _; omega, fun w hw => by cases hw; exact h.1⟩, h.2⟩⟩)
theorem r_ii1 {a0 : Value} {x v : Int32} {k : Int} {t : List Value} (hd : decode cc pc = .ok (.iinc 1 k, 3)) (hv : Int32.ofInt k = v) : E1 X EV d ci mc ms rt ini cc Q pc (a0 :: .int x :: t) st cu su hm hs = (a0.category = 1 ∧ E1 X EV d ci mc ms rt ini cc Q (pc + 3) (a0 :: .int (x + v) :: t) st cu su hm hs) := by subst hv; exact (e_step hd).trans (propext ⟨fun h => ⟨h.1.2 _ rfl, h.2⟩, fun h => ⟨⟨by simp only [List.length_cons]; show 1 < _; omega, fun w hw => by cases hw; exact h.1⟩, h.2⟩⟩)
theorem r_ls1 {a0 a1 a2 : Value} {x : Int64} {t : List Value} (hd : decode cc pc = .ok (.lstore_n 1, 1)) : E1 X EV d ci mc ms rt ini cc Q pc (a0 :: a1 :: a2 :: t) (.long x :: st) cu su hm hs = (a0.category = 1 ∧ E1 X EV d ci mc ms rt ini cc Q (pc + 1) (a0 :: .long x :: .null :: t) st cu su hm hs) := (e_step hd).trans (propext ⟨fun h => ⟨h.1.2 _ rfl, h.2⟩, fun h => ⟨⟨by simp only [List.length_cons]; show 2 < _; omega, fun w hw => by cases hw; exact h.1⟩, h.2⟩⟩)
theorem r_il2 {a0 a1 : Value} {x : Int32} {t : List Value} (hd : decode cc pc = .ok (.iload_n 2, 1)) : E1 X EV d ci mc ms rt ini cc Q pc (a0 :: a1 :: .int x :: t) st cu su hm hs = E1 X EV d ci mc ms rt ini cc Q (pc + 1) (a0 :: a1 :: .int x :: t) (.int x :: st) cu su hm hs := (e_step hd).trans e_go
theorem r_ll2 {a0 a1 : Value} {x : Int64} {t : List Value} (hd : decode cc pc = .ok (.lload_n 2, 1)) : E1 X EV d ci mc ms rt ini cc Q pc (a0 :: a1 :: .long x :: t) st cu su hm hs = E1 X EV d ci mc ms rt ini cc Q (pc + 1) (a0 :: a1 :: .long x :: t) (.long x :: st) cu su hm hs := (e_step hd).trans e_go
theorem r_al2 {a0 a1 : Value} {x : Nat} {t : List Value} (hd : decode cc pc = .ok (.aload_n 2, 1)) : E1 X EV d ci mc ms rt ini cc Q pc (a0 :: a1 :: .ref x :: t) st cu su hm hs = E1 X EV d ci mc ms rt ini cc Q (pc + 1) (a0 :: a1 :: .ref x :: t) (.ref x :: st) cu su hm hs := (e_step hd).trans e_go
theorem r_fl2 {a0 a1 : Value} {x : UInt32} {t : List Value} (hd : decode cc pc = .ok (.fload_n 2, 1)) : E1 X EV d ci mc ms rt ini cc Q pc (a0 :: a1 :: .float x :: t) st cu su hm hs = E1 X EV d ci mc ms rt ini cc Q (pc + 1) (a0 :: a1 :: .float x :: t) (.float x :: st) cu su hm hs := (e_step hd).trans e_go
theorem r_is2 {a0 a1 a2 : Value} {x : Int32} {t : List Value} (hd : decode cc pc = .ok (.istore_n 2, 1)) : E1 X EV d ci mc ms rt ini cc Q pc (a0 :: a1 :: a2 :: t) (.int x :: st) cu su hm hs = (a1.category = 1 ∧ E1 X EV d ci mc ms rt ini cc Q (pc + 1) (a0 :: a1 :: .int x :: t) st cu su hm hs) := (e_step hd).trans (propext ⟨fun h => ⟨h.1.2 _ rfl, h.2⟩, fun h => ⟨⟨by simp only [List.length_cons]; show 2 < _; omega, fun w hw => by cases hw; exact h.1⟩, h.2⟩⟩)
theorem r_as2 {a0 a1 a2 : Value} {x : Nat} {t : List Value} (hd : decode cc pc = .ok (.astore_n 2, 1)) : E1 X EV d ci mc ms rt ini cc Q pc (a0 :: a1 :: a2 :: t) (.ref x :: st) cu su hm hs = (a1.category = 1 ∧ E1 X EV d ci mc ms rt ini cc Q (pc + 1) (a0 :: a1 :: .ref x :: t) st cu su hm hs) := (e_step hd).trans (propext ⟨fun h => ⟨h.1.2 _ rfl, h.2⟩, fun h => ⟨⟨by simp only [List.length_cons]; show 2 < _; omega, fun w hw => by cases hw; exact h.1⟩, h.2⟩⟩)
theorem r_fs2 {a0 a1 a2 : Value} {x : UInt32} {t : List Value} (hd : decode cc pc = .ok (.fstore_n 2, 1)) : E1 X EV d ci mc ms rt ini cc Q pc (a0 :: a1 :: a2 :: t) (.float x :: st) cu su hm hs = (a1.category = 1 ∧ E1 X EV d ci mc ms rt ini cc Q (pc + 1) (a0 :: a1 :: .float x :: t) st cu su hm hs) := (e_step hd).trans (propext ⟨fun h => ⟨h.1.2 _ rfl, h.2⟩, fun h => ⟨⟨by simp only [List.length_cons]; show 2 < _; omega, fun w hw => by cases hw; exact h.1⟩, h.2⟩⟩)
theorem r_ii2 {a0 a1 : Value} {x v : Int32} {k : Int} {t : List Value} (hd : decode cc pc = .ok (.iinc 2 k, 3)) (hv : Int32.ofInt k = v) : E1 X EV d ci mc ms rt ini cc Q pc (a0 :: a1 :: .int x :: t) st cu su hm hs = (a1.category = 1 ∧ E1 X EV d ci mc ms rt ini cc Q (pc + 3) (a0 :: a1 :: .int (x + v) :: t) st cu su hm hs) := by subst hv; exact (e_step hd).trans (propext ⟨fun h => ⟨h.1.2 _ rfl, h.2⟩, fun h => ⟨⟨by simp only [List.length_cons]; show 2 < _; omega, fun w hw => by cases hw; exact h.1⟩, h.2⟩⟩)
theorem r_ls2 {a0 a1 a2 a3 : Value} {x : Int64} {t : List Value} (hd : decode cc pc = .ok (.lstore_n 2, 1)) : E1 X EV d ci mc ms rt ini cc Q pc (a0 :: a1 :: a2 :: a3 :: t) (.long x :: st) cu su hm hs = (a1.category = 1 ∧ E1 X EV d ci mc ms rt ini cc Q (pc + 1) (a0 :: a1 :: .long x :: .null :: t) st cu su hm hs) := (e_step hd).trans (propext ⟨fun h => ⟨h.1.2 _ rfl, h.2⟩, fun h => ⟨⟨by simp only [List.length_cons]; show 3 < _; omega, fun w hw => by cases hw; exact h.1⟩, h.2⟩⟩)
theorem r_il3 {a0 a1 a2 : Value} {x : Int32} {t : List Value} (hd : decode cc pc = .ok (.iload_n 3, 1)) : E1 X EV d ci mc ms rt ini cc Q pc (a0 :: a1 :: a2 :: .int x :: t) st cu su hm hs = E1 X EV d ci mc ms rt ini cc Q (pc + 1) (a0 :: a1 :: a2 :: .int x :: t) (.int x :: st) cu su hm hs := (e_step hd).trans e_go
theorem r_ll3 {a0 a1 a2 : Value} {x : Int64} {t : List Value} (hd : decode cc pc = .ok (.lload_n 3, 1)) : E1 X EV d ci mc ms rt ini cc Q pc (a0 :: a1 :: a2 :: .long x :: t) st cu su hm hs = E1 X EV d ci mc ms rt ini cc Q (pc + 1) (a0 :: a1 :: a2 :: .long x :: t) (.long x :: st) cu su hm hs := (e_step hd).trans e_go
theorem r_al3 {a0 a1 a2 : Value} {x : Nat} {t : List Value} (hd : decode cc pc = .ok (.aload_n 3, 1)) : E1 X EV d ci mc ms rt ini cc Q pc (a0 :: a1 :: a2 :: .ref x :: t) st cu su hm hs = E1 X EV d ci mc ms rt ini cc Q (pc + 1) (a0 :: a1 :: a2 :: .ref x :: t) (.ref x :: st) cu su hm hs := (e_step hd).trans e_go
theorem r_fl3 {a0 a1 a2 : Value} {x : UInt32} {t : List Value} (hd : decode cc pc = .ok (.fload_n 3, 1)) : E1 X EV d ci mc ms rt ini cc Q pc (a0 :: a1 :: a2 :: .float x :: t) st cu su hm hs = E1 X EV d ci mc ms rt ini cc Q (pc + 1) (a0 :: a1 :: a2 :: .float x :: t) (.float x :: st) cu su hm hs := (e_step hd).trans e_go
theorem r_is3 {a0 a1 a2 a3 : Value} {x : Int32} {t : List Value} (hd : decode cc pc = .ok (.istore_n 3, 1)) : E1 X EV d ci mc ms rt ini cc Q pc (a0 :: a1 :: a2 :: a3 :: t) (.int x :: st) cu su hm hs = (a2.category = 1 ∧ E1 X EV d ci mc ms rt ini cc Q (pc + 1) (a0 :: a1 :: a2 :: .int x :: t) st cu su hm hs) := (e_step hd).trans (propext ⟨fun h => ⟨h.1.2 _ rfl, h.2⟩, fun h => ⟨⟨by simp only [List.length_cons]; show 3 < _; omega, fun w hw => by cases hw; exact h.1⟩, h.2⟩⟩)
theorem r_as3 {a0 a1 a2 a3 : Value} {x : Nat} {t : List Value} (hd : decode cc pc = .ok (.astore_n 3, 1)) : E1 X EV d ci mc ms rt ini cc Q pc (a0 :: a1 :: a2 :: a3 :: t) (.ref x :: st) cu su hm hs = (a2.category = 1 ∧ E1 X EV d ci mc ms rt ini cc Q (pc + 1) (a0 :: a1 :: a2 :: .ref x :: t) st cu su hm hs) := (e_step hd).trans (propext ⟨fun h => ⟨h.1.2 _ rfl, h.2⟩, fun h => ⟨⟨by simp only [List.length_cons]; show 3 < _; omega, fun w hw => by cases hw; exact h.1⟩, h.2⟩⟩)
theorem r_fs3 {a0 a1 a2 a3 : Value} {x : UInt32} {t : List Value} (hd : decode cc pc = .ok (.fstore_n 3, 1)) : E1 X EV d ci mc ms rt ini cc Q pc (a0 :: a1 :: a2 :: a3 :: t) (.float x :: st) cu su hm hs = (a2.category = 1 ∧ E1 X EV d ci mc ms rt ini cc Q (pc + 1) (a0 :: a1 :: a2 :: .float x :: t) st cu su hm hs) := (e_step hd).trans (propext ⟨fun h => ⟨h.1.2 _ rfl, h.2⟩, fun h => ⟨⟨by simp only [List.length_cons]; show 3 < _; omega, fun w hw => by cases hw; exact h.1⟩, h.2⟩⟩)
theorem r_ii3 {a0 a1 a2 : Value} {x v : Int32} {k : Int} {t : List Value} (hd : decode cc pc = .ok (.iinc 3 k, 3)) (hv : Int32.ofInt k = v) : E1 X EV d ci mc ms rt ini cc Q pc (a0 :: a1 :: a2 :: .int x :: t) st cu su hm hs = (a2.category = 1 ∧ E1 X EV d ci mc ms rt ini cc Q (pc + 3) (a0 :: a1 :: a2 :: .int (x + v) :: t) st cu su hm hs) := by subst hv; exact (e_step hd).trans (propext ⟨fun h => ⟨h.1.2 _ rfl, h.2⟩, fun h => ⟨⟨by simp only [List.length_cons]; show 3 < _; omega, fun w hw => by cases hw; exact h.1⟩, h.2⟩⟩)
theorem r_ls3 {a0 a1 a2 a3 a4 : Value} {x : Int64} {t : List Value} (hd : decode cc pc = .ok (.lstore_n 3, 1)) : E1 X EV d ci mc ms rt ini cc Q pc (a0 :: a1 :: a2 :: a3 :: a4 :: t) (.long x :: st) cu su hm hs = (a2.category = 1 ∧ E1 X EV d ci mc ms rt ini cc Q (pc + 1) (a0 :: a1 :: a2 :: .long x :: .null :: t) st cu su hm hs) := (e_step hd).trans (propext ⟨fun h => ⟨h.1.2 _ rfl, h.2⟩, fun h => ⟨⟨by simp only [List.length_cons]; show 4 < _; omega, fun w hw => by cases hw; exact h.1⟩, h.2⟩⟩)
theorem r_il4 {a0 a1 a2 a3 : Value} {x : Int32} {t : List Value} (hd : decode cc pc = .ok (.iload 4, 2)) : E1 X EV d ci mc ms rt ini cc Q pc (a0 :: a1 :: a2 :: a3 :: .int x :: t) st cu su hm hs = E1 X EV d ci mc ms rt ini cc Q (pc + 2) (a0 :: a1 :: a2 :: a3 :: .int x :: t) (.int x :: st) cu su hm hs := (e_step hd).trans e_go
theorem r_ll4 {a0 a1 a2 a3 : Value} {x : Int64} {t : List Value} (hd : decode cc pc = .ok (.lload 4, 2)) : E1 X EV d ci mc ms rt ini cc Q pc (a0 :: a1 :: a2 :: a3 :: .long x :: t) st cu su hm hs = E1 X EV d ci mc ms rt ini cc Q (pc + 2) (a0 :: a1 :: a2 :: a3 :: .long x :: t) (.long x :: st) cu su hm hs := (e_step hd).trans e_go
theorem r_al4 {a0 a1 a2 a3 : Value} {x : Nat} {t : List Value} (hd : decode cc pc = .ok (.aload 4, 2)) : E1 X EV d ci mc ms rt ini cc Q pc (a0 :: a1 :: a2 :: a3 :: .ref x :: t) st cu su hm hs = E1 X EV d ci mc ms rt ini cc Q (pc + 2) (a0 :: a1 :: a2 :: a3 :: .ref x :: t) (.ref x :: st) cu su hm hs := (e_step hd).trans e_go
theorem r_is4 {a0 a1 a2 a3 a4 : Value} {x : Int32} {t : List Value} (hd : decode cc pc = .ok (.istore 4, 2)) : E1 X EV d ci mc ms rt ini cc Q pc (a0 :: a1 :: a2 :: a3 :: a4 :: t) (.int x :: st) cu su hm hs = (a3.category = 1 ∧ E1 X EV d ci mc ms rt ini cc Q (pc + 2) (a0 :: a1 :: a2 :: a3 :: .int x :: t) st cu su hm hs) := (e_step hd).trans (propext ⟨fun h => ⟨h.1.2 _ rfl, h.2⟩, fun h => ⟨⟨by simp only [List.length_cons]; show 4 < _; omega, fun w hw => by cases hw; exact h.1⟩, h.2⟩⟩)
theorem r_as4 {a0 a1 a2 a3 a4 : Value} {x : Nat} {t : List Value} (hd : decode cc pc = .ok (.astore 4, 2)) : E1 X EV d ci mc ms rt ini cc Q pc (a0 :: a1 :: a2 :: a3 :: a4 :: t) (.ref x :: st) cu su hm hs = (a3.category = 1 ∧ E1 X EV d ci mc ms rt ini cc Q (pc + 2) (a0 :: a1 :: a2 :: a3 :: .ref x :: t) st cu su hm hs) := (e_step hd).trans (propext ⟨fun h => ⟨h.1.2 _ rfl, h.2⟩, fun h => ⟨⟨by simp only [List.length_cons]; show 4 < _; omega, fun w hw => by cases hw; exact h.1⟩, h.2⟩⟩)
theorem r_ii4 {a0 a1 a2 a3 : Value} {x v : Int32} {k : Int} {t : List Value} (hd : decode cc pc = .ok (.iinc 4 k, 3)) (hv : Int32.ofInt k = v) : E1 X EV d ci mc ms rt ini cc Q pc (a0 :: a1 :: a2 :: a3 :: .int x :: t) st cu su hm hs = (a3.category = 1 ∧ E1 X EV d ci mc ms rt ini cc Q (pc + 3) (a0 :: a1 :: a2 :: a3 :: .int (x + v) :: t) st cu su hm hs) := by subst hv; exact (e_step hd).trans (propext ⟨fun h => ⟨h.1.2 _ rfl, h.2⟩, fun h => ⟨⟨by simp only [List.length_cons]; show 4 < _; omega, fun w hw => by cases hw; exact h.1⟩, h.2⟩⟩)
theorem r_ls4 {a0 a1 a2 a3 a4 a5 : Value} {x : Int64} {t : List Value} (hd : decode cc pc = .ok (.lstore 4, 2)) : E1 X EV d ci mc ms rt ini cc Q pc (a0 :: a1 :: a2 :: a3 :: a4 :: a5 :: t) (.long x :: st) cu su hm hs = (a3.category = 1 ∧ E1 X EV d ci mc ms rt ini cc Q (pc + 2) (a0 :: a1 :: a2 :: a3 :: .long x :: .null :: t) st cu su hm hs) := (e_step hd).trans (propext ⟨fun h => ⟨h.1.2 _ rfl, h.2⟩, fun h => ⟨⟨by simp only [List.length_cons]; show 5 < _; omega, fun w hw => by cases hw; exact h.1⟩, h.2⟩⟩)
theorem r_il5 {a0 a1 a2 a3 a4 : Value} {x : Int32} {t : List Value} (hd : decode cc pc = .ok (.iload 5, 2)) : E1 X EV d ci mc ms rt ini cc Q pc (a0 :: a1 :: a2 :: a3 :: a4 :: .int x :: t) st cu su hm hs = E1 X EV d ci mc ms rt ini cc Q (pc + 2) (a0 :: a1 :: a2 :: a3 :: a4 :: .int x :: t) (.int x :: st) cu su hm hs := (e_step hd).trans e_go
theorem r_ll5 {a0 a1 a2 a3 a4 : Value} {x : Int64} {t : List Value} (hd : decode cc pc = .ok (.lload 5, 2)) : E1 X EV d ci mc ms rt ini cc Q pc (a0 :: a1 :: a2 :: a3 :: a4 :: .long x :: t) st cu su hm hs = E1 X EV d ci mc ms rt ini cc Q (pc + 2) (a0 :: a1 :: a2 :: a3 :: a4 :: .long x :: t) (.long x :: st) cu su hm hs := (e_step hd).trans e_go
theorem r_al5 {a0 a1 a2 a3 a4 : Value} {x : Nat} {t : List Value} (hd : decode cc pc = .ok (.aload 5, 2)) : E1 X EV d ci mc ms rt ini cc Q pc (a0 :: a1 :: a2 :: a3 :: a4 :: .ref x :: t) st cu su hm hs = E1 X EV d ci mc ms rt ini cc Q (pc + 2) (a0 :: a1 :: a2 :: a3 :: a4 :: .ref x :: t) (.ref x :: st) cu su hm hs := (e_step hd).trans e_go
theorem r_is5 {a0 a1 a2 a3 a4 a5 : Value} {x : Int32} {t : List Value} (hd : decode cc pc = .ok (.istore 5, 2)) : E1 X EV d ci mc ms rt ini cc Q pc (a0 :: a1 :: a2 :: a3 :: a4 :: a5 :: t) (.int x :: st) cu su hm hs = (a4.category = 1 ∧ E1 X EV d ci mc ms rt ini cc Q (pc + 2) (a0 :: a1 :: a2 :: a3 :: a4 :: .int x :: t) st cu su hm hs) := (e_step hd).trans (propext ⟨fun h => ⟨h.1.2 _ rfl, h.2⟩, fun h => ⟨⟨by simp only [List.length_cons]; show 5 < _; omega, fun w hw => by cases hw; exact h.1⟩, h.2⟩⟩)
theorem r_as5 {a0 a1 a2 a3 a4 a5 : Value} {x : Nat} {t : List Value} (hd : decode cc pc = .ok (.astore 5, 2)) : E1 X EV d ci mc ms rt ini cc Q pc (a0 :: a1 :: a2 :: a3 :: a4 :: a5 :: t) (.ref x :: st) cu su hm hs = (a4.category = 1 ∧ E1 X EV d ci mc ms rt ini cc Q (pc + 2) (a0 :: a1 :: a2 :: a3 :: a4 :: .ref x :: t) st cu su hm hs) := (e_step hd).trans (propext ⟨fun h => ⟨h.1.2 _ rfl, h.2⟩, fun h => ⟨⟨by simp only [List.length_cons]; show 5 < _; omega, fun w hw => by cases hw; exact h.1⟩, h.2⟩⟩)
theorem r_ii5 {a0 a1 a2 a3 a4 : Value} {x v : Int32} {k : Int} {t : List Value} (hd : decode cc pc = .ok (.iinc 5 k, 3)) (hv : Int32.ofInt k = v) : E1 X EV d ci mc ms rt ini cc Q pc (a0 :: a1 :: a2 :: a3 :: a4 :: .int x :: t) st cu su hm hs = (a4.category = 1 ∧ E1 X EV d ci mc ms rt ini cc Q (pc + 3) (a0 :: a1 :: a2 :: a3 :: a4 :: .int (x + v) :: t) st cu su hm hs) := by subst hv; exact (e_step hd).trans (propext ⟨fun h => ⟨h.1.2 _ rfl, h.2⟩, fun h => ⟨⟨by simp only [List.length_cons]; show 5 < _; omega, fun w hw => by cases hw; exact h.1⟩, h.2⟩⟩)
theorem r_ls5 {a0 a1 a2 a3 a4 a5 a6 : Value} {x : Int64} {t : List Value} (hd : decode cc pc = .ok (.lstore 5, 2)) : E1 X EV d ci mc ms rt ini cc Q pc (a0 :: a1 :: a2 :: a3 :: a4 :: a5 :: a6 :: t) (.long x :: st) cu su hm hs = (a4.category = 1 ∧ E1 X EV d ci mc ms rt ini cc Q (pc + 2) (a0 :: a1 :: a2 :: a3 :: a4 :: .long x :: .null :: t) st cu su hm hs) := (e_step hd).trans (propext ⟨fun h => ⟨h.1.2 _ rfl, h.2⟩, fun h => ⟨⟨by simp only [List.length_cons]; show 6 < _; omega, fun w hw => by cases hw; exact h.1⟩, h.2⟩⟩)
theorem r_il6 {a0 a1 a2 a3 a4 a5 : Value} {x : Int32} {t : List Value} (hd : decode cc pc = .ok (.iload 6, 2)) : E1 X EV d ci mc ms rt ini cc Q pc (a0 :: a1 :: a2 :: a3 :: a4 :: a5 :: .int x :: t) st cu su hm hs = E1 X EV d ci mc ms rt ini cc Q (pc + 2) (a0 :: a1 :: a2 :: a3 :: a4 :: a5 :: .int x :: t) (.int x :: st) cu su hm hs := (e_step hd).trans e_go
theorem r_ll6 {a0 a1 a2 a3 a4 a5 : Value} {x : Int64} {t : List Value} (hd : decode cc pc = .ok (.lload 6, 2)) : E1 X EV d ci mc ms rt ini cc Q pc (a0 :: a1 :: a2 :: a3 :: a4 :: a5 :: .long x :: t) st cu su hm hs = E1 X EV d ci mc ms rt ini cc Q (pc + 2) (a0 :: a1 :: a2 :: a3 :: a4 :: a5 :: .long x :: t) (.long x :: st) cu su hm hs := (e_step hd).trans e_go
theorem r_al6 {a0 a1 a2 a3 a4 a5 : Value} {x : Nat} {t : List Value} (hd : decode cc pc = .ok (.aload 6, 2)) : E1 X EV d ci mc ms rt ini cc Q pc (a0 :: a1 :: a2 :: a3 :: a4 :: a5 :: .ref x :: t) st cu su hm hs = E1 X EV d ci mc ms rt ini cc Q (pc + 2) (a0 :: a1 :: a2 :: a3 :: a4 :: a5 :: .ref x :: t) (.ref x :: st) cu su hm hs := (e_step hd).trans e_go
theorem r_is6 {a0 a1 a2 a3 a4 a5 a6 : Value} {x : Int32} {t : List Value} (hd : decode cc pc = .ok (.istore 6, 2)) : E1 X EV d ci mc ms rt ini cc Q pc (a0 :: a1 :: a2 :: a3 :: a4 :: a5 :: a6 :: t) (.int x :: st) cu su hm hs = (a5.category = 1 ∧ E1 X EV d ci mc ms rt ini cc Q (pc + 2) (a0 :: a1 :: a2 :: a3 :: a4 :: a5 :: .int x :: t) st cu su hm hs) := (e_step hd).trans (propext ⟨fun h => ⟨h.1.2 _ rfl, h.2⟩, fun h => ⟨⟨by simp only [List.length_cons]; show 6 < _; omega, fun w hw => by cases hw; exact h.1⟩, h.2⟩⟩)
theorem r_as6 {a0 a1 a2 a3 a4 a5 a6 : Value} {x : Nat} {t : List Value} (hd : decode cc pc = .ok (.astore 6, 2)) : E1 X EV d ci mc ms rt ini cc Q pc (a0 :: a1 :: a2 :: a3 :: a4 :: a5 :: a6 :: t) (.ref x :: st) cu su hm hs = (a5.category = 1 ∧ E1 X EV d ci mc ms rt ini cc Q (pc + 2) (a0 :: a1 :: a2 :: a3 :: a4 :: a5 :: .ref x :: t) st cu su hm hs) := (e_step hd).trans (propext ⟨fun h => ⟨h.1.2 _ rfl, h.2⟩, fun h => ⟨⟨by simp only [List.length_cons]; show 6 < _; omega, fun w hw => by cases hw; exact h.1⟩, h.2⟩⟩)
theorem r_ii6 {a0 a1 a2 a3 a4 a5 : Value} {x v : Int32} {k : Int} {t : List Value} (hd : decode cc pc = .ok (.iinc 6 k, 3)) (hv : Int32.ofInt k = v) : E1 X EV d ci mc ms rt ini cc Q pc (a0 :: a1 :: a2 :: a3 :: a4 :: a5 :: .int x :: t) st cu su hm hs = (a5.category = 1 ∧ E1 X EV d ci mc ms rt ini cc Q (pc + 3) (a0 :: a1 :: a2 :: a3 :: a4 :: a5 :: .int (x + v) :: t) st cu su hm hs) := by subst hv; exact (e_step hd).trans (propext ⟨fun h => ⟨h.1.2 _ rfl, h.2⟩, fun h => ⟨⟨by simp only [List.length_cons]; show 6 < _; omega, fun w hw => by cases hw; exact h.1⟩, h.2⟩⟩)
theorem r_ls6 {a0 a1 a2 a3 a4 a5 a6 a7 : Value} {x : Int64} {t : List Value} (hd : decode cc pc = .ok (.lstore 6, 2)) : E1 X EV d ci mc ms rt ini cc Q pc (a0 :: a1 :: a2 :: a3 :: a4 :: a5 :: a6 :: a7 :: t) (.long x :: st) cu su hm hs = (a5.category = 1 ∧ E1 X EV d ci mc ms rt ini cc Q (pc + 2) (a0 :: a1 :: a2 :: a3 :: a4 :: a5 :: .long x :: .null :: t) st cu su hm hs) := (e_step hd).trans (propext ⟨fun h => ⟨h.1.2 _ rfl, h.2⟩, fun h => ⟨⟨by simp only [List.length_cons]; show 7 < _; omega, fun w hw => by cases hw; exact h.1⟩, h.2⟩⟩)
theorem r_il7 {a0 a1 a2 a3 a4 a5 a6 : Value} {x : Int32} {t : List Value} (hd : decode cc pc = .ok (.iload 7, 2)) : E1 X EV d ci mc ms rt ini cc Q pc (a0 :: a1 :: a2 :: a3 :: a4 :: a5 :: a6 :: .int x :: t) st cu su hm hs = E1 X EV d ci mc ms rt ini cc Q (pc + 2) (a0 :: a1 :: a2 :: a3 :: a4 :: a5 :: a6 :: .int x :: t) (.int x :: st) cu su hm hs := (e_step hd).trans e_go
theorem r_ll7 {a0 a1 a2 a3 a4 a5 a6 : Value} {x : Int64} {t : List Value} (hd : decode cc pc = .ok (.lload 7, 2)) : E1 X EV d ci mc ms rt ini cc Q pc (a0 :: a1 :: a2 :: a3 :: a4 :: a5 :: a6 :: .long x :: t) st cu su hm hs = E1 X EV d ci mc ms rt ini cc Q (pc + 2) (a0 :: a1 :: a2 :: a3 :: a4 :: a5 :: a6 :: .long x :: t) (.long x :: st) cu su hm hs := (e_step hd).trans e_go
theorem r_al7 {a0 a1 a2 a3 a4 a5 a6 : Value} {x : Nat} {t : List Value} (hd : decode cc pc = .ok (.aload 7, 2)) : E1 X EV d ci mc ms rt ini cc Q pc (a0 :: a1 :: a2 :: a3 :: a4 :: a5 :: a6 :: .ref x :: t) st cu su hm hs = E1 X EV d ci mc ms rt ini cc Q (pc + 2) (a0 :: a1 :: a2 :: a3 :: a4 :: a5 :: a6 :: .ref x :: t) (.ref x :: st) cu su hm hs := (e_step hd).trans e_go
theorem r_is7 {a0 a1 a2 a3 a4 a5 a6 a7 : Value} {x : Int32} {t : List Value} (hd : decode cc pc = .ok (.istore 7, 2)) : E1 X EV d ci mc ms rt ini cc Q pc (a0 :: a1 :: a2 :: a3 :: a4 :: a5 :: a6 :: a7 :: t) (.int x :: st) cu su hm hs = (a6.category = 1 ∧ E1 X EV d ci mc ms rt ini cc Q (pc + 2) (a0 :: a1 :: a2 :: a3 :: a4 :: a5 :: a6 :: .int x :: t) st cu su hm hs) := (e_step hd).trans (propext ⟨fun h => ⟨h.1.2 _ rfl, h.2⟩, fun h => ⟨⟨by simp only [List.length_cons]; show 7 < _; omega, fun w hw => by cases hw; exact h.1⟩, h.2⟩⟩)
theorem r_as7 {a0 a1 a2 a3 a4 a5 a6 a7 : Value} {x : Nat} {t : List Value} (hd : decode cc pc = .ok (.astore 7, 2)) : E1 X EV d ci mc ms rt ini cc Q pc (a0 :: a1 :: a2 :: a3 :: a4 :: a5 :: a6 :: a7 :: t) (.ref x :: st) cu su hm hs = (a6.category = 1 ∧ E1 X EV d ci mc ms rt ini cc Q (pc + 2) (a0 :: a1 :: a2 :: a3 :: a4 :: a5 :: a6 :: .ref x :: t) st cu su hm hs) := (e_step hd).trans (propext ⟨fun h => ⟨h.1.2 _ rfl, h.2⟩, fun h => ⟨⟨by simp only [List.length_cons]; show 7 < _; omega, fun w hw => by cases hw; exact h.1⟩, h.2⟩⟩)
theorem r_ii7 {a0 a1 a2 a3 a4 a5 a6 : Value} {x v : Int32} {k : Int} {t : List Value} (hd : decode cc pc = .ok (.iinc 7 k, 3)) (hv : Int32.ofInt k = v) : E1 X EV d ci mc ms rt ini cc Q pc (a0 :: a1 :: a2 :: a3 :: a4 :: a5 :: a6 :: .int x :: t) st cu su hm hs = (a6.category = 1 ∧ E1 X EV d ci mc ms rt ini cc Q (pc + 3) (a0 :: a1 :: a2 :: a3 :: a4 :: a5 :: a6 :: .int (x + v) :: t) st cu su hm hs) := by subst hv; exact (e_step hd).trans (propext ⟨fun h => ⟨h.1.2 _ rfl, h.2⟩, fun h => ⟨⟨by simp only [List.length_cons]; show 7 < _; omega, fun w hw => by cases hw; exact h.1⟩, h.2⟩⟩)
theorem r_ls7 {a0 a1 a2 a3 a4 a5 a6 a7 a8 : Value} {x : Int64} {t : List Value} (hd : decode cc pc = .ok (.lstore 7, 2)) : E1 X EV d ci mc ms rt ini cc Q pc (a0 :: a1 :: a2 :: a3 :: a4 :: a5 :: a6 :: a7 :: a8 :: t) (.long x :: st) cu su hm hs = (a6.category = 1 ∧ E1 X EV d ci mc ms rt ini cc Q (pc + 2) (a0 :: a1 :: a2 :: a3 :: a4 :: a5 :: a6 :: .long x :: .null :: t) st cu su hm hs) := (e_step hd).trans (propext ⟨fun h => ⟨h.1.2 _ rfl, h.2⟩, fun h => ⟨⟨by simp only [List.length_cons]; show 8 < _; omega, fun w hw => by cases hw; exact h.1⟩, h.2⟩⟩)
theorem r_il8 {a0 a1 a2 a3 a4 a5 a6 a7 : Value} {x : Int32} {t : List Value} (hd : decode cc pc = .ok (.iload 8, 2)) : E1 X EV d ci mc ms rt ini cc Q pc (a0 :: a1 :: a2 :: a3 :: a4 :: a5 :: a6 :: a7 :: .int x :: t) st cu su hm hs = E1 X EV d ci mc ms rt ini cc Q (pc + 2) (a0 :: a1 :: a2 :: a3 :: a4 :: a5 :: a6 :: a7 :: .int x :: t) (.int x :: st) cu su hm hs := (e_step hd).trans e_go
theorem r_ll8 {a0 a1 a2 a3 a4 a5 a6 a7 : Value} {x : Int64} {t : List Value} (hd : decode cc pc = .ok (.lload 8, 2)) : E1 X EV d ci mc ms rt ini cc Q pc (a0 :: a1 :: a2 :: a3 :: a4 :: a5 :: a6 :: a7 :: .long x :: t) st cu su hm hs = E1 X EV d ci mc ms rt ini cc Q (pc + 2) (a0 :: a1 :: a2 :: a3 :: a4 :: a5 :: a6 :: a7 :: .long x :: t) (.long x :: st) cu su hm hs := (e_step hd).trans e_go
theorem r_al8 {a0 a1 a2 a3 a4 a5 a6 a7 : Value} {x : Nat} {t : List Value} (hd : decode cc pc = .ok (.aload 8, 2)) : E1 X EV d ci mc ms rt ini cc Q pc (a0 :: a1 :: a2 :: a3 :: a4 :: a5 :: a6 :: a7 :: .ref x :: t) st cu su hm hs = E1 X EV d ci mc ms rt ini cc Q (pc + 2) (a0 :: a1 :: a2 :: a3 :: a4 :: a5 :: a6 :: a7 :: .ref x :: t) (.ref x :: st) cu su hm hs := (e_step hd).trans e_go
theorem r_is8 {a0 a1 a2 a3 a4 a5 a6 a7 a8 : Value} {x : Int32} {t : List Value} (hd : decode cc pc = .ok (.istore 8, 2)) : E1 X EV d ci mc ms rt ini cc Q pc (a0 :: a1 :: a2 :: a3 :: a4 :: a5 :: a6 :: a7 :: a8 :: t) (.int x :: st) cu su hm hs = (a7.category = 1 ∧ E1 X EV d ci mc ms rt ini cc Q (pc + 2) (a0 :: a1 :: a2 :: a3 :: a4 :: a5 :: a6 :: a7 :: .int x :: t) st cu su hm hs) := (e_step hd).trans (propext ⟨fun h => ⟨h.1.2 _ rfl, h.2⟩, fun h => ⟨⟨by simp only [List.length_cons]; show 8 < _; omega, fun w hw => by cases hw; exact h.1⟩, h.2⟩⟩)
theorem r_as8 {a0 a1 a2 a3 a4 a5 a6 a7 a8 : Value} {x : Nat} {t : List Value} (hd : decode cc pc = .ok (.astore 8, 2)) : E1 X EV d ci mc ms rt ini cc Q pc (a0 :: a1 :: a2 :: a3 :: a4 :: a5 :: a6 :: a7 :: a8 :: t) (.ref x :: st) cu su hm hs = (a7.category = 1 ∧ E1 X EV d ci mc ms rt ini cc Q (pc + 2) (a0 :: a1 :: a2 :: a3 :: a4 :: a5 :: a6 :: a7 :: .ref x :: t) st cu su hm hs) := (e_step hd).trans (propext ⟨fun h => ⟨h.1.2 _ rfl, h.2⟩, fun h => ⟨⟨by simp only [List.length_cons]; show 8 < _; omega, fun w hw => by cases hw; exact h.1⟩, h.2⟩⟩)
theorem r_ii8 {a0 a1 a2 a3 a4 a5 a6 a7 : Value} {x v : Int32} {k : Int} {t : List Value} (hd : decode cc pc = .ok (.iinc 8 k, 3)) (hv : Int32.ofInt k = v) : E1 X EV d ci mc ms rt ini cc Q pc (a0 :: a1 :: a2 :: a3 :: a4 :: a5 :: a6 :: a7 :: .int x :: t) st cu su hm hs = (a7.category = 1 ∧ E1 X EV d ci mc ms rt ini cc Q (pc + 3) (a0 :: a1 :: a2 :: a3 :: a4 :: a5 :: a6 :: a7 :: .int (x + v) :: t) st cu su hm hs) := by subst hv; exact (e_step hd).trans (propext ⟨fun h => ⟨h.1.2 _ rfl, h.2⟩, fun h => ⟨⟨by simp only [List.length_cons]; show 8 < _; omega, fun w hw => by cases hw; exact h.1⟩, h.2⟩⟩)
theorem r_ls8 {a0 a1 a2 a3 a4 a5 a6 a7 a8 a9 : Value} {x : Int64} {t : List Value} (hd : decode cc pc = .ok (.lstore 8, 2)) : E1 X EV d ci mc ms rt ini cc Q pc (a0 :: a1 :: a2 :: a3 :: a4 :: a5 :: a6 :: a7 :: a8 :: a9 :: t) (.long x :: st) cu su hm hs = (a7.category = 1 ∧ E1 X EV d ci mc ms rt ini cc Q (pc + 2) (a0 :: a1 :: a2 :: a3 :: a4 :: a5 :: a6 :: a7 :: .long x :: .null :: t) st cu su hm hs) := (e_step hd).trans (propext ⟨fun h => ⟨h.1.2 _ rfl, h.2⟩, fun h => ⟨⟨by simp only [List.length_cons]; show 9 < _; omega, fun w hw => by cases hw; exact h.1⟩, h.2⟩⟩)
theorem r_il9 {a0 a1 a2 a3 a4 a5 a6 a7 a8 : Value} {x : Int32} {t : List Value} (hd : decode cc pc = .ok (.iload 9, 2)) : E1 X EV d ci mc ms rt ini cc Q pc (a0 :: a1 :: a2 :: a3 :: a4 :: a5 :: a6 :: a7 :: a8 :: .int x :: t) st cu su hm hs = E1 X EV d ci mc ms rt ini cc Q (pc + 2) (a0 :: a1 :: a2 :: a3 :: a4 :: a5 :: a6 :: a7 :: a8 :: .int x :: t) (.int x :: st) cu su hm hs := (e_step hd).trans e_go
theorem r_ll9 {a0 a1 a2 a3 a4 a5 a6 a7 a8 : Value} {x : Int64} {t : List Value} (hd : decode cc pc = .ok (.lload 9, 2)) : E1 X EV d ci mc ms rt ini cc Q pc (a0 :: a1 :: a2 :: a3 :: a4 :: a5 :: a6 :: a7 :: a8 :: .long x :: t) st cu su hm hs = E1 X EV d ci mc ms rt ini cc Q (pc + 2) (a0 :: a1 :: a2 :: a3 :: a4 :: a5 :: a6 :: a7 :: a8 :: .long x :: t) (.long x :: st) cu su hm hs := (e_step hd).trans e_go
theorem r_al9 {a0 a1 a2 a3 a4 a5 a6 a7 a8 : Value} {x : Nat} {t : List Value} (hd : decode cc pc = .ok (.aload 9, 2)) : E1 X EV d ci mc ms rt ini cc Q pc (a0 :: a1 :: a2 :: a3 :: a4 :: a5 :: a6 :: a7 :: a8 :: .ref x :: t) st cu su hm hs = E1 X EV d ci mc ms rt ini cc Q (pc + 2) (a0 :: a1 :: a2 :: a3 :: a4 :: a5 :: a6 :: a7 :: a8 :: .ref x :: t) (.ref x :: st) cu su hm hs := (e_step hd).trans e_go
theorem r_is9 {a0 a1 a2 a3 a4 a5 a6 a7 a8 a9 : Value} {x : Int32} {t : List Value} (hd : decode cc pc = .ok (.istore 9, 2)) : E1 X EV d ci mc ms rt ini cc Q pc (a0 :: a1 :: a2 :: a3 :: a4 :: a5 :: a6 :: a7 :: a8 :: a9 :: t) (.int x :: st) cu su hm hs = (a8.category = 1 ∧ E1 X EV d ci mc ms rt ini cc Q (pc + 2) (a0 :: a1 :: a2 :: a3 :: a4 :: a5 :: a6 :: a7 :: a8 :: .int x :: t) st cu su hm hs) := (e_step hd).trans (propext ⟨fun h => ⟨h.1.2 _ rfl, h.2⟩, fun h => ⟨⟨by simp only [List.length_cons]; show 9 < _; omega, fun w hw => by cases hw; exact h.1⟩, h.2⟩⟩)
theorem r_as9 {a0 a1 a2 a3 a4 a5 a6 a7 a8 a9 : Value} {x : Nat} {t : List Value} (hd : decode cc pc = .ok (.astore 9, 2)) : E1 X EV d ci mc ms rt ini cc Q pc (a0 :: a1 :: a2 :: a3 :: a4 :: a5 :: a6 :: a7 :: a8 :: a9 :: t) (.ref x :: st) cu su hm hs = (a8.category = 1 ∧ E1 X EV d ci mc ms rt ini cc Q (pc + 2) (a0 :: a1 :: a2 :: a3 :: a4 :: a5 :: a6 :: a7 :: a8 :: .ref x :: t) st cu su hm hs) := (e_step hd).trans (propext ⟨fun h => ⟨h.1.2 _ rfl, h.2⟩, fun h => ⟨⟨by simp only [List.length_cons]; show 9 < _; omega, fun w hw => by cases hw; exact h.1⟩, h.2⟩⟩)
theorem r_ii9 {a0 a1 a2 a3 a4 a5 a6 a7 a8 : Value} {x v : Int32} {k : Int} {t : List Value} (hd : decode cc pc = .ok (.iinc 9 k, 3)) (hv : Int32.ofInt k = v) : E1 X EV d ci mc ms rt ini cc Q pc (a0 :: a1 :: a2 :: a3 :: a4 :: a5 :: a6 :: a7 :: a8 :: .int x :: t) st cu su hm hs = (a8.category = 1 ∧ E1 X EV d ci mc ms rt ini cc Q (pc + 3) (a0 :: a1 :: a2 :: a3 :: a4 :: a5 :: a6 :: a7 :: a8 :: .int (x + v) :: t) st cu su hm hs) := by subst hv; exact (e_step hd).trans (propext ⟨fun h => ⟨h.1.2 _ rfl, h.2⟩, fun h => ⟨⟨by simp only [List.length_cons]; show 9 < _; omega, fun w hw => by cases hw; exact h.1⟩, h.2⟩⟩)
theorem r_ls9 {a0 a1 a2 a3 a4 a5 a6 a7 a8 a9 a10 : Value} {x : Int64} {t : List Value} (hd : decode cc pc = .ok (.lstore 9, 2)) : E1 X EV d ci mc ms rt ini cc Q pc (a0 :: a1 :: a2 :: a3 :: a4 :: a5 :: a6 :: a7 :: a8 :: a9 :: a10 :: t) (.long x :: st) cu su hm hs = (a8.category = 1 ∧ E1 X EV d ci mc ms rt ini cc Q (pc + 2) (a0 :: a1 :: a2 :: a3 :: a4 :: a5 :: a6 :: a7 :: a8 :: .long x :: .null :: t) st cu su hm hs) := (e_step hd).trans (propext ⟨fun h => ⟨h.1.2 _ rfl, h.2⟩, fun h => ⟨⟨by simp only [List.length_cons]; show 10 < _; omega, fun w hw => by cases hw; exact h.1⟩, h.2⟩⟩)
theorem r_il10 {a0 a1 a2 a3 a4 a5 a6 a7 a8 a9 : Value} {x : Int32} {t : List Value} (hd : decode cc pc = .ok (.iload 10, 2)) : E1 X EV d ci mc ms rt ini cc Q pc (a0 :: a1 :: a2 :: a3 :: a4 :: a5 :: a6 :: a7 :: a8 :: a9 :: .int x :: t) st cu su hm hs = E1 X EV d ci mc ms rt ini cc Q (pc + 2) (a0 :: a1 :: a2 :: a3 :: a4 :: a5 :: a6 :: a7 :: a8 :: a9 :: .int x :: t) (.int x :: st) cu su hm hs := (e_step hd).trans e_go
theorem r_ll10 {a0 a1 a2 a3 a4 a5 a6 a7 a8 a9 : Value} {x : Int64} {t : List Value} (hd : decode cc pc = .ok (.lload 10, 2)) : E1 X EV d ci mc ms rt ini cc Q pc (a0 :: a1 :: a2 :: a3 :: a4 :: a5 :: a6 :: a7 :: a8 :: a9 :: .long x :: t) st cu su hm hs = E1 X EV d ci mc ms rt ini cc Q (pc + 2) (a0 :: a1 :: a2 :: a3 :: a4 :: a5 :: a6 :: a7 :: a8 :: a9 :: .long x :: t) (.long x :: st) cu su hm hs := (e_step hd).trans e_go
theorem r_al10 {a0 a1 a2 a3 a4 a5 a6 a7 a8 a9 : Value} {x : Nat} {t : List Value} (hd : decode cc pc = .ok (.aload 10, 2)) : E1 X EV d ci mc ms rt ini cc Q pc (a0 :: a1 :: a2 :: a3 :: a4 :: a5 :: a6 :: a7 :: a8 :: a9 :: .ref x :: t) st cu su hm hs = E1 X EV d ci mc ms rt ini cc Q (pc + 2) (a0 :: a1 :: a2 :: a3 :: a4 :: a5 :: a6 :: a7 :: a8 :: a9 :: .ref x :: t) (.ref x :: st) cu su hm hs := (e_step hd).trans e_go
theorem r_is10 {a0 a1 a2 a3 a4 a5 a6 a7 a8 a9 a10 : Value} {x : Int32} {t : List Value} (hd : decode cc pc = .ok (.istore 10, 2)) : E1 X EV d ci mc ms rt ini cc Q pc (a0 :: a1 :: a2 :: a3 :: a4 :: a5 :: a6 :: a7 :: a8 :: a9 :: a10 :: t) (.int x :: st) cu su hm hs = (a9.category = 1 ∧ E1 X EV d ci mc ms rt ini cc Q (pc + 2) (a0 :: a1 :: a2 :: a3 :: a4 :: a5 :: a6 :: a7 :: a8 :: a9 :: .int x :: t) st cu su hm hs) := (e_step hd).trans (propext ⟨fun h => ⟨h.1.2 _ rfl, h.2⟩, fun h => ⟨⟨by simp only [List.length_cons]; show 10 < _; omega, fun w hw => by cases hw; exact h.1⟩, h.2⟩⟩)
theorem r_as10 {a0 a1 a2 a3 a4 a5 a6 a7 a8 a9 a10 : Value} {x : Nat} {t : List Value} (hd : decode cc pc = .ok (.astore 10, 2)) : E1 X EV d ci mc ms rt ini cc Q pc (a0 :: a1 :: a2 :: a3 :: a4 :: a5 :: a6 :: a7 :: a8 :: a9 :: a10 :: t) (.ref x :: st) cu su hm hs = (a9.category = 1 ∧ E1 X EV d ci mc ms rt ini cc Q (pc + 2) (a0 :: a1 :: a2 :: a3 :: a4 :: a5 :: a6 :: a7 :: a8 :: a9 :: .ref x :: t) st cu su hm hs) := (e_step hd).trans (propext ⟨fun h => ⟨h.1.2 _ rfl, h.2⟩, fun h => ⟨⟨by simp only [List.length_cons]; show 10 < _; omega, fun w hw => by cases hw; exact h.1⟩, h.2⟩⟩)
theorem r_ii10 {a0 a1 a2 a3 a4 a5 a6 a7 a8 a9 : Value} {x v : Int32} {k : Int} {t : List Value} (hd : decode cc pc = .ok (.iinc 10 k, 3)) (hv : Int32.ofInt k = v) : E1 X EV d ci mc ms rt ini cc Q pc (a0 :: a1 :: a2 :: a3 :: a4 :: a5 :: a6 :: a7 :: a8 :: a9 :: .int x :: t) st cu su hm hs = (a9.category = 1 ∧ E1 X EV d ci mc ms rt ini cc Q (pc + 3) (a0 :: a1 :: a2 :: a3 :: a4 :: a5 :: a6 :: a7 :: a8 :: a9 :: .int (x + v) :: t) st cu su hm hs) := by subst hv; exact (e_step hd).trans (propext ⟨fun h => ⟨h.1.2 _ rfl, h.2⟩, fun h => ⟨⟨by simp only [List.length_cons]; show 10 < _; omega, fun w hw => by cases hw; exact h.1⟩, h.2⟩⟩)
theorem r_ls10 {a0 a1 a2 a3 a4 a5 a6 a7 a8 a9 a10 a11 : Value} {x : Int64} {t : List Value} (hd : decode cc pc = .ok (.lstore 10, 2)) : E1 X EV d ci mc ms rt ini cc Q pc (a0 :: a1 :: a2 :: a3 :: a4 :: a5 :: a6 :: a7 :: a8 :: a9 :: a10 :: a11 :: t) (.long x :: st) cu su hm hs = (a9.category = 1 ∧ E1 X EV d ci mc ms rt ini cc Q (pc + 2) (a0 :: a1 :: a2 :: a3 :: a4 :: a5 :: a6 :: a7 :: a8 :: a9 :: .long x :: .null :: t) st cu su hm hs) := (e_step hd).trans (propext ⟨fun h => ⟨h.1.2 _ rfl, h.2⟩, fun h => ⟨⟨by simp only [List.length_cons]; show 11 < _; omega, fun w hw => by cases hw; exact h.1⟩, h.2⟩⟩)
theorem r_il11 {a0 a1 a2 a3 a4 a5 a6 a7 a8 a9 a10 : Value} {x : Int32} {t : List Value} (hd : decode cc pc = .ok (.iload 11, 2)) : E1 X EV d ci mc ms rt ini cc Q pc (a0 :: a1 :: a2 :: a3 :: a4 :: a5 :: a6 :: a7 :: a8 :: a9 :: a10 :: .int x :: t) st cu su hm hs = E1 X EV d ci mc ms rt ini cc Q (pc + 2) (a0 :: a1 :: a2 :: a3 :: a4 :: a5 :: a6 :: a7 :: a8 :: a9 :: a10 :: .int x :: t) (.int x :: st) cu su hm hs := (e_step hd).trans e_go
theorem r_ll11 {a0 a1 a2 a3 a4 a5 a6 a7 a8 a9 a10 : Value} {x : Int64} {t : List Value} (hd : decode cc pc = .ok (.lload 11, 2)) : E1 X EV d ci mc ms rt ini cc Q pc (a0 :: a1 :: a2 :: a3 :: a4 :: a5 :: a6 :: a7 :: a8 :: a9 :: a10 :: .long x :: t) st cu su hm hs = E1 X EV d ci mc ms rt ini cc Q (pc + 2) (a0 :: a1 :: a2 :: a3 :: a4 :: a5 :: a6 :: a7 :: a8 :: a9 :: a10 :: .long x :: t) (.long x :: st) cu su hm hs := (e_step hd).trans e_go
theorem r_al11 {a0 a1 a2 a3 a4 a5 a6 a7 a8 a9 a10 : Value} {x : Nat} {t : List Value} (hd : decode cc pc = .ok (.aload 11, 2)) : E1 X EV d ci mc ms rt ini cc Q pc (a0 :: a1 :: a2 :: a3 :: a4 :: a5 :: a6 :: a7 :: a8 :: a9 :: a10 :: .ref x :: t) st cu su hm hs = E1 X EV d ci mc ms rt ini cc Q (pc + 2) (a0 :: a1 :: a2 :: a3 :: a4 :: a5 :: a6 :: a7 :: a8 :: a9 :: a10 :: .ref x :: t) (.ref x :: st) cu su hm hs := (e_step hd).trans e_go
theorem r_is11 {a0 a1 a2 a3 a4 a5 a6 a7 a8 a9 a10 a11 : Value} {x : Int32} {t : List Value} (hd : decode cc pc = .ok (.istore 11, 2)) : E1 X EV d ci mc ms rt ini cc Q pc (a0 :: a1 :: a2 :: a3 :: a4 :: a5 :: a6 :: a7 :: a8 :: a9 :: a10 :: a11 :: t) (.int x :: st) cu su hm hs = (a10.category = 1 ∧ E1 X EV d ci mc ms rt ini cc Q (pc + 2) (a0 :: a1 :: a2 :: a3 :: a4 :: a5 :: a6 :: a7 :: a8 :: a9 :: a10 :: .int x :: t) st cu su hm hs) := (e_step hd).trans (propext ⟨fun h => ⟨h.1.2 _ rfl, h.2⟩, fun h => ⟨⟨by simp only [List.length_cons]; show 11 < _; omega, fun w hw => by cases hw; exact h.1⟩, h.2⟩⟩)
theorem r_as11 {a0 a1 a2 a3 a4 a5 a6 a7 a8 a9 a10 a11 : Value} {x : Nat} {t : List Value} (hd : decode cc pc = .ok (.astore 11, 2)) : E1 X EV d ci mc ms rt ini cc Q pc (a0 :: a1 :: a2 :: a3 :: a4 :: a5 :: a6 :: a7 :: a8 :: a9 :: a10 :: a11 :: t) (.ref x :: st) cu su hm hs = (a10.category = 1 ∧ E1 X EV d ci mc ms rt ini cc Q (pc + 2) (a0 :: a1 :: a2 :: a3 :: a4 :: a5 :: a6 :: a7 :: a8 :: a9 :: a10 :: .ref x :: t) st cu su hm hs) := (e_step hd).trans (propext ⟨fun h => ⟨h.1.2 _ rfl, h.2⟩, fun h => ⟨⟨by simp only [List.length_cons]; show 11 < _; omega, fun w hw => by cases hw; exact h.1⟩, h.2⟩⟩)
theorem r_ii11 {a0 a1 a2 a3 a4 a5 a6 a7 a8 a9 a10 : Value} {x v : Int32} {k : Int} {t : List Value} (hd : decode cc pc = .ok (.iinc 11 k, 3)) (hv : Int32.ofInt k = v) : E1 X EV d ci mc ms rt ini cc Q pc (a0 :: a1 :: a2 :: a3 :: a4 :: a5 :: a6 :: a7 :: a8 :: a9 :: a10 :: .int x :: t) st cu su hm hs = (a10.category = 1 ∧ E1 X EV d ci mc ms rt ini cc Q (pc + 3) (a0 :: a1 :: a2 :: a3 :: a4 :: a5 :: a6 :: a7 :: a8 :: a9 :: a10 :: .int (x + v) :: t) st cu su hm hs) := by subst hv; exact (e_step hd).trans (propext ⟨fun h => ⟨h.1.2 _ rfl, h.2⟩, fun h => ⟨⟨by simp only [List.length_cons]; show 11 < _; omega, fun w hw => by cases hw; exact h.1⟩, h.2⟩⟩)
theorem r_ls11 {a0 a1 a2 a3 a4 a5 a6 a7 a8 a9 a10 a11 a12 : Value} {x : Int64} {t : List Value} (hd : decode cc pc = .ok (.lstore 11, 2)) : E1 X EV d ci mc ms rt ini cc Q pc (a0 :: a1 :: a2 :: a3 :: a4 :: a5 :: a6 :: a7 :: a8 :: a9 :: a10 :: a11 :: a12 :: t) (.long x :: st) cu su hm hs = (a10.category = 1 ∧ E1 X EV d ci mc ms rt ini cc Q (pc + 2) (a0 :: a1 :: a2 :: a3 :: a4 :: a5 :: a6 :: a7 :: a8 :: a9 :: a10 :: .long x :: .null :: t) st cu su hm hs) := (e_step hd).trans (propext ⟨fun h => ⟨h.1.2 _ rfl, h.2⟩, fun h => ⟨⟨by simp only [List.length_cons]; show 12 < _; omega, fun w hw => by cases hw; exact h.1⟩, h.2⟩⟩)
theorem r_il12 {a0 a1 a2 a3 a4 a5 a6 a7 a8 a9 a10 a11 : Value} {x : Int32} {t : List Value} (hd : decode cc pc = .ok (.iload 12, 2)) : E1 X EV d ci mc ms rt ini cc Q pc (a0 :: a1 :: a2 :: a3 :: a4 :: a5 :: a6 :: a7 :: a8 :: a9 :: a10 :: a11 :: .int x :: t) st cu su hm hs = E1 X EV d ci mc ms rt ini cc Q (pc + 2) (a0 :: a1 :: a2 :: a3 :: a4 :: a5 :: a6 :: a7 :: a8 :: a9 :: a10 :: a11 :: .int x :: t) (.int x :: st) cu su hm hs := (e_step hd).trans e_go
theorem r_ll12 {a0 a1 a2 a3 a4 a5 a6 a7 a8 a9 a10 a11 : Value} {x : Int64} {t : List Value} (hd : decode cc pc = .ok (.lload 12, 2)) : E1 X EV d ci mc ms rt ini cc Q pc (a0 :: a1 :: a2 :: a3 :: a4 :: a5 :: a6 :: a7 :: a8 :: a9 :: a10 :: a11 :: .long x :: t) st cu su hm hs = E1 X EV d ci mc ms rt ini cc Q (pc + 2) (a0 :: a1 :: a2 :: a3 :: a4 :: a5 :: a6 :: a7 :: a8 :: a9 :: a10 :: a11 :: .long x :: t) (.long x :: st) cu su hm hs := (e_step hd).trans e_go
theorem r_al12 {a0 a1 a2 a3 a4 a5 a6 a7 a8 a9 a10 a11 : Value} {x : Nat} {t : List Value} (hd : decode cc pc = .ok (.aload 12, 2)) : E1 X EV d ci mc ms rt ini cc Q pc (a0 :: a1 :: a2 :: a3 :: a4 :: a5 :: a6 :: a7 :: a8 :: a9 :: a10 :: a11 :: .ref x :: t) st cu su hm hs = E1 X EV d ci mc ms rt ini cc Q (pc + 2) (a0 :: a1 :: a2 :: a3 :: a4 :: a5 :: a6 :: a7 :: a8 :: a9 :: a10 :: a11 :: .ref x :: t) (.ref x :: st) cu su hm hs := (e_step hd).trans e_go
theorem r_is12 {a0 a1 a2 a3 a4 a5 a6 a7 a8 a9 a10 a11 a12 : Value} {x : Int32} {t : List Value} (hd : decode cc pc = .ok (.istore 12, 2)) : E1 X EV d ci mc ms rt ini cc Q pc (a0 :: a1 :: a2 :: a3 :: a4 :: a5 :: a6 :: a7 :: a8 :: a9 :: a10 :: a11 :: a12 :: t) (.int x :: st) cu su hm hs = (a11.category = 1 ∧ E1 X EV d ci mc ms rt ini cc Q (pc + 2) (a0 :: a1 :: a2 :: a3 :: a4 :: a5 :: a6 :: a7 :: a8 :: a9 :: a10 :: a11 :: .int x :: t) st cu su hm hs) := (e_step hd).trans (propext ⟨fun h => ⟨h.1.2 _ rfl, h.2⟩, fun h => ⟨⟨by simp only [List.length_cons]; show 12 < _; omega, fun w hw => by cases hw; exact h.1⟩, h.2⟩⟩)
theorem r_as12 {a0 a1 a2 a3 a4 a5 a6 a7 a8 a9 a10 a11 a12 : Value} {x : Nat} {t : List Value} (hd : decode cc pc = .ok (.astore 12, 2)) : E1 X EV d ci mc ms rt ini cc Q pc (a0 :: a1 :: a2 :: a3 :: a4 :: a5 :: a6 :: a7 :: a8 :: a9 :: a10 :: a11 :: a12 :: t) (.ref x :: st) cu su hm hs = (a11.category = 1 ∧ E1 X EV d ci mc ms rt ini cc Q (pc + 2) (a0 :: a1 :: a2 :: a3 :: a4 :: a5 :: a6 :: a7 :: a8 :: a9 :: a10 :: a11 :: .ref x :: t) st cu su hm hs) := (e_step hd).trans (propext ⟨fun h => ⟨h.1.2 _ rfl, h.2⟩, fun h => ⟨⟨by simp only [List.length_cons]; show 12 < _; omega, fun w hw => by cases hw; exact h.1⟩, h.2⟩⟩)
theorem r_ii12 {a0 a1 a2 a3 a4 a5 a6 a7 a8 a9 a10 a11 : Value} {x v : Int32} {k : Int} {t : List Value} (hd : decode cc pc = .ok (.iinc 12 k, 3)) (hv : Int32.ofInt k = v) : E1 X EV d ci mc ms rt ini cc Q pc (a0 :: a1 :: a2 :: a3 :: a4 :: a5 :: a6 :: a7 :: a8 :: a9 :: a10 :: a11 :: .int x :: t) st cu su hm hs = (a11.category = 1 ∧ E1 X EV d ci mc ms rt ini cc Q (pc + 3) (a0 :: a1 :: a2 :: a3 :: a4 :: a5 :: a6 :: a7 :: a8 :: a9 :: a10 :: a11 :: .int (x + v) :: t) st cu su hm hs) := by subst hv; exact (e_step hd).trans (propext ⟨fun h => ⟨h.1.2 _ rfl, h.2⟩, fun h => ⟨⟨by simp only [List.length_cons]; show 12 < _; omega, fun w hw => by cases hw; exact h.1⟩, h.2⟩⟩)
theorem r_ls12 {a0 a1 a2 a3 a4 a5 a6 a7 a8 a9 a10 a11 a12 a13 : Value} {x : Int64} {t : List Value} (hd : decode cc pc = .ok (.lstore 12, 2)) : E1 X EV d ci mc ms rt ini cc Q pc (a0 :: a1 :: a2 :: a3 :: a4 :: a5 :: a6 :: a7 :: a8 :: a9 :: a10 :: a11 :: a12 :: a13 :: t) (.long x :: st) cu su hm hs = (a11.category = 1 ∧ E1 X EV d ci mc ms rt ini cc Q (pc + 2) (a0 :: a1 :: a2 :: a3 :: a4 :: a5 :: a6 :: a7 :: a8 :: a9 :: a10 :: a11 :: .long x :: .null :: t) st cu su hm hs) := (e_step hd).trans (propext ⟨fun h => ⟨h.1.2 _ rfl, h.2⟩, fun h => ⟨⟨by simp only [List.length_cons]; show 13 < _; omega, fun w hw => by cases hw; exact h.1⟩, h.2⟩⟩)
theorem r_iadd {x y : Int32} {r : List Value} (hd : decode cc pc = .ok (.iadd, 1)) : E1 X EV d ci mc ms rt ini cc Q pc ls (.int y :: .int x :: r) cu su hm hs = E1 X EV d ci mc ms rt ini cc Q (pc + 1) ls (.int (x + y) :: r) cu su hm hs := (e_step hd).trans e_go
theorem r_isub {x y : Int32} {r : List Value} (hd : decode cc pc = .ok (.isub, 1)) : E1 X EV d ci mc ms rt ini cc Q pc ls (.int y :: .int x :: r) cu su hm hs = E1 X EV d ci mc ms rt ini cc Q (pc + 1) ls (.int (x - y) :: r) cu su hm hs := (e_step hd).trans e_go
theorem r_imul {x y : Int32} {r : List Value} (hd : decode cc pc = .ok (.imul, 1)) : E1 X EV d ci mc ms rt ini cc Q pc ls (.int y :: .int x :: r) cu su hm hs = E1 X EV d ci mc ms rt ini cc Q (pc + 1) ls (.int (x * y) :: r) cu su hm hs := (e_step hd).trans e_go
theorem r_iand {x y : Int32} {r : List Value} (hd : decode cc pc = .ok (.iand, 1)) : E1 X EV d ci mc ms rt ini cc Q pc ls (.int y :: .int x :: r) cu su hm hs = E1 X EV d ci mc ms rt ini cc Q (pc + 1) ls (.int (x &&& y) :: r) cu su hm hs := (e_step hd).trans e_go
theorem r_ior {x y : Int32} {r : List Value} (hd : decode cc pc = .ok (.ior, 1)) : E1 X EV d ci mc ms rt ini cc Q pc ls (.int y :: .int x :: r) cu su hm hs = E1 X EV d ci mc ms rt ini cc Q (pc + 1) ls (.int (x ||| y) :: r) cu su hm hs := (e_step hd).trans e_go
theorem r_ixor {x y : Int32} {r : List Value} (hd : decode cc pc = .ok (.ixor, 1)) : E1 X EV d ci mc ms rt ini cc Q pc ls (.int y :: .int x :: r) cu su hm hs = E1 X EV d ci mc ms rt ini cc Q (pc + 1) ls (.int (x ^^^ y) :: r) cu su hm hs := (e_step hd).trans e_go
theorem r_ishl {x y : Int32} {r : List Value} (hd : decode cc pc = .ok (.ishl, 1)) : E1 X EV d ci mc ms rt ini cc Q pc ls (.int y :: .int x :: r) cu su hm hs = E1 X EV d ci mc ms rt ini cc Q (pc + 1) ls (.int (x <<< (y &&& 31)) :: r) cu su hm hs := (e_step hd).trans e_go
theorem r_ishr {x y : Int32} {r : List Value} (hd : decode cc pc = .ok (.ishr, 1)) : E1 X EV d ci mc ms rt ini cc Q pc ls (.int y :: .int x :: r) cu su hm hs = E1 X EV d ci mc ms rt ini cc Q (pc + 1) ls (.int (x >>> (y &&& 31)) :: r) cu su hm hs := (e_step hd).trans e_go
theorem r_iushr {x y : Int32} {r : List Value} (hd : decode cc pc = .ok (.iushr, 1)) : E1 X EV d ci mc ms rt ini cc Q pc ls (.int y :: .int x :: r) cu su hm hs = E1 X EV d ci mc ms rt ini cc Q (pc + 1) ls (.int ((x.toUInt32 >>> (y.toUInt32 &&& Int32.toUInt32 31)).toInt32) :: r) cu su hm hs := (e_step hd).trans e_go
theorem r_idiv {x y : Int32} {r : List Value} (hd : decode cc pc = .ok (.idiv, 1)) : E1 X EV d ci mc ms rt ini cc Q pc ls (.int y :: .int x :: r) cu su hm hs = (¬ y = 0 ∧ E1 X EV d ci mc ms rt ini cc Q (pc + 1) ls (.int (x / y) :: r) cu su hm hs) := (e_step hd).trans rfl
theorem r_irem {x y : Int32} {r : List Value} (hd : decode cc pc = .ok (.irem, 1)) : E1 X EV d ci mc ms rt ini cc Q pc ls (.int y :: .int x :: r) cu su hm hs = (¬ y = 0 ∧ E1 X EV d ci mc ms rt ini cc Q (pc + 1) ls (.int (x - x / y * y) :: r) cu su hm hs) := (e_step hd).trans rfl
theorem r_ineg {x : Int32} {r : List Value} (hd : decode cc pc = .ok (.ineg, 1)) : E1 X EV d ci mc ms rt ini cc Q pc ls (.int x :: r) cu su hm hs = E1 X EV d ci mc ms rt ini cc Q (pc + 1) ls (.int (-x) :: r) cu su hm hs := (e_step hd).trans e_go
theorem r_i2l {x : Int32} {r : List Value} (hd : decode cc pc = .ok (.i2l, 1)) : E1 X EV d ci mc ms rt ini cc Q pc ls (.int x :: r) cu su hm hs = E1 X EV d ci mc ms rt ini cc Q (pc + 1) ls (.long x.toInt64 :: r) cu su hm hs := (e_step hd).trans e_go
theorem r_i2s {x : Int32} {r : List Value} (hd : decode cc pc = .ok (.i2s, 1)) : E1 X EV d ci mc ms rt ini cc Q pc ls (.int x :: r) cu su hm hs = E1 X EV d ci mc ms rt ini cc Q (pc + 1) ls (.int x.toInt16.toInt32 :: r) cu su hm hs := (e_step hd).trans e_go
theorem r_i2b {x : Int32} {r : List Value} (hd : decode cc pc = .ok (.i2b, 1)) : E1 X EV d ci mc ms rt ini cc Q pc ls (.int x :: r) cu su hm hs = E1 X EV d ci mc ms rt ini cc Q (pc + 1) ls (.int x.toInt8.toInt32 :: r) cu su hm hs := (e_step hd).trans e_go
theorem r_i2c {x : Int32} {r : List Value} (hd : decode cc pc = .ok (.i2c, 1)) : E1 X EV d ci mc ms rt ini cc Q pc ls (.int x :: r) cu su hm hs = E1 X EV d ci mc ms rt ini cc Q (pc + 1) ls (.int (x.toUInt32 % 65536).toInt32 :: r) cu su hm hs := (e_step hd).trans e_go
theorem r_i2f {x : Int32} {r : List Value} (hd : decode cc pc = .ok (.i2f, 1)) : E1 X EV d ci mc ms rt ini cc Q pc ls (.int x :: r) cu su hm hs = E1 X EV d ci mc ms rt ini cc Q (pc + 1) ls (.float (FP.i2f x) :: r) cu su hm hs := (e_step hd).trans e_go
theorem r_l2i {x : Int64} {r : List Value} (hd : decode cc pc = .ok (.l2i, 1)) : E1 X EV d ci mc ms rt ini cc Q pc ls (.long x :: r) cu su hm hs = E1 X EV d ci mc ms rt ini cc Q (pc + 1) ls (.int x.toInt32 :: r) cu su hm hs := (e_step hd).trans e_go
theorem r_ladd {x y : Int64} {r : List Value} (hd : decode cc pc = .ok (.ladd, 1)) : E1 X EV d ci mc ms rt ini cc Q pc ls (.long y :: .long x :: r) cu su hm hs = E1 X EV d ci mc ms rt ini cc Q (pc + 1) ls (.long (x + y) :: r) cu su hm hs := (e_step hd).trans e_go
theorem r_lsub {x y : Int64} {r : List Value} (hd : decode cc pc = .ok (.lsub, 1)) : E1 X EV d ci mc ms rt ini cc Q pc ls (.long y :: .long x :: r) cu su hm hs = E1 X EV d ci mc ms rt ini cc Q (pc + 1) ls (.long (x - y) :: r) cu su hm hs := (e_step hd).trans e_go
theorem r_lmul {x y : Int64} {r : List Value} (hd : decode cc pc = .ok (.lmul, 1)) : E1 X EV d ci mc ms rt ini cc Q pc ls (.long y :: .long x :: r) cu su hm hs = E1 X EV d ci mc ms rt ini cc Q (pc + 1) ls (.long (x * y) :: r) cu su hm hs := (e_step hd).trans e_go
theorem r_ldiv {x y : Int64} {r : List Value} (hd : decode cc pc = .ok (.ldiv, 1)) : E1 X EV d ci mc ms rt ini cc Q pc ls (.long y :: .long x :: r) cu su hm hs = (¬ y = 0 ∧ E1 X EV d ci mc ms rt ini cc Q (pc + 1) ls (.long (x / y) :: r) cu su hm hs) := (e_step hd).trans rfl
theorem r_lrem {x y : Int64} {r : List Value} (hd : decode cc pc = .ok (.lrem, 1)) : E1 X EV d ci mc ms rt ini cc Q pc ls (.long y :: .long x :: r) cu su hm hs = (¬ y = 0 ∧ E1 X EV d ci mc ms rt ini cc Q (pc + 1) ls (.long (x - x / y * y) :: r) cu su hm hs) := (e_step hd).trans rfl
theorem r_lshl {x : Int64} {y : Int32} {r : List Value} (hd : decode cc pc = .ok (.lshl, 1)) : E1 X EV d ci mc ms rt ini cc Q pc ls (.int y :: .long x :: r) cu su hm hs = E1 X EV d ci mc ms rt ini cc Q (pc + 1) ls (.long (x <<< (y.toInt64 &&& 63)) :: r) cu su hm hs := (e_step hd).trans e_go
theorem r_lshr {x : Int64} {y : Int32} {r : List Value} (hd : decode cc pc = .ok (.lshr, 1)) : E1 X EV d ci mc ms rt ini cc Q pc ls (.int y :: .long x :: r) cu su hm hs = E1 X EV d ci mc ms rt ini cc Q (pc + 1) ls (.long (x >>> (y.toInt64 &&& 63)) :: r) cu su hm hs := (e_step hd).trans e_go
theorem r_lcmp {x y : Int64} {r : List Value} (hd : decode cc pc = .ok (.lcmp, 1)) : E1 X EV d ci mc ms rt ini cc Q pc ls (.long y :: .long x :: r) cu su hm hs = E1 X EV d ci mc ms rt ini cc Q (pc + 1) ls (.int (lg_cmp x y) :: r) cu su hm hs := (e_step hd).trans e_go
theorem r_fmul {x y : UInt32} {r : List Value} (hd : decode cc pc = .ok (.fmul, 1)) : E1 X EV d ci mc ms rt ini cc Q pc ls (.float y :: .float x :: r) cu su hm hs = (vf_n32 (FP.fmul x y) ∧ E1 X EV d ci mc ms rt ini cc Q (pc + 1) ls (.float (FP.fmul x y) :: r) cu su hm hs) := (e_step hd).trans rfl
theorem r_fdiv {x y : UInt32} {r : List Value} (hd : decode cc pc = .ok (.fdiv, 1)) : E1 X EV d ci mc ms rt ini cc Q pc ls (.float y :: .float x :: r) cu su hm hs = (vf_n32 (FP.fdiv x y) ∧ E1 X EV d ci mc ms rt ini cc Q (pc + 1) ls (.float (FP.fdiv x y) :: r) cu su hm hs) := (e_step hd).trans rfl
theorem r_fsub {x y : UInt32} {r : List Value} (hd : decode cc pc = .ok (.fsub, 1)) : E1 X EV d ci mc ms rt ini cc Q pc ls (.float y :: .float x :: r) cu su hm hs = (vf_n32 (FP.fsub x y) ∧ E1 X EV d ci mc ms rt ini cc Q (pc + 1) ls (.float (FP.fsub x y) :: r) cu su hm hs) := (e_step hd).trans rfl
theorem r_fcmp {op : CmpOp} {x y : UInt32} {r : List Value} (hd : decode cc pc = .ok (.fcmp op, 1)) : E1 X EV d ci mc ms rt ini cc Q pc ls (.float y :: .float x :: r) cu su hm hs = E1 X EV d ci mc ms rt ini cc Q (pc + 1) ls (.int (Op.cmpValue (FP.fcmp x y) op) :: r) cu su hm hs := (e_step hd).trans e_go
theorem r_f2i {x : UInt32} {r : List Value} (hd : decode cc pc = .ok (.f2i, 1)) : E1 X EV d ci mc ms rt ini cc Q pc ls (.float x :: r) cu su hm hs = E1 X EV d ci mc ms rt ini cc Q (pc + 1) ls (.int (FP.f2i x) :: r) cu su hm hs := (e_step hd).trans e_go
theorem r_dup_i {x : Int32} {r : List Value} (hd : decode cc pc = .ok (.dup, 1)) : E1 X EV d ci mc ms rt ini cc Q pc ls (.int x :: r) cu su hm hs = E1 X EV d ci mc ms rt ini cc Q (pc + 1) ls (.int x :: .int x :: r) cu su hm hs := (e_step hd).trans (propext ⟨fun h => h.2, fun h => ⟨rfl, h⟩⟩)
theorem r_pop_i {x : Int32} {r : List Value} (hd : decode cc pc = .ok (.pop, 1)) : E1 X EV d ci mc ms rt ini cc Q pc ls (.int x :: r) cu su hm hs = E1 X EV d ci mc ms rt ini cc Q (pc + 1) ls r cu su hm hs := (e_step hd).trans (propext ⟨fun h => h.2, fun h => ⟨rfl, h⟩⟩)
theorem r_dup_r {x : Nat} {r : List Value} (hd : decode cc pc = .ok (.dup, 1)) : E1 X EV d ci mc ms rt ini cc Q pc ls (.ref x :: r) cu su hm hs = E1 X EV d ci mc ms rt ini cc Q (pc + 1) ls (.ref x :: .ref x :: r) cu su hm hs := (e_step hd).trans (propext ⟨fun h => h.2, fun h => ⟨rfl, h⟩⟩)
theorem r_pop_r {x : Nat} {r : List Value} (hd : decode cc pc = .ok (.pop, 1)) : E1 X EV d ci mc ms rt ini cc Q pc ls (.ref x :: r) cu su hm hs = E1 X EV d ci mc ms rt ini cc Q (pc + 1) ls r cu su hm hs := (e_step hd).trans (propext ⟨fun h => h.2, fun h => ⟨rfl, h⟩⟩)
theorem r_dup2_ir {x : Int32} {b : Nat} {r : List Value} (hd : decode cc pc = .ok (.dup2, 1)) : E1 X EV d ci mc ms rt ini cc Q pc ls (.int x :: .ref b :: r) cu su hm hs = E1 X EV d ci mc ms rt ini cc Q (pc + 1) ls (.int x :: .ref b :: .int x :: .ref b :: r) cu su hm hs := (e_step hd).trans (propext ⟨fun h => h.2, fun h => ⟨⟨rfl, rfl⟩, h⟩⟩)
theorem r_dup2_l {x : Int64} {r : List Value} (hd : decode cc pc = .ok (.dup2, 1)) : E1 X EV d ci mc ms rt ini cc Q pc ls (.long x :: r) cu su hm hs = E1 X EV d ci mc ms rt ini cc Q (pc + 1) ls (.long x :: .long x :: r) cu su hm hs := (e_step hd).trans e_go
theorem e_j {pc tgt : Nat} {off : Int} (ht : (pc : Int) + off = (tgt : Nat)) : 0 ≤ (pc : Int) + off ∧ im_jmp pc off = tgt := by
  unfold im_jmp
  omega
theorem r_goto {off : Int} {tgt : Nat} (hd : decode cc pc = .ok (.goto off, 3)) (ht : (pc : Int) + off = (tgt : Nat)) : E1 X EV d ci mc ms rt ini cc Q pc ls st cu su hm hs = E1 X EV d ci mc ms rt ini cc Q tgt ls st cu su hm hs := by
  rw [e_step hd]
  show (im_jok pc off ∧ Ex X EV (CC X EV d) ci mc ms rt ini cc Q (im_jmp pc off, ls, st, cu, su, hm, hs)) = _
  rw [(e_j ht).2]
  exact propext ⟨fun h => h.2, fun h => ⟨(e_j ht).1, h⟩⟩
theorem r_gotoB {off : Int} {tgt : Nat} (hd : decode cc pc = .ok (.goto off, 3)) (ht : (pc : Int) + off = (tgt : Nat)) : E1 X EV d ci mc ms rt ini cc Q pc ls st cu su hm hs = E2 X EV d ci mc ms rt ini cc Q tgt ls st cu su hm hs := r_goto hd ht
theorem r_if_eq {x : Int32} {r : List Value} {off : Int} {tgt : Nat} (hd : decode cc pc = .ok (.ifCond .eq off, 3)) (ht : (pc : Int) + off = (tgt : Nat)) : E1 X EV d ci mc ms rt ini cc Q pc ls (.int x :: r) cu su hm hs = ((x = 0 → E1 X EV d ci mc ms rt ini cc Q tgt ls r cu su hm hs) ∧ (¬ (x = 0) → E1 X EV d ci mc ms rt ini cc Q (pc + 3) ls r cu su hm hs)) := by
  rw [e_step hd]
  show im_in _ _ _ (i_if pc ls (.int x :: r) cu su hm hs (fun x => im_c .eq x 0) off) = _
  simp only [i_if, if_pos (e_j ht).1, (e_j ht).2]
  rfl
theorem r_if_eqB {x : Int32} {r : List Value} {off : Int} {tgt : Nat} (hd : decode cc pc = .ok (.ifCond .eq off, 3)) (ht : (pc : Int) + off = (tgt : Nat)) : E1 X EV d ci mc ms rt ini cc Q pc ls (.int x :: r) cu su hm hs = ((x = 0 → E2 X EV d ci mc ms rt ini cc Q tgt ls r cu su hm hs) ∧ (¬ (x = 0) → E1 X EV d ci mc ms rt ini cc Q (pc + 3) ls r cu su hm hs)) := r_if_eq hd ht
theorem r_if_ne {x : Int32} {r : List Value} {off : Int} {tgt : Nat} (hd : decode cc pc = .ok (.ifCond .ne off, 3)) (ht : (pc : Int) + off = (tgt : Nat)) : E1 X EV d ci mc ms rt ini cc Q pc ls (.int x :: r) cu su hm hs = ((¬ x = 0 → E1 X EV d ci mc ms rt ini cc Q tgt ls r cu su hm hs) ∧ (¬ (¬ x = 0) → E1 X EV d ci mc ms rt ini cc Q (pc + 3) ls r cu su hm hs)) := by
  rw [e_step hd]
  show im_in _ _ _ (i_if pc ls (.int x :: r) cu su hm hs (fun x => im_c .ne x 0) off) = _
  simp only [i_if, if_pos (e_j ht).1, (e_j ht).2]
  rfl
theorem r_if_neB {x : Int32} {r : List Value} {off : Int} {tgt : Nat} (hd : decode cc pc = .ok (.ifCond .ne off, 3)) (ht : (pc : Int) + off = (tgt : Nat)) : E1 X EV d ci mc ms rt ini cc Q pc ls (.int x :: r) cu su hm hs = ((¬ x = 0 → E2 X EV d ci mc ms rt ini cc Q tgt ls r cu su hm hs) ∧ (¬ (¬ x = 0) → E1 X EV d ci mc ms rt ini cc Q (pc + 3) ls r cu su hm hs)) := r_if_ne hd ht
theorem r_if_lt {x : Int32} {r : List Value} {off : Int} {tgt : Nat} (hd : decode cc pc = .ok (.ifCond .lt off, 3)) (ht : (pc : Int) + off = (tgt : Nat)) : E1 X EV d ci mc ms rt ini cc Q pc ls (.int x :: r) cu su hm hs = ((x < 0 → E1 X EV d ci mc ms rt ini cc Q tgt ls r cu su hm hs) ∧ (¬ (x < 0) → E1 X EV d ci mc ms rt ini cc Q (pc + 3) ls r cu su hm hs)) := by
  rw [e_step hd]
  show im_in _ _ _ (i_if pc ls (.int x :: r) cu su hm hs (fun x => im_c .lt x 0) off) = _
  simp only [i_if, if_pos (e_j ht).1, (e_j ht).2]
  rfl
theorem r_if_ltB {x : Int32} {r : List Value} {off : Int} {tgt : Nat} (hd : decode cc pc = .ok (.ifCond .lt off, 3)) (ht : (pc : Int) + off = (tgt : Nat)) : E1 X EV d ci mc ms rt ini cc Q pc ls (.int x :: r) cu su hm hs = ((x < 0 → E2 X EV d ci mc ms rt ini cc Q tgt ls r cu su hm hs) ∧ (¬ (x < 0) → E1 X EV d ci mc ms rt ini cc Q (pc + 3) ls r cu su hm hs)) := r_if_lt hd ht
theorem r_if_ge {x : Int32} {r : List Value} {off : Int} {tgt : Nat} (hd : decode cc pc = .ok (.ifCond .ge off, 3)) (ht : (pc : Int) + off = (tgt : Nat)) : E1 X EV d ci mc ms rt ini cc Q pc ls (.int x :: r) cu su hm hs = ((0 ≤ x → E1 X EV d ci mc ms rt ini cc Q tgt ls r cu su hm hs) ∧ (¬ (0 ≤ x) → E1 X EV d ci mc ms rt ini cc Q (pc + 3) ls r cu su hm hs)) := by
  rw [e_step hd]
  show im_in _ _ _ (i_if pc ls (.int x :: r) cu su hm hs (fun x => im_c .ge x 0) off) = _
  simp only [i_if, if_pos (e_j ht).1, (e_j ht).2]
  rfl
theorem r_if_geB {x : Int32} {r : List Value} {off : Int} {tgt : Nat} (hd : decode cc pc = .ok (.ifCond .ge off, 3)) (ht : (pc : Int) + off = (tgt : Nat)) : E1 X EV d ci mc ms rt ini cc Q pc ls (.int x :: r) cu su hm hs = ((0 ≤ x → E2 X EV d ci mc ms rt ini cc Q tgt ls r cu su hm hs) ∧ (¬ (0 ≤ x) → E1 X EV d ci mc ms rt ini cc Q (pc + 3) ls r cu su hm hs)) := r_if_ge hd ht
theorem r_if_gt {x : Int32} {r : List Value} {off : Int} {tgt : Nat} (hd : decode cc pc = .ok (.ifCond .gt off, 3)) (ht : (pc : Int) + off = (tgt : Nat)) : E1 X EV d ci mc ms rt ini cc Q pc ls (.int x :: r) cu su hm hs = ((0 < x → E1 X EV d ci mc ms rt ini cc Q tgt ls r cu su hm hs) ∧ (¬ (0 < x) → E1 X EV d ci mc ms rt ini cc Q (pc + 3) ls r cu su hm hs)) := by
  rw [e_step hd]
  show im_in _ _ _ (i_if pc ls (.int x :: r) cu su hm hs (fun x => im_c .gt x 0) off) = _
  simp only [i_if, if_pos (e_j ht).1, (e_j ht).2]
  rfl
theorem r_if_gtB {x : Int32} {r : List Value} {off : Int} {tgt : Nat} (hd : decode cc pc = .ok (.ifCond .gt off, 3)) (ht : (pc : Int) + off = (tgt : Nat)) : E1 X EV d ci mc ms rt ini cc Q pc ls (.int x :: r) cu su hm hs = ((0 < x → E2 X EV d ci mc ms rt ini cc Q tgt ls r cu su hm hs) ∧ (¬ (0 < x) → E1 X EV d ci mc ms rt ini cc Q (pc + 3) ls r cu su hm hs)) := r_if_gt hd ht
theorem r_if_le {x : Int32} {r : List Value} {off : Int} {tgt : Nat} (hd : decode cc pc = .ok (.ifCond .le off, 3)) (ht : (pc : Int) + off = (tgt : Nat)) : E1 X EV d ci mc ms rt ini cc Q pc ls (.int x :: r) cu su hm hs = ((x ≤ 0 → E1 X EV d ci mc ms rt ini cc Q tgt ls r cu su hm hs) ∧ (¬ (x ≤ 0) → E1 X EV d ci mc ms rt ini cc Q (pc + 3) ls r cu su hm hs)) := by
  rw [e_step hd]
  show im_in _ _ _ (i_if pc ls (.int x :: r) cu su hm hs (fun x => im_c .le x 0) off) = _
  simp only [i_if, if_pos (e_j ht).1, (e_j ht).2]
  rfl
theorem r_if_leB {x : Int32} {r : List Value} {off : Int} {tgt : Nat} (hd : decode cc pc = .ok (.ifCond .le off, 3)) (ht : (pc : Int) + off = (tgt : Nat)) : E1 X EV d ci mc ms rt ini cc Q pc ls (.int x :: r) cu su hm hs = ((x ≤ 0 → E2 X EV d ci mc ms rt ini cc Q tgt ls r cu su hm hs) ∧ (¬ (x ≤ 0) → E1 X EV d ci mc ms rt ini cc Q (pc + 3) ls r cu su hm hs)) := r_if_le hd ht
theorem r_ic_eq {x y : Int32} {r : List Value} {off : Int} {tgt : Nat} (hd : decode cc pc = .ok (.if_icmp .eq off, 3)) (ht : (pc : Int) + off = (tgt : Nat)) : E1 X EV d ci mc ms rt ini cc Q pc ls (.int y :: .int x :: r) cu su hm hs = ((x = y → E1 X EV d ci mc ms rt ini cc Q tgt ls r cu su hm hs) ∧ (¬ (x = y) → E1 X EV d ci mc ms rt ini cc Q (pc + 3) ls r cu su hm hs)) := by
  rw [e_step hd]
  show im_in _ _ _ (i_icmp pc ls (.int y :: .int x :: r) cu su hm hs (fun x y => im_c .eq x y) off) = _
  simp only [i_icmp, if_pos (e_j ht).1, (e_j ht).2]
  rfl
theorem r_ic_eqB {x y : Int32} {r : List Value} {off : Int} {tgt : Nat} (hd : decode cc pc = .ok (.if_icmp .eq off, 3)) (ht : (pc : Int) + off = (tgt : Nat)) : E1 X EV d ci mc ms rt ini cc Q pc ls (.int y :: .int x :: r) cu su hm hs = ((x = y → E2 X EV d ci mc ms rt ini cc Q tgt ls r cu su hm hs) ∧ (¬ (x = y) → E1 X EV d ci mc ms rt ini cc Q (pc + 3) ls r cu su hm hs)) := r_ic_eq hd ht
theorem r_ic_ne {x y : Int32} {r : List Value} {off : Int} {tgt : Nat} (hd : decode cc pc = .ok (.if_icmp .ne off, 3)) (ht : (pc : Int) + off = (tgt : Nat)) : E1 X EV d ci mc ms rt ini cc Q pc ls (.int y :: .int x :: r) cu su hm hs = ((¬ x = y → E1 X EV d ci mc ms rt ini cc Q tgt ls r cu su hm hs) ∧ (¬ (¬ x = y) → E1 X EV d ci mc ms rt ini cc Q (pc + 3) ls r cu su hm hs)) := by
  rw [e_step hd]
  show im_in _ _ _ (i_icmp pc ls (.int y :: .int x :: r) cu su hm hs (fun x y => im_c .ne x y) off) = _
  simp only [i_icmp, if_pos (e_j ht).1, (e_j ht).2]
  rfl
theorem r_ic_neB {x y : Int32} {r : List Value} {off : Int} {tgt : Nat} (hd : decode cc pc = .ok (.if_icmp .ne off, 3)) (ht : (pc : Int) + off = (tgt : Nat)) : E1 X EV d ci mc ms rt ini cc Q pc ls (.int y :: .int x :: r) cu su hm hs = ((¬ x = y → E2 X EV d ci mc ms rt ini cc Q tgt ls r cu su hm hs) ∧ (¬ (¬ x = y) → E1 X EV d ci mc ms rt ini cc Q (pc + 3) ls r cu su hm hs)) := r_ic_ne hd ht
theorem r_ic_lt {x y : Int32} {r : List Value} {off : Int} {tgt : Nat} (hd : decode cc pc = .ok (.if_icmp .lt off, 3)) (ht : (pc : Int) + off = (tgt : Nat)) : E1 X EV d ci mc ms rt ini cc Q pc ls (.int y :: .int x :: r) cu su hm hs = ((x < y → E1 X EV d ci mc ms rt ini cc Q tgt ls r cu su hm hs) ∧ (¬ (x < y) → E1 X EV d ci mc ms rt ini cc Q (pc + 3) ls r cu su hm hs)) := by
  rw [e_step hd]
  show im_in _ _ _ (i_icmp pc ls (.int y :: .int x :: r) cu su hm hs (fun x y => im_c .lt x y) off) = _
  simp only [i_icmp, if_pos (e_j ht).1, (e_j ht).2]
  rfl
theorem r_ic_ltB {x y : Int32} {r : List Value} {off : Int} {tgt : Nat} (hd : decode cc pc = .ok (.if_icmp .lt off, 3)) (ht : (pc : Int) + off = (tgt : Nat)) : E1 X EV d ci mc ms rt ini cc Q pc ls (.int y :: .int x :: r) cu su hm hs = ((x < y → E2 X EV d ci mc ms rt ini cc Q tgt ls r cu su hm hs) ∧ (¬ (x < y) → E1 X EV d ci mc ms rt ini cc Q (pc + 3) ls r cu su hm hs)) := r_ic_lt hd ht
theorem r_ic_ge {x y : Int32} {r : List Value} {off : Int} {tgt : Nat} (hd : decode cc pc = .ok (.if_icmp .ge off, 3)) (ht : (pc : Int) + off = (tgt : Nat)) : E1 X EV d ci mc ms rt ini cc Q pc ls (.int y :: .int x :: r) cu su hm hs = ((y ≤ x → E1 X EV d ci mc ms rt ini cc Q tgt ls r cu su hm hs) ∧ (¬ (y ≤ x) → E1 X EV d ci mc ms rt ini cc Q (pc + 3) ls r cu su hm hs)) := by
  rw [e_step hd]
  show im_in _ _ _ (i_icmp pc ls (.int y :: .int x :: r) cu su hm hs (fun x y => im_c .ge x y) off) = _
  simp only [i_icmp, if_pos (e_j ht).1, (e_j ht).2]
  rfl
theorem r_ic_geB {x y : Int32} {r : List Value} {off : Int} {tgt : Nat} (hd : decode cc pc = .ok (.if_icmp .ge off, 3)) (ht : (pc : Int) + off = (tgt : Nat)) : E1 X EV d ci mc ms rt ini cc Q pc ls (.int y :: .int x :: r) cu su hm hs = ((y ≤ x → E2 X EV d ci mc ms rt ini cc Q tgt ls r cu su hm hs) ∧ (¬ (y ≤ x) → E1 X EV d ci mc ms rt ini cc Q (pc + 3) ls r cu su hm hs)) := r_ic_ge hd ht
theorem r_ic_gt {x y : Int32} {r : List Value} {off : Int} {tgt : Nat} (hd : decode cc pc = .ok (.if_icmp .gt off, 3)) (ht : (pc : Int) + off = (tgt : Nat)) : E1 X EV d ci mc ms rt ini cc Q pc ls (.int y :: .int x :: r) cu su hm hs = ((y < x → E1 X EV d ci mc ms rt ini cc Q tgt ls r cu su hm hs) ∧ (¬ (y < x) → E1 X EV d ci mc ms rt ini cc Q (pc + 3) ls r cu su hm hs)) := by
  rw [e_step hd]
  show im_in _ _ _ (i_icmp pc ls (.int y :: .int x :: r) cu su hm hs (fun x y => im_c .gt x y) off) = _
  simp only [i_icmp, if_pos (e_j ht).1, (e_j ht).2]
  rfl
theorem r_ic_gtB {x y : Int32} {r : List Value} {off : Int} {tgt : Nat} (hd : decode cc pc = .ok (.if_icmp .gt off, 3)) (ht : (pc : Int) + off = (tgt : Nat)) : E1 X EV d ci mc ms rt ini cc Q pc ls (.int y :: .int x :: r) cu su hm hs = ((y < x → E2 X EV d ci mc ms rt ini cc Q tgt ls r cu su hm hs) ∧ (¬ (y < x) → E1 X EV d ci mc ms rt ini cc Q (pc + 3) ls r cu su hm hs)) := r_ic_gt hd ht
theorem r_ic_le {x y : Int32} {r : List Value} {off : Int} {tgt : Nat} (hd : decode cc pc = .ok (.if_icmp .le off, 3)) (ht : (pc : Int) + off = (tgt : Nat)) : E1 X EV d ci mc ms rt ini cc Q pc ls (.int y :: .int x :: r) cu su hm hs = ((x ≤ y → E1 X EV d ci mc ms rt ini cc Q tgt ls r cu su hm hs) ∧ (¬ (x ≤ y) → E1 X EV d ci mc ms rt ini cc Q (pc + 3) ls r cu su hm hs)) := by
  rw [e_step hd]
  show im_in _ _ _ (i_icmp pc ls (.int y :: .int x :: r) cu su hm hs (fun x y => im_c .le x y) off) = _
  simp only [i_icmp, if_pos (e_j ht).1, (e_j ht).2]
  rfl
theorem r_ic_leB {x y : Int32} {r : List Value} {off : Int} {tgt : Nat} (hd : decode cc pc = .ok (.if_icmp .le off, 3)) (ht : (pc : Int) + off = (tgt : Nat)) : E1 X EV d ci mc ms rt ini cc Q pc ls (.int y :: .int x :: r) cu su hm hs = ((x ≤ y → E2 X EV d ci mc ms rt ini cc Q tgt ls r cu su hm hs) ∧ (¬ (x ≤ y) → E1 X EV d ci mc ms rt ini cc Q (pc + 3) ls r cu su hm hs)) := r_ic_le hd ht
theorem r_tsIn {dd lo hi1 off : Int} {offs : Array Int} {n tgt : Nat} {x : Int32} {r : List Value} (hd : decode cc pc = .ok (.tableswitch dd lo hi1 offs, n)) (h1 : ¬ x.toInt < lo) (h2 : ¬ hi1 < x.toInt) (ho : offs[(x.toInt - lo).toNat]? = some off) (ht : (pc : Int) + off = (tgt : Nat)) : E1 X EV d ci mc ms rt ini cc Q pc ls (.int x :: r) cu su hm hs = E1 X EV d ci mc ms rt ini cc Q tgt ls r cu su hm hs := by
  rw [e_step hd]
  show im_in _ _ _ (i_tsw pc ls (.int x :: r) cu su hm hs dd lo hi1 offs) = _
  simp only [i_tsw, if_neg (show ¬ (x.toInt < lo ∨ hi1 < x.toInt) from fun q => q.elim h1 h2), ho, (e_j ht).2]
  exact propext ⟨fun h => h.2, fun h => ⟨(e_j ht).1, h⟩⟩
theorem r_tsOut {dd lo hi1 : Int} {offs : Array Int} {n tgt : Nat} {x : Int32} {r : List Value} (hd : decode cc pc = .ok (.tableswitch dd lo hi1 offs, n)) (h1 : x.toInt < lo ∨ hi1 < x.toInt) (ht : (pc : Int) + dd = (tgt : Nat)) : E1 X EV d ci mc ms rt ini cc Q pc ls (.int x :: r) cu su hm hs = E1 X EV d ci mc ms rt ini cc Q tgt ls r cu su hm hs := by
  rw [e_step hd]
  show im_in _ _ _ (i_tsw pc ls (.int x :: r) cu su hm hs dd lo hi1 offs) = _
  simp only [i_tsw, if_pos h1, (e_j ht).2]
  exact propext ⟨fun h => h.2, fun h => ⟨(e_j ht).1, h⟩⟩
theorem r_getf {idx cj k fl ps : Nat} {a : Nat} {r : List Value} (hd : decode cc pc = .ok (.getfield idx, 3)) (hf : im_fld ci idx = some (cj, k, fl, ps)) : E1 X EV d ci mc ms rt ini cc Q pc ls (.ref a :: r) cu su hm hs = gF (im_rd X hm a) cj k (fun v => E1 X EV d ci mc ms rt ini cc Q (pc + 3) ls (v :: r) cu su hm hs) := by
  rw [e_step hd]
  show im_in _ _ _ (i_getf X ci pc ls (.ref a :: r) cu su hm hs idx) = _
  simp only [i_getf, hf]
  generalize im_rd X hm a = c0
  unfold gF
  rcases c0 with _ | ⟨_ | ⟨ck, fs⟩⟩
  · exact propext ⟨fun h => h.1, fun h => h.elim⟩
  · exact propext ⟨fun h => h.1, fun h => h.elim⟩
  · dsimp only
    cases fs[k]? with
    | none => exact propext ⟨fun h => h.1, fun h => h.elim⟩
    | some v => rfl
theorem r_putf {idx cj k ps : Nat} {a : Nat} {v : Value} {r : List Value} (hd : decode cc pc = .ok (.putfield idx, 3)) (hf : im_fld ci idx = some (cj, k, 0, ps)) : E1 X EV d ci mc ms rt ini cc Q pc ls (v :: .ref a :: r) cu su hm hs = pF (hm a) cj k (im_fit (im_ty cj k) v) v (fun c => E1 X EV d ci mc ms rt ini cc Q (pc + 3) ls r cu su (im_up hm a c) hs) := by
  rw [e_step hd]
  show im_in _ _ _ (i_putf ci ini pc ls (v :: .ref a :: r) cu su hm hs idx) = _
  simp only [i_putf, hf]
  generalize hm a = c0
  unfold pF
  rcases c0 with _ | ⟨_ | ⟨ck, fs⟩⟩
  · exact propext ⟨fun h => h.1, fun h => h.elim⟩
  · exact propext ⟨fun h => h.1, fun h => h.elim⟩
  · exact propext ⟨fun h => ⟨⟨h.1.1, h.1.2.1, h.1.2.2.1⟩, h.2⟩, fun h => ⟨⟨h.1.1, h.1.2.1, h.1.2.2, fun q => absurd q (by decide)⟩, h.2⟩⟩
theorem r_putff {idx k ps : Nat} {a : Nat} {v : Value} {r : List Value} (hd : decode cc pc = .ok (.putfield idx, 3)) (hf : im_fld ci idx = some (ci, k, 1, ps)) : E1 X EV d ci mc ms rt ini cc Q pc ls (v :: .ref a :: r) cu su hm hs = pF (hm a) ci k (im_fit (im_ty ci k) v ∧ ini = true) v (fun c => E1 X EV d ci mc ms rt ini cc Q (pc + 3) ls r cu su (im_up hm a c) hs) := by
  rw [e_step hd]
  show im_in _ _ _ (i_putf ci ini pc ls (v :: .ref a :: r) cu su hm hs idx) = _
  simp only [i_putf, hf]
  generalize hm a = c0
  unfold pF
  rcases c0 with _ | ⟨_ | ⟨ck, fs⟩⟩
  · exact propext ⟨fun h => h.1, fun h => h.elim⟩
  · exact propext ⟨fun h => h.1, fun h => h.elim⟩
  · exact propext ⟨fun h => ⟨⟨h.1.1, h.1.2.1, h.1.2.2.1, (h.1.2.2.2 trivial).1⟩, h.2⟩, fun h => ⟨⟨h.1.1, h.1.2.1, h.1.2.2.1, fun _ => ⟨h.1.2.2.2, trivial⟩⟩, h.2⟩⟩
theorem r_iald {j : Int32} {a : Nat} {r : List Value} (hd : decode cc pc = .ok (.iaload, 1)) : E1 X EV d ci mc ms rt ini cc Q pc ls (.int j :: .ref a :: r) cu su hm hs = aI (im_rd X hm a) j (fun v => E1 X EV d ci mc ms rt ini cc Q (pc + 1) ls (.int v :: r) cu su hm hs) := by
  rw [e_step hd]
  show im_in _ _ _ (i_iald X pc ls (.int j :: .ref a :: r) cu su hm hs) = _
  simp only [i_iald]
  generalize im_rd X hm a = c0
  unfold aI
  split
  · rfl
  · rename_i hne
    split
    · first | exact (hne _ _ rfl).elim | exact (hne _ _ _ rfl).elim | exact (hne _ _ _ _ rfl rfl).elim | exact (hne _ _ _ _ _ rfl rfl).elim
    · exact propext ⟨fun h => h.1, fun h => h.elim⟩
theorem r_bald {j : Int32} {a : Nat} {r : List Value} (hd : decode cc pc = .ok (.baload, 1)) : E1 X EV d ci mc ms rt ini cc Q pc ls (.int j :: .ref a :: r) cu su hm hs = aB (im_rd X hm a) j (fun v => E1 X EV d ci mc ms rt ini cc Q (pc + 1) ls (.int v :: r) cu su hm hs) := by
  rw [e_step hd]
  show im_in _ _ _ (i_bald X pc ls (.int j :: .ref a :: r) cu su hm hs) = _
  simp only [i_bald]
  generalize im_rd X hm a = c0
  unfold aB
  split
  · rfl
  · rename_i hne
    split
    · first | exact (hne _ _ rfl).elim | exact (hne _ _ _ rfl).elim | exact (hne _ _ _ _ rfl rfl).elim | exact (hne _ _ _ _ _ rfl rfl).elim
    · exact propext ⟨fun h => h.1, fun h => h.elim⟩
theorem r_lald {j : Int32} {a : Nat} {r : List Value} (hd : decode cc pc = .ok (.laload, 1)) : E1 X EV d ci mc ms rt ini cc Q pc ls (.int j :: .ref a :: r) cu su hm hs = aJ (hm a) j (fun v => E1 X EV d ci mc ms rt ini cc Q (pc + 1) ls (.long v :: r) cu su hm hs) := by
  rw [e_step hd]
  show im_in _ _ _ (i_lald pc ls (.int j :: .ref a :: r) cu su hm hs) = _
  simp only [i_lald]
  generalize hm a = c0
  unfold aJ
  split
  · rfl
  · rename_i hne
    split
    · first | exact (hne _ _ rfl).elim | exact (hne _ _ _ rfl).elim | exact (hne _ _ _ _ rfl rfl).elim | exact (hne _ _ _ _ _ rfl rfl).elim
    · exact propext ⟨fun h => h.1, fun h => h.elim⟩
theorem r_aald {j : Int32} {a : Nat} {r : List Value} (hd : decode cc pc = .ok (.aaload, 1)) : E1 X EV d ci mc ms rt ini cc Q pc ls (.int j :: .ref a :: r) cu su hm hs = aR (hm a) j (fun v => E1 X EV d ci mc ms rt ini cc Q (pc + 1) ls (v :: r) cu su hm hs) := by
  rw [e_step hd]
  show im_in _ _ _ (i_aald pc ls (.int j :: .ref a :: r) cu su hm hs) = _
  simp only [i_aald]
  generalize hm a = c0
  unfold aR
  split
  · rfl
  · rename_i hne
    split
    · first | exact (hne _ _ rfl).elim | exact (hne _ _ _ rfl).elim | exact (hne _ _ _ _ rfl rfl).elim | exact (hne _ _ _ _ _ rfl rfl).elim
    · exact propext ⟨fun h => h.1, fun h => h.elim⟩
theorem r_alen {a : Nat} {r : List Value} (hd : decode cc pc = .ok (.arraylength, 1)) : E1 X EV d ci mc ms rt ini cc Q pc ls (.ref a :: r) cu su hm hs = aN (im_rd X hm a) (fun v => E1 X EV d ci mc ms rt ini cc Q (pc + 1) ls (.int v :: r) cu su hm hs) := by
  rw [e_step hd]
  show im_in _ _ _ (i_alen X pc ls (.ref a :: r) cu su hm hs) = _
  simp only [i_alen]
  generalize im_rd X hm a = c0
  unfold aN
  split
  · exact e_go
  · rename_i hne
    split
    · first | exact (hne _ _ rfl).elim | exact (hne _ _ _ rfl).elim | exact (hne _ _ _ _ rfl rfl).elim | exact (hne _ _ _ _ _ rfl rfl).elim
    · exact propext ⟨fun h => h.1, fun h => h.elim⟩
theorem r_iast {j x : Int32} {a : Nat} {r : List Value} (hd : decode cc pc = .ok (.iastore, 1)) : E1 X EV d ci mc ms rt ini cc Q pc ls (.int x :: .int j :: .ref a :: r) cu su hm hs = sI (hm a) j x (fun c => E1 X EV d ci mc ms rt ini cc Q (pc + 1) ls r cu su (im_up hm a c) hs) := by
  rw [e_step hd]
  show im_in _ _ _ (i_iast pc ls (.int x :: .int j :: .ref a :: r) cu su hm hs) = _
  simp only [i_iast]
  generalize hm a = c0
  unfold sI
  split
  · rfl
  · rename_i hne
    split
    · first | exact (hne _ _ rfl).elim | exact (hne _ _ _ rfl).elim | exact (hne _ _ _ _ rfl rfl).elim | exact (hne _ _ _ _ _ rfl rfl).elim
    · exact propext ⟨fun h => h.1, fun h => h.elim⟩
theorem r_bast {j x : Int32} {a : Nat} {r : List Value} (hd : decode cc pc = .ok (.bastore, 1)) : E1 X EV d ci mc ms rt ini cc Q pc ls (.int x :: .int j :: .ref a :: r) cu su hm hs = sB (hm a) j x (fun c => E1 X EV d ci mc ms rt ini cc Q (pc + 1) ls r cu su (im_up hm a c) hs) := by
  rw [e_step hd]
  show im_in _ _ _ (i_bast pc ls (.int x :: .int j :: .ref a :: r) cu su hm hs) = _
  simp only [i_bast]
  generalize hm a = c0
  unfold sB
  split
  · rfl
  · rename_i hne
    split
    · first | exact (hne _ _ rfl).elim | exact (hne _ _ _ rfl).elim | exact (hne _ _ _ _ rfl rfl).elim | exact (hne _ _ _ _ _ rfl rfl).elim
    · exact propext ⟨fun h => h.1, fun h => h.elim⟩
theorem r_last {j : Int32} {x : Int64} {a : Nat} {r : List Value} (hd : decode cc pc = .ok (.lastore, 1)) : E1 X EV d ci mc ms rt ini cc Q pc ls (.long x :: .int j :: .ref a :: r) cu su hm hs = sJ (hm a) j x (fun c => E1 X EV d ci mc ms rt ini cc Q (pc + 1) ls r cu su (im_up hm a c) hs) := by
  rw [e_step hd]
  show im_in _ _ _ (i_last pc ls (.long x :: .int j :: .ref a :: r) cu su hm hs) = _
  simp only [i_last]
  generalize hm a = c0
  unfold sJ
  split
  · rfl
  · rename_i hne
    split
    · first | exact (hne _ _ rfl).elim | exact (hne _ _ _ rfl).elim | exact (hne _ _ _ _ rfl rfl).elim | exact (hne _ _ _ _ _ rfl rfl).elim
    · exact propext ⟨fun h => h.1, fun h => h.elim⟩
theorem r_aast {j : Int32} {v a : Nat} {r : List Value} (hd : decode cc pc = .ok (.aastore, 1)) : E1 X EV d ci mc ms rt ini cc Q pc ls (.ref v :: .int j :: .ref a :: r) cu su hm hs = sR (hm a) (hm v) j v (fun c => E1 X EV d ci mc ms rt ini cc Q (pc + 1) ls r cu su (im_up hm a c) hs) := by
  rw [e_step hd]
  show im_in _ _ _ (i_aast pc ls (.ref v :: .int j :: .ref a :: r) cu su hm hs) = _
  simp only [i_aast]
  generalize hm a = c0
  generalize hm v = c1
  unfold sR
  split
  · rfl
  · rename_i hne
    split
    · first | exact (hne _ _ rfl).elim | exact (hne _ _ _ rfl).elim | exact (hne _ _ _ _ rfl rfl).elim | exact (hne _ _ _ _ _ rfl rfl).elim
    · exact propext ⟨fun h => h.1, fun h => h.elim⟩
theorem r_newa {t : ArrayType} {k : Int32} {r : List Value} (hd : decode cc pc = .ok (.newarray t, 2)) : E1 X EV d ci mc ms rt ini cc Q pc ls (.int k :: r) cu su hm hs = ((¬ k < 0 ∧ k.toNatClampNeg ≤ 100000 ∧ cu + 1 ≤ mc ∧ su + k.toNatClampNeg ≤ ms ∧ (t = .int ∨ t = .long ∨ t = .byte)) ∧ E1 X EV d ci mc ms rt ini cc Q (pc + 2) ls (.ref hs :: r) (cu + 1) (su + k.toNatClampNeg) (im_up hm hs (im_zero (newarray.typeOf t) k.toNatClampNeg)) (hs + 1)) := (e_step hd).trans rfl
theorem r_anew {idx cj p1 p2 p3 : Nat} {k : Int32} {r : List Value} (hd : decode cc pc = .ok (.anewarray idx, 3)) (hf : im_new ci idx = some (cj, p1, p2, p3)) : E1 X EV d ci mc ms rt ini cc Q pc ls (.int k :: r) cu su hm hs = ((cj = 4 ∧ ¬ k < 0 ∧ k.toNatClampNeg ≤ 100000 ∧ cu + 1 ≤ mc ∧ su + k.toNatClampNeg ≤ ms) ∧ E1 X EV d ci mc ms rt ini cc Q (pc + 3) ls (.ref hs :: r) (cu + 1) (su + k.toNatClampNeg) (im_up hm hs (.inl (.object (im_cn cj), k.toNatClampNeg, .inr (.inr (.inr (.inr fun _ => none)))))) (hs + 1)) := by
  rw [e_step hd]
  show im_in _ _ _ (i_anew ci mc ms pc ls (.int k :: r) cu su hm hs idx) = _
  simp only [i_anew, hf]
  rfl
theorem r_new {idx cj p1 p2 p3 : Nat} (hd : decode cc pc = .ok (.new idx, 3)) (hf : im_new ci idx = some (cj, p1, p2, p3)) : E1 X EV d ci mc ms rt ini cc Q pc ls st cu su hm hs = ((cu + 1 ≤ mc ∧ su + im_N cj ≤ ms) ∧ E1 X EV d ci mc ms rt ini cc Q (pc + 3) ls (.ref hs :: st) (cu + 1) (su + im_N cj) (im_up hm hs (.inr (cj, im_dfs cj))) (hs + 1)) := by
  rw [e_step hd]
  show im_in _ _ _ (i_new ci mc ms pc ls st cu su hm hs idx) = _
  simp only [i_new, hf]
  rfl
theorem r_ist0 {idx y p1 p2 p3 c1 s1 ci2 nL2 : Nat} {yn : MethodName} {cc2 : ByteArray} {rt2 : Option FieldType} {r : List Value} (hd : decode cc pc = .ok (.invokestatic idx, 3)) (hk : im_mtd ci idx = some (1, y, 0, p1, p2, p3)) (hy : im_mth y = some (ci2, yn, cc2, nL2, rt2, c1, s1)) (hr : r.length ≤ 4) : cu + c1 ≤ mc → su + s1 ≤ ms → CC X EV d y [] hm hs (fun v hm hs => E1 X EV d ci mc ms rt ini cc Q (pc + 3) ls (v.toList ++ r) (cu + c1) (su + s1) hm hs) → E1 X EV d ci mc ms rt ini cc Q pc ls r cu su hm hs := by
  intro h2 h3 h4
  rw [e_step hd]
  show im_in _ _ _ (i_inv X ci mc ms pc ls (r) cu su hm hs idx (fun k => k == 1 || k == 4 || k == 6 || k == 7 || k == 8))
  simp only [i_inv, hk, hy, im_pop, List.nil_append, List.cons_append]
  exact ⟨⟨rfl, trivial, hr, h2, h3⟩, h4⟩
theorem r_itn0 {idx y p1 p2 p3 c1 s1 ci2 nL2 : Nat} {yn : MethodName} {cc2 : ByteArray} {rt2 : Option FieldType} {r : List Value} (hd : decode cc pc = .ok (.invokestatic idx, 3)) (hk : im_mtd ci idx = some (4, y, 0, p1, p2, p3)) (hy : im_mth y = some (ci2, yn, cc2, nL2, rt2, c1, s1)) (hr : r.length ≤ 4) : cu + c1 ≤ mc → su + s1 ≤ ms → CC X EV d y [] hm hs (fun v hm hs => E1 X EV d ci mc ms rt ini cc Q (pc + 3) ls (v.toList ++ r) (cu + c1) (su + s1) hm hs) → E1 X EV d ci mc ms rt ini cc Q pc ls r cu su hm hs := by
  intro h2 h3 h4
  rw [e_step hd]
  show im_in _ _ _ (i_inv X ci mc ms pc ls (r) cu su hm hs idx (fun k => k == 1 || k == 4 || k == 6 || k == 7 || k == 8))
  simp only [i_inv, hk, hy, im_pop, List.nil_append, List.cons_append]
  exact ⟨⟨rfl, trivial, hr, h2, h3⟩, h4⟩
theorem r_iv1 {idx y p1 p2 p3 c1 s1 ci2 nL2 : Nat} {yn : MethodName} {cc2 : ByteArray} {rt2 : Option FieldType} {cj : Nat} {b : Nat} {r : List Value} (hd : decode cc pc = .ok (.invokevirtual idx, 3)) (hk : im_mtd ci idx = some (0, y, 1, p1, p2, p3)) (hy : im_mth y = some (ci2, yn, cc2, nL2, rt2, c1, s1)) (ho : im_rok cj y) (hr : r.length ≤ 4) : rcv (im_rd X hm b) cj → cu + c1 ≤ mc → su + s1 ≤ ms → CC X EV d y [.ref b] hm hs (fun v hm hs => E1 X EV d ci mc ms rt ini cc Q (pc + 3) ls (v.toList ++ r) (cu + c1) (su + s1) hm hs) → E1 X EV d ci mc ms rt ini cc Q pc ls (.ref b :: r) cu su hm hs := by
  intro h1 h2 h3 h4
  rw [e_step hd]
  show im_in _ _ _ (i_inv X ci mc ms pc ls (.ref b :: r) cu su hm hs idx (fun k => k == 0))
  simp only [i_inv, hk, hy, im_pop, List.nil_append, List.cons_append]
  refine ⟨⟨rfl, ?_, hr, h2, h3⟩, h4⟩
  unfold rcv at h1
  split at h1
  · rename_i ck fs hrd
    subst h1
    exact ⟨_, fs, hrd, ho⟩
  · exact h1.elim
theorem r_isp1 {idx y p1 p2 p3 c1 s1 ci2 nL2 : Nat} {yn : MethodName} {cc2 : ByteArray} {rt2 : Option FieldType} {b : Nat} {r : List Value} (hd : decode cc pc = .ok (.invokespecial idx, 3)) (hk : im_mtd ci idx = some (2, y, 1, p1, p2, p3)) (hy : im_mth y = some (ci2, yn, cc2, nL2, rt2, c1, s1)) (hr : r.length ≤ 4) : cu + c1 ≤ mc → su + s1 ≤ ms → CC X EV d y [.ref b] hm hs (fun v hm hs => E1 X EV d ci mc ms rt ini cc Q (pc + 3) ls (v.toList ++ r) (cu + c1) (su + s1) hm hs) → E1 X EV d ci mc ms rt ini cc Q pc ls (.ref b :: r) cu su hm hs := by
  intro h2 h3 h4
  rw [e_step hd]
  show im_in _ _ _ (i_inv X ci mc ms pc ls (.ref b :: r) cu su hm hs idx (fun k => k == 2 || k == 3 || k == 5))
  simp only [i_inv, hk, hy, im_pop, List.nil_append, List.cons_append]
  exact ⟨⟨rfl, trivial, hr, h2, h3⟩, h4⟩
theorem r_isn1 {idx y p1 p2 p3 c1 s1 ci2 nL2 : Nat} {yn : MethodName} {cc2 : ByteArray} {rt2 : Option FieldType} {b : Nat} {r : List Value} (hd : decode cc pc = .ok (.invokespecial idx, 3)) (hk : im_mtd ci idx = some (3, y, 1, p1, p2, p3)) (hy : im_mth y = some (ci2, yn, cc2, nL2, rt2, c1, s1)) (hr : r.length ≤ 4) : cu + c1 ≤ mc → su + s1 ≤ ms → CC X EV d y [.ref b] hm hs (fun v hm hs => E1 X EV d ci mc ms rt ini cc Q (pc + 3) ls (v.toList ++ r) (cu + c1) (su + s1) hm hs) → E1 X EV d ci mc ms rt ini cc Q pc ls (.ref b :: r) cu su hm hs := by
  intro h2 h3 h4
  rw [e_step hd]
  show im_in _ _ _ (i_inv X ci mc ms pc ls (.ref b :: r) cu su hm hs idx (fun k => k == 2 || k == 3 || k == 5))
  simp only [i_inv, hk, hy, im_pop, List.nil_append, List.cons_append]
  exact ⟨⟨rfl, trivial, hr, h2, h3⟩, h4⟩
theorem r_ist1 {idx y p1 p2 p3 c1 s1 ci2 nL2 : Nat} {yn : MethodName} {cc2 : ByteArray} {rt2 : Option FieldType} {v0 : Value} {r : List Value} (hd : decode cc pc = .ok (.invokestatic idx, 3)) (hk : im_mtd ci idx = some (1, y, 1, p1, p2, p3)) (hy : im_mth y = some (ci2, yn, cc2, nL2, rt2, c1, s1)) (hr : r.length ≤ 4) : cu + c1 ≤ mc → su + s1 ≤ ms → CC X EV d y [v0] hm hs (fun v hm hs => E1 X EV d ci mc ms rt ini cc Q (pc + 3) ls (v.toList ++ r) (cu + c1) (su + s1) hm hs) → E1 X EV d ci mc ms rt ini cc Q pc ls (v0 :: r) cu su hm hs := by
  intro h2 h3 h4
  rw [e_step hd]
  show im_in _ _ _ (i_inv X ci mc ms pc ls (v0 :: r) cu su hm hs idx (fun k => k == 1 || k == 4 || k == 6 || k == 7 || k == 8))
  simp only [i_inv, hk, hy, im_pop, List.nil_append, List.cons_append]
  exact ⟨⟨rfl, trivial, hr, h2, h3⟩, h4⟩
theorem r_itn1 {idx y p1 p2 p3 c1 s1 ci2 nL2 : Nat} {yn : MethodName} {cc2 : ByteArray} {rt2 : Option FieldType} {v0 : Value} {r : List Value} (hd : decode cc pc = .ok (.invokestatic idx, 3)) (hk : im_mtd ci idx = some (4, y, 1, p1, p2, p3)) (hy : im_mth y = some (ci2, yn, cc2, nL2, rt2, c1, s1)) (hr : r.length ≤ 4) : cu + c1 ≤ mc → su + s1 ≤ ms → CC X EV d y [v0] hm hs (fun v hm hs => E1 X EV d ci mc ms rt ini cc Q (pc + 3) ls (v.toList ++ r) (cu + c1) (su + s1) hm hs) → E1 X EV d ci mc ms rt ini cc Q pc ls (v0 :: r) cu su hm hs := by
  intro h2 h3 h4
  rw [e_step hd]
  show im_in _ _ _ (i_inv X ci mc ms pc ls (v0 :: r) cu su hm hs idx (fun k => k == 1 || k == 4 || k == 6 || k == 7 || k == 8))
  simp only [i_inv, hk, hy, im_pop, List.nil_append, List.cons_append]
  exact ⟨⟨rfl, trivial, hr, h2, h3⟩, h4⟩
theorem r_iv2 {idx y p1 p2 p3 c1 s1 ci2 nL2 : Nat} {yn : MethodName} {cc2 : ByteArray} {rt2 : Option FieldType} {cj : Nat} {v1 : Value} {b : Nat} {r : List Value} (hd : decode cc pc = .ok (.invokevirtual idx, 3)) (hk : im_mtd ci idx = some (0, y, 2, p1, p2, p3)) (hy : im_mth y = some (ci2, yn, cc2, nL2, rt2, c1, s1)) (ho : im_rok cj y) (hr : r.length ≤ 4) : rcv (im_rd X hm b) cj → cu + c1 ≤ mc → su + s1 ≤ ms → CC X EV d y [.ref b, v1] hm hs (fun v hm hs => E1 X EV d ci mc ms rt ini cc Q (pc + 3) ls (v.toList ++ r) (cu + c1) (su + s1) hm hs) → E1 X EV d ci mc ms rt ini cc Q pc ls (v1 :: .ref b :: r) cu su hm hs := by
  intro h1 h2 h3 h4
  rw [e_step hd]
  show im_in _ _ _ (i_inv X ci mc ms pc ls (v1 :: .ref b :: r) cu su hm hs idx (fun k => k == 0))
  simp only [i_inv, hk, hy, im_pop, List.nil_append, List.cons_append]
  refine ⟨⟨rfl, ?_, hr, h2, h3⟩, h4⟩
  unfold rcv at h1
  split at h1
  · rename_i ck fs hrd
    subst h1
    exact ⟨_, fs, hrd, ho⟩
  · exact h1.elim
theorem r_isp2 {idx y p1 p2 p3 c1 s1 ci2 nL2 : Nat} {yn : MethodName} {cc2 : ByteArray} {rt2 : Option FieldType} {v1 : Value} {b : Nat} {r : List Value} (hd : decode cc pc = .ok (.invokespecial idx, 3)) (hk : im_mtd ci idx = some (2, y, 2, p1, p2, p3)) (hy : im_mth y = some (ci2, yn, cc2, nL2, rt2, c1, s1)) (hr : r.length ≤ 4) : cu + c1 ≤ mc → su + s1 ≤ ms → CC X EV d y [.ref b, v1] hm hs (fun v hm hs => E1 X EV d ci mc ms rt ini cc Q (pc + 3) ls (v.toList ++ r) (cu + c1) (su + s1) hm hs) → E1 X EV d ci mc ms rt ini cc Q pc ls (v1 :: .ref b :: r) cu su hm hs := by
  intro h2 h3 h4
  rw [e_step hd]
  show im_in _ _ _ (i_inv X ci mc ms pc ls (v1 :: .ref b :: r) cu su hm hs idx (fun k => k == 2 || k == 3 || k == 5))
  simp only [i_inv, hk, hy, im_pop, List.nil_append, List.cons_append]
  exact ⟨⟨rfl, trivial, hr, h2, h3⟩, h4⟩
theorem r_isn2 {idx y p1 p2 p3 c1 s1 ci2 nL2 : Nat} {yn : MethodName} {cc2 : ByteArray} {rt2 : Option FieldType} {v1 : Value} {b : Nat} {r : List Value} (hd : decode cc pc = .ok (.invokespecial idx, 3)) (hk : im_mtd ci idx = some (3, y, 2, p1, p2, p3)) (hy : im_mth y = some (ci2, yn, cc2, nL2, rt2, c1, s1)) (hr : r.length ≤ 4) : cu + c1 ≤ mc → su + s1 ≤ ms → CC X EV d y [.ref b, v1] hm hs (fun v hm hs => E1 X EV d ci mc ms rt ini cc Q (pc + 3) ls (v.toList ++ r) (cu + c1) (su + s1) hm hs) → E1 X EV d ci mc ms rt ini cc Q pc ls (v1 :: .ref b :: r) cu su hm hs := by
  intro h2 h3 h4
  rw [e_step hd]
  show im_in _ _ _ (i_inv X ci mc ms pc ls (v1 :: .ref b :: r) cu su hm hs idx (fun k => k == 2 || k == 3 || k == 5))
  simp only [i_inv, hk, hy, im_pop, List.nil_append, List.cons_append]
  exact ⟨⟨rfl, trivial, hr, h2, h3⟩, h4⟩
theorem r_ist2 {idx y p1 p2 p3 c1 s1 ci2 nL2 : Nat} {yn : MethodName} {cc2 : ByteArray} {rt2 : Option FieldType} {v0 v1 : Value} {r : List Value} (hd : decode cc pc = .ok (.invokestatic idx, 3)) (hk : im_mtd ci idx = some (1, y, 2, p1, p2, p3)) (hy : im_mth y = some (ci2, yn, cc2, nL2, rt2, c1, s1)) (hr : r.length ≤ 4) : cu + c1 ≤ mc → su + s1 ≤ ms → CC X EV d y [v0, v1] hm hs (fun v hm hs => E1 X EV d ci mc ms rt ini cc Q (pc + 3) ls (v.toList ++ r) (cu + c1) (su + s1) hm hs) → E1 X EV d ci mc ms rt ini cc Q pc ls (v1 :: v0 :: r) cu su hm hs := by
  intro h2 h3 h4
  rw [e_step hd]
  show im_in _ _ _ (i_inv X ci mc ms pc ls (v1 :: v0 :: r) cu su hm hs idx (fun k => k == 1 || k == 4 || k == 6 || k == 7 || k == 8))
  simp only [i_inv, hk, hy, im_pop, List.nil_append, List.cons_append]
  exact ⟨⟨rfl, trivial, hr, h2, h3⟩, h4⟩
theorem r_itn2 {idx y p1 p2 p3 c1 s1 ci2 nL2 : Nat} {yn : MethodName} {cc2 : ByteArray} {rt2 : Option FieldType} {v0 v1 : Value} {r : List Value} (hd : decode cc pc = .ok (.invokestatic idx, 3)) (hk : im_mtd ci idx = some (4, y, 2, p1, p2, p3)) (hy : im_mth y = some (ci2, yn, cc2, nL2, rt2, c1, s1)) (hr : r.length ≤ 4) : cu + c1 ≤ mc → su + s1 ≤ ms → CC X EV d y [v0, v1] hm hs (fun v hm hs => E1 X EV d ci mc ms rt ini cc Q (pc + 3) ls (v.toList ++ r) (cu + c1) (su + s1) hm hs) → E1 X EV d ci mc ms rt ini cc Q pc ls (v1 :: v0 :: r) cu su hm hs := by
  intro h2 h3 h4
  rw [e_step hd]
  show im_in _ _ _ (i_inv X ci mc ms pc ls (v1 :: v0 :: r) cu su hm hs idx (fun k => k == 1 || k == 4 || k == 6 || k == 7 || k == 8))
  simp only [i_inv, hk, hy, im_pop, List.nil_append, List.cons_append]
  exact ⟨⟨rfl, trivial, hr, h2, h3⟩, h4⟩
theorem r_iv3 {idx y p1 p2 p3 c1 s1 ci2 nL2 : Nat} {yn : MethodName} {cc2 : ByteArray} {rt2 : Option FieldType} {cj : Nat} {v1 v2 : Value} {b : Nat} {r : List Value} (hd : decode cc pc = .ok (.invokevirtual idx, 3)) (hk : im_mtd ci idx = some (0, y, 3, p1, p2, p3)) (hy : im_mth y = some (ci2, yn, cc2, nL2, rt2, c1, s1)) (ho : im_rok cj y) (hr : r.length ≤ 4) : rcv (im_rd X hm b) cj → cu + c1 ≤ mc → su + s1 ≤ ms → CC X EV d y [.ref b, v1, v2] hm hs (fun v hm hs => E1 X EV d ci mc ms rt ini cc Q (pc + 3) ls (v.toList ++ r) (cu + c1) (su + s1) hm hs) → E1 X EV d ci mc ms rt ini cc Q pc ls (v2 :: v1 :: .ref b :: r) cu su hm hs := by
  intro h1 h2 h3 h4
  rw [e_step hd]
  show im_in _ _ _ (i_inv X ci mc ms pc ls (v2 :: v1 :: .ref b :: r) cu su hm hs idx (fun k => k == 0))
  simp only [i_inv, hk, hy, im_pop, List.nil_append, List.cons_append]
  refine ⟨⟨rfl, ?_, hr, h2, h3⟩, h4⟩
  unfold rcv at h1
  split at h1
  · rename_i ck fs hrd
    subst h1
    exact ⟨_, fs, hrd, ho⟩
  · exact h1.elim
theorem r_isp3 {idx y p1 p2 p3 c1 s1 ci2 nL2 : Nat} {yn : MethodName} {cc2 : ByteArray} {rt2 : Option FieldType} {v1 v2 : Value} {b : Nat} {r : List Value} (hd : decode cc pc = .ok (.invokespecial idx, 3)) (hk : im_mtd ci idx = some (2, y, 3, p1, p2, p3)) (hy : im_mth y = some (ci2, yn, cc2, nL2, rt2, c1, s1)) (hr : r.length ≤ 4) : cu + c1 ≤ mc → su + s1 ≤ ms → CC X EV d y [.ref b, v1, v2] hm hs (fun v hm hs => E1 X EV d ci mc ms rt ini cc Q (pc + 3) ls (v.toList ++ r) (cu + c1) (su + s1) hm hs) → E1 X EV d ci mc ms rt ini cc Q pc ls (v2 :: v1 :: .ref b :: r) cu su hm hs := by
  intro h2 h3 h4
  rw [e_step hd]
  show im_in _ _ _ (i_inv X ci mc ms pc ls (v2 :: v1 :: .ref b :: r) cu su hm hs idx (fun k => k == 2 || k == 3 || k == 5))
  simp only [i_inv, hk, hy, im_pop, List.nil_append, List.cons_append]
  exact ⟨⟨rfl, trivial, hr, h2, h3⟩, h4⟩
theorem r_isn3 {idx y p1 p2 p3 c1 s1 ci2 nL2 : Nat} {yn : MethodName} {cc2 : ByteArray} {rt2 : Option FieldType} {v1 v2 : Value} {b : Nat} {r : List Value} (hd : decode cc pc = .ok (.invokespecial idx, 3)) (hk : im_mtd ci idx = some (3, y, 3, p1, p2, p3)) (hy : im_mth y = some (ci2, yn, cc2, nL2, rt2, c1, s1)) (hr : r.length ≤ 4) : cu + c1 ≤ mc → su + s1 ≤ ms → CC X EV d y [.ref b, v1, v2] hm hs (fun v hm hs => E1 X EV d ci mc ms rt ini cc Q (pc + 3) ls (v.toList ++ r) (cu + c1) (su + s1) hm hs) → E1 X EV d ci mc ms rt ini cc Q pc ls (v2 :: v1 :: .ref b :: r) cu su hm hs := by
  intro h2 h3 h4
  rw [e_step hd]
  show im_in _ _ _ (i_inv X ci mc ms pc ls (v2 :: v1 :: .ref b :: r) cu su hm hs idx (fun k => k == 2 || k == 3 || k == 5))
  simp only [i_inv, hk, hy, im_pop, List.nil_append, List.cons_append]
  exact ⟨⟨rfl, trivial, hr, h2, h3⟩, h4⟩
theorem r_ist3 {idx y p1 p2 p3 c1 s1 ci2 nL2 : Nat} {yn : MethodName} {cc2 : ByteArray} {rt2 : Option FieldType} {v0 v1 v2 : Value} {r : List Value} (hd : decode cc pc = .ok (.invokestatic idx, 3)) (hk : im_mtd ci idx = some (1, y, 3, p1, p2, p3)) (hy : im_mth y = some (ci2, yn, cc2, nL2, rt2, c1, s1)) (hr : r.length ≤ 4) : cu + c1 ≤ mc → su + s1 ≤ ms → CC X EV d y [v0, v1, v2] hm hs (fun v hm hs => E1 X EV d ci mc ms rt ini cc Q (pc + 3) ls (v.toList ++ r) (cu + c1) (su + s1) hm hs) → E1 X EV d ci mc ms rt ini cc Q pc ls (v2 :: v1 :: v0 :: r) cu su hm hs := by
  intro h2 h3 h4
  rw [e_step hd]
  show im_in _ _ _ (i_inv X ci mc ms pc ls (v2 :: v1 :: v0 :: r) cu su hm hs idx (fun k => k == 1 || k == 4 || k == 6 || k == 7 || k == 8))
  simp only [i_inv, hk, hy, im_pop, List.nil_append, List.cons_append]
  exact ⟨⟨rfl, trivial, hr, h2, h3⟩, h4⟩
theorem r_itn3 {idx y p1 p2 p3 c1 s1 ci2 nL2 : Nat} {yn : MethodName} {cc2 : ByteArray} {rt2 : Option FieldType} {v0 v1 v2 : Value} {r : List Value} (hd : decode cc pc = .ok (.invokestatic idx, 3)) (hk : im_mtd ci idx = some (4, y, 3, p1, p2, p3)) (hy : im_mth y = some (ci2, yn, cc2, nL2, rt2, c1, s1)) (hr : r.length ≤ 4) : cu + c1 ≤ mc → su + s1 ≤ ms → CC X EV d y [v0, v1, v2] hm hs (fun v hm hs => E1 X EV d ci mc ms rt ini cc Q (pc + 3) ls (v.toList ++ r) (cu + c1) (su + s1) hm hs) → E1 X EV d ci mc ms rt ini cc Q pc ls (v2 :: v1 :: v0 :: r) cu su hm hs := by
  intro h2 h3 h4
  rw [e_step hd]
  show im_in _ _ _ (i_inv X ci mc ms pc ls (v2 :: v1 :: v0 :: r) cu su hm hs idx (fun k => k == 1 || k == 4 || k == 6 || k == 7 || k == 8))
  simp only [i_inv, hk, hy, im_pop, List.nil_append, List.cons_append]
  exact ⟨⟨rfl, trivial, hr, h2, h3⟩, h4⟩
theorem r_iv4 {idx y p1 p2 p3 c1 s1 ci2 nL2 : Nat} {yn : MethodName} {cc2 : ByteArray} {rt2 : Option FieldType} {cj : Nat} {v1 v2 v3 : Value} {b : Nat} {r : List Value} (hd : decode cc pc = .ok (.invokevirtual idx, 3)) (hk : im_mtd ci idx = some (0, y, 4, p1, p2, p3)) (hy : im_mth y = some (ci2, yn, cc2, nL2, rt2, c1, s1)) (ho : im_rok cj y) (hr : r.length ≤ 4) : rcv (im_rd X hm b) cj → cu + c1 ≤ mc → su + s1 ≤ ms → CC X EV d y [.ref b, v1, v2, v3] hm hs (fun v hm hs => E1 X EV d ci mc ms rt ini cc Q (pc + 3) ls (v.toList ++ r) (cu + c1) (su + s1) hm hs) → E1 X EV d ci mc ms rt ini cc Q pc ls (v3 :: v2 :: v1 :: .ref b :: r) cu su hm hs := by
  intro h1 h2 h3 h4
  rw [e_step hd]
  show im_in _ _ _ (i_inv X ci mc ms pc ls (v3 :: v2 :: v1 :: .ref b :: r) cu su hm hs idx (fun k => k == 0))
  simp only [i_inv, hk, hy, im_pop, List.nil_append, List.cons_append]
  refine ⟨⟨rfl, ?_, hr, h2, h3⟩, h4⟩
  unfold rcv at h1
  split at h1
  · rename_i ck fs hrd
    subst h1
    exact ⟨_, fs, hrd, ho⟩
  · exact h1.elim
theorem r_isp4 {idx y p1 p2 p3 c1 s1 ci2 nL2 : Nat} {yn : MethodName} {cc2 : ByteArray} {rt2 : Option FieldType} {v1 v2 v3 : Value} {b : Nat} {r : List Value} (hd : decode cc pc = .ok (.invokespecial idx, 3)) (hk : im_mtd ci idx = some (2, y, 4, p1, p2, p3)) (hy : im_mth y = some (ci2, yn, cc2, nL2, rt2, c1, s1)) (hr : r.length ≤ 4) : cu + c1 ≤ mc → su + s1 ≤ ms → CC X EV d y [.ref b, v1, v2, v3] hm hs (fun v hm hs => E1 X EV d ci mc ms rt ini cc Q (pc + 3) ls (v.toList ++ r) (cu + c1) (su + s1) hm hs) → E1 X EV d ci mc ms rt ini cc Q pc ls (v3 :: v2 :: v1 :: .ref b :: r) cu su hm hs := by
  intro h2 h3 h4
  rw [e_step hd]
  show im_in _ _ _ (i_inv X ci mc ms pc ls (v3 :: v2 :: v1 :: .ref b :: r) cu su hm hs idx (fun k => k == 2 || k == 3 || k == 5))
  simp only [i_inv, hk, hy, im_pop, List.nil_append, List.cons_append]
  exact ⟨⟨rfl, trivial, hr, h2, h3⟩, h4⟩
theorem r_isn4 {idx y p1 p2 p3 c1 s1 ci2 nL2 : Nat} {yn : MethodName} {cc2 : ByteArray} {rt2 : Option FieldType} {v1 v2 v3 : Value} {b : Nat} {r : List Value} (hd : decode cc pc = .ok (.invokespecial idx, 3)) (hk : im_mtd ci idx = some (3, y, 4, p1, p2, p3)) (hy : im_mth y = some (ci2, yn, cc2, nL2, rt2, c1, s1)) (hr : r.length ≤ 4) : cu + c1 ≤ mc → su + s1 ≤ ms → CC X EV d y [.ref b, v1, v2, v3] hm hs (fun v hm hs => E1 X EV d ci mc ms rt ini cc Q (pc + 3) ls (v.toList ++ r) (cu + c1) (su + s1) hm hs) → E1 X EV d ci mc ms rt ini cc Q pc ls (v3 :: v2 :: v1 :: .ref b :: r) cu su hm hs := by
  intro h2 h3 h4
  rw [e_step hd]
  show im_in _ _ _ (i_inv X ci mc ms pc ls (v3 :: v2 :: v1 :: .ref b :: r) cu su hm hs idx (fun k => k == 2 || k == 3 || k == 5))
  simp only [i_inv, hk, hy, im_pop, List.nil_append, List.cons_append]
  exact ⟨⟨rfl, trivial, hr, h2, h3⟩, h4⟩
theorem r_ist4 {idx y p1 p2 p3 c1 s1 ci2 nL2 : Nat} {yn : MethodName} {cc2 : ByteArray} {rt2 : Option FieldType} {v0 v1 v2 v3 : Value} {r : List Value} (hd : decode cc pc = .ok (.invokestatic idx, 3)) (hk : im_mtd ci idx = some (1, y, 4, p1, p2, p3)) (hy : im_mth y = some (ci2, yn, cc2, nL2, rt2, c1, s1)) (hr : r.length ≤ 4) : cu + c1 ≤ mc → su + s1 ≤ ms → CC X EV d y [v0, v1, v2, v3] hm hs (fun v hm hs => E1 X EV d ci mc ms rt ini cc Q (pc + 3) ls (v.toList ++ r) (cu + c1) (su + s1) hm hs) → E1 X EV d ci mc ms rt ini cc Q pc ls (v3 :: v2 :: v1 :: v0 :: r) cu su hm hs := by
  intro h2 h3 h4
  rw [e_step hd]
  show im_in _ _ _ (i_inv X ci mc ms pc ls (v3 :: v2 :: v1 :: v0 :: r) cu su hm hs idx (fun k => k == 1 || k == 4 || k == 6 || k == 7 || k == 8))
  simp only [i_inv, hk, hy, im_pop, List.nil_append, List.cons_append]
  exact ⟨⟨rfl, trivial, hr, h2, h3⟩, h4⟩
theorem r_itn4 {idx y p1 p2 p3 c1 s1 ci2 nL2 : Nat} {yn : MethodName} {cc2 : ByteArray} {rt2 : Option FieldType} {v0 v1 v2 v3 : Value} {r : List Value} (hd : decode cc pc = .ok (.invokestatic idx, 3)) (hk : im_mtd ci idx = some (4, y, 4, p1, p2, p3)) (hy : im_mth y = some (ci2, yn, cc2, nL2, rt2, c1, s1)) (hr : r.length ≤ 4) : cu + c1 ≤ mc → su + s1 ≤ ms → CC X EV d y [v0, v1, v2, v3] hm hs (fun v hm hs => E1 X EV d ci mc ms rt ini cc Q (pc + 3) ls (v.toList ++ r) (cu + c1) (su + s1) hm hs) → E1 X EV d ci mc ms rt ini cc Q pc ls (v3 :: v2 :: v1 :: v0 :: r) cu su hm hs := by
  intro h2 h3 h4
  rw [e_step hd]
  show im_in _ _ _ (i_inv X ci mc ms pc ls (v3 :: v2 :: v1 :: v0 :: r) cu su hm hs idx (fun k => k == 1 || k == 4 || k == 6 || k == 7 || k == 8))
  simp only [i_inv, hk, hy, im_pop, List.nil_append, List.cons_append]
  exact ⟨⟨rfl, trivial, hr, h2, h3⟩, h4⟩
theorem r_iv5 {idx y p1 p2 p3 c1 s1 ci2 nL2 : Nat} {yn : MethodName} {cc2 : ByteArray} {rt2 : Option FieldType} {cj : Nat} {v1 v2 v3 v4 : Value} {b : Nat} {r : List Value} (hd : decode cc pc = .ok (.invokevirtual idx, 3)) (hk : im_mtd ci idx = some (0, y, 5, p1, p2, p3)) (hy : im_mth y = some (ci2, yn, cc2, nL2, rt2, c1, s1)) (ho : im_rok cj y) (hr : r.length ≤ 4) : rcv (im_rd X hm b) cj → cu + c1 ≤ mc → su + s1 ≤ ms → CC X EV d y [.ref b, v1, v2, v3, v4] hm hs (fun v hm hs => E1 X EV d ci mc ms rt ini cc Q (pc + 3) ls (v.toList ++ r) (cu + c1) (su + s1) hm hs) → E1 X EV d ci mc ms rt ini cc Q pc ls (v4 :: v3 :: v2 :: v1 :: .ref b :: r) cu su hm hs := by
  intro h1 h2 h3 h4
  rw [e_step hd]
  show im_in _ _ _ (i_inv X ci mc ms pc ls (v4 :: v3 :: v2 :: v1 :: .ref b :: r) cu su hm hs idx (fun k => k == 0))
  simp only [i_inv, hk, hy, im_pop, List.nil_append, List.cons_append]
  refine ⟨⟨rfl, ?_, hr, h2, h3⟩, h4⟩
  unfold rcv at h1
  split at h1
  · rename_i ck fs hrd
    subst h1
    exact ⟨_, fs, hrd, ho⟩
  · exact h1.elim
theorem r_isp5 {idx y p1 p2 p3 c1 s1 ci2 nL2 : Nat} {yn : MethodName} {cc2 : ByteArray} {rt2 : Option FieldType} {v1 v2 v3 v4 : Value} {b : Nat} {r : List Value} (hd : decode cc pc = .ok (.invokespecial idx, 3)) (hk : im_mtd ci idx = some (2, y, 5, p1, p2, p3)) (hy : im_mth y = some (ci2, yn, cc2, nL2, rt2, c1, s1)) (hr : r.length ≤ 4) : cu + c1 ≤ mc → su + s1 ≤ ms → CC X EV d y [.ref b, v1, v2, v3, v4] hm hs (fun v hm hs => E1 X EV d ci mc ms rt ini cc Q (pc + 3) ls (v.toList ++ r) (cu + c1) (su + s1) hm hs) → E1 X EV d ci mc ms rt ini cc Q pc ls (v4 :: v3 :: v2 :: v1 :: .ref b :: r) cu su hm hs := by
  intro h2 h3 h4
  rw [e_step hd]
  show im_in _ _ _ (i_inv X ci mc ms pc ls (v4 :: v3 :: v2 :: v1 :: .ref b :: r) cu su hm hs idx (fun k => k == 2 || k == 3 || k == 5))
  simp only [i_inv, hk, hy, im_pop, List.nil_append, List.cons_append]
  exact ⟨⟨rfl, trivial, hr, h2, h3⟩, h4⟩
theorem r_isn5 {idx y p1 p2 p3 c1 s1 ci2 nL2 : Nat} {yn : MethodName} {cc2 : ByteArray} {rt2 : Option FieldType} {v1 v2 v3 v4 : Value} {b : Nat} {r : List Value} (hd : decode cc pc = .ok (.invokespecial idx, 3)) (hk : im_mtd ci idx = some (3, y, 5, p1, p2, p3)) (hy : im_mth y = some (ci2, yn, cc2, nL2, rt2, c1, s1)) (hr : r.length ≤ 4) : cu + c1 ≤ mc → su + s1 ≤ ms → CC X EV d y [.ref b, v1, v2, v3, v4] hm hs (fun v hm hs => E1 X EV d ci mc ms rt ini cc Q (pc + 3) ls (v.toList ++ r) (cu + c1) (su + s1) hm hs) → E1 X EV d ci mc ms rt ini cc Q pc ls (v4 :: v3 :: v2 :: v1 :: .ref b :: r) cu su hm hs := by
  intro h2 h3 h4
  rw [e_step hd]
  show im_in _ _ _ (i_inv X ci mc ms pc ls (v4 :: v3 :: v2 :: v1 :: .ref b :: r) cu su hm hs idx (fun k => k == 2 || k == 3 || k == 5))
  simp only [i_inv, hk, hy, im_pop, List.nil_append, List.cons_append]
  exact ⟨⟨rfl, trivial, hr, h2, h3⟩, h4⟩
theorem r_iv6 {idx y p1 p2 p3 c1 s1 ci2 nL2 : Nat} {yn : MethodName} {cc2 : ByteArray} {rt2 : Option FieldType} {cj : Nat} {v1 v2 v3 v4 v5 : Value} {b : Nat} {r : List Value} (hd : decode cc pc = .ok (.invokevirtual idx, 3)) (hk : im_mtd ci idx = some (0, y, 6, p1, p2, p3)) (hy : im_mth y = some (ci2, yn, cc2, nL2, rt2, c1, s1)) (ho : im_rok cj y) (hr : r.length ≤ 4) : rcv (im_rd X hm b) cj → cu + c1 ≤ mc → su + s1 ≤ ms → CC X EV d y [.ref b, v1, v2, v3, v4, v5] hm hs (fun v hm hs => E1 X EV d ci mc ms rt ini cc Q (pc + 3) ls (v.toList ++ r) (cu + c1) (su + s1) hm hs) → E1 X EV d ci mc ms rt ini cc Q pc ls (v5 :: v4 :: v3 :: v2 :: v1 :: .ref b :: r) cu su hm hs := by
  intro h1 h2 h3 h4
  rw [e_step hd]
  show im_in _ _ _ (i_inv X ci mc ms pc ls (v5 :: v4 :: v3 :: v2 :: v1 :: .ref b :: r) cu su hm hs idx (fun k => k == 0))
  simp only [i_inv, hk, hy, im_pop, List.nil_append, List.cons_append]
  refine ⟨⟨rfl, ?_, hr, h2, h3⟩, h4⟩
  unfold rcv at h1
  split at h1
  · rename_i ck fs hrd
    subst h1
    exact ⟨_, fs, hrd, ho⟩
  · exact h1.elim
theorem r_isp6 {idx y p1 p2 p3 c1 s1 ci2 nL2 : Nat} {yn : MethodName} {cc2 : ByteArray} {rt2 : Option FieldType} {v1 v2 v3 v4 v5 : Value} {b : Nat} {r : List Value} (hd : decode cc pc = .ok (.invokespecial idx, 3)) (hk : im_mtd ci idx = some (2, y, 6, p1, p2, p3)) (hy : im_mth y = some (ci2, yn, cc2, nL2, rt2, c1, s1)) (hr : r.length ≤ 4) : cu + c1 ≤ mc → su + s1 ≤ ms → CC X EV d y [.ref b, v1, v2, v3, v4, v5] hm hs (fun v hm hs => E1 X EV d ci mc ms rt ini cc Q (pc + 3) ls (v.toList ++ r) (cu + c1) (su + s1) hm hs) → E1 X EV d ci mc ms rt ini cc Q pc ls (v5 :: v4 :: v3 :: v2 :: v1 :: .ref b :: r) cu su hm hs := by
  intro h2 h3 h4
  rw [e_step hd]
  show im_in _ _ _ (i_inv X ci mc ms pc ls (v5 :: v4 :: v3 :: v2 :: v1 :: .ref b :: r) cu su hm hs idx (fun k => k == 2 || k == 3 || k == 5))
  simp only [i_inv, hk, hy, im_pop, List.nil_append, List.cons_append]
  exact ⟨⟨rfl, trivial, hr, h2, h3⟩, h4⟩
theorem r_isn6 {idx y p1 p2 p3 c1 s1 ci2 nL2 : Nat} {yn : MethodName} {cc2 : ByteArray} {rt2 : Option FieldType} {v1 v2 v3 v4 v5 : Value} {b : Nat} {r : List Value} (hd : decode cc pc = .ok (.invokespecial idx, 3)) (hk : im_mtd ci idx = some (3, y, 6, p1, p2, p3)) (hy : im_mth y = some (ci2, yn, cc2, nL2, rt2, c1, s1)) (hr : r.length ≤ 4) : cu + c1 ≤ mc → su + s1 ≤ ms → CC X EV d y [.ref b, v1, v2, v3, v4, v5] hm hs (fun v hm hs => E1 X EV d ci mc ms rt ini cc Q (pc + 3) ls (v.toList ++ r) (cu + c1) (su + s1) hm hs) → E1 X EV d ci mc ms rt ini cc Q pc ls (v5 :: v4 :: v3 :: v2 :: v1 :: .ref b :: r) cu su hm hs := by
  intro h2 h3 h4
  rw [e_step hd]
  show im_in _ _ _ (i_inv X ci mc ms pc ls (v5 :: v4 :: v3 :: v2 :: v1 :: .ref b :: r) cu su hm hs idx (fun k => k == 2 || k == 3 || k == 5))
  simp only [i_inv, hk, hy, im_pop, List.nil_append, List.cons_append]
  exact ⟨⟨rfl, trivial, hr, h2, h3⟩, h4⟩
theorem r_obj {idx y n p1 p2 p3 a : Nat} {r : List Value} (hd : decode cc pc = .ok (.invokespecial idx, 3)) (hk : im_mtd ci idx = some (5, y, n, p1, p2, p3)) (hr : r.length ≤ 4) : E1 X EV d ci mc ms rt ini cc Q pc ls (.ref a :: r) cu su hm hs = E1 X EV d ci mc ms rt ini cc Q (pc + 3) ls r cu su hm hs := by
  rw [e_step hd]
  show im_in _ _ _ (i_inv X ci mc ms pc ls (.ref a :: r) cu su hm hs idx (fun k => k == 2 || k == 3 || k == 5)) = _
  simp only [i_inv, hk]
  exact propext ⟨fun h => h.2, fun h => ⟨⟨rfl, hr⟩, h⟩⟩
theorem r_max {idx y0 n p1 p2 p3 : Nat} {x y : Int32} {r : List Value} (hd : decode cc pc = .ok (.invokestatic idx, 3)) (hk : im_mtd ci idx = some (7, y0, n, p1, p2, p3)) (hr : r.length ≤ 4) (h2 : cu ≤ mc) (h3 : su ≤ ms) : E1 X EV d ci mc ms rt ini cc Q pc ls (.int y :: .int x :: r) cu su hm hs = E1 X EV d ci mc ms rt ini cc Q (pc + 3) ls (.int (if x < y then y else x) :: r) cu su hm hs := by
  rw [e_step hd]
  show im_in _ _ _ (i_inv X ci mc ms pc ls (.int y :: .int x :: r) cu su hm hs idx (fun k => k == 1 || k == 4 || k == 6 || k == 7 || k == 8)) = _
  simp only [i_inv, hk]
  exact propext ⟨fun h => h.2, fun h => ⟨⟨rfl, hr, h2, h3⟩, h⟩⟩
theorem r_min {idx y0 n p1 p2 p3 : Nat} {x y : Int32} {r : List Value} (hd : decode cc pc = .ok (.invokestatic idx, 3)) (hk : im_mtd ci idx = some (8, y0, n, p1, p2, p3)) (hr : r.length ≤ 4) (h2 : cu ≤ mc) (h3 : su ≤ ms) : E1 X EV d ci mc ms rt ini cc Q pc ls (.int y :: .int x :: r) cu su hm hs = E1 X EV d ci mc ms rt ini cc Q (pc + 3) ls (.int (if y < x then y else x) :: r) cu su hm hs := by
  rw [e_step hd]
  show im_in _ _ _ (i_inv X ci mc ms pc ls (.int y :: .int x :: r) cu su hm hs idx (fun k => k == 1 || k == 4 || k == 6 || k == 7 || k == 8)) = _
  simp only [i_inv, hk]
  exact propext ⟨fun h => h.2, fun h => ⟨⟨rfl, hr, h2, h3⟩, h⟩⟩
theorem r_copy {idx y n0 p1 p2 p3 a b : Nat} {n sp dp : Int32} {r : List Value} (hd : decode cc pc = .ok (.invokestatic idx, 3)) (hk : im_mtd ci idx = some (6, y, n0, p1, p2, p3)) (hr : r.length ≤ 4) : E1 X EV d ci mc ms rt ini cc Q pc ls (.int n :: .int dp :: .ref b :: .int sp :: .ref a :: r) cu su hm hs = cpI (hm a) (hm b) sp dp n (fun c => E1 X EV d ci mc ms rt ini cc Q (pc + 3) ls r cu su (im_up hm b c) hs) := by
  rw [e_step hd]
  show im_in _ _ _ (i_inv X ci mc ms pc ls (.int n :: .int dp :: .ref b :: .int sp :: .ref a :: r) cu su hm hs idx (fun k => k == 1 || k == 4 || k == 6 || k == 7 || k == 8)) = _
  simp only [i_inv, hk]
  show im_in _ _ _ (i_copy pc ls (.int n :: .int dp :: .ref b :: .int sp :: .ref a :: r) cu su hm hs) = _
  simp only [i_copy]
  generalize hm a = c0
  generalize hm b = c1
  unfold cpI
  split
  · exact propext ⟨fun h => ⟨⟨h.1.1, h.1.2.1, h.1.2.2.1⟩, h.2⟩, fun h => ⟨⟨h.1.1, h.1.2.1, h.1.2.2, hr⟩, h.2⟩⟩
  · rename_i hne
    split
    · first | exact (hne _ _ rfl).elim | exact (hne _ _ _ rfl).elim | exact (hne _ _ _ _ rfl rfl).elim | exact (hne _ _ _ _ _ rfl rfl).elim
    · exact propext ⟨fun h => h.1, fun h => h.elim⟩
theorem r_iret {v : Int32} (hd : decode cc pc = .ok (.ireturn, 1)) (h2 : cu ≤ mc) (h3 : su ≤ ms) : E1 X EV d ci mc ms (some .int) ini cc Q pc ls [.int v] cu su hm hs = Q (some (.int v)) hm hs := (e_step hd).trans (propext ⟨fun h => h.2, fun h => ⟨⟨rfl, h2, h3⟩, h⟩⟩)
theorem r_zret0 (hd : decode cc pc = .ok (.ireturn, 1)) (h2 : cu ≤ mc) (h3 : su ≤ ms) : E1 X EV d ci mc ms (some .boolean) ini cc Q pc ls [.int 0] cu su hm hs = Q (some (.int 0)) hm hs := (e_step hd).trans (propext ⟨fun h => h.2, fun h => ⟨⟨rfl, h2, h3⟩, h⟩⟩)
theorem r_zret1 (hd : decode cc pc = .ok (.ireturn, 1)) (h2 : cu ≤ mc) (h3 : su ≤ ms) : E1 X EV d ci mc ms (some .boolean) ini cc Q pc ls [.int 1] cu su hm hs = Q (some (.int 1)) hm hs := (e_step hd).trans (propext ⟨fun h => h.2, fun h => ⟨⟨rfl, h2, h3⟩, h⟩⟩)
theorem r_zretc {c : Prop} [Decidable c] (hd : decode cc pc = .ok (.ireturn, 1)) (h2 : cu ≤ mc) (h3 : su ≤ ms) : E1 X EV d ci mc ms (some .boolean) ini cc Q pc ls [.int (if c then 1 else 0)] cu su hm hs = Q (some (.int (if c then 1 else 0))) hm hs := (e_step hd).trans (propext ⟨fun h => h.2, fun h => ⟨⟨by by_cases hc : c <;> simp only [hc, if_true, if_false] <;> rfl, h2, h3⟩, h⟩⟩)
theorem r_nret {ty : FieldType} {v : Int32} (hd : decode cc pc = .ok (.ireturn, 1)) (h2 : cu ≤ mc) (h3 : su ≤ ms) : E1 X EV d ci mc ms (some ty) ini cc Q pc ls [.int v] cu su hm hs = (narrow ty (.int v) = .int v ∧ Q (some (.int v)) hm hs) := (e_step hd).trans (propext ⟨fun h => ⟨h.1.1, h.2⟩, fun h => ⟨⟨h.1, h2, h3⟩, h.2⟩⟩)
theorem r_lret {v : Int64} (hd : decode cc pc = .ok (.lreturn, 1)) (h2 : cu ≤ mc) (h3 : su ≤ ms) : E1 X EV d ci mc ms (some .long) ini cc Q pc ls [.long v] cu su hm hs = Q (some (.long v)) hm hs := (e_step hd).trans (propext ⟨fun h => h.2, fun h => ⟨⟨h2, h3⟩, h⟩⟩)
theorem r_fret {v : UInt32} (hd : decode cc pc = .ok (.freturn, 1)) (h2 : cu ≤ mc) (h3 : su ≤ ms) : E1 X EV d ci mc ms (some .float) ini cc Q pc ls [.float v] cu su hm hs = Q (some (.float v)) hm hs := (e_step hd).trans (propext ⟨fun h => h.2, fun h => ⟨⟨h2, h3⟩, h⟩⟩)
theorem r_vret (hd : decode cc pc = .ok (.return_, 1)) (h2 : cu ≤ mc) (h3 : su ≤ ms) : E1 X EV d ci mc ms none ini cc Q pc ls [] cu su hm hs = Q none hm hs := (e_step hd).trans (propext ⟨fun h => h.2, fun h => ⟨⟨h2, h3⟩, h⟩⟩)
/-- a call of a method: its body -/
theorem c_of {y ci2 nL mc2 ms2 : Nat} {yn : MethodName} {cc2 : ByteArray} {rt2 : Option FieldType} {as ls2 : List Value} (hy : im_mth y = some (ci2, yn, cc2, nL, rt2, mc2, ms2)) (hl : (im_ent1 as).length ≤ nL) (hls : im_ent nL as = ls2) {ini : Bool} (hini : (yn.name == "<init>") = ini) (h : E1 X EV d ci2 mc2 ms2 rt2 ini cc2 Q 0 ls2 [] 0 0 hm hs) : CC X EV (d + 1) y as hm hs Q := by
  unfold CC
  rw [hy]
  subst hls
  subst hini
  exact ⟨hl, h⟩
theorem c_mono {y : Nat} {as : List Value} {Q' : QT} (h : CC X EV d y as hm hs Q) (hq : ∀ r hm hs, Q r hm hs → Q' r hm hs) : CC X EV d y as hm hs Q' := CC_mono X EV d y as hm hs Q Q' hq h
end RU
theorem gx0_0 {f0 f1 f2 f3 f4 : Value} {K : Value → Prop} : gF (some (.inr (0, [f0, f1, f2, f3, f4]))) 0 0 K = K f0 := propext ⟨fun h => h.2, fun h => ⟨rfl, h⟩⟩
theorem px0_0 {f0 f1 f2 f3 f4 v : Value} {ok : Prop} {K : HC → Prop} : pF (some (.inr (0, [f0, f1, f2, f3, f4]))) 0 0 ok v K = (ok ∧ K (.inr (0, [v, f1, f2, f3, f4]))) := propext ⟨fun h => ⟨h.1.2.2, h.2⟩, fun h => ⟨⟨rfl, by simp, h.1⟩, h.2⟩⟩
theorem gx0_1 {f0 f1 f2 f3 f4 : Value} {K : Value → Prop} : gF (some (.inr (0, [f0, f1, f2, f3, f4]))) 0 1 K = K f1 := propext ⟨fun h => h.2, fun h => ⟨rfl, h⟩⟩
theorem px0_1 {f0 f1 f2 f3 f4 v : Value} {ok : Prop} {K : HC → Prop} : pF (some (.inr (0, [f0, f1, f2, f3, f4]))) 0 1 ok v K = (ok ∧ K (.inr (0, [f0, v, f2, f3, f4]))) := propext ⟨fun h => ⟨h.1.2.2, h.2⟩, fun h => ⟨⟨rfl, by simp, h.1⟩, h.2⟩⟩
theorem gx0_2 {f0 f1 f2 f3 f4 : Value} {K : Value → Prop} : gF (some (.inr (0, [f0, f1, f2, f3, f4]))) 0 2 K = K f2 := propext ⟨fun h => h.2, fun h => ⟨rfl, h⟩⟩
theorem px0_2 {f0 f1 f2 f3 f4 v : Value} {ok : Prop} {K : HC → Prop} : pF (some (.inr (0, [f0, f1, f2, f3, f4]))) 0 2 ok v K = (ok ∧ K (.inr (0, [f0, f1, v, f3, f4]))) := propext ⟨fun h => ⟨h.1.2.2, h.2⟩, fun h => ⟨⟨rfl, by simp, h.1⟩, h.2⟩⟩
theorem gx0_3 {f0 f1 f2 f3 f4 : Value} {K : Value → Prop} : gF (some (.inr (0, [f0, f1, f2, f3, f4]))) 0 3 K = K f3 := propext ⟨fun h => h.2, fun h => ⟨rfl, h⟩⟩
theorem px0_3 {f0 f1 f2 f3 f4 v : Value} {ok : Prop} {K : HC → Prop} : pF (some (.inr (0, [f0, f1, f2, f3, f4]))) 0 3 ok v K = (ok ∧ K (.inr (0, [f0, f1, f2, v, f4]))) := propext ⟨fun h => ⟨h.1.2.2, h.2⟩, fun h => ⟨⟨rfl, by simp, h.1⟩, h.2⟩⟩
theorem gx0_4 {f0 f1 f2 f3 f4 : Value} {K : Value → Prop} : gF (some (.inr (0, [f0, f1, f2, f3, f4]))) 0 4 K = K f4 := propext ⟨fun h => h.2, fun h => ⟨rfl, h⟩⟩
theorem px0_4 {f0 f1 f2 f3 f4 v : Value} {ok : Prop} {K : HC → Prop} : pF (some (.inr (0, [f0, f1, f2, f3, f4]))) 0 4 ok v K = (ok ∧ K (.inr (0, [f0, f1, f2, f3, v]))) := propext ⟨fun h => ⟨h.1.2.2, h.2⟩, fun h => ⟨⟨rfl, by simp, h.1⟩, h.2⟩⟩
theorem gx1_0 {f0 f1 f2 f3 f4 f5 f6 f7 f8 f9 f10 f11 f12 f13 f14 : Value} {K : Value → Prop} : gF (some (.inr (1, [f0, f1, f2, f3, f4, f5, f6, f7, f8, f9, f10, f11, f12, f13, f14]))) 1 0 K = K f0 := propext ⟨fun h => h.2, fun h => ⟨rfl, h⟩⟩
theorem px1_0 {f0 f1 f2 f3 f4 f5 f6 f7 f8 f9 f10 f11 f12 f13 f14 v : Value} {ok : Prop} {K : HC → Prop} : pF (some (.inr (1, [f0, f1, f2, f3, f4, f5, f6, f7, f8, f9, f10, f11, f12, f13, f14]))) 1 0 ok v K = (ok ∧ K (.inr (1, [v, f1, f2, f3, f4, f5, f6, f7, f8, f9, f10, f11, f12, f13, f14]))) := propext ⟨fun h => ⟨h.1.2.2, h.2⟩, fun h => ⟨⟨rfl, by simp, h.1⟩, h.2⟩⟩
theorem gx1_1 {f0 f1 f2 f3 f4 f5 f6 f7 f8 f9 f10 f11 f12 f13 f14 : Value} {K : Value → Prop} : gF (some (.inr (1, [f0, f1, f2, f3, f4, f5, f6, f7, f8, f9, f10, f11, f12, f13, f14]))) 1 1 K = K f1 := propext ⟨fun h => h.2, fun h => ⟨rfl, h⟩⟩
theorem px1_1 {f0 f1 f2 f3 f4 f5 f6 f7 f8 f9 f10 f11 f12 f13 f14 v : Value} {ok : Prop} {K : HC → Prop} : pF (some (.inr (1, [f0, f1, f2, f3, f4, f5, f6, f7, f8, f9, f10, f11, f12, f13, f14]))) 1 1 ok v K = (ok ∧ K (.inr (1, [f0, v, f2, f3, f4, f5, f6, f7, f8, f9, f10, f11, f12, f13, f14]))) := propext ⟨fun h => ⟨h.1.2.2, h.2⟩, fun h => ⟨⟨rfl, by simp, h.1⟩, h.2⟩⟩
theorem gx1_2 {f0 f1 f2 f3 f4 f5 f6 f7 f8 f9 f10 f11 f12 f13 f14 : Value} {K : Value → Prop} : gF (some (.inr (1, [f0, f1, f2, f3, f4, f5, f6, f7, f8, f9, f10, f11, f12, f13, f14]))) 1 2 K = K f2 := propext ⟨fun h => h.2, fun h => ⟨rfl, h⟩⟩
theorem px1_2 {f0 f1 f2 f3 f4 f5 f6 f7 f8 f9 f10 f11 f12 f13 f14 v : Value} {ok : Prop} {K : HC → Prop} : pF (some (.inr (1, [f0, f1, f2, f3, f4, f5, f6, f7, f8, f9, f10, f11, f12, f13, f14]))) 1 2 ok v K = (ok ∧ K (.inr (1, [f0, f1, v, f3, f4, f5, f6, f7, f8, f9, f10, f11, f12, f13, f14]))) := propext ⟨fun h => ⟨h.1.2.2, h.2⟩, fun h => ⟨⟨rfl, by simp, h.1⟩, h.2⟩⟩
theorem gx1_3 {f0 f1 f2 f3 f4 f5 f6 f7 f8 f9 f10 f11 f12 f13 f14 : Value} {K : Value → Prop} : gF (some (.inr (1, [f0, f1, f2, f3, f4, f5, f6, f7, f8, f9, f10, f11, f12, f13, f14]))) 1 3 K = K f3 := propext ⟨fun h => h.2, fun h => ⟨rfl, h⟩⟩
theorem px1_3 {f0 f1 f2 f3 f4 f5 f6 f7 f8 f9 f10 f11 f12 f13 f14 v : Value} {ok : Prop} {K : HC → Prop} : pF (some (.inr (1, [f0, f1, f2, f3, f4, f5, f6, f7, f8, f9, f10, f11, f12, f13, f14]))) 1 3 ok v K = (ok ∧ K (.inr (1, [f0, f1, f2, v, f4, f5, f6, f7, f8, f9, f10, f11, f12, f13, f14]))) := propext ⟨fun h => ⟨h.1.2.2, h.2⟩, fun h => ⟨⟨rfl, by simp, h.1⟩, h.2⟩⟩
theorem gx1_4 {f0 f1 f2 f3 f4 f5 f6 f7 f8 f9 f10 f11 f12 f13 f14 : Value} {K : Value → Prop} : gF (some (.inr (1, [f0, f1, f2, f3, f4, f5, f6, f7, f8, f9, f10, f11, f12, f13, f14]))) 1 4 K = K f4 := propext ⟨fun h => h.2, fun h => ⟨rfl, h⟩⟩
theorem px1_4 {f0 f1 f2 f3 f4 f5 f6 f7 f8 f9 f10 f11 f12 f13 f14 v : Value} {ok : Prop} {K : HC → Prop} : pF (some (.inr (1, [f0, f1, f2, f3, f4, f5, f6, f7, f8, f9, f10, f11, f12, f13, f14]))) 1 4 ok v K = (ok ∧ K (.inr (1, [f0, f1, f2, f3, v, f5, f6, f7, f8, f9, f10, f11, f12, f13, f14]))) := propext ⟨fun h => ⟨h.1.2.2, h.2⟩, fun h => ⟨⟨rfl, by simp, h.1⟩, h.2⟩⟩
theorem gx1_5 {f0 f1 f2 f3 f4 f5 f6 f7 f8 f9 f10 f11 f12 f13 f14 : Value} {K : Value → Prop} : gF (some (.inr (1, [f0, f1, f2, f3, f4, f5, f6, f7, f8, f9, f10, f11, f12, f13, f14]))) 1 5 K = K f5 := propext ⟨fun h => h.2, fun h => ⟨rfl, h⟩⟩
theorem px1_5 {f0 f1 f2 f3 f4 f5 f6 f7 f8 f9 f10 f11 f12 f13 f14 v : Value} {ok : Prop} {K : HC → Prop} : pF (some (.inr (1, [f0, f1, f2, f3, f4, f5, f6, f7, f8, f9, f10, f11, f12, f13, f14]))) 1 5 ok v K = (ok ∧ K (.inr (1, [f0, f1, f2, f3, f4, v, f6, f7, f8, f9, f10, f11, f12, f13, f14]))) := propext ⟨fun h => ⟨h.1.2.2, h.2⟩, fun h => ⟨⟨rfl, by simp, h.1⟩, h.2⟩⟩
theorem gx1_6 {f0 f1 f2 f3 f4 f5 f6 f7 f8 f9 f10 f11 f12 f13 f14 : Value} {K : Value → Prop} : gF (some (.inr (1, [f0, f1, f2, f3, f4, f5, f6, f7, f8, f9, f10, f11, f12, f13, f14]))) 1 6 K = K f6 := propext ⟨fun h => h.2, fun h => ⟨rfl, h⟩⟩
theorem px1_6 {f0 f1 f2 f3 f4 f5 f6 f7 f8 f9 f10 f11 f12 f13 f14 v : Value} {ok : Prop} {K : HC → Prop} : pF (some (.inr (1, [f0, f1, f2, f3, f4, f5, f6, f7, f8, f9, f10, f11, f12, f13, f14]))) 1 6 ok v K = (ok ∧ K (.inr (1, [f0, f1, f2, f3, f4, f5, v, f7, f8, f9, f10, f11, f12, f13, f14]))) := propext ⟨fun h => ⟨h.1.2.2, h.2⟩, fun h => ⟨⟨rfl, by simp, h.1⟩, h.2⟩⟩
theorem gx1_7 {f0 f1 f2 f3 f4 f5 f6 f7 f8 f9 f10 f11 f12 f13 f14 : Value} {K : Value → Prop} : gF (some (.inr (1, [f0, f1, f2, f3, f4, f5, f6, f7, f8, f9, f10, f11, f12, f13, f14]))) 1 7 K = K f7 := propext ⟨fun h => h.2, fun h => ⟨rfl, h⟩⟩
theorem px1_7 {f0 f1 f2 f3 f4 f5 f6 f7 f8 f9 f10 f11 f12 f13 f14 v : Value} {ok : Prop} {K : HC → Prop} : pF (some (.inr (1, [f0, f1, f2, f3, f4, f5, f6, f7, f8, f9, f10, f11, f12, f13, f14]))) 1 7 ok v K = (ok ∧ K (.inr (1, [f0, f1, f2, f3, f4, f5, f6, v, f8, f9, f10, f11, f12, f13, f14]))) := propext ⟨fun h => ⟨h.1.2.2, h.2⟩, fun h => ⟨⟨rfl, by simp, h.1⟩, h.2⟩⟩
theorem gx1_8 {f0 f1 f2 f3 f4 f5 f6 f7 f8 f9 f10 f11 f12 f13 f14 : Value} {K : Value → Prop} : gF (some (.inr (1, [f0, f1, f2, f3, f4, f5, f6, f7, f8, f9, f10, f11, f12, f13, f14]))) 1 8 K = K f8 := propext ⟨fun h => h.2, fun h => ⟨rfl, h⟩⟩
theorem px1_8 {f0 f1 f2 f3 f4 f5 f6 f7 f8 f9 f10 f11 f12 f13 f14 v : Value} {ok : Prop} {K : HC → Prop} : pF (some (.inr (1, [f0, f1, f2, f3, f4, f5, f6, f7, f8, f9, f10, f11, f12, f13, f14]))) 1 8 ok v K = (ok ∧ K (.inr (1, [f0, f1, f2, f3, f4, f5, f6, f7, v, f9, f10, f11, f12, f13, f14]))) := propext ⟨fun h => ⟨h.1.2.2, h.2⟩, fun h => ⟨⟨rfl, by simp, h.1⟩, h.2⟩⟩
theorem gx1_9 {f0 f1 f2 f3 f4 f5 f6 f7 f8 f9 f10 f11 f12 f13 f14 : Value} {K : Value → Prop} : gF (some (.inr (1, [f0, f1, f2, f3, f4, f5, f6, f7, f8, f9, f10, f11, f12, f13, f14]))) 1 9 K = K f9 := propext ⟨fun h => h.2, fun h => ⟨rfl, h⟩⟩
theorem px1_9 {f0 f1 f2 f3 f4 f5 f6 f7 f8 f9 f10 f11 f12 f13 f14 v : Value} {ok : Prop} {K : HC → Prop} : pF (some (.inr (1, [f0, f1, f2, f3, f4, f5, f6, f7, f8, f9, f10, f11, f12, f13, f14]))) 1 9 ok v K = (ok ∧ K (.inr (1, [f0, f1, f2, f3, f4, f5, f6, f7, f8, v, f10, f11, f12, f13, f14]))) := propext ⟨fun h => ⟨h.1.2.2, h.2⟩, fun h => ⟨⟨rfl, by simp, h.1⟩, h.2⟩⟩
theorem gx1_10 {f0 f1 f2 f3 f4 f5 f6 f7 f8 f9 f10 f11 f12 f13 f14 : Value} {K : Value → Prop} : gF (some (.inr (1, [f0, f1, f2, f3, f4, f5, f6, f7, f8, f9, f10, f11, f12, f13, f14]))) 1 10 K = K f10 := propext ⟨fun h => h.2, fun h => ⟨rfl, h⟩⟩
theorem px1_10 {f0 f1 f2 f3 f4 f5 f6 f7 f8 f9 f10 f11 f12 f13 f14 v : Value} {ok : Prop} {K : HC → Prop} : pF (some (.inr (1, [f0, f1, f2, f3, f4, f5, f6, f7, f8, f9, f10, f11, f12, f13, f14]))) 1 10 ok v K = (ok ∧ K (.inr (1, [f0, f1, f2, f3, f4, f5, f6, f7, f8, f9, v, f11, f12, f13, f14]))) := propext ⟨fun h => ⟨h.1.2.2, h.2⟩, fun h => ⟨⟨rfl, by simp, h.1⟩, h.2⟩⟩
theorem gx1_11 {f0 f1 f2 f3 f4 f5 f6 f7 f8 f9 f10 f11 f12 f13 f14 : Value} {K : Value → Prop} : gF (some (.inr (1, [f0, f1, f2, f3, f4, f5, f6, f7, f8, f9, f10, f11, f12, f13, f14]))) 1 11 K = K f11 := propext ⟨fun h => h.2, fun h => ⟨rfl, h⟩⟩
theorem px1_11 {f0 f1 f2 f3 f4 f5 f6 f7 f8 f9 f10 f11 f12 f13 f14 v : Value} {ok : Prop} {K : HC → Prop} : pF (some (.inr (1, [f0, f1, f2, f3, f4, f5, f6, f7, f8, f9, f10, f11, f12, f13, f14]))) 1 11 ok v K = (ok ∧ K (.inr (1, [f0, f1, f2, f3, f4, f5, f6, f7, f8, f9, f10, v, f12, f13, f14]))) := propext ⟨fun h => ⟨h.1.2.2, h.2⟩, fun h => ⟨⟨rfl, by simp, h.1⟩, h.2⟩⟩
theorem gx1_12 {f0 f1 f2 f3 f4 f5 f6 f7 f8 f9 f10 f11 f12 f13 f14 : Value} {K : Value → Prop} : gF (some (.inr (1, [f0, f1, f2, f3, f4, f5, f6, f7, f8, f9, f10, f11, f12, f13, f14]))) 1 12 K = K f12 := propext ⟨fun h => h.2, fun h => ⟨rfl, h⟩⟩
theorem px1_12 {f0 f1 f2 f3 f4 f5 f6 f7 f8 f9 f10 f11 f12 f13 f14 v : Value} {ok : Prop} {K : HC → Prop} : pF (some (.inr (1, [f0, f1, f2, f3, f4, f5, f6, f7, f8, f9, f10, f11, f12, f13, f14]))) 1 12 ok v K = (ok ∧ K (.inr (1, [f0, f1, f2, f3, f4, f5, f6, f7, f8, f9, f10, f11, v, f13, f14]))) := propext ⟨fun h => ⟨h.1.2.2, h.2⟩, fun h => ⟨⟨rfl, by simp, h.1⟩, h.2⟩⟩
theorem gx1_13 {f0 f1 f2 f3 f4 f5 f6 f7 f8 f9 f10 f11 f12 f13 f14 : Value} {K : Value → Prop} : gF (some (.inr (1, [f0, f1, f2, f3, f4, f5, f6, f7, f8, f9, f10, f11, f12, f13, f14]))) 1 13 K = K f13 := propext ⟨fun h => h.2, fun h => ⟨rfl, h⟩⟩
theorem px1_13 {f0 f1 f2 f3 f4 f5 f6 f7 f8 f9 f10 f11 f12 f13 f14 v : Value} {ok : Prop} {K : HC → Prop} : pF (some (.inr (1, [f0, f1, f2, f3, f4, f5, f6, f7, f8, f9, f10, f11, f12, f13, f14]))) 1 13 ok v K = (ok ∧ K (.inr (1, [f0, f1, f2, f3, f4, f5, f6, f7, f8, f9, f10, f11, f12, v, f14]))) := propext ⟨fun h => ⟨h.1.2.2, h.2⟩, fun h => ⟨⟨rfl, by simp, h.1⟩, h.2⟩⟩
theorem gx1_14 {f0 f1 f2 f3 f4 f5 f6 f7 f8 f9 f10 f11 f12 f13 f14 : Value} {K : Value → Prop} : gF (some (.inr (1, [f0, f1, f2, f3, f4, f5, f6, f7, f8, f9, f10, f11, f12, f13, f14]))) 1 14 K = K f14 := propext ⟨fun h => h.2, fun h => ⟨rfl, h⟩⟩
theorem px1_14 {f0 f1 f2 f3 f4 f5 f6 f7 f8 f9 f10 f11 f12 f13 f14 v : Value} {ok : Prop} {K : HC → Prop} : pF (some (.inr (1, [f0, f1, f2, f3, f4, f5, f6, f7, f8, f9, f10, f11, f12, f13, f14]))) 1 14 ok v K = (ok ∧ K (.inr (1, [f0, f1, f2, f3, f4, f5, f6, f7, f8, f9, f10, f11, f12, f13, v]))) := propext ⟨fun h => ⟨h.1.2.2, h.2⟩, fun h => ⟨⟨rfl, by simp, h.1⟩, h.2⟩⟩
theorem gx2_0 {f0 f1 f2 f3 f4 f5 f6 f7 f8 f9 f10 f11 f12 : Value} {K : Value → Prop} : gF (some (.inr (2, [f0, f1, f2, f3, f4, f5, f6, f7, f8, f9, f10, f11, f12]))) 2 0 K = K f0 := propext ⟨fun h => h.2, fun h => ⟨rfl, h⟩⟩
theorem px2_0 {f0 f1 f2 f3 f4 f5 f6 f7 f8 f9 f10 f11 f12 v : Value} {ok : Prop} {K : HC → Prop} : pF (some (.inr (2, [f0, f1, f2, f3, f4, f5, f6, f7, f8, f9, f10, f11, f12]))) 2 0 ok v K = (ok ∧ K (.inr (2, [v, f1, f2, f3, f4, f5, f6, f7, f8, f9, f10, f11, f12]))) := propext ⟨fun h => ⟨h.1.2.2, h.2⟩, fun h => ⟨⟨rfl, by simp, h.1⟩, h.2⟩⟩
theorem gx2_1 {f0 f1 f2 f3 f4 f5 f6 f7 f8 f9 f10 f11 f12 : Value} {K : Value → Prop} : gF (some (.inr (2, [f0, f1, f2, f3, f4, f5, f6, f7, f8, f9, f10, f11, f12]))) 2 1 K = K f1 := propext ⟨fun h => h.2, fun h => ⟨rfl, h⟩⟩
theorem px2_1 {f0 f1 f2 f3 f4 f5 f6 f7 f8 f9 f10 f11 f12 v : Value} {ok : Prop} {K : HC → Prop} : pF (some (.inr (2, [f0, f1, f2, f3, f4, f5, f6, f7, f8, f9, f10, f11, f12]))) 2 1 ok v K = (ok ∧ K (.inr (2, [f0, v, f2, f3, f4, f5, f6, f7, f8, f9, f10, f11, f12]))) := propext ⟨fun h => ⟨h.1.2.2, h.2⟩, fun h => ⟨⟨rfl, by simp, h.1⟩, h.2⟩⟩
theorem gx2_2 {f0 f1 f2 f3 f4 f5 f6 f7 f8 f9 f10 f11 f12 : Value} {K : Value → Prop} : gF (some (.inr (2, [f0, f1, f2, f3, f4, f5, f6, f7, f8, f9, f10, f11, f12]))) 2 2 K = K f2 := propext ⟨fun h => h.2, fun h => ⟨rfl, h⟩⟩
theorem px2_2 {f0 f1 f2 f3 f4 f5 f6 f7 f8 f9 f10 f11 f12 v : Value} {ok : Prop} {K : HC → Prop} : pF (some (.inr (2, [f0, f1, f2, f3, f4, f5, f6, f7, f8, f9, f10, f11, f12]))) 2 2 ok v K = (ok ∧ K (.inr (2, [f0, f1, v, f3, f4, f5, f6, f7, f8, f9, f10, f11, f12]))) := propext ⟨fun h => ⟨h.1.2.2, h.2⟩, fun h => ⟨⟨rfl, by simp, h.1⟩, h.2⟩⟩
theorem gx2_3 {f0 f1 f2 f3 f4 f5 f6 f7 f8 f9 f10 f11 f12 : Value} {K : Value → Prop} : gF (some (.inr (2, [f0, f1, f2, f3, f4, f5, f6, f7, f8, f9, f10, f11, f12]))) 2 3 K = K f3 := propext ⟨fun h => h.2, fun h => ⟨rfl, h⟩⟩
theorem px2_3 {f0 f1 f2 f3 f4 f5 f6 f7 f8 f9 f10 f11 f12 v : Value} {ok : Prop} {K : HC → Prop} : pF (some (.inr (2, [f0, f1, f2, f3, f4, f5, f6, f7, f8, f9, f10, f11, f12]))) 2 3 ok v K = (ok ∧ K (.inr (2, [f0, f1, f2, v, f4, f5, f6, f7, f8, f9, f10, f11, f12]))) := propext ⟨fun h => ⟨h.1.2.2, h.2⟩, fun h => ⟨⟨rfl, by simp, h.1⟩, h.2⟩⟩
theorem gx2_4 {f0 f1 f2 f3 f4 f5 f6 f7 f8 f9 f10 f11 f12 : Value} {K : Value → Prop} : gF (some (.inr (2, [f0, f1, f2, f3, f4, f5, f6, f7, f8, f9, f10, f11, f12]))) 2 4 K = K f4 := propext ⟨fun h => h.2, fun h => ⟨rfl, h⟩⟩
theorem px2_4 {f0 f1 f2 f3 f4 f5 f6 f7 f8 f9 f10 f11 f12 v : Value} {ok : Prop} {K : HC → Prop} : pF (some (.inr (2, [f0, f1, f2, f3, f4, f5, f6, f7, f8, f9, f10, f11, f12]))) 2 4 ok v K = (ok ∧ K (.inr (2, [f0, f1, f2, f3, v, f5, f6, f7, f8, f9, f10, f11, f12]))) := propext ⟨fun h => ⟨h.1.2.2, h.2⟩, fun h => ⟨⟨rfl, by simp, h.1⟩, h.2⟩⟩
theorem gx2_5 {f0 f1 f2 f3 f4 f5 f6 f7 f8 f9 f10 f11 f12 : Value} {K : Value → Prop} : gF (some (.inr (2, [f0, f1, f2, f3, f4, f5, f6, f7, f8, f9, f10, f11, f12]))) 2 5 K = K f5 := propext ⟨fun h => h.2, fun h => ⟨rfl, h⟩⟩
theorem px2_5 {f0 f1 f2 f3 f4 f5 f6 f7 f8 f9 f10 f11 f12 v : Value} {ok : Prop} {K : HC → Prop} : pF (some (.inr (2, [f0, f1, f2, f3, f4, f5, f6, f7, f8, f9, f10, f11, f12]))) 2 5 ok v K = (ok ∧ K (.inr (2, [f0, f1, f2, f3, f4, v, f6, f7, f8, f9, f10, f11, f12]))) := propext ⟨fun h => ⟨h.1.2.2, h.2⟩, fun h => ⟨⟨rfl, by simp, h.1⟩, h.2⟩⟩
theorem gx2_6 {f0 f1 f2 f3 f4 f5 f6 f7 f8 f9 f10 f11 f12 : Value} {K : Value → Prop} : gF (some (.inr (2, [f0, f1, f2, f3, f4, f5, f6, f7, f8, f9, f10, f11, f12]))) 2 6 K = K f6 := propext ⟨fun h => h.2, fun h => ⟨rfl, h⟩⟩
theorem px2_6 {f0 f1 f2 f3 f4 f5 f6 f7 f8 f9 f10 f11 f12 v : Value} {ok : Prop} {K : HC → Prop} : pF (some (.inr (2, [f0, f1, f2, f3, f4, f5, f6, f7, f8, f9, f10, f11, f12]))) 2 6 ok v K = (ok ∧ K (.inr (2, [f0, f1, f2, f3, f4, f5, v, f7, f8, f9, f10, f11, f12]))) := propext ⟨fun h => ⟨h.1.2.2, h.2⟩, fun h => ⟨⟨rfl, by simp, h.1⟩, h.2⟩⟩
theorem gx2_7 {f0 f1 f2 f3 f4 f5 f6 f7 f8 f9 f10 f11 f12 : Value} {K : Value → Prop} : gF (some (.inr (2, [f0, f1, f2, f3, f4, f5, f6, f7, f8, f9, f10, f11, f12]))) 2 7 K = K f7 := propext ⟨fun h => h.2, fun h => ⟨rfl, h⟩⟩
theorem px2_7 {f0 f1 f2 f3 f4 f5 f6 f7 f8 f9 f10 f11 f12 v : Value} {ok : Prop} {K : HC → Prop} : pF (some (.inr (2, [f0, f1, f2, f3, f4, f5, f6, f7, f8, f9, f10, f11, f12]))) 2 7 ok v K = (ok ∧ K (.inr (2, [f0, f1, f2, f3, f4, f5, f6, v, f8, f9, f10, f11, f12]))) := propext ⟨fun h => ⟨h.1.2.2, h.2⟩, fun h => ⟨⟨rfl, by simp, h.1⟩, h.2⟩⟩
theorem gx2_8 {f0 f1 f2 f3 f4 f5 f6 f7 f8 f9 f10 f11 f12 : Value} {K : Value → Prop} : gF (some (.inr (2, [f0, f1, f2, f3, f4, f5, f6, f7, f8, f9, f10, f11, f12]))) 2 8 K = K f8 := propext ⟨fun h => h.2, fun h => ⟨rfl, h⟩⟩
theorem px2_8 {f0 f1 f2 f3 f4 f5 f6 f7 f8 f9 f10 f11 f12 v : Value} {ok : Prop} {K : HC → Prop} : pF (some (.inr (2, [f0, f1, f2, f3, f4, f5, f6, f7, f8, f9, f10, f11, f12]))) 2 8 ok v K = (ok ∧ K (.inr (2, [f0, f1, f2, f3, f4, f5, f6, f7, v, f9, f10, f11, f12]))) := propext ⟨fun h => ⟨h.1.2.2, h.2⟩, fun h => ⟨⟨rfl, by simp, h.1⟩, h.2⟩⟩
theorem gx2_9 {f0 f1 f2 f3 f4 f5 f6 f7 f8 f9 f10 f11 f12 : Value} {K : Value → Prop} : gF (some (.inr (2, [f0, f1, f2, f3, f4, f5, f6, f7, f8, f9, f10, f11, f12]))) 2 9 K = K f9 := propext ⟨fun h => h.2, fun h => ⟨rfl, h⟩⟩
theorem px2_9 {f0 f1 f2 f3 f4 f5 f6 f7 f8 f9 f10 f11 f12 v : Value} {ok : Prop} {K : HC → Prop} : pF (some (.inr (2, [f0, f1, f2, f3, f4, f5, f6, f7, f8, f9, f10, f11, f12]))) 2 9 ok v K = (ok ∧ K (.inr (2, [f0, f1, f2, f3, f4, f5, f6, f7, f8, v, f10, f11, f12]))) := propext ⟨fun h => ⟨h.1.2.2, h.2⟩, fun h => ⟨⟨rfl, by simp, h.1⟩, h.2⟩⟩
theorem gx2_10 {f0 f1 f2 f3 f4 f5 f6 f7 f8 f9 f10 f11 f12 : Value} {K : Value → Prop} : gF (some (.inr (2, [f0, f1, f2, f3, f4, f5, f6, f7, f8, f9, f10, f11, f12]))) 2 10 K = K f10 := propext ⟨fun h => h.2, fun h => ⟨rfl, h⟩⟩
theorem px2_10 {f0 f1 f2 f3 f4 f5 f6 f7 f8 f9 f10 f11 f12 v : Value} {ok : Prop} {K : HC → Prop} : pF (some (.inr (2, [f0, f1, f2, f3, f4, f5, f6, f7, f8, f9, f10, f11, f12]))) 2 10 ok v K = (ok ∧ K (.inr (2, [f0, f1, f2, f3, f4, f5, f6, f7, f8, f9, v, f11, f12]))) := propext ⟨fun h => ⟨h.1.2.2, h.2⟩, fun h => ⟨⟨rfl, by simp, h.1⟩, h.2⟩⟩
theorem gx2_11 {f0 f1 f2 f3 f4 f5 f6 f7 f8 f9 f10 f11 f12 : Value} {K : Value → Prop} : gF (some (.inr (2, [f0, f1, f2, f3, f4, f5, f6, f7, f8, f9, f10, f11, f12]))) 2 11 K = K f11 := propext ⟨fun h => h.2, fun h => ⟨rfl, h⟩⟩
theorem px2_11 {f0 f1 f2 f3 f4 f5 f6 f7 f8 f9 f10 f11 f12 v : Value} {ok : Prop} {K : HC → Prop} : pF (some (.inr (2, [f0, f1, f2, f3, f4, f5, f6, f7, f8, f9, f10, f11, f12]))) 2 11 ok v K = (ok ∧ K (.inr (2, [f0, f1, f2, f3, f4, f5, f6, f7, f8, f9, f10, v, f12]))) := propext ⟨fun h => ⟨h.1.2.2, h.2⟩, fun h => ⟨⟨rfl, by simp, h.1⟩, h.2⟩⟩
theorem gx2_12 {f0 f1 f2 f3 f4 f5 f6 f7 f8 f9 f10 f11 f12 : Value} {K : Value → Prop} : gF (some (.inr (2, [f0, f1, f2, f3, f4, f5, f6, f7, f8, f9, f10, f11, f12]))) 2 12 K = K f12 := propext ⟨fun h => h.2, fun h => ⟨rfl, h⟩⟩
theorem px2_12 {f0 f1 f2 f3 f4 f5 f6 f7 f8 f9 f10 f11 f12 v : Value} {ok : Prop} {K : HC → Prop} : pF (some (.inr (2, [f0, f1, f2, f3, f4, f5, f6, f7, f8, f9, f10, f11, f12]))) 2 12 ok v K = (ok ∧ K (.inr (2, [f0, f1, f2, f3, f4, f5, f6, f7, f8, f9, f10, f11, v]))) := propext ⟨fun h => ⟨h.1.2.2, h.2⟩, fun h => ⟨⟨rfl, by simp, h.1⟩, h.2⟩⟩
theorem gx3_0 {f0 f1 f2 : Value} {K : Value → Prop} : gF (some (.inr (3, [f0, f1, f2]))) 3 0 K = K f0 := propext ⟨fun h => h.2, fun h => ⟨rfl, h⟩⟩
theorem px3_0 {f0 f1 f2 v : Value} {ok : Prop} {K : HC → Prop} : pF (some (.inr (3, [f0, f1, f2]))) 3 0 ok v K = (ok ∧ K (.inr (3, [v, f1, f2]))) := propext ⟨fun h => ⟨h.1.2.2, h.2⟩, fun h => ⟨⟨rfl, by simp, h.1⟩, h.2⟩⟩
theorem gx3_1 {f0 f1 f2 : Value} {K : Value → Prop} : gF (some (.inr (3, [f0, f1, f2]))) 3 1 K = K f1 := propext ⟨fun h => h.2, fun h => ⟨rfl, h⟩⟩
theorem px3_1 {f0 f1 f2 v : Value} {ok : Prop} {K : HC → Prop} : pF (some (.inr (3, [f0, f1, f2]))) 3 1 ok v K = (ok ∧ K (.inr (3, [f0, v, f2]))) := propext ⟨fun h => ⟨h.1.2.2, h.2⟩, fun h => ⟨⟨rfl, by simp, h.1⟩, h.2⟩⟩
theorem gx3_2 {f0 f1 f2 : Value} {K : Value → Prop} : gF (some (.inr (3, [f0, f1, f2]))) 3 2 K = K f2 := propext ⟨fun h => h.2, fun h => ⟨rfl, h⟩⟩
theorem px3_2 {f0 f1 f2 v : Value} {ok : Prop} {K : HC → Prop} : pF (some (.inr (3, [f0, f1, f2]))) 3 2 ok v K = (ok ∧ K (.inr (3, [f0, f1, v]))) := propext ⟨fun h => ⟨h.1.2.2, h.2⟩, fun h => ⟨⟨rfl, by simp, h.1⟩, h.2⟩⟩
theorem gx4_0 {f0 f1 f2 f3 : Value} {K : Value → Prop} : gF (some (.inr (4, [f0, f1, f2, f3]))) 4 0 K = K f0 := propext ⟨fun h => h.2, fun h => ⟨rfl, h⟩⟩
theorem px4_0 {f0 f1 f2 f3 v : Value} {ok : Prop} {K : HC → Prop} : pF (some (.inr (4, [f0, f1, f2, f3]))) 4 0 ok v K = (ok ∧ K (.inr (4, [v, f1, f2, f3]))) := propext ⟨fun h => ⟨h.1.2.2, h.2⟩, fun h => ⟨⟨rfl, by simp, h.1⟩, h.2⟩⟩
theorem gx4_1 {f0 f1 f2 f3 : Value} {K : Value → Prop} : gF (some (.inr (4, [f0, f1, f2, f3]))) 4 1 K = K f1 := propext ⟨fun h => h.2, fun h => ⟨rfl, h⟩⟩
theorem px4_1 {f0 f1 f2 f3 v : Value} {ok : Prop} {K : HC → Prop} : pF (some (.inr (4, [f0, f1, f2, f3]))) 4 1 ok v K = (ok ∧ K (.inr (4, [f0, v, f2, f3]))) := propext ⟨fun h => ⟨h.1.2.2, h.2⟩, fun h => ⟨⟨rfl, by simp, h.1⟩, h.2⟩⟩
theorem gx4_2 {f0 f1 f2 f3 : Value} {K : Value → Prop} : gF (some (.inr (4, [f0, f1, f2, f3]))) 4 2 K = K f2 := propext ⟨fun h => h.2, fun h => ⟨rfl, h⟩⟩
theorem px4_2 {f0 f1 f2 f3 v : Value} {ok : Prop} {K : HC → Prop} : pF (some (.inr (4, [f0, f1, f2, f3]))) 4 2 ok v K = (ok ∧ K (.inr (4, [f0, f1, v, f3]))) := propext ⟨fun h => ⟨h.1.2.2, h.2⟩, fun h => ⟨⟨rfl, by simp, h.1⟩, h.2⟩⟩
theorem gx4_3 {f0 f1 f2 f3 : Value} {K : Value → Prop} : gF (some (.inr (4, [f0, f1, f2, f3]))) 4 3 K = K f3 := propext ⟨fun h => h.2, fun h => ⟨rfl, h⟩⟩
theorem px4_3 {f0 f1 f2 f3 v : Value} {ok : Prop} {K : HC → Prop} : pF (some (.inr (4, [f0, f1, f2, f3]))) 4 3 ok v K = (ok ∧ K (.inr (4, [f0, f1, f2, v]))) := propext ⟨fun h => ⟨h.1.2.2, h.2⟩, fun h => ⟨⟨rfl, by simp, h.1⟩, h.2⟩⟩
theorem gx5_0 {f0 f1 f2 f3 f4 f5 f6 f7 f8 f9 f10 f11 f12 f13 : Value} {K : Value → Prop} : gF (some (.inr (5, [f0, f1, f2, f3, f4, f5, f6, f7, f8, f9, f10, f11, f12, f13]))) 5 0 K = K f0 := propext ⟨fun h => h.2, fun h => ⟨rfl, h⟩⟩
theorem px5_0 {f0 f1 f2 f3 f4 f5 f6 f7 f8 f9 f10 f11 f12 f13 v : Value} {ok : Prop} {K : HC → Prop} : pF (some (.inr (5, [f0, f1, f2, f3, f4, f5, f6, f7, f8, f9, f10, f11, f12, f13]))) 5 0 ok v K = (ok ∧ K (.inr (5, [v, f1, f2, f3, f4, f5, f6, f7, f8, f9, f10, f11, f12, f13]))) := propext ⟨fun h => ⟨h.1.2.2, h.2⟩, fun h => ⟨⟨rfl, by simp, h.1⟩, h.2⟩⟩
theorem gx5_1 {f0 f1 f2 f3 f4 f5 f6 f7 f8 f9 f10 f11 f12 f13 : Value} {K : Value → Prop} : gF (some (.inr (5, [f0, f1, f2, f3, f4, f5, f6, f7, f8, f9, f10, f11, f12, f13]))) 5 1 K = K f1 := propext ⟨fun h => h.2, fun h => ⟨rfl, h⟩⟩
theorem px5_1 {f0 f1 f2 f3 f4 f5 f6 f7 f8 f9 f10 f11 f12 f13 v : Value} {ok : Prop} {K : HC → Prop} : pF (some (.inr (5, [f0, f1, f2, f3, f4, f5, f6, f7, f8, f9, f10, f11, f12, f13]))) 5 1 ok v K = (ok ∧ K (.inr (5, [f0, v, f2, f3, f4, f5, f6, f7, f8, f9, f10, f11, f12, f13]))) := propext ⟨fun h => ⟨h.1.2.2, h.2⟩, fun h => ⟨⟨rfl, by simp, h.1⟩, h.2⟩⟩
theorem gx5_2 {f0 f1 f2 f3 f4 f5 f6 f7 f8 f9 f10 f11 f12 f13 : Value} {K : Value → Prop} : gF (some (.inr (5, [f0, f1, f2, f3, f4, f5, f6, f7, f8, f9, f10, f11, f12, f13]))) 5 2 K = K f2 := propext ⟨fun h => h.2, fun h => ⟨rfl, h⟩⟩
theorem px5_2 {f0 f1 f2 f3 f4 f5 f6 f7 f8 f9 f10 f11 f12 f13 v : Value} {ok : Prop} {K : HC → Prop} : pF (some (.inr (5, [f0, f1, f2, f3, f4, f5, f6, f7, f8, f9, f10, f11, f12, f13]))) 5 2 ok v K = (ok ∧ K (.inr (5, [f0, f1, v, f3, f4, f5, f6, f7, f8, f9, f10, f11, f12, f13]))) := propext ⟨fun h => ⟨h.1.2.2, h.2⟩, fun h => ⟨⟨rfl, by simp, h.1⟩, h.2⟩⟩
theorem gx5_3 {f0 f1 f2 f3 f4 f5 f6 f7 f8 f9 f10 f11 f12 f13 : Value} {K : Value → Prop} : gF (some (.inr (5, [f0, f1, f2, f3, f4, f5, f6, f7, f8, f9, f10, f11, f12, f13]))) 5 3 K = K f3 := propext ⟨fun h => h.2, fun h => ⟨rfl, h⟩⟩
theorem px5_3 {f0 f1 f2 f3 f4 f5 f6 f7 f8 f9 f10 f11 f12 f13 v : Value} {ok : Prop} {K : HC → Prop} : pF (some (.inr (5, [f0, f1, f2, f3, f4, f5, f6, f7, f8, f9, f10, f11, f12, f13]))) 5 3 ok v K = (ok ∧ K (.inr (5, [f0, f1, f2, v, f4, f5, f6, f7, f8, f9, f10, f11, f12, f13]))) := propext ⟨fun h => ⟨h.1.2.2, h.2⟩, fun h => ⟨⟨rfl, by simp, h.1⟩, h.2⟩⟩
theorem gx5_4 {f0 f1 f2 f3 f4 f5 f6 f7 f8 f9 f10 f11 f12 f13 : Value} {K : Value → Prop} : gF (some (.inr (5, [f0, f1, f2, f3, f4, f5, f6, f7, f8, f9, f10, f11, f12, f13]))) 5 4 K = K f4 := propext ⟨fun h => h.2, fun h => ⟨rfl, h⟩⟩
theorem px5_4 {f0 f1 f2 f3 f4 f5 f6 f7 f8 f9 f10 f11 f12 f13 v : Value} {ok : Prop} {K : HC → Prop} : pF (some (.inr (5, [f0, f1, f2, f3, f4, f5, f6, f7, f8, f9, f10, f11, f12, f13]))) 5 4 ok v K = (ok ∧ K (.inr (5, [f0, f1, f2, f3, v, f5, f6, f7, f8, f9, f10, f11, f12, f13]))) := propext ⟨fun h => ⟨h.1.2.2, h.2⟩, fun h => ⟨⟨rfl, by simp, h.1⟩, h.2⟩⟩
theorem gx5_5 {f0 f1 f2 f3 f4 f5 f6 f7 f8 f9 f10 f11 f12 f13 : Value} {K : Value → Prop} : gF (some (.inr (5, [f0, f1, f2, f3, f4, f5, f6, f7, f8, f9, f10, f11, f12, f13]))) 5 5 K = K f5 := propext ⟨fun h => h.2, fun h => ⟨rfl, h⟩⟩
theorem px5_5 {f0 f1 f2 f3 f4 f5 f6 f7 f8 f9 f10 f11 f12 f13 v : Value} {ok : Prop} {K : HC → Prop} : pF (some (.inr (5, [f0, f1, f2, f3, f4, f5, f6, f7, f8, f9, f10, f11, f12, f13]))) 5 5 ok v K = (ok ∧ K (.inr (5, [f0, f1, f2, f3, f4, v, f6, f7, f8, f9, f10, f11, f12, f13]))) := propext ⟨fun h => ⟨h.1.2.2, h.2⟩, fun h => ⟨⟨rfl, by simp, h.1⟩, h.2⟩⟩
theorem gx5_6 {f0 f1 f2 f3 f4 f5 f6 f7 f8 f9 f10 f11 f12 f13 : Value} {K : Value → Prop} : gF (some (.inr (5, [f0, f1, f2, f3, f4, f5, f6, f7, f8, f9, f10, f11, f12, f13]))) 5 6 K = K f6 := propext ⟨fun h => h.2, fun h => ⟨rfl, h⟩⟩
theorem px5_6 {f0 f1 f2 f3 f4 f5 f6 f7 f8 f9 f10 f11 f12 f13 v : Value} {ok : Prop} {K : HC → Prop} : pF (some (.inr (5, [f0, f1, f2, f3, f4, f5, f6, f7, f8, f9, f10, f11, f12, f13]))) 5 6 ok v K = (ok ∧ K (.inr (5, [f0, f1, f2, f3, f4, f5, v, f7, f8, f9, f10, f11, f12, f13]))) := propext ⟨fun h => ⟨h.1.2.2, h.2⟩, fun h => ⟨⟨rfl, by simp, h.1⟩, h.2⟩⟩
theorem gx5_7 {f0 f1 f2 f3 f4 f5 f6 f7 f8 f9 f10 f11 f12 f13 : Value} {K : Value → Prop} : gF (some (.inr (5, [f0, f1, f2, f3, f4, f5, f6, f7, f8, f9, f10, f11, f12, f13]))) 5 7 K = K f7 := propext ⟨fun h => h.2, fun h => ⟨rfl, h⟩⟩
theorem px5_7 {f0 f1 f2 f3 f4 f5 f6 f7 f8 f9 f10 f11 f12 f13 v : Value} {ok : Prop} {K : HC → Prop} : pF (some (.inr (5, [f0, f1, f2, f3, f4, f5, f6, f7, f8, f9, f10, f11, f12, f13]))) 5 7 ok v K = (ok ∧ K (.inr (5, [f0, f1, f2, f3, f4, f5, f6, v, f8, f9, f10, f11, f12, f13]))) := propext ⟨fun h => ⟨h.1.2.2, h.2⟩, fun h => ⟨⟨rfl, by simp, h.1⟩, h.2⟩⟩
theorem gx5_8 {f0 f1 f2 f3 f4 f5 f6 f7 f8 f9 f10 f11 f12 f13 : Value} {K : Value → Prop} : gF (some (.inr (5, [f0, f1, f2, f3, f4, f5, f6, f7, f8, f9, f10, f11, f12, f13]))) 5 8 K = K f8 := propext ⟨fun h => h.2, fun h => ⟨rfl, h⟩⟩
theorem px5_8 {f0 f1 f2 f3 f4 f5 f6 f7 f8 f9 f10 f11 f12 f13 v : Value} {ok : Prop} {K : HC → Prop} : pF (some (.inr (5, [f0, f1, f2, f3, f4, f5, f6, f7, f8, f9, f10, f11, f12, f13]))) 5 8 ok v K = (ok ∧ K (.inr (5, [f0, f1, f2, f3, f4, f5, f6, f7, v, f9, f10, f11, f12, f13]))) := propext ⟨fun h => ⟨h.1.2.2, h.2⟩, fun h => ⟨⟨rfl, by simp, h.1⟩, h.2⟩⟩
theorem gx5_9 {f0 f1 f2 f3 f4 f5 f6 f7 f8 f9 f10 f11 f12 f13 : Value} {K : Value → Prop} : gF (some (.inr (5, [f0, f1, f2, f3, f4, f5, f6, f7, f8, f9, f10, f11, f12, f13]))) 5 9 K = K f9 := propext ⟨fun h => h.2, fun h => ⟨rfl, h⟩⟩
theorem px5_9 {f0 f1 f2 f3 f4 f5 f6 f7 f8 f9 f10 f11 f12 f13 v : Value} {ok : Prop} {K : HC → Prop} : pF (some (.inr (5, [f0, f1, f2, f3, f4, f5, f6, f7, f8, f9, f10, f11, f12, f13]))) 5 9 ok v K = (ok ∧ K (.inr (5, [f0, f1, f2, f3, f4, f5, f6, f7, f8, v, f10, f11, f12, f13]))) := propext ⟨fun h => ⟨h.1.2.2, h.2⟩, fun h => ⟨⟨rfl, by simp, h.1⟩, h.2⟩⟩
theorem gx5_10 {f0 f1 f2 f3 f4 f5 f6 f7 f8 f9 f10 f11 f12 f13 : Value} {K : Value → Prop} : gF (some (.inr (5, [f0, f1, f2, f3, f4, f5, f6, f7, f8, f9, f10, f11, f12, f13]))) 5 10 K = K f10 := propext ⟨fun h => h.2, fun h => ⟨rfl, h⟩⟩
theorem px5_10 {f0 f1 f2 f3 f4 f5 f6 f7 f8 f9 f10 f11 f12 f13 v : Value} {ok : Prop} {K : HC → Prop} : pF (some (.inr (5, [f0, f1, f2, f3, f4, f5, f6, f7, f8, f9, f10, f11, f12, f13]))) 5 10 ok v K = (ok ∧ K (.inr (5, [f0, f1, f2, f3, f4, f5, f6, f7, f8, f9, v, f11, f12, f13]))) := propext ⟨fun h => ⟨h.1.2.2, h.2⟩, fun h => ⟨⟨rfl, by simp, h.1⟩, h.2⟩⟩
theorem gx5_11 {f0 f1 f2 f3 f4 f5 f6 f7 f8 f9 f10 f11 f12 f13 : Value} {K : Value → Prop} : gF (some (.inr (5, [f0, f1, f2, f3, f4, f5, f6, f7, f8, f9, f10, f11, f12, f13]))) 5 11 K = K f11 := propext ⟨fun h => h.2, fun h => ⟨rfl, h⟩⟩
theorem px5_11 {f0 f1 f2 f3 f4 f5 f6 f7 f8 f9 f10 f11 f12 f13 v : Value} {ok : Prop} {K : HC → Prop} : pF (some (.inr (5, [f0, f1, f2, f3, f4, f5, f6, f7, f8, f9, f10, f11, f12, f13]))) 5 11 ok v K = (ok ∧ K (.inr (5, [f0, f1, f2, f3, f4, f5, f6, f7, f8, f9, f10, v, f12, f13]))) := propext ⟨fun h => ⟨h.1.2.2, h.2⟩, fun h => ⟨⟨rfl, by simp, h.1⟩, h.2⟩⟩
theorem gx5_12 {f0 f1 f2 f3 f4 f5 f6 f7 f8 f9 f10 f11 f12 f13 : Value} {K : Value → Prop} : gF (some (.inr (5, [f0, f1, f2, f3, f4, f5, f6, f7, f8, f9, f10, f11, f12, f13]))) 5 12 K = K f12 := propext ⟨fun h => h.2, fun h => ⟨rfl, h⟩⟩
theorem px5_12 {f0 f1 f2 f3 f4 f5 f6 f7 f8 f9 f10 f11 f12 f13 v : Value} {ok : Prop} {K : HC → Prop} : pF (some (.inr (5, [f0, f1, f2, f3, f4, f5, f6, f7, f8, f9, f10, f11, f12, f13]))) 5 12 ok v K = (ok ∧ K (.inr (5, [f0, f1, f2, f3, f4, f5, f6, f7, f8, f9, f10, f11, v, f13]))) := propext ⟨fun h => ⟨h.1.2.2, h.2⟩, fun h => ⟨⟨rfl, by simp, h.1⟩, h.2⟩⟩
theorem gx5_13 {f0 f1 f2 f3 f4 f5 f6 f7 f8 f9 f10 f11 f12 f13 : Value} {K : Value → Prop} : gF (some (.inr (5, [f0, f1, f2, f3, f4, f5, f6, f7, f8, f9, f10, f11, f12, f13]))) 5 13 K = K f13 := propext ⟨fun h => h.2, fun h => ⟨rfl, h⟩⟩
theorem px5_13 {f0 f1 f2 f3 f4 f5 f6 f7 f8 f9 f10 f11 f12 f13 v : Value} {ok : Prop} {K : HC → Prop} : pF (some (.inr (5, [f0, f1, f2, f3, f4, f5, f6, f7, f8, f9, f10, f11, f12, f13]))) 5 13 ok v K = (ok ∧ K (.inr (5, [f0, f1, f2, f3, f4, f5, f6, f7, f8, f9, f10, f11, f12, v]))) := propext ⟨fun h => ⟨h.1.2.2, h.2⟩, fun h => ⟨⟨rfl, by simp, h.1⟩, h.2⟩⟩
theorem gx6_0 {f0 f1 f2 f3 : Value} {K : Value → Prop} : gF (some (.inr (6, [f0, f1, f2, f3]))) 6 0 K = K f0 := propext ⟨fun h => h.2, fun h => ⟨rfl, h⟩⟩
theorem px6_0 {f0 f1 f2 f3 v : Value} {ok : Prop} {K : HC → Prop} : pF (some (.inr (6, [f0, f1, f2, f3]))) 6 0 ok v K = (ok ∧ K (.inr (6, [v, f1, f2, f3]))) := propext ⟨fun h => ⟨h.1.2.2, h.2⟩, fun h => ⟨⟨rfl, by simp, h.1⟩, h.2⟩⟩
theorem gx6_1 {f0 f1 f2 f3 : Value} {K : Value → Prop} : gF (some (.inr (6, [f0, f1, f2, f3]))) 6 1 K = K f1 := propext ⟨fun h => h.2, fun h => ⟨rfl, h⟩⟩
theorem px6_1 {f0 f1 f2 f3 v : Value} {ok : Prop} {K : HC → Prop} : pF (some (.inr (6, [f0, f1, f2, f3]))) 6 1 ok v K = (ok ∧ K (.inr (6, [f0, v, f2, f3]))) := propext ⟨fun h => ⟨h.1.2.2, h.2⟩, fun h => ⟨⟨rfl, by simp, h.1⟩, h.2⟩⟩
theorem gx6_2 {f0 f1 f2 f3 : Value} {K : Value → Prop} : gF (some (.inr (6, [f0, f1, f2, f3]))) 6 2 K = K f2 := propext ⟨fun h => h.2, fun h => ⟨rfl, h⟩⟩
theorem px6_2 {f0 f1 f2 f3 v : Value} {ok : Prop} {K : HC → Prop} : pF (some (.inr (6, [f0, f1, f2, f3]))) 6 2 ok v K = (ok ∧ K (.inr (6, [f0, f1, v, f3]))) := propext ⟨fun h => ⟨h.1.2.2, h.2⟩, fun h => ⟨⟨rfl, by simp, h.1⟩, h.2⟩⟩
theorem gx6_3 {f0 f1 f2 f3 : Value} {K : Value → Prop} : gF (some (.inr (6, [f0, f1, f2, f3]))) 6 3 K = K f3 := propext ⟨fun h => h.2, fun h => ⟨rfl, h⟩⟩
theorem px6_3 {f0 f1 f2 f3 v : Value} {ok : Prop} {K : HC → Prop} : pF (some (.inr (6, [f0, f1, f2, f3]))) 6 3 ok v K = (ok ∧ K (.inr (6, [f0, f1, f2, v]))) := propext ⟨fun h => ⟨h.1.2.2, h.2⟩, fun h => ⟨⟨rfl, by simp, h.1⟩, h.2⟩⟩
theorem gx7_0 {f0 f1 f2 f3 f4 f5 f6 : Value} {K : Value → Prop} : gF (some (.inr (7, [f0, f1, f2, f3, f4, f5, f6]))) 7 0 K = K f0 := propext ⟨fun h => h.2, fun h => ⟨rfl, h⟩⟩
theorem px7_0 {f0 f1 f2 f3 f4 f5 f6 v : Value} {ok : Prop} {K : HC → Prop} : pF (some (.inr (7, [f0, f1, f2, f3, f4, f5, f6]))) 7 0 ok v K = (ok ∧ K (.inr (7, [v, f1, f2, f3, f4, f5, f6]))) := propext ⟨fun h => ⟨h.1.2.2, h.2⟩, fun h => ⟨⟨rfl, by simp, h.1⟩, h.2⟩⟩
theorem gx7_1 {f0 f1 f2 f3 f4 f5 f6 : Value} {K : Value → Prop} : gF (some (.inr (7, [f0, f1, f2, f3, f4, f5, f6]))) 7 1 K = K f1 := propext ⟨fun h => h.2, fun h => ⟨rfl, h⟩⟩
theorem px7_1 {f0 f1 f2 f3 f4 f5 f6 v : Value} {ok : Prop} {K : HC → Prop} : pF (some (.inr (7, [f0, f1, f2, f3, f4, f5, f6]))) 7 1 ok v K = (ok ∧ K (.inr (7, [f0, v, f2, f3, f4, f5, f6]))) := propext ⟨fun h => ⟨h.1.2.2, h.2⟩, fun h => ⟨⟨rfl, by simp, h.1⟩, h.2⟩⟩
theorem gx7_2 {f0 f1 f2 f3 f4 f5 f6 : Value} {K : Value → Prop} : gF (some (.inr (7, [f0, f1, f2, f3, f4, f5, f6]))) 7 2 K = K f2 := propext ⟨fun h => h.2, fun h => ⟨rfl, h⟩⟩
theorem px7_2 {f0 f1 f2 f3 f4 f5 f6 v : Value} {ok : Prop} {K : HC → Prop} : pF (some (.inr (7, [f0, f1, f2, f3, f4, f5, f6]))) 7 2 ok v K = (ok ∧ K (.inr (7, [f0, f1, v, f3, f4, f5, f6]))) := propext ⟨fun h => ⟨h.1.2.2, h.2⟩, fun h => ⟨⟨rfl, by simp, h.1⟩, h.2⟩⟩
theorem gx7_3 {f0 f1 f2 f3 f4 f5 f6 : Value} {K : Value → Prop} : gF (some (.inr (7, [f0, f1, f2, f3, f4, f5, f6]))) 7 3 K = K f3 := propext ⟨fun h => h.2, fun h => ⟨rfl, h⟩⟩
theorem px7_3 {f0 f1 f2 f3 f4 f5 f6 v : Value} {ok : Prop} {K : HC → Prop} : pF (some (.inr (7, [f0, f1, f2, f3, f4, f5, f6]))) 7 3 ok v K = (ok ∧ K (.inr (7, [f0, f1, f2, v, f4, f5, f6]))) := propext ⟨fun h => ⟨h.1.2.2, h.2⟩, fun h => ⟨⟨rfl, by simp, h.1⟩, h.2⟩⟩
theorem gx7_4 {f0 f1 f2 f3 f4 f5 f6 : Value} {K : Value → Prop} : gF (some (.inr (7, [f0, f1, f2, f3, f4, f5, f6]))) 7 4 K = K f4 := propext ⟨fun h => h.2, fun h => ⟨rfl, h⟩⟩
theorem px7_4 {f0 f1 f2 f3 f4 f5 f6 v : Value} {ok : Prop} {K : HC → Prop} : pF (some (.inr (7, [f0, f1, f2, f3, f4, f5, f6]))) 7 4 ok v K = (ok ∧ K (.inr (7, [f0, f1, f2, f3, v, f5, f6]))) := propext ⟨fun h => ⟨h.1.2.2, h.2⟩, fun h => ⟨⟨rfl, by simp, h.1⟩, h.2⟩⟩
theorem gx7_5 {f0 f1 f2 f3 f4 f5 f6 : Value} {K : Value → Prop} : gF (some (.inr (7, [f0, f1, f2, f3, f4, f5, f6]))) 7 5 K = K f5 := propext ⟨fun h => h.2, fun h => ⟨rfl, h⟩⟩
theorem px7_5 {f0 f1 f2 f3 f4 f5 f6 v : Value} {ok : Prop} {K : HC → Prop} : pF (some (.inr (7, [f0, f1, f2, f3, f4, f5, f6]))) 7 5 ok v K = (ok ∧ K (.inr (7, [f0, f1, f2, f3, f4, v, f6]))) := propext ⟨fun h => ⟨h.1.2.2, h.2⟩, fun h => ⟨⟨rfl, by simp, h.1⟩, h.2⟩⟩
theorem gx7_6 {f0 f1 f2 f3 f4 f5 f6 : Value} {K : Value → Prop} : gF (some (.inr (7, [f0, f1, f2, f3, f4, f5, f6]))) 7 6 K = K f6 := propext ⟨fun h => h.2, fun h => ⟨rfl, h⟩⟩
theorem px7_6 {f0 f1 f2 f3 f4 f5 f6 v : Value} {ok : Prop} {K : HC → Prop} : pF (some (.inr (7, [f0, f1, f2, f3, f4, f5, f6]))) 7 6 ok v K = (ok ∧ K (.inr (7, [f0, f1, f2, f3, f4, f5, v]))) := propext ⟨fun h => ⟨h.1.2.2, h.2⟩, fun h => ⟨⟨rfl, by simp, h.1⟩, h.2⟩⟩
theorem gx8_0 {f0 f1 : Value} {K : Value → Prop} : gF (some (.inr (8, [f0, f1]))) 8 0 K = K f0 := propext ⟨fun h => h.2, fun h => ⟨rfl, h⟩⟩
theorem px8_0 {f0 f1 v : Value} {ok : Prop} {K : HC → Prop} : pF (some (.inr (8, [f0, f1]))) 8 0 ok v K = (ok ∧ K (.inr (8, [v, f1]))) := propext ⟨fun h => ⟨h.1.2.2, h.2⟩, fun h => ⟨⟨rfl, by simp, h.1⟩, h.2⟩⟩
theorem gx8_1 {f0 f1 : Value} {K : Value → Prop} : gF (some (.inr (8, [f0, f1]))) 8 1 K = K f1 := propext ⟨fun h => h.2, fun h => ⟨rfl, h⟩⟩
theorem px8_1 {f0 f1 v : Value} {ok : Prop} {K : HC → Prop} : pF (some (.inr (8, [f0, f1]))) 8 1 ok v K = (ok ∧ K (.inr (8, [f0, v]))) := propext ⟨fun h => ⟨h.1.2.2, h.2⟩, fun h => ⟨⟨rfl, by simp, h.1⟩, h.2⟩⟩
theorem gx9_0 {f0 f1 f2 f3 f4 f5 f6 f7 f8 f9 f10 f11 : Value} {K : Value → Prop} : gF (some (.inr (9, [f0, f1, f2, f3, f4, f5, f6, f7, f8, f9, f10, f11]))) 9 0 K = K f0 := propext ⟨fun h => h.2, fun h => ⟨rfl, h⟩⟩
theorem px9_0 {f0 f1 f2 f3 f4 f5 f6 f7 f8 f9 f10 f11 v : Value} {ok : Prop} {K : HC → Prop} : pF (some (.inr (9, [f0, f1, f2, f3, f4, f5, f6, f7, f8, f9, f10, f11]))) 9 0 ok v K = (ok ∧ K (.inr (9, [v, f1, f2, f3, f4, f5, f6, f7, f8, f9, f10, f11]))) := propext ⟨fun h => ⟨h.1.2.2, h.2⟩, fun h => ⟨⟨rfl, by simp, h.1⟩, h.2⟩⟩
theorem gx9_1 {f0 f1 f2 f3 f4 f5 f6 f7 f8 f9 f10 f11 : Value} {K : Value → Prop} : gF (some (.inr (9, [f0, f1, f2, f3, f4, f5, f6, f7, f8, f9, f10, f11]))) 9 1 K = K f1 := propext ⟨fun h => h.2, fun h => ⟨rfl, h⟩⟩
theorem px9_1 {f0 f1 f2 f3 f4 f5 f6 f7 f8 f9 f10 f11 v : Value} {ok : Prop} {K : HC → Prop} : pF (some (.inr (9, [f0, f1, f2, f3, f4, f5, f6, f7, f8, f9, f10, f11]))) 9 1 ok v K = (ok ∧ K (.inr (9, [f0, v, f2, f3, f4, f5, f6, f7, f8, f9, f10, f11]))) := propext ⟨fun h => ⟨h.1.2.2, h.2⟩, fun h => ⟨⟨rfl, by simp, h.1⟩, h.2⟩⟩
theorem gx9_2 {f0 f1 f2 f3 f4 f5 f6 f7 f8 f9 f10 f11 : Value} {K : Value → Prop} : gF (some (.inr (9, [f0, f1, f2, f3, f4, f5, f6, f7, f8, f9, f10, f11]))) 9 2 K = K f2 := propext ⟨fun h => h.2, fun h => ⟨rfl, h⟩⟩
theorem px9_2 {f0 f1 f2 f3 f4 f5 f6 f7 f8 f9 f10 f11 v : Value} {ok : Prop} {K : HC → Prop} : pF (some (.inr (9, [f0, f1, f2, f3, f4, f5, f6, f7, f8, f9, f10, f11]))) 9 2 ok v K = (ok ∧ K (.inr (9, [f0, f1, v, f3, f4, f5, f6, f7, f8, f9, f10, f11]))) := propext ⟨fun h => ⟨h.1.2.2, h.2⟩, fun h => ⟨⟨rfl, by simp, h.1⟩, h.2⟩⟩
theorem gx9_3 {f0 f1 f2 f3 f4 f5 f6 f7 f8 f9 f10 f11 : Value} {K : Value → Prop} : gF (some (.inr (9, [f0, f1, f2, f3, f4, f5, f6, f7, f8, f9, f10, f11]))) 9 3 K = K f3 := propext ⟨fun h => h.2, fun h => ⟨rfl, h⟩⟩
theorem px9_3 {f0 f1 f2 f3 f4 f5 f6 f7 f8 f9 f10 f11 v : Value} {ok : Prop} {K : HC → Prop} : pF (some (.inr (9, [f0, f1, f2, f3, f4, f5, f6, f7, f8, f9, f10, f11]))) 9 3 ok v K = (ok ∧ K (.inr (9, [f0, f1, f2, v, f4, f5, f6, f7, f8, f9, f10, f11]))) := propext ⟨fun h => ⟨h.1.2.2, h.2⟩, fun h => ⟨⟨rfl, by simp, h.1⟩, h.2⟩⟩
theorem gx9_4 {f0 f1 f2 f3 f4 f5 f6 f7 f8 f9 f10 f11 : Value} {K : Value → Prop} : gF (some (.inr (9, [f0, f1, f2, f3, f4, f5, f6, f7, f8, f9, f10, f11]))) 9 4 K = K f4 := propext ⟨fun h => h.2, fun h => ⟨rfl, h⟩⟩
theorem px9_4 {f0 f1 f2 f3 f4 f5 f6 f7 f8 f9 f10 f11 v : Value} {ok : Prop} {K : HC → Prop} : pF (some (.inr (9, [f0, f1, f2, f3, f4, f5, f6, f7, f8, f9, f10, f11]))) 9 4 ok v K = (ok ∧ K (.inr (9, [f0, f1, f2, f3, v, f5, f6, f7, f8, f9, f10, f11]))) := propext ⟨fun h => ⟨h.1.2.2, h.2⟩, fun h => ⟨⟨rfl, by simp, h.1⟩, h.2⟩⟩
theorem gx9_5 {f0 f1 f2 f3 f4 f5 f6 f7 f8 f9 f10 f11 : Value} {K : Value → Prop} : gF (some (.inr (9, [f0, f1, f2, f3, f4, f5, f6, f7, f8, f9, f10, f11]))) 9 5 K = K f5 := propext ⟨fun h => h.2, fun h => ⟨rfl, h⟩⟩
theorem px9_5 {f0 f1 f2 f3 f4 f5 f6 f7 f8 f9 f10 f11 v : Value} {ok : Prop} {K : HC → Prop} : pF (some (.inr (9, [f0, f1, f2, f3, f4, f5, f6, f7, f8, f9, f10, f11]))) 9 5 ok v K = (ok ∧ K (.inr (9, [f0, f1, f2, f3, f4, v, f6, f7, f8, f9, f10, f11]))) := propext ⟨fun h => ⟨h.1.2.2, h.2⟩, fun h => ⟨⟨rfl, by simp, h.1⟩, h.2⟩⟩
theorem gx9_6 {f0 f1 f2 f3 f4 f5 f6 f7 f8 f9 f10 f11 : Value} {K : Value → Prop} : gF (some (.inr (9, [f0, f1, f2, f3, f4, f5, f6, f7, f8, f9, f10, f11]))) 9 6 K = K f6 := propext ⟨fun h => h.2, fun h => ⟨rfl, h⟩⟩
theorem px9_6 {f0 f1 f2 f3 f4 f5 f6 f7 f8 f9 f10 f11 v : Value} {ok : Prop} {K : HC → Prop} : pF (some (.inr (9, [f0, f1, f2, f3, f4, f5, f6, f7, f8, f9, f10, f11]))) 9 6 ok v K = (ok ∧ K (.inr (9, [f0, f1, f2, f3, f4, f5, v, f7, f8, f9, f10, f11]))) := propext ⟨fun h => ⟨h.1.2.2, h.2⟩, fun h => ⟨⟨rfl, by simp, h.1⟩, h.2⟩⟩
theorem gx9_7 {f0 f1 f2 f3 f4 f5 f6 f7 f8 f9 f10 f11 : Value} {K : Value → Prop} : gF (some (.inr (9, [f0, f1, f2, f3, f4, f5, f6, f7, f8, f9, f10, f11]))) 9 7 K = K f7 := propext ⟨fun h => h.2, fun h => ⟨rfl, h⟩⟩
theorem px9_7 {f0 f1 f2 f3 f4 f5 f6 f7 f8 f9 f10 f11 v : Value} {ok : Prop} {K : HC → Prop} : pF (some (.inr (9, [f0, f1, f2, f3, f4, f5, f6, f7, f8, f9, f10, f11]))) 9 7 ok v K = (ok ∧ K (.inr (9, [f0, f1, f2, f3, f4, f5, f6, v, f8, f9, f10, f11]))) := propext ⟨fun h => ⟨h.1.2.2, h.2⟩, fun h => ⟨⟨rfl, by simp, h.1⟩, h.2⟩⟩
theorem gx9_8 {f0 f1 f2 f3 f4 f5 f6 f7 f8 f9 f10 f11 : Value} {K : Value → Prop} : gF (some (.inr (9, [f0, f1, f2, f3, f4, f5, f6, f7, f8, f9, f10, f11]))) 9 8 K = K f8 := propext ⟨fun h => h.2, fun h => ⟨rfl, h⟩⟩
theorem px9_8 {f0 f1 f2 f3 f4 f5 f6 f7 f8 f9 f10 f11 v : Value} {ok : Prop} {K : HC → Prop} : pF (some (.inr (9, [f0, f1, f2, f3, f4, f5, f6, f7, f8, f9, f10, f11]))) 9 8 ok v K = (ok ∧ K (.inr (9, [f0, f1, f2, f3, f4, f5, f6, f7, v, f9, f10, f11]))) := propext ⟨fun h => ⟨h.1.2.2, h.2⟩, fun h => ⟨⟨rfl, by simp, h.1⟩, h.2⟩⟩
theorem gx9_9 {f0 f1 f2 f3 f4 f5 f6 f7 f8 f9 f10 f11 : Value} {K : Value → Prop} : gF (some (.inr (9, [f0, f1, f2, f3, f4, f5, f6, f7, f8, f9, f10, f11]))) 9 9 K = K f9 := propext ⟨fun h => h.2, fun h => ⟨rfl, h⟩⟩
theorem px9_9 {f0 f1 f2 f3 f4 f5 f6 f7 f8 f9 f10 f11 v : Value} {ok : Prop} {K : HC → Prop} : pF (some (.inr (9, [f0, f1, f2, f3, f4, f5, f6, f7, f8, f9, f10, f11]))) 9 9 ok v K = (ok ∧ K (.inr (9, [f0, f1, f2, f3, f4, f5, f6, f7, f8, v, f10, f11]))) := propext ⟨fun h => ⟨h.1.2.2, h.2⟩, fun h => ⟨⟨rfl, by simp, h.1⟩, h.2⟩⟩
theorem gx9_10 {f0 f1 f2 f3 f4 f5 f6 f7 f8 f9 f10 f11 : Value} {K : Value → Prop} : gF (some (.inr (9, [f0, f1, f2, f3, f4, f5, f6, f7, f8, f9, f10, f11]))) 9 10 K = K f10 := propext ⟨fun h => h.2, fun h => ⟨rfl, h⟩⟩
theorem px9_10 {f0 f1 f2 f3 f4 f5 f6 f7 f8 f9 f10 f11 v : Value} {ok : Prop} {K : HC → Prop} : pF (some (.inr (9, [f0, f1, f2, f3, f4, f5, f6, f7, f8, f9, f10, f11]))) 9 10 ok v K = (ok ∧ K (.inr (9, [f0, f1, f2, f3, f4, f5, f6, f7, f8, f9, v, f11]))) := propext ⟨fun h => ⟨h.1.2.2, h.2⟩, fun h => ⟨⟨rfl, by simp, h.1⟩, h.2⟩⟩
theorem gx9_11 {f0 f1 f2 f3 f4 f5 f6 f7 f8 f9 f10 f11 : Value} {K : Value → Prop} : gF (some (.inr (9, [f0, f1, f2, f3, f4, f5, f6, f7, f8, f9, f10, f11]))) 9 11 K = K f11 := propext ⟨fun h => h.2, fun h => ⟨rfl, h⟩⟩
theorem px9_11 {f0 f1 f2 f3 f4 f5 f6 f7 f8 f9 f10 f11 v : Value} {ok : Prop} {K : HC → Prop} : pF (some (.inr (9, [f0, f1, f2, f3, f4, f5, f6, f7, f8, f9, f10, f11]))) 9 11 ok v K = (ok ∧ K (.inr (9, [f0, f1, f2, f3, f4, f5, f6, f7, f8, f9, f10, v]))) := propext ⟨fun h => ⟨h.1.2.2, h.2⟩, fun h => ⟨⟨rfl, by simp, h.1⟩, h.2⟩⟩
theorem gx10_0 {f0 f1 f2 f3 f4 f5 f6 f7 f8 f9 f10 f11 f12 f13 f14 f15 f16 f17 f18 f19 f20 f21 f22 f23 f24 f25 f26 f27 f28 : Value} {K : Value → Prop} : gF (some (.inr (10, [f0, f1, f2, f3, f4, f5, f6, f7, f8, f9, f10, f11, f12, f13, f14, f15, f16, f17, f18, f19, f20, f21, f22, f23, f24, f25, f26, f27, f28]))) 10 0 K = K f0 := propext ⟨fun h => h.2, fun h => ⟨rfl, h⟩⟩
theorem px10_0 {f0 f1 f2 f3 f4 f5 f6 f7 f8 f9 f10 f11 f12 f13 f14 f15 f16 f17 f18 f19 f20 f21 f22 f23 f24 f25 f26 f27 f28 v : Value} {ok : Prop} {K : HC → Prop} : pF (some (.inr (10, [f0, f1, f2, f3, f4, f5, f6, f7, f8, f9, f10, f11, f12, f13, f14, f15, f16, f17, f18, f19, f20, f21, f22, f23, f24, f25, f26, f27, f28]))) 10 0 ok v K = (ok ∧ K (.inr (10, [v, f1, f2, f3, f4, f5, f6, f7, f8, f9, f10, f11, f12, f13, f14, f15, f16, f17, f18, f19, f20, f21, f22, f23, f24, f25, f26, f27, f28]))) := propext ⟨fun h => ⟨h.1.2.2, h.2⟩, fun h => ⟨⟨rfl, by simp, h.1⟩, h.2⟩⟩
theorem gx10_1 {f0 f1 f2 f3 f4 f5 f6 f7 f8 f9 f10 f11 f12 f13 f14 f15 f16 f17 f18 f19 f20 f21 f22 f23 f24 f25 f26 f27 f28 : Value} {K : Value → Prop} : gF (some (.inr (10, [f0, f1, f2, f3, f4, f5, f6, f7, f8, f9, f10, f11, f12, f13, f14, f15, f16, f17, f18, f19, f20, f21, f22, f23, f24, f25, f26, f27, f28]))) 10 1 K = K f1 := propext ⟨fun h => h.2, fun h => ⟨rfl, h⟩⟩
theorem px10_1 {f0 f1 f2 f3 f4 f5 f6 f7 f8 f9 f10 f11 f12 f13 f14 f15 f16 f17 f18 f19 f20 f21 f22 f23 f24 f25 f26 f27 f28 v : Value} {ok : Prop} {K : HC → Prop} : pF (some (.inr (10, [f0, f1, f2, f3, f4, f5, f6, f7, f8, f9, f10, f11, f12, f13, f14, f15, f16, f17, f18, f19, f20, f21, f22, f23, f24, f25, f26, f27, f28]))) 10 1 ok v K = (ok ∧ K (.inr (10, [f0, v, f2, f3, f4, f5, f6, f7, f8, f9, f10, f11, f12, f13, f14, f15, f16, f17, f18, f19, f20, f21, f22, f23, f24, f25, f26, f27, f28]))) := propext ⟨fun h => ⟨h.1.2.2, h.2⟩, fun h => ⟨⟨rfl, by simp, h.1⟩, h.2⟩⟩
theorem gx10_2 {f0 f1 f2 f3 f4 f5 f6 f7 f8 f9 f10 f11 f12 f13 f14 f15 f16 f17 f18 f19 f20 f21 f22 f23 f24 f25 f26 f27 f28 : Value} {K : Value → Prop} : gF (some (.inr (10, [f0, f1, f2, f3, f4, f5, f6, f7, f8, f9, f10, f11, f12, f13, f14, f15, f16, f17, f18, f19, f20, f21, f22, f23, f24, f25, f26, f27, f28]))) 10 2 K = K f2 := propext ⟨fun h => h.2, fun h => ⟨rfl, h⟩⟩
theorem px10_2 {f0 f1 f2 f3 f4 f5 f6 f7 f8 f9 f10 f11 f12 f13 f14 f15 f16 f17 f18 f19 f20 f21 f22 f23 f24 f25 f26 f27 f28 v : Value} {ok : Prop} {K : HC → Prop} : pF (some (.inr (10, [f0, f1, f2, f3, f4, f5, f6, f7, f8, f9, f10, f11, f12, f13, f14, f15, f16, f17, f18, f19, f20, f21, f22, f23, f24, f25, f26, f27, f28]))) 10 2 ok v K = (ok ∧ K (.inr (10, [f0, f1, v, f3, f4, f5, f6, f7, f8, f9, f10, f11, f12, f13, f14, f15, f16, f17, f18, f19, f20, f21, f22, f23, f24, f25, f26, f27, f28]))) := propext ⟨fun h => ⟨h.1.2.2, h.2⟩, fun h => ⟨⟨rfl, by simp, h.1⟩, h.2⟩⟩
theorem gx10_3 {f0 f1 f2 f3 f4 f5 f6 f7 f8 f9 f10 f11 f12 f13 f14 f15 f16 f17 f18 f19 f20 f21 f22 f23 f24 f25 f26 f27 f28 : Value} {K : Value → Prop} : gF (some (.inr (10, [f0, f1, f2, f3, f4, f5, f6, f7, f8, f9, f10, f11, f12, f13, f14, f15, f16, f17, f18, f19, f20, f21, f22, f23, f24, f25, f26, f27, f28]))) 10 3 K = K f3 := propext ⟨fun h => h.2, fun h => ⟨rfl, h⟩⟩
theorem px10_3 {f0 f1 f2 f3 f4 f5 f6 f7 f8 f9 f10 f11 f12 f13 f14 f15 f16 f17 f18 f19 f20 f21 f22 f23 f24 f25 f26 f27 f28 v : Value} {ok : Prop} {K : HC → Prop} : pF (some (.inr (10, [f0, f1, f2, f3, f4, f5, f6, f7, f8, f9, f10, f11, f12, f13, f14, f15, f16, f17, f18, f19, f20, f21, f22, f23, f24, f25, f26, f27, f28]))) 10 3 ok v K = (ok ∧ K (.inr (10, [f0, f1, f2, v, f4, f5, f6, f7, f8, f9, f10, f11, f12, f13, f14, f15, f16, f17, f18, f19, f20, f21, f22, f23, f24, f25, f26, f27, f28]))) := propext ⟨fun h => ⟨h.1.2.2, h.2⟩, fun h => ⟨⟨rfl, by simp, h.1⟩, h.2⟩⟩
theorem gx10_4 {f0 f1 f2 f3 f4 f5 f6 f7 f8 f9 f10 f11 f12 f13 f14 f15 f16 f17 f18 f19 f20 f21 f22 f23 f24 f25 f26 f27 f28 : Value} {K : Value → Prop} : gF (some (.inr (10, [f0, f1, f2, f3, f4, f5, f6, f7, f8, f9, f10, f11, f12, f13, f14, f15, f16, f17, f18, f19, f20, f21, f22, f23, f24, f25, f26, f27, f28]))) 10 4 K = K f4 := propext ⟨fun h => h.2, fun h => ⟨rfl, h⟩⟩
theorem px10_4 {f0 f1 f2 f3 f4 f5 f6 f7 f8 f9 f10 f11 f12 f13 f14 f15 f16 f17 f18 f19 f20 f21 f22 f23 f24 f25 f26 f27 f28 v : Value} {ok : Prop} {K : HC → Prop} : pF (some (.inr (10, [f0, f1, f2, f3, f4, f5, f6, f7, f8, f9, f10, f11, f12, f13, f14, f15, f16, f17, f18, f19, f20, f21, f22, f23, f24, f25, f26, f27, f28]))) 10 4 ok v K = (ok ∧ K (.inr (10, [f0, f1, f2, f3, v, f5, f6, f7, f8, f9, f10, f11, f12, f13, f14, f15, f16, f17, f18, f19, f20, f21, f22, f23, f24, f25, f26, f27, f28]))) := propext ⟨fun h => ⟨h.1.2.2, h.2⟩, fun h => ⟨⟨rfl, by simp, h.1⟩, h.2⟩⟩
theorem gx10_5 {f0 f1 f2 f3 f4 f5 f6 f7 f8 f9 f10 f11 f12 f13 f14 f15 f16 f17 f18 f19 f20 f21 f22 f23 f24 f25 f26 f27 f28 : Value} {K : Value → Prop} : gF (some (.inr (10, [f0, f1, f2, f3, f4, f5, f6, f7, f8, f9, f10, f11, f12, f13, f14, f15, f16, f17, f18, f19, f20, f21, f22, f23, f24, f25, f26, f27, f28]))) 10 5 K = K f5 := propext ⟨fun h => h.2, fun h => ⟨rfl, h⟩⟩
theorem px10_5 {f0 f1 f2 f3 f4 f5 f6 f7 f8 f9 f10 f11 f12 f13 f14 f15 f16 f17 f18 f19 f20 f21 f22 f23 f24 f25 f26 f27 f28 v : Value} {ok : Prop} {K : HC → Prop} : pF (some (.inr (10, [f0, f1, f2, f3, f4, f5, f6, f7, f8, f9, f10, f11, f12, f13, f14, f15, f16, f17, f18, f19, f20, f21, f22, f23, f24, f25, f26, f27, f28]))) 10 5 ok v K = (ok ∧ K (.inr (10, [f0, f1, f2, f3, f4, v, f6, f7, f8, f9, f10, f11, f12, f13, f14, f15, f16, f17, f18, f19, f20, f21, f22, f23, f24, f25, f26, f27, f28]))) := propext ⟨fun h => ⟨h.1.2.2, h.2⟩, fun h => ⟨⟨rfl, by simp, h.1⟩, h.2⟩⟩
theorem gx10_6 {f0 f1 f2 f3 f4 f5 f6 f7 f8 f9 f10 f11 f12 f13 f14 f15 f16 f17 f18 f19 f20 f21 f22 f23 f24 f25 f26 f27 f28 : Value} {K : Value → Prop} : gF (some (.inr (10, [f0, f1, f2, f3, f4, f5, f6, f7, f8, f9, f10, f11, f12, f13, f14, f15, f16, f17, f18, f19, f20, f21, f22, f23, f24, f25, f26, f27, f28]))) 10 6 K = K f6 := propext ⟨fun h => h.2, fun h => ⟨rfl, h⟩⟩
theorem px10_6 {f0 f1 f2 f3 f4 f5 f6 f7 f8 f9 f10 f11 f12 f13 f14 f15 f16 f17 f18 f19 f20 f21 f22 f23 f24 f25 f26 f27 f28 v : Value} {ok : Prop} {K : HC → Prop} : pF (some (.inr (10, [f0, f1, f2, f3, f4, f5, f6, f7, f8, f9, f10, f11, f12, f13, f14, f15, f16, f17, f18, f19, f20, f21, f22, f23, f24, f25, f26, f27, f28]))) 10 6 ok v K = (ok ∧ K (.inr (10, [f0, f1, f2, f3, f4, f5, v, f7, f8, f9, f10, f11, f12, f13, f14, f15, f16, f17, f18, f19, f20, f21, f22, f23, f24, f25, f26, f27, f28]))) := propext ⟨fun h => ⟨h.1.2.2, h.2⟩, fun h => ⟨⟨rfl, by simp, h.1⟩, h.2⟩⟩
theorem gx10_7 {f0 f1 f2 f3 f4 f5 f6 f7 f8 f9 f10 f11 f12 f13 f14 f15 f16 f17 f18 f19 f20 f21 f22 f23 f24 f25 f26 f27 f28 : Value} {K : Value → Prop} : gF (some (.inr (10, [f0, f1, f2, f3, f4, f5, f6, f7, f8, f9, f10, f11, f12, f13, f14, f15, f16, f17, f18, f19, f20, f21, f22, f23, f24, f25, f26, f27, f28]))) 10 7 K = K f7 := propext ⟨fun h => h.2, fun h => ⟨rfl, h⟩⟩
theorem px10_7 {f0 f1 f2 f3 f4 f5 f6 f7 f8 f9 f10 f11 f12 f13 f14 f15 f16 f17 f18 f19 f20 f21 f22 f23 f24 f25 f26 f27 f28 v : Value} {ok : Prop} {K : HC → Prop} : pF (some (.inr (10, [f0, f1, f2, f3, f4, f5, f6, f7, f8, f9, f10, f11, f12, f13, f14, f15, f16, f17, f18, f19, f20, f21, f22, f23, f24, f25, f26, f27, f28]))) 10 7 ok v K = (ok ∧ K (.inr (10, [f0, f1, f2, f3, f4, f5, f6, v, f8, f9, f10, f11, f12, f13, f14, f15, f16, f17, f18, f19, f20, f21, f22, f23, f24, f25, f26, f27, f28]))) := propext ⟨fun h => ⟨h.1.2.2, h.2⟩, fun h => ⟨⟨rfl, by simp, h.1⟩, h.2⟩⟩
theorem gx10_8 {f0 f1 f2 f3 f4 f5 f6 f7 f8 f9 f10 f11 f12 f13 f14 f15 f16 f17 f18 f19 f20 f21 f22 f23 f24 f25 f26 f27 f28 : Value} {K : Value → Prop} : gF (some (.inr (10, [f0, f1, f2, f3, f4, f5, f6, f7, f8, f9, f10, f11, f12, f13, f14, f15, f16, f17, f18, f19, f20, f21, f22, f23, f24, f25, f26, f27, f28]))) 10 8 K = K f8 := propext ⟨fun h => h.2, fun h => ⟨rfl, h⟩⟩
theorem px10_8 {f0 f1 f2 f3 f4 f5 f6 f7 f8 f9 f10 f11 f12 f13 f14 f15 f16 f17 f18 f19 f20 f21 f22 f23 f24 f25 f26 f27 f28 v : Value} {ok : Prop} {K : HC → Prop} : pF (some (.inr (10, [f0, f1, f2, f3, f4, f5, f6, f7, f8, f9, f10, f11, f12, f13, f14, f15, f16, f17, f18, f19, f20, f21, f22, f23, f24, f25, f26, f27, f28]))) 10 8 ok v K = (ok ∧ K (.inr (10, [f0, f1, f2, f3, f4, f5, f6, f7, v, f9, f10, f11, f12, f13, f14, f15, f16, f17, f18, f19, f20, f21, f22, f23, f24, f25, f26, f27, f28]))) := propext ⟨fun h => ⟨h.1.2.2, h.2⟩, fun h => ⟨⟨rfl, by simp, h.1⟩, h.2⟩⟩
theorem gx10_9 {f0 f1 f2 f3 f4 f5 f6 f7 f8 f9 f10 f11 f12 f13 f14 f15 f16 f17 f18 f19 f20 f21 f22 f23 f24 f25 f26 f27 f28 : Value} {K : Value → Prop} : gF (some (.inr (10, [f0, f1, f2, f3, f4, f5, f6, f7, f8, f9, f10, f11, f12, f13, f14, f15, f16, f17, f18, f19, f20, f21, f22, f23, f24, f25, f26, f27, f28]))) 10 9 K = K f9 := propext ⟨fun h => h.2, fun h => ⟨rfl, h⟩⟩
theorem px10_9 {f0 f1 f2 f3 f4 f5 f6 f7 f8 f9 f10 f11 f12 f13 f14 f15 f16 f17 f18 f19 f20 f21 f22 f23 f24 f25 f26 f27 f28 v : Value} {ok : Prop} {K : HC → Prop} : pF (some (.inr (10, [f0, f1, f2, f3, f4, f5, f6, f7, f8, f9, f10, f11, f12, f13, f14, f15, f16, f17, f18, f19, f20, f21, f22, f23, f24, f25, f26, f27, f28]))) 10 9 ok v K = (ok ∧ K (.inr (10, [f0, f1, f2, f3, f4, f5, f6, f7, f8, v, f10, f11, f12, f13, f14, f15, f16, f17, f18, f19, f20, f21, f22, f23, f24, f25, f26, f27, f28]))) := propext ⟨fun h => ⟨h.1.2.2, h.2⟩, fun h => ⟨⟨rfl, by simp, h.1⟩, h.2⟩⟩
theorem gx10_10 {f0 f1 f2 f3 f4 f5 f6 f7 f8 f9 f10 f11 f12 f13 f14 f15 f16 f17 f18 f19 f20 f21 f22 f23 f24 f25 f26 f27 f28 : Value} {K : Value → Prop} : gF (some (.inr (10, [f0, f1, f2, f3, f4, f5, f6, f7, f8, f9, f10, f11, f12, f13, f14, f15, f16, f17, f18, f19, f20, f21, f22, f23, f24, f25, f26, f27, f28]))) 10 10 K = K f10 := propext ⟨fun h => h.2, fun h => ⟨rfl, h⟩⟩
theorem px10_10 {f0 f1 f2 f3 f4 f5 f6 f7 f8 f9 f10 f11 f12 f13 f14 f15 f16 f17 f18 f19 f20 f21 f22 f23 f24 f25 f26 f27 f28 v : Value} {ok : Prop} {K : HC → Prop} : pF (some (.inr (10, [f0, f1, f2, f3, f4, f5, f6, f7, f8, f9, f10, f11, f12, f13, f14, f15, f16, f17, f18, f19, f20, f21, f22, f23, f24, f25, f26, f27, f28]))) 10 10 ok v K = (ok ∧ K (.inr (10, [f0, f1, f2, f3, f4, f5, f6, f7, f8, f9, v, f11, f12, f13, f14, f15, f16, f17, f18, f19, f20, f21, f22, f23, f24, f25, f26, f27, f28]))) := propext ⟨fun h => ⟨h.1.2.2, h.2⟩, fun h => ⟨⟨rfl, by simp, h.1⟩, h.2⟩⟩
theorem gx10_11 {f0 f1 f2 f3 f4 f5 f6 f7 f8 f9 f10 f11 f12 f13 f14 f15 f16 f17 f18 f19 f20 f21 f22 f23 f24 f25 f26 f27 f28 : Value} {K : Value → Prop} : gF (some (.inr (10, [f0, f1, f2, f3, f4, f5, f6, f7, f8, f9, f10, f11, f12, f13, f14, f15, f16, f17, f18, f19, f20, f21, f22, f23, f24, f25, f26, f27, f28]))) 10 11 K = K f11 := propext ⟨fun h => h.2, fun h => ⟨rfl, h⟩⟩
theorem px10_11 {f0 f1 f2 f3 f4 f5 f6 f7 f8 f9 f10 f11 f12 f13 f14 f15 f16 f17 f18 f19 f20 f21 f22 f23 f24 f25 f26 f27 f28 v : Value} {ok : Prop} {K : HC → Prop} : pF (some (.inr (10, [f0, f1, f2, f3, f4, f5, f6, f7, f8, f9, f10, f11, f12, f13, f14, f15, f16, f17, f18, f19, f20, f21, f22, f23, f24, f25, f26, f27, f28]))) 10 11 ok v K = (ok ∧ K (.inr (10, [f0, f1, f2, f3, f4, f5, f6, f7, f8, f9, f10, v, f12, f13, f14, f15, f16, f17, f18, f19, f20, f21, f22, f23, f24, f25, f26, f27, f28]))) := propext ⟨fun h => ⟨h.1.2.2, h.2⟩, fun h => ⟨⟨rfl, by simp, h.1⟩, h.2⟩⟩
theorem gx10_12 {f0 f1 f2 f3 f4 f5 f6 f7 f8 f9 f10 f11 f12 f13 f14 f15 f16 f17 f18 f19 f20 f21 f22 f23 f24 f25 f26 f27 f28 : Value} {K : Value → Prop} : gF (some (.inr (10, [f0, f1, f2, f3, f4, f5, f6, f7, f8, f9, f10, f11, f12, f13, f14, f15, f16, f17, f18, f19, f20, f21, f22, f23, f24, f25, f26, f27, f28]))) 10 12 K = K f12 := propext ⟨fun h => h.2, fun h => ⟨rfl, h⟩⟩
theorem px10_12 {f0 f1 f2 f3 f4 f5 f6 f7 f8 f9 f10 f11 f12 f13 f14 f15 f16 f17 f18 f19 f20 f21 f22 f23 f24 f25 f26 f27 f28 v : Value} {ok : Prop} {K : HC → Prop} : pF (some (.inr (10, [f0, f1, f2, f3, f4, f5, f6, f7, f8, f9, f10, f11, f12, f13, f14, f15, f16, f17, f18, f19, f20, f21, f22, f23, f24, f25, f26, f27, f28]))) 10 12 ok v K = (ok ∧ K (.inr (10, [f0, f1, f2, f3, f4, f5, f6, f7, f8, f9, f10, f11, v, f13, f14, f15, f16, f17, f18, f19, f20, f21, f22, f23, f24, f25, f26, f27, f28]))) := propext ⟨fun h => ⟨h.1.2.2, h.2⟩, fun h => ⟨⟨rfl, by simp, h.1⟩, h.2⟩⟩
theorem gx10_13 {f0 f1 f2 f3 f4 f5 f6 f7 f8 f9 f10 f11 f12 f13 f14 f15 f16 f17 f18 f19 f20 f21 f22 f23 f24 f25 f26 f27 f28 : Value} {K : Value → Prop} : gF (some (.inr (10, [f0, f1, f2, f3, f4, f5, f6, f7, f8, f9, f10, f11, f12, f13, f14, f15, f16, f17, f18, f19, f20, f21, f22, f23, f24, f25, f26, f27, f28]))) 10 13 K = K f13 := propext ⟨fun h => h.2, fun h => ⟨rfl, h⟩⟩
theorem px10_13 {f0 f1 f2 f3 f4 f5 f6 f7 f8 f9 f10 f11 f12 f13 f14 f15 f16 f17 f18 f19 f20 f21 f22 f23 f24 f25 f26 f27 f28 v : Value} {ok : Prop} {K : HC → Prop} : pF (some (.inr (10, [f0, f1, f2, f3, f4, f5, f6, f7, f8, f9, f10, f11, f12, f13, f14, f15, f16, f17, f18, f19, f20, f21, f22, f23, f24, f25, f26, f27, f28]))) 10 13 ok v K = (ok ∧ K (.inr (10, [f0, f1, f2, f3, f4, f5, f6, f7, f8, f9, f10, f11, f12, v, f14, f15, f16, f17, f18, f19, f20, f21, f22, f23, f24, f25, f26, f27, f28]))) := propext ⟨fun h => ⟨h.1.2.2, h.2⟩, fun h => ⟨⟨rfl, by simp, h.1⟩, h.2⟩⟩
theorem gx10_14 {f0 f1 f2 f3 f4 f5 f6 f7 f8 f9 f10 f11 f12 f13 f14 f15 f16 f17 f18 f19 f20 f21 f22 f23 f24 f25 f26 f27 f28 : Value} {K : Value → Prop} : gF (some (.inr (10, [f0, f1, f2, f3, f4, f5, f6, f7, f8, f9, f10, f11, f12, f13, f14, f15, f16, f17, f18, f19, f20, f21, f22, f23, f24, f25, f26, f27, f28]))) 10 14 K = K f14 := propext ⟨fun h => h.2, fun h => ⟨rfl, h⟩⟩
theorem px10_14 {f0 f1 f2 f3 f4 f5 f6 f7 f8 f9 f10 f11 f12 f13 f14 f15 f16 f17 f18 f19 f20 f21 f22 f23 f24 f25 f26 f27 f28 v : Value} {ok : Prop} {K : HC → Prop} : pF (some (.inr (10, [f0, f1, f2, f3, f4, f5, f6, f7, f8, f9, f10, f11, f12, f13, f14, f15, f16, f17, f18, f19, f20, f21, f22, f23, f24, f25, f26, f27, f28]))) 10 14 ok v K = (ok ∧ K (.inr (10, [f0, f1, f2, f3, f4, f5, f6, f7, f8, f9, f10, f11, f12, f13, v, f15, f16, f17, f18, f19, f20, f21, f22, f23, f24, f25, f26, f27, f28]))) := propext ⟨fun h => ⟨h.1.2.2, h.2⟩, fun h => ⟨⟨rfl, by simp, h.1⟩, h.2⟩⟩
theorem gx10_15 {f0 f1 f2 f3 f4 f5 f6 f7 f8 f9 f10 f11 f12 f13 f14 f15 f16 f17 f18 f19 f20 f21 f22 f23 f24 f25 f26 f27 f28 : Value} {K : Value → Prop} : gF (some (.inr (10, [f0, f1, f2, f3, f4, f5, f6, f7, f8, f9, f10, f11, f12, f13, f14, f15, f16, f17, f18, f19, f20, f21, f22, f23, f24, f25, f26, f27, f28]))) 10 15 K = K f15 := propext ⟨fun h => h.2, fun h => ⟨rfl, h⟩⟩
theorem px10_15 {f0 f1 f2 f3 f4 f5 f6 f7 f8 f9 f10 f11 f12 f13 f14 f15 f16 f17 f18 f19 f20 f21 f22 f23 f24 f25 f26 f27 f28 v : Value} {ok : Prop} {K : HC → Prop} : pF (some (.inr (10, [f0, f1, f2, f3, f4, f5, f6, f7, f8, f9, f10, f11, f12, f13, f14, f15, f16, f17, f18, f19, f20, f21, f22, f23, f24, f25, f26, f27, f28]))) 10 15 ok v K = (ok ∧ K (.inr (10, [f0, f1, f2, f3, f4, f5, f6, f7, f8, f9, f10, f11, f12, f13, f14, v, f16, f17, f18, f19, f20, f21, f22, f23, f24, f25, f26, f27, f28]))) := propext ⟨fun h => ⟨h.1.2.2, h.2⟩, fun h => ⟨⟨rfl, by simp, h.1⟩, h.2⟩⟩
theorem gx10_16 {f0 f1 f2 f3 f4 f5 f6 f7 f8 f9 f10 f11 f12 f13 f14 f15 f16 f17 f18 f19 f20 f21 f22 f23 f24 f25 f26 f27 f28 : Value} {K : Value → Prop} : gF (some (.inr (10, [f0, f1, f2, f3, f4, f5, f6, f7, f8, f9, f10, f11, f12, f13, f14, f15, f16, f17, f18, f19, f20, f21, f22, f23, f24, f25, f26, f27, f28]))) 10 16 K = K f16 := propext ⟨fun h => h.2, fun h => ⟨rfl, h⟩⟩
theorem px10_16 {f0 f1 f2 f3 f4 f5 f6 f7 f8 f9 f10 f11 f12 f13 f14 f15 f16 f17 f18 f19 f20 f21 f22 f23 f24 f25 f26 f27 f28 v : Value} {ok : Prop} {K : HC → Prop} : pF (some (.inr (10, [f0, f1, f2, f3, f4, f5, f6, f7, f8, f9, f10, f11, f12, f13, f14, f15, f16, f17, f18, f19, f20, f21, f22, f23, f24, f25, f26, f27, f28]))) 10 16 ok v K = (ok ∧ K (.inr (10, [f0, f1, f2, f3, f4, f5, f6, f7, f8, f9, f10, f11, f12, f13, f14, f15, v, f17, f18, f19, f20, f21, f22, f23, f24, f25, f26, f27, f28]))) := propext ⟨fun h => ⟨h.1.2.2, h.2⟩, fun h => ⟨⟨rfl, by simp, h.1⟩, h.2⟩⟩
theorem gx10_17 {f0 f1 f2 f3 f4 f5 f6 f7 f8 f9 f10 f11 f12 f13 f14 f15 f16 f17 f18 f19 f20 f21 f22 f23 f24 f25 f26 f27 f28 : Value} {K : Value → Prop} : gF (some (.inr (10, [f0, f1, f2, f3, f4, f5, f6, f7, f8, f9, f10, f11, f12, f13, f14, f15, f16, f17, f18, f19, f20, f21, f22, f23, f24, f25, f26, f27, f28]))) 10 17 K = K f17 := propext ⟨fun h => h.2, fun h => ⟨rfl, h⟩⟩
theorem px10_17 {f0 f1 f2 f3 f4 f5 f6 f7 f8 f9 f10 f11 f12 f13 f14 f15 f16 f17 f18 f19 f20 f21 f22 f23 f24 f25 f26 f27 f28 v : Value} {ok : Prop} {K : HC → Prop} : pF (some (.inr (10, [f0, f1, f2, f3, f4, f5, f6, f7, f8, f9, f10, f11, f12, f13, f14, f15, f16, f17, f18, f19, f20, f21, f22, f23, f24, f25, f26, f27, f28]))) 10 17 ok v K = (ok ∧ K (.inr (10, [f0, f1, f2, f3, f4, f5, f6, f7, f8, f9, f10, f11, f12, f13, f14, f15, f16, v, f18, f19, f20, f21, f22, f23, f24, f25, f26, f27, f28]))) := propext ⟨fun h => ⟨h.1.2.2, h.2⟩, fun h => ⟨⟨rfl, by simp, h.1⟩, h.2⟩⟩
theorem gx10_18 {f0 f1 f2 f3 f4 f5 f6 f7 f8 f9 f10 f11 f12 f13 f14 f15 f16 f17 f18 f19 f20 f21 f22 f23 f24 f25 f26 f27 f28 : Value} {K : Value → Prop} : gF (some (.inr (10, [f0, f1, f2, f3, f4, f5, f6, f7, f8, f9, f10, f11, f12, f13, f14, f15, f16, f17, f18, f19, f20, f21, f22, f23, f24, f25, f26, f27, f28]))) 10 18 K = K f18 := propext ⟨fun h => h.2, fun h => ⟨rfl, h⟩⟩
theorem px10_18 {f0 f1 f2 f3 f4 f5 f6 f7 f8 f9 f10 f11 f12 f13 f14 f15 f16 f17 f18 f19 f20 f21 f22 f23 f24 f25 f26 f27 f28 v : Value} {ok : Prop} {K : HC → Prop} : pF (some (.inr (10, [f0, f1, f2, f3, f4, f5, f6, f7, f8, f9, f10, f11, f12, f13, f14, f15, f16, f17, f18, f19, f20, f21, f22, f23, f24, f25, f26, f27, f28]))) 10 18 ok v K = (ok ∧ K (.inr (10, [f0, f1, f2, f3, f4, f5, f6, f7, f8, f9, f10, f11, f12, f13, f14, f15, f16, f17, v, f19, f20, f21, f22, f23, f24, f25, f26, f27, f28]))) := propext ⟨fun h => ⟨h.1.2.2, h.2⟩, fun h => ⟨⟨rfl, by simp, h.1⟩, h.2⟩⟩
theorem gx10_19 {f0 f1 f2 f3 f4 f5 f6 f7 f8 f9 f10 f11 f12 f13 f14 f15 f16 f17 f18 f19 f20 f21 f22 f23 f24 f25 f26 f27 f28 : Value} {K : Value → Prop} : gF (some (.inr (10, [f0, f1, f2, f3, f4, f5, f6, f7, f8, f9, f10, f11, f12, f13, f14, f15, f16, f17, f18, f19, f20, f21, f22, f23, f24, f25, f26, f27, f28]))) 10 19 K = K f19 := propext ⟨fun h => h.2, fun h => ⟨rfl, h⟩⟩
theorem px10_19 {f0 f1 f2 f3 f4 f5 f6 f7 f8 f9 f10 f11 f12 f13 f14 f15 f16 f17 f18 f19 f20 f21 f22 f23 f24 f25 f26 f27 f28 v : Value} {ok : Prop} {K : HC → Prop} : pF (some (.inr (10, [f0, f1, f2, f3, f4, f5, f6, f7, f8, f9, f10, f11, f12, f13, f14, f15, f16, f17, f18, f19, f20, f21, f22, f23, f24, f25, f26, f27, f28]))) 10 19 ok v K = (ok ∧ K (.inr (10, [f0, f1, f2, f3, f4, f5, f6, f7, f8, f9, f10, f11, f12, f13, f14, f15, f16, f17, f18, v, f20, f21, f22, f23, f24, f25, f26, f27, f28]))) := propext ⟨fun h => ⟨h.1.2.2, h.2⟩, fun h => ⟨⟨rfl, by simp, h.1⟩, h.2⟩⟩
theorem gx10_20 {f0 f1 f2 f3 f4 f5 f6 f7 f8 f9 f10 f11 f12 f13 f14 f15 f16 f17 f18 f19 f20 f21 f22 f23 f24 f25 f26 f27 f28 : Value} {K : Value → Prop} : gF (some (.inr (10, [f0, f1, f2, f3, f4, f5, f6, f7, f8, f9, f10, f11, f12, f13, f14, f15, f16, f17, f18, f19, f20, f21, f22, f23, f24, f25, f26, f27, f28]))) 10 20 K = K f20 := propext ⟨fun h => h.2, fun h => ⟨rfl, h⟩⟩
theorem px10_20 {f0 f1 f2 f3 f4 f5 f6 f7 f8 f9 f10 f11 f12 f13 f14 f15 f16 f17 f18 f19 f20 f21 f22 f23 f24 f25 f26 f27 f28 v : Value} {ok : Prop} {K : HC → Prop} : pF (some (.inr (10, [f0, f1, f2, f3, f4, f5, f6, f7, f8, f9, f10, f11, f12, f13, f14, f15, f16, f17, f18, f19, f20, f21, f22, f23, f24, f25, f26, f27, f28]))) 10 20 ok v K = (ok ∧ K (.inr (10, [f0, f1, f2, f3, f4, f5, f6, f7, f8, f9, f10, f11, f12, f13, f14, f15, f16, f17, f18, f19, v, f21, f22, f23, f24, f25, f26, f27, f28]))) := propext ⟨fun h => ⟨h.1.2.2, h.2⟩, fun h => ⟨⟨rfl, by simp, h.1⟩, h.2⟩⟩
theorem gx10_21 {f0 f1 f2 f3 f4 f5 f6 f7 f8 f9 f10 f11 f12 f13 f14 f15 f16 f17 f18 f19 f20 f21 f22 f23 f24 f25 f26 f27 f28 : Value} {K : Value → Prop} : gF (some (.inr (10, [f0, f1, f2, f3, f4, f5, f6, f7, f8, f9, f10, f11, f12, f13, f14, f15, f16, f17, f18, f19, f20, f21, f22, f23, f24, f25, f26, f27, f28]))) 10 21 K = K f21 := propext ⟨fun h => h.2, fun h => ⟨rfl, h⟩⟩
theorem px10_21 {f0 f1 f2 f3 f4 f5 f6 f7 f8 f9 f10 f11 f12 f13 f14 f15 f16 f17 f18 f19 f20 f21 f22 f23 f24 f25 f26 f27 f28 v : Value} {ok : Prop} {K : HC → Prop} : pF (some (.inr (10, [f0, f1, f2, f3, f4, f5, f6, f7, f8, f9, f10, f11, f12, f13, f14, f15, f16, f17, f18, f19, f20, f21, f22, f23, f24, f25, f26, f27, f28]))) 10 21 ok v K = (ok ∧ K (.inr (10, [f0, f1, f2, f3, f4, f5, f6, f7, f8, f9, f10, f11, f12, f13, f14, f15, f16, f17, f18, f19, f20, v, f22, f23, f24, f25, f26, f27, f28]))) := propext ⟨fun h => ⟨h.1.2.2, h.2⟩, fun h => ⟨⟨rfl, by simp, h.1⟩, h.2⟩⟩
theorem gx10_22 {f0 f1 f2 f3 f4 f5 f6 f7 f8 f9 f10 f11 f12 f13 f14 f15 f16 f17 f18 f19 f20 f21 f22 f23 f24 f25 f26 f27 f28 : Value} {K : Value → Prop} : gF (some (.inr (10, [f0, f1, f2, f3, f4, f5, f6, f7, f8, f9, f10, f11, f12, f13, f14, f15, f16, f17, f18, f19, f20, f21, f22, f23, f24, f25, f26, f27, f28]))) 10 22 K = K f22 := propext ⟨fun h => h.2, fun h => ⟨rfl, h⟩⟩
theorem px10_22 {f0 f1 f2 f3 f4 f5 f6 f7 f8 f9 f10 f11 f12 f13 f14 f15 f16 f17 f18 f19 f20 f21 f22 f23 f24 f25 f26 f27 f28 v : Value} {ok : Prop} {K : HC → Prop} : pF (some (.inr (10, [f0, f1, f2, f3, f4, f5, f6, f7, f8, f9, f10, f11, f12, f13, f14, f15, f16, f17, f18, f19, f20, f21, f22, f23, f24, f25, f26, f27, f28]))) 10 22 ok v K = (ok ∧ K (.inr (10, [f0, f1, f2, f3, f4, f5, f6, f7, f8, f9, f10, f11, f12, f13, f14, f15, f16, f17, f18, f19, f20, f21, v, f23, f24, f25, f26, f27, f28]))) := propext ⟨fun h => ⟨h.1.2.2, h.2⟩, fun h => ⟨⟨rfl, by simp, h.1⟩, h.2⟩⟩
theorem gx10_23 {f0 f1 f2 f3 f4 f5 f6 f7 f8 f9 f10 f11 f12 f13 f14 f15 f16 f17 f18 f19 f20 f21 f22 f23 f24 f25 f26 f27 f28 : Value} {K : Value → Prop} : gF (some (.inr (10, [f0, f1, f2, f3, f4, f5, f6, f7, f8, f9, f10, f11, f12, f13, f14, f15, f16, f17, f18, f19, f20, f21, f22, f23, f24, f25, f26, f27, f28]))) 10 23 K = K f23 := propext ⟨fun h => h.2, fun h => ⟨rfl, h⟩⟩
theorem px10_23 {f0 f1 f2 f3 f4 f5 f6 f7 f8 f9 f10 f11 f12 f13 f14 f15 f16 f17 f18 f19 f20 f21 f22 f23 f24 f25 f26 f27 f28 v : Value} {ok : Prop} {K : HC → Prop} : pF (some (.inr (10, [f0, f1, f2, f3, f4, f5, f6, f7, f8, f9, f10, f11, f12, f13, f14, f15, f16, f17, f18, f19, f20, f21, f22, f23, f24, f25, f26, f27, f28]))) 10 23 ok v K = (ok ∧ K (.inr (10, [f0, f1, f2, f3, f4, f5, f6, f7, f8, f9, f10, f11, f12, f13, f14, f15, f16, f17, f18, f19, f20, f21, f22, v, f24, f25, f26, f27, f28]))) := propext ⟨fun h => ⟨h.1.2.2, h.2⟩, fun h => ⟨⟨rfl, by simp, h.1⟩, h.2⟩⟩
theorem gx10_24 {f0 f1 f2 f3 f4 f5 f6 f7 f8 f9 f10 f11 f12 f13 f14 f15 f16 f17 f18 f19 f20 f21 f22 f23 f24 f25 f26 f27 f28 : Value} {K : Value → Prop} : gF (some (.inr (10, [f0, f1, f2, f3, f4, f5, f6, f7, f8, f9, f10, f11, f12, f13, f14, f15, f16, f17, f18, f19, f20, f21, f22, f23, f24, f25, f26, f27, f28]))) 10 24 K = K f24 := propext ⟨fun h => h.2, fun h => ⟨rfl, h⟩⟩
theorem px10_24 {f0 f1 f2 f3 f4 f5 f6 f7 f8 f9 f10 f11 f12 f13 f14 f15 f16 f17 f18 f19 f20 f21 f22 f23 f24 f25 f26 f27 f28 v : Value} {ok : Prop} {K : HC → Prop} : pF (some (.inr (10, [f0, f1, f2, f3, f4, f5, f6, f7, f8, f9, f10, f11, f12, f13, f14, f15, f16, f17, f18, f19, f20, f21, f22, f23, f24, f25, f26, f27, f28]))) 10 24 ok v K = (ok ∧ K (.inr (10, [f0, f1, f2, f3, f4, f5, f6, f7, f8, f9, f10, f11, f12, f13, f14, f15, f16, f17, f18, f19, f20, f21, f22, f23, v, f25, f26, f27, f28]))) := propext ⟨fun h => ⟨h.1.2.2, h.2⟩, fun h => ⟨⟨rfl, by simp, h.1⟩, h.2⟩⟩
theorem gx10_25 {f0 f1 f2 f3 f4 f5 f6 f7 f8 f9 f10 f11 f12 f13 f14 f15 f16 f17 f18 f19 f20 f21 f22 f23 f24 f25 f26 f27 f28 : Value} {K : Value → Prop} : gF (some (.inr (10, [f0, f1, f2, f3, f4, f5, f6, f7, f8, f9, f10, f11, f12, f13, f14, f15, f16, f17, f18, f19, f20, f21, f22, f23, f24, f25, f26, f27, f28]))) 10 25 K = K f25 := propext ⟨fun h => h.2, fun h => ⟨rfl, h⟩⟩
theorem px10_25 {f0 f1 f2 f3 f4 f5 f6 f7 f8 f9 f10 f11 f12 f13 f14 f15 f16 f17 f18 f19 f20 f21 f22 f23 f24 f25 f26 f27 f28 v : Value} {ok : Prop} {K : HC → Prop} : pF (some (.inr (10, [f0, f1, f2, f3, f4, f5, f6, f7, f8, f9, f10, f11, f12, f13, f14, f15, f16, f17, f18, f19, f20, f21, f22, f23, f24, f25, f26, f27, f28]))) 10 25 ok v K = (ok ∧ K (.inr (10, [f0, f1, f2, f3, f4, f5, f6, f7, f8, f9, f10, f11, f12, f13, f14, f15, f16, f17, f18, f19, f20, f21, f22, f23, f24, v, f26, f27, f28]))) := propext ⟨fun h => ⟨h.1.2.2, h.2⟩, fun h => ⟨⟨rfl, by simp, h.1⟩, h.2⟩⟩
theorem gx10_26 {f0 f1 f2 f3 f4 f5 f6 f7 f8 f9 f10 f11 f12 f13 f14 f15 f16 f17 f18 f19 f20 f21 f22 f23 f24 f25 f26 f27 f28 : Value} {K : Value → Prop} : gF (some (.inr (10, [f0, f1, f2, f3, f4, f5, f6, f7, f8, f9, f10, f11, f12, f13, f14, f15, f16, f17, f18, f19, f20, f21, f22, f23, f24, f25, f26, f27, f28]))) 10 26 K = K f26 := propext ⟨fun h => h.2, fun h => ⟨rfl, h⟩⟩
theorem px10_26 {f0 f1 f2 f3 f4 f5 f6 f7 f8 f9 f10 f11 f12 f13 f14 f15 f16 f17 f18 f19 f20 f21 f22 f23 f24 f25 f26 f27 f28 v : Value} {ok : Prop} {K : HC → Prop} : pF (some (.inr (10, [f0, f1, f2, f3, f4, f5, f6, f7, f8, f9, f10, f11, f12, f13, f14, f15, f16, f17, f18, f19, f20, f21, f22, f23, f24, f25, f26, f27, f28]))) 10 26 ok v K = (ok ∧ K (.inr (10, [f0, f1, f2, f3, f4, f5, f6, f7, f8, f9, f10, f11, f12, f13, f14, f15, f16, f17, f18, f19, f20, f21, f22, f23, f24, f25, v, f27, f28]))) := propext ⟨fun h => ⟨h.1.2.2, h.2⟩, fun h => ⟨⟨rfl, by simp, h.1⟩, h.2⟩⟩
theorem gx10_27 {f0 f1 f2 f3 f4 f5 f6 f7 f8 f9 f10 f11 f12 f13 f14 f15 f16 f17 f18 f19 f20 f21 f22 f23 f24 f25 f26 f27 f28 : Value} {K : Value → Prop} : gF (some (.inr (10, [f0, f1, f2, f3, f4, f5, f6, f7, f8, f9, f10, f11, f12, f13, f14, f15, f16, f17, f18, f19, f20, f21, f22, f23, f24, f25, f26, f27, f28]))) 10 27 K = K f27 := propext ⟨fun h => h.2, fun h => ⟨rfl, h⟩⟩
theorem px10_27 {f0 f1 f2 f3 f4 f5 f6 f7 f8 f9 f10 f11 f12 f13 f14 f15 f16 f17 f18 f19 f20 f21 f22 f23 f24 f25 f26 f27 f28 v : Value} {ok : Prop} {K : HC → Prop} : pF (some (.inr (10, [f0, f1, f2, f3, f4, f5, f6, f7, f8, f9, f10, f11, f12, f13, f14, f15, f16, f17, f18, f19, f20, f21, f22, f23, f24, f25, f26, f27, f28]))) 10 27 ok v K = (ok ∧ K (.inr (10, [f0, f1, f2, f3, f4, f5, f6, f7, f8, f9, f10, f11, f12, f13, f14, f15, f16, f17, f18, f19, f20, f21, f22, f23, f24, f25, f26, v, f28]))) := propext ⟨fun h => ⟨h.1.2.2, h.2⟩, fun h => ⟨⟨rfl, by simp, h.1⟩, h.2⟩⟩
theorem gx10_28 {f0 f1 f2 f3 f4 f5 f6 f7 f8 f9 f10 f11 f12 f13 f14 f15 f16 f17 f18 f19 f20 f21 f22 f23 f24 f25 f26 f27 f28 : Value} {K : Value → Prop} : gF (some (.inr (10, [f0, f1, f2, f3, f4, f5, f6, f7, f8, f9, f10, f11, f12, f13, f14, f15, f16, f17, f18, f19, f20, f21, f22, f23, f24, f25, f26, f27, f28]))) 10 28 K = K f28 := propext ⟨fun h => h.2, fun h => ⟨rfl, h⟩⟩
theorem px10_28 {f0 f1 f2 f3 f4 f5 f6 f7 f8 f9 f10 f11 f12 f13 f14 f15 f16 f17 f18 f19 f20 f21 f22 f23 f24 f25 f26 f27 f28 v : Value} {ok : Prop} {K : HC → Prop} : pF (some (.inr (10, [f0, f1, f2, f3, f4, f5, f6, f7, f8, f9, f10, f11, f12, f13, f14, f15, f16, f17, f18, f19, f20, f21, f22, f23, f24, f25, f26, f27, f28]))) 10 28 ok v K = (ok ∧ K (.inr (10, [f0, f1, f2, f3, f4, f5, f6, f7, f8, f9, f10, f11, f12, f13, f14, f15, f16, f17, f18, f19, f20, f21, f22, f23, f24, f25, f26, f27, v]))) := propext ⟨fun h => ⟨h.1.2.2, h.2⟩, fun h => ⟨⟨rfl, by simp, h.1⟩, h.2⟩⟩
theorem gx12_0 {f0 f1 : Value} {K : Value → Prop} : gF (some (.inr (12, [f0, f1]))) 12 0 K = K f0 := propext ⟨fun h => h.2, fun h => ⟨rfl, h⟩⟩
theorem gx12_1 {f0 f1 : Value} {K : Value → Prop} : gF (some (.inr (12, [f0, f1]))) 12 1 K = K f1 := propext ⟨fun h => h.2, fun h => ⟨rfl, h⟩⟩
