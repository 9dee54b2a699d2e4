/-! ===== the small machine: cells are told by a map; what an instruction gives is an outcome; Ex: from here the method comes to an end that Q holds of (the least such relation) ===== -/
abbrev HC : Type := (FieldType × vp_A) ⊕ (Nat × List Value)
abbrev HM : Type := Nat → Option HC
abbrev QT : Type := Option Value → HM → Nat → Prop
abbrev CT : Type := Nat → List Value → HM → Nat → QT → Prop
abbrev ST : Type := Nat × List Value × List Value × Nat × Nat × HM × Nat
abbrev OUT : Type := (Prop × ST) ⊕ ((Prop × ST × ST) ⊕ ((Prop × Nat × List Value × HM × Nat × (Option Value → HM → Nat → ST)) ⊕ (Prop × Option Value × HM × Nat)))
def im_up (hm : HM) (a : Nat) (c : HC) : HM := fun x => if x = a then some c else hm x
def im_rd (X hm : HM) (a : Nat) : Option HC := match hm a with
  | some c => some c
  | none => X a
def o_st : OUT := .inl (False, 0, [], [], 0, 0, fun _ => none, 0)
abbrev o_go (c : Prop) (s : ST) : OUT := .inl (c, s)
abbrev o_br (c : Prop) (s t : ST) : OUT := .inr (.inl (c, s, t))
abbrev o_cl (c : Prop) (y : Nat) (as : List Value) (hm : HM) (hs : Nat) (k : Option Value → HM → Nat → ST) : OUT := .inr (.inr (.inl (c, y, as, hm, hs, k)))
abbrev o_rt (c : Prop) (v : Option Value) (hm : HM) (hs : Nat) : OUT := .inr (.inr (.inr (c, v, hm, hs)))
def im_in (C : CT) (Q : QT) (P : ST → Prop) (o : OUT) : Prop := match o with
  | .inl (c, s) => c ∧ P s
  | .inr (.inl (c, s, t)) => (c → P s) ∧ (¬ c → P t)
  | .inr (.inr (.inl (c, y, as, hm, hs, k))) => c ∧ C y as hm hs (fun r hm' hs' => P (k r hm' hs'))
  | .inr (.inr (.inr (c, v, hm, hs))) => c ∧ Q v hm hs
def im_pv (ls : List Value) (i : Nat) : Prop := match i with
  | 0 => True
  | j + 1 => ∀ w, ls[j]? = some w → w.category = 1
def im_pop : Nat → List Value → Option (List Value × List Value)
  | 0, st => some ([], st)
  | _ + 1, [] => none
  | n + 1, v :: st => match im_pop n st with
    | some (as, r) => some (as ++ [v], r)
    | none => none
def im_fit (ty : FieldType) (v : Value) : Prop := narrow ty v = v ∧ fits ty v = true
def im_jmp (pc : Nat) (off : Int) : Nat := ((pc : Int) + off).toNat
def im_jok (pc : Nat) (off : Int) : Prop := 0 ≤ (pc : Int) + off
def im_ld (ls : List Value) (i : Nat) (st : List Value) (k : Value → List Value → OUT) : OUT := match ls[i]? with
  | some v => k v st
  | none => o_st
def im_dv (ty : FieldType) : Value := defaultValue ty
def im_dfs (cj : Nat) : List Value := (List.range (im_N cj)).map (fun k => defaultValue (im_ty cj k))
section IM
variable (X : HM) (EV : Nat → Value) (ci nL mc ms : Nat) (rt : Option FieldType) (ini : Bool)
variable (pc : Nat) (ls st : List Value) (cu su : Nat) (hm : HM) (hs : Nat)
def i_push (n : Nat) (v : Value) : OUT := o_go True (pc + n, ls, v :: st, cu, su, hm, hs)
def i_bin (f : Int32 → Int32 → Int32) : OUT := match st with
  | .int y :: .int x :: r => o_go True (pc + 1, ls, .int (f x y) :: r, cu, su, hm, hs)
  | _ => o_st
def i_div (f : Int32 → Int32 → Int32) : OUT := match st with
  | .int y :: .int x :: r => o_go (¬ y = 0) (pc + 1, ls, .int (f x y) :: r, cu, su, hm, hs)
  | _ => o_st
def i_binL (f : Int64 → Int64 → Int64) : OUT := match st with
  | .long y :: .long x :: r => o_go True (pc + 1, ls, .long (f x y) :: r, cu, su, hm, hs)
  | _ => o_st
def i_divL (f : Int64 → Int64 → Int64) : OUT := match st with
  | .long y :: .long x :: r => o_go (¬ y = 0) (pc + 1, ls, .long (f x y) :: r, cu, su, hm, hs)
  | _ => o_st
def i_shL (f : Int64 → Int32 → Int64) : OUT := match st with
  | .int y :: .long x :: r => o_go True (pc + 1, ls, .long (f x y) :: r, cu, su, hm, hs)
  | _ => o_st
def i_un (f : Int32 → Value) : OUT := match st with
  | .int x :: r => o_go True (pc + 1, ls, f x :: r, cu, su, hm, hs)
  | _ => o_st
def i_l2i : OUT := match st with
  | .long x :: r => o_go True (pc + 1, ls, .int x.toInt32 :: r, cu, su, hm, hs)
  | _ => o_st
def i_lcmp : OUT := match st with
  | .long y :: .long x :: r => o_go True (pc + 1, ls, .int (lg_cmp x y) :: r, cu, su, hm, hs)
  | _ => o_st
def i_binF (f : UInt32 → UInt32 → UInt32) : OUT := match st with
  | .float y :: .float x :: r => o_go (vf_n32 (f x y)) (pc + 1, ls, .float (f x y) :: r, cu, su, hm, hs)
  | _ => o_st
def i_fcmp (op : CmpOp) : OUT := match st with
  | .float y :: .float x :: r => o_go True (pc + 1, ls, .int (Op.cmpValue (FP.fcmp x y) op) :: r, cu, su, hm, hs)
  | _ => o_st
def i_f2i : OUT := match st with
  | .float x :: r => o_go True (pc + 1, ls, .int (FP.f2i x) :: r, cu, su, hm, hs)
  | _ => o_st
def i_iload (n i : Nat) : OUT := match ls[i]? with
  | some (.int x) => o_go True (pc + n, ls, .int x :: st, cu, su, hm, hs)
  | _ => o_st
def i_lload (n i : Nat) : OUT := match ls[i]? with
  | some (.long x) => o_go True (pc + n, ls, .long x :: st, cu, su, hm, hs)
  | _ => o_st
def i_aload (n i : Nat) : OUT := match ls[i]? with
  | some (.ref x) => o_go True (pc + n, ls, .ref x :: st, cu, su, hm, hs)
  | _ => o_st
def i_fload (n i : Nat) : OUT := match ls[i]? with
  | some (.float x) => o_go True (pc + n, ls, .float x :: st, cu, su, hm, hs)
  | _ => o_st
def i_istore (n i : Nat) : OUT := match st with
  | .int x :: r => o_go (i < ls.length ∧ im_pv ls i) (pc + n, ls.set i (.int x), r, cu, su, hm, hs)
  | _ => o_st
def i_astore (n i : Nat) : OUT := match st with
  | .ref x :: r => o_go (i < ls.length ∧ im_pv ls i) (pc + n, ls.set i (.ref x), r, cu, su, hm, hs)
  | _ => o_st
def i_fstore (n i : Nat) : OUT := match st with
  | .float x :: r => o_go (i < ls.length ∧ im_pv ls i) (pc + n, ls.set i (.float x), r, cu, su, hm, hs)
  | _ => o_st
def i_lstore (n i : Nat) : OUT := match st with
  | .long x :: r => o_go (i + 1 < ls.length ∧ im_pv ls i) (pc + n, (ls.set i (.long x)).set (i + 1) .null, r, cu, su, hm, hs)
  | _ => o_st
def i_iinc (i : Nat) (k : Int) : OUT := match ls[i]? with
  | some (.int x) => o_go (i < ls.length ∧ im_pv ls i) (pc + 3, ls.set i (.int (x + Int32.ofInt k)), st, cu, su, hm, hs)
  | _ => o_st
def i_dup : OUT := match st with
  | v :: r => o_go (v.category = 1) (pc + 1, ls, v :: v :: r, cu, su, hm, hs)
  | _ => o_st
def i_dup2 : OUT := match st with
  | .long x :: r => o_go True (pc + 1, ls, .long x :: .long x :: r, cu, su, hm, hs)
  | v :: w :: r => o_go (v.category = 1 ∧ w.category = 1) (pc + 1, ls, v :: w :: v :: w :: r, cu, su, hm, hs)
  | _ => o_st
def i_pop : OUT := match st with
  | v :: r => o_go (v.category = 1) (pc + 1, ls, r, cu, su, hm, hs)
  | _ => o_st
def i_if (c : Int32 → Prop) (off : Int) : OUT := match st with
  | .int x :: r => if 0 ≤ (pc : Int) + off then o_br (c x) (im_jmp pc off, ls, r, cu, su, hm, hs) (pc + 3, ls, r, cu, su, hm, hs) else o_st
  | _ => o_st
def i_icmp (c : Int32 → Int32 → Prop) (off : Int) : OUT := match st with
  | .int y :: .int x :: r => if 0 ≤ (pc : Int) + off then o_br (c x y) (im_jmp pc off, ls, r, cu, su, hm, hs) (pc + 3, ls, r, cu, su, hm, hs) else o_st
  | _ => o_st
def i_tsw (dflt lo hi : Int) (offs : Array Int) : OUT := match st with
  | .int x :: r => if x.toInt < lo ∨ hi < x.toInt then o_go (im_jok pc dflt) (im_jmp pc dflt, ls, r, cu, su, hm, hs) else match offs[(x.toInt - lo).toNat]? with
    | some off => o_go (im_jok pc off) (im_jmp pc off, ls, r, cu, su, hm, hs)
    | none => o_st
  | _ => o_st
def i_cst (n idx : Nat) (w : Bool) : OUT := match im_cst ci idx with
  | some (.inl (.int v), _) => o_go (w = false) (pc + n, ls, .int v :: st, cu, su, hm, hs)
  | some (.inl (.float v), _) => o_go (w = false) (pc + n, ls, .float v :: st, cu, su, hm, hs)
  | some (.inl (.long v), _) => o_go (w = true) (pc + n, ls, .long v :: st, cu, su, hm, hs)
  | some (.inr k, _) => o_go (w = false ∧ n = 2) (pc + n, ls, EV k :: st, cu, su, hm, hs)
  | _ => o_st
def i_getf (idx : Nat) : OUT := match st with
  | .ref a :: r => match im_fld ci idx with
    | some (cj, k, _, _) => match im_rd X hm a with
      | some (.inr (ck, fs)) => match fs[k]? with
        | some v => o_go (ck = cj) (pc + 3, ls, v :: r, cu, su, hm, hs)
        | none => o_st
      | _ => o_st
    | none => o_st
  | _ => o_st
def i_putf (idx : Nat) : OUT := match st with
  | v :: .ref a :: r => match im_fld ci idx with
    | some (cj, k, fl, _) => match hm a with
      | some (.inr (ck, fs)) => o_go (ck = cj ∧ k < fs.length ∧ im_fit (im_ty cj k) v ∧ (fl = 1 → ini = true ∧ cj = ci)) (pc + 3, ls, r, cu, su, im_up hm a (.inr (ck, fs.set k v)), hs)
      | _ => o_st
    | none => o_st
  | _ => o_st
def i_gets (idx : Nat) : OUT := match im_sta ci idx with
  | some (k, _, _) => o_go True (pc + 3, ls, EV k :: st, cu, su, hm, hs)
  | none => o_st
def i_alen : OUT := match st with
  | .ref a :: r => match im_rd X hm a with
    | some (.inl (_, n, _)) => o_go True (pc + 1, ls, .int (nI n) :: r, cu, su, hm, hs)
    | _ => o_st
  | _ => o_st
def i_iald : OUT := match st with
  | .int j :: .ref a :: r => match im_rd X hm a with
    | some (.inl (.int, n, .inl f)) => o_go (vp_in j n) (pc + 1, ls, .int (f j.toNatClampNeg) :: r, cu, su, hm, hs)
    | _ => o_st
  | _ => o_st
def i_bald : OUT := match st with
  | .int j :: .ref a :: r => match im_rd X hm a with
    | some (.inl (.byte, n, .inl f)) => o_go (vp_in j n) (pc + 1, ls, .int (f j.toNatClampNeg) :: r, cu, su, hm, hs)
    | _ => o_st
  | _ => o_st
def i_lald : OUT := match st with
  | .int j :: .ref a :: r => match hm a with
    | some (.inl (.long, n, .inr (.inl f))) => o_go (vp_in j n) (pc + 1, ls, .long (f j.toNatClampNeg) :: r, cu, su, hm, hs)
    | _ => o_st
  | _ => o_st
def i_aald : OUT := match st with
  | .int j :: .ref a :: r => match hm a with
    | some (.inl (.object _, n, .inr (.inr (.inr (.inr f))))) => o_go (vp_in j n) (pc + 1, ls, va_rf (f j.toNatClampNeg) :: r, cu, su, hm, hs)
    | _ => o_st
  | _ => o_st
def i_iast : OUT := match st with
  | .int x :: .int j :: .ref a :: r => match hm a with
    | some (.inl (.int, n, .inl f)) => o_go (vp_in j n) (pc + 1, ls, r, cu, su, im_up hm a (.inl (.int, n, .inl (upd f j.toNatClampNeg x))), hs)
    | _ => o_st
  | _ => o_st
def i_bast : OUT := match st with
  | .int x :: .int j :: .ref a :: r => match hm a with
    | some (.inl (.byte, n, .inl f)) => o_go (vp_in j n) (pc + 1, ls, r, cu, su, im_up hm a (.inl (.byte, n, .inl (upd f j.toNatClampNeg (vp_nar .byte x)))), hs)
    | _ => o_st
  | _ => o_st
def i_last : OUT := match st with
  | .long x :: .int j :: .ref a :: r => match hm a with
    | some (.inl (.long, n, .inr (.inl f))) => o_go (vp_in j n) (pc + 1, ls, r, cu, su, im_up hm a (.inl (.long, n, .inr (.inl (vp_updL f j.toNatClampNeg x)))), hs)
    | _ => o_st
  | _ => o_st
def i_aast : OUT := match st with
  | .ref v :: .int j :: .ref a :: r => match hm a, hm v with
    | some (.inl (.object C, n, .inr (.inr (.inr (.inr f))))), some (.inr (cv, _)) => o_go (vp_in j n ∧ cv < 11 ∧ im_cn cv = C) (pc + 1, ls, r, cu, su, im_up hm a (.inl (.object C, n, .inr (.inr (.inr (.inr (va_up f j.toNatClampNeg (some v))))))), hs)
    | _, _ => o_st
  | _ => o_st
def im_zero (ty : FieldType) (n : Nat) : HC := match ty with
  | .long => .inl (.long, n, .inr (.inl fun _ => 0))
  | t => .inl (t, n, .inl fun _ => 0)
def i_newa (at' : ArrayType) : OUT := match st with
  | .int k :: r => o_go (¬ k < 0 ∧ k.toNatClampNeg ≤ 100000 ∧ cu + 1 ≤ mc ∧ su + k.toNatClampNeg ≤ ms ∧ (at' = .int ∨ at' = .long ∨ at' = .byte)) (pc + 2, ls, .ref hs :: r, cu + 1, su + k.toNatClampNeg, im_up hm hs (im_zero (newarray.typeOf at') k.toNatClampNeg), hs + 1)
  | _ => o_st
def i_anew (idx : Nat) : OUT := match st with
  | .int k :: r => match im_new ci idx with
    | some (cj, _, _, _) => o_go (cj = 4 ∧ ¬ k < 0 ∧ k.toNatClampNeg ≤ 100000 ∧ cu + 1 ≤ mc ∧ su + k.toNatClampNeg ≤ ms) (pc + 3, ls, .ref hs :: r, cu + 1, su + k.toNatClampNeg, im_up hm hs (.inl (.object (im_cn cj), k.toNatClampNeg, .inr (.inr (.inr (.inr fun _ => none))))), hs + 1)
    | none => o_st
  | _ => o_st
def i_new (idx : Nat) : OUT := match im_new ci idx with
  | some (cj, _, _, _) => o_go (cu + 1 ≤ mc ∧ su + im_N cj ≤ ms) (pc + 3, ls, .ref hs :: st, cu + 1, su + im_N cj, im_up hm hs (.inr (cj, im_dfs cj)), hs + 1)
  | none => o_st
/-- arraycopy of ints -/
def i_copy : OUT := match st with
  | .int n :: .int dp :: .ref b :: .int sp :: .ref a :: r => match hm a, hm b with
    | some (.inl (.int, n0, .inl f)), some (.inl (.int, n1, .inl g)) => o_go ((¬ sp < 0 ∧ ¬ dp < 0 ∧ ¬ n < 0) ∧ sp.toNatClampNeg + n.toNatClampNeg ≤ n0 ∧ dp.toNatClampNeg + n.toNatClampNeg ≤ n1 ∧ r.length ≤ 4)
        (pc + 3, ls, r, cu, su, im_up hm b (.inl (.int, n1, .inl (va_cpy f g sp.toNatClampNeg dp.toNatClampNeg n.toNatClampNeg))), hs)
    | _, _ => o_st
  | _ => o_st
def im_cok (kd y : Nat) (as : List Value) : Prop := match kd, as with
  | 0, .ref b :: _ => ∃ cj fs, im_rd X hm b = some (.inr (cj, fs)) ∧ im_cn cj = (im_yn y).cls ∧ (cj < 11 ∨ cj = 12)
  | 1, _ => True
  | 2, .ref _ :: _ => True
  | 3, .ref _ :: _ => True
  | 4, _ => True
  | _, _ => False
def i_inv (idx : Nat) (vk : Nat → Bool) : OUT := match im_mtd ci idx with
  | some (5, _, _, _, _, _) => match st with
    | .ref _ :: r => o_go (vk 5 = true ∧ r.length ≤ 4) (pc + 3, ls, r, cu, su, hm, hs)
    | _ => o_st
  | some (6, _, _, _, _, _) => if vk 6 = true then i_copy pc ls st cu su hm hs else o_st
  | some (7, _, _, _, _, _) => match st with
    | .int y :: .int x :: r => o_go (vk 7 = true ∧ r.length ≤ 4 ∧ cu ≤ mc ∧ su ≤ ms) (pc + 3, ls, .int (if x < y then y else x) :: r, cu, su, hm, hs)
    | _ => o_st
  | some (8, _, _, _, _, _) => match st with
    | .int y :: .int x :: r => o_go (vk 8 = true ∧ r.length ≤ 4 ∧ cu ≤ mc ∧ su ≤ ms) (pc + 3, ls, .int (if y < x then y else x) :: r, cu, su, hm, hs)
    | _ => o_st
  | some (kd, y, n, _, _, _) => match im_pop n st, im_mth y with
    | some (as, r), some (_, _, _, _, _, c1, s1) => o_cl (vk kd = true ∧ im_cok X hm kd y as ∧ r.length ≤ 4 ∧ cu + c1 ≤ mc ∧ su + s1 ≤ ms) y as hm hs (fun v hm' hs' => (pc + 3, ls, v.toList ++ r, cu + c1, su + s1, hm', hs'))
    | _, _ => o_st
  | none => o_st
def i_iret : OUT := match st, rt with
  | [.int v], some ty => o_rt (narrow ty (.int v) = .int v ∧ cu ≤ mc ∧ su ≤ ms) (some (.int v)) hm hs
  | _, _ => o_st
def i_lret : OUT := match st, rt with
  | [.long v], some .long => o_rt (cu ≤ mc ∧ su ≤ ms) (some (.long v)) hm hs
  | _, _ => o_st
def i_fret : OUT := match st, rt with
  | [.float v], some .float => o_rt (cu ≤ mc ∧ su ≤ ms) (some (.float v)) hm hs
  | _, _ => o_st
def i_vret : OUT := match st, rt with
  | [], none => o_rt (cu ≤ mc ∧ su ≤ ms) none hm hs
  | _, _ => o_st
def im_c (c : ClassFile.Cond) (x : Int32) (y : Int32) : Prop := match c with
  | .eq => x = y
  | .ne => ¬ x = y
  | .lt => x < y
  | .ge => y ≤ x
  | .gt => y < x
  | .le => x ≤ y
def i_len (n k : Nat) (o : OUT) : OUT := if n = k then o else o_st
def i_fcs (k : Fin 3) : UInt32 := match k with
  | 0 => FP.fconst0
  | 1 => FP.fconst1
  | 2 => FP.fconst2
def im_ins (i : Instr) (n : Nat) : OUT := match i with
  | .iconst k => i_len n 1 (i_push pc ls st cu su hm hs 1 (.int (Int32.ofInt k)))
  | .bipush k => i_len n 2 (i_push pc ls st cu su hm hs 2 (.int (Int8.ofInt k).toInt32))
  | .sipush k => i_len n 3 (i_push pc ls st cu su hm hs 3 (.int (Int16.ofInt k).toInt32))
  | .lconst k => i_len n 1 (i_push pc ls st cu su hm hs 1 (.long (Int64.ofNat (k : Nat))))
  | .fconst k => i_len n 1 (i_push pc ls st cu su hm hs 1 (.float (i_fcs k)))
  | .ldc idx => i_len n 2 (i_cst EV ci pc ls st cu su hm hs 2 idx false)
  | .ldc_w idx => i_len n 3 (i_cst EV ci pc ls st cu su hm hs 3 idx false)
  | .ldc2_w idx => i_len n 3 (i_cst EV ci pc ls st cu su hm hs 3 idx true)
  | .iload_n k => i_len n 1 (i_iload pc ls st cu su hm hs 1 k)
  | .iload k => i_len n 2 (i_iload pc ls st cu su hm hs 2 k)
  | .lload_n k => i_len n 1 (i_lload pc ls st cu su hm hs 1 k)
  | .lload k => i_len n 2 (i_lload pc ls st cu su hm hs 2 k)
  | .aload_n k => i_len n 1 (i_aload pc ls st cu su hm hs 1 k)
  | .aload k => i_len n 2 (i_aload pc ls st cu su hm hs 2 k)
  | .fload_n k => i_len n 1 (i_fload pc ls st cu su hm hs 1 k)
  | .istore_n k => i_len n 1 (i_istore pc ls st cu su hm hs 1 k)
  | .istore k => i_len n 2 (i_istore pc ls st cu su hm hs 2 k)
  | .lstore_n k => i_len n 1 (i_lstore pc ls st cu su hm hs 1 k)
  | .lstore k => i_len n 2 (i_lstore pc ls st cu su hm hs 2 k)
  | .astore_n k => i_len n 1 (i_astore pc ls st cu su hm hs 1 k)
  | .astore k => i_len n 2 (i_astore pc ls st cu su hm hs 2 k)
  | .fstore_n k => i_len n 1 (i_fstore pc ls st cu su hm hs 1 k)
  | .iinc k d => i_len n 3 (i_iinc pc ls st cu su hm hs k d)
  | .iadd => i_len n 1 (i_bin pc ls st cu su hm hs (fun x y => x + y))
  | .isub => i_len n 1 (i_bin pc ls st cu su hm hs (fun x y => x - y))
  | .imul => i_len n 1 (i_bin pc ls st cu su hm hs (fun x y => x * y))
  | .iand => i_len n 1 (i_bin pc ls st cu su hm hs (fun x y => x &&& y))
  | .ior => i_len n 1 (i_bin pc ls st cu su hm hs (fun x y => x ||| y))
  | .ixor => i_len n 1 (i_bin pc ls st cu su hm hs (fun x y => x ^^^ y))
  | .ishl => i_len n 1 (i_bin pc ls st cu su hm hs (fun x y => x <<< (y &&& 31)))
  | .ishr => i_len n 1 (i_bin pc ls st cu su hm hs (fun x y => x >>> (y &&& 31)))
  | .iushr => i_len n 1 (i_bin pc ls st cu su hm hs (fun x y => (x.toUInt32 >>> (y.toUInt32 &&& Int32.toUInt32 31)).toInt32))
  | .idiv => i_len n 1 (i_div pc ls st cu su hm hs (fun x y => x / y))
  | .irem => i_len n 1 (i_div pc ls st cu su hm hs (fun x y => x - x / y * y))
  | .ineg => i_len n 1 (i_un pc ls st cu su hm hs (fun x => .int (-x)))
  | .i2l => i_len n 1 (i_un pc ls st cu su hm hs (fun x => .long x.toInt64))
  | .i2s => i_len n 1 (i_un pc ls st cu su hm hs (fun x => .int x.toInt16.toInt32))
  | .i2b => i_len n 1 (i_un pc ls st cu su hm hs (fun x => .int x.toInt8.toInt32))
  | .i2c => i_len n 1 (i_un pc ls st cu su hm hs (fun x => .int (x.toUInt32 % 65536).toInt32))
  | .i2f => i_len n 1 (i_un pc ls st cu su hm hs (fun x => .float (FP.i2f x)))
  | .l2i => i_len n 1 (i_l2i pc ls st cu su hm hs)
  | .ladd => i_len n 1 (i_binL pc ls st cu su hm hs (fun x y => x + y))
  | .lsub => i_len n 1 (i_binL pc ls st cu su hm hs (fun x y => x - y))
  | .lmul => i_len n 1 (i_binL pc ls st cu su hm hs (fun x y => x * y))
  | .ldiv => i_len n 1 (i_divL pc ls st cu su hm hs (fun x y => x / y))
  | .lrem => i_len n 1 (i_divL pc ls st cu su hm hs (fun x y => x - x / y * y))
  | .lshl => i_len n 1 (i_shL pc ls st cu su hm hs (fun x y => x <<< (y.toInt64 &&& 63)))
  | .lshr => i_len n 1 (i_shL pc ls st cu su hm hs (fun x y => x >>> (y.toInt64 &&& 63)))
  | .lcmp => i_len n 1 (i_lcmp pc ls st cu su hm hs)
  | .fmul => i_len n 1 (i_binF pc ls st cu su hm hs (fun x y => FP.fmul x y))
  | .fdiv => i_len n 1 (i_binF pc ls st cu su hm hs (fun x y => FP.fdiv x y))
  | .fsub => i_len n 1 (i_binF pc ls st cu su hm hs (fun x y => FP.fsub x y))
  | .fcmp op => i_len n 1 (i_fcmp pc ls st cu su hm hs op)
  | .f2i => i_len n 1 (i_f2i pc ls st cu su hm hs)
  | .dup => i_len n 1 (i_dup pc ls st cu su hm hs)
  | .dup2 => i_len n 1 (i_dup2 pc ls st cu su hm hs)
  | .pop => i_len n 1 (i_pop pc ls st cu su hm hs)
  | .goto off => i_len n 3 (o_go (im_jok pc off) (im_jmp pc off, ls, st, cu, su, hm, hs))
  | .ifCond c off => i_len n 3 (i_if pc ls st cu su hm hs (fun x => im_c c x 0) off)
  | .if_icmp c off => i_len n 3 (i_icmp pc ls st cu su hm hs (fun x y => im_c c x y) off)
  | .tableswitch d lo hi offs => i_tsw pc ls st cu su hm hs d lo hi offs
  | .getfield idx => i_len n 3 (i_getf X ci pc ls st cu su hm hs idx)
  | .putfield idx => i_len n 3 (i_putf ci ini pc ls st cu su hm hs idx)
  | .getstatic idx => i_len n 3 (i_gets EV ci pc ls st cu su hm hs idx)
  | .arraylength => i_len n 1 (i_alen X pc ls st cu su hm hs)
  | .iaload => i_len n 1 (i_iald X pc ls st cu su hm hs)
  | .baload => i_len n 1 (i_bald X pc ls st cu su hm hs)
  | .laload => i_len n 1 (i_lald pc ls st cu su hm hs)
  | .aaload => i_len n 1 (i_aald pc ls st cu su hm hs)
  | .iastore => i_len n 1 (i_iast pc ls st cu su hm hs)
  | .bastore => i_len n 1 (i_bast pc ls st cu su hm hs)
  | .lastore => i_len n 1 (i_last pc ls st cu su hm hs)
  | .aastore => i_len n 1 (i_aast pc ls st cu su hm hs)
  | .newarray t => i_len n 2 (i_newa mc ms pc ls st cu su hm hs t)
  | .anewarray idx => i_len n 3 (i_anew ci mc ms pc ls st cu su hm hs idx)
  | .new idx => i_len n 3 (i_new ci mc ms pc ls st cu su hm hs idx)
  | .invokevirtual idx => i_len n 3 (i_inv X ci mc ms pc ls st cu su hm hs idx (fun k => k == 0))
  | .invokestatic idx => i_len n 3 (i_inv X ci mc ms pc ls st cu su hm hs idx (fun k => k == 1 || k == 4 || k == 6 || k == 7 || k == 8))
  | .invokespecial idx => i_len n 3 (i_inv X ci mc ms pc ls st cu su hm hs idx (fun k => k == 2 || k == 3 || k == 5))
  | .ireturn => i_len n 1 (i_iret mc ms rt st cu su hm hs)
  | .lreturn => i_len n 1 (i_lret mc ms rt st cu su hm hs)
  | .freturn => i_len n 1 (i_fret mc ms rt st cu su hm hs)
  | .return_ => i_len n 1 (i_vret mc ms rt st cu su hm hs)
  | _ => o_st
end IM
def im_out (X : HM) (EV : Nat → Value) (ci mc ms : Nat) (rt : Option FieldType) (ini : Bool) (cc : ByteArray) (s : ST) : OUT := match s with
  | (pc, ls, st, cu, su, hm, hs) => match decode cc pc with
    | .ok (i, n) => im_ins X EV ci mc ms rt ini pc ls st cu su hm hs i n
    | _ => o_st
/-- from the state s on the method comes to an end of which Q holds: the least relation that the steps close -/
def Ex (X : HM) (EV : Nat → Value) (C : CT) (ci mc ms : Nat) (rt : Option FieldType) (ini : Bool) (cc : ByteArray) (Q : QT) (s : ST) : Prop :=
  ∀ P : ST → Prop, (∀ s, im_in C Q P (im_out X EV ci mc ms rt ini cc s) → P s) → P s
def im_mono (C : CT) : Prop := ∀ (y : Nat) (as : List Value) (hm : HM) (hs : Nat) (Q Q' : QT), (∀ r hm hs, Q r hm hs → Q' r hm hs) → C y as hm hs Q → C y as hm hs Q'
theorem im_in_P {C : CT} {Q : QT} {P P' : ST → Prop} {o : OUT} (hC : im_mono C) (h : ∀ s, P s → P' s) (hi : im_in C Q P o) : im_in C Q P' o := by
  rcases o with ⟨c, s⟩ | ⟨c, s, t⟩ | ⟨c, y, as, hm, hs, k⟩ | ⟨c, v, hm, hs⟩
  · exact ⟨hi.1, h _ hi.2⟩
  · exact ⟨fun q => h _ (hi.1 q), fun q => h _ (hi.2 q)⟩
  · exact ⟨hi.1, hC _ _ _ _ _ _ (fun _ _ _ q => h _ q) hi.2⟩
  · exact hi
theorem im_in_Q {C : CT} {Q Q' : QT} {P : ST → Prop} {o : OUT} (h : ∀ r hm hs, Q r hm hs → Q' r hm hs) (hi : im_in C Q P o) : im_in C Q' P o := by
  rcases o with ⟨c, s⟩ | ⟨c, s, t⟩ | ⟨c, y, as, hm, hs, k⟩ | ⟨c, v, hm, hs⟩
  · exact hi
  · exact hi
  · exact hi
  · exact ⟨hi.1, h _ _ _ hi.2⟩
section EX
variable {X : HM} {EV : Nat → Value} {C : CT} {ci mc ms : Nat} {rt : Option FieldType} {ini : Bool} {cc : ByteArray} {Q Q' : QT}
theorem Ex.monoQ {s : ST} (h : ∀ r hm hs, Q r hm hs → Q' r hm hs) (hE : Ex X EV C ci mc ms rt ini cc Q s) : Ex X EV C ci mc ms rt ini cc Q' s :=
  fun P hP => hE P (fun s hi => hP s (im_in_Q h hi))
theorem Ex.fold {s : ST} (hC : im_mono C) (h : im_in C Q (Ex X EV C ci mc ms rt ini cc Q) (im_out X EV ci mc ms rt ini cc s)) : Ex X EV C ci mc ms rt ini cc Q s :=
  fun P hP => hP s (im_in_P hC (fun _ q => q P hP) h)
theorem Ex.unfold {s : ST} (hC : im_mono C) (h : Ex X EV C ci mc ms rt ini cc Q s) : im_in C Q (Ex X EV C ci mc ms rt ini cc Q) (im_out X EV ci mc ms rt ini cc s) :=
  h (fun s => im_in C Q (Ex X EV C ci mc ms rt ini cc Q) (im_out X EV ci mc ms rt ini cc s)) (fun _ hi => im_in_P hC (fun _ q => Ex.fold hC q) hi)
end EX
def im_ent1 (as : List Value) : List Value := as.flatMap (fun v => if v.category = 2 then [v, .null] else [v])
def im_ent (nL : Nat) (as : List Value) : List Value := im_ent1 as ++ List.replicate (nL - (im_ent1 as).length) .null
/-- calls down to the depth d -/
def CC (X : HM) (EV : Nat → Value) : Nat → CT
  | 0 => fun _ _ _ _ _ => False
  | d + 1 => fun y as hm hs Q => match im_mth y with
    | some (ci, yn, cc, nL, rt, mc, ms) => (im_ent1 as).length ≤ nL ∧ Ex X EV (CC X EV d) ci mc ms rt (yn.name == "<init>") cc Q (0, im_ent nL as, [], 0, 0, hm, hs)
    | none => False
theorem CC_mono (X : HM) (EV : Nat → Value) (d : Nat) : im_mono (CC X EV d) := by
  intro y as hm hs Q Q' h hc
  cases d with
  | zero => exact hc
  | succ d =>
    unfold CC at hc ⊢
    cases hy : im_mth y with
    | none => rw [hy] at hc; exact hc
    | some r =>
      obtain ⟨ci, yn, cc, nL, rt, mc, ms⟩ := r
      rw [hy] at hc
      exact ⟨hc.1, hc.2.monoQ h⟩
