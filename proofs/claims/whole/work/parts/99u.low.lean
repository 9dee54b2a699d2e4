/-! ===== nothing comes to be below B, whatever runs ===== -/
def LW (B m : Nat) (hm : HM) (hs : Nat) : Prop := (lowN B hm ∧ B ≤ hs) ∧ m < hs ∧ ∃ fs, hm m = some (.inr (10, fs))
def LWS (B m : Nat) (s : ST) : Prop := match s with
  | (_, _, _, _, _, hm, hs) => LW B m hm hs
def OL (B m : Nat) (o : OUT) : Prop := match o with
  | .inl (c, s) => c → LWS B m s
  | .inr (.inl (_, s, t)) => LWS B m s ∧ LWS B m t
  | .inr (.inr (.inl (c, _, _, hm, hs, k))) => c → LW B m hm hs ∧ ∀ r hm' hs', LW B m hm' hs' → LWS B m (k r hm' hs')
  | .inr (.inr (.inr (_, _, hm, hs))) => LW B m hm hs
section LO
variable {X : HM} {EV : Nat → Value} {B m ci nL mc ms : Nat} {rt : Option FieldType} {ini : Bool} {pc : Nat} {ls st : List Value} {cu su : Nat} {hm : HM} {hs : Nat}
theorem l_st : OL B m o_st := fun z => z.elim
theorem LW.ge (h : LW B m hm hs) {a : Nat} {c : HC} (ha : hm a = some c) : B ≤ a := Classical.byContradiction fun z => by rw [h.1.1 a (by omega)] at ha; cases ha
theorem LW.upO (h : LW B m hm hs) {a ck : Nat} {fs fs' : List Value} (ha : hm a = some (.inr (ck, fs))) : LW B m (im_up hm a (.inr (ck, fs'))) hs := by
  have hB := h.ge ha
  refine ⟨⟨fun x hx => by unfold im_up; rw [if_neg (by omega)]; exact h.1.1 x hx, h.1.2⟩, h.2.1, ?_⟩
  obtain ⟨g, hg⟩ := h.2.2
  by_cases e : m = a
  · rw [← e, hg] at ha
    cases ha
    exact ⟨fs', by unfold im_up; rw [if_pos e]⟩
  · exact ⟨g, by unfold im_up; rw [if_neg e]; exact hg⟩
theorem LW.upA (h : LW B m hm hs) {a : Nat} {x : FieldType × vp_A} {c : HC} (ha : hm a = some (.inl x)) : LW B m (im_up hm a c) hs := by
  have hB := h.ge ha
  refine ⟨⟨fun x hx => by unfold im_up; rw [if_neg (by omega)]; exact h.1.1 x hx, h.1.2⟩, h.2.1, ?_⟩
  obtain ⟨g, hg⟩ := h.2.2
  have e : m ≠ a := fun z => by rw [z, ha] at hg; cases hg
  exact ⟨g, by unfold im_up; rw [if_neg e]; exact hg⟩
theorem LW.s1 (h : LW B m hm hs) {c : HC} : LW B m (im_up hm hs c) (hs + 1) := by
  have h1 := h.1.2
  have h2 := h.2.1
  refine ⟨⟨fun x hx => by unfold im_up; rw [if_neg (by omega)]; exact h.1.1 x hx, by omega⟩, by omega, ?_⟩
  obtain ⟨g, hg⟩ := h.2.2
  exact ⟨g, by unfold im_up; rw [if_neg (by omega)]; exact hg⟩
theorem l_len {n k : Nat} {oo : OUT} (h : OL B m oo) : OL B m (i_len n k oo) := by
  unfold i_len
  split
  · exact h
  · exact l_st
theorem l_push {n : Nat} {v : Value} (h : LW B m hm hs) : OL B m (i_push pc ls st cu su hm hs n v) := by
  unfold i_push
  repeat' split
  all_goals first | exact fun _ => h | exact l_st | exact ⟨h, h⟩
theorem l_bin {f : Int32 → Int32 → Int32} (h : LW B m hm hs) : OL B m (i_bin pc ls st cu su hm hs f) := by
  unfold i_bin
  repeat' split
  all_goals first | exact fun _ => h | exact l_st | exact ⟨h, h⟩
theorem l_div {f : Int32 → Int32 → Int32} (h : LW B m hm hs) : OL B m (i_div pc ls st cu su hm hs f) := by
  unfold i_div
  repeat' split
  all_goals first | exact fun _ => h | exact l_st | exact ⟨h, h⟩
theorem l_binL {f : Int64 → Int64 → Int64} (h : LW B m hm hs) : OL B m (i_binL pc ls st cu su hm hs f) := by
  unfold i_binL
  repeat' split
  all_goals first | exact fun _ => h | exact l_st | exact ⟨h, h⟩
theorem l_divL {f : Int64 → Int64 → Int64} (h : LW B m hm hs) : OL B m (i_divL pc ls st cu su hm hs f) := by
  unfold i_divL
  repeat' split
  all_goals first | exact fun _ => h | exact l_st | exact ⟨h, h⟩
theorem l_shL {f : Int64 → Int32 → Int64} (h : LW B m hm hs) : OL B m (i_shL pc ls st cu su hm hs f) := by
  unfold i_shL
  repeat' split
  all_goals first | exact fun _ => h | exact l_st | exact ⟨h, h⟩
theorem l_un {f : Int32 → Value} (h : LW B m hm hs) : OL B m (i_un pc ls st cu su hm hs f) := by
  unfold i_un
  repeat' split
  all_goals first | exact fun _ => h | exact l_st | exact ⟨h, h⟩
theorem l_l2i  (h : LW B m hm hs) : OL B m (i_l2i pc ls st cu su hm hs ) := by
  unfold i_l2i
  repeat' split
  all_goals first | exact fun _ => h | exact l_st | exact ⟨h, h⟩
theorem l_lcmp  (h : LW B m hm hs) : OL B m (i_lcmp pc ls st cu su hm hs ) := by
  unfold i_lcmp
  repeat' split
  all_goals first | exact fun _ => h | exact l_st | exact ⟨h, h⟩
theorem l_binF {f : UInt32 → UInt32 → UInt32} (h : LW B m hm hs) : OL B m (i_binF pc ls st cu su hm hs f) := by
  unfold i_binF
  repeat' split
  all_goals first | exact fun _ => h | exact l_st | exact ⟨h, h⟩
theorem l_fcmp {op : CmpOp} (h : LW B m hm hs) : OL B m (i_fcmp pc ls st cu su hm hs op) := by
  unfold i_fcmp
  repeat' split
  all_goals first | exact fun _ => h | exact l_st | exact ⟨h, h⟩
theorem l_f2i  (h : LW B m hm hs) : OL B m (i_f2i pc ls st cu su hm hs ) := by
  unfold i_f2i
  repeat' split
  all_goals first | exact fun _ => h | exact l_st | exact ⟨h, h⟩
theorem l_iload {n : Nat} {i : Nat} (h : LW B m hm hs) : OL B m (i_iload pc ls st cu su hm hs n i) := by
  unfold i_iload
  repeat' split
  all_goals first | exact fun _ => h | exact l_st | exact ⟨h, h⟩
theorem l_lload {n : Nat} {i : Nat} (h : LW B m hm hs) : OL B m (i_lload pc ls st cu su hm hs n i) := by
  unfold i_lload
  repeat' split
  all_goals first | exact fun _ => h | exact l_st | exact ⟨h, h⟩
theorem l_aload {n : Nat} {i : Nat} (h : LW B m hm hs) : OL B m (i_aload pc ls st cu su hm hs n i) := by
  unfold i_aload
  repeat' split
  all_goals first | exact fun _ => h | exact l_st | exact ⟨h, h⟩
theorem l_fload {n : Nat} {i : Nat} (h : LW B m hm hs) : OL B m (i_fload pc ls st cu su hm hs n i) := by
  unfold i_fload
  repeat' split
  all_goals first | exact fun _ => h | exact l_st | exact ⟨h, h⟩
theorem l_istore {n : Nat} {i : Nat} (h : LW B m hm hs) : OL B m (i_istore pc ls st cu su hm hs n i) := by
  unfold i_istore
  repeat' split
  all_goals first | exact fun _ => h | exact l_st | exact ⟨h, h⟩
theorem l_astore {n : Nat} {i : Nat} (h : LW B m hm hs) : OL B m (i_astore pc ls st cu su hm hs n i) := by
  unfold i_astore
  repeat' split
  all_goals first | exact fun _ => h | exact l_st | exact ⟨h, h⟩
theorem l_fstore {n : Nat} {i : Nat} (h : LW B m hm hs) : OL B m (i_fstore pc ls st cu su hm hs n i) := by
  unfold i_fstore
  repeat' split
  all_goals first | exact fun _ => h | exact l_st | exact ⟨h, h⟩
theorem l_lstore {n : Nat} {i : Nat} (h : LW B m hm hs) : OL B m (i_lstore pc ls st cu su hm hs n i) := by
  unfold i_lstore
  repeat' split
  all_goals first | exact fun _ => h | exact l_st | exact ⟨h, h⟩
theorem l_iinc {i : Nat} {k : Int} (h : LW B m hm hs) : OL B m (i_iinc pc ls st cu su hm hs i k) := by
  unfold i_iinc
  repeat' split
  all_goals first | exact fun _ => h | exact l_st | exact ⟨h, h⟩
theorem l_dup  (h : LW B m hm hs) : OL B m (i_dup pc ls st cu su hm hs ) := by
  unfold i_dup
  repeat' split
  all_goals first | exact fun _ => h | exact l_st | exact ⟨h, h⟩
theorem l_dup2  (h : LW B m hm hs) : OL B m (i_dup2 pc ls st cu su hm hs ) := by
  unfold i_dup2
  repeat' split
  all_goals first | exact fun _ => h | exact l_st | exact ⟨h, h⟩
theorem l_pop  (h : LW B m hm hs) : OL B m (i_pop pc ls st cu su hm hs ) := by
  unfold i_pop
  repeat' split
  all_goals first | exact fun _ => h | exact l_st | exact ⟨h, h⟩
theorem l_if {c : Int32 → Prop} {off : Int} (h : LW B m hm hs) : OL B m (i_if pc ls st cu su hm hs c off) := by
  unfold i_if
  repeat' split
  all_goals first | exact fun _ => h | exact l_st | exact ⟨h, h⟩
theorem l_icmp {c : Int32 → Int32 → Prop} {off : Int} (h : LW B m hm hs) : OL B m (i_icmp pc ls st cu su hm hs c off) := by
  unfold i_icmp
  repeat' split
  all_goals first | exact fun _ => h | exact l_st | exact ⟨h, h⟩
theorem l_tsw {dd : Int} {lo : Int} {hi : Int} {offs : Array Int} (h : LW B m hm hs) : OL B m (i_tsw pc ls st cu su hm hs dd lo hi offs) := by
  unfold i_tsw
  repeat' split
  all_goals first | exact fun _ => h | exact l_st | exact ⟨h, h⟩
theorem l_cst {n idx : Nat} {w : Bool} (h : LW B m hm hs) : OL B m (i_cst EV ci pc ls st cu su hm hs n idx w) := by
  unfold i_cst
  repeat' split
  all_goals first | exact fun _ => h | exact l_st
theorem l_getf {idx : Nat} (h : LW B m hm hs) : OL B m (i_getf X ci pc ls st cu su hm hs idx) := by
  unfold i_getf
  repeat' split
  all_goals first | exact fun _ => h | exact l_st
theorem l_putf {idx : Nat} (h : LW B m hm hs) : OL B m (i_putf ci ini pc ls st cu su hm hs idx) := by
  unfold i_putf
  repeat' split
  all_goals first | exact l_st | (rename_i hh; exact fun _ => h.upO hh)
theorem l_gets {idx : Nat} (h : LW B m hm hs) : OL B m (i_gets EV ci pc ls st cu su hm hs idx) := by
  unfold i_gets
  repeat' split
  all_goals first | exact fun _ => h | exact l_st
theorem l_alen (h : LW B m hm hs) : OL B m (i_alen X pc ls st cu su hm hs) := by
  unfold i_alen
  repeat' split
  all_goals first | exact fun _ => h | exact l_st
theorem l_iald (h : LW B m hm hs) : OL B m (i_iald X pc ls st cu su hm hs) := by
  unfold i_iald
  repeat' split
  all_goals first | exact fun _ => h | exact l_st
theorem l_bald (h : LW B m hm hs) : OL B m (i_bald X pc ls st cu su hm hs) := by
  unfold i_bald
  repeat' split
  all_goals first | exact fun _ => h | exact l_st
theorem l_lald (h : LW B m hm hs) : OL B m (i_lald pc ls st cu su hm hs) := by
  unfold i_lald
  repeat' split
  all_goals first | exact fun _ => h | exact l_st
theorem l_aald (h : LW B m hm hs) : OL B m (i_aald pc ls st cu su hm hs) := by
  unfold i_aald
  repeat' split
  all_goals first | exact fun _ => h | exact l_st
theorem l_iast (h : LW B m hm hs) : OL B m (i_iast pc ls st cu su hm hs) := by
  unfold i_iast
  repeat' split
  all_goals first | exact l_st | (rename_i hh; exact fun _ => h.upA hh)
theorem l_bast (h : LW B m hm hs) : OL B m (i_bast pc ls st cu su hm hs) := by
  unfold i_bast
  repeat' split
  all_goals first | exact l_st | (rename_i hh; exact fun _ => h.upA hh)
theorem l_last (h : LW B m hm hs) : OL B m (i_last pc ls st cu su hm hs) := by
  unfold i_last
  repeat' split
  all_goals first | exact l_st | (rename_i hh; exact fun _ => h.upA hh)
theorem l_aast (h : LW B m hm hs) : OL B m (i_aast pc ls st cu su hm hs) := by
  unfold i_aast
  repeat' split
  all_goals first | exact l_st | (rename_i hh _; exact fun _ => h.upA hh) | (rename_i hh; exact fun _ => h.upA hh)
theorem l_newa {a : ArrayType} (h : LW B m hm hs) : OL B m (i_newa mc ms pc ls st cu su hm hs a) := by
  unfold i_newa
  repeat' split
  all_goals first | exact l_st | exact fun _ => h.s1
theorem l_anew {idx : Nat} (h : LW B m hm hs) : OL B m (i_anew ci mc ms pc ls st cu su hm hs idx) := by
  unfold i_anew
  repeat' split
  all_goals first | exact l_st | exact fun _ => h.s1
theorem l_new {idx : Nat} (h : LW B m hm hs) : OL B m (i_new ci mc ms pc ls st cu su hm hs idx) := by
  unfold i_new
  repeat' split
  all_goals first | exact l_st | exact fun _ => h.s1
theorem l_copy (h : LW B m hm hs) : OL B m (i_copy pc ls st cu su hm hs) := by
  unfold i_copy
  repeat' split
  all_goals first | exact l_st | (rename_i hh; exact fun _ => h.upA hh) | (rename_i hh _; exact fun _ => h.upA hh)
theorem l_inv {idx : Nat} {vk : Nat → Bool} (h : LW B m hm hs) : OL B m (i_inv X ci mc ms pc ls st cu su hm hs idx vk) := by
  unfold i_inv
  repeat' split
  all_goals first | exact l_st | exact fun _ => h | exact l_copy h | exact fun _ => ⟨h, fun _ _ _ z => z⟩
theorem l_iret (h : LW B m hm hs) : OL B m (i_iret mc ms rt st cu su hm hs) := by
  unfold i_iret
  repeat' split
  all_goals first | exact h | exact l_st
theorem l_lret (h : LW B m hm hs) : OL B m (i_lret mc ms rt st cu su hm hs) := by
  unfold i_lret
  repeat' split
  all_goals first | exact h | exact l_st
theorem l_fret (h : LW B m hm hs) : OL B m (i_fret mc ms rt st cu su hm hs) := by
  unfold i_fret
  repeat' split
  all_goals first | exact h | exact l_st
theorem l_vret (h : LW B m hm hs) : OL B m (i_vret mc ms rt st cu su hm hs) := by
  unfold i_vret
  repeat' split
  all_goals first | exact h | exact l_st
theorem l_go {c : Prop} {a b : Nat} {s1 s2 : List Value} {u1 u2 : Nat} (h : LW B m hm hs) : OL B m (o_go c (a, s1, s2, u1, u2, hm, hs)) := fun _ => h
theorem l_ins {i : Instr} {n : Nat} (h : LW B m hm hs) : OL B m (im_ins X EV ci mc ms rt ini pc ls st cu su hm hs i n) := by
  unfold im_ins
  split
  all_goals first | exact l_st | (refine l_len ?_; first | exact fun _ => h | exact l_push h | exact l_bin h | exact l_div h | exact l_binL h | exact l_divL h | exact l_shL h | exact l_un h | exact l_l2i h | exact l_lcmp h | exact l_binF h | exact l_fcmp h | exact l_f2i h | exact l_iload h | exact l_lload h | exact l_aload h | exact l_fload h | exact l_istore h | exact l_astore h | exact l_fstore h | exact l_lstore h | exact l_iinc h | exact l_dup h | exact l_dup2 h | exact l_pop h | exact l_if h | exact l_icmp h | exact l_tsw h | exact l_cst h | exact l_getf h | exact l_putf h | exact l_gets h | exact l_alen h | exact l_iald h | exact l_bald h | exact l_lald h | exact l_aald h | exact l_iast h | exact l_bast h | exact l_last h | exact l_aast h | exact l_newa h | exact l_anew h | exact l_new h | exact l_inv h | exact l_iret h | exact l_lret h | exact l_fret h | exact l_vret h) | exact l_tsw h
theorem l_out {cc : ByteArray} {s : ST} (h : LWS B m s) : OL B m (im_out X EV ci mc ms rt ini cc s) := by
  obtain ⟨pc, ls, st, cu, su, hm, hs⟩ := s
  unfold im_out
  dsimp only
  split
  · exact l_ins h
  · exact l_st
theorem ex_low {C : CT} {cc : ByteArray} {Q : QT} {s : ST} (hm : im_mono C) (hC : ∀ y as hm hs Q, LW B m hm hs → C y as hm hs Q → C y as hm hs (fun v hm' hs' => LW B m hm' hs' ∧ Q v hm' hs')) (h : LWS B m s) (hE : Ex X EV C ci mc ms rt ini cc Q s) : Ex X EV C ci mc ms rt ini cc (fun v hm' hs' => LW B m hm' hs' ∧ Q v hm' hs') s := by
  refine hE (fun s => LWS B m s → Ex X EV C ci mc ms rt ini cc (fun v hm' hs' => LW B m hm' hs' ∧ Q v hm' hs') s) (fun s hi hl => Ex.fold hm ?_) h
  have ho := l_out (X := X) (EV := EV) (ci := ci) (mc := mc) (ms := ms) (rt := rt) (ini := ini) (cc := cc) hl
  revert hi ho
  generalize im_out X EV ci mc ms rt ini cc s = o
  intro hi ho
  rcases o with ⟨c, s⟩ | ⟨c, s, t⟩ | ⟨c, y, as, hm, hs, k⟩ | ⟨c, v, hm, hs⟩
  · exact ⟨hi.1, hi.2 (ho hi.1)⟩
  · exact ⟨fun q => hi.1 q ho.1, fun q => hi.2 q ho.2⟩
  · have := ho hi.1
    refine ⟨hi.1, ?_⟩
    have h2 := hC _ _ _ _ _ this.1 hi.2
    revert h2
    rename_i hmono
    exact hmono _ _ _ _ _ _ (fun r hm' hs' q => q.2 (this.2 r hm' hs' q.1))
  · exact ⟨hi.1, ho, hi.2⟩
theorem cc_low : ∀ (d y : Nat) (as : List Value) (hm : HM) (hs : Nat) (Q : QT), LW B m hm hs → CC X EV d y as hm hs Q → CC X EV d y as hm hs (fun v hm' hs' => LW B m hm' hs' ∧ Q v hm' hs') := by
  intro d
  induction d with
  | zero => intro y as hm hs Q _ h; exact h
  | succ d ih =>
    intro y as hm hs Q hl h
    unfold CC at h ⊢
    cases hy : im_mth y with
    | none => rw [hy] at h; exact h
    | some r =>
      obtain ⟨ci, yn, cc, nL, rt, mc, ms⟩ := r
      rw [hy] at h
      exact ⟨h.1, ex_low (CC_mono X EV d) ih (show LW B m hm hs from hl) h.2⟩
end LO
