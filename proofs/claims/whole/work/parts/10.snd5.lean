section CL5
variable {D : va_G} {X : HM} {EV : Nat → Value} {B ci nL mc ms d : Nat} {rt : Option FieldType} {ini : Bool} {cc : ByteArray} {p : Program} {l : Launch} {e : Env} {R : Room} {s : State} {m : MethodId} {args : Array Value} {below : List Frame} {meth : Method} {c : Code} {Qw : State → Prop}
variable {C : CT} {Q : QT} {pc n : Nat} {ls st : List Value} {cu su : Nat} {hm : HM} {hs : Nat}
/-- one step, whatever it is; the four ends are handed in -/
theorem im_close (K : im_ctx D X EV B ci nL mc ms ini cc p R s m args meth c) (hM : im_Met D X EV B l d C) (hfd : d + 1 ≤ R.frames) (hld : 64 * d + 64 ≤ R.locals)
    (hend : ∀ (pc : Nat) (ls st : List Value) (cu su : Nat) (hm : HM) (hs : Nat) (i : Instr) (n : Nat), (i = .ireturn ∨ i = .lreturn ∨ i = .freturn ∨ i = .return_) → decode cc pc = .ok (i, n) → im_in C Q (im_ws D B nL p l e R s m args below meth c Qw) (im_ins X EV ci mc ms rt ini pc ls st cu su hm hs i n) → (im_ws D B nL p l e R s m args below meth c Qw) (pc, ls, st, cu, su, hm, hs)) :
    ∀ t : ST, im_in C Q (im_ws D B nL p l e R s m args below meth c Qw) (im_out X EV ci mc ms rt ini cc t) → (im_ws D B nL p l e R s m args below meth c Qw) t := by
  rintro ⟨pc, ls, st, cu, su, hm, hs⟩ hi
  unfold im_out at hi
  dsimp only at hi
  cases hd : decode cc pc with
  | error x => rw [hd] at hi; exact hi.1.elim
  | ok q =>
    obtain ⟨i, n⟩ := q
    rw [hd] at hi
    replace hi : im_in C Q (im_ws D B nL p l e R s m args below meth c Qw) (im_ins X EV ci mc ms rt ini pc ls st cu su hm hs i n) := hi
    cases i with
    | iconst a0 => exact cl_iconst K hd hi
    | bipush a0 => exact cl_bipush K hd hi
    | sipush a0 => exact cl_sipush K hd hi
    | lconst a0 => exact cl_lconst K hd hi
    | fconst a0 => exact cl_fconst K hd hi
    | iload_n a0 => exact cl_iload_n K hd hi
    | iload a0 => exact cl_iload K hd hi
    | lload_n a0 => exact cl_lload_n K hd hi
    | lload a0 => exact cl_lload K hd hi
    | aload_n a0 => exact cl_aload_n K hd hi
    | aload a0 => exact cl_aload K hd hi
    | fload_n a0 => exact cl_fload_n K hd hi
    | istore_n a0 => exact cl_istore_n K hd hi
    | istore a0 => exact cl_istore K hd hi
    | lstore_n a0 => exact cl_lstore_n K hd hi
    | lstore a0 => exact cl_lstore K hd hi
    | astore_n a0 => exact cl_astore_n K hd hi
    | astore a0 => exact cl_astore K hd hi
    | fstore_n a0 => exact cl_fstore_n K hd hi
    | iinc a0 a1 => exact cl_iinc K hd hi
    | iadd => exact cl_iadd K hd hi
    | isub => exact cl_isub K hd hi
    | imul => exact cl_imul K hd hi
    | iand => exact cl_iand K hd hi
    | ior => exact cl_ior K hd hi
    | ixor => exact cl_ixor K hd hi
    | ishl => exact cl_ishl K hd hi
    | ishr => exact cl_ishr K hd hi
    | iushr => exact cl_iushr K hd hi
    | idiv => exact cl_idiv K hd hi
    | irem => exact cl_irem K hd hi
    | ineg => exact cl_ineg K hd hi
    | i2l => exact cl_i2l K hd hi
    | i2s => exact cl_i2s K hd hi
    | i2b => exact cl_i2b K hd hi
    | i2c => exact cl_i2c K hd hi
    | i2f => exact cl_i2f K hd hi
    | l2i => exact cl_l2i K hd hi
    | ladd => exact cl_ladd K hd hi
    | lsub => exact cl_lsub K hd hi
    | lmul => exact cl_lmul K hd hi
    | ldiv => exact cl_ldiv K hd hi
    | lrem => exact cl_lrem K hd hi
    | lshl => exact cl_lshl K hd hi
    | lshr => exact cl_lshr K hd hi
    | lcmp => exact cl_lcmp K hd hi
    | fmul => exact cl_fmul K hd hi
    | fdiv => exact cl_fdiv K hd hi
    | fsub => exact cl_fsub K hd hi
    | fcmp a0 => exact cl_fcmp K hd hi
    | f2i => exact cl_f2i K hd hi
    | dup => exact cl_dup K hd hi
    | dup2 => exact cl_dup2 K hd hi
    | pop => exact cl_pop K hd hi
    | goto a0 => exact cl_goto K hd hi
    | ifCond a0 a1 => exact cl_ifCond K hd hi
    | if_icmp a0 a1 => exact cl_if_icmp K hd hi
    | tableswitch a0 a1 a2 a3 => exact cl_tableswitch K hd hi
    | getfield a0 => exact cl_getfield K hd hi
    | putfield a0 => exact cl_putfield K hd hi
    | getstatic a0 => exact cl_getstatic K hd hi
    | arraylength => exact cl_arraylength K hd hi
    | iaload => exact cl_iaload K hd hi
    | baload => exact cl_baload K hd hi
    | laload => exact cl_laload K hd hi
    | aaload => exact cl_aaload K hd hi
    | iastore => exact cl_iastore K hd hi
    | bastore => exact cl_bastore K hd hi
    | lastore => exact cl_lastore K hd hi
    | aastore => exact cl_aastore K hd hi
    | newarray a0 => exact cl_newarray K hd hi
    | anewarray a0 => exact cl_anewarray K hd hi
    | new a0 => exact cl_new K hd hi
    | ldc a0 =>
      obtain ⟨rfl, hi⟩ := (⟨(im_len hi).1, (im_len hi).2⟩ : n = 2 ∧ im_in C Q (im_ws D B nL p l e R s m args below meth c Qw) (i_cst EV ci pc ls st cu su hm hs 2 a0 false))
      exact cl_cst K (Or.inl ⟨hd, rfl, rfl⟩) hi
    | ldc_w a0 =>
      obtain ⟨rfl, hi⟩ := (⟨(im_len hi).1, (im_len hi).2⟩ : n = 3 ∧ im_in C Q (im_ws D B nL p l e R s m args below meth c Qw) (i_cst EV ci pc ls st cu su hm hs 3 a0 false))
      exact cl_cst K (Or.inr (Or.inl ⟨hd, rfl, rfl⟩)) hi
    | ldc2_w a0 =>
      obtain ⟨rfl, hi⟩ := (⟨(im_len hi).1, (im_len hi).2⟩ : n = 3 ∧ im_in C Q (im_ws D B nL p l e R s m args below meth c Qw) (i_cst EV ci pc ls st cu su hm hs 3 a0 true))
      exact cl_cst K (Or.inr (Or.inr ⟨hd, rfl, rfl⟩)) hi
    | invokevirtual a0 =>
      obtain ⟨rfl, hi⟩ := (⟨(im_len hi).1, (im_len hi).2⟩ : n = 3 ∧ im_in C Q (im_ws D B nL p l e R s m args below meth c Qw) (i_inv X ci mc ms pc ls st cu su hm hs a0 (fun k => k == 0)))
      exact cl_inv K hM hfd hld hd (Or.inl ⟨rfl, rfl⟩) hi
    | invokestatic a0 =>
      obtain ⟨rfl, hi⟩ := (⟨(im_len hi).1, (im_len hi).2⟩ : n = 3 ∧ im_in C Q (im_ws D B nL p l e R s m args below meth c Qw) (i_inv X ci mc ms pc ls st cu su hm hs a0 (fun k => k == 1 || k == 4 || k == 6 || k == 7 || k == 8)))
      exact cl_inv K hM hfd hld hd (Or.inr (Or.inl ⟨rfl, rfl⟩)) hi
    | invokespecial a0 =>
      obtain ⟨rfl, hi⟩ := (⟨(im_len hi).1, (im_len hi).2⟩ : n = 3 ∧ im_in C Q (im_ws D B nL p l e R s m args below meth c Qw) (i_inv X ci mc ms pc ls st cu su hm hs a0 (fun k => k == 2 || k == 3 || k == 5)))
      exact cl_inv K hM hfd hld hd (Or.inr (Or.inr ⟨rfl, rfl⟩)) hi
    | ireturn => exact hend _ _ _ _ _ _ _ _ _ (Or.inl rfl) hd hi
    | lreturn => exact hend _ _ _ _ _ _ _ _ _ (Or.inr (Or.inl rfl)) hd hi
    | freturn => exact hend _ _ _ _ _ _ _ _ _ (Or.inr (Or.inr (Or.inl rfl))) hd hi
    | return_ => exact hend _ _ _ _ _ _ _ _ _ (Or.inr (Or.inr (Or.inr rfl))) hd hi
    | _ => exact hi.1.elim
theorem im_end (K : im_ctx D X EV B ci nL mc ms ini cc p R s m args meth c) (hr : meth.sig.returnType = rt) (hlocks : meth.locks = false) : ∀ (pc : Nat) (ls st : List Value) (cu su : Nat) (hm : HM) (hs : Nat) (i : Instr) (n : Nat), (i = .ireturn ∨ i = .lreturn ∨ i = .freturn ∨ i = .return_) → decode cc pc = .ok (i, n) →
    im_in C Q (im_ws D B nL p l e R s m args below meth c (MQ below (im_Qc D B Q) args s mc ms (fun q => B ≤ q))) (im_ins X EV ci mc ms rt ini pc ls st cu su hm hs i n) → (im_ws D B nL p l e R s m args below meth c (MQ below (im_Qc D B Q) args s mc ms (fun q => B ≤ q))) (pc, ls, st, cu, su, hm, hs) := by
  obtain ⟨hx, hb, hml, hown, hts, hF, hRc, hRs, hini, hB, hfr, hlo⟩ := K
  intro pc ls st cu su hm hs i n hi4 hd hi
  have fin : ∀ (v : Option Value) (H : Heap) (locs : List Loc), Q v hm hs → im_rep D B s hm H → va_S (fun q => B ≤ q) s.heap H locs → H.size = hs → ∀ t : State, t.heap = H → s.WarmedH t.vm → im_Qc D B Q args s (.returned v) t := by
    intro v H locs hQ hR hS hz t ht hW
    refine ⟨v, hm, rfl, by rw [ht, hz]; exact hQ, by rw [ht]; exact hR.moved hW.alike, by rw [ht]; exact hS.1, fun q h1 h2 => by rw [ht]; exact hS.2.1 q h1 h2⟩
  rcases hi4 with rfl | rfl | rfl | rfl
  · have hj0 := im_len hi
    clear hi
    obtain ⟨rfl, hi⟩ := hj0
    unfold i_iret at hi
    split at hi
    · rename_i v ty
      obtain ⟨⟨hn, hcu, hsu⟩, hQ⟩ := hi
      intro H locs lsA hR hS hz hl
      exact W.widen hcu hsu (W.zret hx hb hr hn (fin _ H locs hQ hR hS hz) hS.2.2 hd)
    · exact hi.1.elim
  · have hj0 := im_len hi
    clear hi
    obtain ⟨rfl, hi⟩ := hj0
    unfold i_lret at hi
    split at hi
    · obtain ⟨⟨hcu, hsu⟩, hQ⟩ := hi
      intro H locs lsA hR hS hz hl
      exact W.widen hcu hsu (W.lret hx hb hr (fin _ H locs hQ hR hS hz) hS.2.2 hd)
    · exact hi.1.elim
  · have hj0 := im_len hi
    clear hi
    obtain ⟨rfl, hi⟩ := hj0
    unfold i_fret at hi
    split at hi
    · obtain ⟨⟨hcu, hsu⟩, hQ⟩ := hi
      intro H locs lsA hR hS hz hl
      exact W.widen hcu hsu (W.fret hx hb hr (fin _ H locs hQ hR hS hz) hS.2.2 hd)
    · exact hi.1.elim
  · have hj0 := im_len hi
    clear hi
    obtain ⟨rfl, hi⟩ := hj0
    unfold i_vret at hi
    split at hi
    · obtain ⟨⟨hcu, hsu⟩, hQ⟩ := hi
      intro H locs lsA hR hS hz hl
      exact W.widen hcu hsu (W.vret hx hb hr (fin _ H locs hQ hR hS hz) hS.2.2 hd)
    · exact hi.1.elim
theorem im_meets (D : va_G) (X : HM) (EV : Nat → Value) (B : Nat) (l : Launch) : ∀ d : Nat, im_Met D X EV B l d (CC X EV d) := by
  intro d
  induction d with
  | zero =>
    intro y r as hm hs Q hy hC
    exact hC.elim
  | succ d ih =>
    intro y r as hm hs Q hy hC
    unfold CC at hC
    rw [hy] at hC
    obtain ⟨ci, yn, cc, nL, rt, mc, ms⟩ := r
    obtain ⟨hlen, hE⟩ := hC
    obtain ⟨w1, w2, w3, w4, w5, w6⟩ := im_mspec hy
    refine Met.ofW (cc := cc) (maxL := nL) (ret := rt) w2 rfl ?_
    intro p e s m args below meth c s₁ Bd hml hv
    obtain ⟨rfl, hF, hrep, hsz, hB⟩ := hv
    have hts := atoms_spec Bd.pre
    have hown : s.vm.findClass yn.cls = some m.cls := findClass_of_methodNamed Bd.named
    have hnm : meth.name = yn.name := (name_of_methodNamed Bd.named Bd.method).1
    have K : im_ctx D X EV B ci nL mc ms (yn.name == "<init>") cc p (im_rm (d + 1) mc ms) s m as.toArray meth c :=
      ⟨Bd.exec, Bd.bytes, hml, by rw [w3]; exact hown, fun w hw => hts w (List.mem_cons_of_mem _ hw), hF, Nat.le_refl _, Nat.le_refl _, fun h => by rw [hnm]; exact (beq_iff_eq.mp h), by rw [hsz]; exact hB, by show 1 ≤ d + 1; omega, by show 64 ≤ 64 * (d + 1); omega⟩
    have h := hE (im_ws D B nL p l e (im_rm (d + 1) mc ms) s m as.toArray below meth c (MQ below (im_Qc D B Q) as.toArray s mc ms (fun q => B ≤ q))) (im_close K ih (by show d + 1 ≤ d + 1; omega) (by show 64 * d + 64 ≤ 64 * (d + 1); omega) (im_end K Bd.returns Bd.notSynchronized))
    rw [lg_entry_eq]
    exact h s.heap [] _ hrep va_S.rf hsz (im_ls.entry hlen)
end CL5
