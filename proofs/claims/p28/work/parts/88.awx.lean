/-! p28: conditions over any frame; instructions that have rows of their own -/
def okTg (own : String) (cc : ByteArray) (ret : Option FieldType) (nL fr lo : Nat) (T : tE) : Bool := T.zipIdx.all fun q => match q.1 with
  | some x => okE own cc ret nL fr lo q.2 x
  | none => true
theorem tatg_ok {own : String} {cc : ByteArray} {ret : Option FieldType} {nL fr lo : Nat} {T : tE} (h : okTg own cc ret nL fr lo T = true) {pc : Nat} {x : Instr × E5} (e : tat T pc = some x) : okE own cc ret nL fr lo pc x = true := by
  unfold tat at e
  have e2 : T[pc]? = some (some x) := by
    cases e3 : T[pc]? with
    | none => rw [e3] at e; cases e
    | some y => rw [e3] at e; rw [show y = some x from e]
  exact List.all_eq_true.mp h (some x, pc) (by rw [List.mem_zipIdx_iff_getElem?]; exact e2)
section GW
variable {p : Program} {l : Launch} {e : Env} {R : Room} {s : State} {m : MethodId} {args : Array Value} {below : List Frame} {meth : Method} {c : Code} {cells slots : Nat} {QW : State → Prop} {cc : ByteArray} {own : String} {nL : Nat} {ret : Option FieldType} {ad : Nat → Nat} {D : va_G} {cI cC cG : ClassId} {A0 : Nat → Prop}
theorem rt_no {i : Instr} {n a b : Nat} {z : Int} {L : Lc} {st : List AV} {μ : Mem} {K : aK} (hi : i = .ireturn ∨ i = .lreturn ∨ i = .areturn ∨ i = .return_) (h : stepI (fun _ _ => False) i n a b z L st μ K) : False := by
  rcases hi with rfl | rfl | rfl | rfl
  · obtain ⟨_, _, _, _, _, h⟩ := un_inv h
    exact h
  · obtain ⟨_, _, _, _, h⟩ := unL_inv h
    exact h
  · rcases unA_inv (show unA st (fun v st => st = [] ∧ False) from h) with ⟨_, _, _, _, h⟩ | ⟨_, _, _, h⟩
    · exact h
    · exact h
  · exact (show st = [] ∧ False from h).2
theorem vg_step (X : aX p s m args meth c R cells slots cc own nL ad D cI cC cG A0) {T : tE} (hT : okTg own cc ret nL R.frames R.locals T = true) {K : aK} (hK : ∀ pc L st μ, K pc L st μ → aG p l e R s m args below meth c cells slots QW nL ad D cI cC cG A0 pc L st μ) {pc : Nat} {L : Lc} {st : List AV} {μ : Mem} (hs : stepO (fun _ _ => False) (tat T pc) L st μ K) : aG p l e R s m args below meth c cells slots QW nL ad D cI cC cG A0 pc L st μ := by
  cases e1 : tat T pc with
  | none => rw [e1] at hs; exact hs.elim
  | some x =>
    rw [e1] at hs
    obtain ⟨i, n, x1, b, w, z⟩ := x
    exact step_snd X (tatg_ok hT e1) (fun hi hh => (rt_no hi hh).elim) hK hs
theorem vg_snd (X : aX p s m args meth c R cells slots cc own nL ad D cI cC cG A0) {T : tE} (hT : okTg own cc ret nL R.frames R.locals T = true) {stop : List Nat} : ∀ (f pc : Nat) (L : Lc) (st : List AV) (μ : Mem), vcG (aG p l e R s m args below meth c cells slots QW nL ad D cI cC cG A0) (fun _ _ => False) T stop f pc L st μ → aG p l e R s m args below meth c cells slots QW nL ad D cI cC cG A0 pc L st μ := by
  intro f
  induction f with
  | zero => exact fun pc L st μ h => h
  | succ f ih =>
    intro pc L st μ hv
    unfold vcG at hv
    cases hm : memN stop pc with
    | true => rw [hm] at hv; exact hv
    | false =>
      rw [hm] at hv
      exact vg_step X hT ih hv
theorem vg1_snd (X : aX p s m args meth c R cells slots cc own nL ad D cI cC cG A0) {T : tE} (hT : okTg own cc ret nL R.frames R.locals T = true) {stop : List Nat} (f : Nat) {pc : Nat} {L : Lc} {st : List AV} {μ : Mem} (hv : vc1 (aG p l e R s m args below meth c cells slots QW nL ad D cI cC cG A0) (fun _ _ => False) T stop f pc L st μ) : aG p l e R s m args below meth c cells slots QW nL ad D cI cC cG A0 pc L st μ := vg_step X hT (vg_snd X hT f) hv
end GW

def andI (x y : Int) : Int := (i32 x &&& i32 y).toInt
def shrI (x y : Int) : Int := (i32 x >>> (i32 y &&& 31)).toInt
theorem of_rng (x : Int32) : inR x.toInt := by
  have h1 := x.toInt_lt
  have h2 := x.le_toInt
  unfold inR; omega
theorem andI_b {x y : Int} (h0 : 0 ≤ y) (h1 : y ≤ 2147483647) : 0 ≤ andI x y ∧ andI x y ≤ y := by
  have hy : (i32 y).toBitVec.toNat = y.toNat := by
    obtain ⟨k, rfl⟩ : ∃ k : Nat, y = k := ⟨y.toNat, by omega⟩
    rw [← i32_nat]
    have h3 : (Int32.ofNat k).toBitVec.toNat = k := pk_tn (n := k) (by omega)
    rw [h3]; omega
  have h : (i32 x &&& i32 y).toBitVec.toNat ≤ y.toNat := by
    rw [← hy, Int32.toBitVec_and (i32 x) (i32 y), BitVec.toNat_and]
    exact Nat.and_le_right
  have h2 : (i32 x &&& i32 y).toInt = ((i32 x &&& i32 y).toBitVec.toNat : Int) := by
    show (i32 x &&& i32 y).toBitVec.toInt = _
    rw [BitVec.toInt_eq_toNat_of_lt (by omega)]
  unfold andI
  omega
theorem fcmp_nn {d : UInt32} (h : Jvm.FP.Core.fIsNaN d = false) (op : CmpOp) : Op.cmpValue (FP.fcmp d d) op = 0 := by
  have e : FP.fcmp d d = some .eq := Jvm.FP.Core.fcmp_refl h
  rw [e]
  rfl
section GX
variable {p : Program} {l : Launch} {e : Env} {R : Room} {s : State} {m : MethodId} {args : Array Value} {below : List Frame} {meth : Method} {c : Code} {cells slots : Nat} {QW : State → Prop} {cc : ByteArray} {own : String} {nL : Nat} {ret : Option FieldType} {ad : Nat → Nat} {D : va_G} {cI cC cG : ClassId} {A0 : Nat → Prop}
theorem ag_iand (X : aX p s m args meth c R cells slots cc own nL ad D cI cC cG A0) {pc : Nat} {L : Lc} {x y : Int} {st : List AV} {μ : Mem} (hd : decode cc pc = .ok (.iand, 1)) (h : aG p l e R s m args below meth c cells slots QW nL ad D cI cC cG A0 (pc + 1) L (aI (andI x y) :: st) μ) : aG p l e R s m args below meth c cells slots QW nL ad D cI cC cG A0 pc L (aI y :: aI x :: st) μ := by
  intro H locs ls hP hS hL hR hst
  refine lv_iand X.1.1 X.1.2.1 hd ?_
  have := h H locs ls hP hS hL hR (wf_c (of_rng _) (wf_t (wf_t hst)))
  have e : (aI (andI x y) :: st).map (conc ad) = .int (i32 x &&& i32 y) :: st.map (conc ad) := by
    show Value.int (i32 _) :: _ = _
    unfold andI
    rw [i32_of]
  rw [e] at this
  exact this
theorem ag_ishr (X : aX p s m args meth c R cells slots cc own nL ad D cI cC cG A0) {pc : Nat} {L : Lc} {x y : Int} {st : List AV} {μ : Mem} (hd : decode cc pc = .ok (.ishr, 1)) (h : aG p l e R s m args below meth c cells slots QW nL ad D cI cC cG A0 (pc + 1) L (aI (shrI x y) :: st) μ) : aG p l e R s m args below meth c cells slots QW nL ad D cI cC cG A0 pc L (aI y :: aI x :: st) μ := by
  intro H locs ls hP hS hL hR hst
  refine lv_ishr X.1.1 X.1.2.1 hd ?_
  have := h H locs ls hP hS hL hR (wf_c (of_rng _) (wf_t (wf_t hst)))
  have e : (aI (shrI x y) :: st).map (conc ad) = .int (i32 x >>> (i32 y &&& 31)) :: st.map (conc ad) := by
    show Value.int (i32 _) :: _ = _
    unfold shrI
    rw [i32_of]
  rw [e] at this
  exact this
theorem ag_lcmp (X : aX p s m args meth c R cells slots cc own nL ad D cI cC cG A0) {pc : Nat} {L : Lc} {x : Int64} {st : List AV} {μ : Mem} (hd : decode cc pc = .ok (.lcmp, 1)) (h : aG p l e R s m args below meth c cells slots QW nL ad D cI cC cG A0 (pc + 1) L (aI 0 :: st) μ) : aG p l e R s m args below meth c cells slots QW nL ad D cI cC cG A0 pc L (aL x :: aL x :: st) μ := by
  intro H locs ls hP hS hL hR hst
  refine W.lcmp X.1.1 X.1.2.1 hd ?_
  have e : lg_cmp x x = i32 0 := by
    unfold lg_cmp
    simp
    rfl
  rw [e]
  exact h H locs ls hP hS hL hR (wf_c inR_0 (wf_t (wf_t hst)))
theorem ag_fcmp (X : aX p s m args meth c R cells slots cc own nL ad D cI cC cG A0) {pc : Nat} {L : Lc} {x : UInt32} {op : CmpOp} {st : List AV} {μ : Mem} (hd : decode cc pc = .ok (.fcmp op, 1)) (hn : Jvm.FP.Core.fIsNaN x = false) (h : aG p l e R s m args below meth c cells slots QW nL ad D cI cC cG A0 (pc + 1) L (aI 0 :: st) μ) : aG p l e R s m args below meth c cells slots QW nL ad D cI cC cG A0 pc L (.inr (.float x) :: .inr (.float x) :: st) μ := by
  intro H locs ls hP hS hL hR hst
  refine lv_fcmp X.1.1 X.1.2.1 hd ?_
  rw [fcmp_nn hn]
  exact h H locs ls hP hS hL hR (wf_c inR_0 (wf_t (wf_t hst)))
theorem ag_i2f (X : aX p s m args meth c R cells slots cc own nL ad D cI cC cG A0) {pc : Nat} {L : Lc} {x : Int} {st : List AV} {μ : Mem} (hd : decode cc pc = .ok (.i2f, 1)) (h : aG p l e R s m args below meth c cells slots QW nL ad D cI cC cG A0 (pc + 1) L (.inr (.float (FP.i2f (i32 x))) :: st) μ) : aG p l e R s m args below meth c cells slots QW nL ad D cI cC cG A0 pc L (.inl x :: st) μ := by
  intro H locs ls hP hS hL hR hst
  exact lv_i2f X.1.1 X.1.2.1 hd (h H locs ls hP hS hL hR (wf_c trivial (wf_t hst)))
theorem ag_fdiv (X : aX p s m args meth c R cells slots cc own nL ad D cI cC cG A0) {pc : Nat} {L : Lc} {x y : UInt32} {st : List AV} {μ : Mem} (hd : decode cc pc = .ok (.fdiv, 1)) (hn : Jvm.FP.Core.fIsNaN (FP.fdiv x y) = false) (h : aG p l e R s m args below meth c cells slots QW nL ad D cI cC cG A0 (pc + 1) L (.inr (.float (FP.fdiv x y)) :: st) μ) : aG p l e R s m args below meth c cells slots QW nL ad D cI cC cG A0 pc L (.inr (.float y) :: .inr (.float x) :: st) μ := by
  intro H locs ls hP hS hL hR hst
  exact lv_fdiv X.1.1 X.1.2.1 hd (nan32 hn) (h H locs ls hP hS hL hR (wf_c trivial (wf_t (wf_t hst))))
theorem ag_fc0 (X : aX p s m args meth c R cells slots cc own nL ad D cI cC cG A0) {pc : Nat} {L : Lc} {st : List AV} {μ : Mem} (hd : decode cc pc = .ok (.fconst 0, 1)) (h : aG p l e R s m args below meth c cells slots QW nL ad D cI cC cG A0 (pc + 1) L (.inr (.float FP.fconst0) :: st) μ) : aG p l e R s m args below meth c cells slots QW nL ad D cI cC cG A0 pc L st μ := by
  intro H locs ls hP hS hL hR hst
  exact lv_fconst0 X.1.1 X.1.2.1 hd (h H locs ls hP hS hL hR (wf_c trivial hst))
theorem ag_fstore (X : aX p s m args meth c R cells slots cc own nL ad D cI cC cG A0) {pc i : Nat} {L : Lc} {x : UInt32} {st : List AV} {μ : Mem} (hd : decode cc pc = .ok (.fstore i, 2)) (hg : nlg L i = true) (hi : i < nL) (h : aG p l e R s m args below meth c cells slots QW nL ad D cI cC cG A0 (pc + 2) (lset L i (.inr (.float x))) st μ) : aG p l e R s m args below meth c cells slots QW nL ad D cI cC cG A0 pc L (.inr (.float x) :: st) μ := by
  intro H locs ls hP hS hL hR hst
  exact lv_fstore X.1.1 X.1.2.1 hd hL.has hi rfl (fun ls' hl' => h H locs ls' hP hS (hL.set hg trivial rfl hl') hR (wf_t hst))
theorem ag_fload (X : aX p s m args meth c R cells slots cc own nL ad D cI cC cG A0) {pc i : Nat} {L : Lc} {x : UInt32} {st : List AV} {μ : Mem} (hd : decode cc pc = .ok (.fload i, 2)) (hl : lget L i = some (.inr (.float x))) (h : aG p l e R s m args below meth c cells slots QW nL ad D cI cC cG A0 (pc + 2) L (.inr (.float x) :: st) μ) : aG p l e R s m args below meth c cells slots QW nL ad D cI cC cG A0 pc L st μ := by
  intro H locs ls hP hS hL hR hst
  exact lv_fload X.1.1 X.1.2.1 hd (hL.2.2 i _ hl).1 (h H locs ls hP hS hL hR (wf_c trivial hst))
end GX
theorem aw_iand {a : Nat} {Ret : PQ} {pc : Nat} {L : Lc} {x y : Int} {st : List AV} {μ : Mem} (hd : decode (mB a) pc = .ok (.iand, 1)) (h : AW a Ret (pc + 1) L (aI (andI x y) :: st) μ) : AW a Ret pc L (aI y :: aI x :: st) μ :=
  fun p l e s m args below meth c ad D cI cC cG X hr hlk => ag_iand X hd (h p l e s m args below meth c ad D cI cC cG X hr hlk)
theorem aw_lcmp {a : Nat} {Ret : PQ} {pc : Nat} {L : Lc} {x : Int64} {st : List AV} {μ : Mem} (hd : decode (mB a) pc = .ok (.lcmp, 1)) (h : AW a Ret (pc + 1) L (aI 0 :: st) μ) : AW a Ret pc L (aL x :: aL x :: st) μ :=
  fun p l e s m args below meth c ad D cI cC cG X hr hlk => ag_lcmp X hd (h p l e s m args below meth c ad D cI cC cG X hr hlk)
theorem aw_fcmp {a : Nat} {Ret : PQ} {pc : Nat} {L : Lc} {x : UInt32} {op : CmpOp} {st : List AV} {μ : Mem} (hd : decode (mB a) pc = .ok (.fcmp op, 1)) (hn : Jvm.FP.Core.fIsNaN x = false) (h : AW a Ret (pc + 1) L (aI 0 :: st) μ) : AW a Ret pc L (.inr (.float x) :: .inr (.float x) :: st) μ :=
  fun p l e s m args below meth c ad D cI cC cG X hr hlk => ag_fcmp X hd hn (h p l e s m args below meth c ad D cI cC cG X hr hlk)
theorem kf_184 : Cond.constantFloat (mY 184).cls 75 3212836864 ∈ lw_g := by
  have e : (mY 184).cls = "ClockedGameLaw" := by decide +kernel
  rw [e]
  exact gd (by decide +kernel) rfl
/-! what the law's calls find: the class's row, its history, an empty text -/
abbrev JJ : Rw → Prop := jI 30000
theorem hCC : ∀ v, JJ v → cJ v := fun v h => jI_cJ (by omega) h
theorem hJJ : ∀ v, JJ v → rwJ v := fun v h => (hCC v h).1
abbrev T0 : Rw := fun _ => 0
abbrev RK (μ : Mem) (v f : Rw) (n : Int) : Prop := rK JJ μ v f n T0 0
theorem l_up {x n : Int} {μ : Mem} {Q : PQ} (hn : 0 < n) (h : ∀ y, 0 ≤ y → y < n → Q (some (aI y)) μ) : wpM 183 [aI x, aI n] μ Q := by
  refine wo_183 [3] 60 rfl (Nat.le_of_ble_eq_true rfl) (fun hw => ?_)
  (simp (disch := omega) only [vc_s, sel_t, sel_f, vc_1, mn_0, mn_s, e_kc, e_lg0, e_lgs, e_ls0, e_lss, e_lc0, e_lcs, e_ls2, e_nlg0, e_nlgI, e_nvI, e_nvR, e_nvN, e_nv0, e_xI, e_xR, e_xN, e_xL, si_iload, si_iload_n, si_aload, si_aload_n, si_lload, si_lload_n, si_iconst, si_bipush, si_sipush, si_ldc, si_ldc2_w, si_aconst_null, si_istore, si_istore_n, si_astore, si_astore_n, si_astoreN, si_astore_nN, si_lstore, si_lstore_n, e_xInc, si_iinc, si_dupI, si_dupR, si_popI, si_popR, si_dup2, si_iadd, si_isub, si_imul, si_idiv, si_irem, si_ineg, si_i2c, si_i2l, si_ladd, si_lmul, si_goto, si_zeq, si_zne, si_zlt, si_zge, si_zgt, si_zle, si_ceq, si_cne, si_clt, si_cge, si_cgt, si_cle, si_ifnull, si_ifnullN, e_ts0, e_tss, si_tableswitch, si_getfield, e_gf, e_f0, e_fr, e_fs, si_putfield, e_pf, e_p0, e_ps, si_getstatic, si_arraylength, e_al, si_iaload, e_ia0, e_ia3, si_caload, e_ca, si_aaload, e_aa, si_iastore, e_is, si_castore, e_cs, e_rcv, e_rcS, si_invokevirtual, e_cp, si_invokestatic, e_sv, e_smax, e_smin, e_scp, si_ireturn, si_lreturn, si_areturn, si_areturnN, si_return_, mkL, List.map_cons, List.map_nil, List.length_cons, List.length_nil, Nat.reduceAdd, Nat.reduceSub, List.reduceReplicate, List.cons_append, List.nil_append, List.append_nil, Nat.reduceBEq, Bool.or_false, Bool.false_or, Bool.or_true, Bool.true_or, cond_false, cond_true, Nat.reduceEqDiff, reduceIte, List.take_succ_cons, List.take_zero, List.drop_succ_cons, List.drop_zero, List.reverse_cons, List.reverse_nil, Nat.reduceLeDiff, Nat.le_refl, true_and, and_true, Option.toList_some, Option.toList_none, Int.reduceToNat, Nat.zero_le, Int.reduceNatCast, Int.reduceNatCast', true_or, or_true, false_or, or_false, false_and, and_false, Int.reduceEq, Int.reduceLT, Int.reduceLE, Int.reduceNeg, imp_self, not_true, not_false_eq_true, false_implies, true_implies, implies_true, Int.reduceAdd, Int.reduceSub, Int.reduceMul, Int.reduceDiv, Int.reduceMod, stM_eq, cpM_eq, sR_eq, sR_sR, sh_0, sh_1, sh_2, sh_3, sh_4, sh_5, sh_6, sh_7, sh_8, sh_9, sh_10, sh_11, sh_st1, sh_st2, inR, Int.le_refl, t_183, u1_eq, u1_ne, sR_ne, hs]; repeat' first | (apply And.intro; focus omega) | with_reducible intro _)
  refine aw_iand fd_183_3 ?_
  have hb := andI_b (x := x) (y := 2147483647) (by omega) (by omega)
  generalize andI x 2147483647 = z at *
  refine vc1_snd ok_183 (stop := []) 60 ?_
  (simp (disch := omega) only [vc_s, sel_t, sel_f, vc_1, mn_0, mn_s, e_kc, e_lg0, e_lgs, e_ls0, e_lss, e_lc0, e_lcs, e_ls2, e_nlg0, e_nlgI, e_nvI, e_nvR, e_nvN, e_nv0, e_xI, e_xR, e_xN, e_xL, si_iload, si_iload_n, si_aload, si_aload_n, si_lload, si_lload_n, si_iconst, si_bipush, si_sipush, si_ldc, si_ldc2_w, si_aconst_null, si_istore, si_istore_n, si_astore, si_astore_n, si_astoreN, si_astore_nN, si_lstore, si_lstore_n, e_xInc, si_iinc, si_dupI, si_dupR, si_popI, si_popR, si_dup2, si_iadd, si_isub, si_imul, si_idiv, si_irem, si_ineg, si_i2c, si_i2l, si_ladd, si_lmul, si_goto, si_zeq, si_zne, si_zlt, si_zge, si_zgt, si_zle, si_ceq, si_cne, si_clt, si_cge, si_cgt, si_cle, si_ifnull, si_ifnullN, e_ts0, e_tss, si_tableswitch, si_getfield, e_gf, e_f0, e_fr, e_fs, si_putfield, e_pf, e_p0, e_ps, si_getstatic, si_arraylength, e_al, si_iaload, e_ia0, e_ia3, si_caload, e_ca, si_aaload, e_aa, si_iastore, e_is, si_castore, e_cs, e_rcv, e_rcS, si_invokevirtual, e_cp, si_invokestatic, e_sv, e_smax, e_smin, e_scp, si_ireturn, si_lreturn, si_areturn, si_areturnN, si_return_, mkL, List.map_cons, List.map_nil, List.length_cons, List.length_nil, Nat.reduceAdd, Nat.reduceSub, List.reduceReplicate, List.cons_append, List.nil_append, List.append_nil, Nat.reduceBEq, Bool.or_false, Bool.false_or, Bool.or_true, Bool.true_or, cond_false, cond_true, Nat.reduceEqDiff, reduceIte, List.take_succ_cons, List.take_zero, List.drop_succ_cons, List.drop_zero, List.reverse_cons, List.reverse_nil, Nat.reduceLeDiff, Nat.le_refl, true_and, and_true, Option.toList_some, Option.toList_none, Int.reduceToNat, Nat.zero_le, Int.reduceNatCast, Int.reduceNatCast', true_or, or_true, false_or, or_false, false_and, and_false, Int.reduceEq, Int.reduceLT, Int.reduceLE, Int.reduceNeg, imp_self, not_true, not_false_eq_true, false_implies, true_implies, implies_true, Int.reduceAdd, Int.reduceSub, Int.reduceMul, Int.reduceDiv, Int.reduceMod, stM_eq, cpM_eq, sR_eq, sR_sR, sh_0, sh_1, sh_2, sh_3, sh_4, sh_5, sh_6, sh_7, sh_8, sh_9, sh_10, sh_11, sh_st1, sh_st2, inR, Int.le_refl, t_183, u1_eq, u1_ne, sR_ne, hs]; repeat' first | (apply And.intro; focus omega) | with_reducible intro _)
  exact h _ (Int.emod_nonneg _ (by omega)) (Int.emod_lt_of_pos _ hn)
