/-! p28: what each asking call answers, by the row -/
theorem q_game {μ : Mem} {v f : Rw} {n k : Int} {Q : PQ} (h : RK μ v f n) (hv : JJ v) (hQ : Q (some (aI (if 0 ≤ k ∧ k ≤ 8 then gmO v k else -200001))) μ) : wpM 108 [aR 0, aI k] μ Q := tp_game h (hCC v hv).2.2.1 (hCC v hv).2.1 hQ
theorem q_g0 {μ : Mem} {v f : Rw} {n : Int} {Q : PQ} (h : RK μ v f n) (hv : JJ v) (hQ : Q (some (aI (v 7))) μ) : wpM 108 [aR 0, aI 0] μ Q := q_game h hv hQ
theorem q_g1 {μ : Mem} {v f : Rw} {n : Int} {Q : PQ} (h : RK μ v f n) (hv : JJ v) (hQ : Q (some (aI (v 8))) μ) : wpM 108 [aR 0, aI 1] μ Q := q_game h hv hQ
theorem q_g2 {μ : Mem} {v f : Rw} {n : Int} {Q : PQ} (h : RK μ v f n) (hv : JJ v) (hQ : Q (some (aI (v 9))) μ) : wpM 108 [aR 0, aI 2] μ Q := q_game h hv hQ
theorem q_g3 {μ : Mem} {v f : Rw} {n : Int} {Q : PQ} (h : RK μ v f n) (hv : JJ v) (hQ : Q (some (aI (v 10))) μ) : wpM 108 [aR 0, aI 3] μ Q := q_game h hv hQ
theorem q_g4 {μ : Mem} {v f : Rw} {n : Int} {Q : PQ} (h : RK μ v f n) (hv : JJ v) (hQ : Q (some (aI (v 11))) μ) : wpM 108 [aR 0, aI 4] μ Q := q_game h hv hQ
theorem q_g5 {μ : Mem} {v f : Rw} {n : Int} {Q : PQ} (h : RK μ v f n) (hv : JJ v) (hQ : Q (some (aI (v 12))) μ) : wpM 108 [aR 0, aI 5] μ Q := q_game h hv hQ
theorem q_g6 {μ : Mem} {v f : Rw} {n : Int} {Q : PQ} (h : RK μ v f n) (hv : JJ v) (hQ : Q (some (aI (v 13))) μ) : wpM 108 [aR 0, aI 6] μ Q := q_game h hv hQ
theorem q_g7 {μ : Mem} {v f : Rw} {n : Int} {Q : PQ} (h : RK μ v f n) (hv : JJ v) (hQ : Q (some (aI (v 14))) μ) : wpM 108 [aR 0, aI 7] μ Q := q_game h hv hQ
theorem q_g8 {μ : Mem} {v f : Rw} {n : Int} {Q : PQ} (h : RK μ v f n) (hv : JJ v) (hQ : Q (some (aI (pmN v))) μ) : wpM 108 [aR 0, aI 8] μ Q := q_game h hv hQ
theorem q_g9 {μ : Mem} {v f : Rw} {n : Int} {Q : PQ} (h : RK μ v f n) (hv : JJ v) (hQ : Q (some (aI (-200001))) μ) : wpM 108 [aR 0, aI 9] μ Q := q_game h hv hQ
theorem q_player {μ : Mem} {v f : Rw} {n p k : Int} {Q : PQ} (h : RK μ v f n) (hv : JJ v) (hQ : Q (some (aI (if (0 ≤ p ∧ p ≤ 1) ∧ 0 ≤ k ∧ k ≤ 6 then plO v p k else -200001))) μ) : wpM 109 [aR 0, aI p, aI k] μ Q := tp_player h (hCC v hv).2.2.1 hQ
theorem q_p {μ : Mem} {v f : Rw} {n p k : Int} {Q : PQ} (h : RK μ v f n) (hv : JJ v) (hp : 0 ≤ p ∧ p ≤ 1) (hk : 0 ≤ k ∧ k ≤ 5) (hQ : Q (some (aI (v (hs p k)))) μ) : wpM 109 [aR 0, aI p, aI k] μ Q := by
  refine q_player h hv ?_
  unfold plO
  rw [if_pos ⟨hp, by omega⟩, if_neg (by omega)]
  exact hQ
theorem q_p6 {μ : Mem} {v f : Rw} {n p : Int} {Q : PQ} (h : RK μ v f n) (hv : JJ v) (hp : 0 ≤ p ∧ p ≤ 1) (hQ : Q (some (aI (pcs v p))) μ) : wpM 109 [aR 0, aI p, aI 6] μ Q := by
  refine q_player h hv ?_
  unfold plO
  rw [if_pos ⟨hp, by omega⟩, if_pos rfl]
  exact hQ
theorem q_at {μ : Mem} {v f : Rw} {n c : Int} {Q : PQ} (h : RK μ v f n) (hc : isC c) (hQ : Q (some (aI (atN v c))) μ) : wpM 107 [aR 0, aI c] μ Q := by
  refine tp_at h ?_
  have e : atR v c = atN v c := by
    unfold atR atN
    rw [if_neg (by omega)]
  rw [e]; exact hQ
theorem q_set {μ : Mem} {v f : Rw} {n s : Int} {Q : PQ} (h : RK μ v f n) (hs6 : 0 ≤ s ∧ s ≤ 6) (hQ : Q (some (aI (v s))) μ) : wpM 96 [aR 0, aI s] μ Q := by
  refine tp_setting h ?_
  rw [if_pos hs6]; exact hQ
theorem q_wr {μ : Mem} {v f : Rw} {n : Int} {Q : PQ} (h : RK μ v f n) (hQ : Q (some (aI (recL v (v 11).toNat).length)) μ) : wpM 111 [aR 0] μ Q := tp_written h hQ
theorem q_sg {μ : Mem} {v f : Rw} {n i : Int} {Q : PQ} (h : RK μ v f n) (hv : JJ v) (hQ : Q (some (aI (sgR v (v 11).toNat i))) μ) : wpM 112 [aR 0, aI i] μ Q := tp_sign h (rJ_len h.1 (hJJ v hv)).2 hQ
theorem q_len {μ : Mem} {v f : Rw} {n : Int} (h : RK μ v f n) (hv : JJ v) : ((recL v (v 11).toNat).length : Int) ≤ 3417 := by
  have h1 := (rJ_len h.1 (hJJ v hv)).2
  have e1 : μ (12 + 11) 1 = (recL v (v 11).toNat).length := h.1.2.2.2.2.2.2.2.2.1
  rw [e1] at h1
  exact h1
theorem q_fp {μ : Mem} {v f : Rw} {n : Int} {Q : PQ} (h : RK μ v f n) (hv : JJ v) (hQ : Q (some (aL (fpV v (v 11).toNat))) μ) : wpM 118 [aR 0] μ Q := tp_fp hCC h hv hQ
theorem q_why {μ : Mem} {v f : Rw} {n a t : Int} {Q : PQ} (h : RK μ v f n) (hv : JJ v) (ha : isC a) (ht : isC t) (hQ : Q (some (aI (why v a t))) μ) : wpM 99 [aR 0, aI a, aI t] μ Q := by
  refine tp_why hCC h hv ?_
  rw [if_pos ⟨ha, ht⟩]; exact hQ
theorem q_pos {μ : Mem} {v f : Rw} {n i : Int} {Q : PQ} (h : RK μ v f n) (hv : JJ v) (hQ : Q (some (aI (psR v i))) μ) : wpM 110 [aR 0, aI i] μ Q := tp_possible h (hCC v hv).2.2.1 (hCC v hv).2.1 hQ
theorem mn_r {v : Rw} (hv : JJ v) (p : Int) : 0 ≤ p ∧ p ≤ 1 → inR (v (hs p 4)) := by
  intro hp
  have q4 := (jB_s hv.1 (p := p) (by omega)).2.2.2.2.1
  obtain ⟨a7, a9, a10, a11, a70, a71⟩ := id hv.1.2.2.2.1
  unfold inR
  omega
theorem q_mean {μ : Mem} {v f : Rw} {n p : Int} {Q : PQ} (h : RK μ v f n) (hv : JJ v) (hQ : Q (some (.inr (.float (mnV v p)))) μ) : wpM 113 [aR 0, aI p] μ Q := tp_mean h (mn_r hv p) hQ
theorem q_type31 {μ : Mem} {Q : PQ} (hQ : Q (some (aI (-200001))) μ) : wpM 114 [aR 0, aI 31] μ Q := by
  refine wo_114 [] 60 rfl (Nat.le_of_ble_eq_true rfl) (fun hw => ?_)
  (simp (disch := omega) only [vc_s, sel_t, sel_f, vc_1, mn_0, mn_s, e_kc, e_lg0, e_lgs, e_ls0, e_lss, e_lc0, e_lcs, e_ls2, e_nlg0, e_nlgI, e_nvI, e_nvR, e_nvN, e_nv0, e_xI, e_xR, e_xN, e_xL, si_iload, si_iload_n, si_aload, si_aload_n, si_lload, si_lload_n, si_iconst, si_bipush, si_sipush, si_ldc, si_ldc2_w, si_aconst_null, si_istore, si_istore_n, si_astore, si_astore_n, si_astoreN, si_astore_nN, si_lstore, si_lstore_n, e_xInc, si_iinc, si_dupI, si_dupR, si_popI, si_popR, si_dup2, si_iadd, si_isub, si_imul, si_idiv, si_irem, si_ineg, si_i2c, si_i2l, si_ladd, si_lmul, si_goto, si_zeq, si_zne, si_zlt, si_zge, si_zgt, si_zle, si_ceq, si_cne, si_clt, si_cge, si_cgt, si_cle, si_ifnull, si_ifnullN, e_ts0, e_tss, si_tableswitch, si_getfield, e_gf, e_f0, e_fr, e_fs, si_putfield, e_pf, e_p0, e_ps, si_getstatic, si_arraylength, e_al, si_iaload, e_ia0, e_ia3, si_caload, e_ca, si_aaload, e_aa, si_iastore, e_is, si_castore, e_cs, e_rcv, e_rcS, si_invokevirtual, e_cp, si_invokestatic, e_sv, e_smax, e_smin, e_scp, si_ireturn, si_lreturn, si_areturn, si_areturnN, si_return_, mkL, List.map_cons, List.map_nil, List.length_cons, List.length_nil, Nat.reduceAdd, Nat.reduceSub, List.reduceReplicate, List.cons_append, List.nil_append, List.append_nil, Nat.reduceBEq, Bool.or_false, Bool.false_or, Bool.or_true, Bool.true_or, cond_false, cond_true, Nat.reduceEqDiff, reduceIte, List.take_succ_cons, List.take_zero, List.drop_succ_cons, List.drop_zero, List.reverse_cons, List.reverse_nil, Nat.reduceLeDiff, Nat.le_refl, true_and, and_true, Option.toList_some, Option.toList_none, Int.reduceToNat, Nat.zero_le, Int.reduceNatCast, Int.reduceNatCast', true_or, or_true, false_or, or_false, false_and, and_false, Int.reduceEq, Int.reduceLT, Int.reduceLE, Int.reduceNeg, imp_self, not_true, not_false_eq_true, false_implies, true_implies, implies_true, Int.reduceAdd, Int.reduceSub, Int.reduceMul, Int.reduceDiv, Int.reduceMod, stM_eq, cpM_eq, sR_eq, sR_sR, sh_0, sh_1, sh_2, sh_3, sh_4, sh_5, sh_6, sh_7, sh_8, sh_9, sh_10, sh_11, sh_st1, sh_st2, inR, Int.le_refl, t_114, u1_eq, u1_ne, sR_ne, hs]; repeat' first | (apply And.intro; focus omega) | with_reducible intro _)
  exact hQ
