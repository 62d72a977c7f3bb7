/-! where a text is at fault: the class's states against the reference's reading -/
def fl (T : Rw) : Nat → Int → Int → Int
  | 0, i, s => if isP s then -1 else i
  | k + 1, i, s => if rs s (T i) = -1 then i else fl T k (i + 1) (rs s (T i))
theorem rs_rng {s c : Int} (h : 0 ≤ s ∧ s ≤ 8) : rs s c = -1 ∨ (0 ≤ rs s c ∧ rs s c ≤ 8) := by
  unfold rs
  (repeat' split) <;> omega
theorem xlp_fault {μ : Mem} {T : Rw} {m : Int} {Q : PQ} (h : tX μ T m) : ∀ (k : Nat) (i s : Int), i + k = m → 0 ≤ i → (0 ≤ s ∧ s ≤ 8) → Q (some (aI (fl T k i s))) μ → AW 82 Q 4 [some (aR 3), some (aI s), some (aI i)] [] μ := by
  have e1 := h.2.1
  have hm := h.1
  intro k
  induction k with
  | zero =>
    intro i s hi h0 hs8 hQ
    have ei : i = m := by omega
    unfold fl at hQ
    refine vc1_snd ok_82 (stop := [4]) 60 ?_
    (simp (disch := omega) only [vc_s, sel_t, sel_f, vc_1, mn_0, mn_s, e_kc, e_lg0, e_lgs, e_ls0, e_lss, e_lc0, e_lcs, e_ls2, e_nlg0, e_nlgI, e_nvI, e_nvR, e_nvN, e_nv0, e_xI, e_xR, e_xN, e_xL, si_iload, si_iload_n, si_aload, si_aload_n, si_lload, si_lload_n, si_iconst, si_bipush, si_sipush, si_ldc, si_ldc2_w, si_aconst_null, si_istore, si_istore_n, si_astore, si_astore_n, si_astoreN, si_astore_nN, si_lstore, si_lstore_n, e_xInc, si_iinc, si_dupI, si_dupR, si_popI, si_popR, si_dup2, si_iadd, si_isub, si_imul, si_idiv, si_irem, si_ineg, si_i2c, si_i2l, si_ladd, si_lmul, si_goto, si_zeq, si_zne, si_zlt, si_zge, si_zgt, si_zle, si_ceq, si_cne, si_clt, si_cge, si_cgt, si_cle, si_ifnull, si_ifnullN, e_ts0, e_tss, si_tableswitch, si_getfield, e_gf, e_f0, e_fr, e_fs, si_putfield, e_pf, e_p0, e_ps, si_getstatic, si_arraylength, e_al, si_iaload, e_ia0, e_ia3, si_caload, e_ca, si_aaload, e_aa, si_iastore, e_is, si_castore, e_cs, e_rcv, e_rcS, si_invokevirtual, e_cp, si_invokestatic, e_sv, e_smax, e_smin, e_scp, si_ireturn, si_lreturn, si_areturn, si_areturnN, si_return_, mkL, List.map_cons, List.map_nil, List.length_cons, List.length_nil, Nat.reduceAdd, Nat.reduceSub, List.reduceReplicate, List.cons_append, List.nil_append, List.append_nil, Nat.reduceBEq, Bool.or_false, Bool.false_or, Bool.or_true, Bool.true_or, cond_false, cond_true, Nat.reduceEqDiff, reduceIte, List.take_succ_cons, List.take_zero, List.drop_succ_cons, List.drop_zero, List.reverse_cons, List.reverse_nil, Nat.reduceLeDiff, Nat.le_refl, true_and, and_true, Option.toList_some, Option.toList_none, Int.reduceToNat, Nat.zero_le, Int.reduceNatCast, Int.reduceNatCast', true_or, or_true, false_or, or_false, false_and, and_false, Int.reduceEq, Int.reduceLT, Int.reduceLE, Int.reduceNeg, imp_self, not_true, not_false_eq_true, false_implies, true_implies, implies_true, Int.reduceAdd, Int.reduceSub, Int.reduceMul, Int.reduceDiv, Int.reduceMod, stM_eq, cpM_eq, sR_eq, sR_sR, sh_0, sh_1, sh_2, sh_3, sh_4, sh_5, sh_6, sh_7, sh_8, sh_9, sh_10, sh_11, sh_st1, sh_st2, inR, Int.le_refl, t_82, u1_eq, u1_ne, sR_ne, hs, e1]; repeat' first | (apply And.intro; focus omega) | with_reducible intro _)
    (repeat' first | (apply And.intro; focus omega) | apply And.intro | with_reducible intro _) <;> first
      | (exfalso; omega)
      | (refine x_isP (fun hp => ?_) (fun hp => ?_)
         · rw [if_pos hp] at hQ
           (simp (disch := omega) only [vc_s, sel_t, sel_f, vc_1, mn_0, mn_s, e_kc, e_lg0, e_lgs, e_ls0, e_lss, e_lc0, e_lcs, e_ls2, e_nlg0, e_nlgI, e_nvI, e_nvR, e_nvN, e_nv0, e_xI, e_xR, e_xN, e_xL, si_iload, si_iload_n, si_aload, si_aload_n, si_lload, si_lload_n, si_iconst, si_bipush, si_sipush, si_ldc, si_ldc2_w, si_aconst_null, si_istore, si_istore_n, si_astore, si_astore_n, si_astoreN, si_astore_nN, si_lstore, si_lstore_n, e_xInc, si_iinc, si_dupI, si_dupR, si_popI, si_popR, si_dup2, si_iadd, si_isub, si_imul, si_idiv, si_irem, si_ineg, si_i2c, si_i2l, si_ladd, si_lmul, si_goto, si_zeq, si_zne, si_zlt, si_zge, si_zgt, si_zle, si_ceq, si_cne, si_clt, si_cge, si_cgt, si_cle, si_ifnull, si_ifnullN, e_ts0, e_tss, si_tableswitch, si_getfield, e_gf, e_f0, e_fr, e_fs, si_putfield, e_pf, e_p0, e_ps, si_getstatic, si_arraylength, e_al, si_iaload, e_ia0, e_ia3, si_caload, e_ca, si_aaload, e_aa, si_iastore, e_is, si_castore, e_cs, e_rcv, e_rcS, si_invokevirtual, e_cp, si_invokestatic, e_sv, e_smax, e_smin, e_scp, si_ireturn, si_lreturn, si_areturn, si_areturnN, si_return_, mkL, List.map_cons, List.map_nil, List.length_cons, List.length_nil, Nat.reduceAdd, Nat.reduceSub, List.reduceReplicate, List.cons_append, List.nil_append, List.append_nil, Nat.reduceBEq, Bool.or_false, Bool.false_or, Bool.or_true, Bool.true_or, cond_false, cond_true, Nat.reduceEqDiff, reduceIte, List.take_succ_cons, List.take_zero, List.drop_succ_cons, List.drop_zero, List.reverse_cons, List.reverse_nil, Nat.reduceLeDiff, Nat.le_refl, true_and, and_true, Option.toList_some, Option.toList_none, Int.reduceToNat, Nat.zero_le, Int.reduceNatCast, Int.reduceNatCast', true_or, or_true, false_or, or_false, false_and, and_false, Int.reduceEq, Int.reduceLT, Int.reduceLE, Int.reduceNeg, imp_self, not_true, not_false_eq_true, false_implies, true_implies, implies_true, Int.reduceAdd, Int.reduceSub, Int.reduceMul, Int.reduceDiv, Int.reduceMod, stM_eq, cpM_eq, sR_eq, sR_sR, sh_0, sh_1, sh_2, sh_3, sh_4, sh_5, sh_6, sh_7, sh_8, sh_9, sh_10, sh_11, sh_st1, sh_st2, inR, Int.le_refl, t_82, u1_eq, u1_ne, sR_ne, hs]; repeat' first | (apply And.intro; focus omega) | with_reducible intro _)
           exact hQ
         · rw [if_neg hp] at hQ
           (simp (disch := omega) only [vc_s, sel_t, sel_f, vc_1, mn_0, mn_s, e_kc, e_lg0, e_lgs, e_ls0, e_lss, e_lc0, e_lcs, e_ls2, e_nlg0, e_nlgI, e_nvI, e_nvR, e_nvN, e_nv0, e_xI, e_xR, e_xN, e_xL, si_iload, si_iload_n, si_aload, si_aload_n, si_lload, si_lload_n, si_iconst, si_bipush, si_sipush, si_ldc, si_ldc2_w, si_aconst_null, si_istore, si_istore_n, si_astore, si_astore_n, si_astoreN, si_astore_nN, si_lstore, si_lstore_n, e_xInc, si_iinc, si_dupI, si_dupR, si_popI, si_popR, si_dup2, si_iadd, si_isub, si_imul, si_idiv, si_irem, si_ineg, si_i2c, si_i2l, si_ladd, si_lmul, si_goto, si_zeq, si_zne, si_zlt, si_zge, si_zgt, si_zle, si_ceq, si_cne, si_clt, si_cge, si_cgt, si_cle, si_ifnull, si_ifnullN, e_ts0, e_tss, si_tableswitch, si_getfield, e_gf, e_f0, e_fr, e_fs, si_putfield, e_pf, e_p0, e_ps, si_getstatic, si_arraylength, e_al, si_iaload, e_ia0, e_ia3, si_caload, e_ca, si_aaload, e_aa, si_iastore, e_is, si_castore, e_cs, e_rcv, e_rcS, si_invokevirtual, e_cp, si_invokestatic, e_sv, e_smax, e_smin, e_scp, si_ireturn, si_lreturn, si_areturn, si_areturnN, si_return_, mkL, List.map_cons, List.map_nil, List.length_cons, List.length_nil, Nat.reduceAdd, Nat.reduceSub, List.reduceReplicate, List.cons_append, List.nil_append, List.append_nil, Nat.reduceBEq, Bool.or_false, Bool.false_or, Bool.or_true, Bool.true_or, cond_false, cond_true, Nat.reduceEqDiff, reduceIte, List.take_succ_cons, List.take_zero, List.drop_succ_cons, List.drop_zero, List.reverse_cons, List.reverse_nil, Nat.reduceLeDiff, Nat.le_refl, true_and, and_true, Option.toList_some, Option.toList_none, Int.reduceToNat, Nat.zero_le, Int.reduceNatCast, Int.reduceNatCast', true_or, or_true, false_or, or_false, false_and, and_false, Int.reduceEq, Int.reduceLT, Int.reduceLE, Int.reduceNeg, imp_self, not_true, not_false_eq_true, false_implies, true_implies, implies_true, Int.reduceAdd, Int.reduceSub, Int.reduceMul, Int.reduceDiv, Int.reduceMod, stM_eq, cpM_eq, sR_eq, sR_sR, sh_0, sh_1, sh_2, sh_3, sh_4, sh_5, sh_6, sh_7, sh_8, sh_9, sh_10, sh_11, sh_st1, sh_st2, inR, Int.le_refl, t_82, u1_eq, u1_ne, sR_ne, hs, e1]; repeat' first | (apply And.intro; focus omega) | with_reducible intro _)
           rw [← ei]
           exact hQ)
  | succ k ih =>
    intro i s hi h0 hs8 hQ
    unfold fl at hQ
    refine vc1_snd ok_82 (stop := [4]) 60 ?_
    (simp (disch := omega) only [vc_s, sel_t, sel_f, vc_1, mn_0, mn_s, e_kc, e_lg0, e_lgs, e_ls0, e_lss, e_lc0, e_lcs, e_ls2, e_nlg0, e_nlgI, e_nvI, e_nvR, e_nvN, e_nv0, e_xI, e_xR, e_xN, e_xL, si_iload, si_iload_n, si_aload, si_aload_n, si_lload, si_lload_n, si_iconst, si_bipush, si_sipush, si_ldc, si_ldc2_w, si_aconst_null, si_istore, si_istore_n, si_astore, si_astore_n, si_astoreN, si_astore_nN, si_lstore, si_lstore_n, e_xInc, si_iinc, si_dupI, si_dupR, si_popI, si_popR, si_dup2, si_iadd, si_isub, si_imul, si_idiv, si_irem, si_ineg, si_i2c, si_i2l, si_ladd, si_lmul, si_goto, si_zeq, si_zne, si_zlt, si_zge, si_zgt, si_zle, si_ceq, si_cne, si_clt, si_cge, si_cgt, si_cle, si_ifnull, si_ifnullN, e_ts0, e_tss, si_tableswitch, si_getfield, e_gf, e_f0, e_fr, e_fs, si_putfield, e_pf, e_p0, e_ps, si_getstatic, si_arraylength, e_al, si_iaload, e_ia0, e_ia3, si_caload, e_ca, si_aaload, e_aa, si_iastore, e_is, si_castore, e_cs, e_rcv, e_rcS, si_invokevirtual, e_cp, si_invokestatic, e_sv, e_smax, e_smin, e_scp, si_ireturn, si_lreturn, si_areturn, si_areturnN, si_return_, mkL, List.map_cons, List.map_nil, List.length_cons, List.length_nil, Nat.reduceAdd, Nat.reduceSub, List.reduceReplicate, List.cons_append, List.nil_append, List.append_nil, Nat.reduceBEq, Bool.or_false, Bool.false_or, Bool.or_true, Bool.true_or, cond_false, cond_true, Nat.reduceEqDiff, reduceIte, List.take_succ_cons, List.take_zero, List.drop_succ_cons, List.drop_zero, List.reverse_cons, List.reverse_nil, Nat.reduceLeDiff, Nat.le_refl, true_and, and_true, Option.toList_some, Option.toList_none, Int.reduceToNat, Nat.zero_le, Int.reduceNatCast, Int.reduceNatCast', true_or, or_true, false_or, or_false, false_and, and_false, Int.reduceEq, Int.reduceLT, Int.reduceLE, Int.reduceNeg, imp_self, not_true, not_false_eq_true, false_implies, true_implies, implies_true, Int.reduceAdd, Int.reduceSub, Int.reduceMul, Int.reduceDiv, Int.reduceMod, stM_eq, cpM_eq, sR_eq, sR_sR, sh_0, sh_1, sh_2, sh_3, sh_4, sh_5, sh_6, sh_7, sh_8, sh_9, sh_10, sh_11, sh_st1, sh_st2, inR, Int.le_refl, t_82, u1_eq, u1_ne, sR_ne, hs, e1]; repeat' first | (apply And.intro; focus omega) | with_reducible intro _)
    (repeat' first | (apply And.intro; focus omega) | apply And.intro | with_reducible intro _) <;> first
      | (exfalso; omega)
      | (refine x_sign h ?_
         have esg : sg T m i = T i := by unfold sg; rw [if_pos (by omega)]
         rw [esg]
         (simp (disch := omega) only [vc_s, sel_t, sel_f, vc_1, mn_0, mn_s, e_kc, e_lg0, e_lgs, e_ls0, e_lss, e_lc0, e_lcs, e_ls2, e_nlg0, e_nlgI, e_nvI, e_nvR, e_nvN, e_nv0, e_xI, e_xR, e_xN, e_xL, si_iload, si_iload_n, si_aload, si_aload_n, si_lload, si_lload_n, si_iconst, si_bipush, si_sipush, si_ldc, si_ldc2_w, si_aconst_null, si_istore, si_istore_n, si_astore, si_astore_n, si_astoreN, si_astore_nN, si_lstore, si_lstore_n, e_xInc, si_iinc, si_dupI, si_dupR, si_popI, si_popR, si_dup2, si_iadd, si_isub, si_imul, si_idiv, si_irem, si_ineg, si_i2c, si_i2l, si_ladd, si_lmul, si_goto, si_zeq, si_zne, si_zlt, si_zge, si_zgt, si_zle, si_ceq, si_cne, si_clt, si_cge, si_cgt, si_cle, si_ifnull, si_ifnullN, e_ts0, e_tss, si_tableswitch, si_getfield, e_gf, e_f0, e_fr, e_fs, si_putfield, e_pf, e_p0, e_ps, si_getstatic, si_arraylength, e_al, si_iaload, e_ia0, e_ia3, si_caload, e_ca, si_aaload, e_aa, si_iastore, e_is, si_castore, e_cs, e_rcv, e_rcS, si_invokevirtual, e_cp, si_invokestatic, e_sv, e_smax, e_smin, e_scp, si_ireturn, si_lreturn, si_areturn, si_areturnN, si_return_, mkL, List.map_cons, List.map_nil, List.length_cons, List.length_nil, Nat.reduceAdd, Nat.reduceSub, List.reduceReplicate, List.cons_append, List.nil_append, List.append_nil, Nat.reduceBEq, Bool.or_false, Bool.false_or, Bool.or_true, Bool.true_or, cond_false, cond_true, Nat.reduceEqDiff, reduceIte, List.take_succ_cons, List.take_zero, List.drop_succ_cons, List.drop_zero, List.reverse_cons, List.reverse_nil, Nat.reduceLeDiff, Nat.le_refl, true_and, and_true, Option.toList_some, Option.toList_none, Int.reduceToNat, Nat.zero_le, Int.reduceNatCast, Int.reduceNatCast', true_or, or_true, false_or, or_false, false_and, and_false, Int.reduceEq, Int.reduceLT, Int.reduceLE, Int.reduceNeg, imp_self, not_true, not_false_eq_true, false_implies, true_implies, implies_true, Int.reduceAdd, Int.reduceSub, Int.reduceMul, Int.reduceDiv, Int.reduceMod, stM_eq, cpM_eq, sR_eq, sR_sR, sh_0, sh_1, sh_2, sh_3, sh_4, sh_5, sh_6, sh_7, sh_8, sh_9, sh_10, sh_11, sh_st1, sh_st2, inR, Int.le_refl, t_82, u1_eq, u1_ne, sR_ne, hs]; repeat' first | (apply And.intro; focus omega) | with_reducible intro _)
         refine x_read hs8 ?_
         (simp (disch := omega) only [vc_s, sel_t, sel_f, vc_1, mn_0, mn_s, e_kc, e_lg0, e_lgs, e_ls0, e_lss, e_lc0, e_lcs, e_ls2, e_nlg0, e_nlgI, e_nvI, e_nvR, e_nvN, e_nv0, e_xI, e_xR, e_xN, e_xL, si_iload, si_iload_n, si_aload, si_aload_n, si_lload, si_lload_n, si_iconst, si_bipush, si_sipush, si_ldc, si_ldc2_w, si_aconst_null, si_istore, si_istore_n, si_astore, si_astore_n, si_astoreN, si_astore_nN, si_lstore, si_lstore_n, e_xInc, si_iinc, si_dupI, si_dupR, si_popI, si_popR, si_dup2, si_iadd, si_isub, si_imul, si_idiv, si_irem, si_ineg, si_i2c, si_i2l, si_ladd, si_lmul, si_goto, si_zeq, si_zne, si_zlt, si_zge, si_zgt, si_zle, si_ceq, si_cne, si_clt, si_cge, si_cgt, si_cle, si_ifnull, si_ifnullN, e_ts0, e_tss, si_tableswitch, si_getfield, e_gf, e_f0, e_fr, e_fs, si_putfield, e_pf, e_p0, e_ps, si_getstatic, si_arraylength, e_al, si_iaload, e_ia0, e_ia3, si_caload, e_ca, si_aaload, e_aa, si_iastore, e_is, si_castore, e_cs, e_rcv, e_rcS, si_invokevirtual, e_cp, si_invokestatic, e_sv, e_smax, e_smin, e_scp, si_ireturn, si_lreturn, si_areturn, si_areturnN, si_return_, mkL, List.map_cons, List.map_nil, List.length_cons, List.length_nil, Nat.reduceAdd, Nat.reduceSub, List.reduceReplicate, List.cons_append, List.nil_append, List.append_nil, Nat.reduceBEq, Bool.or_false, Bool.false_or, Bool.or_true, Bool.true_or, cond_false, cond_true, Nat.reduceEqDiff, reduceIte, List.take_succ_cons, List.take_zero, List.drop_succ_cons, List.drop_zero, List.reverse_cons, List.reverse_nil, Nat.reduceLeDiff, Nat.le_refl, true_and, and_true, Option.toList_some, Option.toList_none, Int.reduceToNat, Nat.zero_le, Int.reduceNatCast, Int.reduceNatCast', true_or, or_true, false_or, or_false, false_and, and_false, Int.reduceEq, Int.reduceLT, Int.reduceLE, Int.reduceNeg, imp_self, not_true, not_false_eq_true, false_implies, true_implies, implies_true, Int.reduceAdd, Int.reduceSub, Int.reduceMul, Int.reduceDiv, Int.reduceMod, stM_eq, cpM_eq, sR_eq, sR_sR, sh_0, sh_1, sh_2, sh_3, sh_4, sh_5, sh_6, sh_7, sh_8, sh_9, sh_10, sh_11, sh_st1, sh_st2, inR, Int.le_refl, t_82, u1_eq, u1_ne, sR_ne, hs]; repeat' first | (apply And.intro; focus omega) | with_reducible intro _)
         by_cases hr : rs s (T i) = -1
         · rw [if_pos hr] at hQ
           rw [hr]
           (simp (disch := omega) only [vc_s, sel_t, sel_f, vc_1, mn_0, mn_s, e_kc, e_lg0, e_lgs, e_ls0, e_lss, e_lc0, e_lcs, e_ls2, e_nlg0, e_nlgI, e_nvI, e_nvR, e_nvN, e_nv0, e_xI, e_xR, e_xN, e_xL, si_iload, si_iload_n, si_aload, si_aload_n, si_lload, si_lload_n, si_iconst, si_bipush, si_sipush, si_ldc, si_ldc2_w, si_aconst_null, si_istore, si_istore_n, si_astore, si_astore_n, si_astoreN, si_astore_nN, si_lstore, si_lstore_n, e_xInc, si_iinc, si_dupI, si_dupR, si_popI, si_popR, si_dup2, si_iadd, si_isub, si_imul, si_idiv, si_irem, si_ineg, si_i2c, si_i2l, si_ladd, si_lmul, si_goto, si_zeq, si_zne, si_zlt, si_zge, si_zgt, si_zle, si_ceq, si_cne, si_clt, si_cge, si_cgt, si_cle, si_ifnull, si_ifnullN, e_ts0, e_tss, si_tableswitch, si_getfield, e_gf, e_f0, e_fr, e_fs, si_putfield, e_pf, e_p0, e_ps, si_getstatic, si_arraylength, e_al, si_iaload, e_ia0, e_ia3, si_caload, e_ca, si_aaload, e_aa, si_iastore, e_is, si_castore, e_cs, e_rcv, e_rcS, si_invokevirtual, e_cp, si_invokestatic, e_sv, e_smax, e_smin, e_scp, si_ireturn, si_lreturn, si_areturn, si_areturnN, si_return_, mkL, List.map_cons, List.map_nil, List.length_cons, List.length_nil, Nat.reduceAdd, Nat.reduceSub, List.reduceReplicate, List.cons_append, List.nil_append, List.append_nil, Nat.reduceBEq, Bool.or_false, Bool.false_or, Bool.or_true, Bool.true_or, cond_false, cond_true, Nat.reduceEqDiff, reduceIte, List.take_succ_cons, List.take_zero, List.drop_succ_cons, List.drop_zero, List.reverse_cons, List.reverse_nil, Nat.reduceLeDiff, Nat.le_refl, true_and, and_true, Option.toList_some, Option.toList_none, Int.reduceToNat, Nat.zero_le, Int.reduceNatCast, Int.reduceNatCast', true_or, or_true, false_or, or_false, false_and, and_false, Int.reduceEq, Int.reduceLT, Int.reduceLE, Int.reduceNeg, imp_self, not_true, not_false_eq_true, false_implies, true_implies, implies_true, Int.reduceAdd, Int.reduceSub, Int.reduceMul, Int.reduceDiv, Int.reduceMod, stM_eq, cpM_eq, sR_eq, sR_sR, sh_0, sh_1, sh_2, sh_3, sh_4, sh_5, sh_6, sh_7, sh_8, sh_9, sh_10, sh_11, sh_st1, sh_st2, inR, Int.le_refl, t_82, u1_eq, u1_ne, sR_ne, hs]; repeat' first | (apply And.intro; focus omega) | with_reducible intro _)
           exact hQ
         · rw [if_neg hr] at hQ
           have := rs_rng (s := s) (c := T i) hs8
           (repeat' first | (apply And.intro; focus omega) | apply And.intro | with_reducible intro _) <;> first
             | exact ih (i + 1) _ (by omega) (by omega) (by omega) hQ
             | (exfalso; omega))
theorem x_fault {μ : Mem} {T : Rw} {m : Int} {Q : PQ} (h : tX μ T m) (hQ : Q (some (aI (fl T m.toNat 0 0))) μ) : wpM 82 [aR 3] μ Q := by
  have hm := h.1
  refine wo_82 [4] 60 rfl (Nat.le_of_ble_eq_true rfl) (fun hw => ?_)
  (simp (disch := omega) only [vc_s, sel_t, sel_f, vc_1, mn_0, mn_s, e_kc, e_lg0, e_lgs, e_ls0, e_lss, e_lc0, e_lcs, e_ls2, e_nlg0, e_nlgI, e_nvI, e_nvR, e_nvN, e_nv0, e_xI, e_xR, e_xN, e_xL, si_iload, si_iload_n, si_aload, si_aload_n, si_lload, si_lload_n, si_iconst, si_bipush, si_sipush, si_ldc, si_ldc2_w, si_aconst_null, si_istore, si_istore_n, si_astore, si_astore_n, si_astoreN, si_astore_nN, si_lstore, si_lstore_n, e_xInc, si_iinc, si_dupI, si_dupR, si_popI, si_popR, si_dup2, si_iadd, si_isub, si_imul, si_idiv, si_irem, si_ineg, si_i2c, si_i2l, si_ladd, si_lmul, si_goto, si_zeq, si_zne, si_zlt, si_zge, si_zgt, si_zle, si_ceq, si_cne, si_clt, si_cge, si_cgt, si_cle, si_ifnull, si_ifnullN, e_ts0, e_tss, si_tableswitch, si_getfield, e_gf, e_f0, e_fr, e_fs, si_putfield, e_pf, e_p0, e_ps, si_getstatic, si_arraylength, e_al, si_iaload, e_ia0, e_ia3, si_caload, e_ca, si_aaload, e_aa, si_iastore, e_is, si_castore, e_cs, e_rcv, e_rcS, si_invokevirtual, e_cp, si_invokestatic, e_sv, e_smax, e_smin, e_scp, si_ireturn, si_lreturn, si_areturn, si_areturnN, si_return_, mkL, List.map_cons, List.map_nil, List.length_cons, List.length_nil, Nat.reduceAdd, Nat.reduceSub, List.reduceReplicate, List.cons_append, List.nil_append, List.append_nil, Nat.reduceBEq, Bool.or_false, Bool.false_or, Bool.or_true, Bool.true_or, cond_false, cond_true, Nat.reduceEqDiff, reduceIte, List.take_succ_cons, List.take_zero, List.drop_succ_cons, List.drop_zero, List.reverse_cons, List.reverse_nil, Nat.reduceLeDiff, Nat.le_refl, true_and, and_true, Option.toList_some, Option.toList_none, Int.reduceToNat, Nat.zero_le, Int.reduceNatCast, Int.reduceNatCast', true_or, or_true, false_or, or_false, false_and, and_false, Int.reduceEq, Int.reduceLT, Int.reduceLE, Int.reduceNeg, imp_self, not_true, not_false_eq_true, false_implies, true_implies, implies_true, Int.reduceAdd, Int.reduceSub, Int.reduceMul, Int.reduceDiv, Int.reduceMod, stM_eq, cpM_eq, sR_eq, sR_sR, sh_0, sh_1, sh_2, sh_3, sh_4, sh_5, sh_6, sh_7, sh_8, sh_9, sh_10, sh_11, sh_st1, sh_st2, inR, Int.le_refl, t_82, u1_eq, u1_ne, sR_ne, hs]; repeat' first | (apply And.intro; focus omega) | with_reducible intro _)
  exact xlp_fault h m.toNat 0 0 (by omega) (by omega) (by omega) hQ
def FL (T : Rw) (n i s : Int) : Int := fl T (n - i).toNat i s
theorem FL_n {T : Rw} {n s : Int} : FL T n n s = if isP s then -1 else n := by
  unfold FL
  rw [show (n - n).toNat = 0 by omega]
  rfl
theorem FL_s {T : Rw} {n i s : Int} (h : i < n) : FL T n i s = if rs s (T i) = -1 then i else FL T n (i + 1) (rs s (T i)) := by
  unfold FL
  rw [show (n - i).toNat = (n - (i + 1)).toNat + 1 by omega]
  rfl
theorem FL_t {T : Rw} {n i s s' : Int} (h : i < n) (hr : rs s (T i) = s') (h0 : s' ≠ -1) : FL T n i s = FL T n (i + 1) s' := by
  rw [FL_s h, hr, if_neg h0]
theorem FL_x {T : Rw} {n i s : Int} (h : i ≤ n) (hr : i < n → rs s (T i) = -1) (hp : i = n → ¬ isP s) : FL T n i s = i := by
  by_cases q : i < n
  · rw [FL_s q, if_pos (hr q)]
  · have : i = n := by omega
    subst this
    rw [FL_n, if_neg (hp rfl)]
theorem nx_lt {T : Rw} {n p : Int} (h : nx T n p ≠ -1) : p < n ∧ nx T n p = T p := by
  unfold nx at *
  split at h
  · rename_i q
    rw [if_pos q]
    exact ⟨q, rfl⟩
  · exact absurd rfl h
theorem nx_t {T : Rw} {n p : Int} (h : p < n) : nx T n p = T p := by
  unfold nx
  rw [if_pos h]
theorem FL_dg {T : Rw} {n : Int} : ∀ (f : Nat) (i x s : Int), s + f = 4 → 0 ≤ s → FL T n i s = FL T n (dgF T n f i x).1 (s + ((dgF T n f i x).1 - i)) ∧ ((dgF T n f i x).1 - i < f → ¬ (48 ≤ nx T n (dgF T n f i x).1 ∧ nx T n (dgF T n f i x).1 ≤ 57))
  | 0, i, x, s, hs4, h0 => by
    simp only [dgF]
    refine ⟨by rw [Int.sub_self, Int.add_zero], fun h => ?_⟩
    omega
  | f + 1, i, x, s, hs4, h0 => by
    unfold dgF
    split
    · rename_i hd
      obtain ⟨hlt, he⟩ := nx_lt (T := T) (n := n) (p := i) (by omega)
      obtain ⟨a, b⟩ := FL_dg (T := T) (n := n) f (i + 1) (10 * x + nx T n i - 48) (s + 1) (by omega) (by omega)
      have hr : rs s (T i) = s + 1 := by
        unfold rs
        rw [if_neg (by omega), if_pos (by omega)]
      refine ⟨?_, fun h => b (by omega)⟩
      rw [FL_t hlt hr (by omega), a]
      congr 1; omega
    · rename_i hd
      simp only []
      refine ⟨by rw [Int.sub_self, Int.add_zero], fun _ => hd⟩
theorem FL_c {T : Rw} {n p s : Int} (hp : p ≤ n) (hs : s = 0 ∨ s = 6) (hd : s = 0 → ¬ (48 ≤ nx T n p ∧ nx T n p ≤ 57)) : ((rdC T n p).1 < 0 → FL T n p s = (rdC T n p).2) ∧ (¬ (rdC T n p).1 < 0 → FL T n p s = FL T n (p + 2) (if s = 0 then 6 else 8)) := by
  unfold rdC
  split
  · rename_i h1
    refine ⟨fun _ => ?_, fun h => absurd (by simp) h⟩
    simp only []
    refine FL_x hp (fun q => ?_) (fun q => by omega)
    rw [nx_t q] at h1 hd
    unfold rs
    (repeat' split) <;> omega
  · rename_i h1
    obtain ⟨hlt, he⟩ := nx_lt (T := T) (n := n) (p := p) (by omega)
    rw [he] at h1 hd
    have hr : rs s (T p) = s + (if s = 0 then 5 else 1) := by
      unfold rs
      (repeat' split) <;> omega
    have e1 := FL_t hlt hr (by split <;> omega)
    split
    · rename_i h2
      refine ⟨fun _ => ?_, fun h => absurd (by simp) h⟩
      simp only []
      rw [e1]
      refine FL_x (by omega) (fun q => ?_) (fun q => by split <;> omega)
      rw [nx_t q] at h2
      unfold rs
      (repeat' split) <;> omega
    · rename_i h2
      obtain ⟨hlt2, he2⟩ := nx_lt (T := T) (n := n) (p := p + 1) (by omega)
      rw [he2] at h2
      refine ⟨fun h => ?_, fun _ => ?_⟩
      · simp only [] at h
        rw [he, he2] at h
        omega
      · have hr2 : rs (s + (if s = 0 then 5 else 1)) (T (p + 1)) = (if s = 0 then 6 else 8) := by
          unfold rs
          (repeat' split) <;> omega
        rw [e1, FL_t hlt2 hr2 (by split <;> omega)]
        congr 1; omega
