/-! THE CLASS, 8: taking back -/
def unC (w : Rw) : Rw := u1 (unF w) 9 (1 - w 9)
/-- what the class asks besides, to undo the last move -/
def uJ (w : Rw) : Prop := w 9 = 1 - w (unK w + 4) ∧ w (20 + w (unK w + 1)) = w (unK w + 4) + 1
theorem k_tbLast {b : Nat} (hb : gm b) {μ : Mem} {w : Rw} {Q : PQ} (h : rG b μ w) (hI : uI w) (hJ : uJ w) (hQ : ∀ μ', oG b μ μ' → rG b μ' (unC w) → Q none μ') : wpM 59 [aR b] μ Q := by
  obtain ⟨h10, h4, hf, ht, h3, hc, ha, hm⟩ := hI
  obtain ⟨h9, hto⟩ := hJ
  have e9 := h.1.1.2.2
  have ec := h.2.2.2.2.2.1.1
  have eh := h.2.2.2.2.2.1.2.2 (w 10 - 1) (by omega)
  unfold tgt at eh
  have eK : unK w = 80 + 5 * (w 10 - 1) := rfl
  rw [← eK] at eh
  obtain ⟨⟨q1, q2⟩, q3, q4⟩ := eh
  have hK : 80 ≤ unK w ∧ unK w + 5 ≤ 1080 := by omega
  have o9 : 1 - w 9 = w (unK w + 4) := by omega
  have eo : (if w 9 = 0 then (1 : Int) else 0) = w (unK w + 4) := by split <;> omega
  have gs := shp_sd hb (w (unK w + 4))
  have hsn : sdC b (w (unK w + 4)) < b + 6 ∧ b + 4 ≤ sdC b (w (unK w + 4)) := by unfold sdC; split <;> omega
  unfold unC unF un5 un4 un3 un2 un1 at hQ
  rw [o9] at hQ
  generalize w (unK w) = f at *
  generalize w (unK w + 1) = t at *
  generalize w (unK w + 2) = tk at *
  generalize w (unK w + 3) = m at *
  generalize w (unK w + 4) = p at *
  unfold hs at *
  obtain ⟨g0, g1, g2, g3, g4, g5, g6, g7, g8, g9, g10, g11, g12⟩ := gm_all hb
  refine wo_59 [] 90 rfl (Nat.le_of_ble_eq_true rfl) (fun hw => ?_)
  (simp (disch := omega) only [vc_s, sel_t, sel_f, vc_1, mn_0, mn_s, e_kc, e_lg0, e_lgs, e_ls0, e_lss, e_lc0, e_lcs, e_ls2, e_nlg0, e_nlgI, e_nvI, e_nvR, e_nvN, e_nv0, e_xI, e_xR, e_xN, e_xL, si_iload, si_iload_n, si_aload, si_aload_n, si_lload, si_lload_n, si_iconst, si_bipush, si_sipush, si_ldc, si_ldc2_w, si_aconst_null, si_istore, si_istore_n, si_astore, si_astore_n, si_astoreN, si_astore_nN, si_lstore, si_lstore_n, e_xInc, si_iinc, si_dupI, si_dupR, si_popI, si_popR, si_dup2, si_iadd, si_isub, si_imul, si_idiv, si_irem, si_ineg, si_i2c, si_i2l, si_ladd, si_lmul, si_goto, si_zeq, si_zne, si_zlt, si_zge, si_zgt, si_zle, si_ceq, si_cne, si_clt, si_cge, si_cgt, si_cle, si_ifnull, si_ifnullN, e_ts0, e_tss, si_tableswitch, si_getfield, e_gf, e_f0, e_fr, e_fs, si_putfield, e_pf, e_p0, e_ps, si_getstatic, si_arraylength, e_al, si_iaload, e_ia0, e_ia3, si_caload, e_ca, si_aaload, e_aa, si_iastore, e_is, si_castore, e_cs, e_rcv, e_rcS, si_invokevirtual, e_cp, si_invokestatic, e_sv, e_smax, e_smin, e_scp, si_ireturn, si_lreturn, si_areturn, si_areturnN, si_return_, mkL, List.map_cons, List.map_nil, List.length_cons, List.length_nil, Nat.reduceAdd, Nat.reduceSub, List.reduceReplicate, List.cons_append, List.nil_append, List.append_nil, Nat.reduceBEq, Bool.or_false, Bool.false_or, Bool.or_true, Bool.true_or, cond_false, cond_true, Nat.reduceEqDiff, reduceIte, List.take_succ_cons, List.take_zero, List.drop_succ_cons, List.drop_zero, List.reverse_cons, List.reverse_nil, Nat.reduceLeDiff, Nat.le_refl, true_and, and_true, Option.toList_some, Option.toList_none, Int.reduceToNat, Nat.zero_le, Int.reduceNatCast, Int.reduceNatCast', true_or, or_true, false_or, or_false, false_and, and_false, Int.reduceEq, Int.reduceLT, Int.reduceLE, Int.reduceNeg, imp_self, not_true, not_false_eq_true, false_implies, true_implies, implies_true, Int.reduceAdd, Int.reduceSub, Int.reduceMul, Int.reduceDiv, Int.reduceMod, stM_eq, cpM_eq, sR_eq, sR_sR, sh_0, sh_1, sh_2, sh_3, sh_4, sh_5, sh_6, sh_7, sh_8, sh_9, sh_10, sh_11, sh_st1, sh_st2, inR, Int.le_refl, t_59, u1_eq, u1_ne, sR_ne, hs, g0, g1, g2, g3, g4, g5, g6, g7, g8, g9, g10, g11, g12]; repeat' first | (apply And.intro; focus omega) | with_reducible intro _)
  refine k_pop hb (by omega) ?_
  rw [ec, q1, q2, q3, q4]
  have r1 : rG b (sR μ (b + 6) (u1 (u1 (u1 (u1 (u1 (μ (b + 6)) 4 (w 10 - 1)) 5 f) 6 t) 8 m) 7 (if tk = 0 then -200009 else 1 - p))) (u1 w 10 (w 10 - 1)) := by
    refine rG_md h (fun a ha => by simp (disch := omega) only [sR_ne]) ⟨?_, ?_, fun k hk => ?_⟩ (fun i hi => by simp (disch := omega) only [u1_ne])
    · simp (disch := omega) only [sR_eq, u1_ne, u1_eq]
    · rw [u1_eq]; omega
    · rw [u1_eq] at hk
      have := h.2.2.2.2.2.1.2.2 k (by omega)
      unfold tgt at *
      simp (disch := omega) only [sR_ne, u1_ne]
      exact this
  have o1 : oG b μ (sR μ (b + 6) (u1 (u1 (u1 (u1 (u1 (μ (b + 6)) 4 (w 10 - 1)) 5 f) 6 t) 8 m) 7 (if tk = 0 then -200009 else 1 - p))) := oG.st (by omega)
  have f5 : (sR μ (b + 6) (u1 (u1 (u1 (u1 (u1 (μ (b + 6)) 4 (w 10 - 1)) 5 f) 6 t) 8 m) 7 (if tk = 0 then -200009 else 1 - p))) (b + 6) 5 = f := by simp (disch := omega) only [sR_eq, u1_ne, u1_eq]
  have f6 : (sR μ (b + 6) (u1 (u1 (u1 (u1 (u1 (μ (b + 6)) 4 (w 10 - 1)) 5 f) 6 t) 8 m) 7 (if tk = 0 then -200009 else 1 - p))) (b + 6) 6 = t := by simp (disch := omega) only [sR_eq, u1_ne, u1_eq]
  have f7 : (sR μ (b + 6) (u1 (u1 (u1 (u1 (u1 (μ (b + 6)) 4 (w 10 - 1)) 5 f) 6 t) 8 m) 7 (if tk = 0 then -200009 else 1 - p))) (b + 6) 7 = (if tk = 0 then -200009 else 1 - p) := by simp (disch := omega) only [sR_eq, u1_ne, u1_eq]
  have f8 : (sR μ (b + 6) (u1 (u1 (u1 (u1 (u1 (μ (b + 6)) 4 (w 10 - 1)) 5 f) 6 t) 8 m) 7 (if tk = 0 then -200009 else 1 - p))) (b + 6) 8 = m := by simp (disch := omega) only [sR_eq, u1_ne, u1_eq]
  generalize sR μ (b + 6) (u1 (u1 (u1 (u1 (u1 (μ (b + 6)) 4 (w 10 - 1)) 5 f) 6 t) 8 m) 7 (if tk = 0 then -200009 else 1 - p)) = μ1 at *
  have e91 := r1.1.1.2.2
  rw [u1_ne (by omega)] at e91
  (simp (disch := omega) only [vc_s, sel_t, sel_f, vc_1, mn_0, mn_s, e_kc, e_lg0, e_lgs, e_ls0, e_lss, e_lc0, e_lcs, e_ls2, e_nlg0, e_nlgI, e_nvI, e_nvR, e_nvN, e_nv0, e_xI, e_xR, e_xN, e_xL, si_iload, si_iload_n, si_aload, si_aload_n, si_lload, si_lload_n, si_iconst, si_bipush, si_sipush, si_ldc, si_ldc2_w, si_aconst_null, si_istore, si_istore_n, si_astore, si_astore_n, si_astoreN, si_astore_nN, si_lstore, si_lstore_n, e_xInc, si_iinc, si_dupI, si_dupR, si_popI, si_popR, si_dup2, si_iadd, si_isub, si_imul, si_idiv, si_irem, si_ineg, si_i2c, si_i2l, si_ladd, si_lmul, si_goto, si_zeq, si_zne, si_zlt, si_zge, si_zgt, si_zle, si_ceq, si_cne, si_clt, si_cge, si_cgt, si_cle, si_ifnull, si_ifnullN, e_ts0, e_tss, si_tableswitch, si_getfield, e_gf, e_f0, e_fr, e_fs, si_putfield, e_pf, e_p0, e_ps, si_getstatic, si_arraylength, e_al, si_iaload, e_ia0, e_ia3, si_caload, e_ca, si_aaload, e_aa, si_iastore, e_is, si_castore, e_cs, e_rcv, e_rcS, si_invokevirtual, e_cp, si_invokestatic, e_sv, e_smax, e_smin, e_scp, si_ireturn, si_lreturn, si_areturn, si_areturnN, si_return_, mkL, List.map_cons, List.map_nil, List.length_cons, List.length_nil, Nat.reduceAdd, Nat.reduceSub, List.reduceReplicate, List.cons_append, List.nil_append, List.append_nil, Nat.reduceBEq, Bool.or_false, Bool.false_or, Bool.or_true, Bool.true_or, cond_false, cond_true, Nat.reduceEqDiff, reduceIte, List.take_succ_cons, List.take_zero, List.drop_succ_cons, List.drop_zero, List.reverse_cons, List.reverse_nil, Nat.reduceLeDiff, Nat.le_refl, true_and, and_true, Option.toList_some, Option.toList_none, Int.reduceToNat, Nat.zero_le, Int.reduceNatCast, Int.reduceNatCast', true_or, or_true, false_or, or_false, false_and, and_false, Int.reduceEq, Int.reduceLT, Int.reduceLE, Int.reduceNeg, imp_self, not_true, not_false_eq_true, false_implies, true_implies, implies_true, Int.reduceAdd, Int.reduceSub, Int.reduceMul, Int.reduceDiv, Int.reduceMod, stM_eq, cpM_eq, sR_eq, sR_sR, sh_0, sh_1, sh_2, sh_3, sh_4, sh_5, sh_6, sh_7, sh_8, sh_9, sh_10, sh_11, sh_st1, sh_st2, inR, Int.le_refl, t_59, u1_eq, u1_ne, sR_ne, hs, g0, g1, g2, g3, g4, g5, g6, g7, g8, g9, g10, g11, g12, e91]; repeat' first | (apply And.intro; focus omega) | with_reducible intro _)
  refine k_other ?_
  rw [eo]
  have r2 : rG b (sR μ1 b (u1 (μ1 b) 8 p)) (u1 (u1 w 10 (w 10 - 1)) 9 p) := by
    have hf1 := r1.1
    refine rG_fd r1 ?_ (fun i hi => by rw [u1_ne (by omega)])
    unfold fdR at *
    simp (disch := omega) only [sR_eq, u1_ne, u1_eq, and_true] at hf1 ⊢
    exact ⟨⟨hf1.1.1, hf1.1.2.1⟩, hf1.2⟩
  have o2 : oG b μ1 (sR μ1 b (u1 (μ1 b) 8 p)) := oG.st (by omega)
  have n5 : (sR μ1 b (u1 (μ1 b) 8 p)) (b + 6) = μ1 (b + 6) := sR_ne (by omega)
  have n8 : (sR μ1 b (u1 (μ1 b) 8 p)) b 8 = p := by rw [sR_eq, u1_eq]
  (simp (disch := omega) only [vc_s, sel_t, sel_f, vc_1, mn_0, mn_s, e_kc, e_lg0, e_lgs, e_ls0, e_lss, e_lc0, e_lcs, e_ls2, e_nlg0, e_nlgI, e_nvI, e_nvR, e_nvN, e_nv0, e_xI, e_xR, e_xN, e_xL, si_iload, si_iload_n, si_aload, si_aload_n, si_lload, si_lload_n, si_iconst, si_bipush, si_sipush, si_ldc, si_ldc2_w, si_aconst_null, si_istore, si_istore_n, si_astore, si_astore_n, si_astoreN, si_astore_nN, si_lstore, si_lstore_n, e_xInc, si_iinc, si_dupI, si_dupR, si_popI, si_popR, si_dup2, si_iadd, si_isub, si_imul, si_idiv, si_irem, si_ineg, si_i2c, si_i2l, si_ladd, si_lmul, si_goto, si_zeq, si_zne, si_zlt, si_zge, si_zgt, si_zle, si_ceq, si_cne, si_clt, si_cge, si_cgt, si_cle, si_ifnull, si_ifnullN, e_ts0, e_tss, si_tableswitch, si_getfield, e_gf, e_f0, e_fr, e_fs, si_putfield, e_pf, e_p0, e_ps, si_getstatic, si_arraylength, e_al, si_iaload, e_ia0, e_ia3, si_caload, e_ca, si_aaload, e_aa, si_iastore, e_is, si_castore, e_cs, e_rcv, e_rcS, si_invokevirtual, e_cp, si_invokestatic, e_sv, e_smax, e_smin, e_scp, si_ireturn, si_lreturn, si_areturn, si_areturnN, si_return_, mkL, List.map_cons, List.map_nil, List.length_cons, List.length_nil, Nat.reduceAdd, Nat.reduceSub, List.reduceReplicate, List.cons_append, List.nil_append, List.append_nil, Nat.reduceBEq, Bool.or_false, Bool.false_or, Bool.or_true, Bool.true_or, cond_false, cond_true, Nat.reduceEqDiff, reduceIte, List.take_succ_cons, List.take_zero, List.drop_succ_cons, List.drop_zero, List.reverse_cons, List.reverse_nil, Nat.reduceLeDiff, Nat.le_refl, true_and, and_true, Option.toList_some, Option.toList_none, Int.reduceToNat, Nat.zero_le, Int.reduceNatCast, Int.reduceNatCast', true_or, or_true, false_or, or_false, false_and, and_false, Int.reduceEq, Int.reduceLT, Int.reduceLE, Int.reduceNeg, imp_self, not_true, not_false_eq_true, false_implies, true_implies, implies_true, Int.reduceAdd, Int.reduceSub, Int.reduceMul, Int.reduceDiv, Int.reduceMod, stM_eq, cpM_eq, sR_eq, sR_sR, sh_0, sh_1, sh_2, sh_3, sh_4, sh_5, sh_6, sh_7, sh_8, sh_9, sh_10, sh_11, sh_st1, sh_st2, inR, Int.le_refl, t_59, u1_eq, u1_ne, sR_ne, hs, g0, g1, g2, g3, g4, g5, g6, g7, g8, g9, g10, g11, g12, f5, f6, f7]; repeat' first | (apply And.intro; focus omega) | with_reducible intro _)
  generalize sR μ1 b (u1 (μ1 b) 8 p) = μ2 at *
  refine k_carryBack hb hf ht ?_
  have ot : μ2 (b + 3) t = p := by
    rw [r2.2.2.1 t ht]
    unfold atN
    rw [u1_ne (by omega), u1_ne (by omega), hto, if_neg (by omega)]; omega
  rw [ot]
  have r3 : rG b (sR μ2 (b + 3) (u1 (u1 (μ2 (b + 3)) f p) t (if tk = 0 then -200009 else 1 - p))) (u1 (u1 (u1 (u1 w 10 (w 10 - 1)) 9 p) (20 + f) (p + 1)) (20 + t) (if tk = 0 then 0 else 2 - p)) := by
    refine rG_ow r2 (fun c hc => ?_) (fun i hi => by rw [u1_ne (by omega), u1_ne (by omega)])
    have hoc := r2.2.2.1 c hc
    unfold atN at hoc ⊢
    by_cases z1 : c = t
    · rw [z1, u1_eq, u1_eq]
      (repeat' split) <;> omega
    · by_cases z2 : c = f
      · rw [z2] at z1 ⊢
        simp (disch := omega) only [u1_eq, u1_ne]
        rw [if_neg (by omega)]; omega
      · simp (disch := omega) only [u1_ne] at hoc ⊢
        exact hoc
  have o3 : oG b μ2 (sR μ2 (b + 3) (u1 (u1 (μ2 (b + 3)) f p) t (if tk = 0 then -200009 else 1 - p))) := oG.st (by omega)
  have n6 : (sR μ2 (b + 3) (u1 (u1 (μ2 (b + 3)) f p) t (if tk = 0 then -200009 else 1 - p))) (b + 6) = μ2 (b + 6) := sR_ne (by omega)
  have n9 : (sR μ2 (b + 3) (u1 (u1 (μ2 (b + 3)) f p) t (if tk = 0 then -200009 else 1 - p))) b 8 = p := by rw [sR_ne (by omega), n8]
  generalize sR μ2 (b + 3) (u1 (u1 (μ2 (b + 3)) f p) t (if tk = 0 then -200009 else 1 - p)) = μ3 at *
  have lo3 : ∀ i, 56 ≤ i → (u1 (u1 (u1 (u1 w 10 (w 10 - 1)) 9 p) (20 + f) (p + 1)) (20 + t) (if tk = 0 then 0 else 2 - p)) i = w i := fun i hi => by
    rw [u1_ne (by omega), u1_ne (by omega), u1_ne (by omega), u1_ne (by omega)]
  have hL : (u1 (u1 (u1 (u1 w 10 (w 10 - 1)) 9 p) (20 + f) (p + 1)) (20 + t) (if tk = 0 then 0 else 2 - p)) = u1 (u1 (u1 (u1 w 10 (w 10 - 1)) (20 + f) (p + 1)) (20 + t) (if tk = 0 then 0 else 2 - p)) 9 p := by
    funext j
    unfold u1
    (repeat' split) <;> first | rfl | omega
  generalize hE3 : (u1 (u1 (u1 (u1 w 10 (w 10 - 1)) 9 p) (20 + f) (p + 1)) (20 + t) (if tk = 0 then 0 else 2 - p)) = E at *
  (simp (disch := omega) only [vc_s, sel_t, sel_f, vc_1, mn_0, mn_s, e_kc, e_lg0, e_lgs, e_ls0, e_lss, e_lc0, e_lcs, e_ls2, e_nlg0, e_nlgI, e_nvI, e_nvR, e_nvN, e_nv0, e_xI, e_xR, e_xN, e_xL, si_iload, si_iload_n, si_aload, si_aload_n, si_lload, si_lload_n, si_iconst, si_bipush, si_sipush, si_ldc, si_ldc2_w, si_aconst_null, si_istore, si_istore_n, si_astore, si_astore_n, si_astoreN, si_astore_nN, si_lstore, si_lstore_n, e_xInc, si_iinc, si_dupI, si_dupR, si_popI, si_popR, si_dup2, si_iadd, si_isub, si_imul, si_idiv, si_irem, si_ineg, si_i2c, si_i2l, si_ladd, si_lmul, si_goto, si_zeq, si_zne, si_zlt, si_zge, si_zgt, si_zle, si_ceq, si_cne, si_clt, si_cge, si_cgt, si_cle, si_ifnull, si_ifnullN, e_ts0, e_tss, si_tableswitch, si_getfield, e_gf, e_f0, e_fr, e_fs, si_putfield, e_pf, e_p0, e_ps, si_getstatic, si_arraylength, e_al, si_iaload, e_ia0, e_ia3, si_caload, e_ca, si_aaload, e_aa, si_iastore, e_is, si_castore, e_cs, e_rcv, e_rcS, si_invokevirtual, e_cp, si_invokestatic, e_sv, e_smax, e_smin, e_scp, si_ireturn, si_lreturn, si_areturn, si_areturnN, si_return_, mkL, List.map_cons, List.map_nil, List.length_cons, List.length_nil, Nat.reduceAdd, Nat.reduceSub, List.reduceReplicate, List.cons_append, List.nil_append, List.append_nil, Nat.reduceBEq, Bool.or_false, Bool.false_or, Bool.or_true, Bool.true_or, cond_false, cond_true, Nat.reduceEqDiff, reduceIte, List.take_succ_cons, List.take_zero, List.drop_succ_cons, List.drop_zero, List.reverse_cons, List.reverse_nil, Nat.reduceLeDiff, Nat.le_refl, true_and, and_true, Option.toList_some, Option.toList_none, Int.reduceToNat, Nat.zero_le, Int.reduceNatCast, Int.reduceNatCast', true_or, or_true, false_or, or_false, false_and, and_false, Int.reduceEq, Int.reduceLT, Int.reduceLE, Int.reduceNeg, imp_self, not_true, not_false_eq_true, false_implies, true_implies, implies_true, Int.reduceAdd, Int.reduceSub, Int.reduceMul, Int.reduceDiv, Int.reduceMod, stM_eq, cpM_eq, sR_eq, sR_sR, sh_0, sh_1, sh_2, sh_3, sh_4, sh_5, sh_6, sh_7, sh_8, sh_9, sh_10, sh_11, sh_st1, sh_st2, inR, Int.le_refl, t_59, u1_eq, u1_ne, sR_ne, hs, g0, g1, g2, g3, g4, g5, g6, g7, g8, g9, g10, g11, g12, n9]; repeat' first | (apply And.intro; focus omega) | with_reducible intro _)
  refine k_side hb ?_
  have s4 := rG_s (p := p) (w := 4) r3 h4 (by omega)
  have s0 := rG_s (p := p) (w := 0) r3 h4 (by omega)
  have s3 := rG_s (p := p) (w := 3) r3 h4 (by omega)
  rw [lo3 _ (by omega)] at s4 s0 s3
  rw [Int.add_zero] at s0
  simp only [Int.add_zero] at hc hQ
  have f83 : μ3 (b + 6) 8 = m := by rw [n6, n5]; exact f8
  (simp (disch := omega) only [vc_s, sel_t, sel_f, vc_1, mn_0, mn_s, e_kc, e_lg0, e_lgs, e_ls0, e_lss, e_lc0, e_lcs, e_ls2, e_nlg0, e_nlgI, e_nvI, e_nvR, e_nvN, e_nv0, e_xI, e_xR, e_xN, e_xL, si_iload, si_iload_n, si_aload, si_aload_n, si_lload, si_lload_n, si_iconst, si_bipush, si_sipush, si_ldc, si_ldc2_w, si_aconst_null, si_istore, si_istore_n, si_astore, si_astore_n, si_astoreN, si_astore_nN, si_lstore, si_lstore_n, e_xInc, si_iinc, si_dupI, si_dupR, si_popI, si_popR, si_dup2, si_iadd, si_isub, si_imul, si_idiv, si_irem, si_ineg, si_i2c, si_i2l, si_ladd, si_lmul, si_goto, si_zeq, si_zne, si_zlt, si_zge, si_zgt, si_zle, si_ceq, si_cne, si_clt, si_cge, si_cgt, si_cle, si_ifnull, si_ifnullN, e_ts0, e_tss, si_tableswitch, si_getfield, e_gf, e_f0, e_fr, e_fs, si_putfield, e_pf, e_p0, e_ps, si_getstatic, si_arraylength, e_al, si_iaload, e_ia0, e_ia3, si_caload, e_ca, si_aaload, e_aa, si_iastore, e_is, si_castore, e_cs, e_rcv, e_rcS, si_invokevirtual, e_cp, si_invokestatic, e_sv, e_smax, e_smin, e_scp, si_ireturn, si_lreturn, si_areturn, si_areturnN, si_return_, mkL, List.map_cons, List.map_nil, List.length_cons, List.length_nil, Nat.reduceAdd, Nat.reduceSub, List.reduceReplicate, List.cons_append, List.nil_append, List.append_nil, Nat.reduceBEq, Bool.or_false, Bool.false_or, Bool.or_true, Bool.true_or, cond_false, cond_true, Nat.reduceEqDiff, reduceIte, List.take_succ_cons, List.take_zero, List.drop_succ_cons, List.drop_zero, List.reverse_cons, List.reverse_nil, Nat.reduceLeDiff, Nat.le_refl, true_and, and_true, Option.toList_some, Option.toList_none, Int.reduceToNat, Nat.zero_le, Int.reduceNatCast, Int.reduceNatCast', true_or, or_true, false_or, or_false, false_and, and_false, Int.reduceEq, Int.reduceLT, Int.reduceLE, Int.reduceNeg, imp_self, not_true, not_false_eq_true, false_implies, true_implies, implies_true, Int.reduceAdd, Int.reduceSub, Int.reduceMul, Int.reduceDiv, Int.reduceMod, stM_eq, cpM_eq, sR_eq, sR_sR, sh_0, sh_1, sh_2, sh_3, sh_4, sh_5, sh_6, sh_7, sh_8, sh_9, sh_10, sh_11, sh_st1, sh_st2, inR, Int.le_refl, t_59, u1_eq, u1_ne, sR_ne, hs, g0, g1, g2, g3, g4, g5, g6, g7, g8, g9, g10, g11, g12, gs, s4, f83]; repeat' first | (apply And.intro; focus omega) | with_reducible intro _)
  have r4 : rG b (sR μ3 (sdC b p) (u1 (μ3 (sdC b p)) 4 (w (56 + 8 * p + 4) - 1))) (u1 E (56 + 8 * p + 4) (w (56 + 8 * p + 4) - 1)) := by
    refine rG_sd h4 r3 (fun j hj => ?_) (fun i hi => by rw [u1_ne (by omega)])
    by_cases q : j = 4
    · rw [q, u1_eq, u1_eq]
    · rw [u1_ne q, u1_ne (by omega)]
      exact rG_s r3 h4 hj
  have o4 : oG b μ3 (sR μ3 (sdC b p) (u1 (μ3 (sdC b p)) 4 (w (56 + 8 * p + 4) - 1))) := oG.st (by omega)
  have s04 : (sR μ3 (sdC b p) (u1 (μ3 (sdC b p)) 4 (w (56 + 8 * p + 4) - 1))) (sdC b p) 0 = w (56 + 8 * p) := by
    rw [sR_eq, u1_ne (by omega)]; exact s0
  have s34 : (sR μ3 (sdC b p) (u1 (μ3 (sdC b p)) 4 (w (56 + 8 * p + 4) - 1))) (sdC b p) 3 = w (56 + 8 * p + 3) := by
    rw [sR_eq, u1_ne (by omega)]; exact s3
  generalize sR μ3 (sdC b p) (u1 (μ3 (sdC b p)) 4 (w (56 + 8 * p + 4) - 1)) = μ4 at *
  refine k_add gs ?_ ?_
  · rw [s04, s34]; unfold inR; omega
  rw [s04, s34]
  have r5 : rG b (sR μ4 (sdC b p) (u1 (u1 (μ4 (sdC b p)) 0 (w (56 + 8 * p) + -m)) 3 (w (56 + 8 * p + 3) + -m))) (u1 (u1 (u1 E (56 + 8 * p + 4) (w (56 + 8 * p + 4) - 1)) (56 + 8 * p) (w (56 + 8 * p) - m)) (56 + 8 * p + 3) (w (56 + 8 * p + 3) - m)) := by
    refine rG_sd h4 r4 (fun j hj => ?_) (fun i hi => by rw [u1_ne (by omega), u1_ne (by omega)])
    by_cases q : j = 3
    · rw [q, u1_eq, u1_eq]; omega
    · rw [u1_ne q]
      by_cases q2 : j = 0
      · rw [q2, u1_eq, u1_ne (by omega), Int.add_zero, u1_eq]; omega
      · rw [u1_ne q2, u1_ne (by omega), u1_ne (by omega)]
        exact rG_s r4 h4 hj
  have eF : (u1 (u1 (u1 E (56 + 8 * p + 4) (w (56 + 8 * p + 4) - 1)) (56 + 8 * p) (w (56 + 8 * p) - m)) (56 + 8 * p + 3) (w (56 + 8 * p + 3) - m)) = u1 (u1 (u1 (u1 (u1 (u1 (u1 w 10 (w 10 - 1)) (20 + f) (p + 1)) (20 + t) (if tk = 0 then 0 else 2 - p)) (56 + 8 * p) (w (56 + 8 * p) - m)) (56 + 8 * p + 3) (w (56 + 8 * p + 3) - m)) (56 + 8 * p + 4) (w (56 + 8 * p + 4) - 1)) 9 p := by
    rw [hL]
    generalize u1 (u1 (u1 w 10 (w 10 - 1)) (20 + f) (p + 1)) (20 + t) (if tk = 0 then 0 else 2 - p) = Z
    funext j
    unfold u1
    (repeat' split) <;> first | rfl | omega
  rw [eF] at r5
  (simp (disch := omega) only [vc_s, sel_t, sel_f, vc_1, mn_0, mn_s, e_kc, e_lg0, e_lgs, e_ls0, e_lss, e_lc0, e_lcs, e_ls2, e_nlg0, e_nlgI, e_nvI, e_nvR, e_nvN, e_nv0, e_xI, e_xR, e_xN, e_xL, si_iload, si_iload_n, si_aload, si_aload_n, si_lload, si_lload_n, si_iconst, si_bipush, si_sipush, si_ldc, si_ldc2_w, si_aconst_null, si_istore, si_istore_n, si_astore, si_astore_n, si_astoreN, si_astore_nN, si_lstore, si_lstore_n, e_xInc, si_iinc, si_dupI, si_dupR, si_popI, si_popR, si_dup2, si_iadd, si_isub, si_imul, si_idiv, si_irem, si_ineg, si_i2c, si_i2l, si_ladd, si_lmul, si_goto, si_zeq, si_zne, si_zlt, si_zge, si_zgt, si_zle, si_ceq, si_cne, si_clt, si_cge, si_cgt, si_cle, si_ifnull, si_ifnullN, e_ts0, e_tss, si_tableswitch, si_getfield, e_gf, e_f0, e_fr, e_fs, si_putfield, e_pf, e_p0, e_ps, si_getstatic, si_arraylength, e_al, si_iaload, e_ia0, e_ia3, si_caload, e_ca, si_aaload, e_aa, si_iastore, e_is, si_castore, e_cs, e_rcv, e_rcS, si_invokevirtual, e_cp, si_invokestatic, e_sv, e_smax, e_smin, e_scp, si_ireturn, si_lreturn, si_areturn, si_areturnN, si_return_, mkL, List.map_cons, List.map_nil, List.length_cons, List.length_nil, Nat.reduceAdd, Nat.reduceSub, List.reduceReplicate, List.cons_append, List.nil_append, List.append_nil, Nat.reduceBEq, Bool.or_false, Bool.false_or, Bool.or_true, Bool.true_or, cond_false, cond_true, Nat.reduceEqDiff, reduceIte, List.take_succ_cons, List.take_zero, List.drop_succ_cons, List.drop_zero, List.reverse_cons, List.reverse_nil, Nat.reduceLeDiff, Nat.le_refl, true_and, and_true, Option.toList_some, Option.toList_none, Int.reduceToNat, Nat.zero_le, Int.reduceNatCast, Int.reduceNatCast', true_or, or_true, false_or, or_false, false_and, and_false, Int.reduceEq, Int.reduceLT, Int.reduceLE, Int.reduceNeg, imp_self, not_true, not_false_eq_true, false_implies, true_implies, implies_true, Int.reduceAdd, Int.reduceSub, Int.reduceMul, Int.reduceDiv, Int.reduceMod, stM_eq, cpM_eq, sR_eq, sR_sR, sh_0, sh_1, sh_2, sh_3, sh_4, sh_5, sh_6, sh_7, sh_8, sh_9, sh_10, sh_11, sh_st1, sh_st2, inR, Int.le_refl, t_59, u1_eq, u1_ne, sR_ne, hs, g0, g1, g2, g3, g4, g5, g6, g7, g8, g9, g10, g11, g12]; repeat' first | (apply And.intro; focus omega) | with_reducible intro _)
  exact hQ _ (o1.tr (o2.tr (o3.tr (o4.tr (oG.st (by omega)))))) r5
