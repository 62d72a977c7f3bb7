theorem clF_u1 {v : Rw} {i x : Int} (h : i ≠ 13 ∧ i ≠ 14) : clF (u1 v i x) = u1 (clF v) i x := by
  funext j
  unfold clF u1
  (repeat' split) <;> first | rfl | omega
theorem gE_wr {v : Rw} {k a c d t : Int} (hE : gE v) (h0 : 0 ≤ v 11) (ha : 0 ≤ a ∧ a ≤ 2147483647) (hc : k = 0 ∨ k = 1 → isC c ∧ isC d) : gE (wrF v k a c d t) := by
  intro e he
  rw [wrF_11] at he
  by_cases h : (e : Int) = v 11
  · unfold entI wrF
    rw [h]
    simp (disch := omega) only [u1_ne, u1_eq]
    exact ⟨ha, hc⟩
  · have := hE e (by omega)
    unfold entI wrF at *
    simp (disch := omega) only [u1_ne]
    exact this
theorem entL_mv {k a c d t : Int} (hk : k = 0 ∨ k = 1) (ht : t = 0 ∨ t = 1) : (if k = 0 then [] else [42]) ++ (digs a ++ (cel c ++ (cel d ++ (if t = 0 then [] else [120])))) = entL k a c d t := by
  unfold entL
  rcases hk with rfl | rfl <;> rcases ht with rfl | rfl <;> simp
theorem k_make {b : Nat} (hb : gm b) {f t kind : Int} {μ : Mem} {v : Rw} {Q : PQ} (h : rG b μ v) (hE : gE v) (hI : mI v) (h11 : v 11 ≤ 199) (h12 : 0 ≤ v 12 ∧ v 12 ≤ 2147483647) (hv : bI v) (hf : isC f) (ht : isC t) (hk : kind = 0 ∨ kind = 1) (hy : why v f t = 0) (hQ : ∀ μ', oG b μ μ' → rG b μ' (mvF v f t kind) → Q (some (aI (mvT v t))) μ') : wpM 43 [aR b, aI f, aI t, aI kind] μ Q := by
  obtain ⟨h9, h11b, h10, h1, h3, h4, hm, hc, ha⟩ := hI
  obtain ⟨⟨e7, e8, e9⟩, ⟨e12, e13, e14⟩, e15, e16⟩ := h.1
  obtain ⟨l0, l2, l1, l4⟩ := rG_len h hE
  have ho := h.2.2.1
  have bt := hv t ht
  have gs := shp_sd hb (v 9)
  have hsn : sdC b (v 9) < b + 6 ∧ b + 4 ≤ sdC b (v 9) := by unfold sdC; split <;> omega
  have hyy : v (20 + f) = v 9 + 1 ∧ v (20 + t) ≠ v 9 + 1 := by
    unfold why at hy
    (repeat' split at hy) <;> first | omega | (constructor <;> omega)
  have hft : f ≠ t := fun z => by rw [z] at hyy; omega
  have eo : (if v 9 = 0 then (1 : Int) else 0) = 1 - v 9 := by split <;> omega
  have s0 := rG_s (p := v 9) (w := 0) h h9 (by omega)
  have s3 := rG_s (p := v 9) (w := 3) h h9 (by omega)
  have s4 := rG_s (p := v 9) (w := 4) h h9 (by omega)
  unfold hs at hm hc ha
  simp only [Int.add_zero] at hc s0
  have hmM : 0 ≤ mvM v ∧ mvM v ≤ 200000 := by unfold mvM; split <;> omega
  have hT : mvT v t = 0 ∨ mvT v t = 1 := by unfold mvT; split <;> omega
  have eB := mvB_eq (kind := kind) h9 h11b.1 h10 hf ht
  obtain ⟨g0, g1, g2, g3, g4, g5, g6, g7, g8, g9, g10, g11, g12⟩ := gm_all hb
  have k31 : ∀ x : Int, x = mvT v t → AW 43 Q 31 [some (aR b), some (aI f), some (aI t), some (aI kind), some (aI (v 9)), some (aI (atN v t)), none, none, none] [aI x] μ := by
    intro x hx
    subst hx
    refine vc1_snd ok_43 (stop := []) 150 ?_
    (simp (disch := omega) only [vc_s, sel_t, sel_f, vc_1, mn_0, mn_s, e_kc, e_lg0, e_lgs, e_ls0, e_lss, e_lc0, e_lcs, e_ls2, e_nlg0, e_nlgI, e_nvI, e_nvR, e_nvN, e_nv0, e_xI, e_xR, e_xN, e_xL, si_iload, si_iload_n, si_aload, si_aload_n, si_lload, si_lload_n, si_iconst, si_bipush, si_sipush, si_ldc, si_ldc2_w, si_aconst_null, si_istore, si_istore_n, si_astore, si_astore_n, si_astoreN, si_astore_nN, si_lstore, si_lstore_n, e_xInc, si_iinc, si_dupI, si_dupR, si_popI, si_popR, si_dup2, si_iadd, si_isub, si_imul, si_idiv, si_irem, si_ineg, si_i2c, si_i2l, si_ladd, si_lmul, si_goto, si_zeq, si_zne, si_zlt, si_zge, si_zgt, si_zle, si_ceq, si_cne, si_clt, si_cge, si_cgt, si_cle, si_ifnull, si_ifnullN, e_ts0, e_tss, si_tableswitch, si_getfield, e_gf, e_f0, e_fr, e_fs, si_putfield, e_pf, e_p0, e_ps, si_getstatic, si_arraylength, e_al, si_iaload, e_ia0, e_ia3, si_caload, e_ca, si_aaload, e_aa, si_iastore, e_is, si_castore, e_cs, e_rcv, e_rcS, si_invokevirtual, e_cp, si_invokestatic, e_sv, e_smax, e_smin, e_scp, si_ireturn, si_lreturn, si_areturn, si_areturnN, si_return_, mkL, List.map_cons, List.map_nil, List.length_cons, List.length_nil, Nat.reduceAdd, Nat.reduceSub, List.reduceReplicate, List.cons_append, List.nil_append, List.append_nil, Nat.reduceBEq, Bool.or_false, Bool.false_or, Bool.or_true, Bool.true_or, cond_false, cond_true, Nat.reduceEqDiff, reduceIte, List.take_succ_cons, List.take_zero, List.drop_succ_cons, List.drop_zero, List.reverse_cons, List.reverse_nil, Nat.reduceLeDiff, Nat.le_refl, true_and, and_true, Option.toList_some, Option.toList_none, Int.reduceToNat, Nat.zero_le, Int.reduceNatCast, Int.reduceNatCast', true_or, or_true, false_or, or_false, false_and, and_false, Int.reduceEq, Int.reduceLT, Int.reduceLE, Int.reduceNeg, imp_self, not_true, not_false_eq_true, false_implies, true_implies, implies_true, Int.reduceAdd, Int.reduceSub, Int.reduceMul, Int.reduceDiv, Int.reduceMod, stM_eq, cpM_eq, sR_eq, sR_sR, sh_0, sh_1, sh_2, sh_3, sh_4, sh_5, sh_6, sh_7, sh_8, sh_9, sh_10, sh_11, sh_st1, sh_st2, inR, Int.le_refl, t_43, u1_eq, u1_ne, sR_ne, hs, g0, g1, g2, g3, g4, g5, g6, g7, g8, g9, g10, g11, g12, e12]; repeat' first | (apply And.intro; focus omega) | with_reducible intro _)
    refine k_wMove hb (by omega) hf ht (rG_enB h hE (by omega)) (by omega) (fun μ1 en => ?_)
    have eL := entL_mv (a := v 12) (c := f) (d := t) hk hT
    rw [eL] at en
    obtain ⟨r1, o1⟩ := rG_wr h en
    have lo1 : ∀ i, i < 1090 → i ≠ 11 → wrF v kind (v 12) f t (mvT v t) i = v i := fun i q1 q2 => wrF_lo h11b.1 ⟨q1, q2⟩
    generalize hA : wrF v kind (v 12) f t (mvT v t) = A at *
    (simp (disch := omega) only [vc_s, sel_t, sel_f, vc_1, mn_0, mn_s, e_kc, e_lg0, e_lgs, e_ls0, e_lss, e_lc0, e_lcs, e_ls2, e_nlg0, e_nlgI, e_nvI, e_nvR, e_nvN, e_nv0, e_xI, e_xR, e_xN, e_xL, si_iload, si_iload_n, si_aload, si_aload_n, si_lload, si_lload_n, si_iconst, si_bipush, si_sipush, si_ldc, si_ldc2_w, si_aconst_null, si_istore, si_istore_n, si_astore, si_astore_n, si_astoreN, si_astore_nN, si_lstore, si_lstore_n, e_xInc, si_iinc, si_dupI, si_dupR, si_popI, si_popR, si_dup2, si_iadd, si_isub, si_imul, si_idiv, si_irem, si_ineg, si_i2c, si_i2l, si_ladd, si_lmul, si_goto, si_zeq, si_zne, si_zlt, si_zge, si_zgt, si_zle, si_ceq, si_cne, si_clt, si_cge, si_cgt, si_cle, si_ifnull, si_ifnullN, e_ts0, e_tss, si_tableswitch, si_getfield, e_gf, e_f0, e_fr, e_fs, si_putfield, e_pf, e_p0, e_ps, si_getstatic, si_arraylength, e_al, si_iaload, e_ia0, e_ia3, si_caload, e_ca, si_aaload, e_aa, si_iastore, e_is, si_castore, e_cs, e_rcv, e_rcS, si_invokevirtual, e_cp, si_invokestatic, e_sv, e_smax, e_smin, e_scp, si_ireturn, si_lreturn, si_areturn, si_areturnN, si_return_, mkL, List.map_cons, List.map_nil, List.length_cons, List.length_nil, Nat.reduceAdd, Nat.reduceSub, List.reduceReplicate, List.cons_append, List.nil_append, List.append_nil, Nat.reduceBEq, Bool.or_false, Bool.false_or, Bool.or_true, Bool.true_or, cond_false, cond_true, Nat.reduceEqDiff, reduceIte, List.take_succ_cons, List.take_zero, List.drop_succ_cons, List.drop_zero, List.reverse_cons, List.reverse_nil, Nat.reduceLeDiff, Nat.le_refl, true_and, and_true, Option.toList_some, Option.toList_none, Int.reduceToNat, Nat.zero_le, Int.reduceNatCast, Int.reduceNatCast', true_or, or_true, false_or, or_false, false_and, and_false, Int.reduceEq, Int.reduceLT, Int.reduceLE, Int.reduceNeg, imp_self, not_true, not_false_eq_true, false_implies, true_implies, implies_true, Int.reduceAdd, Int.reduceSub, Int.reduceMul, Int.reduceDiv, Int.reduceMod, stM_eq, cpM_eq, sR_eq, sR_sR, sh_0, sh_1, sh_2, sh_3, sh_4, sh_5, sh_6, sh_7, sh_8, sh_9, sh_10, sh_11, sh_st1, sh_st2, inR, Int.le_refl, t_43, u1_eq, u1_ne, sR_ne, hs, g0, g1, g2, g3, g4, g5, g6, g7, g8, g9, g10, g11, g12]; repeat' first | (apply And.intro; focus omega) | with_reducible intro _)
    refine k_carry hb hf ht ?_
    have of1 : μ1 (b + 3) f = v 9 := by
      rw [r1.2.2.1 f hf]
      unfold atN
      rw [lo1 (20 + f) (by omega) (by omega), hyy.1, if_neg (by omega)]; omega
    rw [of1]
    have r2 : rG b (sR μ1 (b + 3) (u1 (u1 (μ1 (b + 3)) t (v 9)) f (-200009))) (u1 (u1 A (20 + f) 0) (20 + t) (v 9 + 1)) := by
      refine rG_ow r1 (fun c hc => ?_) (fun i hi => by simp (disch := omega) only [u1_ne])
      have hoc := r1.2.2.1 c hc
      unfold atN at hoc ⊢
      by_cases q1 : c = f
      · subst q1
        rw [u1_eq, u1_ne (by omega), u1_eq, if_pos rfl]
      · rw [u1_ne q1]
        by_cases q2 : c = t
        · subst q2
          rw [u1_eq, u1_eq, if_neg (by omega)]; omega
        · rw [u1_ne q2, u1_ne (by omega), u1_ne (by omega)]
          exact hoc
    have o2 : oG b μ1 (sR μ1 (b + 3) (u1 (u1 (μ1 (b + 3)) t (v 9)) f (-200009))) := oG.st (by omega)
    have lo2 : ∀ i, i < 1090 → i ≠ 11 → ¬ (20 ≤ i ∧ i < 56) → u1 (u1 A (20 + f) 0) (20 + t) (v 9 + 1) i = v i := fun i q1 q2 q3 => by
      rw [u1_ne (by omega), u1_ne (by omega)]; exact lo1 i q1 q2
    generalize hμ2 : sR μ1 (b + 3) (u1 (u1 (μ1 (b + 3)) t (v 9)) f (-200009)) = μ2 at r2 o2 ⊢
    generalize hB : u1 (u1 A (20 + f) 0) (20 + t) (v 9 + 1) = B at *
    clear hμ2
    (simp (disch := omega) only [vc_s, sel_t, sel_f, vc_1, mn_0, mn_s, e_kc, e_lg0, e_lgs, e_ls0, e_lss, e_lc0, e_lcs, e_ls2, e_nlg0, e_nlgI, e_nvI, e_nvR, e_nvN, e_nv0, e_xI, e_xR, e_xN, e_xL, si_iload, si_iload_n, si_aload, si_aload_n, si_lload, si_lload_n, si_iconst, si_bipush, si_sipush, si_ldc, si_ldc2_w, si_aconst_null, si_istore, si_istore_n, si_astore, si_astore_n, si_astoreN, si_astore_nN, si_lstore, si_lstore_n, e_xInc, si_iinc, si_dupI, si_dupR, si_popI, si_popR, si_dup2, si_iadd, si_isub, si_imul, si_idiv, si_irem, si_ineg, si_i2c, si_i2l, si_ladd, si_lmul, si_goto, si_zeq, si_zne, si_zlt, si_zge, si_zgt, si_zle, si_ceq, si_cne, si_clt, si_cge, si_cgt, si_cle, si_ifnull, si_ifnullN, e_ts0, e_tss, si_tableswitch, si_getfield, e_gf, e_f0, e_fr, e_fs, si_putfield, e_pf, e_p0, e_ps, si_getstatic, si_arraylength, e_al, si_iaload, e_ia0, e_ia3, si_caload, e_ca, si_aaload, e_aa, si_iastore, e_is, si_castore, e_cs, e_rcv, e_rcS, si_invokevirtual, e_cp, si_invokestatic, e_sv, e_smax, e_smin, e_scp, si_ireturn, si_lreturn, si_areturn, si_areturnN, si_return_, mkL, List.map_cons, List.map_nil, List.length_cons, List.length_nil, Nat.reduceAdd, Nat.reduceSub, List.reduceReplicate, List.cons_append, List.nil_append, List.append_nil, Nat.reduceBEq, Bool.or_false, Bool.false_or, Bool.or_true, Bool.true_or, cond_false, cond_true, Nat.reduceEqDiff, reduceIte, List.take_succ_cons, List.take_zero, List.drop_succ_cons, List.drop_zero, List.reverse_cons, List.reverse_nil, Nat.reduceLeDiff, Nat.le_refl, true_and, and_true, Option.toList_some, Option.toList_none, Int.reduceToNat, Nat.zero_le, Int.reduceNatCast, Int.reduceNatCast', true_or, or_true, false_or, or_false, false_and, and_false, Int.reduceEq, Int.reduceLT, Int.reduceLE, Int.reduceNeg, imp_self, not_true, not_false_eq_true, false_implies, true_implies, implies_true, Int.reduceAdd, Int.reduceSub, Int.reduceMul, Int.reduceDiv, Int.reduceMod, stM_eq, cpM_eq, sR_eq, sR_sR, sh_0, sh_1, sh_2, sh_3, sh_4, sh_5, sh_6, sh_7, sh_8, sh_9, sh_10, sh_11, sh_st1, sh_st2, inR, Int.le_refl, t_43, u1_eq, u1_ne, sR_ne, hs, g0, g1, g2, g3, g4, g5, g6, g7, g8, g9, g10, g11, g12]; repeat' first | (apply And.intro; focus omega) | with_reducible intro _)
    refine k_side hb ?_
    have s4b := rG_s (p := v 9) (w := 4) r2 h9 (by omega)
    rw [lo2 _ (by omega) (by omega) (by omega)] at s4b
    (simp (disch := omega) only [vc_s, sel_t, sel_f, vc_1, mn_0, mn_s, e_kc, e_lg0, e_lgs, e_ls0, e_lss, e_lc0, e_lcs, e_ls2, e_nlg0, e_nlgI, e_nvI, e_nvR, e_nvN, e_nv0, e_xI, e_xR, e_xN, e_xL, si_iload, si_iload_n, si_aload, si_aload_n, si_lload, si_lload_n, si_iconst, si_bipush, si_sipush, si_ldc, si_ldc2_w, si_aconst_null, si_istore, si_istore_n, si_astore, si_astore_n, si_astoreN, si_astore_nN, si_lstore, si_lstore_n, e_xInc, si_iinc, si_dupI, si_dupR, si_popI, si_popR, si_dup2, si_iadd, si_isub, si_imul, si_idiv, si_irem, si_ineg, si_i2c, si_i2l, si_ladd, si_lmul, si_goto, si_zeq, si_zne, si_zlt, si_zge, si_zgt, si_zle, si_ceq, si_cne, si_clt, si_cge, si_cgt, si_cle, si_ifnull, si_ifnullN, e_ts0, e_tss, si_tableswitch, si_getfield, e_gf, e_f0, e_fr, e_fs, si_putfield, e_pf, e_p0, e_ps, si_getstatic, si_arraylength, e_al, si_iaload, e_ia0, e_ia3, si_caload, e_ca, si_aaload, e_aa, si_iastore, e_is, si_castore, e_cs, e_rcv, e_rcS, si_invokevirtual, e_cp, si_invokestatic, e_sv, e_smax, e_smin, e_scp, si_ireturn, si_lreturn, si_areturn, si_areturnN, si_return_, mkL, List.map_cons, List.map_nil, List.length_cons, List.length_nil, Nat.reduceAdd, Nat.reduceSub, List.reduceReplicate, List.cons_append, List.nil_append, List.append_nil, Nat.reduceBEq, Bool.or_false, Bool.false_or, Bool.or_true, Bool.true_or, cond_false, cond_true, Nat.reduceEqDiff, reduceIte, List.take_succ_cons, List.take_zero, List.drop_succ_cons, List.drop_zero, List.reverse_cons, List.reverse_nil, Nat.reduceLeDiff, Nat.le_refl, true_and, and_true, Option.toList_some, Option.toList_none, Int.reduceToNat, Nat.zero_le, Int.reduceNatCast, Int.reduceNatCast', true_or, or_true, false_or, or_false, false_and, and_false, Int.reduceEq, Int.reduceLT, Int.reduceLE, Int.reduceNeg, imp_self, not_true, not_false_eq_true, false_implies, true_implies, implies_true, Int.reduceAdd, Int.reduceSub, Int.reduceMul, Int.reduceDiv, Int.reduceMod, stM_eq, cpM_eq, sR_eq, sR_sR, sh_0, sh_1, sh_2, sh_3, sh_4, sh_5, sh_6, sh_7, sh_8, sh_9, sh_10, sh_11, sh_st1, sh_st2, inR, Int.le_refl, t_43, u1_eq, u1_ne, sR_ne, hs, g0, g1, g2, g3, g4, g5, g6, g7, g8, g9, g10, g11, g12, gs, s4b]; repeat' first | (apply And.intro; focus omega) | with_reducible intro _)
    have r3 : rG b (sR μ2 (sdC b (v 9)) (u1 (μ2 (sdC b (v 9))) 4 (v (56 + 8 * v 9 + 4) + 1))) (u1 B (56 + 8 * v 9 + 4) (v (56 + 8 * v 9 + 4) + 1)) := by
      refine rG_sd h9 r2 (fun w hw => ?_) (fun i hi => by simp (disch := omega) only [u1_ne])
      by_cases q : w = 4
      · rw [q, u1_eq, u1_eq]
      · rw [u1_ne q, u1_ne (by omega)]
        exact rG_s r2 h9 hw
    have o3 : oG b μ2 (sR μ2 (sdC b (v 9)) (u1 (μ2 (sdC b (v 9))) 4 (v (56 + 8 * v 9 + 4) + 1))) := oG.st (by omega)
    have lo3 : ∀ i, i < 1090 → i ≠ 11 → ¬ (20 ≤ i ∧ i < 56) → i ≠ 56 + 8 * v 9 + 4 → u1 B (56 + 8 * v 9 + 4) (v (56 + 8 * v 9 + 4) + 1) i = v i := fun i q1 q2 q3 q4 => by
      rw [u1_ne q4]; exact lo2 i q1 q2 q3
    generalize hμ3 : sR μ2 (sdC b (v 9)) (u1 (μ2 (sdC b (v 9))) 4 (v (56 + 8 * v 9 + 4) + 1)) = μ3 at r3 o3 ⊢
    generalize hC : u1 B (56 + 8 * v 9 + 4) (v (56 + 8 * v 9 + 4) + 1) = C at *
    refine k_addFor hb r3 (by omega) (by rw [lo3 1 (by omega) (by omega) (by omega) (by omega)]; omega) (by rw [lo3 4 (by omega) (by omega) (by omega) (by omega)]; omega) ?_
    rw [lo3 1 (by omega) (by omega) (by omega) (by omega), lo3 3 (by omega) (by omega) (by omega) (by omega), lo3 4 (by omega) (by omega) (by omega) (by omega)]
    have eM : v 1 + (if 0 < v 3 ∧ (v (56 + 8 * v 9 + 4) + 1) % v 3 = 0 then v 4 else 0) = mvM v := rfl
    rw [eM]
    clear hμ3
    (simp (disch := omega) only [vc_s, sel_t, sel_f, vc_1, mn_0, mn_s, e_kc, e_lg0, e_lgs, e_ls0, e_lss, e_lc0, e_lcs, e_ls2, e_nlg0, e_nlgI, e_nvI, e_nvR, e_nvN, e_nv0, e_xI, e_xR, e_xN, e_xL, si_iload, si_iload_n, si_aload, si_aload_n, si_lload, si_lload_n, si_iconst, si_bipush, si_sipush, si_ldc, si_ldc2_w, si_aconst_null, si_istore, si_istore_n, si_astore, si_astore_n, si_astoreN, si_astore_nN, si_lstore, si_lstore_n, e_xInc, si_iinc, si_dupI, si_dupR, si_popI, si_popR, si_dup2, si_iadd, si_isub, si_imul, si_idiv, si_irem, si_ineg, si_i2c, si_i2l, si_ladd, si_lmul, si_goto, si_zeq, si_zne, si_zlt, si_zge, si_zgt, si_zle, si_ceq, si_cne, si_clt, si_cge, si_cgt, si_cle, si_ifnull, si_ifnullN, e_ts0, e_tss, si_tableswitch, si_getfield, e_gf, e_f0, e_fr, e_fs, si_putfield, e_pf, e_p0, e_ps, si_getstatic, si_arraylength, e_al, si_iaload, e_ia0, e_ia3, si_caload, e_ca, si_aaload, e_aa, si_iastore, e_is, si_castore, e_cs, e_rcv, e_rcS, si_invokevirtual, e_cp, si_invokestatic, e_sv, e_smax, e_smin, e_scp, si_ireturn, si_lreturn, si_areturn, si_areturnN, si_return_, mkL, List.map_cons, List.map_nil, List.length_cons, List.length_nil, Nat.reduceAdd, Nat.reduceSub, List.reduceReplicate, List.cons_append, List.nil_append, List.append_nil, Nat.reduceBEq, Bool.or_false, Bool.false_or, Bool.or_true, Bool.true_or, cond_false, cond_true, Nat.reduceEqDiff, reduceIte, List.take_succ_cons, List.take_zero, List.drop_succ_cons, List.drop_zero, List.reverse_cons, List.reverse_nil, Nat.reduceLeDiff, Nat.le_refl, true_and, and_true, Option.toList_some, Option.toList_none, Int.reduceToNat, Nat.zero_le, Int.reduceNatCast, Int.reduceNatCast', true_or, or_true, false_or, or_false, false_and, and_false, Int.reduceEq, Int.reduceLT, Int.reduceLE, Int.reduceNeg, imp_self, not_true, not_false_eq_true, false_implies, true_implies, implies_true, Int.reduceAdd, Int.reduceSub, Int.reduceMul, Int.reduceDiv, Int.reduceMod, stM_eq, cpM_eq, sR_eq, sR_sR, sh_0, sh_1, sh_2, sh_3, sh_4, sh_5, sh_6, sh_7, sh_8, sh_9, sh_10, sh_11, sh_st1, sh_st2, inR, Int.le_refl, t_43, u1_eq, u1_ne, sR_ne, hs, g0, g1, g2, g3, g4, g5, g6, g7, g8, g9, g10, g11, g12, gs]; repeat' first | (apply And.intro; focus omega) | with_reducible intro _)
    have s0b := rG_s (p := v 9) (w := 0) r3 h9 (by omega)
    have s3b := rG_s (p := v 9) (w := 3) r3 h9 (by omega)
    rw [lo3 _ (by omega) (by omega) (by omega) (by omega)] at s0b s3b
    rw [Int.add_zero] at s0b
    refine k_add gs ?_ ?_
    · rw [s0b, s3b]; unfold inR; omega
    rw [s0b, s3b]
    have r4 : rG b (sR μ3 (sdC b (v 9)) (u1 (u1 (μ3 (sdC b (v 9))) 0 (v (56 + 8 * v 9) + mvM v)) 3 (v (56 + 8 * v 9 + 3) + mvM v))) (u1 (u1 C (56 + 8 * v 9 + 0) (v (56 + 8 * v 9 + 0) + mvM v)) (56 + 8 * v 9 + 3) (v (56 + 8 * v 9 + 3) + mvM v)) := by
      refine rG_sd h9 r3 (fun w hw => ?_) (fun i hi => by simp (disch := omega) only [u1_ne])
      by_cases q : w = 3
      · rw [q, u1_eq, u1_eq]
      · rw [u1_ne q]
        by_cases q2 : w = 0
        · rw [q2, u1_eq, u1_ne (by omega), u1_eq, Int.add_zero]
        · rw [u1_ne q2, u1_ne (by omega), u1_ne (by omega)]
          exact rG_s r3 h9 hw
    have o4 : oG b μ3 (sR μ3 (sdC b (v 9)) (u1 (u1 (μ3 (sdC b (v 9))) 0 (v (56 + 8 * v 9) + mvM v)) 3 (v (56 + 8 * v 9 + 3) + mvM v))) := oG.st (by omega)
    have lo4 : ∀ i, i < 1090 → i ≠ 11 → ¬ (20 ≤ i ∧ i < 80) → u1 (u1 C (56 + 8 * v 9 + 0) (v (56 + 8 * v 9 + 0) + mvM v)) (56 + 8 * v 9 + 3) (v (56 + 8 * v 9 + 3) + mvM v) i = v i := fun i q1 q2 q3 => by
      rw [u1_ne (by omega), u1_ne (by omega)]; exact lo3 i q1 q2 (by omega) (by omega)
    generalize hμ4 : sR μ3 (sdC b (v 9)) (u1 (u1 (μ3 (sdC b (v 9))) 0 (v (56 + 8 * v 9) + mvM v)) 3 (v (56 + 8 * v 9 + 3) + mvM v)) = μ4 at r4 o4 ⊢
    generalize hD : u1 (u1 C (56 + 8 * v 9 + 0) (v (56 + 8 * v 9 + 0) + mvM v)) (56 + 8 * v 9 + 3) (v (56 + 8 * v 9 + 3) + mvM v) = D at *
    clear hμ4
    (simp (disch := omega) only [vc_s, sel_t, sel_f, vc_1, mn_0, mn_s, e_kc, e_lg0, e_lgs, e_ls0, e_lss, e_lc0, e_lcs, e_ls2, e_nlg0, e_nlgI, e_nvI, e_nvR, e_nvN, e_nv0, e_xI, e_xR, e_xN, e_xL, si_iload, si_iload_n, si_aload, si_aload_n, si_lload, si_lload_n, si_iconst, si_bipush, si_sipush, si_ldc, si_ldc2_w, si_aconst_null, si_istore, si_istore_n, si_astore, si_astore_n, si_astoreN, si_astore_nN, si_lstore, si_lstore_n, e_xInc, si_iinc, si_dupI, si_dupR, si_popI, si_popR, si_dup2, si_iadd, si_isub, si_imul, si_idiv, si_irem, si_ineg, si_i2c, si_i2l, si_ladd, si_lmul, si_goto, si_zeq, si_zne, si_zlt, si_zge, si_zgt, si_zle, si_ceq, si_cne, si_clt, si_cge, si_cgt, si_cle, si_ifnull, si_ifnullN, e_ts0, e_tss, si_tableswitch, si_getfield, e_gf, e_f0, e_fr, e_fs, si_putfield, e_pf, e_p0, e_ps, si_getstatic, si_arraylength, e_al, si_iaload, e_ia0, e_ia3, si_caload, e_ca, si_aaload, e_aa, si_iastore, e_is, si_castore, e_cs, e_rcv, e_rcS, si_invokevirtual, e_cp, si_invokestatic, e_sv, e_smax, e_smin, e_scp, si_ireturn, si_lreturn, si_areturn, si_areturnN, si_return_, mkL, List.map_cons, List.map_nil, List.length_cons, List.length_nil, Nat.reduceAdd, Nat.reduceSub, List.reduceReplicate, List.cons_append, List.nil_append, List.append_nil, Nat.reduceBEq, Bool.or_false, Bool.false_or, Bool.or_true, Bool.true_or, cond_false, cond_true, Nat.reduceEqDiff, reduceIte, List.take_succ_cons, List.take_zero, List.drop_succ_cons, List.drop_zero, List.reverse_cons, List.reverse_nil, Nat.reduceLeDiff, Nat.le_refl, true_and, and_true, Option.toList_some, Option.toList_none, Int.reduceToNat, Nat.zero_le, Int.reduceNatCast, Int.reduceNatCast', true_or, or_true, false_or, or_false, false_and, and_false, Int.reduceEq, Int.reduceLT, Int.reduceLE, Int.reduceNeg, imp_self, not_true, not_false_eq_true, false_implies, true_implies, implies_true, Int.reduceAdd, Int.reduceSub, Int.reduceMul, Int.reduceDiv, Int.reduceMod, stM_eq, cpM_eq, sR_eq, sR_sR, sh_0, sh_1, sh_2, sh_3, sh_4, sh_5, sh_6, sh_7, sh_8, sh_9, sh_10, sh_11, sh_st1, sh_st2, inR, Int.le_refl, t_43, u1_eq, u1_ne, sR_ne, hs, g0, g1, g2, g3, g4, g5, g6, g7, g8, g9, g10, g11, g12]; repeat' first | (apply And.intro; focus omega) | with_reducible intro _)
    have e10 := r4.2.2.2.2.2.1.1
    rw [lo4 10 (by omega) (by omega) (by omega)] at e10
    refine k_push hb (by omega) ?_
    rw [e10]
    have r5 : rG b (sR (sR (sR (sR (sR μ4 (b + 7) (u1 (μ4 (b + 7)) (v 10) f)) (b + 8) (u1 (μ4 (b + 8)) (v 10) t)) (b + 9) (u1 (μ4 (b + 9)) (v 10) (mvM v))) (b + 10) (u1 (μ4 (b + 10)) (v 10) (atN v t))) (b + 6) (u1 (μ4 (b + 6)) 4 (v 10 + 1))) (u1 (u1 (u1 (u1 (u1 (u1 D (80 + 5 * v 10) f) (80 + 5 * v 10 + 1) t) (80 + 5 * v 10 + 2) (mvT v t)) (80 + 5 * v 10 + 3) (mvM v)) (80 + 5 * v 10 + 4) (v 9)) 10 (v 10 + 1)) := by
      refine rG_md r4 (fun a ha => by simp (disch := omega) only [sR_ne]) ⟨?_, ?_, fun k hk => ?_⟩ (fun i hi => by simp (disch := omega) only [u1_ne])
      · simp (disch := omega) only [sR_eq, u1_eq]
      · simp (disch := omega) only [u1_eq]; omega
      · have hold := r4.2.2.2.2.2.1.2.2
        rw [lo4 10 (by omega) (by omega) (by omega)] at hold
        rw [u1_eq] at hk
        unfold tgt
        by_cases q : k = v 10
        · subst q
          simp (disch := omega) only [sR_eq, sR_ne, u1_eq, u1_ne, true_and]
          unfold atN mvT
          by_cases q2 : v (20 + t) = 0
          · simp only [if_pos q2, if_true]
          · simp only [if_neg q2]
            rw [if_neg (by omega)]; omega
        · have hh := hold k (by omega)
          unfold tgt at hh
          simp (disch := omega) only [sR_eq, sR_ne, u1_ne]
          exact hh
    have o5 : oG b μ4 (sR (sR (sR (sR (sR μ4 (b + 7) (u1 (μ4 (b + 7)) (v 10) f)) (b + 8) (u1 (μ4 (b + 8)) (v 10) t)) (b + 9) (u1 (μ4 (b + 9)) (v 10) (mvM v))) (b + 10) (u1 (μ4 (b + 10)) (v 10) (atN v t))) (b + 6) (u1 (μ4 (b + 6)) 4 (v 10 + 1))) := fun a ha => by simp (disch := omega) only [sR_ne]
    generalize (sR (sR (sR (sR (sR μ4 (b + 7) (u1 (μ4 (b + 7)) (v 10) f)) (b + 8) (u1 (μ4 (b + 8)) (v 10) t)) (b + 9) (u1 (μ4 (b + 9)) (v 10) (mvM v))) (b + 10) (u1 (μ4 (b + 10)) (v 10) (atN v t))) (b + 6) (u1 (μ4 (b + 6)) 4 (v 10 + 1))) = μ5 at r5 o5 ⊢
    (simp (disch := omega) only [vc_s, sel_t, sel_f, vc_1, mn_0, mn_s, e_kc, e_lg0, e_lgs, e_ls0, e_lss, e_lc0, e_lcs, e_ls2, e_nlg0, e_nlgI, e_nvI, e_nvR, e_nvN, e_nv0, e_xI, e_xR, e_xN, e_xL, si_iload, si_iload_n, si_aload, si_aload_n, si_lload, si_lload_n, si_iconst, si_bipush, si_sipush, si_ldc, si_ldc2_w, si_aconst_null, si_istore, si_istore_n, si_astore, si_astore_n, si_astoreN, si_astore_nN, si_lstore, si_lstore_n, e_xInc, si_iinc, si_dupI, si_dupR, si_popI, si_popR, si_dup2, si_iadd, si_isub, si_imul, si_idiv, si_irem, si_ineg, si_i2c, si_i2l, si_ladd, si_lmul, si_goto, si_zeq, si_zne, si_zlt, si_zge, si_zgt, si_zle, si_ceq, si_cne, si_clt, si_cge, si_cgt, si_cle, si_ifnull, si_ifnullN, e_ts0, e_tss, si_tableswitch, si_getfield, e_gf, e_f0, e_fr, e_fs, si_putfield, e_pf, e_p0, e_ps, si_getstatic, si_arraylength, e_al, si_iaload, e_ia0, e_ia3, si_caload, e_ca, si_aaload, e_aa, si_iastore, e_is, si_castore, e_cs, e_rcv, e_rcS, si_invokevirtual, e_cp, si_invokestatic, e_sv, e_smax, e_smin, e_scp, si_ireturn, si_lreturn, si_areturn, si_areturnN, si_return_, mkL, List.map_cons, List.map_nil, List.length_cons, List.length_nil, Nat.reduceAdd, Nat.reduceSub, List.reduceReplicate, List.cons_append, List.nil_append, List.append_nil, Nat.reduceBEq, Bool.or_false, Bool.false_or, Bool.or_true, Bool.true_or, cond_false, cond_true, Nat.reduceEqDiff, reduceIte, List.take_succ_cons, List.take_zero, List.drop_succ_cons, List.drop_zero, List.reverse_cons, List.reverse_nil, Nat.reduceLeDiff, Nat.le_refl, true_and, and_true, Option.toList_some, Option.toList_none, Int.reduceToNat, Nat.zero_le, Int.reduceNatCast, Int.reduceNatCast', true_or, or_true, false_or, or_false, false_and, and_false, Int.reduceEq, Int.reduceLT, Int.reduceLE, Int.reduceNeg, imp_self, not_true, not_false_eq_true, false_implies, true_implies, implies_true, Int.reduceAdd, Int.reduceSub, Int.reduceMul, Int.reduceDiv, Int.reduceMod, stM_eq, cpM_eq, sR_eq, sR_sR, sh_0, sh_1, sh_2, sh_3, sh_4, sh_5, sh_6, sh_7, sh_8, sh_9, sh_10, sh_11, sh_st1, sh_st2, inR, Int.le_refl, t_43, u1_eq, u1_ne, sR_ne, hs, g0, g1, g2, g3, g4, g5, g6, g7, g8, g9, g10, g11, g12]; repeat' first | (apply And.intro; focus omega) | with_reducible intro _)
    refine k_closeQ hb r5 (fun μ6 o6 r6 => ?_)
    (simp (disch := omega) only [vc_s, sel_t, sel_f, vc_1, mn_0, mn_s, e_kc, e_lg0, e_lgs, e_ls0, e_lss, e_lc0, e_lcs, e_ls2, e_nlg0, e_nlgI, e_nvI, e_nvR, e_nvN, e_nv0, e_xI, e_xR, e_xN, e_xL, si_iload, si_iload_n, si_aload, si_aload_n, si_lload, si_lload_n, si_iconst, si_bipush, si_sipush, si_ldc, si_ldc2_w, si_aconst_null, si_istore, si_istore_n, si_astore, si_astore_n, si_astoreN, si_astore_nN, si_lstore, si_lstore_n, e_xInc, si_iinc, si_dupI, si_dupR, si_popI, si_popR, si_dup2, si_iadd, si_isub, si_imul, si_idiv, si_irem, si_ineg, si_i2c, si_i2l, si_ladd, si_lmul, si_goto, si_zeq, si_zne, si_zlt, si_zge, si_zgt, si_zle, si_ceq, si_cne, si_clt, si_cge, si_cgt, si_cle, si_ifnull, si_ifnullN, e_ts0, e_tss, si_tableswitch, si_getfield, e_gf, e_f0, e_fr, e_fs, si_putfield, e_pf, e_p0, e_ps, si_getstatic, si_arraylength, e_al, si_iaload, e_ia0, e_ia3, si_caload, e_ca, si_aaload, e_aa, si_iastore, e_is, si_castore, e_cs, e_rcv, e_rcS, si_invokevirtual, e_cp, si_invokestatic, e_sv, e_smax, e_smin, e_scp, si_ireturn, si_lreturn, si_areturn, si_areturnN, si_return_, mkL, List.map_cons, List.map_nil, List.length_cons, List.length_nil, Nat.reduceAdd, Nat.reduceSub, List.reduceReplicate, List.cons_append, List.nil_append, List.append_nil, Nat.reduceBEq, Bool.or_false, Bool.false_or, Bool.or_true, Bool.true_or, cond_false, cond_true, Nat.reduceEqDiff, reduceIte, List.take_succ_cons, List.take_zero, List.drop_succ_cons, List.drop_zero, List.reverse_cons, List.reverse_nil, Nat.reduceLeDiff, Nat.le_refl, true_and, and_true, Option.toList_some, Option.toList_none, Int.reduceToNat, Nat.zero_le, Int.reduceNatCast, Int.reduceNatCast', true_or, or_true, false_or, or_false, false_and, and_false, Int.reduceEq, Int.reduceLT, Int.reduceLE, Int.reduceNeg, imp_self, not_true, not_false_eq_true, false_implies, true_implies, implies_true, Int.reduceAdd, Int.reduceSub, Int.reduceMul, Int.reduceDiv, Int.reduceMod, stM_eq, cpM_eq, sR_eq, sR_sR, sh_0, sh_1, sh_2, sh_3, sh_4, sh_5, sh_6, sh_7, sh_8, sh_9, sh_10, sh_11, sh_st1, sh_st2, inR, Int.le_refl, t_43, u1_eq, u1_ne, sR_ne, hs, g0, g1, g2, g3, g4, g5, g6, g7, g8, g9, g10, g11, g12]; repeat' first | (apply And.intro; focus omega) | with_reducible intro _)
    refine k_other ?_
    rw [eo]
    (simp (disch := omega) only [vc_s, sel_t, sel_f, vc_1, mn_0, mn_s, e_kc, e_lg0, e_lgs, e_ls0, e_lss, e_lc0, e_lcs, e_ls2, e_nlg0, e_nlgI, e_nvI, e_nvR, e_nvN, e_nv0, e_xI, e_xR, e_xN, e_xL, si_iload, si_iload_n, si_aload, si_aload_n, si_lload, si_lload_n, si_iconst, si_bipush, si_sipush, si_ldc, si_ldc2_w, si_aconst_null, si_istore, si_istore_n, si_astore, si_astore_n, si_astoreN, si_astore_nN, si_lstore, si_lstore_n, e_xInc, si_iinc, si_dupI, si_dupR, si_popI, si_popR, si_dup2, si_iadd, si_isub, si_imul, si_idiv, si_irem, si_ineg, si_i2c, si_i2l, si_ladd, si_lmul, si_goto, si_zeq, si_zne, si_zlt, si_zge, si_zgt, si_zle, si_ceq, si_cne, si_clt, si_cge, si_cgt, si_cle, si_ifnull, si_ifnullN, e_ts0, e_tss, si_tableswitch, si_getfield, e_gf, e_f0, e_fr, e_fs, si_putfield, e_pf, e_p0, e_ps, si_getstatic, si_arraylength, e_al, si_iaload, e_ia0, e_ia3, si_caload, e_ca, si_aaload, e_aa, si_iastore, e_is, si_castore, e_cs, e_rcv, e_rcS, si_invokevirtual, e_cp, si_invokestatic, e_sv, e_smax, e_smin, e_scp, si_ireturn, si_lreturn, si_areturn, si_areturnN, si_return_, mkL, List.map_cons, List.map_nil, List.length_cons, List.length_nil, Nat.reduceAdd, Nat.reduceSub, List.reduceReplicate, List.cons_append, List.nil_append, List.append_nil, Nat.reduceBEq, Bool.or_false, Bool.false_or, Bool.or_true, Bool.true_or, cond_false, cond_true, Nat.reduceEqDiff, reduceIte, List.take_succ_cons, List.take_zero, List.drop_succ_cons, List.drop_zero, List.reverse_cons, List.reverse_nil, Nat.reduceLeDiff, Nat.le_refl, true_and, and_true, Option.toList_some, Option.toList_none, Int.reduceToNat, Nat.zero_le, Int.reduceNatCast, Int.reduceNatCast', true_or, or_true, false_or, or_false, false_and, and_false, Int.reduceEq, Int.reduceLT, Int.reduceLE, Int.reduceNeg, imp_self, not_true, not_false_eq_true, false_implies, true_implies, implies_true, Int.reduceAdd, Int.reduceSub, Int.reduceMul, Int.reduceDiv, Int.reduceMod, stM_eq, cpM_eq, sR_eq, sR_sR, sh_0, sh_1, sh_2, sh_3, sh_4, sh_5, sh_6, sh_7, sh_8, sh_9, sh_10, sh_11, sh_st1, sh_st2, inR, Int.le_refl, t_43, u1_eq, u1_ne, sR_ne, hs, g0, g1, g2, g3, g4, g5, g6, g7, g8, g9, g10, g11, g12]; repeat' first | (apply And.intro; focus omega) | with_reducible intro _)
    have r7 : rG b (sR μ6 b (u1 (u1 (μ6 b) 8 (1 - v 9)) 9 0)) (mvB v f t kind) := by
      have e : mvB v f t kind = u1 (u1 (clF (u1 (u1 (u1 (u1 (u1 (u1 D (80 + 5 * v 10) f) (80 + 5 * v 10 + 1) t) (80 + 5 * v 10 + 2) (mvT v t)) (80 + 5 * v 10 + 3) (mvM v)) (80 + 5 * v 10 + 4) (v 9)) 10 (v 10 + 1))) 9 (1 - v 9)) 12 0 := by
        rw [eB, ← hD, ← hC, ← hB, ← hA]
        unfold mv1 hs
        simp (disch := omega) only [clF_u1]
      rw [e]
      have hf6 := r6.1
      refine rG_fd r6 ?_ (fun i hi => by simp (disch := omega) only [u1_ne])
      unfold fdR at *
      simp (disch := omega) only [sR_eq, u1_ne, u1_eq, true_and, and_true]
      exact ⟨⟨hf6.1.1, hf6.1.2.1⟩, hf6.2.1.2, hf6.2.2⟩
    have o7 : oG b μ6 (sR μ6 b (u1 (u1 (μ6 b) 8 (1 - v 9)) 9 0)) := oG.st (by omega)
    generalize sR μ6 b (u1 (u1 (μ6 b) 8 (1 - v 9)) 9 0) = μ7 at r7 o7 ⊢
    have m9 := mvB_9 (kind := kind) h9 h11b.1 h10 hf ht
    have m11 := mvB_11 (kind := kind) h9 h11b.1 h10 hf ht
    have mlo : ∀ i, (20 ≤ i ∧ i < 56) ∨ 1090 ≤ i → mvB v f t kind i = u1 (u1 (wrF v kind (v 12) f t (mvT v t)) (20 + f) 0) (20 + t) (v 9 + 1) i := by
      intro i hi
      rw [eB]
      unfold mv1 hs
      simp (disch := omega) only [u1_ne]
      unfold u1
      (repeat' split) <;> first | rfl | (exact clF_lo (by omega))
    have gE7 : gE (mvB v f t kind) := by
      refine gE_fr (v := wrF v kind (v 12) f t (mvT v t)) (gE_wr hE h11b.1 (by omega) (fun _ => ⟨hf, ht⟩)) ⟨by rw [m11, wrF_11], fun i hi => ?_⟩
      rw [mlo i (by omega), u1_ne (by omega), u1_ne (by omega)]
    have bI7 : bI (mvB v f t kind) := by
      intro c hc
      rw [mlo (20 + c) (by omega)]
      by_cases q1 : 20 + c = 20 + t
      · rw [q1, u1_eq]; omega
      · rw [u1_ne q1]
        by_cases q2 : 20 + c = 20 + f
        · rw [q2, u1_eq]; omega
        · rw [u1_ne q2, wrF_lo h11b.1 (by omega)]
          exact hv c hc
    refine k_endBM hb r7 gE7 (by omega) bI7 h9 m9 ht (fun μ8 o8 r8 => ?_)
    (simp (disch := omega) only [vc_s, sel_t, sel_f, vc_1, mn_0, mn_s, e_kc, e_lg0, e_lgs, e_ls0, e_lss, e_lc0, e_lcs, e_ls2, e_nlg0, e_nlgI, e_nvI, e_nvR, e_nvN, e_nv0, e_xI, e_xR, e_xN, e_xL, si_iload, si_iload_n, si_aload, si_aload_n, si_lload, si_lload_n, si_iconst, si_bipush, si_sipush, si_ldc, si_ldc2_w, si_aconst_null, si_istore, si_istore_n, si_astore, si_astore_n, si_astoreN, si_astore_nN, si_lstore, si_lstore_n, e_xInc, si_iinc, si_dupI, si_dupR, si_popI, si_popR, si_dup2, si_iadd, si_isub, si_imul, si_idiv, si_irem, si_ineg, si_i2c, si_i2l, si_ladd, si_lmul, si_goto, si_zeq, si_zne, si_zlt, si_zge, si_zgt, si_zle, si_ceq, si_cne, si_clt, si_cge, si_cgt, si_cle, si_ifnull, si_ifnullN, e_ts0, e_tss, si_tableswitch, si_getfield, e_gf, e_f0, e_fr, e_fs, si_putfield, e_pf, e_p0, e_ps, si_getstatic, si_arraylength, e_al, si_iaload, e_ia0, e_ia3, si_caload, e_ca, si_aaload, e_aa, si_iastore, e_is, si_castore, e_cs, e_rcv, e_rcS, si_invokevirtual, e_cp, si_invokestatic, e_sv, e_smax, e_smin, e_scp, si_ireturn, si_lreturn, si_areturn, si_areturnN, si_return_, mkL, List.map_cons, List.map_nil, List.length_cons, List.length_nil, Nat.reduceAdd, Nat.reduceSub, List.reduceReplicate, List.cons_append, List.nil_append, List.append_nil, Nat.reduceBEq, Bool.or_false, Bool.false_or, Bool.or_true, Bool.true_or, cond_false, cond_true, Nat.reduceEqDiff, reduceIte, List.take_succ_cons, List.take_zero, List.drop_succ_cons, List.drop_zero, List.reverse_cons, List.reverse_nil, Nat.reduceLeDiff, Nat.le_refl, true_and, and_true, Option.toList_some, Option.toList_none, Int.reduceToNat, Nat.zero_le, Int.reduceNatCast, Int.reduceNatCast', true_or, or_true, false_or, or_false, false_and, and_false, Int.reduceEq, Int.reduceLT, Int.reduceLE, Int.reduceNeg, imp_self, not_true, not_false_eq_true, false_implies, true_implies, implies_true, Int.reduceAdd, Int.reduceSub, Int.reduceMul, Int.reduceDiv, Int.reduceMod, stM_eq, cpM_eq, sR_eq, sR_sR, sh_0, sh_1, sh_2, sh_3, sh_4, sh_5, sh_6, sh_7, sh_8, sh_9, sh_10, sh_11, sh_st1, sh_st2, inR, Int.le_refl, t_43, u1_eq, u1_ne, sR_ne, hs, g0, g1, g2, g3, g4, g5, g6, g7, g8, g9, g10, g11, g12]; repeat' first | (apply And.intro; focus omega) | with_reducible intro _)
    exact hQ μ8 (o1.tr (o2.tr (o3.tr (o4.tr (o5.tr (o6.tr (o7.tr o8))))))) r8
  refine wo_43 [31] 90 rfl (Nat.le_of_ble_eq_true rfl) (fun hw => ?_)
  (simp (disch := omega) only [vc_s, sel_t, sel_f, vc_1, mn_0, mn_s, e_kc, e_lg0, e_lgs, e_ls0, e_lss, e_lc0, e_lcs, e_ls2, e_nlg0, e_nlgI, e_nvI, e_nvR, e_nvN, e_nv0, e_xI, e_xR, e_xN, e_xL, si_iload, si_iload_n, si_aload, si_aload_n, si_lload, si_lload_n, si_iconst, si_bipush, si_sipush, si_ldc, si_ldc2_w, si_aconst_null, si_istore, si_istore_n, si_astore, si_astore_n, si_astoreN, si_astore_nN, si_lstore, si_lstore_n, e_xInc, si_iinc, si_dupI, si_dupR, si_popI, si_popR, si_dup2, si_iadd, si_isub, si_imul, si_idiv, si_irem, si_ineg, si_i2c, si_i2l, si_ladd, si_lmul, si_goto, si_zeq, si_zne, si_zlt, si_zge, si_zgt, si_zle, si_ceq, si_cne, si_clt, si_cge, si_cgt, si_cle, si_ifnull, si_ifnullN, e_ts0, e_tss, si_tableswitch, si_getfield, e_gf, e_f0, e_fr, e_fs, si_putfield, e_pf, e_p0, e_ps, si_getstatic, si_arraylength, e_al, si_iaload, e_ia0, e_ia3, si_caload, e_ca, si_aaload, e_aa, si_iastore, e_is, si_castore, e_cs, e_rcv, e_rcS, si_invokevirtual, e_cp, si_invokestatic, e_sv, e_smax, e_smin, e_scp, si_ireturn, si_lreturn, si_areturn, si_areturnN, si_return_, mkL, List.map_cons, List.map_nil, List.length_cons, List.length_nil, Nat.reduceAdd, Nat.reduceSub, List.reduceReplicate, List.cons_append, List.nil_append, List.append_nil, Nat.reduceBEq, Bool.or_false, Bool.false_or, Bool.or_true, Bool.true_or, cond_false, cond_true, Nat.reduceEqDiff, reduceIte, List.take_succ_cons, List.take_zero, List.drop_succ_cons, List.drop_zero, List.reverse_cons, List.reverse_nil, Nat.reduceLeDiff, Nat.le_refl, true_and, and_true, Option.toList_some, Option.toList_none, Int.reduceToNat, Nat.zero_le, Int.reduceNatCast, Int.reduceNatCast', true_or, or_true, false_or, or_false, false_and, and_false, Int.reduceEq, Int.reduceLT, Int.reduceLE, Int.reduceNeg, imp_self, not_true, not_false_eq_true, false_implies, true_implies, implies_true, Int.reduceAdd, Int.reduceSub, Int.reduceMul, Int.reduceDiv, Int.reduceMod, stM_eq, cpM_eq, sR_eq, sR_sR, sh_0, sh_1, sh_2, sh_3, sh_4, sh_5, sh_6, sh_7, sh_8, sh_9, sh_10, sh_11, sh_st1, sh_st2, inR, Int.le_refl, t_43, u1_eq, u1_ne, sR_ne, hs, g0, g1, g2, g3, g4, g5, g6, g7, g8, g9, g10, g11, g12, e9]; repeat' first | (apply And.intro; focus omega) | with_reducible intro _)
  refine k_ownerOf hb ?_
  rw [if_pos ht, ho t ht]
  (simp (disch := omega) only [vc_s, sel_t, sel_f, vc_1, mn_0, mn_s, e_kc, e_lg0, e_lgs, e_ls0, e_lss, e_lc0, e_lcs, e_ls2, e_nlg0, e_nlgI, e_nvI, e_nvR, e_nvN, e_nv0, e_xI, e_xR, e_xN, e_xL, si_iload, si_iload_n, si_aload, si_aload_n, si_lload, si_lload_n, si_iconst, si_bipush, si_sipush, si_ldc, si_ldc2_w, si_aconst_null, si_istore, si_istore_n, si_astore, si_astore_n, si_astoreN, si_astore_nN, si_lstore, si_lstore_n, e_xInc, si_iinc, si_dupI, si_dupR, si_popI, si_popR, si_dup2, si_iadd, si_isub, si_imul, si_idiv, si_irem, si_ineg, si_i2c, si_i2l, si_ladd, si_lmul, si_goto, si_zeq, si_zne, si_zlt, si_zge, si_zgt, si_zle, si_ceq, si_cne, si_clt, si_cge, si_cgt, si_cle, si_ifnull, si_ifnullN, e_ts0, e_tss, si_tableswitch, si_getfield, e_gf, e_f0, e_fr, e_fs, si_putfield, e_pf, e_p0, e_ps, si_getstatic, si_arraylength, e_al, si_iaload, e_ia0, e_ia3, si_caload, e_ca, si_aaload, e_aa, si_iastore, e_is, si_castore, e_cs, e_rcv, e_rcS, si_invokevirtual, e_cp, si_invokestatic, e_sv, e_smax, e_smin, e_scp, si_ireturn, si_lreturn, si_areturn, si_areturnN, si_return_, mkL, List.map_cons, List.map_nil, List.length_cons, List.length_nil, Nat.reduceAdd, Nat.reduceSub, List.reduceReplicate, List.cons_append, List.nil_append, List.append_nil, Nat.reduceBEq, Bool.or_false, Bool.false_or, Bool.or_true, Bool.true_or, cond_false, cond_true, Nat.reduceEqDiff, reduceIte, List.take_succ_cons, List.take_zero, List.drop_succ_cons, List.drop_zero, List.reverse_cons, List.reverse_nil, Nat.reduceLeDiff, Nat.le_refl, true_and, and_true, Option.toList_some, Option.toList_none, Int.reduceToNat, Nat.zero_le, Int.reduceNatCast, Int.reduceNatCast', true_or, or_true, false_or, or_false, false_and, and_false, Int.reduceEq, Int.reduceLT, Int.reduceLE, Int.reduceNeg, imp_self, not_true, not_false_eq_true, false_implies, true_implies, implies_true, Int.reduceAdd, Int.reduceSub, Int.reduceMul, Int.reduceDiv, Int.reduceMod, stM_eq, cpM_eq, sR_eq, sR_sR, sh_0, sh_1, sh_2, sh_3, sh_4, sh_5, sh_6, sh_7, sh_8, sh_9, sh_10, sh_11, sh_st1, sh_st2, inR, Int.le_refl, t_43, u1_eq, u1_ne, sR_ne, hs, g0, g1, g2, g3, g4, g5, g6, g7, g8, g9, g10, g11, g12]; repeat' first | (apply And.intro; focus omega) | with_reducible intro _)
  refine k_other ?_
  rw [eo]
  (simp (disch := omega) only [vc_s, sel_t, sel_f, vc_1, mn_0, mn_s, e_kc, e_lg0, e_lgs, e_ls0, e_lss, e_lc0, e_lcs, e_ls2, e_nlg0, e_nlgI, e_nvI, e_nvR, e_nvN, e_nv0, e_xI, e_xR, e_xN, e_xL, si_iload, si_iload_n, si_aload, si_aload_n, si_lload, si_lload_n, si_iconst, si_bipush, si_sipush, si_ldc, si_ldc2_w, si_aconst_null, si_istore, si_istore_n, si_astore, si_astore_n, si_astoreN, si_astore_nN, si_lstore, si_lstore_n, e_xInc, si_iinc, si_dupI, si_dupR, si_popI, si_popR, si_dup2, si_iadd, si_isub, si_imul, si_idiv, si_irem, si_ineg, si_i2c, si_i2l, si_ladd, si_lmul, si_goto, si_zeq, si_zne, si_zlt, si_zge, si_zgt, si_zle, si_ceq, si_cne, si_clt, si_cge, si_cgt, si_cle, si_ifnull, si_ifnullN, e_ts0, e_tss, si_tableswitch, si_getfield, e_gf, e_f0, e_fr, e_fs, si_putfield, e_pf, e_p0, e_ps, si_getstatic, si_arraylength, e_al, si_iaload, e_ia0, e_ia3, si_caload, e_ca, si_aaload, e_aa, si_iastore, e_is, si_castore, e_cs, e_rcv, e_rcS, si_invokevirtual, e_cp, si_invokestatic, e_sv, e_smax, e_smin, e_scp, si_ireturn, si_lreturn, si_areturn, si_areturnN, si_return_, mkL, List.map_cons, List.map_nil, List.length_cons, List.length_nil, Nat.reduceAdd, Nat.reduceSub, List.reduceReplicate, List.cons_append, List.nil_append, List.append_nil, Nat.reduceBEq, Bool.or_false, Bool.false_or, Bool.or_true, Bool.true_or, cond_false, cond_true, Nat.reduceEqDiff, reduceIte, List.take_succ_cons, List.take_zero, List.drop_succ_cons, List.drop_zero, List.reverse_cons, List.reverse_nil, Nat.reduceLeDiff, Nat.le_refl, true_and, and_true, Option.toList_some, Option.toList_none, Int.reduceToNat, Nat.zero_le, Int.reduceNatCast, Int.reduceNatCast', true_or, or_true, false_or, or_false, false_and, and_false, Int.reduceEq, Int.reduceLT, Int.reduceLE, Int.reduceNeg, imp_self, not_true, not_false_eq_true, false_implies, true_implies, implies_true, Int.reduceAdd, Int.reduceSub, Int.reduceMul, Int.reduceDiv, Int.reduceMod, stM_eq, cpM_eq, sR_eq, sR_sR, sh_0, sh_1, sh_2, sh_3, sh_4, sh_5, sh_6, sh_7, sh_8, sh_9, sh_10, sh_11, sh_st1, sh_st2, inR, Int.le_refl, t_43, u1_eq, u1_ne, sR_ne, hs, g0, g1, g2, g3, g4, g5, g6, g7, g8, g9, g10, g11, g12]; repeat' first | (apply And.intro; focus omega) | with_reducible intro _)
  have eT : mvT v t = if atN v t = 1 - v 9 then 1 else 0 := by
    unfold mvT atN
    (repeat' split) <;> omega
  (repeat' first | (apply And.intro; focus omega) | apply And.intro | with_reducible intro _) <;> first
    | exact k31 1 (by rw [eT, if_pos (by omega)])
    | exact k31 0 (by rw [eT, if_neg (by omega)])
