/-! THE CLASS, 11: the history, a ring -/
theorem sh_12 : shp 12 = .inl (2, [some 13, some 14, some 16, some 17, some 18, some 23, none, none, none, none, none, none, none, none]) := (rfl)
theorem sh_14 : shp 14 = .inl (0, [some 15]) := (rfl)
theorem sh_23 : shp 23 = .inl (1, [some 24, none, none]) := (rfl)
theorem gm_12 : gm 12 := ⟨0, by omega, by omega⟩
theorem gm_25 : gm 25 := ⟨1, by omega, by omega⟩
def gB (k : Int) : Nat := 38 + 13 * k.toNat
theorem gB_gm {k : Int} (h : 0 ≤ k ∧ k ≤ 5) : gm (gB k) := ⟨2 + k.toNat, by omega, by unfold gB; omega⟩
theorem k_behind {i : Int} {μ : Mem} {Q : PQ} (h1 : 0 ≤ μ 1 1 ∧ μ 1 1 ≤ 5) (hi : 0 ≤ i ∧ i ≤ 6) (hQ : Q (some (aR (gB ((μ 1 1 + i) % 6)))) μ) : wpM 66 [aR 1, aI i] μ Q := by
  refine wo_66 [] 60 rfl (Nat.le_of_ble_eq_true rfl) (fun hw => ?_)
  (simp (disch := omega) only [vc_s, sel_t, sel_f, vc_1, mn_0, mn_s, e_kc, e_lg0, e_lgs, e_ls0, e_lss, e_lc0, e_lcs, e_ls2, e_nlg0, e_nlgI, e_nvI, e_nvR, e_nvN, e_nv0, e_xI, e_xR, e_xN, e_xL, si_iload, si_iload_n, si_aload, si_aload_n, si_lload, si_lload_n, si_iconst, si_bipush, si_sipush, si_ldc, si_ldc2_w, si_aconst_null, si_istore, si_istore_n, si_astore, si_astore_n, si_astoreN, si_astore_nN, si_lstore, si_lstore_n, e_xInc, si_iinc, si_dupI, si_dupR, si_popI, si_popR, si_dup2, si_iadd, si_isub, si_imul, si_idiv, si_irem, si_ineg, si_i2c, si_i2l, si_ladd, si_lmul, si_goto, si_zeq, si_zne, si_zlt, si_zge, si_zgt, si_zle, si_ceq, si_cne, si_clt, si_cge, si_cgt, si_cle, si_ifnull, si_ifnullN, e_ts0, e_tss, si_tableswitch, si_getfield, e_gf, e_f0, e_fr, e_fs, si_putfield, e_pf, e_p0, e_ps, si_getstatic, si_arraylength, e_al, si_iaload, e_ia0, e_ia3, si_caload, e_ca, si_aaload, e_aa, si_iastore, e_is, si_castore, e_cs, e_rcv, e_rcS, si_invokevirtual, e_cp, si_invokestatic, e_sv, e_smax, e_smin, e_scp, si_ireturn, si_lreturn, si_areturn, si_areturnN, si_return_, mkL, List.map_cons, List.map_nil, List.length_cons, List.length_nil, Nat.reduceAdd, Nat.reduceSub, List.reduceReplicate, List.cons_append, List.nil_append, List.append_nil, Nat.reduceBEq, Bool.or_false, Bool.false_or, Bool.or_true, Bool.true_or, cond_false, cond_true, Nat.reduceEqDiff, reduceIte, List.take_succ_cons, List.take_zero, List.drop_succ_cons, List.drop_zero, List.reverse_cons, List.reverse_nil, Nat.reduceLeDiff, Nat.le_refl, true_and, and_true, Option.toList_some, Option.toList_none, Int.reduceToNat, Nat.zero_le, Int.reduceNatCast, Int.reduceNatCast', true_or, or_true, false_or, or_false, false_and, and_false, Int.reduceEq, Int.reduceLT, Int.reduceLE, Int.reduceNeg, imp_self, not_true, not_false_eq_true, false_implies, true_implies, implies_true, Int.reduceAdd, Int.reduceSub, Int.reduceMul, Int.reduceDiv, Int.reduceMod, stM_eq, cpM_eq, sR_eq, sR_sR, sh_0, sh_1, sh_2, sh_3, sh_4, sh_5, sh_6, sh_7, sh_8, sh_9, sh_10, sh_11, sh_st1, sh_st2, inR, Int.le_refl, t_66, u1_eq, u1_ne, sR_ne, hs]; repeat' first | (apply And.intro; focus omega) | with_reducible intro _)
  exact hQ
theorem rG_fr {b : Nat} {μ μ' : Mem} {v : Rw} (h : rG b μ v) (hm : ∀ a, b ≤ a → a < b + 13 → μ' a = μ a) : rG b μ' v := by
  obtain ⟨h1, h2, h3, h4, h5, h6, h7⟩ := h
  refine ⟨h1.cg (hm _ (by omega) (by omega)) (fun _ _ => rfl), ?_, ?_, ?_, ?_, ?_, ?_⟩
  · rw [hm _ (by omega) (by omega)]; exact h2
  · rw [hm _ (by omega) (by omega)]; exact h3
  · rw [hm _ (by omega) (by omega)]; exact h4
  · rw [hm _ (by omega) (by omega)]; exact h5
  · exact h6.cg ⟨hm _ (by omega) (by omega), hm _ (by omega) (by omega), hm _ (by omega) (by omega), hm _ (by omega) (by omega), hm _ (by omega) (by omega)⟩ ⟨rfl, fun _ _ => rfl⟩
  · exact h7.cg ⟨hm _ (by omega) (by omega), hm _ (by omega) (by omega)⟩ ⟨rfl, fun _ _ => rfl⟩
/-- what every row keeps, whatever J adds -/
def rwJ (v : Rw) : Prop := zo v ∧ gE v ∧ 0 ≤ v 10 ∧ v 11 ≤ 201
def hsR (J : Rw → Prop) (μ : Mem) (f : Rw) (n : Int) : Prop := (0 ≤ n ∧ n ≤ 6) ∧ μ 1 2 = n ∧ (0 ≤ μ 1 1 ∧ μ 1 1 ≤ 5) ∧ ∀ j, 0 ≤ j ∧ j < n → rG (gB ((μ 1 1 + j) % 6)) μ (prw f j) ∧ J (prw f j)
theorem prw_kpt {f r : Rw} {n : Int} (hz : zo r) : prw (kpt f r n) n = r := by
  funext k
  unfold prw kpt
  by_cases h : 0 ≤ k ∧ k < 2120
  · rw [if_pos h, if_pos (by omega)]
    congr 1; omega
  · rw [if_neg h, hz k (by omega)]
theorem prw_kpo {f r : Rw} {n j : Int} (h : j ≠ n) : prw (kpt f r n) j = prw f j := by
  funext k
  unfold prw kpt
  by_cases h2 : 0 ≤ k ∧ k < 2120
  · rw [if_pos h2, if_pos h2, if_neg (by omega)]
  · rw [if_neg h2, if_neg h2]
theorem prw_ksh {f : Rw} {j : Int} (h : 0 ≤ j ∧ j < 5) : prw (ksh f) j = prw f (j + 1) := by
  funext k
  unfold prw ksh
  by_cases h2 : 0 ≤ k ∧ k < 2120
  · rw [if_pos h2, if_pos h2, if_pos (by omega)]
    congr 1; omega
  · rw [if_neg h2, if_neg h2]
theorem rJ_len {b : Nat} {μ : Mem} {v : Rw} (h : rG b μ v) (hj : rwJ v) : 0 ≤ v 10 ∧ μ (b + 11) 1 ≤ 3417 := by
  have := rG_len h hj.2.1
  have := hj.2.2
  omega
/-- the class keeps game c -/
theorem k_keep {J : Rw → Prop} (hJ : ∀ v, J v → rwJ v) {c : Nat} (hc : gm c) (hc2 : c < 38) {μ : Mem} {v f : Rw} {n : Int} {Q : PQ} (h : rG c μ v) (hv : J v) (hh : hsR J μ f n) (hQ : ∀ μ', hsR J μ' (kpP f v n) (kpN n) → (∀ a, a ≠ 1 → a < 38 → μ' a = μ a) → Q none μ') : wpM 64 [aR 1, aR c] μ Q := by
  obtain ⟨hn, h12, h11, hr⟩ := hh
  have hcl : 12 ≤ c ∧ c + 13 ≤ 38 := by obtain ⟨g, hg, e⟩ := hc; omega
  have key : ∀ (μ1 : Mem) (g : Rw) (m : Int), (0 ≤ m ∧ m ≤ 5) → μ1 1 2 = m → (0 ≤ μ1 1 1 ∧ μ1 1 1 ≤ 5) → (∀ a, a ≠ 1 → μ1 a = μ a) → (∀ j, 0 ≤ j ∧ j < m → rG (gB ((μ1 1 1 + j) % 6)) μ (prw g j) ∧ J (prw g j)) → kpP f v n = kpt g v m → kpN n = m + 1 → ∀ o, AW 64 Q 32 [some (aR 1), some (aR c), o] [] μ1 := by
    intro μ1 g m hm e12 e11 hfr hrr eP eN o
    refine vc1_snd ok_64 (stop := []) 60 ?_
    (simp (disch := omega) only [vc_s, sel_t, sel_f, vc_1, mn_0, mn_s, e_kc, e_lg0, e_lgs, e_ls0, e_lss, e_lc0, e_lcs, e_ls2, e_nlg0, e_nlgI, e_nvI, e_nvR, e_nvN, e_nv0, e_xI, e_xR, e_xN, e_xL, si_iload, si_iload_n, si_aload, si_aload_n, si_lload, si_lload_n, si_iconst, si_bipush, si_sipush, si_ldc, si_ldc2_w, si_aconst_null, si_istore, si_istore_n, si_astore, si_astore_n, si_astoreN, si_astore_nN, si_lstore, si_lstore_n, e_xInc, si_iinc, si_dupI, si_dupR, si_popI, si_popR, si_dup2, si_iadd, si_isub, si_imul, si_idiv, si_irem, si_ineg, si_i2c, si_i2l, si_ladd, si_lmul, si_goto, si_zeq, si_zne, si_zlt, si_zge, si_zgt, si_zle, si_ceq, si_cne, si_clt, si_cge, si_cgt, si_cle, si_ifnull, si_ifnullN, e_ts0, e_tss, si_tableswitch, si_getfield, e_gf, e_f0, e_fr, e_fs, si_putfield, e_pf, e_p0, e_ps, si_getstatic, si_arraylength, e_al, si_iaload, e_ia0, e_ia3, si_caload, e_ca, si_aaload, e_aa, si_iastore, e_is, si_castore, e_cs, e_rcv, e_rcS, si_invokevirtual, e_cp, si_invokestatic, e_sv, e_smax, e_smin, e_scp, si_ireturn, si_lreturn, si_areturn, si_areturnN, si_return_, mkL, List.map_cons, List.map_nil, List.length_cons, List.length_nil, Nat.reduceAdd, Nat.reduceSub, List.reduceReplicate, List.cons_append, List.nil_append, List.append_nil, Nat.reduceBEq, Bool.or_false, Bool.false_or, Bool.or_true, Bool.true_or, cond_false, cond_true, Nat.reduceEqDiff, reduceIte, List.take_succ_cons, List.take_zero, List.drop_succ_cons, List.drop_zero, List.reverse_cons, List.reverse_nil, Nat.reduceLeDiff, Nat.le_refl, true_and, and_true, Option.toList_some, Option.toList_none, Int.reduceToNat, Nat.zero_le, Int.reduceNatCast, Int.reduceNatCast', true_or, or_true, false_or, or_false, false_and, and_false, Int.reduceEq, Int.reduceLT, Int.reduceLE, Int.reduceNeg, imp_self, not_true, not_false_eq_true, false_implies, true_implies, implies_true, Int.reduceAdd, Int.reduceSub, Int.reduceMul, Int.reduceDiv, Int.reduceMod, stM_eq, cpM_eq, sR_eq, sR_sR, sh_0, sh_1, sh_2, sh_3, sh_4, sh_5, sh_6, sh_7, sh_8, sh_9, sh_10, sh_11, sh_st1, sh_st2, inR, Int.le_refl, t_64, u1_eq, u1_ne, sR_ne, hs, e12]; repeat' first | (apply And.intro; focus omega) | with_reducible intro _)
    refine k_behind e11 (by omega) ?_
    have hk : 0 ≤ (μ1 1 1 + m) % 6 ∧ (μ1 1 1 + m) % 6 ≤ 5 := by omega
    have hg := gB_gm hk
    have hgb : 38 ≤ gB ((μ1 1 1 + m) % 6) := by unfold gB; omega
    have f0 := (gm_all hg).1
    (simp (disch := omega) only [vc_s, sel_t, sel_f, vc_1, mn_0, mn_s, e_kc, e_lg0, e_lgs, e_ls0, e_lss, e_lc0, e_lcs, e_ls2, e_nlg0, e_nlgI, e_nvI, e_nvR, e_nvN, e_nv0, e_xI, e_xR, e_xN, e_xL, si_iload, si_iload_n, si_aload, si_aload_n, si_lload, si_lload_n, si_iconst, si_bipush, si_sipush, si_ldc, si_ldc2_w, si_aconst_null, si_istore, si_istore_n, si_astore, si_astore_n, si_astoreN, si_astore_nN, si_lstore, si_lstore_n, e_xInc, si_iinc, si_dupI, si_dupR, si_popI, si_popR, si_dup2, si_iadd, si_isub, si_imul, si_idiv, si_irem, si_ineg, si_i2c, si_i2l, si_ladd, si_lmul, si_goto, si_zeq, si_zne, si_zlt, si_zge, si_zgt, si_zle, si_ceq, si_cne, si_clt, si_cge, si_cgt, si_cle, si_ifnull, si_ifnullN, e_ts0, e_tss, si_tableswitch, si_getfield, e_gf, e_f0, e_fr, e_fs, si_putfield, e_pf, e_p0, e_ps, si_getstatic, si_arraylength, e_al, si_iaload, e_ia0, e_ia3, si_caload, e_ca, si_aaload, e_aa, si_iastore, e_is, si_castore, e_cs, e_rcv, e_rcS, si_invokevirtual, e_cp, si_invokestatic, e_sv, e_smax, e_smin, e_scp, si_ireturn, si_lreturn, si_areturn, si_areturnN, si_return_, mkL, List.map_cons, List.map_nil, List.length_cons, List.length_nil, Nat.reduceAdd, Nat.reduceSub, List.reduceReplicate, List.cons_append, List.nil_append, List.append_nil, Nat.reduceBEq, Bool.or_false, Bool.false_or, Bool.or_true, Bool.true_or, cond_false, cond_true, Nat.reduceEqDiff, reduceIte, List.take_succ_cons, List.take_zero, List.drop_succ_cons, List.drop_zero, List.reverse_cons, List.reverse_nil, Nat.reduceLeDiff, Nat.le_refl, true_and, and_true, Option.toList_some, Option.toList_none, Int.reduceToNat, Nat.zero_le, Int.reduceNatCast, Int.reduceNatCast', true_or, or_true, false_or, or_false, false_and, and_false, Int.reduceEq, Int.reduceLT, Int.reduceLE, Int.reduceNeg, imp_self, not_true, not_false_eq_true, false_implies, true_implies, implies_true, Int.reduceAdd, Int.reduceSub, Int.reduceMul, Int.reduceDiv, Int.reduceMod, stM_eq, cpM_eq, sR_eq, sR_sR, sh_0, sh_1, sh_2, sh_3, sh_4, sh_5, sh_6, sh_7, sh_8, sh_9, sh_10, sh_11, sh_st1, sh_st2, inR, Int.le_refl, t_64, u1_eq, u1_ne, sR_ne, hs, e12, f0]; repeat' first | (apply And.intro; focus omega) | with_reducible intro _)
    have r1 : rG c μ1 v := rG_fr h (fun a h1 h2 => hfr a (by omega))
    refine k_gCopy hg hc (by omega) r1 (rJ_len r1 (hJ v hv)).1 (rJ_len r1 (hJ v hv)).2 (fun μ2 o2 r2 => ?_)
    have e1 : μ2 1 = μ1 1 := o2 1 (by omega)
    (simp (disch := omega) only [vc_s, sel_t, sel_f, vc_1, mn_0, mn_s, e_kc, e_lg0, e_lgs, e_ls0, e_lss, e_lc0, e_lcs, e_ls2, e_nlg0, e_nlgI, e_nvI, e_nvR, e_nvN, e_nv0, e_xI, e_xR, e_xN, e_xL, si_iload, si_iload_n, si_aload, si_aload_n, si_lload, si_lload_n, si_iconst, si_bipush, si_sipush, si_ldc, si_ldc2_w, si_aconst_null, si_istore, si_istore_n, si_astore, si_astore_n, si_astoreN, si_astore_nN, si_lstore, si_lstore_n, e_xInc, si_iinc, si_dupI, si_dupR, si_popI, si_popR, si_dup2, si_iadd, si_isub, si_imul, si_idiv, si_irem, si_ineg, si_i2c, si_i2l, si_ladd, si_lmul, si_goto, si_zeq, si_zne, si_zlt, si_zge, si_zgt, si_zle, si_ceq, si_cne, si_clt, si_cge, si_cgt, si_cle, si_ifnull, si_ifnullN, e_ts0, e_tss, si_tableswitch, si_getfield, e_gf, e_f0, e_fr, e_fs, si_putfield, e_pf, e_p0, e_ps, si_getstatic, si_arraylength, e_al, si_iaload, e_ia0, e_ia3, si_caload, e_ca, si_aaload, e_aa, si_iastore, e_is, si_castore, e_cs, e_rcv, e_rcS, si_invokevirtual, e_cp, si_invokestatic, e_sv, e_smax, e_smin, e_scp, si_ireturn, si_lreturn, si_areturn, si_areturnN, si_return_, mkL, List.map_cons, List.map_nil, List.length_cons, List.length_nil, Nat.reduceAdd, Nat.reduceSub, List.reduceReplicate, List.cons_append, List.nil_append, List.append_nil, Nat.reduceBEq, Bool.or_false, Bool.false_or, Bool.or_true, Bool.true_or, cond_false, cond_true, Nat.reduceEqDiff, reduceIte, List.take_succ_cons, List.take_zero, List.drop_succ_cons, List.drop_zero, List.reverse_cons, List.reverse_nil, Nat.reduceLeDiff, Nat.le_refl, true_and, and_true, Option.toList_some, Option.toList_none, Int.reduceToNat, Nat.zero_le, Int.reduceNatCast, Int.reduceNatCast', true_or, or_true, false_or, or_false, false_and, and_false, Int.reduceEq, Int.reduceLT, Int.reduceLE, Int.reduceNeg, imp_self, not_true, not_false_eq_true, false_implies, true_implies, implies_true, Int.reduceAdd, Int.reduceSub, Int.reduceMul, Int.reduceDiv, Int.reduceMod, stM_eq, cpM_eq, sR_eq, sR_sR, sh_0, sh_1, sh_2, sh_3, sh_4, sh_5, sh_6, sh_7, sh_8, sh_9, sh_10, sh_11, sh_st1, sh_st2, inR, Int.le_refl, t_64, u1_eq, u1_ne, sR_ne, hs, e1, e12]; repeat' first | (apply And.intro; focus omega) | with_reducible intro _)
    refine hQ _ ⟨by omega, by rw [sR_eq, u1_eq, eN], by rw [sR_eq, u1_ne (by omega)]; exact e11, fun j hj => ?_⟩ (fun a ha hb => ?_)
    · rw [sR_eq, u1_ne (by omega), eP]
      rw [eN] at hj
      by_cases q : j = m
      · subst q
        rw [prw_kpt (hJ v hv).1]
        refine ⟨rG_fr r2 (fun a h1 h2 => by rw [sR_ne (by omega)]), hv⟩
      · obtain ⟨q1, q2⟩ := hrr j (by omega)
        rw [prw_kpo q]
        refine ⟨rG_fr q1 (fun a h1 h2 => ?_), q2⟩
        have ha1 : 38 ≤ a := by unfold gB at h1; omega
        rw [sR_ne (by omega), o2 a ?_, hfr a (by omega)]
        unfold gB at h1 h2 ⊢
        omega
    · rw [sR_ne ha, o2 a (by omega), hfr a ha]
  refine wo_64 [32] 60 rfl (Nat.le_of_ble_eq_true rfl) (fun hw => ?_)
  (simp (disch := omega) only [vc_s, sel_t, sel_f, vc_1, mn_0, mn_s, e_kc, e_lg0, e_lgs, e_ls0, e_lss, e_lc0, e_lcs, e_ls2, e_nlg0, e_nlgI, e_nvI, e_nvR, e_nvN, e_nv0, e_xI, e_xR, e_xN, e_xL, si_iload, si_iload_n, si_aload, si_aload_n, si_lload, si_lload_n, si_iconst, si_bipush, si_sipush, si_ldc, si_ldc2_w, si_aconst_null, si_istore, si_istore_n, si_astore, si_astore_n, si_astoreN, si_astore_nN, si_lstore, si_lstore_n, e_xInc, si_iinc, si_dupI, si_dupR, si_popI, si_popR, si_dup2, si_iadd, si_isub, si_imul, si_idiv, si_irem, si_ineg, si_i2c, si_i2l, si_ladd, si_lmul, si_goto, si_zeq, si_zne, si_zlt, si_zge, si_zgt, si_zle, si_ceq, si_cne, si_clt, si_cge, si_cgt, si_cle, si_ifnull, si_ifnullN, e_ts0, e_tss, si_tableswitch, si_getfield, e_gf, e_f0, e_fr, e_fs, si_putfield, e_pf, e_p0, e_ps, si_getstatic, si_arraylength, e_al, si_iaload, e_ia0, e_ia3, si_caload, e_ca, si_aaload, e_aa, si_iastore, e_is, si_castore, e_cs, e_rcv, e_rcS, si_invokevirtual, e_cp, si_invokestatic, e_sv, e_smax, e_smin, e_scp, si_ireturn, si_lreturn, si_areturn, si_areturnN, si_return_, mkL, List.map_cons, List.map_nil, List.length_cons, List.length_nil, Nat.reduceAdd, Nat.reduceSub, List.reduceReplicate, List.cons_append, List.nil_append, List.append_nil, Nat.reduceBEq, Bool.or_false, Bool.false_or, Bool.or_true, Bool.true_or, cond_false, cond_true, Nat.reduceEqDiff, reduceIte, List.take_succ_cons, List.take_zero, List.drop_succ_cons, List.drop_zero, List.reverse_cons, List.reverse_nil, Nat.reduceLeDiff, Nat.le_refl, true_and, and_true, Option.toList_some, Option.toList_none, Int.reduceToNat, Nat.zero_le, Int.reduceNatCast, Int.reduceNatCast', true_or, or_true, false_or, or_false, false_and, and_false, Int.reduceEq, Int.reduceLT, Int.reduceLE, Int.reduceNeg, imp_self, not_true, not_false_eq_true, false_implies, true_implies, implies_true, Int.reduceAdd, Int.reduceSub, Int.reduceMul, Int.reduceDiv, Int.reduceMod, stM_eq, cpM_eq, sR_eq, sR_sR, sh_0, sh_1, sh_2, sh_3, sh_4, sh_5, sh_6, sh_7, sh_8, sh_9, sh_10, sh_11, sh_st1, sh_st2, inR, Int.le_refl, t_64, u1_eq, u1_ne, sR_ne, hs, h12]; repeat' first | (apply And.intro; focus omega) | with_reducible intro _)
  refine ⟨fun hz => ?_, fun hz => ?_⟩
  · first
      | (refine key μ f n (by omega) h12 h11 (fun _ _ => rfl) hr ?_ ?_ _
         · unfold kpP; rw [if_neg hz]
         · unfold kpN; rw [if_neg hz])
      | skip
  · repeat' first | (apply And.intro; focus omega) | with_reducible intro _
    refine key _ (ksh f) 5 (by omega) ?_ ?_ (fun a ha => ?_) (fun j hj => ?_) ?_ ?_ _
    · simp (disch := omega) only [sR_eq, u1_eq]; omega
    · simp (disch := omega) only [sR_eq, u1_eq, u1_ne]; omega
    · simp (disch := omega) only [sR_ne]
    · rw [prw_ksh (by omega)]
      have := hr (j + 1) (by omega)
      simp (disch := omega) only [sR_eq, u1_eq, u1_ne]
      rw [show ((μ 1 1 + 1) % 6 + j) % 6 = (μ 1 1 + (j + 1)) % 6 by omega]
      exact this
    · unfold kpP; rw [if_pos (by omega)]
    · unfold kpN; rw [if_pos (by omega)]; omega
/-- the class brings the latest game back -/
theorem k_restore {J : Rw → Prop} (hJ : ∀ v, J v → rwJ v) {μ : Mem} {f : Rw} {n : Int} {Q : PQ} (hh : hsR J μ f n) (hn1 : 1 ≤ n) (hQ : ∀ μ', hsR J μ' f (n - 1) → rG 12 μ' (prw f (n - 1)) → (∀ a, a ≠ 1 → (a < 12 ∨ 25 ≤ a) → μ' a = μ a) → Q none μ') : wpM 65 [aR 1, aR 12] μ Q := by
  obtain ⟨hn, h12, h11, hr⟩ := hh
  refine wo_65 [] 60 rfl (Nat.le_of_ble_eq_true rfl) (fun hw => ?_)
  (simp (disch := omega) only [vc_s, sel_t, sel_f, vc_1, mn_0, mn_s, e_kc, e_lg0, e_lgs, e_ls0, e_lss, e_lc0, e_lcs, e_ls2, e_nlg0, e_nlgI, e_nvI, e_nvR, e_nvN, e_nv0, e_xI, e_xR, e_xN, e_xL, si_iload, si_iload_n, si_aload, si_aload_n, si_lload, si_lload_n, si_iconst, si_bipush, si_sipush, si_ldc, si_ldc2_w, si_aconst_null, si_istore, si_istore_n, si_astore, si_astore_n, si_astoreN, si_astore_nN, si_lstore, si_lstore_n, e_xInc, si_iinc, si_dupI, si_dupR, si_popI, si_popR, si_dup2, si_iadd, si_isub, si_imul, si_idiv, si_irem, si_ineg, si_i2c, si_i2l, si_ladd, si_lmul, si_goto, si_zeq, si_zne, si_zlt, si_zge, si_zgt, si_zle, si_ceq, si_cne, si_clt, si_cge, si_cgt, si_cle, si_ifnull, si_ifnullN, e_ts0, e_tss, si_tableswitch, si_getfield, e_gf, e_f0, e_fr, e_fs, si_putfield, e_pf, e_p0, e_ps, si_getstatic, si_arraylength, e_al, si_iaload, e_ia0, e_ia3, si_caload, e_ca, si_aaload, e_aa, si_iastore, e_is, si_castore, e_cs, e_rcv, e_rcS, si_invokevirtual, e_cp, si_invokestatic, e_sv, e_smax, e_smin, e_scp, si_ireturn, si_lreturn, si_areturn, si_areturnN, si_return_, mkL, List.map_cons, List.map_nil, List.length_cons, List.length_nil, Nat.reduceAdd, Nat.reduceSub, List.reduceReplicate, List.cons_append, List.nil_append, List.append_nil, Nat.reduceBEq, Bool.or_false, Bool.false_or, Bool.or_true, Bool.true_or, cond_false, cond_true, Nat.reduceEqDiff, reduceIte, List.take_succ_cons, List.take_zero, List.drop_succ_cons, List.drop_zero, List.reverse_cons, List.reverse_nil, Nat.reduceLeDiff, Nat.le_refl, true_and, and_true, Option.toList_some, Option.toList_none, Int.reduceToNat, Nat.zero_le, Int.reduceNatCast, Int.reduceNatCast', true_or, or_true, false_or, or_false, false_and, and_false, Int.reduceEq, Int.reduceLT, Int.reduceLE, Int.reduceNeg, imp_self, not_true, not_false_eq_true, false_implies, true_implies, implies_true, Int.reduceAdd, Int.reduceSub, Int.reduceMul, Int.reduceDiv, Int.reduceMod, stM_eq, cpM_eq, sR_eq, sR_sR, sh_0, sh_1, sh_2, sh_3, sh_4, sh_5, sh_6, sh_7, sh_8, sh_9, sh_10, sh_11, sh_st1, sh_st2, inR, Int.le_refl, t_65, u1_eq, u1_ne, sR_ne, hs, h12]; repeat' first | (apply And.intro; focus omega) | with_reducible intro _)
  refine k_behind h11 (by omega) ?_
  have hk : 0 ≤ (μ 1 1 + (n - 1)) % 6 ∧ (μ 1 1 + (n - 1)) % 6 ≤ 5 := by omega
  have hg := gB_gm hk
  have hgb : 38 ≤ gB ((μ 1 1 + (n - 1)) % 6) := by unfold gB; omega
  obtain ⟨r1, j1⟩ := hr (n - 1) (by omega)
  (simp (disch := omega) only [vc_s, sel_t, sel_f, vc_1, mn_0, mn_s, e_kc, e_lg0, e_lgs, e_ls0, e_lss, e_lc0, e_lcs, e_ls2, e_nlg0, e_nlgI, e_nvI, e_nvR, e_nvN, e_nv0, e_xI, e_xR, e_xN, e_xL, si_iload, si_iload_n, si_aload, si_aload_n, si_lload, si_lload_n, si_iconst, si_bipush, si_sipush, si_ldc, si_ldc2_w, si_aconst_null, si_istore, si_istore_n, si_astore, si_astore_n, si_astoreN, si_astore_nN, si_lstore, si_lstore_n, e_xInc, si_iinc, si_dupI, si_dupR, si_popI, si_popR, si_dup2, si_iadd, si_isub, si_imul, si_idiv, si_irem, si_ineg, si_i2c, si_i2l, si_ladd, si_lmul, si_goto, si_zeq, si_zne, si_zlt, si_zge, si_zgt, si_zle, si_ceq, si_cne, si_clt, si_cge, si_cgt, si_cle, si_ifnull, si_ifnullN, e_ts0, e_tss, si_tableswitch, si_getfield, e_gf, e_f0, e_fr, e_fs, si_putfield, e_pf, e_p0, e_ps, si_getstatic, si_arraylength, e_al, si_iaload, e_ia0, e_ia3, si_caload, e_ca, si_aaload, e_aa, si_iastore, e_is, si_castore, e_cs, e_rcv, e_rcS, si_invokevirtual, e_cp, si_invokestatic, e_sv, e_smax, e_smin, e_scp, si_ireturn, si_lreturn, si_areturn, si_areturnN, si_return_, mkL, List.map_cons, List.map_nil, List.length_cons, List.length_nil, Nat.reduceAdd, Nat.reduceSub, List.reduceReplicate, List.cons_append, List.nil_append, List.append_nil, Nat.reduceBEq, Bool.or_false, Bool.false_or, Bool.or_true, Bool.true_or, cond_false, cond_true, Nat.reduceEqDiff, reduceIte, List.take_succ_cons, List.take_zero, List.drop_succ_cons, List.drop_zero, List.reverse_cons, List.reverse_nil, Nat.reduceLeDiff, Nat.le_refl, true_and, and_true, Option.toList_some, Option.toList_none, Int.reduceToNat, Nat.zero_le, Int.reduceNatCast, Int.reduceNatCast', true_or, or_true, false_or, or_false, false_and, and_false, Int.reduceEq, Int.reduceLT, Int.reduceLE, Int.reduceNeg, imp_self, not_true, not_false_eq_true, false_implies, true_implies, implies_true, Int.reduceAdd, Int.reduceSub, Int.reduceMul, Int.reduceDiv, Int.reduceMod, stM_eq, cpM_eq, sR_eq, sR_sR, sh_0, sh_1, sh_2, sh_3, sh_4, sh_5, sh_6, sh_7, sh_8, sh_9, sh_10, sh_11, sh_st1, sh_st2, inR, Int.le_refl, t_65, u1_eq, u1_ne, sR_ne, hs, h12, sh_12]; repeat' first | (apply And.intro; focus omega) | with_reducible intro _)
  refine k_gCopy (b := 12) gm_12 hg (by omega) r1 (rJ_len r1 (hJ _ j1)).1 (rJ_len r1 (hJ _ j1)).2 (fun μ2 o2 r2 => ?_)
  have e1 : μ2 1 = μ 1 := o2 1 (by omega)
  (simp (disch := omega) only [vc_s, sel_t, sel_f, vc_1, mn_0, mn_s, e_kc, e_lg0, e_lgs, e_ls0, e_lss, e_lc0, e_lcs, e_ls2, e_nlg0, e_nlgI, e_nvI, e_nvR, e_nvN, e_nv0, e_xI, e_xR, e_xN, e_xL, si_iload, si_iload_n, si_aload, si_aload_n, si_lload, si_lload_n, si_iconst, si_bipush, si_sipush, si_ldc, si_ldc2_w, si_aconst_null, si_istore, si_istore_n, si_astore, si_astore_n, si_astoreN, si_astore_nN, si_lstore, si_lstore_n, e_xInc, si_iinc, si_dupI, si_dupR, si_popI, si_popR, si_dup2, si_iadd, si_isub, si_imul, si_idiv, si_irem, si_ineg, si_i2c, si_i2l, si_ladd, si_lmul, si_goto, si_zeq, si_zne, si_zlt, si_zge, si_zgt, si_zle, si_ceq, si_cne, si_clt, si_cge, si_cgt, si_cle, si_ifnull, si_ifnullN, e_ts0, e_tss, si_tableswitch, si_getfield, e_gf, e_f0, e_fr, e_fs, si_putfield, e_pf, e_p0, e_ps, si_getstatic, si_arraylength, e_al, si_iaload, e_ia0, e_ia3, si_caload, e_ca, si_aaload, e_aa, si_iastore, e_is, si_castore, e_cs, e_rcv, e_rcS, si_invokevirtual, e_cp, si_invokestatic, e_sv, e_smax, e_smin, e_scp, si_ireturn, si_lreturn, si_areturn, si_areturnN, si_return_, mkL, List.map_cons, List.map_nil, List.length_cons, List.length_nil, Nat.reduceAdd, Nat.reduceSub, List.reduceReplicate, List.cons_append, List.nil_append, List.append_nil, Nat.reduceBEq, Bool.or_false, Bool.false_or, Bool.or_true, Bool.true_or, cond_false, cond_true, Nat.reduceEqDiff, reduceIte, List.take_succ_cons, List.take_zero, List.drop_succ_cons, List.drop_zero, List.reverse_cons, List.reverse_nil, Nat.reduceLeDiff, Nat.le_refl, true_and, and_true, Option.toList_some, Option.toList_none, Int.reduceToNat, Nat.zero_le, Int.reduceNatCast, Int.reduceNatCast', true_or, or_true, false_or, or_false, false_and, and_false, Int.reduceEq, Int.reduceLT, Int.reduceLE, Int.reduceNeg, imp_self, not_true, not_false_eq_true, false_implies, true_implies, implies_true, Int.reduceAdd, Int.reduceSub, Int.reduceMul, Int.reduceDiv, Int.reduceMod, stM_eq, cpM_eq, sR_eq, sR_sR, sh_0, sh_1, sh_2, sh_3, sh_4, sh_5, sh_6, sh_7, sh_8, sh_9, sh_10, sh_11, sh_st1, sh_st2, inR, Int.le_refl, t_65, u1_eq, u1_ne, sR_ne, hs, e1, h12]; repeat' first | (apply And.intro; focus omega) | with_reducible intro _)
  refine hQ _ ⟨by omega, by rw [sR_eq, u1_eq], by rw [sR_eq, u1_ne (by omega)]; exact h11, fun j hj => ?_⟩ (rG_fr r2 (fun a h1 h2 => by rw [sR_ne (by omega)])) (fun a ha hb => by rw [sR_ne ha, o2 a (by omega)])
  rw [sR_eq, u1_ne (by omega)]
  obtain ⟨q1, q2⟩ := hr j (by omega)
  refine ⟨rG_fr q1 (fun a h1 h2 => ?_), q2⟩
  have ha1 : 38 ≤ a := by unfold gB at h1; omega
  rw [sR_ne (by omega), o2 a (by omega)]
