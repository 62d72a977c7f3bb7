/-! THE CLASS, 15: a text is played -/
def pts (T : Rw) (n : Int) : Nat → Int → List Int
  | 0, _ => []
  | f + 1, p => (rdP T n p).2.2 :: (if nx T n (rdP T n p).2.1 = 32 then pts T n f ((rdP T n p).2.1 + 1) else [])
theorem rdT_pts (T : Rw) (n : Int) : ∀ (f : Nat) (p : Int) (acc : List Int), (rdT T n f p acc).1 = true → (rdT T n f p acc).2.2 = acc ++ pts T n f p
  | 0, p, acc, h => by simp [rdT] at h
  | f + 1, p, acc, h => by
    unfold rdT at h ⊢
    unfold pts
    by_cases h1 : (rdP T n p).1 = true
    · rw [if_pos h1] at h ⊢
      by_cases h2 : nx T n (rdP T n p).2.1 = 32
      · rw [if_pos h2] at h ⊢
        rw [if_pos h2, rdT_pts T n f _ _ h]
        simp
      · rw [if_neg h2] at h ⊢
        rw [if_neg h2]
    · rw [if_neg h1] at h
      simp at h
/-! the parts of a text, counted by its blanks -/
def cn (T : Rw) : Nat → Int → Int
  | 0, _ => 0
  | k + 1, i => (if T i = 32 then 1 else 0) + cn T k (i + 1)
theorem xlp_count {μ : Mem} {T : Rw} {m : Int} {Q : PQ} (h : tX μ T m) : ∀ (k : Nat) (i a : Int), i + k = m → 0 ≤ i → (0 ≤ a ∧ a ≤ i + 1) → Q (some (aI (a + cn T k i))) μ → AW 181 Q 4 [some (aR 3), some (aI a), some (aI i)] [] μ := by
  have e1 := h.2.1
  have hm := h.1
  intro k
  induction k with
  | zero =>
    intro i a hi h0 ha hQ
    unfold cn at hQ
    rw [Int.add_zero] at hQ
    refine vc1_snd ok_181 (stop := [4]) 60 ?_
    (simp (disch := omega) only [vc_s, sel_t, sel_f, vc_1, mn_0, mn_s, e_kc, e_lg0, e_lgs, e_ls0, e_lss, e_lc0, e_lcs, e_ls2, e_nlg0, e_nlgI, e_nvI, e_nvR, e_nvN, e_nv0, e_xI, e_xR, e_xN, e_xL, si_iload, si_iload_n, si_aload, si_aload_n, si_lload, si_lload_n, si_iconst, si_bipush, si_sipush, si_ldc, si_ldc2_w, si_aconst_null, si_istore, si_istore_n, si_astore, si_astore_n, si_astoreN, si_astore_nN, si_lstore, si_lstore_n, e_xInc, si_iinc, si_dupI, si_dupR, si_popI, si_popR, si_dup2, si_iadd, si_isub, si_imul, si_idiv, si_irem, si_ineg, si_i2c, si_i2l, si_ladd, si_lmul, si_goto, si_zeq, si_zne, si_zlt, si_zge, si_zgt, si_zle, si_ceq, si_cne, si_clt, si_cge, si_cgt, si_cle, si_ifnull, si_ifnullN, e_ts0, e_tss, si_tableswitch, si_getfield, e_gf, e_f0, e_fr, e_fs, si_putfield, e_pf, e_p0, e_ps, si_getstatic, si_arraylength, e_al, si_iaload, e_ia0, e_ia3, si_caload, e_ca, si_aaload, e_aa, si_iastore, e_is, si_castore, e_cs, e_rcv, e_rcS, si_invokevirtual, e_cp, si_invokestatic, e_sv, e_smax, e_smin, e_scp, si_ireturn, si_lreturn, si_areturn, si_areturnN, si_return_, mkL, List.map_cons, List.map_nil, List.length_cons, List.length_nil, Nat.reduceAdd, Nat.reduceSub, List.reduceReplicate, List.cons_append, List.nil_append, List.append_nil, Nat.reduceBEq, Bool.or_false, Bool.false_or, Bool.or_true, Bool.true_or, cond_false, cond_true, Nat.reduceEqDiff, reduceIte, List.take_succ_cons, List.take_zero, List.drop_succ_cons, List.drop_zero, List.reverse_cons, List.reverse_nil, Nat.reduceLeDiff, Nat.le_refl, true_and, and_true, Option.toList_some, Option.toList_none, Int.reduceToNat, Nat.zero_le, Int.reduceNatCast, Int.reduceNatCast', true_or, or_true, false_or, or_false, false_and, and_false, Int.reduceEq, Int.reduceLT, Int.reduceLE, Int.reduceNeg, imp_self, not_true, not_false_eq_true, false_implies, true_implies, implies_true, Int.reduceAdd, Int.reduceSub, Int.reduceMul, Int.reduceDiv, Int.reduceMod, stM_eq, cpM_eq, sR_eq, sR_sR, sh_0, sh_1, sh_2, sh_3, sh_4, sh_5, sh_6, sh_7, sh_8, sh_9, sh_10, sh_11, sh_st1, sh_st2, inR, Int.le_refl, t_181, u1_eq, u1_ne, sR_ne, hs, e1]; repeat' first | (apply And.intro; focus omega) | with_reducible intro _)
    (repeat' first | (apply And.intro; focus omega) | apply And.intro | with_reducible intro _) <;> first
      | (exfalso; omega)
      | exact hQ
  | succ k ih =>
    intro i a hi h0 ha hQ
    unfold cn at hQ
    rw [← Int.add_assoc] at hQ
    refine vc1_snd ok_181 (stop := [4]) 60 ?_
    (simp (disch := omega) only [vc_s, sel_t, sel_f, vc_1, mn_0, mn_s, e_kc, e_lg0, e_lgs, e_ls0, e_lss, e_lc0, e_lcs, e_ls2, e_nlg0, e_nlgI, e_nvI, e_nvR, e_nvN, e_nv0, e_xI, e_xR, e_xN, e_xL, si_iload, si_iload_n, si_aload, si_aload_n, si_lload, si_lload_n, si_iconst, si_bipush, si_sipush, si_ldc, si_ldc2_w, si_aconst_null, si_istore, si_istore_n, si_astore, si_astore_n, si_astoreN, si_astore_nN, si_lstore, si_lstore_n, e_xInc, si_iinc, si_dupI, si_dupR, si_popI, si_popR, si_dup2, si_iadd, si_isub, si_imul, si_idiv, si_irem, si_ineg, si_i2c, si_i2l, si_ladd, si_lmul, si_goto, si_zeq, si_zne, si_zlt, si_zge, si_zgt, si_zle, si_ceq, si_cne, si_clt, si_cge, si_cgt, si_cle, si_ifnull, si_ifnullN, e_ts0, e_tss, si_tableswitch, si_getfield, e_gf, e_f0, e_fr, e_fs, si_putfield, e_pf, e_p0, e_ps, si_getstatic, si_arraylength, e_al, si_iaload, e_ia0, e_ia3, si_caload, e_ca, si_aaload, e_aa, si_iastore, e_is, si_castore, e_cs, e_rcv, e_rcS, si_invokevirtual, e_cp, si_invokestatic, e_sv, e_smax, e_smin, e_scp, si_ireturn, si_lreturn, si_areturn, si_areturnN, si_return_, mkL, List.map_cons, List.map_nil, List.length_cons, List.length_nil, Nat.reduceAdd, Nat.reduceSub, List.reduceReplicate, List.cons_append, List.nil_append, List.append_nil, Nat.reduceBEq, Bool.or_false, Bool.false_or, Bool.or_true, Bool.true_or, cond_false, cond_true, Nat.reduceEqDiff, reduceIte, List.take_succ_cons, List.take_zero, List.drop_succ_cons, List.drop_zero, List.reverse_cons, List.reverse_nil, Nat.reduceLeDiff, Nat.le_refl, true_and, and_true, Option.toList_some, Option.toList_none, Int.reduceToNat, Nat.zero_le, Int.reduceNatCast, Int.reduceNatCast', true_or, or_true, false_or, or_false, false_and, and_false, Int.reduceEq, Int.reduceLT, Int.reduceLE, Int.reduceNeg, imp_self, not_true, not_false_eq_true, false_implies, true_implies, implies_true, Int.reduceAdd, Int.reduceSub, Int.reduceMul, Int.reduceDiv, Int.reduceMod, stM_eq, cpM_eq, sR_eq, sR_sR, sh_0, sh_1, sh_2, sh_3, sh_4, sh_5, sh_6, sh_7, sh_8, sh_9, sh_10, sh_11, sh_st1, sh_st2, inR, Int.le_refl, t_181, u1_eq, u1_ne, sR_ne, hs, e1]; repeat' first | (apply And.intro; focus omega) | with_reducible intro _)
    (repeat' first | (apply And.intro; focus omega) | apply And.intro | with_reducible intro _) <;> first
      | (exfalso; omega)
      | (refine x_sign h ?_
         have esg : sg T m i = T i := by unfold sg; rw [if_pos (by omega)]
         rw [esg]
         by_cases hb : T i = 32
         · rw [if_pos hb] at hQ
           rw [hb]
           (simp (disch := omega) only [vc_s, sel_t, sel_f, vc_1, mn_0, mn_s, e_kc, e_lg0, e_lgs, e_ls0, e_lss, e_lc0, e_lcs, e_ls2, e_nlg0, e_nlgI, e_nvI, e_nvR, e_nvN, e_nv0, e_xI, e_xR, e_xN, e_xL, si_iload, si_iload_n, si_aload, si_aload_n, si_lload, si_lload_n, si_iconst, si_bipush, si_sipush, si_ldc, si_ldc2_w, si_aconst_null, si_istore, si_istore_n, si_astore, si_astore_n, si_astoreN, si_astore_nN, si_lstore, si_lstore_n, e_xInc, si_iinc, si_dupI, si_dupR, si_popI, si_popR, si_dup2, si_iadd, si_isub, si_imul, si_idiv, si_irem, si_ineg, si_i2c, si_i2l, si_ladd, si_lmul, si_goto, si_zeq, si_zne, si_zlt, si_zge, si_zgt, si_zle, si_ceq, si_cne, si_clt, si_cge, si_cgt, si_cle, si_ifnull, si_ifnullN, e_ts0, e_tss, si_tableswitch, si_getfield, e_gf, e_f0, e_fr, e_fs, si_putfield, e_pf, e_p0, e_ps, si_getstatic, si_arraylength, e_al, si_iaload, e_ia0, e_ia3, si_caload, e_ca, si_aaload, e_aa, si_iastore, e_is, si_castore, e_cs, e_rcv, e_rcS, si_invokevirtual, e_cp, si_invokestatic, e_sv, e_smax, e_smin, e_scp, si_ireturn, si_lreturn, si_areturn, si_areturnN, si_return_, mkL, List.map_cons, List.map_nil, List.length_cons, List.length_nil, Nat.reduceAdd, Nat.reduceSub, List.reduceReplicate, List.cons_append, List.nil_append, List.append_nil, Nat.reduceBEq, Bool.or_false, Bool.false_or, Bool.or_true, Bool.true_or, cond_false, cond_true, Nat.reduceEqDiff, reduceIte, List.take_succ_cons, List.take_zero, List.drop_succ_cons, List.drop_zero, List.reverse_cons, List.reverse_nil, Nat.reduceLeDiff, Nat.le_refl, true_and, and_true, Option.toList_some, Option.toList_none, Int.reduceToNat, Nat.zero_le, Int.reduceNatCast, Int.reduceNatCast', true_or, or_true, false_or, or_false, false_and, and_false, Int.reduceEq, Int.reduceLT, Int.reduceLE, Int.reduceNeg, imp_self, not_true, not_false_eq_true, false_implies, true_implies, implies_true, Int.reduceAdd, Int.reduceSub, Int.reduceMul, Int.reduceDiv, Int.reduceMod, stM_eq, cpM_eq, sR_eq, sR_sR, sh_0, sh_1, sh_2, sh_3, sh_4, sh_5, sh_6, sh_7, sh_8, sh_9, sh_10, sh_11, sh_st1, sh_st2, inR, Int.le_refl, t_181, u1_eq, u1_ne, sR_ne, hs]; repeat' first | (apply And.intro; focus omega) | with_reducible intro _)
           (repeat' first | (apply And.intro; focus omega) | apply And.intro | with_reducible intro _) <;> first
             | exact ih (i + 1) (a + 1) (by omega) (by omega) (by omega) hQ
             | (exfalso; omega)
             | contradiction
         · rw [if_neg hb, Int.add_zero] at hQ
           (simp (disch := omega) only [vc_s, sel_t, sel_f, vc_1, mn_0, mn_s, e_kc, e_lg0, e_lgs, e_ls0, e_lss, e_lc0, e_lcs, e_ls2, e_nlg0, e_nlgI, e_nvI, e_nvR, e_nvN, e_nv0, e_xI, e_xR, e_xN, e_xL, si_iload, si_iload_n, si_aload, si_aload_n, si_lload, si_lload_n, si_iconst, si_bipush, si_sipush, si_ldc, si_ldc2_w, si_aconst_null, si_istore, si_istore_n, si_astore, si_astore_n, si_astoreN, si_astore_nN, si_lstore, si_lstore_n, e_xInc, si_iinc, si_dupI, si_dupR, si_popI, si_popR, si_dup2, si_iadd, si_isub, si_imul, si_idiv, si_irem, si_ineg, si_i2c, si_i2l, si_ladd, si_lmul, si_goto, si_zeq, si_zne, si_zlt, si_zge, si_zgt, si_zle, si_ceq, si_cne, si_clt, si_cge, si_cgt, si_cle, si_ifnull, si_ifnullN, e_ts0, e_tss, si_tableswitch, si_getfield, e_gf, e_f0, e_fr, e_fs, si_putfield, e_pf, e_p0, e_ps, si_getstatic, si_arraylength, e_al, si_iaload, e_ia0, e_ia3, si_caload, e_ca, si_aaload, e_aa, si_iastore, e_is, si_castore, e_cs, e_rcv, e_rcS, si_invokevirtual, e_cp, si_invokestatic, e_sv, e_smax, e_smin, e_scp, si_ireturn, si_lreturn, si_areturn, si_areturnN, si_return_, mkL, List.map_cons, List.map_nil, List.length_cons, List.length_nil, Nat.reduceAdd, Nat.reduceSub, List.reduceReplicate, List.cons_append, List.nil_append, List.append_nil, Nat.reduceBEq, Bool.or_false, Bool.false_or, Bool.or_true, Bool.true_or, cond_false, cond_true, Nat.reduceEqDiff, reduceIte, List.take_succ_cons, List.take_zero, List.drop_succ_cons, List.drop_zero, List.reverse_cons, List.reverse_nil, Nat.reduceLeDiff, Nat.le_refl, true_and, and_true, Option.toList_some, Option.toList_none, Int.reduceToNat, Nat.zero_le, Int.reduceNatCast, Int.reduceNatCast', true_or, or_true, false_or, or_false, false_and, and_false, Int.reduceEq, Int.reduceLT, Int.reduceLE, Int.reduceNeg, imp_self, not_true, not_false_eq_true, false_implies, true_implies, implies_true, Int.reduceAdd, Int.reduceSub, Int.reduceMul, Int.reduceDiv, Int.reduceMod, stM_eq, cpM_eq, sR_eq, sR_sR, sh_0, sh_1, sh_2, sh_3, sh_4, sh_5, sh_6, sh_7, sh_8, sh_9, sh_10, sh_11, sh_st1, sh_st2, inR, Int.le_refl, t_181, u1_eq, u1_ne, sR_ne, hs]; repeat' first | (apply And.intro; focus omega) | with_reducible intro _)
           (repeat' first | (apply And.intro; focus omega) | apply And.intro | with_reducible intro _) <;> first
             | exact ih (i + 1) a (by omega) (by omega) (by omega) hQ
             | (exfalso; omega))
theorem x_count {μ : Mem} {T : Rw} {m : Int} {Q : PQ} (h : tX μ T m) (hQ : Q (some (aI (1 + cn T m.toNat 0))) μ) : wpM 181 [aR 3] μ Q := by
  have hm := h.1
  refine wo_181 [4] 60 rfl (Nat.le_of_ble_eq_true rfl) (fun hw => ?_)
  (simp (disch := omega) only [vc_s, sel_t, sel_f, vc_1, mn_0, mn_s, e_kc, e_lg0, e_lgs, e_ls0, e_lss, e_lc0, e_lcs, e_ls2, e_nlg0, e_nlgI, e_nvI, e_nvR, e_nvN, e_nv0, e_xI, e_xR, e_xN, e_xL, si_iload, si_iload_n, si_aload, si_aload_n, si_lload, si_lload_n, si_iconst, si_bipush, si_sipush, si_ldc, si_ldc2_w, si_aconst_null, si_istore, si_istore_n, si_astore, si_astore_n, si_astoreN, si_astore_nN, si_lstore, si_lstore_n, e_xInc, si_iinc, si_dupI, si_dupR, si_popI, si_popR, si_dup2, si_iadd, si_isub, si_imul, si_idiv, si_irem, si_ineg, si_i2c, si_i2l, si_ladd, si_lmul, si_goto, si_zeq, si_zne, si_zlt, si_zge, si_zgt, si_zle, si_ceq, si_cne, si_clt, si_cge, si_cgt, si_cle, si_ifnull, si_ifnullN, e_ts0, e_tss, si_tableswitch, si_getfield, e_gf, e_f0, e_fr, e_fs, si_putfield, e_pf, e_p0, e_ps, si_getstatic, si_arraylength, e_al, si_iaload, e_ia0, e_ia3, si_caload, e_ca, si_aaload, e_aa, si_iastore, e_is, si_castore, e_cs, e_rcv, e_rcS, si_invokevirtual, e_cp, si_invokestatic, e_sv, e_smax, e_smin, e_scp, si_ireturn, si_lreturn, si_areturn, si_areturnN, si_return_, mkL, List.map_cons, List.map_nil, List.length_cons, List.length_nil, Nat.reduceAdd, Nat.reduceSub, List.reduceReplicate, List.cons_append, List.nil_append, List.append_nil, Nat.reduceBEq, Bool.or_false, Bool.false_or, Bool.or_true, Bool.true_or, cond_false, cond_true, Nat.reduceEqDiff, reduceIte, List.take_succ_cons, List.take_zero, List.drop_succ_cons, List.drop_zero, List.reverse_cons, List.reverse_nil, Nat.reduceLeDiff, Nat.le_refl, true_and, and_true, Option.toList_some, Option.toList_none, Int.reduceToNat, Nat.zero_le, Int.reduceNatCast, Int.reduceNatCast', true_or, or_true, false_or, or_false, false_and, and_false, Int.reduceEq, Int.reduceLT, Int.reduceLE, Int.reduceNeg, imp_self, not_true, not_false_eq_true, false_implies, true_implies, implies_true, Int.reduceAdd, Int.reduceSub, Int.reduceMul, Int.reduceDiv, Int.reduceMod, stM_eq, cpM_eq, sR_eq, sR_sR, sh_0, sh_1, sh_2, sh_3, sh_4, sh_5, sh_6, sh_7, sh_8, sh_9, sh_10, sh_11, sh_st1, sh_st2, inR, Int.le_refl, t_181, u1_eq, u1_ne, sR_ne, hs]; repeat' first | (apply And.intro; focus omega) | with_reducible intro _)
  exact xlp_count h m.toNat 0 1 (by omega) (by omega) (by omega) hQ
def CN (T : Rw) (n i : Int) : Int := cn T (n - i).toNat i
theorem CN_n {T : Rw} {n : Int} : CN T n n = 0 := by
  unfold CN
  rw [show (n - n).toNat = 0 by omega]
  rfl
theorem CN_s {T : Rw} {n i : Int} (h : i < n) : CN T n i = (if T i = 32 then 1 else 0) + CN T n (i + 1) := by
  unfold CN
  rw [show (n - i).toNat = (n - (i + 1)).toNat + 1 by omega]
  rfl
theorem CN_k {T : Rw} {n : Int} : ∀ (k : Nat) (p q : Int), p + k = q → q ≤ n → (∀ i, p ≤ i → i < q → T i ≠ 32) → CN T n p = CN T n q
  | 0, p, q, h, hq, hn => by rw [show p = q by omega]
  | k + 1, p, q, h, hq, hn => by
    rw [CN_s (by omega), if_neg (hn p (by omega) (by omega)), Int.zero_add]
    exact CN_k k (p + 1) q (by omega) hq (fun i h1 h2 => hn i (by omega) h2)
theorem pts_len {T : Rw} {n : Int} : ∀ (f : Nat) (p : Int) (acc : List Int), p ≤ n → (rdT T n f p acc).1 = true → ((pts T n f p).length : Int) = 1 + CN T n p
  | 0, p, acc, hp, h => by simp [rdT] at h
  | f + 1, p, acc, hp, h => by
    unfold rdT at h
    unfold pts
    by_cases h1 : (rdP T n p).1 = true
    · rw [if_pos h1] at h
      obtain ⟨in1, in2, _⟩ := rdP_in h1
      have hr := (rdP_rng T n p hp).2.2 h1
      rw [CN_k ((rdP T n p).2.1 - p).toNat p (rdP T n p).2.1 (by omega) (by omega) in1]
      by_cases h2 : nx T n (rdP T n p).2.1 = 32
      · rw [if_pos h2] at h ⊢
        obtain ⟨hlt, he⟩ := nx_lt (T := T) (n := n) (p := (rdP T n p).2.1) (by omega)
        rw [CN_s hlt, if_pos (by omega), ← pts_len f _ _ (by omega) h, List.length_cons]
        omega
      · rw [if_neg h2] at h ⊢
        have : (rdP T n p).2.1 = n := by simpa using h
        rw [this, CN_n]
        rfl
    · rw [if_neg h1] at h
      simp at h
theorem tX_fr {μ μ' : Mem} {T : Rw} {m : Int} (h : tX μ T m) (h3 : μ' 3 = μ 3) (h4 : μ' 4 = μ 4) : tX μ' T m := by
  unfold tX at *
  rw [h3, h4]
  exact h
theorem klp_play {Q : PQ} {J : Nat → Rw → Prop} (hJk : ∀ k v, J k v → pK v) {T v0 : Rw} {m : Int} {ps : List Int} (hl : ps.length ≤ 60) (hJs : ∀ k v x, k < 60 → J k v → x ∈ ps → ¬ ptE v x → J (k + 1) (ptF v x)) {μ0 : Mem} (hX : tX μ0 T m) (hB : rG 25 μ0 v0) (hB1 : 0 ≤ v0 10 ∧ μ0 (25 + 11) 1 ≤ 3417)
    (hf : ∀ k : Nat, (plyL v0 ps 0).1 = some k → ∀ μ', oG 12 μ0 μ' → rG 12 μ' v0 → Q (some (aI (-1000 - k))) μ')
    (hsu : (plyL v0 ps 0).1 = none → ∀ μ', oG 12 μ0 μ' → rG 12 μ' (plyL v0 ps 0).2 → ∀ x : Int, AW 116 Q 91 [some (aR 0), some (aI (-1)), some (aI ps.length), some (aI x), some (aI ps.length)] [] μ') :
    ∀ (f : Nat) (p : Int) (k : Nat) (w : Rw) (μ : Mem), (∃ acc, (rdT T m f p acc).1 = true) → 0 ≤ p → p ≤ m → J k w → plyL v0 ps 0 = plyL w (pts T m f p) k → (∀ x ∈ pts T m f p, x ∈ ps) → k + (pts T m f p).length = ps.length → oG 12 μ0 μ → rG 12 μ w → AW 116 Q 42 [some (aR 0), some (aI (-1)), some (aI ps.length), some (aI p), some (aI k)] [] μ := by
  intro f
  induction f with
  | zero =>
    intro p k w μ hr h0 hpm hJ heq hin hlen ho hG
    obtain ⟨acc, hr⟩ := hr
    simp [rdT] at hr
  | succ f ih =>
    intro p k w μ hr h0 hpm hJ heq hin hlen ho hG
    obtain ⟨acc, hr⟩ := hr
    have hm := hX.1
    have hX1 : tX μ T m := tX_fr hX (ho 3 (by omega)) (ho 4 (by omega))
    unfold rdT at hr
    by_cases hP : (rdP T m p).1 = true
    · rw [if_pos hP] at hr
      have hrng := rdP_rng T m p hpm
      obtain ⟨_, _, hrng⟩ := hrng
      obtain ⟨r1, r2, r3, r4⟩ := hrng hP
      obtain ⟨in1, in2, in3⟩ := rdP_in hP
      unfold pts at heq hin hlen
      have hnd : ¬ (48 ≤ nx T m (rdP T m p).2.1 ∧ nx T m (rdP T m p).2.1 ≤ 57) := by
        by_cases h32 : nx T m (rdP T m p).2.1 = 32
        · omega
        · rw [if_neg h32] at hr
          have : (rdP T m p).2.1 = m := by simpa using hr
          unfold nx
          rw [if_neg (by omega)]; omega
      have he32 : (rdP T m p).2.1 < m → T (rdP T m p).2.1 = 32 := by
        intro z
        by_cases h32 : nx T m (rdP T m p).2.1 = 32
        · rw [nx_t z] at h32; exact h32
        · rw [if_neg h32] at hr
          have : (rdP T m p).2.1 = m := by simpa using hr
          omega
      have hk60 : (k : Int) < 60 ∧ (k : Int) < ps.length := by
        simp only [List.length_cons] at hlen
        omega
      refine vc1_snd ok_116 (stop := [42, 91]) 90 ?_
      (simp (disch := omega) only [vc_s, sel_t, sel_f, vc_1, mn_0, mn_s, e_kc, e_lg0, e_lgs, e_ls0, e_lss, e_lc0, e_lcs, e_ls2, e_nlg0, e_nlgI, e_nvI, e_nvR, e_nvN, e_nv0, e_xI, e_xR, e_xN, e_xL, si_iload, si_iload_n, si_aload, si_aload_n, si_lload, si_lload_n, si_iconst, si_bipush, si_sipush, si_ldc, si_ldc2_w, si_aconst_null, si_istore, si_istore_n, si_astore, si_astore_n, si_astoreN, si_astore_nN, si_lstore, si_lstore_n, e_xInc, si_iinc, si_dupI, si_dupR, si_popI, si_popR, si_dup2, si_iadd, si_isub, si_imul, si_idiv, si_irem, si_ineg, si_i2c, si_i2l, si_ladd, si_lmul, si_goto, si_zeq, si_zne, si_zlt, si_zge, si_zgt, si_zle, si_ceq, si_cne, si_clt, si_cge, si_cgt, si_cle, si_ifnull, si_ifnullN, e_ts0, e_tss, si_tableswitch, si_getfield, e_gf, e_f0, e_fr, e_fs, si_putfield, e_pf, e_p0, e_ps, si_getstatic, si_arraylength, e_al, si_iaload, e_ia0, e_ia3, si_caload, e_ca, si_aaload, e_aa, si_iastore, e_is, si_castore, e_cs, e_rcv, e_rcS, si_invokevirtual, e_cp, si_invokestatic, e_sv, e_smax, e_smin, e_scp, si_ireturn, si_lreturn, si_areturn, si_areturnN, si_return_, mkL, List.map_cons, List.map_nil, List.length_cons, List.length_nil, Nat.reduceAdd, Nat.reduceSub, List.reduceReplicate, List.cons_append, List.nil_append, List.append_nil, Nat.reduceBEq, Bool.or_false, Bool.false_or, Bool.or_true, Bool.true_or, cond_false, cond_true, Nat.reduceEqDiff, reduceIte, List.take_succ_cons, List.take_zero, List.drop_succ_cons, List.drop_zero, List.reverse_cons, List.reverse_nil, Nat.reduceLeDiff, Nat.le_refl, true_and, and_true, Option.toList_some, Option.toList_none, Int.reduceToNat, Nat.zero_le, Int.reduceNatCast, Int.reduceNatCast', true_or, or_true, false_or, or_false, false_and, and_false, Int.reduceEq, Int.reduceLT, Int.reduceLE, Int.reduceNeg, imp_self, not_true, not_false_eq_true, false_implies, true_implies, implies_true, Int.reduceAdd, Int.reduceSub, Int.reduceMul, Int.reduceDiv, Int.reduceMod, stM_eq, cpM_eq, sR_eq, sR_sR, sh_0, sh_1, sh_2, sh_3, sh_4, sh_5, sh_6, sh_7, sh_8, sh_9, sh_10, sh_11, sh_st1, sh_st2, inR, Int.le_refl, t_116, u1_eq, u1_ne, sR_ne, hs]; repeat' first | (apply And.intro; focus omega) | with_reducible intro _)
      (repeat' first | (apply And.intro; focus omega) | apply And.intro | with_reducible intro _) <;> first
        | (exfalso; omega)
        | (refine tp_part hX1 h0 hP hnd hG (hJk k w hJ) (fun hE e he => ?_) (fun hE μ2 o2 G2 => ?_)
           · have hply : (plyL v0 ps 0).1 = some k := by rw [heq, plyL_f hE]
             (simp (disch := omega) only [vc_s, sel_t, sel_f, vc_1, mn_0, mn_s, e_kc, e_lg0, e_lgs, e_ls0, e_lss, e_lc0, e_lcs, e_ls2, e_nlg0, e_nlgI, e_nvI, e_nvR, e_nvN, e_nv0, e_xI, e_xR, e_xN, e_xL, si_iload, si_iload_n, si_aload, si_aload_n, si_lload, si_lload_n, si_iconst, si_bipush, si_sipush, si_ldc, si_ldc2_w, si_aconst_null, si_istore, si_istore_n, si_astore, si_astore_n, si_astoreN, si_astore_nN, si_lstore, si_lstore_n, e_xInc, si_iinc, si_dupI, si_dupR, si_popI, si_popR, si_dup2, si_iadd, si_isub, si_imul, si_idiv, si_irem, si_ineg, si_i2c, si_i2l, si_ladd, si_lmul, si_goto, si_zeq, si_zne, si_zlt, si_zge, si_zgt, si_zle, si_ceq, si_cne, si_clt, si_cge, si_cgt, si_cle, si_ifnull, si_ifnullN, e_ts0, e_tss, si_tableswitch, si_getfield, e_gf, e_f0, e_fr, e_fs, si_putfield, e_pf, e_p0, e_ps, si_getstatic, si_arraylength, e_al, si_iaload, e_ia0, e_ia3, si_caload, e_ca, si_aaload, e_aa, si_iastore, e_is, si_castore, e_cs, e_rcv, e_rcS, si_invokevirtual, e_cp, si_invokestatic, e_sv, e_smax, e_smin, e_scp, si_ireturn, si_lreturn, si_areturn, si_areturnN, si_return_, mkL, List.map_cons, List.map_nil, List.length_cons, List.length_nil, Nat.reduceAdd, Nat.reduceSub, List.reduceReplicate, List.cons_append, List.nil_append, List.append_nil, Nat.reduceBEq, Bool.or_false, Bool.false_or, Bool.or_true, Bool.true_or, cond_false, cond_true, Nat.reduceEqDiff, reduceIte, List.take_succ_cons, List.take_zero, List.drop_succ_cons, List.drop_zero, List.reverse_cons, List.reverse_nil, Nat.reduceLeDiff, Nat.le_refl, true_and, and_true, Option.toList_some, Option.toList_none, Int.reduceToNat, Nat.zero_le, Int.reduceNatCast, Int.reduceNatCast', true_or, or_true, false_or, or_false, false_and, and_false, Int.reduceEq, Int.reduceLT, Int.reduceLE, Int.reduceNeg, imp_self, not_true, not_false_eq_true, false_implies, true_implies, implies_true, Int.reduceAdd, Int.reduceSub, Int.reduceMul, Int.reduceDiv, Int.reduceMod, stM_eq, cpM_eq, sR_eq, sR_sR, sh_0, sh_1, sh_2, sh_3, sh_4, sh_5, sh_6, sh_7, sh_8, sh_9, sh_10, sh_11, sh_st1, sh_st2, inR, Int.le_refl, t_116, u1_eq, u1_ne, sR_ne, hs, sh_12]; repeat' first | (apply And.intro; focus omega) | with_reducible intro _)
             (repeat' first | (apply And.intro; focus omega) | apply And.intro | with_reducible intro _) <;> first
               | (exact absurd (by assumption) he)
               | (refine k_gCopy gm_12 gm_25 (by omega) (rG_fr hB (fun a g1 g2 => ho a (by omega))) hB1.1 (by rw [ho (25 + 11) (by omega)]; exact hB1.2) (fun μ3 o3 r3 => ?_)
                  (simp (disch := omega) only [vc_s, sel_t, sel_f, vc_1, mn_0, mn_s, e_kc, e_lg0, e_lgs, e_ls0, e_lss, e_lc0, e_lcs, e_ls2, e_nlg0, e_nlgI, e_nvI, e_nvR, e_nvN, e_nv0, e_xI, e_xR, e_xN, e_xL, si_iload, si_iload_n, si_aload, si_aload_n, si_lload, si_lload_n, si_iconst, si_bipush, si_sipush, si_ldc, si_ldc2_w, si_aconst_null, si_istore, si_istore_n, si_astore, si_astore_n, si_astoreN, si_astore_nN, si_lstore, si_lstore_n, e_xInc, si_iinc, si_dupI, si_dupR, si_popI, si_popR, si_dup2, si_iadd, si_isub, si_imul, si_idiv, si_irem, si_ineg, si_i2c, si_i2l, si_ladd, si_lmul, si_goto, si_zeq, si_zne, si_zlt, si_zge, si_zgt, si_zle, si_ceq, si_cne, si_clt, si_cge, si_cgt, si_cle, si_ifnull, si_ifnullN, e_ts0, e_tss, si_tableswitch, si_getfield, e_gf, e_f0, e_fr, e_fs, si_putfield, e_pf, e_p0, e_ps, si_getstatic, si_arraylength, e_al, si_iaload, e_ia0, e_ia3, si_caload, e_ca, si_aaload, e_aa, si_iastore, e_is, si_castore, e_cs, e_rcv, e_rcS, si_invokevirtual, e_cp, si_invokestatic, e_sv, e_smax, e_smin, e_scp, si_ireturn, si_lreturn, si_areturn, si_areturnN, si_return_, mkL, List.map_cons, List.map_nil, List.length_cons, List.length_nil, Nat.reduceAdd, Nat.reduceSub, List.reduceReplicate, List.cons_append, List.nil_append, List.append_nil, Nat.reduceBEq, Bool.or_false, Bool.false_or, Bool.or_true, Bool.true_or, cond_false, cond_true, Nat.reduceEqDiff, reduceIte, List.take_succ_cons, List.take_zero, List.drop_succ_cons, List.drop_zero, List.reverse_cons, List.reverse_nil, Nat.reduceLeDiff, Nat.le_refl, true_and, and_true, Option.toList_some, Option.toList_none, Int.reduceToNat, Nat.zero_le, Int.reduceNatCast, Int.reduceNatCast', true_or, or_true, false_or, or_false, false_and, and_false, Int.reduceEq, Int.reduceLT, Int.reduceLE, Int.reduceNeg, imp_self, not_true, not_false_eq_true, false_implies, true_implies, implies_true, Int.reduceAdd, Int.reduceSub, Int.reduceMul, Int.reduceDiv, Int.reduceMod, stM_eq, cpM_eq, sR_eq, sR_sR, sh_0, sh_1, sh_2, sh_3, sh_4, sh_5, sh_6, sh_7, sh_8, sh_9, sh_10, sh_11, sh_st1, sh_st2, inR, Int.le_refl, t_116, u1_eq, u1_ne, sR_ne, hs]; repeat' first | (apply And.intro; focus omega) | with_reducible intro _)
                  exact hf k hply μ3 (ho.tr o3) r3)
           · have hx : (rdP T m p).2.2 ∈ ps := hin _ List.mem_cons_self
             have hJ2 := hJs k w _ (by omega) hJ hx hE
             have heq2 := heq
             rw [plyL_s hE] at heq2
             have ho2 := ho.tr o2
             have hX2 : tX μ2 T m := tX_fr hX (ho2 3 (by omega)) (ho2 4 (by omega))
             (simp (disch := omega) only [vc_s, sel_t, sel_f, vc_1, mn_0, mn_s, e_kc, e_lg0, e_lgs, e_ls0, e_lss, e_lc0, e_lcs, e_ls2, e_nlg0, e_nlgI, e_nvI, e_nvR, e_nvN, e_nv0, e_xI, e_xR, e_xN, e_xL, si_iload, si_iload_n, si_aload, si_aload_n, si_lload, si_lload_n, si_iconst, si_bipush, si_sipush, si_ldc, si_ldc2_w, si_aconst_null, si_istore, si_istore_n, si_astore, si_astore_n, si_astoreN, si_astore_nN, si_lstore, si_lstore_n, e_xInc, si_iinc, si_dupI, si_dupR, si_popI, si_popR, si_dup2, si_iadd, si_isub, si_imul, si_idiv, si_irem, si_ineg, si_i2c, si_i2l, si_ladd, si_lmul, si_goto, si_zeq, si_zne, si_zlt, si_zge, si_zgt, si_zle, si_ceq, si_cne, si_clt, si_cge, si_cgt, si_cle, si_ifnull, si_ifnullN, e_ts0, e_tss, si_tableswitch, si_getfield, e_gf, e_f0, e_fr, e_fs, si_putfield, e_pf, e_p0, e_ps, si_getstatic, si_arraylength, e_al, si_iaload, e_ia0, e_ia3, si_caload, e_ca, si_aaload, e_aa, si_iastore, e_is, si_castore, e_cs, e_rcv, e_rcS, si_invokevirtual, e_cp, si_invokestatic, e_sv, e_smax, e_smin, e_scp, si_ireturn, si_lreturn, si_areturn, si_areturnN, si_return_, mkL, List.map_cons, List.map_nil, List.length_cons, List.length_nil, Nat.reduceAdd, Nat.reduceSub, List.reduceReplicate, List.cons_append, List.nil_append, List.append_nil, Nat.reduceBEq, Bool.or_false, Bool.false_or, Bool.or_true, Bool.true_or, cond_false, cond_true, Nat.reduceEqDiff, reduceIte, List.take_succ_cons, List.take_zero, List.drop_succ_cons, List.drop_zero, List.reverse_cons, List.reverse_nil, Nat.reduceLeDiff, Nat.le_refl, true_and, and_true, Option.toList_some, Option.toList_none, Int.reduceToNat, Nat.zero_le, Int.reduceNatCast, Int.reduceNatCast', true_or, or_true, false_or, or_false, false_and, and_false, Int.reduceEq, Int.reduceLT, Int.reduceLE, Int.reduceNeg, imp_self, not_true, not_false_eq_true, false_implies, true_implies, implies_true, Int.reduceAdd, Int.reduceSub, Int.reduceMul, Int.reduceDiv, Int.reduceMod, stM_eq, cpM_eq, sR_eq, sR_sR, sh_0, sh_1, sh_2, sh_3, sh_4, sh_5, sh_6, sh_7, sh_8, sh_9, sh_10, sh_11, sh_st1, sh_st2, inR, Int.le_refl, t_116, u1_eq, u1_ne, sR_ne, hs]; repeat' first | (apply And.intro; focus omega) | with_reducible intro _)
             refine x_eop hX2 h0 (by omega) r2 in1 he32 ?_
             (simp (disch := omega) only [vc_s, sel_t, sel_f, vc_1, mn_0, mn_s, e_kc, e_lg0, e_lgs, e_ls0, e_lss, e_lc0, e_lcs, e_ls2, e_nlg0, e_nlgI, e_nvI, e_nvR, e_nvN, e_nv0, e_xI, e_xR, e_xN, e_xL, si_iload, si_iload_n, si_aload, si_aload_n, si_lload, si_lload_n, si_iconst, si_bipush, si_sipush, si_ldc, si_ldc2_w, si_aconst_null, si_istore, si_istore_n, si_astore, si_astore_n, si_astoreN, si_astore_nN, si_lstore, si_lstore_n, e_xInc, si_iinc, si_dupI, si_dupR, si_popI, si_popR, si_dup2, si_iadd, si_isub, si_imul, si_idiv, si_irem, si_ineg, si_i2c, si_i2l, si_ladd, si_lmul, si_goto, si_zeq, si_zne, si_zlt, si_zge, si_zgt, si_zle, si_ceq, si_cne, si_clt, si_cge, si_cgt, si_cle, si_ifnull, si_ifnullN, e_ts0, e_tss, si_tableswitch, si_getfield, e_gf, e_f0, e_fr, e_fs, si_putfield, e_pf, e_p0, e_ps, si_getstatic, si_arraylength, e_al, si_iaload, e_ia0, e_ia3, si_caload, e_ca, si_aaload, e_aa, si_iastore, e_is, si_castore, e_cs, e_rcv, e_rcS, si_invokevirtual, e_cp, si_invokestatic, e_sv, e_smax, e_smin, e_scp, si_ireturn, si_lreturn, si_areturn, si_areturnN, si_return_, mkL, List.map_cons, List.map_nil, List.length_cons, List.length_nil, Nat.reduceAdd, Nat.reduceSub, List.reduceReplicate, List.cons_append, List.nil_append, List.append_nil, Nat.reduceBEq, Bool.or_false, Bool.false_or, Bool.or_true, Bool.true_or, cond_false, cond_true, Nat.reduceEqDiff, reduceIte, List.take_succ_cons, List.take_zero, List.drop_succ_cons, List.drop_zero, List.reverse_cons, List.reverse_nil, Nat.reduceLeDiff, Nat.le_refl, true_and, and_true, Option.toList_some, Option.toList_none, Int.reduceToNat, Nat.zero_le, Int.reduceNatCast, Int.reduceNatCast', true_or, or_true, false_or, or_false, false_and, and_false, Int.reduceEq, Int.reduceLT, Int.reduceLE, Int.reduceNeg, imp_self, not_true, not_false_eq_true, false_implies, true_implies, implies_true, Int.reduceAdd, Int.reduceSub, Int.reduceMul, Int.reduceDiv, Int.reduceMod, stM_eq, cpM_eq, sR_eq, sR_sR, sh_0, sh_1, sh_2, sh_3, sh_4, sh_5, sh_6, sh_7, sh_8, sh_9, sh_10, sh_11, sh_st1, sh_st2, inR, Int.le_refl, t_116, u1_eq, u1_ne, sR_ne, hs]; repeat' first | (apply And.intro; focus omega) | with_reducible intro _)
             by_cases h32 : nx T m (rdP T m p).2.1 = 32
             · rw [if_pos h32] at hr heq2 hin hlen
               obtain ⟨hlt, _⟩ := nx_lt (T := T) (n := m) (p := (rdP T m p).2.1) (by omega)
               simp only [List.length_cons] at hlen
               exact ih ((rdP T m p).2.1 + 1) (k + 1) _ μ2 ⟨_, hr⟩ (by omega) (by omega) hJ2 heq2 (fun x hx => hin x (List.mem_cons_of_mem _ hx)) (by omega) ho2 G2
             · rw [if_neg h32] at hr heq2 hlen
               have hqm : (rdP T m p).2.1 = m := by simpa using hr
               simp only [List.length_cons, List.length_nil] at hlen
               have ek : (k : Int) + 1 = ps.length := by omega
               rw [ek]
               refine vc1_snd ok_116 (stop := [91]) 90 ?_
               (simp (disch := omega) only [vc_s, sel_t, sel_f, vc_1, mn_0, mn_s, e_kc, e_lg0, e_lgs, e_ls0, e_lss, e_lc0, e_lcs, e_ls2, e_nlg0, e_nlgI, e_nvI, e_nvR, e_nvN, e_nv0, e_xI, e_xR, e_xN, e_xL, si_iload, si_iload_n, si_aload, si_aload_n, si_lload, si_lload_n, si_iconst, si_bipush, si_sipush, si_ldc, si_ldc2_w, si_aconst_null, si_istore, si_istore_n, si_astore, si_astore_n, si_astoreN, si_astore_nN, si_lstore, si_lstore_n, e_xInc, si_iinc, si_dupI, si_dupR, si_popI, si_popR, si_dup2, si_iadd, si_isub, si_imul, si_idiv, si_irem, si_ineg, si_i2c, si_i2l, si_ladd, si_lmul, si_goto, si_zeq, si_zne, si_zlt, si_zge, si_zgt, si_zle, si_ceq, si_cne, si_clt, si_cge, si_cgt, si_cle, si_ifnull, si_ifnullN, e_ts0, e_tss, si_tableswitch, si_getfield, e_gf, e_f0, e_fr, e_fs, si_putfield, e_pf, e_p0, e_ps, si_getstatic, si_arraylength, e_al, si_iaload, e_ia0, e_ia3, si_caload, e_ca, si_aaload, e_aa, si_iastore, e_is, si_castore, e_cs, e_rcv, e_rcS, si_invokevirtual, e_cp, si_invokestatic, e_sv, e_smax, e_smin, e_scp, si_ireturn, si_lreturn, si_areturn, si_areturnN, si_return_, mkL, List.map_cons, List.map_nil, List.length_cons, List.length_nil, Nat.reduceAdd, Nat.reduceSub, List.reduceReplicate, List.cons_append, List.nil_append, List.append_nil, Nat.reduceBEq, Bool.or_false, Bool.false_or, Bool.or_true, Bool.true_or, cond_false, cond_true, Nat.reduceEqDiff, reduceIte, List.take_succ_cons, List.take_zero, List.drop_succ_cons, List.drop_zero, List.reverse_cons, List.reverse_nil, Nat.reduceLeDiff, Nat.le_refl, true_and, and_true, Option.toList_some, Option.toList_none, Int.reduceToNat, Nat.zero_le, Int.reduceNatCast, Int.reduceNatCast', true_or, or_true, false_or, or_false, false_and, and_false, Int.reduceEq, Int.reduceLT, Int.reduceLE, Int.reduceNeg, imp_self, not_true, not_false_eq_true, false_implies, true_implies, implies_true, Int.reduceAdd, Int.reduceSub, Int.reduceMul, Int.reduceDiv, Int.reduceMod, stM_eq, cpM_eq, sR_eq, sR_sR, sh_0, sh_1, sh_2, sh_3, sh_4, sh_5, sh_6, sh_7, sh_8, sh_9, sh_10, sh_11, sh_st1, sh_st2, inR, Int.le_refl, t_116, u1_eq, u1_ne, sR_ne, hs]; repeat' first | (apply And.intro; focus omega) | with_reducible intro _)
               have hn1 : (plyL v0 ps 0).1 = none := by rw [heq2]; rfl
               have hn2 : (plyL v0 ps 0).2 = ptF w (rdP T m p).2.2 := by rw [heq2]; rfl
               rw [hn2] at hsu
               have := hsu hn1 μ2 ho2 G2 ((rdP T m p).2.1 + 1)
               (repeat' first | (apply And.intro; focus omega) | apply And.intro | with_reducible intro _) <;> first | (exfalso; omega) | exact this)
    · rw [if_neg hP] at hr
      simp at hr
