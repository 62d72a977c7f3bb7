theorem wrF_cm {v : Rw} {k a c d t i x : Int} (h0 : 0 ≤ v 11) (hi : i < 1090 ∧ i ≠ 11) : wrF (u1 v i x) k a c d t = u1 (wrF v k a c d t) i x := by
  unfold wrF
  rw [u1_ne (i := i) (by omega)]
  funext j
  unfold u1
  by_cases hj : j = i
  · subst hj
    (repeat' split) <;> first | rfl | omega
  · simp only [if_neg hj]
theorem wrF_cg {v w : Rw} {k a c d t j : Int} (h : w 11 = v 11) (hj : w j = v j) : wrF w k a c d t j = wrF v k a c d t j := by
  unfold wrF u1
  rw [h, hj]
theorem u1_cg {f g : Rw} {i x j : Int} (h : f j = g j) : u1 f i x j = u1 g i x j := by
  unfold u1
  rw [h]
theorem unF_o {w : Rw} (hI : uI w) {j : Int} (hj : j ≠ 10 ∧ ¬ (20 ≤ j ∧ j < 56) ∧ ¬ (56 ≤ j ∧ j < 80)) : unF w j = w j := by
  obtain ⟨h10, h4, hf, ht, _⟩ := hI
  unfold unF un5 un4 un3 un2 un1 hs
  simp (disch := omega) only [u1_ne]
theorem unF_cg {v w : Rw} {P : Int → Prop} (hI : uI v) (hP : ∀ i, (i = 10 ∨ 20 ≤ i) → i < 1085 → P i) (h : ∀ i, P i → w i = v i) {j : Int} (hj : w j = v j) : unF w j = unF v j := by
  obtain ⟨h10, h4, hf, ht, _⟩ := hI
  have e10 : w 10 = v 10 := h _ (hP _ (by omega) (by omega))
  have eK : unK w = unK v := by unfold unK; rw [e10]
  have hK : 80 ≤ unK v ∧ unK v + 5 ≤ 1080 := by unfold unK; omega
  unfold unF un5 un4 un3 un2 un1
  rw [eK, h _ (hP (unK v + 4) (by omega) (by omega)), h _ (hP (unK v + 3) (by omega) (by omega)), h _ (hP (unK v + 2) (by omega) (by omega)), h _ (hP (unK v + 1) (by omega) (by omega)), h _ (hP (unK v) (by omega) (by omega))]
  rw [h (hs (v (unK v + 4)) 0) (hP _ (by unfold hs; omega) (by unfold hs; omega)), h (hs (v (unK v + 4)) 3) (hP _ (by unfold hs; omega) (by unfold hs; omega)), h (hs (v (unK v + 4)) 4) (hP _ (by unfold hs; omega) (by unfold hs; omega)), e10]
  exact u1_cg (u1_cg (u1_cg (u1_cg (u1_cg (u1_cg hj)))))
theorem unF_wr {v : Rw} {k a c d t : Int} (hI : uI v) (h0 : 0 ≤ v 11) : unF (wrF v k a c d t) = wrF (unF v) k a c d t := by
  have o11 : unF v 11 = v 11 := unF_o hI (by omega)
  funext j
  by_cases hj : j < 1090 ∧ j ≠ 11
  · rw [wrF_lo (by omega) hj]
    exact unF_cg hI (P := fun i => i < 1090 ∧ i ≠ 11) (fun i h1 h2 => by omega) (fun i hi => wrF_lo h0 hi) (wrF_lo h0 hj)
  · have hIw : uI (wrF v k a c d t) := by
      have lo : ∀ i, i < 1090 ∧ i ≠ 11 → wrF v k a c d t i = v i := fun i hi => wrF_lo h0 hi
      obtain ⟨h10, h4, hf, ht, h3, hc, ha, hm⟩ := hI
      have eK : unK (wrF v k a c d t) = unK v := by unfold unK; rw [lo 10 (by omega)]
      have hK : 80 ≤ unK v ∧ unK v + 5 ≤ 1080 := by unfold unK; omega
      unfold uI
      rw [eK, lo 10 (by omega), lo (unK v + 4) (by omega), lo (unK v + 3) (by omega), lo (unK v + 1) (by omega), lo (unK v) (by omega), lo (hs (v (unK v + 4)) 0) (by unfold hs; omega), lo (hs (v (unK v + 4)) 3) (by unfold hs; omega), lo (hs (v (unK v + 4)) 4) (by unfold hs; omega)]
      exact ⟨h10, h4, hf, ht, h3, hc, ha, hm⟩
    rw [unF_o hIw (by omega)]
    exact (wrF_cg o11 (unF_o hI (by omega))).symm
theorem unF_9 {v : Rw} {x : Int} (hI : uI v) : unF (u1 v 9 x) = u1 (unF v) 9 x := by
  funext j
  by_cases hj : j = 9
  · subst hj
    rw [u1_eq]
    have hI9 : uI (u1 v 9 x) := by
      obtain ⟨h10, h4, hf, ht, h3, hc, ha, hm⟩ := hI
      have eK : unK (u1 v 9 x) = unK v := by unfold unK; rw [u1_ne (by omega)]
      have hK : 80 ≤ unK v ∧ unK v + 5 ≤ 1080 := by unfold unK; omega
      unfold uI
      rw [eK]
      unfold hs at *
      simp (disch := omega) only [u1_ne]
      exact ⟨h10, h4, hf, ht, h3, hc, ha, hm⟩
    rw [unF_o hI9 (by omega), u1_eq]
  · rw [u1_ne hj]
    exact unF_cg hI (P := fun i => i ≠ 9) (fun i h1 h2 => by omega) (fun i hi => u1_ne hi) (u1_ne hj)
/-- what the class asks, to take back for player p -/
def tbI (v : Rw) (p : Int) : Prop := (p = 0 ∨ p = 1) ∧ uI v ∧ uJ v ∧ (bkN v p = 2 → uI (unF v) ∧ uJ (unC v)) ∧ 0 ≤ unT v (bkN v p) (hs p 5) ∧ unT v (bkN v p) (hs p 5) ≤ 1000000
theorem uI_9 {v : Rw} {x : Int} (hI : uI v) : uI (u1 v 9 x) := by
  obtain ⟨h10, h4, hf, ht, h3, hc, ha, hm⟩ := hI
  have eK : unK (u1 v 9 x) = unK v := by unfold unK; rw [u1_ne (by omega)]
  have hK : 80 ≤ unK v ∧ unK v + 5 ≤ 1080 := by unfold unK; omega
  unfold uI
  rw [eK]
  unfold hs at *
  simp (disch := omega) only [u1_ne]
  exact ⟨h10, h4, hf, ht, h3, hc, ha, hm⟩
theorem k_mBack {b : Nat} (hb : gm b) {p : Int} {μ : Mem} {v : Rw} {Q : PQ} (h : rG b μ v) (hQ : Q (some (aI (if v 9 = p then 2 else 1))) μ) : wpM 57 [aR b, aI p] μ Q := by
  have e9 := h.1.1.2.2
  obtain ⟨g0, g1, g2, g3, g4, g5, g6, g7, g8, g9, g10, g11, g12⟩ := gm_all hb
  refine wo_57 [] 60 rfl (Nat.le_of_ble_eq_true rfl) (fun hw => ?_)
  (simp (disch := omega) only [vc_s, sel_t, sel_f, vc_1, mn_0, mn_s, e_kc, e_lg0, e_lgs, e_ls0, e_lss, e_lc0, e_lcs, e_ls2, e_nlg0, e_nlgI, e_nvI, e_nvR, e_nvN, e_nv0, e_xI, e_xR, e_xN, e_xL, si_iload, si_iload_n, si_aload, si_aload_n, si_lload, si_lload_n, si_iconst, si_bipush, si_sipush, si_ldc, si_ldc2_w, si_aconst_null, si_istore, si_istore_n, si_astore, si_astore_n, si_astoreN, si_astore_nN, si_lstore, si_lstore_n, e_xInc, si_iinc, si_dupI, si_dupR, si_popI, si_popR, si_dup2, si_iadd, si_isub, si_imul, si_idiv, si_irem, si_ineg, si_i2c, si_i2l, si_ladd, si_lmul, si_goto, si_zeq, si_zne, si_zlt, si_zge, si_zgt, si_zle, si_ceq, si_cne, si_clt, si_cge, si_cgt, si_cle, si_ifnull, si_ifnullN, e_ts0, e_tss, si_tableswitch, si_getfield, e_gf, e_f0, e_fr, e_fs, si_putfield, e_pf, e_p0, e_ps, si_getstatic, si_arraylength, e_al, si_iaload, e_ia0, e_ia3, si_caload, e_ca, si_aaload, e_aa, si_iastore, e_is, si_castore, e_cs, e_rcv, e_rcS, si_invokevirtual, e_cp, si_invokestatic, e_sv, e_smax, e_smin, e_scp, si_ireturn, si_lreturn, si_areturn, si_areturnN, si_return_, mkL, List.map_cons, List.map_nil, List.length_cons, List.length_nil, Nat.reduceAdd, Nat.reduceSub, List.reduceReplicate, List.cons_append, List.nil_append, List.append_nil, Nat.reduceBEq, Bool.or_false, Bool.false_or, Bool.or_true, Bool.true_or, cond_false, cond_true, Nat.reduceEqDiff, reduceIte, List.take_succ_cons, List.take_zero, List.drop_succ_cons, List.drop_zero, List.reverse_cons, List.reverse_nil, Nat.reduceLeDiff, Nat.le_refl, true_and, and_true, Option.toList_some, Option.toList_none, Int.reduceToNat, Nat.zero_le, Int.reduceNatCast, Int.reduceNatCast', true_or, or_true, false_or, or_false, false_and, and_false, Int.reduceEq, Int.reduceLT, Int.reduceLE, Int.reduceNeg, imp_self, not_true, not_false_eq_true, false_implies, true_implies, implies_true, Int.reduceAdd, Int.reduceSub, Int.reduceMul, Int.reduceDiv, Int.reduceMod, stM_eq, cpM_eq, sR_eq, sR_sR, sh_0, sh_1, sh_2, sh_3, sh_4, sh_5, sh_6, sh_7, sh_8, sh_9, sh_10, sh_11, sh_st1, sh_st2, inR, Int.le_refl, t_57, u1_eq, u1_ne, sR_ne, hs, g0, g1, g2, g3, g4, g5, g6, g7, g8, g9, g10, g11, g12, e9]; repeat' first | (apply And.intro; focus omega) | with_reducible intro _)
  (repeat' first | (apply And.intro; focus omega) | apply And.intro | with_reducible intro _) <;> (split at hQ <;> first | exact hQ | (exfalso; omega))
theorem k_takeBack {b : Nat} (hb : gm b) {p : Int} {μ : Mem} {v : Rw} {Q : PQ} (h : rG b μ v) (hE : gE v) (h11 : v 11 ≤ 199) (hI : tbI v p) (hQ : ∀ μ', oG b μ μ' → rG b μ' (tbF v p) → Q none μ') : wpM 58 [aR b, aI p] μ Q := by
  obtain ⟨hp, hU, hJ, hU2, h5⟩ := hI
  have h0 : 0 ≤ v 11 := h.2.2.2.2.2.2.1
  have hU' := hU
  obtain ⟨h10, h4, _⟩ := hU'
  have hJ9 := hJ.1
  have gs := shp_sd hb p
  have hsn : sdC b p < b + 6 ∧ b + 4 ≤ sdC b p := by unfold sdC; split <;> omega
  have eb : (if v 9 = p then (2 : Int) else 1) = bkN v p := by
    unfold bkN
    have : unK v = 80 + 5 * (v 10 - 1) := rfl
    rw [← this]
    (repeat' split) <;> omega
  have hbk : bkN v p = 1 ∨ bkN v p = 2 := by unfold bkN; split <;> simp
  have tb : tbF v p = flF (tb2 (unT (wrF v 2 (bkN v p) 0 0 0) (bkN v p)) p (bkN v p)) := rfl
  rw [tb] at hQ
  clear tb
  generalize hn : bkN v p = n at *
  -- the row after the loop
  have eU : unT (wrF v 2 n 0 0 0) n = wrF (unT v n) 2 n 0 0 0 := by
    unfold unT
    rcases hbk with rfl | rfl
    · rw [if_pos rfl, if_pos rfl, unF_wr hU h0]
    · rw [if_neg (by omega), if_neg (by omega), unF_wr hU h0, unF_wr (hU2 rfl).1 (by rw [unF_o hU (by omega)]; exact h0)]
  rw [eU] at hQ
  have oT : ∀ j, (j ≠ 10 ∧ ¬ (20 ≤ j ∧ j < 56) ∧ ¬ (56 ≤ j ∧ j < 80)) → unT v n j = v j := by
    intro j hj
    unfold unT
    rcases hbk with rfl | rfl
    · rw [if_pos rfl, unF_o hU hj]
    · rw [if_neg (by omega), unF_o (hU2 rfl).1 hj, unF_o hU hj]
  obtain ⟨g0, g1, g2, g3, g4, g5, g6, g7, g8, g9, g10, g11, g12⟩ := gm_all hb
  have fin : ∀ μ1, oG b μ μ1 → rG b μ1 (u1 (unT v n) 9 p) → AW 58 Q 8 [some (aR b), some (aI p), some (aI n), some (aI n)] [] μ1 := by
    intro μ1 o1 r1
    refine vc1_snd ok_58 (stop := [8]) 90 ?_
    (simp (disch := omega) only [vc_s, sel_t, sel_f, vc_1, mn_0, mn_s, e_kc, e_lg0, e_lgs, e_ls0, e_lss, e_lc0, e_lcs, e_ls2, e_nlg0, e_nlgI, e_nvI, e_nvR, e_nvN, e_nv0, e_xI, e_xR, e_xN, e_xL, si_iload, si_iload_n, si_aload, si_aload_n, si_lload, si_lload_n, si_iconst, si_bipush, si_sipush, si_ldc, si_ldc2_w, si_aconst_null, si_istore, si_istore_n, si_astore, si_astore_n, si_astoreN, si_astore_nN, si_lstore, si_lstore_n, e_xInc, si_iinc, si_dupI, si_dupR, si_popI, si_popR, si_dup2, si_iadd, si_isub, si_imul, si_idiv, si_irem, si_ineg, si_i2c, si_i2l, si_ladd, si_lmul, si_goto, si_zeq, si_zne, si_zlt, si_zge, si_zgt, si_zle, si_ceq, si_cne, si_clt, si_cge, si_cgt, si_cle, si_ifnull, si_ifnullN, e_ts0, e_tss, si_tableswitch, si_getfield, e_gf, e_f0, e_fr, e_fs, si_putfield, e_pf, e_p0, e_ps, si_getstatic, si_arraylength, e_al, si_iaload, e_ia0, e_ia3, si_caload, e_ca, si_aaload, e_aa, si_iastore, e_is, si_castore, e_cs, e_rcv, e_rcS, si_invokevirtual, e_cp, si_invokestatic, e_sv, e_smax, e_smin, e_scp, si_ireturn, si_lreturn, si_areturn, si_areturnN, si_return_, mkL, List.map_cons, List.map_nil, List.length_cons, List.length_nil, Nat.reduceAdd, Nat.reduceSub, List.reduceReplicate, List.cons_append, List.nil_append, List.append_nil, Nat.reduceBEq, Bool.or_false, Bool.false_or, Bool.or_true, Bool.true_or, cond_false, cond_true, Nat.reduceEqDiff, reduceIte, List.take_succ_cons, List.take_zero, List.drop_succ_cons, List.drop_zero, List.reverse_cons, List.reverse_nil, Nat.reduceLeDiff, Nat.le_refl, true_and, and_true, Option.toList_some, Option.toList_none, Int.reduceToNat, Nat.zero_le, Int.reduceNatCast, Int.reduceNatCast', true_or, or_true, false_or, or_false, false_and, and_false, Int.reduceEq, Int.reduceLT, Int.reduceLE, Int.reduceNeg, imp_self, not_true, not_false_eq_true, false_implies, true_implies, implies_true, Int.reduceAdd, Int.reduceSub, Int.reduceMul, Int.reduceDiv, Int.reduceMod, stM_eq, cpM_eq, sR_eq, sR_sR, sh_0, sh_1, sh_2, sh_3, sh_4, sh_5, sh_6, sh_7, sh_8, sh_9, sh_10, sh_11, sh_st1, sh_st2, inR, Int.le_refl, t_58, u1_eq, u1_ne, sR_ne, hs, g0, g1, g2, g3, g4, g5, g6, g7, g8, g9, g10, g11, g12]; repeat' first | (apply And.intro; focus omega) | with_reducible intro _)
    refine k_side hb ?_
    have s5 := rG_s (p := p) (w := 5) r1 hp (by omega)
    rw [u1_ne (by omega)] at s5
    unfold hs at h5
    (simp (disch := omega) only [vc_s, sel_t, sel_f, vc_1, mn_0, mn_s, e_kc, e_lg0, e_lgs, e_ls0, e_lss, e_lc0, e_lcs, e_ls2, e_nlg0, e_nlgI, e_nvI, e_nvR, e_nvN, e_nv0, e_xI, e_xR, e_xN, e_xL, si_iload, si_iload_n, si_aload, si_aload_n, si_lload, si_lload_n, si_iconst, si_bipush, si_sipush, si_ldc, si_ldc2_w, si_aconst_null, si_istore, si_istore_n, si_astore, si_astore_n, si_astoreN, si_astore_nN, si_lstore, si_lstore_n, e_xInc, si_iinc, si_dupI, si_dupR, si_popI, si_popR, si_dup2, si_iadd, si_isub, si_imul, si_idiv, si_irem, si_ineg, si_i2c, si_i2l, si_ladd, si_lmul, si_goto, si_zeq, si_zne, si_zlt, si_zge, si_zgt, si_zle, si_ceq, si_cne, si_clt, si_cge, si_cgt, si_cle, si_ifnull, si_ifnullN, e_ts0, e_tss, si_tableswitch, si_getfield, e_gf, e_f0, e_fr, e_fs, si_putfield, e_pf, e_p0, e_ps, si_getstatic, si_arraylength, e_al, si_iaload, e_ia0, e_ia3, si_caload, e_ca, si_aaload, e_aa, si_iastore, e_is, si_castore, e_cs, e_rcv, e_rcS, si_invokevirtual, e_cp, si_invokestatic, e_sv, e_smax, e_smin, e_scp, si_ireturn, si_lreturn, si_areturn, si_areturnN, si_return_, mkL, List.map_cons, List.map_nil, List.length_cons, List.length_nil, Nat.reduceAdd, Nat.reduceSub, List.reduceReplicate, List.cons_append, List.nil_append, List.append_nil, Nat.reduceBEq, Bool.or_false, Bool.false_or, Bool.or_true, Bool.true_or, cond_false, cond_true, Nat.reduceEqDiff, reduceIte, List.take_succ_cons, List.take_zero, List.drop_succ_cons, List.drop_zero, List.reverse_cons, List.reverse_nil, Nat.reduceLeDiff, Nat.le_refl, true_and, and_true, Option.toList_some, Option.toList_none, Int.reduceToNat, Nat.zero_le, Int.reduceNatCast, Int.reduceNatCast', true_or, or_true, false_or, or_false, false_and, and_false, Int.reduceEq, Int.reduceLT, Int.reduceLE, Int.reduceNeg, imp_self, not_true, not_false_eq_true, false_implies, true_implies, implies_true, Int.reduceAdd, Int.reduceSub, Int.reduceMul, Int.reduceDiv, Int.reduceMod, stM_eq, cpM_eq, sR_eq, sR_sR, sh_0, sh_1, sh_2, sh_3, sh_4, sh_5, sh_6, sh_7, sh_8, sh_9, sh_10, sh_11, sh_st1, sh_st2, inR, Int.le_refl, t_58, u1_eq, u1_ne, sR_ne, hs, g0, g1, g2, g3, g4, g5, g6, g7, g8, g9, g10, g11, g12, gs, s5]; repeat' first | (apply And.intro; focus omega) | with_reducible intro _)
    have r2 : rG b (sR μ1 (sdC b p) (u1 (μ1 (sdC b p)) 5 (unT v n (56 + 8 * p + 5) + n))) (u1 (u1 (unT v n) 9 p) (56 + 8 * p + 5) (unT v n (56 + 8 * p + 5) + n)) := by
      refine rG_sd hp r1 (fun j hj => ?_) (fun i hi => by rw [u1_ne (by omega)])
      by_cases q : j = 5
      · rw [q, u1_eq, u1_eq]
      · rw [u1_ne q, u1_ne (by omega)]
        exact rG_s r1 hp hj
    have o2 : oG b μ1 (sR μ1 (sdC b p) (u1 (μ1 (sdC b p)) 5 (unT v n (56 + 8 * p + 5) + n))) := oG.st (by omega)
    have nb : (sR μ1 (sdC b p) (u1 (μ1 (sdC b p)) 5 (unT v n (56 + 8 * p + 5) + n))) b = μ1 b := sR_ne (by omega)
    generalize sR μ1 (sdC b p) (u1 (μ1 (sdC b p)) 5 (unT v n (56 + 8 * p + 5) + n)) = μ2 at *
    rw [← nb]
    have r3 : rG b (sR μ2 b (u1 (μ2 b) 9 0)) (u1 (u1 (u1 (unT v n) 9 p) (56 + 8 * p + 5) (unT v n (56 + 8 * p + 5) + n)) 12 0) := by
      have hf2 := r2.1
      refine rG_fd r2 ?_ (fun i hi => by rw [u1_ne (by omega)])
      unfold fdR at *
      simp (disch := omega) only [sR_eq, u1_ne, u1_eq, true_and] at hf2 ⊢
      exact ⟨hf2.1, hf2.2.1.2, hf2.2.2⟩
    refine k_closeQ hb r3 (fun μ3 o3 r3 => ?_)
    have l3 : ∀ j, j = 11 ∨ 1090 ≤ j → clF (u1 (u1 (u1 (unT v n) 9 p) (56 + 8 * p + 5) (unT v n (56 + 8 * p + 5) + n)) 12 0) j = v j := fun j hj => by
      rw [clF_lo (by omega), u1_ne (by omega), u1_ne (by omega), u1_ne (by omega)]
      exact oT j (by omega)
    have hE3 : gE (clF (u1 (u1 (u1 (unT v n) 9 p) (56 + 8 * p + 5) (unT v n (56 + 8 * p + 5) + n)) 12 0)) := gE_fr hE ⟨l3 11 (by omega), fun i hi => l3 i (by omega)⟩
    have h113 := l3 11 (by omega)
    (simp (disch := omega) only [vc_s, sel_t, sel_f, vc_1, mn_0, mn_s, e_kc, e_lg0, e_lgs, e_ls0, e_lss, e_lc0, e_lcs, e_ls2, e_nlg0, e_nlgI, e_nvI, e_nvR, e_nvN, e_nv0, e_xI, e_xR, e_xN, e_xL, si_iload, si_iload_n, si_aload, si_aload_n, si_lload, si_lload_n, si_iconst, si_bipush, si_sipush, si_ldc, si_ldc2_w, si_aconst_null, si_istore, si_istore_n, si_astore, si_astore_n, si_astoreN, si_astore_nN, si_lstore, si_lstore_n, e_xInc, si_iinc, si_dupI, si_dupR, si_popI, si_popR, si_dup2, si_iadd, si_isub, si_imul, si_idiv, si_irem, si_ineg, si_i2c, si_i2l, si_ladd, si_lmul, si_goto, si_zeq, si_zne, si_zlt, si_zge, si_zgt, si_zle, si_ceq, si_cne, si_clt, si_cge, si_cgt, si_cle, si_ifnull, si_ifnullN, e_ts0, e_tss, si_tableswitch, si_getfield, e_gf, e_f0, e_fr, e_fs, si_putfield, e_pf, e_p0, e_ps, si_getstatic, si_arraylength, e_al, si_iaload, e_ia0, e_ia3, si_caload, e_ca, si_aaload, e_aa, si_iastore, e_is, si_castore, e_cs, e_rcv, e_rcS, si_invokevirtual, e_cp, si_invokestatic, e_sv, e_smax, e_smin, e_scp, si_ireturn, si_lreturn, si_areturn, si_areturnN, si_return_, mkL, List.map_cons, List.map_nil, List.length_cons, List.length_nil, Nat.reduceAdd, Nat.reduceSub, List.reduceReplicate, List.cons_append, List.nil_append, List.append_nil, Nat.reduceBEq, Bool.or_false, Bool.false_or, Bool.or_true, Bool.true_or, cond_false, cond_true, Nat.reduceEqDiff, reduceIte, List.take_succ_cons, List.take_zero, List.drop_succ_cons, List.drop_zero, List.reverse_cons, List.reverse_nil, Nat.reduceLeDiff, Nat.le_refl, true_and, and_true, Option.toList_some, Option.toList_none, Int.reduceToNat, Nat.zero_le, Int.reduceNatCast, Int.reduceNatCast', true_or, or_true, false_or, or_false, false_and, and_false, Int.reduceEq, Int.reduceLT, Int.reduceLE, Int.reduceNeg, imp_self, not_true, not_false_eq_true, false_implies, true_implies, implies_true, Int.reduceAdd, Int.reduceSub, Int.reduceMul, Int.reduceDiv, Int.reduceMod, stM_eq, cpM_eq, sR_eq, sR_sR, sh_0, sh_1, sh_2, sh_3, sh_4, sh_5, sh_6, sh_7, sh_8, sh_9, sh_10, sh_11, sh_st1, sh_st2, inR, Int.le_refl, t_58, u1_eq, u1_ne, sR_ne, hs, g0, g1, g2, g3, g4, g5, g6, g7, g8, g9, g10, g11, g12]; repeat' first | (apply And.intro; focus omega) | with_reducible intro _)
    refine k_wTb hb (by omega) (rG_enB r3 hE3 (by omega)) (fun μ4 e4 => ?_)
    have eL : [60, 48 + n] = entL 2 n 0 0 0 := by
      rcases hbk with rfl | rfl <;> rfl
    rw [eL] at e4
    obtain ⟨r4, o4⟩ := rG_wr r3 e4
    have eR : wrF (clF (u1 (u1 (u1 (unT v n) 9 p) (56 + 8 * p + 5) (unT v n (56 + 8 * p + 5) + n)) 12 0)) 2 n 0 0 0 = tb2 (wrF (unT v n) 2 n 0 0 0) p n := by
      have l11 := oT 11 (by omega)
      unfold tb2
      have z5 : wrF (unT v n) 2 n 0 0 0 (hs p 5) = unT v n (hs p 5) := wrF_lo (by omega) (by unfold hs; omega)
      rw [z5]
      unfold hs clF
      rw [wrF_cm (by simp (disch := omega) only [u1_ne]; omega) (by omega), wrF_cm (by simp (disch := omega) only [u1_ne]; omega) (by omega), wrF_cm (by simp (disch := omega) only [u1_ne]; omega) (by omega), wrF_cm (by simp (disch := omega) only [u1_ne]; omega) (by omega), wrF_cm (by omega) (by omega)]
      generalize wrF (unT v n) 2 n 0 0 0 = Z
      generalize unT v n (56 + 8 * p + 5) + n = y
      funext j
      unfold u1
      (repeat' split) <;> first | rfl | omega
    have hE4 := gE_wr (k := 2) (a := n) (c := 0) (d := 0) (t := 0) hE3 (by omega) (by omega) (by omega)
    rw [eR] at r4 hE4
    (simp (disch := omega) only [vc_s, sel_t, sel_f, vc_1, mn_0, mn_s, e_kc, e_lg0, e_lgs, e_ls0, e_lss, e_lc0, e_lcs, e_ls2, e_nlg0, e_nlgI, e_nvI, e_nvR, e_nvN, e_nv0, e_xI, e_xR, e_xN, e_xL, si_iload, si_iload_n, si_aload, si_aload_n, si_lload, si_lload_n, si_iconst, si_bipush, si_sipush, si_ldc, si_ldc2_w, si_aconst_null, si_istore, si_istore_n, si_astore, si_astore_n, si_astoreN, si_astore_nN, si_lstore, si_lstore_n, e_xInc, si_iinc, si_dupI, si_dupR, si_popI, si_popR, si_dup2, si_iadd, si_isub, si_imul, si_idiv, si_irem, si_ineg, si_i2c, si_i2l, si_ladd, si_lmul, si_goto, si_zeq, si_zne, si_zlt, si_zge, si_zgt, si_zle, si_ceq, si_cne, si_clt, si_cge, si_cgt, si_cle, si_ifnull, si_ifnullN, e_ts0, e_tss, si_tableswitch, si_getfield, e_gf, e_f0, e_fr, e_fs, si_putfield, e_pf, e_p0, e_ps, si_getstatic, si_arraylength, e_al, si_iaload, e_ia0, e_ia3, si_caload, e_ca, si_aaload, e_aa, si_iastore, e_is, si_castore, e_cs, e_rcv, e_rcS, si_invokevirtual, e_cp, si_invokestatic, e_sv, e_smax, e_smin, e_scp, si_ireturn, si_lreturn, si_areturn, si_areturnN, si_return_, mkL, List.map_cons, List.map_nil, List.length_cons, List.length_nil, Nat.reduceAdd, Nat.reduceSub, List.reduceReplicate, List.cons_append, List.nil_append, List.append_nil, Nat.reduceBEq, Bool.or_false, Bool.false_or, Bool.or_true, Bool.true_or, cond_false, cond_true, Nat.reduceEqDiff, reduceIte, List.take_succ_cons, List.take_zero, List.drop_succ_cons, List.drop_zero, List.reverse_cons, List.reverse_nil, Nat.reduceLeDiff, Nat.le_refl, true_and, and_true, Option.toList_some, Option.toList_none, Int.reduceToNat, Nat.zero_le, Int.reduceNatCast, Int.reduceNatCast', true_or, or_true, false_or, or_false, false_and, and_false, Int.reduceEq, Int.reduceLT, Int.reduceLE, Int.reduceNeg, imp_self, not_true, not_false_eq_true, false_implies, true_implies, implies_true, Int.reduceAdd, Int.reduceSub, Int.reduceMul, Int.reduceDiv, Int.reduceMod, stM_eq, cpM_eq, sR_eq, sR_sR, sh_0, sh_1, sh_2, sh_3, sh_4, sh_5, sh_6, sh_7, sh_8, sh_9, sh_10, sh_11, sh_st1, sh_st2, inR, Int.le_refl, t_58, u1_eq, u1_ne, sR_ne, hs, g0, g1, g2, g3, g4, g5, g6, g7, g8, g9, g10, g11, g12]; repeat' first | (apply And.intro; focus omega) | with_reducible intro _)
    refine k_look hb r4 hE4 (fun _ => ?_) ?_ (fun μ5 o5 r5 => ?_)
    · rw [← eR, wrF_11, h113]; omega
    · unfold tb2 hs
      rw [clF_lo (by omega), u1_ne (by omega), u1_eq]; exact hp
    · (simp (disch := omega) only [vc_s, sel_t, sel_f, vc_1, mn_0, mn_s, e_kc, e_lg0, e_lgs, e_ls0, e_lss, e_lc0, e_lcs, e_ls2, e_nlg0, e_nlgI, e_nvI, e_nvR, e_nvN, e_nv0, e_xI, e_xR, e_xN, e_xL, si_iload, si_iload_n, si_aload, si_aload_n, si_lload, si_lload_n, si_iconst, si_bipush, si_sipush, si_ldc, si_ldc2_w, si_aconst_null, si_istore, si_istore_n, si_astore, si_astore_n, si_astoreN, si_astore_nN, si_lstore, si_lstore_n, e_xInc, si_iinc, si_dupI, si_dupR, si_popI, si_popR, si_dup2, si_iadd, si_isub, si_imul, si_idiv, si_irem, si_ineg, si_i2c, si_i2l, si_ladd, si_lmul, si_goto, si_zeq, si_zne, si_zlt, si_zge, si_zgt, si_zle, si_ceq, si_cne, si_clt, si_cge, si_cgt, si_cle, si_ifnull, si_ifnullN, e_ts0, e_tss, si_tableswitch, si_getfield, e_gf, e_f0, e_fr, e_fs, si_putfield, e_pf, e_p0, e_ps, si_getstatic, si_arraylength, e_al, si_iaload, e_ia0, e_ia3, si_caload, e_ca, si_aaload, e_aa, si_iastore, e_is, si_castore, e_cs, e_rcv, e_rcS, si_invokevirtual, e_cp, si_invokestatic, e_sv, e_smax, e_smin, e_scp, si_ireturn, si_lreturn, si_areturn, si_areturnN, si_return_, mkL, List.map_cons, List.map_nil, List.length_cons, List.length_nil, Nat.reduceAdd, Nat.reduceSub, List.reduceReplicate, List.cons_append, List.nil_append, List.append_nil, Nat.reduceBEq, Bool.or_false, Bool.false_or, Bool.or_true, Bool.true_or, cond_false, cond_true, Nat.reduceEqDiff, reduceIte, List.take_succ_cons, List.take_zero, List.drop_succ_cons, List.drop_zero, List.reverse_cons, List.reverse_nil, Nat.reduceLeDiff, Nat.le_refl, true_and, and_true, Option.toList_some, Option.toList_none, Int.reduceToNat, Nat.zero_le, Int.reduceNatCast, Int.reduceNatCast', true_or, or_true, false_or, or_false, false_and, and_false, Int.reduceEq, Int.reduceLT, Int.reduceLE, Int.reduceNeg, imp_self, not_true, not_false_eq_true, false_implies, true_implies, implies_true, Int.reduceAdd, Int.reduceSub, Int.reduceMul, Int.reduceDiv, Int.reduceMod, stM_eq, cpM_eq, sR_eq, sR_sR, sh_0, sh_1, sh_2, sh_3, sh_4, sh_5, sh_6, sh_7, sh_8, sh_9, sh_10, sh_11, sh_st1, sh_st2, inR, Int.le_refl, t_58, u1_eq, u1_ne, sR_ne, hs, g0, g1, g2, g3, g4, g5, g6, g7, g8, g9, g10, g11, g12]; repeat' first | (apply And.intro; focus omega) | with_reducible intro _)
      exact hQ μ5 (o1.tr (o2.tr ((oG.st (by omega)).tr (o3.tr (o4.tr o5))))) r5
  refine wo_58 [8] 90 rfl (Nat.le_of_ble_eq_true rfl) (fun hw => ?_)
  (simp (disch := omega) only [vc_s, sel_t, sel_f, vc_1, mn_0, mn_s, e_kc, e_lg0, e_lgs, e_ls0, e_lss, e_lc0, e_lcs, e_ls2, e_nlg0, e_nlgI, e_nvI, e_nvR, e_nvN, e_nv0, e_xI, e_xR, e_xN, e_xL, si_iload, si_iload_n, si_aload, si_aload_n, si_lload, si_lload_n, si_iconst, si_bipush, si_sipush, si_ldc, si_ldc2_w, si_aconst_null, si_istore, si_istore_n, si_astore, si_astore_n, si_astoreN, si_astore_nN, si_lstore, si_lstore_n, e_xInc, si_iinc, si_dupI, si_dupR, si_popI, si_popR, si_dup2, si_iadd, si_isub, si_imul, si_idiv, si_irem, si_ineg, si_i2c, si_i2l, si_ladd, si_lmul, si_goto, si_zeq, si_zne, si_zlt, si_zge, si_zgt, si_zle, si_ceq, si_cne, si_clt, si_cge, si_cgt, si_cle, si_ifnull, si_ifnullN, e_ts0, e_tss, si_tableswitch, si_getfield, e_gf, e_f0, e_fr, e_fs, si_putfield, e_pf, e_p0, e_ps, si_getstatic, si_arraylength, e_al, si_iaload, e_ia0, e_ia3, si_caload, e_ca, si_aaload, e_aa, si_iastore, e_is, si_castore, e_cs, e_rcv, e_rcS, si_invokevirtual, e_cp, si_invokestatic, e_sv, e_smax, e_smin, e_scp, si_ireturn, si_lreturn, si_areturn, si_areturnN, si_return_, mkL, List.map_cons, List.map_nil, List.length_cons, List.length_nil, Nat.reduceAdd, Nat.reduceSub, List.reduceReplicate, List.cons_append, List.nil_append, List.append_nil, Nat.reduceBEq, Bool.or_false, Bool.false_or, Bool.or_true, Bool.true_or, cond_false, cond_true, Nat.reduceEqDiff, reduceIte, List.take_succ_cons, List.take_zero, List.drop_succ_cons, List.drop_zero, List.reverse_cons, List.reverse_nil, Nat.reduceLeDiff, Nat.le_refl, true_and, and_true, Option.toList_some, Option.toList_none, Int.reduceToNat, Nat.zero_le, Int.reduceNatCast, Int.reduceNatCast', true_or, or_true, false_or, or_false, false_and, and_false, Int.reduceEq, Int.reduceLT, Int.reduceLE, Int.reduceNeg, imp_self, not_true, not_false_eq_true, false_implies, true_implies, implies_true, Int.reduceAdd, Int.reduceSub, Int.reduceMul, Int.reduceDiv, Int.reduceMod, stM_eq, cpM_eq, sR_eq, sR_sR, sh_0, sh_1, sh_2, sh_3, sh_4, sh_5, sh_6, sh_7, sh_8, sh_9, sh_10, sh_11, sh_st1, sh_st2, inR, Int.le_refl, t_58, u1_eq, u1_ne, sR_ne, hs, g0, g1, g2, g3, g4, g5, g6, g7, g8, g9, g10, g11, g12]; repeat' first | (apply And.intro; focus omega) | with_reducible intro _)
  refine k_mBack hb h ?_
  rw [eb]
  (simp (disch := omega) only [vc_s, sel_t, sel_f, vc_1, mn_0, mn_s, e_kc, e_lg0, e_lgs, e_ls0, e_lss, e_lc0, e_lcs, e_ls2, e_nlg0, e_nlgI, e_nvI, e_nvR, e_nvN, e_nv0, e_xI, e_xR, e_xN, e_xL, si_iload, si_iload_n, si_aload, si_aload_n, si_lload, si_lload_n, si_iconst, si_bipush, si_sipush, si_ldc, si_ldc2_w, si_aconst_null, si_istore, si_istore_n, si_astore, si_astore_n, si_astoreN, si_astore_nN, si_lstore, si_lstore_n, e_xInc, si_iinc, si_dupI, si_dupR, si_popI, si_popR, si_dup2, si_iadd, si_isub, si_imul, si_idiv, si_irem, si_ineg, si_i2c, si_i2l, si_ladd, si_lmul, si_goto, si_zeq, si_zne, si_zlt, si_zge, si_zgt, si_zle, si_ceq, si_cne, si_clt, si_cge, si_cgt, si_cle, si_ifnull, si_ifnullN, e_ts0, e_tss, si_tableswitch, si_getfield, e_gf, e_f0, e_fr, e_fs, si_putfield, e_pf, e_p0, e_ps, si_getstatic, si_arraylength, e_al, si_iaload, e_ia0, e_ia3, si_caload, e_ca, si_aaload, e_aa, si_iastore, e_is, si_castore, e_cs, e_rcv, e_rcS, si_invokevirtual, e_cp, si_invokestatic, e_sv, e_smax, e_smin, e_scp, si_ireturn, si_lreturn, si_areturn, si_areturnN, si_return_, mkL, List.map_cons, List.map_nil, List.length_cons, List.length_nil, Nat.reduceAdd, Nat.reduceSub, List.reduceReplicate, List.cons_append, List.nil_append, List.append_nil, Nat.reduceBEq, Bool.or_false, Bool.false_or, Bool.or_true, Bool.true_or, cond_false, cond_true, Nat.reduceEqDiff, reduceIte, List.take_succ_cons, List.take_zero, List.drop_succ_cons, List.drop_zero, List.reverse_cons, List.reverse_nil, Nat.reduceLeDiff, Nat.le_refl, true_and, and_true, Option.toList_some, Option.toList_none, Int.reduceToNat, Nat.zero_le, Int.reduceNatCast, Int.reduceNatCast', true_or, or_true, false_or, or_false, false_and, and_false, Int.reduceEq, Int.reduceLT, Int.reduceLE, Int.reduceNeg, imp_self, not_true, not_false_eq_true, false_implies, true_implies, implies_true, Int.reduceAdd, Int.reduceSub, Int.reduceMul, Int.reduceDiv, Int.reduceMod, stM_eq, cpM_eq, sR_eq, sR_sR, sh_0, sh_1, sh_2, sh_3, sh_4, sh_5, sh_6, sh_7, sh_8, sh_9, sh_10, sh_11, sh_st1, sh_st2, inR, Int.le_refl, t_58, u1_eq, u1_ne, sR_ne, hs, g0, g1, g2, g3, g4, g5, g6, g7, g8, g9, g10, g11, g12]; repeat' first | (apply And.intro; focus omega) | with_reducible intro _)
  refine vc1_snd ok_58 (stop := [8]) 90 ?_
  (simp (disch := omega) only [vc_s, sel_t, sel_f, vc_1, mn_0, mn_s, e_kc, e_lg0, e_lgs, e_ls0, e_lss, e_lc0, e_lcs, e_ls2, e_nlg0, e_nlgI, e_nvI, e_nvR, e_nvN, e_nv0, e_xI, e_xR, e_xN, e_xL, si_iload, si_iload_n, si_aload, si_aload_n, si_lload, si_lload_n, si_iconst, si_bipush, si_sipush, si_ldc, si_ldc2_w, si_aconst_null, si_istore, si_istore_n, si_astore, si_astore_n, si_astoreN, si_astore_nN, si_lstore, si_lstore_n, e_xInc, si_iinc, si_dupI, si_dupR, si_popI, si_popR, si_dup2, si_iadd, si_isub, si_imul, si_idiv, si_irem, si_ineg, si_i2c, si_i2l, si_ladd, si_lmul, si_goto, si_zeq, si_zne, si_zlt, si_zge, si_zgt, si_zle, si_ceq, si_cne, si_clt, si_cge, si_cgt, si_cle, si_ifnull, si_ifnullN, e_ts0, e_tss, si_tableswitch, si_getfield, e_gf, e_f0, e_fr, e_fs, si_putfield, e_pf, e_p0, e_ps, si_getstatic, si_arraylength, e_al, si_iaload, e_ia0, e_ia3, si_caload, e_ca, si_aaload, e_aa, si_iastore, e_is, si_castore, e_cs, e_rcv, e_rcS, si_invokevirtual, e_cp, si_invokestatic, e_sv, e_smax, e_smin, e_scp, si_ireturn, si_lreturn, si_areturn, si_areturnN, si_return_, mkL, List.map_cons, List.map_nil, List.length_cons, List.length_nil, Nat.reduceAdd, Nat.reduceSub, List.reduceReplicate, List.cons_append, List.nil_append, List.append_nil, Nat.reduceBEq, Bool.or_false, Bool.false_or, Bool.or_true, Bool.true_or, cond_false, cond_true, Nat.reduceEqDiff, reduceIte, List.take_succ_cons, List.take_zero, List.drop_succ_cons, List.drop_zero, List.reverse_cons, List.reverse_nil, Nat.reduceLeDiff, Nat.le_refl, true_and, and_true, Option.toList_some, Option.toList_none, Int.reduceToNat, Nat.zero_le, Int.reduceNatCast, Int.reduceNatCast', true_or, or_true, false_or, or_false, false_and, and_false, Int.reduceEq, Int.reduceLT, Int.reduceLE, Int.reduceNeg, imp_self, not_true, not_false_eq_true, false_implies, true_implies, implies_true, Int.reduceAdd, Int.reduceSub, Int.reduceMul, Int.reduceDiv, Int.reduceMod, stM_eq, cpM_eq, sR_eq, sR_sR, sh_0, sh_1, sh_2, sh_3, sh_4, sh_5, sh_6, sh_7, sh_8, sh_9, sh_10, sh_11, sh_st1, sh_st2, inR, Int.le_refl, t_58, u1_eq, u1_ne, sR_ne, hs, g0, g1, g2, g3, g4, g5, g6, g7, g8, g9, g10, g11, g12]; repeat' first | (apply And.intro; focus omega) | with_reducible intro _)
  refine k_tbLast hb h hU hJ (fun μ1 o1 r1 => ?_)
  (simp (disch := omega) only [vc_s, sel_t, sel_f, vc_1, mn_0, mn_s, e_kc, e_lg0, e_lgs, e_ls0, e_lss, e_lc0, e_lcs, e_ls2, e_nlg0, e_nlgI, e_nvI, e_nvR, e_nvN, e_nv0, e_xI, e_xR, e_xN, e_xL, si_iload, si_iload_n, si_aload, si_aload_n, si_lload, si_lload_n, si_iconst, si_bipush, si_sipush, si_ldc, si_ldc2_w, si_aconst_null, si_istore, si_istore_n, si_astore, si_astore_n, si_astoreN, si_astore_nN, si_lstore, si_lstore_n, e_xInc, si_iinc, si_dupI, si_dupR, si_popI, si_popR, si_dup2, si_iadd, si_isub, si_imul, si_idiv, si_irem, si_ineg, si_i2c, si_i2l, si_ladd, si_lmul, si_goto, si_zeq, si_zne, si_zlt, si_zge, si_zgt, si_zle, si_ceq, si_cne, si_clt, si_cge, si_cgt, si_cle, si_ifnull, si_ifnullN, e_ts0, e_tss, si_tableswitch, si_getfield, e_gf, e_f0, e_fr, e_fs, si_putfield, e_pf, e_p0, e_ps, si_getstatic, si_arraylength, e_al, si_iaload, e_ia0, e_ia3, si_caload, e_ca, si_aaload, e_aa, si_iastore, e_is, si_castore, e_cs, e_rcv, e_rcS, si_invokevirtual, e_cp, si_invokestatic, e_sv, e_smax, e_smin, e_scp, si_ireturn, si_lreturn, si_areturn, si_areturnN, si_return_, mkL, List.map_cons, List.map_nil, List.length_cons, List.length_nil, Nat.reduceAdd, Nat.reduceSub, List.reduceReplicate, List.cons_append, List.nil_append, List.append_nil, Nat.reduceBEq, Bool.or_false, Bool.false_or, Bool.or_true, Bool.true_or, cond_false, cond_true, Nat.reduceEqDiff, reduceIte, List.take_succ_cons, List.take_zero, List.drop_succ_cons, List.drop_zero, List.reverse_cons, List.reverse_nil, Nat.reduceLeDiff, Nat.le_refl, true_and, and_true, Option.toList_some, Option.toList_none, Int.reduceToNat, Nat.zero_le, Int.reduceNatCast, Int.reduceNatCast', true_or, or_true, false_or, or_false, false_and, and_false, Int.reduceEq, Int.reduceLT, Int.reduceLE, Int.reduceNeg, imp_self, not_true, not_false_eq_true, false_implies, true_implies, implies_true, Int.reduceAdd, Int.reduceSub, Int.reduceMul, Int.reduceDiv, Int.reduceMod, stM_eq, cpM_eq, sR_eq, sR_sR, sh_0, sh_1, sh_2, sh_3, sh_4, sh_5, sh_6, sh_7, sh_8, sh_9, sh_10, sh_11, sh_st1, sh_st2, inR, Int.le_refl, t_58, u1_eq, u1_ne, sR_ne, hs, g0, g1, g2, g3, g4, g5, g6, g7, g8, g9, g10, g11, g12]; repeat' first | (apply And.intro; focus omega) | with_reducible intro _)
  rcases hbk with e | e
  · have eT : unC v = u1 (unT v n) 9 p := by
      unfold unT unC
      rw [if_pos e]
      congr 1
      split at eb <;> omega
    rw [eT] at r1
    have := fin μ1 o1 r1
    rw [e] at this ⊢
    exact this
  · obtain ⟨hA, hB⟩ := hU2 e
    refine vc1_snd ok_58 (stop := [8]) 90 ?_
    (simp (disch := omega) only [vc_s, sel_t, sel_f, vc_1, mn_0, mn_s, e_kc, e_lg0, e_lgs, e_ls0, e_lss, e_lc0, e_lcs, e_ls2, e_nlg0, e_nlgI, e_nvI, e_nvR, e_nvN, e_nv0, e_xI, e_xR, e_xN, e_xL, si_iload, si_iload_n, si_aload, si_aload_n, si_lload, si_lload_n, si_iconst, si_bipush, si_sipush, si_ldc, si_ldc2_w, si_aconst_null, si_istore, si_istore_n, si_astore, si_astore_n, si_astoreN, si_astore_nN, si_lstore, si_lstore_n, e_xInc, si_iinc, si_dupI, si_dupR, si_popI, si_popR, si_dup2, si_iadd, si_isub, si_imul, si_idiv, si_irem, si_ineg, si_i2c, si_i2l, si_ladd, si_lmul, si_goto, si_zeq, si_zne, si_zlt, si_zge, si_zgt, si_zle, si_ceq, si_cne, si_clt, si_cge, si_cgt, si_cle, si_ifnull, si_ifnullN, e_ts0, e_tss, si_tableswitch, si_getfield, e_gf, e_f0, e_fr, e_fs, si_putfield, e_pf, e_p0, e_ps, si_getstatic, si_arraylength, e_al, si_iaload, e_ia0, e_ia3, si_caload, e_ca, si_aaload, e_aa, si_iastore, e_is, si_castore, e_cs, e_rcv, e_rcS, si_invokevirtual, e_cp, si_invokestatic, e_sv, e_smax, e_smin, e_scp, si_ireturn, si_lreturn, si_areturn, si_areturnN, si_return_, mkL, List.map_cons, List.map_nil, List.length_cons, List.length_nil, Nat.reduceAdd, Nat.reduceSub, List.reduceReplicate, List.cons_append, List.nil_append, List.append_nil, Nat.reduceBEq, Bool.or_false, Bool.false_or, Bool.or_true, Bool.true_or, cond_false, cond_true, Nat.reduceEqDiff, reduceIte, List.take_succ_cons, List.take_zero, List.drop_succ_cons, List.drop_zero, List.reverse_cons, List.reverse_nil, Nat.reduceLeDiff, Nat.le_refl, true_and, and_true, Option.toList_some, Option.toList_none, Int.reduceToNat, Nat.zero_le, Int.reduceNatCast, Int.reduceNatCast', true_or, or_true, false_or, or_false, false_and, and_false, Int.reduceEq, Int.reduceLT, Int.reduceLE, Int.reduceNeg, imp_self, not_true, not_false_eq_true, false_implies, true_implies, implies_true, Int.reduceAdd, Int.reduceSub, Int.reduceMul, Int.reduceDiv, Int.reduceMod, stM_eq, cpM_eq, sR_eq, sR_sR, sh_0, sh_1, sh_2, sh_3, sh_4, sh_5, sh_6, sh_7, sh_8, sh_9, sh_10, sh_11, sh_st1, sh_st2, inR, Int.le_refl, t_58, u1_eq, u1_ne, sR_ne, hs, g0, g1, g2, g3, g4, g5, g6, g7, g8, g9, g10, g11, g12]; repeat' first | (apply And.intro; focus omega) | with_reducible intro _)
    refine k_tbLast hb r1 (uI_9 hA) hB (fun μ2 o2 r2 => ?_)
    (simp (disch := omega) only [vc_s, sel_t, sel_f, vc_1, mn_0, mn_s, e_kc, e_lg0, e_lgs, e_ls0, e_lss, e_lc0, e_lcs, e_ls2, e_nlg0, e_nlgI, e_nvI, e_nvR, e_nvN, e_nv0, e_xI, e_xR, e_xN, e_xL, si_iload, si_iload_n, si_aload, si_aload_n, si_lload, si_lload_n, si_iconst, si_bipush, si_sipush, si_ldc, si_ldc2_w, si_aconst_null, si_istore, si_istore_n, si_astore, si_astore_n, si_astoreN, si_astore_nN, si_lstore, si_lstore_n, e_xInc, si_iinc, si_dupI, si_dupR, si_popI, si_popR, si_dup2, si_iadd, si_isub, si_imul, si_idiv, si_irem, si_ineg, si_i2c, si_i2l, si_ladd, si_lmul, si_goto, si_zeq, si_zne, si_zlt, si_zge, si_zgt, si_zle, si_ceq, si_cne, si_clt, si_cge, si_cgt, si_cle, si_ifnull, si_ifnullN, e_ts0, e_tss, si_tableswitch, si_getfield, e_gf, e_f0, e_fr, e_fs, si_putfield, e_pf, e_p0, e_ps, si_getstatic, si_arraylength, e_al, si_iaload, e_ia0, e_ia3, si_caload, e_ca, si_aaload, e_aa, si_iastore, e_is, si_castore, e_cs, e_rcv, e_rcS, si_invokevirtual, e_cp, si_invokestatic, e_sv, e_smax, e_smin, e_scp, si_ireturn, si_lreturn, si_areturn, si_areturnN, si_return_, mkL, List.map_cons, List.map_nil, List.length_cons, List.length_nil, Nat.reduceAdd, Nat.reduceSub, List.reduceReplicate, List.cons_append, List.nil_append, List.append_nil, Nat.reduceBEq, Bool.or_false, Bool.false_or, Bool.or_true, Bool.true_or, cond_false, cond_true, Nat.reduceEqDiff, reduceIte, List.take_succ_cons, List.take_zero, List.drop_succ_cons, List.drop_zero, List.reverse_cons, List.reverse_nil, Nat.reduceLeDiff, Nat.le_refl, true_and, and_true, Option.toList_some, Option.toList_none, Int.reduceToNat, Nat.zero_le, Int.reduceNatCast, Int.reduceNatCast', true_or, or_true, false_or, or_false, false_and, and_false, Int.reduceEq, Int.reduceLT, Int.reduceLE, Int.reduceNeg, imp_self, not_true, not_false_eq_true, false_implies, true_implies, implies_true, Int.reduceAdd, Int.reduceSub, Int.reduceMul, Int.reduceDiv, Int.reduceMod, stM_eq, cpM_eq, sR_eq, sR_sR, sh_0, sh_1, sh_2, sh_3, sh_4, sh_5, sh_6, sh_7, sh_8, sh_9, sh_10, sh_11, sh_st1, sh_st2, inR, Int.le_refl, t_58, u1_eq, u1_ne, sR_ne, hs, g0, g1, g2, g3, g4, g5, g6, g7, g8, g9, g10, g11, g12]; repeat' first | (apply And.intro; focus omega) | with_reducible intro _)
    have eT : unC (unC v) = u1 (unT v n) 9 p := by
      have e9 : unC v 9 = 1 - v 9 := u1_eq
      have : unC (unC v) = u1 (unF (unC v)) 9 (1 - unC v 9) := rfl
      rw [this, e9]
      have : unF (unC v) = u1 (unF (unF v)) 9 (1 - v 9) := unF_9 hA
      rw [this, u1_u1]
      unfold unT
      rw [if_neg (by omega)]
      congr 1
      split at eb <;> omega
    rw [eT] at r2
    have := fin μ2 (o1.tr o2) r2
    rw [e] at this ⊢
    exact this
