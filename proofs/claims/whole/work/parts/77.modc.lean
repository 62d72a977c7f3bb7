/-! A WALK OVER ANY FRAME (a constructor's, the law's): conditions by computing, as for methods -/
def okTg (own : String) (cc : ByteArray) (ret : Option FieldType) (nL fr lo : Nat) (T : tE) : Bool := T.zipIdx.all fun q => match q.1 with
  | some x => okE own cc ret nL fr lo q.2 x
  | none => true
theorem tatg_ok {own : String} {cc : ByteArray} {ret : Option FieldType} {nL fr lo : Nat} {T : tE} (h : okTg own cc ret nL fr lo T = true) {pc : Nat} {x : Instr × E5} (e : tat T pc = some x) : okE own cc ret nL fr lo pc x = true := by
  unfold tat at e
  have e2 : T[pc]? = some (some x) := by
    cases e3 : T[pc]? with
    | none => rw [e3] at e; cases e
    | some y => rw [e3] at e; rw [show y = some x from e]
  exact List.all_eq_true.mp h (some x, pc) (by rw [List.mem_zipIdx_iff_getElem?]; exact e2)
section GW
variable {p : Program} {l : Launch} {e : Env} {R : Room} {s : State} {m : MethodId} {args : Array Value} {below : List Frame} {meth : Method} {c : Code} {cells slots : Nat} {QW : State → Prop} {cc : ByteArray} {own : String} {nL : Nat} {ret : Option FieldType} {ad : Nat → Nat} {D : va_G} {cI cC cG : ClassId} {A0 : Nat → Prop}
theorem rt_no {i : Instr} {n a b : Nat} {z : Int} {L : Lc} {st : List AV} {μ : Mem} {K : aK} (hi : i = .ireturn ∨ i = .lreturn ∨ i = .areturn ∨ i = .return_) (h : stepI (fun _ _ => False) i n a b z L st μ K) : False := by
  rcases hi with rfl | rfl | rfl | rfl
  · obtain ⟨_, _, _, _, _, h⟩ := un_inv h
    exact h
  · obtain ⟨_, _, _, _, h⟩ := unL_inv h
    exact h
  · rcases unA_inv (show unA st (fun v st => st = [] ∧ False) from h) with ⟨_, _, _, _, h⟩ | ⟨_, _, _, h⟩
    · exact h
    · exact h
  · exact (show st = [] ∧ False from h).2
theorem vg_step (X : aX p s m args meth c R cells slots cc own nL ad D cI cC cG A0) {T : tE} (hT : okTg own cc ret nL R.frames R.locals T = true) {K : aK} (hK : ∀ pc L st μ, K pc L st μ → aG p l e R s m args below meth c cells slots QW nL ad D cI cC cG A0 pc L st μ) {pc : Nat} {L : Lc} {st : List AV} {μ : Mem} (hs : stepO (fun _ _ => False) (tat T pc) L st μ K) : aG p l e R s m args below meth c cells slots QW nL ad D cI cC cG A0 pc L st μ := by
  cases e1 : tat T pc with
  | none => rw [e1] at hs; exact hs.elim
  | some x =>
    rw [e1] at hs
    obtain ⟨i, n, x1, b, w, z⟩ := x
    exact step_snd X (tatg_ok hT e1) (fun hi hh => (rt_no hi hh).elim) hK hs
theorem vg_snd (X : aX p s m args meth c R cells slots cc own nL ad D cI cC cG A0) {T : tE} (hT : okTg own cc ret nL R.frames R.locals T = true) {stop : List Nat} : ∀ (f pc : Nat) (L : Lc) (st : List AV) (μ : Mem), vcG (aG p l e R s m args below meth c cells slots QW nL ad D cI cC cG A0) (fun _ _ => False) T stop f pc L st μ → aG p l e R s m args below meth c cells slots QW nL ad D cI cC cG A0 pc L st μ := by
  intro f
  induction f with
  | zero => exact fun pc L st μ h => h
  | succ f ih =>
    intro pc L st μ hv
    unfold vcG at hv
    cases hm : memN stop pc with
    | true => rw [hm] at hv; exact hv
    | false =>
      rw [hm] at hv
      exact vg_step X hT ih hv
theorem vg1_snd (X : aX p s m args meth c R cells slots cc own nL ad D cI cC cG A0) {T : tE} (hT : okTg own cc ret nL R.frames R.locals T = true) {stop : List Nat} (f : Nat) {pc : Nat} {L : Lc} {st : List AV} {μ : Mem} (hv : vc1 (aG p l e R s m args below meth c cells slots QW nL ad D cI cC cG A0) (fun _ _ => False) T stop f pc L st μ) : aG p l e R s m args below meth c cells slots QW nL ad D cI cC cG A0 pc L st μ := vg_step X hT (vg_snd X hT f) hv
end GW
/-- ClockedGameModel.<init>, from pc 55 on -/
def T_123 : tE := [none, none, none, none, none, none, none, none, none, none, none, none, none, none, none, none, none, none, none, none, none, none, none, none, none, none, none, none, none, none, none, none, none, none, none, none, none, none, none, none, none, none, none, none, none, none, none, none, none, none, none, none, none, none, none, some (.aload_n 0, 56, 0, 0, 0, 0), some (.getfield 7, 59, 0, 8, 789, 0), none, none, some (.iconst 0, 60, 0, 0, 0, 0), some (.sipush 1000, 63, 0, 0, 0, 1000), none, none, some (.iastore, 64, 0, 0, 0, 0), some (.aload_n 0, 65, 0, 0, 0, 0), some (.getfield 7, 68, 0, 8, 789, 0), none, none, some (.iconst 1, 69, 0, 0, 0, 1), some (.bipush 10, 71, 0, 0, 0, 10), none, some (.iastore, 72, 0, 0, 0, 0), some (.aload_n 0, 73, 0, 0, 0, 0), some (.getfield 7, 76, 0, 8, 789, 0), none, none, some (.bipush 6, 78, 0, 0, 0, 6), none, some (.iconst 2, 79, 0, 0, 0, 2), some (.iastore, 80, 0, 0, 0, 0), some (.aload_n 0, 81, 0, 0, 0, 0), some (.invokevirtual 28, 84, 127, 1, 784, 8)]
set_option maxRecDepth 100000 in
set_option maxHeartbeats 4000000 in
theorem ok_123 : okTg (mY 123).cls (mB 123) none 1 (mR 123).frames (mR 123).locals T_123 = true := by decide +kernel
set_option maxRecDepth 100000 in
theorem t_123 : tat T_123 55 = some (.aload_n 0, 56, 0, 0, 0, 0) ∧ tat T_123 56 = some (.getfield 7, 59, 0, 8, 789, 0) ∧ tat T_123 59 = some (.iconst 0, 60, 0, 0, 0, 0) ∧ tat T_123 60 = some (.sipush 1000, 63, 0, 0, 0, 1000) ∧ tat T_123 63 = some (.iastore, 64, 0, 0, 0, 0) ∧ tat T_123 64 = some (.aload_n 0, 65, 0, 0, 0, 0) ∧ tat T_123 65 = some (.getfield 7, 68, 0, 8, 789, 0) ∧ tat T_123 68 = some (.iconst 1, 69, 0, 0, 0, 1) ∧ tat T_123 69 = some (.bipush 10, 71, 0, 0, 0, 10) ∧ tat T_123 71 = some (.iastore, 72, 0, 0, 0, 0) ∧ tat T_123 72 = some (.aload_n 0, 73, 0, 0, 0, 0) ∧ tat T_123 73 = some (.getfield 7, 76, 0, 8, 789, 0) ∧ tat T_123 76 = some (.bipush 6, 78, 0, 0, 0, 6) ∧ tat T_123 78 = some (.iconst 2, 79, 0, 0, 0, 2) ∧ tat T_123 79 = some (.iastore, 80, 0, 0, 0, 0) ∧ tat T_123 80 = some (.aload_n 0, 81, 0, 0, 0, 0) ∧ tat T_123 81 = some (.invokevirtual 28, 84, 127, 1, 784, 8) := ⟨rfl, rfl, rfl, rfl, rfl, rfl, rfl, rfl, rfl, rfl, rfl, rfl, rfl, rfl, rfl, rfl, rfl⟩
/-- the reference's rows as its constructor leaves them -/
def vMR : Rw := u1 (u1 (u1 (fun _ => 0) 0 1000) 1 10) 6 2
theorem vM_bg : bgF vMR = vIR := by
  have e0 : vMR 0 = 1000 := rfl
  have f0 : v1R 0 = 1000 := rfl
  funext j
  unfold vIR bgF
  rw [e0, f0]
  by_cases h7 : 7 ≤ j ∧ j < 2120
  · (repeat' split) <;> first | rfl | omega
  · have : vMR j = v1R j := by
      unfold vMR v1R u1 iniV
      (repeat' split) <;> first | rfl | omega
    rw [this]
theorem md_walk {G : aK} {μ : Mem} (h6 : μ 6 = fun _ => 0) (hG : G 84 [some (aR 5)] [] (sR μ 6 vIR)) : vc1 G (fun _ _ => False) T_123 [84] 60 55 [some (aR 5)] [] μ := by
  (simp (disch := omega) only [vc_s, sel_t, sel_f, vc_1, mn_0, mn_s, e_kc, e_lg0, e_lgs, e_ls0, e_lss, e_lc0, e_lcs, e_ls2, e_nlg0, e_nlgI, e_nvI, e_nvR, e_nvN, e_nv0, e_xI, e_xR, e_xN, e_xL, si_iload, si_iload_n, si_aload, si_aload_n, si_lload, si_lload_n, si_iconst, si_bipush, si_sipush, si_ldc, si_ldc2_w, si_aconst_null, si_istore, si_istore_n, si_astore, si_astore_n, si_astoreN, si_astore_nN, si_lstore, si_lstore_n, e_xInc, si_iinc, si_dupI, si_dupR, si_popI, si_popR, si_dup2, si_iadd, si_isub, si_imul, si_idiv, si_irem, si_ineg, si_i2c, si_i2l, si_ladd, si_lmul, si_goto, si_zeq, si_zne, si_zlt, si_zge, si_zgt, si_zle, si_ceq, si_cne, si_clt, si_cge, si_cgt, si_cle, si_ifnull, si_ifnullN, e_ts0, e_tss, si_tableswitch, si_getfield, e_gf, e_f0, e_fr, e_fs, si_putfield, e_pf, e_p0, e_ps, si_getstatic, si_arraylength, e_al, si_iaload, e_ia0, e_ia3, si_caload, e_ca, si_aaload, e_aa, si_iastore, e_is, si_castore, e_cs, e_rcv, e_rcS, si_invokevirtual, e_cp, si_invokestatic, e_sv, e_smax, e_smin, e_scp, si_ireturn, si_lreturn, si_areturn, si_areturnN, si_return_, mkL, List.map_cons, List.map_nil, List.length_cons, List.length_nil, Nat.reduceAdd, Nat.reduceSub, List.reduceReplicate, List.cons_append, List.nil_append, List.append_nil, Nat.reduceBEq, Bool.or_false, Bool.false_or, Bool.or_true, Bool.true_or, cond_false, cond_true, Nat.reduceEqDiff, reduceIte, List.take_succ_cons, List.take_zero, List.drop_succ_cons, List.drop_zero, List.reverse_cons, List.reverse_nil, Nat.reduceLeDiff, Nat.le_refl, true_and, and_true, Option.toList_some, Option.toList_none, Int.reduceToNat, Nat.zero_le, Int.reduceNatCast, Int.reduceNatCast', true_or, or_true, false_or, or_false, false_and, and_false, Int.reduceEq, Int.reduceLT, Int.reduceLE, Int.reduceNeg, imp_self, not_true, not_false_eq_true, false_implies, true_implies, implies_true, Int.reduceAdd, Int.reduceSub, Int.reduceMul, Int.reduceDiv, Int.reduceMod, stM_eq, cpM_eq, sR_eq, sR_sR, sh_0, sh_1, sh_2, sh_3, sh_4, sh_5, sh_6, sh_7, sh_8, sh_9, sh_10, sh_11, sh_st1, sh_st2, inR, Int.le_refl, t_123, u1_eq, u1_ne, sR_ne, hs, h6]; repeat' first | (apply And.intro; focus omega) | with_reducible intro _)
  refine c_begins sR_eq ?_
  rw [show u1 (u1 (u1 (fun _ => 0) 0 1000) 1 10) 6 2 = vMR from rfl, vM_bg]
  (simp (disch := omega) only [vc_s, sel_t, sel_f, vc_1, mn_0, mn_s, e_kc, e_lg0, e_lgs, e_ls0, e_lss, e_lc0, e_lcs, e_ls2, e_nlg0, e_nlgI, e_nvI, e_nvR, e_nvN, e_nv0, e_xI, e_xR, e_xN, e_xL, si_iload, si_iload_n, si_aload, si_aload_n, si_lload, si_lload_n, si_iconst, si_bipush, si_sipush, si_ldc, si_ldc2_w, si_aconst_null, si_istore, si_istore_n, si_astore, si_astore_n, si_astoreN, si_astore_nN, si_lstore, si_lstore_n, e_xInc, si_iinc, si_dupI, si_dupR, si_popI, si_popR, si_dup2, si_iadd, si_isub, si_imul, si_idiv, si_irem, si_ineg, si_i2c, si_i2l, si_ladd, si_lmul, si_goto, si_zeq, si_zne, si_zlt, si_zge, si_zgt, si_zle, si_ceq, si_cne, si_clt, si_cge, si_cgt, si_cle, si_ifnull, si_ifnullN, e_ts0, e_tss, si_tableswitch, si_getfield, e_gf, e_f0, e_fr, e_fs, si_putfield, e_pf, e_p0, e_ps, si_getstatic, si_arraylength, e_al, si_iaload, e_ia0, e_ia3, si_caload, e_ca, si_aaload, e_aa, si_iastore, e_is, si_castore, e_cs, e_rcv, e_rcS, si_invokevirtual, e_cp, si_invokestatic, e_sv, e_smax, e_smin, e_scp, si_ireturn, si_lreturn, si_areturn, si_areturnN, si_return_, mkL, List.map_cons, List.map_nil, List.length_cons, List.length_nil, Nat.reduceAdd, Nat.reduceSub, List.reduceReplicate, List.cons_append, List.nil_append, List.append_nil, Nat.reduceBEq, Bool.or_false, Bool.false_or, Bool.or_true, Bool.true_or, cond_false, cond_true, Nat.reduceEqDiff, reduceIte, List.take_succ_cons, List.take_zero, List.drop_succ_cons, List.drop_zero, List.reverse_cons, List.reverse_nil, Nat.reduceLeDiff, Nat.le_refl, true_and, and_true, Option.toList_some, Option.toList_none, Int.reduceToNat, Nat.zero_le, Int.reduceNatCast, Int.reduceNatCast', true_or, or_true, false_or, or_false, false_and, and_false, Int.reduceEq, Int.reduceLT, Int.reduceLE, Int.reduceNeg, imp_self, not_true, not_false_eq_true, false_implies, true_implies, implies_true, Int.reduceAdd, Int.reduceSub, Int.reduceMul, Int.reduceDiv, Int.reduceMod, stM_eq, cpM_eq, sR_eq, sR_sR, sh_0, sh_1, sh_2, sh_3, sh_4, sh_5, sh_6, sh_7, sh_8, sh_9, sh_10, sh_11, sh_st1, sh_st2, inR, Int.le_refl, t_123, u1_eq, u1_ne, sR_ne, hs, h6]; repeat' first | (apply And.intro; focus omega) | with_reducible intro _)
  exact hG
def adM (h0 q1 q2 q3 q4 q5 q6 : Nat) (adc : Nat → Nat) : Nat → Nat := fun k => match k with
  | 5 => h0
  | 6 => q1
  | 7 => q2
  | 8 => q3
  | 9 => q4
  | 10 => q5
  | 11 => q6
  | k => adc k
def mmM (μc : Mem) : Mem := fun k => if 5 ≤ k ∧ k < 12 then fun _ => 0 else μc k
theorem adM_o {h0 q1 q2 q3 q4 q5 q6 k : Nat} {adc : Nat → Nat} (h : k < 5 ∨ 12 ≤ k) : adM h0 q1 q2 q3 q4 q5 q6 adc k = adc k := by
  unfold adM
  split <;> first | rfl | omega
theorem mmM_o {μc : Mem} {k : Nat} (h : k < 5 ∨ 12 ≤ k) : mmM μc k = μc k := by
  unfold mmM
  rw [if_neg (by omega)]
theorem cellE_o {ad ad' : Nat → Nat} {μ μ' : Mem} {cI cC cG : ClassId} {k : Nat} (hk : k < 5 ∨ (12 ≤ k ∧ k < 116)) (ha : ∀ j, j < 5 ∨ 12 ≤ j → ad' j = ad j) (hm : μ' k = μ k) : cellE ad' cI cC cG μ' k = cellE ad cI cC cG μ k := by
  have aa : ∀ j, 12 ≤ j → ad' j = ad j := fun j hj => ha j (Or.inr hj)
  rcases hk with h5 | h12
  · have b2 := ha 2 (by omega)
    have b3 := ha 3 (by omega)
    have b1 := ha 1 (by omega)
    have b4 := ha 4 (by omega)
    have c1 := aa 12 (by omega)
    have c2 := aa 25 (by omega)
    have hg : (fun j => some (ad' (gHist j))) = fun j => some (ad (gHist j)) := funext fun j => by rw [aa (gHist j) (by unfold gHist; omega)]
    unfold cellE
    rw [hm]
    rcases (show k = 0 ∨ k = 1 ∨ k = 2 ∨ k = 3 ∨ k = 4 by omega) with h | h | h | h | h <;> subst h
    · simp only [sh_0, mkF, b1, b3, c1, c2]
    · simp only [sh_1, mkF, b2]
    · simp only [sh_2, hg]
    · simp only [sh_3, mkF, b4]
    · simp only [sh_4]
  · obtain ⟨g, j, hg, hj, rfl⟩ : ∃ g j, g < 8 ∧ j < 13 ∧ k = 12 + 13 * g + j := ⟨(k - 12) / 13, (k - 12) % 13, by omega, by omega, by omega⟩
    have e1 := shp_g hg hj
    unfold cellE
    rw [e1, hm]
    rcases (show j = 0 ∨ j = 1 ∨ j = 2 ∨ j = 3 ∨ j = 4 ∨ j = 5 ∨ j = 6 ∨ j = 7 ∨ j = 8 ∨ j = 9 ∨ j = 10 ∨ j = 11 ∨ j = 12 by omega) with h | h | h | h | h | h | h | h | h | h | h | h | h <;> subst h <;> simp (disch := omega) only [gshp, mkF, aa]
abbrev oM (q1 q2 q3 q4 q5 q6 : Nat) : va_E := .inr (8, [.ref q1, .ref q2, .ref q3, .int 0, .ref q4, .int 0, .ref q5, .int 0, .int 0, .ref q6, .int 0])
abbrev zI (cI : ClassId) (n : Nat) : va_E := .inl (cI, n, .inl (fun _ => 0))
def mdL (h0 q1 q2 q3 q4 q5 q6 : Nat) (cI : ClassId) (w : va_W) : va_W := (h0, oM q1 q2 q3 q4 q5 q6) :: ((((((w ++ [(q1, zI cI 2120)]) ++ [(q2, zI cI 2120)]) ++ [(q3, zI cI 12720)]) ++ [(q4, zI cI 24)]) ++ [(q5, zI cI 100)]) ++ [(q6, zI cI 60)])
theorem clW_get {ad : Nat → Nat} {cI cC cG : ClassId} {μ : Mem} {k : Nat} (hk : k < 5 ∨ (12 ≤ k ∧ k < 116)) : (clW ad cI cC cG μ)[if k < 5 then k else k - 7]? = some (ad k, cellE ad cI cC cG μ k) := by
  unfold clW clK
  rw [List.getElem?_map]
  by_cases h : k < 5
  · rw [if_pos h, List.getElem?_append_left (by simp; omega)]
    rcases (show k = 0 ∨ k = 1 ∨ k = 2 ∨ k = 3 ∨ k = 4 by omega) with h | h | h | h | h <;> subst h <;> rfl
  · rw [if_neg h, List.getElem?_append_right (by simp; omega)]
    simp only [List.length_cons, List.length_nil, List.getElem?_map]
    rw [List.getElem?_range (by omega)]
    simp only [Option.map_some]
    rw [show 12 + (k - 7 - (0 + 1 + 1 + 1 + 1 + 1)) = k by omega]
theorem clW_len {ad : Nat → Nat} {cI cC cG : ClassId} {μ : Mem} : (clW ad cI cC cG μ).length = 109 := by simp [clW, clK]
theorem m_conv {D : va_G} {h0 q1 q2 q3 q4 q5 q6 : Nat} {adc : Nat → Nat} {μc : Mem} {cI cC cG : ClassId} : (∀ H, va_P D vwCl (mdL h0 q1 q2 q3 q4 q5 q6 cI (clW adc cI cC cG μc)) H → va_P D vwCl (ww (adM h0 q1 q2 q3 q4 q5 q6 adc) cI cC cG (mmM μc)) H) ∧ ∀ A, va_D A (mdL h0 q1 q2 q3 q4 q5 q6 cI (clW adc cI cC cG μc)) → va_D A (ww (adM h0 q1 q2 q3 q4 q5 q6 adc) cI cC cG (mmM μc)) := by
  have hl : (clW adc cI cC cG μc).length = 109 := clW_len
  generalize hw : clW adc cI cC cG μc = w at *
  have L0 : ∀ k, k < 109 → (mdL h0 q1 q2 q3 q4 q5 q6 cI w)[k + 1]? = w[k]? := by
    intro k hk
    unfold mdL
    rw [List.getElem?_cons_succ, List.getElem?_append_left (by simp [hl]; omega), List.getElem?_append_left (by simp [hl]; omega), List.getElem?_append_left (by simp [hl]; omega), List.getElem?_append_left (by simp [hl]; omega), List.getElem?_append_left (by simp [hl]; omega), List.getElem?_append_left (by omega)]
  have snoc : ∀ (v : va_W) (x : Nat × va_E) (n : Nat), v.length = n → (v ++ [x])[n]? = some x := by
    intro v x n hn
    rw [List.getElem?_append_right (by omega), hn, Nat.sub_self]
    rfl
  have L1 : (mdL h0 q1 q2 q3 q4 q5 q6 cI w)[110]? = some (q1, zI cI 2120) := by
    unfold mdL
    rw [List.getElem?_cons_succ, List.getElem?_append_left (by simp [hl]), List.getElem?_append_left (by simp [hl]), List.getElem?_append_left (by simp [hl]), List.getElem?_append_left (by simp [hl]), List.getElem?_append_left (by simp [hl])]
    exact snoc _ _ _ hl
  have L2 : (mdL h0 q1 q2 q3 q4 q5 q6 cI w)[111]? = some (q2, zI cI 2120) := by
    unfold mdL
    rw [List.getElem?_cons_succ, List.getElem?_append_left (by simp [hl]), List.getElem?_append_left (by simp [hl]), List.getElem?_append_left (by simp [hl]), List.getElem?_append_left (by simp [hl])]
    exact snoc _ _ _ (by simp [hl])
  have L3 : (mdL h0 q1 q2 q3 q4 q5 q6 cI w)[112]? = some (q3, zI cI 12720) := by
    unfold mdL
    rw [List.getElem?_cons_succ, List.getElem?_append_left (by simp [hl]), List.getElem?_append_left (by simp [hl]), List.getElem?_append_left (by simp [hl])]
    exact snoc _ _ _ (by simp [hl])
  have L4 : (mdL h0 q1 q2 q3 q4 q5 q6 cI w)[113]? = some (q4, zI cI 24) := by
    unfold mdL
    rw [List.getElem?_cons_succ, List.getElem?_append_left (by simp [hl]), List.getElem?_append_left (by simp [hl])]
    exact snoc _ _ _ (by simp [hl])
  have L5 : (mdL h0 q1 q2 q3 q4 q5 q6 cI w)[114]? = some (q5, zI cI 100) := by
    unfold mdL
    rw [List.getElem?_cons_succ, List.getElem?_append_left (by simp [hl])]
    exact snoc _ _ _ (by simp [hl])
  have L6 : (mdL h0 q1 q2 q3 q4 q5 q6 cI w)[115]? = some (q6, zI cI 60) := by
    unfold mdL
    rw [List.getElem?_cons_succ]
    exact snoc _ _ _ (by simp [hl])
  refine w_conv (ks := List.range nCell) (fun k => if k < 5 then k + 1 else if k = 5 then 0 else if k < 12 then k + 104 else k - 6) (fun k hk => ?_) (fun k hk k' hk' h => ?_) List.nodup_range
  · have hk := List.mem_range.mp hk
    unfold nCell at hk
    by_cases ho : k < 5 ∨ 12 ≤ k
    · refine ⟨cellE adc cI cC cG μc k, ?_, fun H h => ?_⟩
      · have g := clW_get (ad := adc) (cI := cI) (cC := cC) (cG := cG) (μ := μc) (k := k) (by omega)
        rw [hw] at g
        show (mdL h0 q1 q2 q3 q4 q5 q6 cI w)[if k < 5 then k + 1 else if k = 5 then 0 else if k < 12 then k + 104 else k - 6]? = some (adM h0 q1 q2 q3 q4 q5 q6 adc k, _)
        rw [adM_o ho]
        by_cases h5 : k < 5
        · rw [if_pos h5] at g ⊢
          rw [L0 k (by omega)]; exact g
        · rw [if_neg h5] at g ⊢
          rw [if_neg (by omega), if_neg (by omega), show k - 6 = (k - 7) + 1 by omega, L0 (k - 7) (by omega)]; exact g
      · show va_at D vwCl (_, cellE _ _ _ _ _ k) H
        rw [cellE_o (ad := adc) (μ := μc) (by omega) (fun j hj => adM_o hj) (mmM_o ho)]
        exact h
    · rcases (show k = 5 ∨ k = 6 ∨ k = 7 ∨ k = 8 ∨ k = 9 ∨ k = 10 ∨ k = 11 by omega) with h | h | h | h | h | h | h <;> subst h
      · exact ⟨oM q1 q2 q3 q4 q5 q6, rfl, fun H h => h⟩
      · exact ⟨zI cI 2120, L1, fun H h => h⟩
      · exact ⟨zI cI 2120, L2, fun H h => h⟩
      · exact ⟨zI cI 12720, L3, fun H h => h⟩
      · exact ⟨zI cI 24, L4, fun H h => h⟩
      · exact ⟨zI cI 100, L5, fun H h => h⟩
      · exact ⟨zI cI 60, L6, fun H h => h⟩
  · have h1 := List.mem_range.mp hk
    have h2 := List.mem_range.mp hk'
    unfold nCell at h1 h2
    (repeat' split at h) <;> omega
def mSh (h0 : Nat) (adc : Nat → Nat) (μc : Mem) (cI cC cG : ClassId) (w : va_W) : Prop := ∃ (ad : Nat → Nat) (μ : Mem), w = ww ad cI cC cG μ ∧ (ad 5 = h0 ∧ ∀ k, k < 5 ∨ 12 ≤ k → ad k = adc k) ∧ (∀ k, k < 5 ∨ 12 ≤ k → μ k = μc k) ∧ aRng μ ∧ (μ 6 = vIR ∧ μ 5 3 = 0 ∧ μ 5 7 = 0) ∧ zo (μ 7)
theorem inj_of {ad : Nat → Nat} {cI cC cG : ClassId} {μ : Mem} {A : Nat → Prop} (h : va_D A (ww ad cI cC cG μ)) : aInj ad ∧ ∀ k, k < nCell → A (ad k) := ⟨fun i j hi hj e => h.1 i j _ _ (ww_get hi) (ww_get hj) e, fun k hk => h.2 k _ (ww_get hk)⟩
theorem mmM_rng {μc : Mem} (h : aRng μc) : aRng (mmM μc) := by
  intro k i
  by_cases ho : k < 5 ∨ 12 ≤ k
  · rw [mmM_o ho]; exact h k i
  · have e : mmM μc k i = 0 := by unfold mmM; rw [if_pos (by omega)]
    rw [e]
    exact ⟨inR_0, fun n _ => by omega⟩
set_option maxRecDepth 100000 in
set_option maxHeartbeats 4000000 in
theorem ct_123 {l : Launch} {h0 : Nat} {ad : Nat → Nat} {D : va_G} {cI cC cG : ClassId} {sz : Nat} {adc : Nat → Nat} {μc : Mem} (hc1 : ∀ k, 116 ≤ k → adc k = ad k) (hc2 : aRng μc) : ctM l 123 h0 ad D cI cC cG ((h0, .inr (8, blk 8)) :: clW adc cI cC cG μc) sz (mSh h0 adc μc cI cC cG) 6 17144 := by
  refine ct_of (by decide) (by decide +kernel) (by decide +kernel) (fun p e s m args below meth c ls X hE hA hl => ?_)
  have hl0 := lv_at hl 0 rfl
  have hK := hE.1
  have hls : ls.size = mL 123 := hl.1
  generalize hA9 : va_A ((h0, .inr (8, blk 8)) :: clW adc cI cC cG μc) sz = A9 at *
  refine cw_al0 X (by decide +kernel) hl0 ?_
  refine cw_obj X (k := 1) (w := 783) (by decide +kernel) (by decide +kernel) hls (by decide +kernel) (by decide +kernel) ?_
  refine cw_al0 X (by decide +kernel) hl0 ?_
  refine cw_si X (k := 2120) (v := 2120) (by decide +kernel) (by decide +kernel) ?_
  refine cw_newI X hK hA (N := 2120) (by decide +kernel) (by decide +kernel) (by decide +kernel) (by decide +kernel) (Nat.le_of_ble_eq_true rfl) (Nat.le_of_ble_eq_true rfl) (fun q1 => ?_)
  refine cw_putF X hK (ci := 8) (i := 0) (k := 7) (w := 789) (r := .array .int) (by decide +kernel) rfl (by decide) (by decide +kernel) rfl rfl (by decide +kernel) (by decide +kernel) rfl rfl (Nat.le_of_ble_eq_true rfl) ?_
  refine cw_al0 X (by decide +kernel) hl0 ?_
  refine cw_si X (k := 2120) (v := 2120) (by decide +kernel) (by decide +kernel) ?_
  refine cw_newI X hK hA (N := 2120) (by decide +kernel) (by decide +kernel) (by decide +kernel) (by decide +kernel) (Nat.le_of_ble_eq_true rfl) (Nat.le_of_ble_eq_true rfl) (fun q2 => ?_)
  refine cw_putF X hK (ci := 8) (i := 1) (k := 13) (w := 790) (r := .array .int) (by decide +kernel) rfl (by decide) (by decide +kernel) rfl rfl (by decide +kernel) (by decide +kernel) rfl rfl (Nat.le_of_ble_eq_true rfl) ?_
  refine cw_al0 X (by decide +kernel) hl0 ?_
  refine cw_si X (k := 12720) (v := 12720) (by decide +kernel) (by decide +kernel) ?_
  refine cw_newI X hK hA (N := 12720) (by decide +kernel) (by decide +kernel) (by decide +kernel) (by decide +kernel) (Nat.le_of_ble_eq_true rfl) (Nat.le_of_ble_eq_true rfl) (fun q3 => ?_)
  refine cw_putF X hK (ci := 8) (i := 2) (k := 16) (w := 791) (r := .array .int) (by decide +kernel) rfl (by decide) (by decide +kernel) rfl rfl (by decide +kernel) (by decide +kernel) rfl rfl (Nat.le_of_ble_eq_true rfl) ?_
  refine cw_al0 X (by decide +kernel) hl0 ?_
  refine cw_bi X (k := 24) (v := 24) (by decide +kernel) (by decide +kernel) ?_
  refine cw_newI X hK hA (N := 24) (by decide +kernel) (by decide +kernel) (by decide +kernel) (by decide +kernel) (Nat.le_of_ble_eq_true rfl) (Nat.le_of_ble_eq_true rfl) (fun q4 => ?_)
  refine cw_putF X hK (ci := 8) (i := 4) (k := 19) (w := 793) (r := .array .int) (by decide +kernel) rfl (by decide) (by decide +kernel) rfl rfl (by decide +kernel) (by decide +kernel) rfl rfl (Nat.le_of_ble_eq_true rfl) ?_
  refine cw_al0 X (by decide +kernel) hl0 ?_
  refine cw_bi X (k := 100) (v := 100) (by decide +kernel) (by decide +kernel) ?_
  refine cw_newI X hK hA (N := 100) (by decide +kernel) (by decide +kernel) (by decide +kernel) (by decide +kernel) (Nat.le_of_ble_eq_true rfl) (Nat.le_of_ble_eq_true rfl) (fun q5 => ?_)
  refine cw_putF X hK (ci := 8) (i := 6) (k := 22) (w := 795) (r := .array .int) (by decide +kernel) rfl (by decide) (by decide +kernel) rfl rfl (by decide +kernel) (by decide +kernel) rfl rfl (Nat.le_of_ble_eq_true rfl) ?_
  refine cw_al0 X (by decide +kernel) hl0 ?_
  refine cw_bi X (k := 60) (v := 60) (by decide +kernel) (by decide +kernel) ?_
  refine cw_newI X hK hA (N := 60) (by decide +kernel) (by decide +kernel) (by decide +kernel) (by decide +kernel) (Nat.le_of_ble_eq_true rfl) (Nat.le_of_ble_eq_true rfl) (fun q6 => ?_)
  refine cw_putF X hK (ci := 8) (i := 9) (k := 25) (w := 798) (r := .array .int) (by decide +kernel) rfl (by decide) (by decide +kernel) rfl rfl (by decide +kernel) (by decide +kernel) rfl rfl (Nat.le_of_ble_eq_true rfl) ?_
  refine cw_conv (m_conv (h0 := h0) (q1 := q1) (q2 := q2) (q3 := q3) (q4 := q4) (q5 := q5) (q6 := q6) (adc := adc) (μc := μc) (cI := cI) (cC := cC) (cG := cG)) ?_
  intro H locs hP hD hS
  generalize hadg : adM h0 q1 q2 q3 q4 q5 q6 adc = adg at hP hD
  have a5 : adg 5 = h0 := by rw [← hadg]; rfl
  have ao : ∀ k, k < 5 ∨ 12 ≤ k → adg k = adc k := fun k hk => by rw [← hadg]; exact adM_o hk
  obtain ⟨hI, hA0⟩ := inj_of hD
  obtain ⟨⟨hx, hb, hml, hown, hts⟩, h2, h3, h4⟩ := X
  obtain ⟨_, ⟨hSt, _⟩, hNs, _⟩ := hE
  have hSt2 : aStat adg A9 s s.heap := by
    unfold aStat
    rw [ao 1001 (by omega), ao 1002 (by omega), hc1 1001 (by omega), hc1 1002 (by omega)]
    exact hSt
  have XG : aX p s m args meth c (rC 123 6 17144) 6 17144 (mB 123) (mY 123).cls 1 adg D cI cC cG A9 := ⟨⟨hx, hb, by rw [hml]; decide +kernel, hown, hts⟩, hK, hSt2, hNs, hA0, hI, Nat.le_refl _, Nat.le_refl _⟩
  have h6 : mmM μc 6 = fun _ => 0 := rfl
  refine W.widen (k := 6) (n := 17144) (Nat.le_of_ble_eq_true rfl) (Nat.le_of_ble_eq_true rfl) ?_
  refine vg1_snd (T := T_123) (ret := none) XG ok_123 (stop := [84]) 60 (md_walk h6 ?_) H locs ls hP hS ⟨by rw [hls]; decide +kernel, hl.2.1, fun i v hi => ?_⟩ (mmM_rng hc2) (fun v hv => absurd hv List.not_mem_nil)
  · intro H1 locs1 ls1 hP1 hS1 hL1 hR1 hst1
    refine W.vret hx hb (h2.trans (by decide +kernel)) (fun t ht hW => ⟨⟨ww adg cI cC cG (sR (mmM μc) 6 vIR), rfl, ⟨adg, _, rfl, ⟨a5, ao⟩, fun k hk => by rw [sR_ne (by omega)]; exact mmM_o hk, hR1, ⟨sR_eq, rfl, rfl⟩, fun k hk => rfl⟩, by rw [ht]; exact hP1, aD hI hA0⟩, hS1.F ht⟩) hS1.2.2 (by decide +kernel) h3
  · cases i with
    | zero =>
      have hv : aR 5 = v := by simpa [lget] using hi
      rw [← hv]
      refine ⟨?_, trivial⟩
      show ls[0]? = some (.val (.ref (adg 5)))
      rw [a5]; exact hl0
    | succ i => simp [lget] at hi
