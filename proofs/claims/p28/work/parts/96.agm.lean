/-! p28: 'agrees' as a method: it makes a row of two numbers, and forgets it -/
theorem shp_r5 {k ci : Nat} {fs : List (Option Nat)} (h : shp k = .inl (ci, fs)) : ∀ r, some r ∈ fs → r ≠ 5 := by
  intro r hr
  unfold shp at h
  split at h
  · rename_i hk
    rcases (show k = 0 ∨ k = 1 ∨ k = 2 ∨ k = 3 ∨ k = 4 ∨ k = 5 ∨ k = 6 ∨ k = 7 ∨ k = 8 ∨ k = 9 ∨ k = 10 ∨ k = 11 by omega) with e | e | e | e | e | e | e | e | e | e | e | e <;> subst e <;> cases h <;> simp at hr <;> omega
  · split at h
    · have hb : 12 ≤ k - (k - 12) % 13 := by omega
      have hj : (k - 12) % 13 < 13 := by omega
      generalize k - (k - 12) % 13 = b at *
      generalize (k - 12) % 13 = j at *
      rcases (show j = 0 ∨ j = 1 ∨ j = 2 ∨ j = 3 ∨ j = 4 ∨ j = 5 ∨ j = 6 ∨ j = 7 ∨ j = 8 ∨ j = 9 ∨ j = 10 ∨ j = 11 ∨ j = 12 by omega) with e | e | e | e | e | e | e | e | e | e | e | e | e <;> subst e <;> cases h <;> simp at hr <;> omega
    · cases h
theorem mkF_cg {ad ad' : Nat → Nat} {row : Int → Int} : ∀ (fs : List (Option Nat)) (i : Int), (∀ r, some r ∈ fs → ad' r = ad r) → mkF ad' row fs i = mkF ad row fs i
  | [], _, _ => rfl
  | none :: fs, i, h => by
    show Value.int (i32 (row i)) :: mkF ad' row fs (i + 1) = Value.int (i32 (row i)) :: mkF ad row fs (i + 1)
    rw [mkF_cg fs (i + 1) (fun r hr => h r (List.mem_cons_of_mem _ hr))]
  | some r :: fs, i, h => by
    show Value.ref (ad' r) :: mkF ad' row fs (i + 1) = Value.ref (ad r) :: mkF ad row fs (i + 1)
    rw [mkF_cg fs (i + 1) (fun r hr => h r (List.mem_cons_of_mem _ hr)), h r List.mem_cons_self]
theorem cellE_5 {ad ad' : Nat → Nat} {cI cC cG : ClassId} {μ μ' : Mem} {k : Nat} (hk : inC k) (ha : ∀ j, j ≠ 5 → ad' j = ad j) (hm : eqm μ' μ) : cellE ad' cI cC cG μ' k = cellE ad cI cC cG μ k := by
  have hk5 : k ≠ 5 ∧ k ≠ 6 := by unfold inC at hk; omega
  unfold cellE
  rw [hm k hk5.1 hk5.2]
  cases hs : shp k with
  | inl q =>
    obtain ⟨ci, fs⟩ := q
    simp only []
    rw [mkF_cg fs 0 (fun r hr => ha r (shp_r5 hs r hr))]
  | inr q =>
    obtain ⟨d, n⟩ := q
    rcases (show d = 0 ∨ d = 1 ∨ 2 ≤ d by omega) with e | e | e
    · subst e; rfl
    · subst e; rfl
    · obtain ⟨d, rfl⟩ : ∃ j, d = j + 2 := ⟨d - 2, by omega⟩
      simp only []
      have : (fun j : Nat => some (ad' (gHist j))) = fun j : Nat => some (ad (gHist j)) := funext fun j => by rw [ha _ (by unfold gHist; omega)]
      rw [this]
theorem clW_5 {ad ad' : Nat → Nat} {cI cC cG : ClassId} {μ μ' : Mem} (ha : ∀ j, j ≠ 5 → ad' j = ad j) (hm : eqm μ' μ) : clW ad' cI cC cG μ' = clW ad cI cC cG μ := by
  unfold clW
  refine List.map_congr_left (fun k hk => ?_)
  obtain ⟨i, hi⟩ := List.mem_iff_getElem?.mp hk
  have hc := (clK_of hi).1
  rw [cellE_5 hc ha hm, ha k (by unfold inC at hc; omega)]
theorem ww_no {ad : Nat → Nat} {cI cC cG : ClassId} {μ : Mem} (h : μ 6 0 ≠ 1) : ww ad cI cC cG μ = clW ad cI cC cG μ := by
  unfold ww pcW
  rw [if_neg h, List.append_nil]
theorem ww_yes {ad : Nat → Nat} {cI cC cG : ClassId} {μ : Mem} (h : μ 6 0 = 1) : ww ad cI cC cG μ = clW ad cI cC cG μ ++ [(ad 5, .inl (cI, 2, .inl (fun j => i32 (μ 5 j))))] := by
  unfold ww pcW
  rw [if_pos h]
theorem ww_5 {ad : Nat → Nat} {cI cC cG : ClassId} {μ : Mem} (h : μ 6 0 = 1) : (ww ad cI cC cG μ)[109]? = some (ad 5, .inl (cI, 2, .inl (fun j : Nat => i32 (μ 5 j)))) := by
  rw [ww_yes h, List.getElem?_append_right (by rw [clW_len]; omega), clW_len]
  rfl
theorem ww_set5 {ad : Nat → Nat} {cI cC cG : ClassId} {μ : Mem} {i x : Int} (h : μ 6 0 = 1) : (ww ad cI cC cG μ).set 109 (ad 5, .inl (cI, 2, .inl (fun j : Nat => i32 (sR μ 5 (u1 (μ 5) i x) 5 j)))) = ww ad cI cC cG (sR μ 5 (u1 (μ 5) i x)) := by
  have h' : sR μ 5 (u1 (μ 5) i x) 6 0 = 1 := by rw [sR_ne (by omega)]; exact h
  rw [ww_yes h, ww_yes h', clW_5 (ad := ad) (ad' := ad) (μ := μ) (μ' := sR μ 5 (u1 (μ 5) i x)) (fun _ _ => rfl) (fun k h1 h2 => sR_ne h1)]
  rw [List.set_append_right _ _ (by rw [clW_len]; omega), clW_len]
  rfl
set_option maxRecDepth 100000 in
set_option maxHeartbeats 4000000 in
theorem ok_185g : okTg (mY 185).cls (mB 185) (some .boolean) 13 (mR 185).frames (mR 185).locals T_185 = true := by
  have h := ok_185
  unfold okT at h
  rw [mt_185, ml_185] at h
  exact h
section AGM
variable {p : Program} {l : Launch} {e : Env} {R : Room} {s : State} {m : MethodId} {args : Array Value} {below : List Frame} {meth : Method} {c : Code} {cells slots : Nat} {QW : State → Prop} {cc : ByteArray} {own : String} {nL : Nat} {ret : Option FieldType} {ad : Nat → Nat} {D : va_G} {cI cC cG : ClassId} {A0 : Nat → Prop}
theorem AI_of (X : aX p s m args meth c R cells slots (mB 185) (mY 185).cls 13 ad D cI cC cG A0) (hfr : R.frames = (mR 185).frames) (hlo : R.locals = (mR 185).locals) {μ0 : Mem} (hret : ∀ (L : Lc) (μ : Mem), eqm μ μ0 → aG p l e R s m args below meth c cells slots QW 13 ad D cI cC cG A0 598 L [aI 1] μ) : AI (aG p l e R s m args below meth c cells slots QW 13 ad D cI cC cG A0) μ0 := by
  have X0 := X
  obtain ⟨⟨hx, hb, hml, hown, hts⟩, hKn, hSt, hNs, hA, hI, hc, hsl⟩ := X
  refine ⟨fun stop f pc L st μ h => vg1_snd (ret := some .boolean) X0 (by rw [hfr, hlo]; exact ok_185g) f h, fun pc i L st μ hp h0 h1 h6 h => ?_, fun i x L st μ h0 h1 h6 h => ?_, fun L st μ h => ag_fc0 X0 fd_185_487 h, fun pc x L st μ hp h => ?_, fun x y L st μ hn h => ag_fdiv X0 fd_185_502 hn h, fun x L st μ hg h => ag_fstore X0 fd_185_503 hg (by omega) h, fun x L st μ hl h => ag_fload X0 fd_185_528 hl h, fun x L st μ hn h => ag_fcmp X0 fd_185_530 hn h, hret⟩
  · intro H locs ls hP hS hL hR hst
    have hd : decode (mB 185) pc = .ok (.iaload, 1) := by
      rcases hp with rfl | rfl | rfl
      · exact fd_185_47
      · exact fd_185_318
      · exact fd_185_331
    have ri : inR i := wf_h hst
    have kk := h H locs ls hP hS hL hR (wf_c (hR 5 i).1 (wf_t (wf_t hst)))
    refine va_iald hx hb hKn hP 109 0 (ww_5 h6) rfl (i32_idx h0 ri h1) hd ?_
    rw [i32_toNat ri h0]
    exact kk
  · intro H locs ls hP hS hL hR hst
    have ri : inR i := wf_h (wf_t hst)
    refine va_iast hx hb hKn hP (aD hI hA) hS 109 0 (ww_5 h6) rfl (i32_idx h0 ri h1) fd_185_60 (fun H1 locs1 hP1 _ hS1 => ?_)
    have e : (upd (fun j : Nat => i32 (μ 5 j)) (i32 i).toNatClampNeg (i32 x)) = fun j : Nat => i32 (sR μ 5 (u1 (μ 5) i x) 5 j) := by
      rw [st_arr ri h0, stM_eq]
    rw [e, ww_set5 h6] at hP1
    refine h H1 locs1 ls hP1 hS1 hL ?_ (wf_t (wf_t (wf_t hst)))
    have := stM_rng (k := 5) (i := i) hR (wf_h hst) (fun n hn => by cases hn)
    rw [stM_eq] at this
    exact this
  · rcases hp with rfl | rfl
    · exact ag_i2f X0 fd_185_498 h
    · exact ag_i2f X0 fd_185_501 h
end AGM
/-- what 'agrees' finds -/
def gPre (ad : Nat → Nat) (D : va_G) (cI cC cG : ClassId) (μ : Mem) (sz : Nat) (U : State) : Prop := U.heap.size = sz ∧ va_P D vwCl (ww ad cI cC cG μ) U.heap ∧ va_K D vwCl (aT cI cC cG) U ∧ aStat ad (fun q => aA ad q ∨ sz ≤ q) U U.heap ∧ aNst U ∧ aInj ad ∧ aRng μ
def gPost (ad : Nat → Nat) (D : va_G) (cI cC cG : ClassId) (μ : Mem) (sz : Nat) : Array Value → State → Outcome → State → Prop := fun _ st oc t => (oc = .returned (some (.int 1)) ∧ va_P D vwCl (ww ad cI cC cG μ) t.heap) ∧ va_F (fun q => aA ad q ∨ sz ≤ q) st t
theorem gPre.blind {ad : Nat → Nat} {D : va_G} {cI cC cG : ClassId} {μ : Mem} {sz : Nat} {as : List Value} : FrameBlind (va_Pc as (gPre ad D cI cC cG μ sz)) := by
  intro a U g mk h
  obtain ⟨h0, hz, h1, h2, h3, h4, h5, h6⟩ := h
  exact ⟨h0, hz, h1, va_K.moved (u := U) (U := U.calling g mk a) (Vm.Alike.refl U.vm) h2, aStat.moved (u := U) (U := U.calling g mk a) (Vm.Alike.refl U.vm) h3, aNst.same (u := U) (U := U.calling g mk a) rfl h4, h5, h6⟩
set_option maxRecDepth 100000 in
set_option maxHeartbeats 4000000 in
theorem l_agrees {base : Int} {μ : Mem} {v f : Rw} {n : Int} (h : RK μ v f n) (hv : JJ v) (hx : yY base v) (h6 : μ 6 0 ≠ 1) (l : Launch) (ad : Nat → Nat) (D : va_G) (cI cC cG : ClassId) (sz : Nat) : Met l (mY 185) (mW 185) (rC 185 1 2) (va_Pc [.ref (ad 0)] (gPre ad D cI cC cG μ sz)) (gPost ad D cI cC cG μ sz) 1 2 (fun q => aA ad q ∨ sz ≤ q) := by
  refine Met.ofW (cc := mB 185) (maxL := 13) (ret := some .boolean) ?_ rfl ?_
  · have := (okM_inv (a := 185) (by decide)).1.2
    exact this
  intro p e s m args below meth c s₁ B hml hv0
  obtain ⟨rfl, hsz, hP, hK, hSt, hNs, hI, hR⟩ := hv0
  have hts := atoms_spec (ws := mW 185) B.pre
  have hl := lv_entry ([.ref (ad 0)]) (n := 13) (Nat.le_of_ble_eq_true rfl)
  rw [lg_entry_eq]
  generalize (lg_sl ([.ref (ad 0)]) ++ List.replicate (13 - (lg_sl ([.ref (ad 0)])).length) Slot.unset).toArray = ls at hl ⊢
  have hl : lv_has ls 13 [(0, .ref (ad 0))] := hl
  generalize hA9 : (fun q : Nat => aA ad q ∨ sz ≤ q) = A0 at *
  have hA1 : ∀ q, s.heap.size ≤ q → A0 q := fun q hq => by rw [← hA9]; exact Or.inr (by omega)
  have hA2 : ∀ q, aA ad q → A0 q := fun q hq => by rw [← hA9]; exact Or.inl hq
  have hx0 := B.exec
  have hb := B.bytes
  have hown := findClass_of_methodNamed B.named
  have htg : ∀ w ∈ lw_g, w.before #[Value.ref (ad 0)] s = true := fun w hw => hts w (List.mem_cons_of_mem _ hw)
  have hD : va_D A0 (ww ad cI cC cG μ) := aD hI (fun k hk => hA2 _ ⟨k, hk, rfl⟩)
  refine lv_iconst (n := 2) (v := 2) hx0 hb (cc := mB 185) (by decide +kernel) (by decide) ?_
  have hn2 : ¬ (2 : Int32) < 0 := by decide
  have hN2 : (2 : Int32).toNatClampNeg = 2 := by decide
  refine va_newa (atype := .int) (ty := .int) hx0 hb (htg (.arrayClass .int) (gd (by decide +kernel) rfl)) rfl hK hP hD va_S.rf hA1 (a0 := (2, .inl (fun _ => 0))) (fun cA => rfl) hn2 hN2 (by show 2 * 4 ≤ _; omega) (show 0 + 1 ≤ 1 by omega) (show 0 + 2 ≤ 2 by omega) fd_185_1 (fun q cA H1 hK1 hP1 hD1 hS1 => ?_)
  have e1 : s.vm.findClass ("[" ++ (FieldType.int).toString) = some cA := (hK1.2 3 _ rfl).2
  have e2 : s.vm.findClass ("[" ++ (FieldType.int).toString) = some cI := (hK.2 0 _ rfl).2
  have e3 : cA = cI := Option.some.inj (e1.symm.trans e2)
  subst e3
  refine lv_astore_n (lv' := [(1, .ref q), (0, .ref (ad 0))]) hx0 hb (cc := mB 185) (k := 1) (by decide +kernel) rfl hl (by decide) rfl (fun ls' hl' => ?_)
  -- the world with the row
  obtain ⟨ad', had⟩ : ∃ ad' : Nat → Nat, ad' = fun k => if k = 5 then q else ad k := ⟨_, rfl⟩
  have a5 : ad' 5 = q := by rw [had]; rfl
  have ao : ∀ k, k ≠ 5 → ad' k = ad k := fun k hk => by rw [had]; exact if_neg hk
  have hem : eqm (sR (sR μ 5 (fun _ => 0)) 6 (fun _ => 1)) μ := fun k h1 h2 => by rw [sR_ne h2, sR_ne h1]
  have ew : ww ad' cA cC cG (sR (sR μ 5 (fun _ => 0)) 6 (fun _ => 1)) = ww ad cA cC cG μ ++ [(q, .inl (cA, 2, .inl (fun _ => 0)))] := by
    rw [ww_no h6, ww_yes (by rw [sR_eq]), clW_5 ao hem, a5]
    rfl
  have hPw : va_P D vwCl (ww ad' cA cC cG (sR (sR μ 5 (fun _ => 0)) 6 (fun _ => 1))) H1 := by rw [ew]; exact hP1
  have hDw : va_D A0 (ww ad' cA cC cG (sR (sR μ 5 (fun _ => 0)) 6 (fun _ => 1))) := by rw [ew]; exact hD1
  have h61 : sR (sR μ 5 (fun _ => 0)) 6 (fun _ => 1) 6 0 = 1 := by rw [sR_eq]
  have hA' : ∀ k, inW k → A0 (ad' k) := by
    intro k hk
    by_cases h5 : k = 5
    · rw [h5]
      exact hDw.2 109 _ (ww_5 h61)
    · exact hDw.2 (cpos k) _ (ww_get (by unfold inW at hk; unfold inC; omega))
  have hI' : aInj ad' := by
    have key : ∀ k, inW k → ∃ x, (ww ad' cA cC cG (sR (sR μ 5 (fun _ => 0)) 6 (fun _ => 1)))[if k = 5 then 109 else cpos k]? = some (ad' k, x) := by
      intro k hk
      by_cases h5 : k = 5
      · rw [if_pos h5, h5]
        exact ⟨_, ww_5 h61⟩
      · rw [if_neg h5]
        exact ⟨_, ww_get (by unfold inW at hk; unfold inC; omega)⟩
    intro i j hi hj hij
    obtain ⟨x, hx1⟩ := key i hi
    obtain ⟨y, hy1⟩ := key j hj
    have := hDw.1 _ _ _ _ hx1 hy1 hij
    unfold inW at hi hj
    unfold cpos at this
    (repeat' split at this) <;> omega
  have hR' : aRng (sR (sR μ 5 (fun _ => 0)) 6 (fun _ => 1)) := by
    intro k i
    by_cases h5 : k = 5
    · rw [h5, sR_ne (by omega), sR_eq]
      exact ⟨inR_0, fun n _ => by omega⟩
    · by_cases h6 : k = 6
      · rw [h6, sR_eq]
        exact ⟨by unfold inR; omega, fun n _ => by omega⟩
      · rw [sR_ne h6, sR_ne h5]
        exact hR k i
  have X : aX p s m #[Value.ref (ad 0)] meth c (rC 185 1 2) (0 + 1) (0 + 2) (mB 185) (mY 185).cls 13 ad' D cA cC cG A0 := by
    refine ⟨⟨hx0, hb, hml, hown, htg⟩, hK, ?_, hNs, hA', hI', by decide, by decide⟩
    unfold aStat
    rw [ao 1001 (by omega), ao 1002 (by omega)]
    exact hSt
  have hfin : ∀ (L : Lc) (μ' : Mem), eqm μ' μ → aG p l e (rC 185 1 2) s m #[Value.ref (ad 0)] below meth c (0 + 1) (0 + 2) (MQ below (gPost ad D cA cC cG μ sz) #[Value.ref (ad 0)] s 1 2 A0) 13 ad' D cA cC cG A0 598 L [aI 1] μ' := by
    intro L μ' hq H2 locs2 ls2 hP2 hS2 hL2 hR2 hst2
    have hPn : va_P D vwCl (ww ad cA cC cG μ) H2 := by
      rw [ww_no h6, ← clW_5 ao hq]
      exact hP2.left
    refine W.zret hx0 hb B.returns rfl (fun t ht _ => ⟨⟨rfl, by rw [ht]; exact hPn⟩, ?_⟩) hS2.2.2 (by decide +kernel) B.notSynchronized
    rw [hA9]
    exact hS2.F ht
  refine ag_all (AI_of X rfl rfl hfin) h hv hx H1 [] ls' hPw hS1 ⟨hl'.1, hl'.2.1, fun i w hi => ?_⟩ hR' (fun w hw => absurd hw List.not_mem_nil)
  have l0 := lv_at hl' 1 rfl
  have l1 := lv_at hl' 0 rfl
  rcases (show i = 0 ∨ i = 1 ∨ 2 ≤ i by omega) with z | z | z
  · subst z
    cases hi
    refine ⟨?_, trivial⟩
    show ls'[0]? = some (.val (.ref (ad' 0)))
    rw [ao 0 (by omega)]; exact l0
  · subst z
    cases hi
    refine ⟨?_, trivial⟩
    show ls'[1]? = some (.val (.ref (ad' 5)))
    rw [a5]; exact l1
  · exfalso
    obtain ⟨j, rfl⟩ : ∃ j, i = j + 2 := ⟨i - 2, by omega⟩
    have hi : lget (List.replicate 11 none) j = some w := hi
    rw [lget_rep 11 j] at hi
    cases hi
