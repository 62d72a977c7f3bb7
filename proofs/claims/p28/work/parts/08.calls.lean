/-! calls, ends, switches, and the step as a whole -/
theorem okM_inv {a : Nat} (ha : a < 190) : (Cond.code (mY a) (mB a) (mL a) (mT a) ∈ lw_tbl ∧ plainName (mY a).cls = true) ∧ Cond.initialized (mY a).cls ∈ lw_tbl ∧
    (if mSt a then Cond.static (mY a) ∈ lw_tbl else Cond.instanceMethod (mY a) ∈ lw_tbl ∧ (mInit a = true ∨ Cond.selects (mY a).cls (mY a) (mY a) ∈ lw_tbl)) ∧
    ((mY a).cls ≠ "java/lang/invoke/MethodHandle" ∧ (mY a).cls ≠ "java/lang/invoke/VarHandle") ∧ (parseMethodDescriptor (mY a).desc).map (fun d => d.parameters.length) = some (mNp a) ∧ (parseMethodDescriptor (mY a).desc).map (fun d => d.returnType) = some (mT a) ∧ (mSt a = true ∨ (vwCl[mCl a]?).map (fun q => q.1) = some (mY a).cls) := by
  have h := okA_190 a ha
  unfold okMb at h
  simp only [Bool.and_eq_true, decide_eq_true_eq] at h
  obtain ⟨⟨⟨⟨⟨⟨⟨⟨h1, h2⟩, h3⟩, h4⟩, h5⟩, h6⟩, h7⟩, h8⟩, h9⟩ := h
  refine ⟨⟨List.mem_of_getElem? (eqCodeO_of h1), h2⟩, List.mem_of_getElem? h3, ?_, ⟨h5, h6⟩, h7, h8, by simpa using h9⟩
  split at h4
  · rename_i e
    rw [if_pos e]
    exact List.mem_of_getElem? (by simpa using h4)
  · rename_i e
    rw [if_neg e]
    simp only [Bool.and_eq_true, Bool.or_eq_true, decide_eq_true_eq] at h4
    exact ⟨List.mem_of_getElem? h4.1, h4.2.imp id (fun z => List.mem_of_getElem? z)⟩
theorem gd {c : Cond} (h : c ∈ lw_tbl) (hg : goodWord c = true) : c ∈ lw_g := List.mem_filter.mpr ⟨h, hg⟩
theorem mW_good (a : Nat) (ha : a < 190) : GoodIn lw_g (mW a) := by
  have h := (okM_inv ha).1.1
  intro w hw
  rcases List.mem_cons.mp hw with rfl | hw
  · exact ⟨gd h rfl, good_of_word rfl⟩
  · exact ⟨hw, good_of_word (List.mem_filter.mp hw).2⟩
section SND3
variable {p : Program} {l : Launch} {e : Env} {R : Room} {s : State} {m : MethodId} {args : Array Value} {below : List Frame} {meth : Method} {c : Code} {cells slots : Nat} {QW : State → Prop} {cc : ByteArray} {own : String} {nL : Nat} {ret : Option FieldType} {ad : Nat → Nat} {D : va_G} {cI cC cG : ClassId} {A0 : Nat → Prop}
theorem okC_inv {idx a b w fr lo : Nat} (h : okC own idx a b w fr lo = true) : a < 190 ∧ (mR a).frames + 1 ≤ fr ∧ 8 + (mL a + 11) + (mR a).locals ≤ lo ∧ (Cond.methodLink own idx (mY a) ∈ lw_g ∨ lkN w (.methodLinkNest own idx (mY a) "ClockedGame") = true) ∧ b = mNp a + (if mSt a then 0 else 1) := by
  unfold okC at h
  simp only [Bool.and_eq_true, Bool.or_eq_true, decide_eq_true_eq] at h
  obtain ⟨⟨⟨⟨h1, h2⟩, h3⟩, h4⟩, h5⟩ := h
  exact ⟨h1, h2, h3, h4.imp lk_in id, h5⟩
/-- the way on behind a call -/
theorem a_back {K : aK} {n b : Nat} {pc : Nat} {L : Lc} {st : List AV} {H : Heap} {locs : List Loc} {ls : Array Slot} {av : Array Value} (hn : n = pc + 3) (hA : ∀ k, inW k → A0 (ad k)) (hK : ∀ pc L st μ, K pc L st μ → aG p l e R s m args below meth c cells slots QW nL ad D cI cC cG A0 pc L st μ) (hS : va_S A0 s.heap H locs) (hL : aLoc ad ls nL L) (hst : ∀ v ∈ st, wfv v)
    (hr : va_Run p l e R s m args below meth c H locs cells slots 0 0 (F0 m pc ls (st.map (conc ad))) ((st.drop b).map (conc ad)) (aQ ad D cI cC cG (kc K n L (st.drop b)) av) (aA ad)) : W p l e R s m args below meth c H locs cells slots QW (F0 m pc ls (st.map (conc ad))) := by
  subst hn
  intro T hT X
  obtain ⟨v, st₀, t, T', L2, h0, X', hL2, e1, e2, ⟨⟨r, μ', hv, hq, hw, hP1, hR1⟩, hz, hk⟩, go⟩ := hr T hT X
  cases hv
  rw [h0] at hz hk
  have hS1 : va_S A0 s.heap T'.heap (locs ++ L2) := by
    refine ⟨Nat.le_trans hS.1 (by rw [e1]; exact hz), fun q h1 h2 => ?_, fun q hq2 => ?_⟩
    · rw [e1, hk q (Nat.lt_of_lt_of_le h1 hS.1) (fun z => h2 (by obtain ⟨k, hk1, hk2⟩ := z; rw [hk2]; exact hA k hk1))]
      exact hS.2.1 q h1 h2
    · rcases List.mem_append.mp hq2 with h | h
      · exact hS.2.2 q h
      · obtain ⟨k, hk1, hk2⟩ := hL2 q h
        rw [hk2]; exact hA k hk1
  have hwf : ∀ v ∈ r.toList ++ st.drop b, wfv v := by
    intro v hv
    rcases List.mem_append.mp hv with h | h
    · exact hw v (by simpa using h)
    · exact hst v (List.mem_of_mem_drop h)
  obtain ⟨t2, a1, b1⟩ := hK _ _ _ _ hq T'.heap (locs ++ L2) ls (by rw [e1]; exact hP1) hS1 hL hR1 hwf T' rfl X'
  refine ⟨t2, go t2 ?_, b1⟩
  have ec : (Option.map (conc ad) r).toList ++ (st.drop b).map (conc ad) = (r.toList ++ st.drop b).map (conc ad) := by
    cases r <;> simp
  show Steps p.tables e below (T'.setTop { method := m, pc := pc + 3, locals := ls, stack := (Option.map (conc ad) r).toList ++ (st.drop b).map (conc ad), locked := none }) t2
  rw [ec]
  exact a1
theorem a_pre {μ : Mem} {H : Heap} {locs : List Loc} {as : List AV} (X : aX p s m args meth c R cells slots cc own nL ad D cI cC cG A0) (hP : va_P D vwCl (ww ad cI cC cG μ) H) (hS : va_S A0 s.heap H locs) (hR : aRng μ) : ∀ U : State, U.heap = H → s.WarmedH U.vm → va_Pc (as.map (conc ad)) (aPre ad D cI cC cG μ) (as.map (conc ad)).toArray U := by
  obtain ⟨⟨hx, hb, hml, hown, hts⟩, hKn, hSt, hNs, hA, hI, hc, hs⟩ := X
  intro U hU hW
  refine ⟨rfl, by rw [hU]; exact hP, va_K.moved hW.alike hKn, ?_, hNs.warm hW, hI, hR⟩
  rw [hU]
  refine ((hSt.kept (fun q h1 h2 => hS.2.1 q h1 h2)).moved hW.alike).narrow (fun q hq => ?_)
  obtain ⟨k, h1, h2⟩ := hq
  rw [h2]; exact hA k h1
theorem st_split {st : List AV} (b : Nat) : st.map (conc ad) = (((st.take b).reverse).map (conc ad)).reverse ++ (st.drop b).map (conc ad) := by
  rw [← List.map_reverse, List.reverse_reverse, ← List.map_append, List.take_append_drop]
theorem sd_static (X : aX p s m args meth c R cells slots cc own nL ad D cI cC cG A0) {K : aK} {n k0 a b w : Nat} {pc : Nat} {L : Lc} {st : List AV} {μ : Mem} (hd : decode cc pc = .ok (.invokestatic k0, 3)) (hn : n = pc + 3) (hC : okC own k0 a b w R.frames R.locals = true) (hs9 : mSt a = true) (hK : ∀ pc L st μ, K pc L st μ → aG p l e R s m args below meth c cells slots QW nL ad D cI cC cG A0 pc L st μ) (h : b ≤ st.length ∧ (st.drop b).length ≤ 4 ∧ wpM a (st.take b).reverse μ (kc K n L (st.drop b))) : aG p l e R s m args below meth c cells slots QW nL ad D cI cC cG A0 pc L st μ := by
  intro H locs ls hP hS hL hR hst
  have X0 := X
  obtain ⟨⟨hx, hb, hml, hown, hts⟩, hKn, hSt, hNs, hA, hI, hc, hs⟩ := X
  obtain ⟨h1, h2, h3⟩ := h
  obtain ⟨ha, hfr, hlo, hlk, hbn⟩ := okC_inv hC
  obtain ⟨⟨o1, o2⟩, o3, o4, o5, o6, o7, o8⟩ := okM_inv ha
  rw [if_pos hs9] at o4 hbn
  have hcs := cat_sum (ad := ad) (st.drop b)
  have hM := h3 (fun v hv => hst v (List.mem_of_mem_take (List.mem_reverse.mp hv))) l ad D cI cC cG
  have hp : PreS s H (va_Pc (((st.take b).reverse).map (conc ad)) (aPre ad D cI cC cG μ)) (((st.take b).reverse).map (conc ad)) := ⟨aPre.blind, a_pre X0 hP hS hR⟩
  have hlen : (((st.take b).reverse).map (conc ad)).length = mNp a := by simp; omega
  have hroom : 2 * (F0 m pc ls (st.map (conc ad))).monitorRoom + (((st.drop b).map (conc ad)).map fun v => v.category).sum ≤ 8 := lv_room (by omega)
  rcases hlk with hlk | hlk
  · have hlk' := hts _ hlk
    have cw : CallB R s args own k0 (mY a) (mB a) (mL a) (mT a) (mW a) (mR a) 0 0 (mNp a) ∧ (Cond.static (mY a)).before args s = true := by
      refine ⟨callB_of (mNp a) hts (mW_good a ha) rfl rfl rfl (hts _ (gd o3 rfl)) hlk' ⟨o5.1, o5.2, o6⟩ ⟨hfr, hlo⟩, hts _ (gd o4 rfl)⟩
    exact a_back hn hA hK hS hL hst (va_runS (g := F0 m pc ls (st.map (conc ad))) ⟨hx, hb, hml, hown, hts⟩ hM cw hp rfl hlen hL.1 (st_split b) hroom hd ⟨by omega, by omega⟩)
  · have cw : va_CN R s args own k0 (mY a) "ClockedGame" (mB a) (mL a) (mT a) (mW a) (mR a) 0 0 (mNp a) ∧ (Cond.static (mY a)).before args s = true ∧ True :=
      ⟨va_cnB (mNp a) hts (mW_good a ha) rfl rfl rfl (lkN_at hlk hNs) (hts _ (gd o3 rfl)) ⟨o5.1, o5.2, o6⟩ ⟨hfr, hlo⟩, hts _ (gd o4 rfl), trivial⟩
    exact a_back hn hA hK hS hL hst (va_runSN (g := F0 m pc ls (st.map (conc ad))) ⟨hx, hb, hml, hown, hts⟩ hM cw hp rfl hlen hL.1 (st_split b) hroom hd ⟨by omega, by omega⟩)
theorem rcv_inv {as : List AV} {ci : Int} (h : rcv as ci) : ∃ r t c fs, as = .inr (.ref r) :: t ∧ shp r = .inl (c, fs) ∧ c = ci.toNat := by
  unfold rcv at h
  split at h
  · rename_i r t
    split at h
    · rename_i c fs e
      exact ⟨r, t, c, fs, rfl, e, h⟩
    · exact h.elim
  · exact h.elim
theorem sd_virtual (X : aX p s m args meth c R cells slots cc own nL ad D cI cC cG A0) {K : aK} {n k0 a b w : Nat} {z : Int} {pc : Nat} {L : Lc} {st : List AV} {μ : Mem} (hd : decode cc pc = .ok (.invokevirtual k0, 3)) (hn : n = pc + 3) (hC : okC own k0 a b w R.frames R.locals = true) (hs9 : mSt a = false) (hi9 : mInit a = false) (hz : z = mCl a) (hK : ∀ pc L st μ, K pc L st μ → aG p l e R s m args below meth c cells slots QW nL ad D cI cC cG A0 pc L st μ) (h : b ≤ st.length ∧ (st.drop b).length ≤ 4 ∧ rcv (st.take b).reverse z ∧ wpM a (st.take b).reverse μ (kc K n L (st.drop b))) : aG p l e R s m args below meth c cells slots QW nL ad D cI cC cG A0 pc L st μ := by
  intro H locs ls hP hS hL hR hst
  have X0 := X
  obtain ⟨⟨hx, hb, hml, hown, hts⟩, hKn, hSt, hNs, hA, hI, hc, hs⟩ := X
  obtain ⟨h1, h2, hrc, h3⟩ := h
  obtain ⟨ha, hfr, hlo, hlk, hbn⟩ := okC_inv hC
  obtain ⟨⟨o1, o2⟩, o3, o4, o5, o6, o7, o8⟩ := okM_inv ha
  rw [if_neg (by rw [hs9]; simp)] at o4 hbn
  obtain ⟨r, t, ci, fs, er, hsh, hci⟩ := rcv_inv hrc
  have hcs := cat_sum (ad := ad) (st.drop b)
  have hM := h3 (fun v hv => hst v (List.mem_of_mem_take (List.mem_reverse.mp hv))) l ad D cI cC cG
  have o8 := o8.resolve_left (by rw [hs9]; simp)
  have hcl : ∃ q, vwCl[ci]? = some q ∧ q.1 = (mY a).cls := by
    have : ci = mCl a := by omega
    rw [this]
    cases e9 : vwCl[mCl a]? with
    | none => rw [e9] at o8; cases o8
    | some q => rw [e9] at o8; exact ⟨q, rfl, by simpa using o8⟩
  obtain ⟨q, hq1, hq2⟩ := hcl
  have hrecv := va_recv hKn hP hq1 (cell_obj (ad := ad) (cI := cI) (cC := cC) (cG := cG) (μ := μ) hsh)
  rw [hq2] at hrecv
  have hpre := a_pre (as := (st.take b).reverse) X0 hP hS hR
  have hsp := st_split (ad := ad) (st := st) b
  have hlen9 : ((st.take b).reverse).length = mNp a + 1 := by simp; omega
  rw [er] at hM hpre hsp hlen9
  have hp : PreV s H (mY a).cls (ad r) (va_Pc ((.inr (.ref r) :: t : List AV).map (conc ad)) (aPre ad D cI cC cG μ)) (t.map (conc ad)) := ⟨aPre.blind, hrecv, hpre⟩
  have hlen : (t.map (conc ad)).length = mNp a := by simp at hlen9 ⊢; omega
  have hroom : 2 * (F0 m pc ls (st.map (conc ad))).monitorRoom + (((st.drop b).map (conc ad)).map fun v => v.category).sum ≤ 8 := lv_room (by omega)
  have hsp2 : st.map (conc ad) = (t.map (conc ad)).reverse ++ .ref (ad r) :: (st.drop b).map (conc ad) := by
    rw [hsp]
    show (Value.ref (ad r) :: t.map (conc ad)).reverse ++ _ = _
    simp
  have hsel : (Cond.selects (mY a).cls (mY a) (mY a)).before args s = true := by
    rcases o4.2 with z | z
    · rw [hi9] at z; cases z
    · exact hts _ (gd z rfl)
  rcases hlk with hlk | hlk
  · have cw : CallW R s args own (mY a).cls k0 (mY a) (mB a) (mL a) (mT a) (mW a) (mR a) 0 0 (mNp a) :=
      ⟨callB_of (mNp a) hts (mW_good a ha) rfl rfl rfl (hts _ (gd o3 rfl)) (hts _ hlk) ⟨o5.1, o5.2, o6⟩ ⟨hfr, hlo⟩, hts _ (gd o4.1 rfl), hsel⟩
    exact a_back hn hA hK hS hL hst (va_runV (g := F0 m pc ls (st.map (conc ad))) ⟨hx, hb, hml, hown, hts⟩ hM cw hp rfl hlen hL.1 hsp2 hroom hd ⟨by omega, by omega⟩)
  · have cw : va_CN R s args own k0 (mY a) "ClockedGame" (mB a) (mL a) (mT a) (mW a) (mR a) 0 0 (mNp a) ∧ (Cond.instanceMethod (mY a)).before args s = true ∧ (Cond.selects (mY a).cls (mY a) (mY a)).before args s = true :=
      ⟨va_cnB (mNp a) hts (mW_good a ha) rfl rfl rfl (lkN_at hlk hNs) (hts _ (gd o3 rfl)) ⟨o5.1, o5.2, o6⟩ ⟨hfr, hlo⟩, hts _ (gd o4.1 rfl), hsel⟩
    exact a_back hn hA hK hS hL hst (va_runVN (g := F0 m pc ls (st.map (conc ad))) ⟨hx, hb, hml, hown, hts⟩ hM cw hp rfl hlen hL.1 hsp2 hroom hd ⟨by omega, by omega⟩)
theorem tsw_inv {pc : Nat} {x : Int} {k : Nat → Prop} : ∀ {offs : List Int} {lo : Int} (j : Nat) {o : Int}, tsw pc x lo offs k → offs[j]? = some o → x = lo + j → k ((pc : Int) + o).toNat
  | [], lo, j, o, h, hj, hx => by simp at hj
  | q :: offs, lo, 0, o, h, hj, hx => by
    simp only [List.getElem?_cons_zero, Option.some.injEq] at hj
    subst hj
    exact h.1 (by omega)
  | q :: offs, lo, j + 1, o, h, hj, hx => by
    simp only [List.getElem?_cons_succ] at hj
    exact tsw_inv (offs := offs) (lo := lo + 1) j h.2 hj (by omega)
theorem sd_tableswitch (X : aX p s m args meth c R cells slots cc own nL ad D cI cC cG A0) {K : aK} {Ret : Option AV → Mem → Prop} {n a b : Nat} {z d lo hi : Int} {offs : Array Int} {len : Nat} {pc : Nat} {L : Lc} {st : List AV} {μ : Mem} (hd : decode cc pc = .ok (.tableswitch d lo hi offs, len)) (ha : a = pc) (h0 : 0 ≤ (pc : Int) + d) (h1 : ∀ o ∈ offs, 0 ≤ (pc : Int) + o) (hlen : hi < lo + offs.size) (hK : ∀ pc L st μ, K pc L st μ → aG p l e R s m args below meth c cells slots QW nL ad D cI cC cG A0 pc L st μ) (h : stepI Ret (.tableswitch d lo hi offs) n a b z L st μ K) : aG p l e R s m args below meth c cells slots QW nL ad D cI cC cG A0 pc L st μ := by
  intro H locs ls hP hS hL hR hst
  obtain ⟨⟨hx, hb, hml, hown, hts⟩, hKn, hSt, hNs, hA, hI, hc, hs⟩ := X
  subst ha
  obtain ⟨x, t, rfl, h2, h3⟩ := un_inv h
  have rx : inR x := wf_h hst
  by_cases hb1 : x < lo ∨ hi < x
  · exact lv_tableOut hx hb hd (by rw [i32_toInt rx]; exact hb1) (tgt := ((a : Int) + d).toNat) (by omega) (hK _ _ _ _ (h2 hb1) H locs ls hP hS hL hR (wf_t hst))
  · have hj : (x - lo).toNat < offs.size := by omega
    have hg : offs[(x - lo).toNat]? = some offs[(x - lo).toNat] := Array.getElem?_eq_getElem hj
    have h4 : 0 ≤ (a : Int) + offs[(x - lo).toNat] := h1 _ (Array.getElem_mem hj)
    have h5 := tsw_inv (x - lo).toNat h3 (by rw [Array.getElem?_toList]; exact hg) (by omega)
    exact lv_tableIn hx hb hd (by rw [i32_toInt rx]; omega) (by rw [i32_toInt rx]; omega) (by rw [i32_toInt rx]; exact hg) (tgt := ((a : Int) + offs[(x - lo).toNat]).toNat) (by omega) (hK _ _ _ _ h5 H locs ls hP hS hL hR (wf_t hst))
end SND3
