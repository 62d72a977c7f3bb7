/-! p28: THE LAW'S OWN CALLS: the script is read, 'agrees' is called -/
def cvI (N : Nat) (xs : Nat → Int32) (kk : Int) : Int := (if kk < N then xs kk.toNat else i32 763049417 * (i32 kk + i32 3)).toInt
def lPre (b N : Nat) (xs : Nat → Int32) (U : State) : Prop := va_X b N xs U U.heap ∧ b < U.heap.size
def lPost (r : Int32) : Array Value → State → Outcome → State → Prop := fun _ st oc t => oc = .returned (some (.int r)) ∧ va_F (fun _ => False) st t
theorem lPre.blind {b N : Nat} {xs : Nat → Int32} {as : List Value} : FrameBlind (va_Pc as (lPre b N xs)) := by
  intro a U g mk h
  obtain ⟨h0, h1, h2⟩ := h
  exact ⟨h0, va_X.moved (u := U) (U := U.calling g mk a) (Vm.Alike.refl U.vm) h1, h2⟩
set_option maxRecDepth 100000 in
set_option maxHeartbeats 4000000 in
theorem l_cell {b N : Nat} {xs : Nat → Int32} {kk : Int} (h0 : 0 ≤ kk) (hr : inR kk) (hN : N ≤ 260) (l : Launch) : Met l (mY 182) (mW 182) (mR 182) (va_Pc [.ref b, .int (i32 kk)] (lPre b N xs)) (lPost (i32 (cvI N xs kk))) 0 0 (fun _ => False) := by
  refine Met.ofW (cc := mB 182) (maxL := 2) (ret := some .int) ?_ rfl ?_
  · have := (okM_inv (a := 182) (by decide)).1.2
    exact this
  intro p e s m args below meth c s₁ B hml hv0
  obtain ⟨rfl, hX, hbl⟩ := hv0
  have hts := atoms_spec (ws := mW 182) B.pre
  have hl := lv_entry ([.ref b, .int (i32 kk)]) (n := 2) (Nat.le_of_ble_eq_true rfl)
  rw [lg_entry_eq]
  generalize (lg_sl ([.ref b, .int (i32 kk)]) ++ List.replicate (2 - (lg_sl ([.ref b, .int (i32 kk)])).length) Slot.unset).toArray = ls at hl ⊢
  have hl : lv_has ls 2 [(0, .ref b), (1, .int (i32 kk))] := hl
  have hx := B.exec
  have hb := B.bytes
  have hown : s.vm.findClass "ClockedGameLaw" = some m.cls := findClass_of_methodNamed B.named
  have l0 := lv_at hl 0 rfl
  have l1 := lv_at hl 1 rfl
  have hS : va_S (fun _ => False) s.heap s.heap [] := va_S.rf
  have fin : ∀ r : Int32, i32 (cvI N xs kk) = r → W p l e (mR 182) s m #[Value.ref b, Value.int (i32 kk)] below meth c s.heap [] 0 0 (MQ below (lPost (i32 (cvI N xs kk))) #[Value.ref b, Value.int (i32 kk)] s 0 0 (fun _ => False)) (F0 m 18 ls [.int r]) := by
    intro r hr9
    exact W.iret hx hb B.returns (fun t ht _ => ⟨by rw [hr9], hS.F ht⟩) hS.2.2 (by decide +kernel) B.notSynchronized
  have hNr : inR (N : Int) := by unfold inR; omega
  refine lv_iload_n (k := 1) hx hb (cc := mB 182) (by decide +kernel) rfl l1 ?_
  refine lv_aload_n (k := 0) hx hb (cc := mB 182) (by decide +kernel) rfl l0 ?_
  refine va_slen hx hb hX hbl (fun z => z) hS fd_182_2 ?_
  refine lv_icmp_ge (off := 9) (tgt := 12) hx hb (cc := mB 182) (by decide +kernel) (by decide) (fun hge => ?_) (fun hlt => ?_)
  · rw [i32_nat] at hge
    have hge := (i32_le hNr hr).mp hge
    refine lv_ldc (v := 763049417) hx hb hown (hts _ (List.mem_cons_of_mem _ (gd (by decide +kernel) rfl))) (cc := mB 182) (index := 7) (by decide +kernel) ?_
    refine lv_iload_n (k := 1) hx hb (cc := mB 182) (by decide +kernel) rfl l1 ?_
    refine lv_iconst (n := 3) (v := i32 3) hx hb (cc := mB 182) (by decide +kernel) (by decide) ?_
    refine lv_iadd hx hb (cc := mB 182) (by decide +kernel) ?_
    refine lv_imul hx hb fd_182_17 ?_
    refine fin _ ?_
    unfold cvI
    rw [if_neg (by omega), i32_of]
    rfl
  · rw [i32_nat] at hlt
    have hlt : kk < N := Int.not_le.mp (fun z => hlt ((i32_le hNr hr).mpr z))
    refine lv_aload_n (k := 0) hx hb (cc := mB 182) (by decide +kernel) rfl l0 ?_
    refine lv_iload_n (k := 1) hx hb (cc := mB 182) (by decide +kernel) rfl l1 ?_
    refine va_sld hx hb hX hbl (fun z => z) hS (i32_idx h0 hr hlt) fd_182_8 ?_
    refine lv_goto (off := 9) (tgt := 18) hx hb (cc := mB 182) (by decide +kernel) (by decide) ?_
    refine fin _ ?_
    unfold cvI
    rw [if_pos hlt, i32_of, i32_cl hr]
theorem np_182 : mNp 182 = 2 := by decide +kernel
theorem np_185 : mNp 185 = 1 := by decide +kernel
section LR
variable {p : Program} {l : Launch} {e : Env} {R : Room} {s : State} {m : MethodId} {args : Array Value} {below : List Frame} {meth : Method} {c : Code} {cells slots : Nat} {QW : State → Prop} {cc : ByteArray} {own : String} {nL : Nat} {ret : Option FieldType} {ad : Nat → Nat} {D : va_G} {cI cC cG : ClassId} {A0 : Nat → Prop}
theorem ag_cell (X : aX p s m args meth c R cells slots cc own nL ad D cI cC cG A0) {pc k0 w : Nat} (hd : decode cc pc = .ok (.invokestatic k0, 3)) (hC : okC own k0 182 2 w R.frames R.locals = true) {b N : Nat} {xs : Nat → Int32} (hX : va_X b N xs s s.heap) (hbl : b < s.heap.size) (hbA : ¬ A0 b) (had : ad 2000 = b) {kk : Int} (h0 : 0 ≤ kk) (hN : N ≤ 260) {L : Lc} {st : List AV} {μ : Mem} (hst4 : st.length ≤ 4) (h : aG p l e R s m args below meth c cells slots QW nL ad D cI cC cG A0 (pc + 3) L (aI (cvI N xs kk) :: st) μ) : aG p l e R s m args below meth c cells slots QW nL ad D cI cC cG A0 pc L (aI kk :: aR 2000 :: st) μ := by
  intro H locs ls hP hS hL hR hst
  obtain ⟨⟨hx, hb, hml, hown, hts⟩, hKn, hSt, hNs, hA, hI, hc, hs⟩ := X
  have rk : inR kk := wf_h hst
  obtain ⟨ha, hfr, hlo, hlk, hbn⟩ := okC_inv hC
  obtain ⟨⟨o1, o2⟩, o3, o4, o5, o6, o7, o8⟩ := okM_inv ha
  rw [if_pos clP_s] at o4
  have hcs := cat_sum (ad := ad) st
  have hM := l_cell (b := b) (N := N) (xs := xs) h0 rk hN l
  have hp : PreS s H (va_Pc [.ref b, .int (i32 kk)] (lPre b N xs)) [.ref b, .int (i32 kk)] := by
    refine ⟨lPre.blind, fun U hU hW => ⟨rfl, ?_, ?_⟩⟩
    · rw [hU]
      exact va_X.moved hW.alike (va_X.kept hX (hS.2.1 b hbl hbA))
    · rw [hU]
      exact Nat.lt_of_lt_of_le hbl hS.1
  have hroom : 2 * (F0 m pc ls (.int (i32 kk) :: .ref b :: st.map (conc ad))).monitorRoom + ((st.map (conc ad)).map fun v => v.category).sum ≤ 8 := lv_room (by omega)
  have fin : va_Run p l e R s m args below meth c H locs cells slots 0 0 (F0 m pc ls (.int (i32 kk) :: .ref b :: st.map (conc ad))) (st.map (conc ad)) (lPost (i32 (cvI N xs kk)) ([.ref b, .int (i32 kk)] : List Value).toArray) (fun _ => False) → W p l e R s m args below meth c H locs cells slots QW (F0 m pc ls (.int (i32 kk) :: .ref b :: st.map (conc ad))) := by
    intro hr T hT XX
    obtain ⟨v, st₀, t, T', L2, h0', X', hL2, e1, e2, ⟨hv, hz, hk⟩, go⟩ := hr T hT XX
    cases hv
    rw [h0'] at hz hk
    have hS1 : va_S A0 s.heap T'.heap (locs ++ L2) := by
      refine ⟨Nat.le_trans hS.1 (by rw [e1]; exact hz), fun q h1 h2 => ?_, fun q hq2 => ?_⟩
      · rw [e1, hk q (Nat.lt_of_lt_of_le h1 hS.1) (fun z => z)]
        exact hS.2.1 q h1 h2
      · rcases List.mem_append.mp hq2 with z | z
        · exact hS.2.2 q z
        · exact (hL2 q z).elim
    have hP1 : va_P D vwCl (ww ad cI cC cG μ) T'.heap := fun k q hq => (hP k q hq).kept (by rw [e1]; exact hk q.1 (hP k q hq).lt (fun z => z))
    obtain ⟨t2, a1, b1⟩ := h T'.heap (locs ++ L2) ls hP1 hS1 hL hR (wf_c (of_rng _) (wf_t (wf_t hst))) T' rfl X'
    exact ⟨t2, go t2 a1, b1⟩
  show W p l e R s m args below meth c H locs cells slots QW (F0 m pc ls (.int (i32 kk) :: .ref (ad 2000) :: st.map (conc ad)))
  rw [had]
  rcases hlk with hlk | hlk
  · have cw : CallB R s args own k0 (mY 182) (mB 182) (mL 182) (mT 182) (mW 182) (mR 182) 0 0 (mNp 182) ∧ (Cond.static (mY 182)).before args s = true :=
      ⟨callB_of (mNp 182) hts (mW_good 182 ha) rfl rfl rfl (hts _ (gd o3 rfl)) (hts _ hlk) ⟨o5.1, o5.2, o6⟩ ⟨hfr, hlo⟩, hts _ (gd o4 rfl)⟩
    exact fin (va_runS (g := F0 m pc ls (.int (i32 kk) :: .ref b :: st.map (conc ad))) ⟨hx, hb, hml, hown, hts⟩ hM cw hp rfl (by rw [np_182]; rfl) hL.1 rfl hroom hd ⟨by omega, by omega⟩)
  · have cw : va_CN R s args own k0 (mY 182) "ClockedGame" (mB 182) (mL 182) (mT 182) (mW 182) (mR 182) 0 0 (mNp 182) ∧ (Cond.static (mY 182)).before args s = true ∧ True :=
      ⟨va_cnB (mNp 182) hts (mW_good 182 ha) rfl rfl rfl (lkN_at hlk hNs) (hts _ (gd o3 rfl)) ⟨o5.1, o5.2, o6⟩ ⟨hfr, hlo⟩, hts _ (gd o4 rfl), trivial⟩
    exact fin (va_runSN (g := F0 m pc ls (.int (i32 kk) :: .ref b :: st.map (conc ad))) ⟨hx, hb, hml, hown, hts⟩ hM cw hp rfl (by rw [np_182]; rfl) hL.1 rfl hroom hd ⟨by omega, by omega⟩)
theorem ag_agr (X : aX p s m args meth c R cells slots cc own nL ad D cI cC cG A0) (hnew : ∀ q, s.heap.size ≤ q → A0 q) {pc k0 w : Nat} (hd : decode cc pc = .ok (.invokestatic k0, 3)) (hC : okC own k0 185 1 w R.frames R.locals = true) (hce : cells + 1 ≤ R.cells) (hsl : slots + 2 ≤ R.slots) {base : Int} {v f : Rw} {n : Int} {L : Lc} {st : List AV} {μ : Mem} (hK : RK μ v f n) (hv : JJ v) (hx : yY base v) (h6 : μ 6 0 ≠ 1) (hst4 : st.length ≤ 4) (h : aG p l e R s m args below meth c (cells + 1) (slots + 2) QW nL ad D cI cC cG A0 (pc + 3) L (aI 1 :: st) μ) : aG p l e R s m args below meth c cells slots QW nL ad D cI cC cG A0 pc L (aR 0 :: st) μ := by
  intro H locs ls hP hS hL hR hst
  obtain ⟨⟨hx0, hb, hml, hown, hts⟩, hKn, hSt, hNs, hA, hI, hc, hs⟩ := X
  obtain ⟨ha, hfr, hlo, hlk, hbn⟩ := okC_inv hC
  obtain ⟨⟨o1, o2⟩, o3, o4, o5, o6, o7, o8⟩ := okM_inv ha
  rw [if_pos agP_s] at o4
  have hcs := cat_sum (ad := ad) st
  have hM := l_agrees hK hv hx h6 l ad D cI cC cG H.size
  have hF : ∀ q, (aA ad q ∨ H.size ≤ q) → A0 q := by
    intro q hq
    rcases hq with ⟨k, h1, h2⟩ | hq
    · rw [h2]; exact hA k h1
    · exact hnew q (Nat.le_trans hS.1 hq)
  have hp : PreS s H (va_Pc [.ref (ad 0)] (gPre ad D cI cC cG μ H.size)) [.ref (ad 0)] := by
    refine ⟨gPre.blind, fun U hU hW => ⟨rfl, by rw [hU], by rw [hU]; exact hP, va_K.moved hW.alike hKn, ?_, hNs.warm hW, hI, hR⟩⟩
    rw [hU]
    exact ((hSt.kept (fun q h1 h2 => hS.2.1 q h1 h2)).moved hW.alike).narrow hF
  have hroom : 2 * (F0 m pc ls (.ref (ad 0) :: st.map (conc ad))).monitorRoom + ((st.map (conc ad)).map fun v => v.category).sum ≤ 8 := lv_room (by omega)
  have fin : va_Run p l e R s m args below meth c H locs cells slots 1 2 (F0 m pc ls (.ref (ad 0) :: st.map (conc ad))) (st.map (conc ad)) (gPost ad D cI cC cG μ H.size ([.ref (ad 0)] : List Value).toArray) (fun q => aA ad q ∨ H.size ≤ q) → W p l e R s m args below meth c H locs cells slots QW (F0 m pc ls (.ref (ad 0) :: st.map (conc ad))) := by
    intro hr T hT XX
    obtain ⟨v, st₀, t, T', L2, h0', X', hL2, e1, e2, ⟨⟨hv, hP1⟩, hz, hk⟩, go⟩ := hr T hT XX
    cases hv
    rw [h0'] at hz hk
    have hS1 : va_S A0 s.heap T'.heap (locs ++ L2) := by
      refine ⟨Nat.le_trans hS.1 (by rw [e1]; exact hz), fun q h1 h2 => ?_, fun q hq2 => ?_⟩
      · rw [e1, hk q (Nat.lt_of_lt_of_le h1 hS.1) (fun z => h2 (hF q z))]
        exact hS.2.1 q h1 h2
      · rcases List.mem_append.mp hq2 with z | z
        · exact hS.2.2 q z
        · exact hF _ (hL2 q z)
    obtain ⟨t2, a1, b1⟩ := h T'.heap (locs ++ L2) ls (by rw [e1]; exact hP1) hS1 hL hR (wf_c (show inR 1 from by unfold inR; omega) (wf_t hst)) T' rfl X'
    exact ⟨t2, go t2 a1, b1⟩
  show W p l e R s m args below meth c H locs cells slots QW (F0 m pc ls (.ref (ad 0) :: st.map (conc ad)))
  rcases hlk with hlk | hlk
  · have cw : CallB R s args own k0 (mY 185) (mB 185) (mL 185) (mT 185) (mW 185) (rC 185 1 2) 1 2 (mNp 185) ∧ (Cond.static (mY 185)).before args s = true :=
      ⟨callB_of (rm := rC 185 1 2) (mc := 1) (ms := 2) (mNp 185) hts (mW_good 185 ha) rfl rfl rfl (hts _ (gd o3 rfl)) (hts _ hlk) ⟨o5.1, o5.2, o6⟩ ⟨hfr, hlo⟩, hts _ (gd o4 rfl)⟩
    exact fin (va_runS (g := F0 m pc ls (.ref (ad 0) :: st.map (conc ad))) ⟨hx0, hb, hml, hown, hts⟩ hM cw hp rfl (by rw [np_185]; rfl) hL.1 rfl hroom hd ⟨hce, hsl⟩)
  · have cw : va_CN R s args own k0 (mY 185) "ClockedGame" (mB 185) (mL 185) (mT 185) (mW 185) (rC 185 1 2) 1 2 (mNp 185) ∧ (Cond.static (mY 185)).before args s = true ∧ True :=
      ⟨va_cnB (rm := rC 185 1 2) (mc := 1) (ms := 2) (mNp 185) hts (mW_good 185 ha) rfl rfl rfl (lkN_at hlk hNs) (hts _ (gd o3 rfl)) ⟨o5.1, o5.2, o6⟩ ⟨hfr, hlo⟩, hts _ (gd o4 rfl), trivial⟩
    exact fin (va_runSN (g := F0 m pc ls (.ref (ad 0) :: st.map (conc ad))) ⟨hx0, hb, hml, hown, hts⟩ hM cw hp rfl (by rw [np_185]; rfl) hL.1 rfl hroom hd ⟨hce, hsl⟩)
end LR
