/-! THE LAW'S OWN INSTRUCTIONS that the machine has no rows for; what its walk rests on -/
theorem f2d_nn {x : UInt32} (h : Jvm.FP.Core.fIsNaN x = false) : Jvm.FP.Core.dIsNaN (FP.f2d x) = false := by
  show Jvm.FP.Core.dIsNaN (if Jvm.FP.Core.fIsNaN x then FP.nanF2D x else Jvm.FP.Core.f2d x) = false
  rw [if_neg (by rw [h]; simp)]
  exact Jvm.FP.Core.f2d_out h
theorem dcmp_nn {d : UInt64} (h : Jvm.FP.Core.dIsNaN d = false) (op : CmpOp) : Op.cmpValue (FP.dcmp d d) op = 0 := by
  have e : FP.dcmp d d = some .eq := Jvm.FP.Core.dcmp_self (fun z => by rw [(Jvm.FP.Core.dIsNaN_iff d).mpr z] at h; cases h)
  rw [e]
  rfl
theorem and31 (x : Int32) : ∃ y : Int, 0 ≤ y ∧ y ≤ 31 ∧ x &&& i32 31 = i32 y := by
  have h : (x &&& i32 31).toBitVec.toNat ≤ 31 := by
    have e : (x &&& i32 31).toBitVec = x.toBitVec &&& (i32 31).toBitVec := Int32.toBitVec_and x (i32 31)
    rw [e, BitVec.toNat_and]
    exact Nat.and_le_right
  have h2 : (x &&& i32 31).toInt = ((x &&& i32 31).toBitVec.toNat : Int) := by
    show (x &&& i32 31).toBitVec.toInt = _
    rw [BitVec.toInt_eq_toNat_of_lt (by omega)]
  exact ⟨(x &&& i32 31).toInt, by omega, by omega, (i32_of _).symm⟩
/-- what the law's walk rests on -/
def LI (G : aK) (N : Nat) (xv : Nat → Int) : Prop :=
  (∀ (stop : List Nat) (f pc : Nat) (L : Lc) (st : List AV) (μ : Mem), vc1 G (fun _ _ => False) T_200 stop f pc L st μ → G pc L st μ) ∧
  (∀ (pc : Nat) (i : Int) (L : Lc) (st : List AV) (μ : Mem), memN ldP pc = true → 0 ≤ i → i < N → G (pc + 1) L (aI (xv i.toNat) :: st) μ → G pc L (aI i :: aR 2000 :: st) μ) ∧
  (∀ (L : Lc) (st : List AV) (μ : Mem), G 21 L (aI N :: st) μ → G 20 L (aR 2000 :: st) μ) ∧
  (∀ (x : Int) (L : Lc) (st : List AV) (μ : Mem), (∀ y : Int, 0 ≤ y → y ≤ 31 → G 32 L (aI y :: st) μ) → G 31 L (aI 31 :: aI x :: st) μ) ∧
  (∀ (x : Int64) (L : Lc) (st : List AV) (μ : Mem), G 745 L (aI 0 :: st) μ → G 744 L (aL x :: aL x :: st) μ) ∧
  (∀ (x : UInt32) (L : Lc) (st : List AV) (μ : Mem), Jvm.FP.Core.fIsNaN x = false → nlg L 4 = true → G 633 (lset2 L 4 (.inr (.double (FP.f2d x)))) st μ → G 630 L (.inr (.float x) :: st) μ) ∧
  (∀ (x : UInt32) (L : Lc) (st : List AV) (μ : Mem), Jvm.FP.Core.fIsNaN x = false → nlg L 6 = true → G 645 (lset2 L 6 (.inr (.double (FP.f2d x)))) st μ → G 642 L (.inr (.float x) :: st) μ) ∧
  (∀ (d : UInt64) (L : Lc) (μ : Mem), Jvm.FP.Core.dIsNaN d = false → lget L 4 = some (.inr (.double d)) → lget L 6 = some (.inr (.double d)) → G 671 L [] μ → G 645 L [] μ) ∧
  ∀ (L : Lc) (μ : Mem), G 757 L [aI 1] μ
section LG
variable {p : Program} {l : Launch} {e : Env} {R : Room} {s : State} {m : MethodId} {args : Array Value} {below : List Frame} {meth : Method} {c : Code} {cells slots : Nat} {QW : State → Prop} {cc : ByteArray} {own : String} {nL : Nat} {ret : Option FieldType} {ad : Nat → Nat} {D : va_G} {cI cC cG : ClassId} {A0 : Nat → Prop}
set_option maxRecDepth 20000 in
theorem LI_of (X : aX p s m args meth c R cells slots code "ClockedGameLaw" 8 ad D cI cC cG A0) (hfr : R.frames = room_1.frames) (hlo : R.locals = room_1.locals) {b N : Nat} {xs : Nat → Int32} (hN : N ≤ 1536) (hX : va_X b N xs s s.heap) (hbl : b < s.heap.size) (hbA : ¬ A0 b) (had : ad 2000 = b) (hret : ∀ (L : Lc) (μ : Mem), aG p l e R s m args below meth c cells slots QW 8 ad D cI cC cG A0 757 L [aI 1] μ) : LI (aG p l e R s m args below meth c cells slots QW 8 ad D cI cC cG A0) N (fun j => (xs j).toInt) := by
  have hx := X.1.1
  have hb := X.1.2.1
  refine ⟨fun stop f pc L st μ h => vg1_snd (ret := ret) X (by rw [hfr, hlo]; exact ok_200) f h, fun pc i L st μ hp h0 h1 h => ?_, fun L st μ h => ?_, fun x L st μ h => ?_, fun x L st μ h => ?_, fun x L st μ hn hg h => ?_, fun x L st μ hn hg h => ?_, fun d L μ hn g4 g6 h => ?_, hret⟩
  · intro H locs ls hP hS hL hR hst
    have hd : decode code pc = .ok (.iaload, 1) := by
      have hm : ∀ l : List Nat, memN l pc = true → pc ∈ l := by
        intro l
        induction l with
        | nil => intro h; cases h
        | cons x l ih =>
          intro h
          simp only [memN, Bool.or_eq_true, beq_iff_eq] at h
          rcases h with h | h
          · rw [h]; exact List.mem_cons_self
          · exact List.mem_cons_of_mem _ (ih h)
      exact of_decide_eq_true (List.all_eq_true.mp ldP_ok pc (hm _ hp))
    have hi : inR i := by unfold inR; omega
    show W p l e R s m args below meth c H locs cells slots QW (F0 m pc ls (.int (i32 i) :: .ref (ad 2000) :: st.map (conc ad)))
    rw [had]
    refine va_sld hx hb hX hbl hbA hS (i32_idx h0 hi h1) hd ?_
    rw [i32_cl hi]
    have := h H locs ls hP hS hL hR (wf_c (show inR ((xs i.toNat).toInt) from by have := (xs i.toNat).toInt_lt; have := (xs i.toNat).le_toInt; unfold inR; omega) (wf_t (wf_t hst)))
    have e : (aI ((xs i.toNat).toInt) :: st).map (conc ad) = .int (xs i.toNat) :: st.map (conc ad) := by
      show Value.int (i32 _) :: _ = _
      rw [i32_of]
    rw [e] at this
    exact this
  · intro H locs ls hP hS hL hR hst
    show W p l e R s m args below meth c H locs cells slots QW (F0 m 20 ls (.ref (ad 2000) :: st.map (conc ad)))
    rw [had]
    refine va_slen hx hb hX hbl hbA hS ld_20 ?_
    rw [i32_nat]
    exact h H locs ls hP hS hL hR (wf_c (show inR _ from by unfold inR; omega) (wf_t hst))
  · intro H locs ls hP hS hL hR hst
    refine lv_iand hx hb ld_31 ?_
    obtain ⟨y, y0, y1, ey⟩ := and31 (i32 x)
    rw [ey]
    exact h y y0 y1 H locs ls hP hS hL hR (wf_c (show inR _ from by unfold inR; omega) (wf_t (wf_t hst)))
  · intro H locs ls hP hS hL hR hst
    refine W.lcmp hx hb ld_744 ?_
    have e : lg_cmp x x = i32 0 := by
      unfold lg_cmp
      simp
      rfl
    rw [e]
    exact h H locs ls hP hS hL hR (wf_c inR_0 (wf_t (wf_t hst)))
  · intro H locs ls hP hS hL hR hst
    refine lv_f2d hx hb ld_630 (nan64 (f2d_nn hn)) ?_
    exact lv_dstore hx hb ld_631 hL.has (by decide) rfl (fun ls' hl' => h H locs ls' hP hS (hL.set2 hg trivial rfl hl') hR (wf_t hst))
  · intro H locs ls hP hS hL hR hst
    refine lv_f2d hx hb ld_642 (nan64 (f2d_nn hn)) ?_
    exact lv_dstore hx hb ld_643 hL.has (by decide) rfl (fun ls' hl' => h H locs ls' hP hS (hL.set2 hg trivial rfl hl') hR (wf_t hst))
  · intro H locs ls hP hS hL hR hst
    have l4 := (hL.2.2 4 _ g4).1
    have l6 := (hL.2.2 6 _ g6).1
    refine lv_dload hx hb ld_645 l4 ?_
    refine lv_dload hx hb ld_647 l6 ?_
    refine lv_dcmp hx hb ld_649 ?_
    rw [dcmp_nn hn]
    exact lv_if_eq (off := 21) (tgt := 671) hx hb (by decide +kernel) (by decide) (fun _ => h H locs ls hP hS hL hR hst) (fun z => absurd rfl z)
end LG
