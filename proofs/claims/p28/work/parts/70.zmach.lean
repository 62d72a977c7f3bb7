/-! THE ABSTRACT MACHINE ONCE MORE, over one game alone: cells 0 to 12 (laid by wip/p28/tools/genz.py) -/
abbrev nCellz : Nat := 13
def shpz (k : Nat) : Shp := if k < 13 then gshp 0 k else .inr (3, 7)
def cellEz (ad : Nat → Nat) (cI cC cG : ClassId) (μ : Mem) (k : Nat) : va_E := match shpz k with
  | .inl (ci, fs) => .inr (ci, mkF ad (μ k) fs 0)
  | .inr (0, n) => .inl (cI, n, .inl (fun j => i32 (μ k j)))
  | .inr (1, n) => .inl (cC, n, .inl (fun j => i32 (μ k j)))
  | .inr (_, n) => .inl (cG, n, .inr (.inr (.inr (.inr (fun j => some (ad (gHist j)))))))
def wwz (ad : Nat → Nat) (cI cC cG : ClassId) (μ : Mem) : va_W := (List.range nCellz).map (fun k => (ad k, cellEz ad cI cC cG μ k))
theorem ww_getz {ad : Nat → Nat} {cI cC cG : ClassId} {μ : Mem} {k : Nat} (hk : k < nCellz) : (wwz ad cI cC cG μ)[k]? = some (ad k, cellEz ad cI cC cG μ k) := by
  simp [wwz, hk]
theorem ww_nonez {ad : Nat → Nat} {cI cC cG : ClassId} {μ : Mem} {k : Nat} (hk : ¬ k < nCellz) : (wwz ad cI cC cG μ)[k]? = none := by
  simp [wwz]; omega
theorem ww_setz {ad : Nat → Nat} {cI cC cG : ClassId} {μ μ' : Mem} {k : Nat} {x : va_E} (hx : x = cellEz ad cI cC cG μ' k) (h : ∀ j, j ≠ k → μ' j = μ j) : (wwz ad cI cC cG μ).set k (ad k, x) = wwz ad cI cC cG μ' := by
  subst hx
  apply List.ext_getElem?
  intro j
  by_cases hjk : j = k
  · subst hjk
    by_cases hj : j < nCellz
    · rw [List.getElem?_set_self (by simp [wwz]; exact hj), ww_getz hj]
    · rw [ww_nonez hj, List.getElem?_eq_none]
      simp [wwz]; omega
  · rw [List.getElem?_set_ne (Ne.symm hjk)]
    by_cases hj : j < nCellz
    · rw [ww_getz hj, ww_getz hj]
      have : cellEz ad cI cC cG μ j = cellEz ad cI cC cG μ' j := by
        unfold cellEz
        rw [h j hjk]
      rw [this]
    · rw [ww_nonez hj, ww_nonez hj]
theorem shp_outz {k : Nat} (h : ¬ k < nCellz) : shpz k = .inr (3, 7) := by
  unfold shpz
  rw [if_neg h]
def aAz (ad : Nat → Nat) : Nat → Prop := fun q => ∃ k, k < nCellz ∧ q = ad k
def aInjz (ad : Nat → Nat) : Prop := ∀ i j, i < nCellz → j < nCellz → ad i = ad j → i = j
def aRngz (μ : Mem) : Prop := ∀ k i, inR (μ k i) ∧ (∀ n, shpz k = .inr (1, n) → 0 ≤ μ k i ∧ μ k i ≤ 65535)
/-- the world, at a method's start -/
def aPrez (ad : Nat → Nat) (D : va_G) (cI cC cG : ClassId) (μ : Mem) (U : State) : Prop :=
  va_P D vwCl (wwz ad cI cC cG μ) U.heap ∧ va_K D vwCl (aT cI cC cG) U ∧ aStat ad (aAz ad) U U.heap ∧ aNst U ∧ aInjz ad ∧ aRngz μ
def aQz (ad : Nat → Nat) (D : va_G) (cI cC cG : ClassId) (Q : Option AV → Mem → Prop) : Array Value → State → Outcome → State → Prop := fun _ st oc t =>
  (∃ (r : Option AV) (μ : Mem), oc = .returned (r.map (conc ad)) ∧ Q r μ ∧ (∀ v, r = some v → wfv v) ∧ va_P D vwCl (wwz ad cI cC cG μ) t.heap ∧ aRngz μ) ∧ va_F (aAz ad) st t
/-- method a, called with these values over this memory, comes back with Q -/
def wpMz (a : Nat) (as : List AV) (μ : Mem) (Q : Option AV → Mem → Prop) : Prop :=
  (∀ v ∈ as, wfv v) → ∀ (l : Launch) (ad : Nat → Nat) (D : va_G) (cI cC cG : ClassId), Met l (mY a) (mW a) (mR a) (va_Pc (as.map (conc ad)) (aPrez ad D cI cC cG μ)) (aQz ad D cI cC cG Q) 0 0 (aAz ad)
theorem aPrez.blind {ad : Nat → Nat} {D : va_G} {cI cC cG : ClassId} {μ : Mem} {as : List Value} : FrameBlind (va_Pc as (aPrez ad D cI cC cG μ)) := by
  intro a U g mk h
  obtain ⟨h0, h1, h2, h3, h4, h5, h6⟩ := h
  exact ⟨h0, h1, va_K.moved (u := U) (U := U.calling g mk a) (Vm.Alike.refl U.vm) h2, aStat.moved (u := U) (U := U.calling g mk a) (Vm.Alike.refl U.vm) h3, aNst.same (u := U) (U := U.calling g mk a) rfl h4, h5, h6⟩
theorem aDz {ad : Nat → Nat} {cI cC cG : ClassId} {μ : Mem} {A : Nat → Prop} (hi : aInjz ad) (hA : ∀ k, k < nCellz → A (ad k)) : va_D A (wwz ad cI cC cG μ) := by
  refine ⟨fun i j p q h1 h2 h => ?_, fun k q h => ?_⟩
  · have hi1 : i < nCellz := Nat.lt_of_not_le fun z => by rw [ww_nonez (by omega)] at h1; cases h1
    have hj1 : j < nCellz := Nat.lt_of_not_le fun z => by rw [ww_nonez (by omega)] at h2; cases h2
    rw [ww_getz hi1] at h1
    rw [ww_getz hj1] at h2
    cases h1
    cases h2
    exact hi i j hi1 hj1 h
  · have hk : k < nCellz := Nat.lt_of_not_le fun z => by rw [ww_nonez (by omega)] at h; cases h
    rw [ww_getz hk] at h
    cases h
    exact hA k hk

def rcvz (as : List AV) (ci : Int) : Prop := match as with
  | .inr (.ref r) :: _ => (match shpz r with
    | .inl (c, _) => c = ci.toNat
    | .inr _ => False)
  | _ => False
def stepIz (Ret : Option AV → Mem → Prop) (i : Instr) (n a b : Nat) (z : Int) (L : Lc) (st : List AV) (μ : Mem) (K : aK) : Prop := match i with
  | .iconst _ => K n L (.inl z :: st) μ
  | .bipush _ => K n L (.inl z :: st) μ
  | .sipush _ => K n L (.inl z :: st) μ
  | .ldc _ => K n L (.inl z :: st) μ
  | .ldc2_w _ => K n L (.inr (.long (Int64.ofInt z)) :: st) μ
  | .aconst_null => K n L (.inr .null :: st) μ
  | .iload _ => ldI (lget L a) fun x => K n L (.inl x :: st) μ
  | .iload_n _ => ldI (lget L a) fun x => K n L (.inl x :: st) μ
  | .aload _ => ldR (lget L a) fun v => K n L (v :: st) μ
  | .aload_n _ => ldR (lget L a) fun v => K n L (v :: st) μ
  | .lload _ => ldL (lget L a) fun v => K n L (.inr (.long v) :: st) μ
  | .lload_n _ => ldL (lget L a) fun v => K n L (.inr (.long v) :: st) μ
  | .istore _ => un st fun x st => nlg L a = true ∧ K n (lset L a (.inl x)) st μ
  | .istore_n _ => un st fun x st => nlg L a = true ∧ K n (lset L a (.inl x)) st μ
  | .astore _ => unA st fun x st => nlg L a = true ∧ K n (lset L a x) st μ
  | .astore_n _ => unA st fun x st => nlg L a = true ∧ K n (lset L a x) st μ
  | .lstore _ => unL st fun x st => nlg L a = true ∧ K n (lset2 L a (.inr (.long x))) st μ
  | .lstore_n _ => unL st fun x st => nlg L a = true ∧ K n (lset2 L a (.inr (.long x))) st μ
  | .iinc _ _ => ldI (lget L a) fun x => inR (x + z) ∧ nlg L a = true ∧ K n (lset L a (.inl (x + z))) st μ
  | .dup => any1 st fun v st => K n L (v :: v :: st) μ
  | .pop => any1 st fun _ st => K n L st μ
  | .dup2 => any1 st fun v st => any1 st fun w st => K n L (v :: w :: v :: w :: st) μ
  | .iadd => bin st fun x y st => inR (x + y) ∧ K n L (.inl (x + y) :: st) μ
  | .isub => bin st fun x y st => inR (x - y) ∧ K n L (.inl (x - y) :: st) μ
  | .imul => bin st fun x y st => inR (x * y) ∧ K n L (.inl (x * y) :: st) μ
  | .idiv => bin st fun x y st => 0 ≤ x ∧ 0 < y ∧ K n L (.inl (x / y) :: st) μ
  | .irem => bin st fun x y st => 0 ≤ x ∧ 0 < y ∧ K n L (.inl (x % y) :: st) μ
  | .ineg => un st fun x st => inR (-x) ∧ K n L (.inl (-x) :: st) μ
  | .i2c => un st fun x st => 0 ≤ x ∧ x ≤ 65535 ∧ K n L (.inl x :: st) μ
  | .i2l => un st fun x st => K n L (.inr (.long (Int64.ofInt x)) :: st) μ
  | .ladd => binL st fun x y st => K n L (.inr (.long (x + y)) :: st) μ
  | .lmul => binL st fun x y st => K n L (.inr (.long (x * y)) :: st) μ
  | .goto _ => K a L st μ
  | .ifCond c _ => un st fun x st => (cbr c x 0 → K a L st μ) ∧ (¬ cbr c x 0 → K n L st μ)
  | .if_icmp c _ => bin st fun x y st => (cbr c x y → K a L st μ) ∧ (¬ cbr c x y → K n L st μ)
  | .ifnull _ => unA st fun v st => (v = .inr .null → K a L st μ) ∧ (¬ v = .inr .null → K n L st μ)
  | .tableswitch d lo hi offs => un st fun x st => ((x < lo ∨ hi < x) → K ((a : Int) + d).toNat L st μ) ∧ tsw a x lo offs.toList fun t => K t L st μ
  | .getfield _ => unR st fun k st => gfld (shpz k) b a (K n L (.inl (μ k z) :: st) μ) fun r => K n L (.inr (.ref r) :: st) μ
  | .putfield _ => un st fun x st => unR st fun k st => pfld (shpz k) b a (K n L st (stM μ k z x))
  | .getstatic _ => K n L (.inr (.ref a) :: st) μ
  | .arraylength => unR st fun k st => arrL (shpz k) fun d len => (d = 3 → k = 1001 ∨ k = 1002) ∧ K n L (.inl len :: st) μ
  | .iaload => un st fun i st => unR st fun k st => arrL (shpz k) fun d len => 0 ≤ i ∧ i < len ∧ ((d = 0 ∧ K n L (.inl (μ k i) :: st) μ) ∨ (d = 3 ∧ (k = 1001 ∨ k = 1002) ∧ K n L (.inl (stv k i) :: st) μ))
  | .caload => un st fun i st => unR st fun k st => arrL (shpz k) fun d len => 0 ≤ i ∧ i < len ∧ d = 1 ∧ K n L (.inl (μ k i) :: st) μ
  | .aaload => un st fun i st => unR st fun k st => arrL (shpz k) fun d len => 0 ≤ i ∧ i < len ∧ d = 2 ∧ K n L (.inr (.ref (gHist i.toNat)) :: st) μ
  | .iastore => un st fun x st => un st fun i st => unR st fun k st => arrL (shpz k) fun d len => 0 ≤ i ∧ i < len ∧ d = 0 ∧ K n L st (stM μ k i x)
  | .castore => un st fun x st => un st fun i st => unR st fun k st => arrL (shpz k) fun d len => 0 ≤ i ∧ i < len ∧ d = 1 ∧ 0 ≤ x ∧ x ≤ 65535 ∧ K n L st (stM μ k i x)
  | .invokestatic _ =>
    if a = 1000 then bin st fun x y st => st.length ≤ 4 ∧ K n L (.inl (imax x y) :: st) μ
    else if a = 1001 then bin st fun x y st => st.length ≤ 4 ∧ K n L (.inl (imin x y) :: st) μ
    else if a = 1002 then acopy st fun a0 a1 sp dp m st => st.length ≤ 4 ∧ arrL (shpz a0) fun d0 n0 => arrL (shpz a1) fun d1 n1 => d0 = d1 ∧ d0 < 2 ∧ 0 ≤ sp ∧ 0 ≤ dp ∧ 0 ≤ m ∧ sp + m ≤ n0 ∧ dp + m ≤ n1 ∧ K n L st (cpM μ a0 a1 sp dp m)
    else b ≤ st.length ∧ (st.drop b).length ≤ 4 ∧ wpMz a (st.take b).reverse μ (kc K n L (st.drop b))
  | .invokevirtual _ => b ≤ st.length ∧ (st.drop b).length ≤ 4 ∧ rcvz (st.take b).reverse z ∧ wpMz a (st.take b).reverse μ (kc K n L (st.drop b))
  | .ireturn => un st fun x st => st = [] ∧ (b = 0 ∨ (b = 1 ∧ (x = 0 ∨ x = 1)) ∨ (b = 2 ∧ 0 ≤ x ∧ x ≤ 65535)) ∧ Ret (some (.inl x)) μ
  | .lreturn => unL st fun x st => st = [] ∧ Ret (some (.inr (.long x))) μ
  | .areturn => unA st fun v st => st = [] ∧ Ret (some v) μ
  | .return_ => st = [] ∧ Ret none μ
  | _ => False

theorem stM_rngz {μ : Mem} {k : Nat} {i x : Int} (h : aRngz μ) (hx : inR x) (hc : ∀ n, shpz k = .inr (1, n) → 0 ≤ x ∧ x ≤ 65535) : aRngz (stM μ k i x) := by
  intro b j
  unfold stM
  by_cases hb : b = k ∧ j = i
  · rw [if_pos hb]
    exact ⟨hx, by rw [hb.1]; exact hc⟩
  · rw [if_neg hb]
    exact h b j
def aXz (p : Program) (s : State) (m : MethodId) (args : Array Value) (meth : Method) (c : Code) (R : Room) (cells slots : Nat) (cc : ByteArray) (own : String) (nL : Nat) (ad : Nat → Nat) (D : va_G) (cI cC cG : ClassId) (A0 : Nat → Prop) : Prop :=
  (p.tables.exec = Jvm.exec ∧ c.code = cc ∧ c.maxLocals = nL ∧ s.vm.findClass own = some m.cls ∧ (∀ w ∈ lw_g, w.before args s = true)) ∧ va_K D vwCl (aT cI cC cG) s ∧ aStat ad A0 s s.heap ∧ aNst s ∧ (∀ k, k < nCellz → A0 (ad k)) ∧ aInjz ad ∧ cells ≤ R.cells ∧ slots ≤ R.slots
def aGz (p : Program) (l : Launch) (e : Env) (R : Room) (s : State) (m : MethodId) (args : Array Value) (below : List Frame) (meth : Method) (c : Code) (cells slots : Nat) (QW : State → Prop) (nL : Nat) (ad : Nat → Nat) (D : va_G) (cI cC cG : ClassId) (A0 : Nat → Prop) (pc : Nat) (L : Lc) (st : List AV) (μ : Mem) : Prop :=
  ∀ (H : Heap) (locs : List Loc) (ls : Array Slot), va_P D vwCl (wwz ad cI cC cG μ) H → va_S A0 s.heap H locs → aLoc ad ls nL L → aRngz μ → (∀ v ∈ st, wfv v) → W p l e R s m args below meth c H locs cells slots QW (F0 m pc ls (st.map (conc ad)))
theorem shp_inz {k : Nat} (h : shpz k ≠ .inr (3, 7)) : k < nCellz := Nat.lt_of_not_le fun z => h (shp_outz (by omega))
section SND
variable {p : Program} {l : Launch} {e : Env} {R : Room} {s : State} {m : MethodId} {args : Array Value} {below : List Frame} {meth : Method} {c : Code} {cells slots : Nat} {QW : State → Prop} {cc : ByteArray} {own : String} {nL : Nat} {ret : Option FieldType} {ad : Nat → Nat} {D : va_G} {cI cC cG : ClassId} {A0 : Nat → Prop}

theorem sd_iconstz (X : aXz p s m args meth c R cells slots cc own nL ad D cI cC cG A0) {K : aK} {Ret : Option AV → Mem → Prop} {n a b : Nat} {z : Int} {pc : Nat} {L : Lc} {st : List AV} {μ : Mem} {k : Int} (hd : decode cc pc = .ok (.iconst k, 1)) (hn : n = pc + 1) (hv : z = k) (hz : inR z) (hK : ∀ pc L st μ, K pc L st μ → aGz p l e R s m args below meth c cells slots QW nL ad D cI cC cG A0 pc L st μ) (h : stepIz Ret (.iconst k) n a b z L st μ K) : aGz p l e R s m args below meth c cells slots QW nL ad D cI cC cG A0 pc L st μ := by
  intro H locs ls hP hS hL hR hst
  obtain ⟨⟨hx, hb, hml, hown, hts⟩, hKn, hSt, hNs, hA, hI, hc, hs⟩ := X
  subst hn
  subst hv
  exact lv_iconst hx hb hd rfl (hK _ _ _ _ h H locs ls hP hS hL hR (wf_c hz hst))

theorem sd_bipushz (X : aXz p s m args meth c R cells slots cc own nL ad D cI cC cG A0) {K : aK} {Ret : Option AV → Mem → Prop} {n a b : Nat} {z : Int} {pc : Nat} {L : Lc} {st : List AV} {μ : Mem} {k : Int} (hd : decode cc pc = .ok (.bipush k, 2)) (hn : n = pc + 2) (hv : (Int8.ofInt k).toInt32 = i32 z) (hz : inR z) (hK : ∀ pc L st μ, K pc L st μ → aGz p l e R s m args below meth c cells slots QW nL ad D cI cC cG A0 pc L st μ) (h : stepIz Ret (.bipush k) n a b z L st μ K) : aGz p l e R s m args below meth c cells slots QW nL ad D cI cC cG A0 pc L st μ := by
  intro H locs ls hP hS hL hR hst
  obtain ⟨⟨hx, hb, hml, hown, hts⟩, hKn, hSt, hNs, hA, hI, hc, hs⟩ := X
  subst hn
  exact lv_bipush hx hb hd hv (hK _ _ _ _ h H locs ls hP hS hL hR (wf_c hz hst))

theorem sd_sipushz (X : aXz p s m args meth c R cells slots cc own nL ad D cI cC cG A0) {K : aK} {Ret : Option AV → Mem → Prop} {n a b : Nat} {z : Int} {pc : Nat} {L : Lc} {st : List AV} {μ : Mem} {k : Int} (hd : decode cc pc = .ok (.sipush k, 3)) (hn : n = pc + 3) (hv : (Int16.ofInt k).toInt32 = i32 z) (hz : inR z) (hK : ∀ pc L st μ, K pc L st μ → aGz p l e R s m args below meth c cells slots QW nL ad D cI cC cG A0 pc L st μ) (h : stepIz Ret (.sipush k) n a b z L st μ K) : aGz p l e R s m args below meth c cells slots QW nL ad D cI cC cG A0 pc L st μ := by
  intro H locs ls hP hS hL hR hst
  obtain ⟨⟨hx, hb, hml, hown, hts⟩, hKn, hSt, hNs, hA, hI, hc, hs⟩ := X
  subst hn
  exact lv_sipush hx hb hd hv (hK _ _ _ _ h H locs ls hP hS hL hR (wf_c hz hst))

theorem sd_ldcz (X : aXz p s m args meth c R cells slots cc own nL ad D cI cC cG A0) {K : aK} {Ret : Option AV → Mem → Prop} {n a b : Nat} {z : Int} {pc : Nat} {L : Lc} {st : List AV} {μ : Mem} {k : Nat} (hd : decode cc pc = .ok (.ldc k, 2)) (hn : n = pc + 2) (hw : Cond.constant own k (i32 z) ∈ lw_g) (hz : inR z) (hK : ∀ pc L st μ, K pc L st μ → aGz p l e R s m args below meth c cells slots QW nL ad D cI cC cG A0 pc L st μ) (h : stepIz Ret (.ldc k) n a b z L st μ K) : aGz p l e R s m args below meth c cells slots QW nL ad D cI cC cG A0 pc L st μ := by
  intro H locs ls hP hS hL hR hst
  obtain ⟨⟨hx, hb, hml, hown, hts⟩, hKn, hSt, hNs, hA, hI, hc, hs⟩ := X
  subst hn
  exact lv_ldc hx hb hown (hts _ hw) hd (hK _ _ _ _ h H locs ls hP hS hL hR (wf_c hz hst))

theorem sd_ldc2z (X : aXz p s m args meth c R cells slots cc own nL ad D cI cC cG A0) {K : aK} {Ret : Option AV → Mem → Prop} {n a b : Nat} {z : Int} {pc : Nat} {L : Lc} {st : List AV} {μ : Mem} {k : Nat} (hd : decode cc pc = .ok (.ldc2_w k, 3)) (hn : n = pc + 3) (hw : Cond.constantLong own k (Int64.ofInt z) ∈ lw_g) (hK : ∀ pc L st μ, K pc L st μ → aGz p l e R s m args below meth c cells slots QW nL ad D cI cC cG A0 pc L st μ) (h : stepIz Ret (.ldc2_w k) n a b z L st μ K) : aGz p l e R s m args below meth c cells slots QW nL ad D cI cC cG A0 pc L st μ := by
  intro H locs ls hP hS hL hR hst
  obtain ⟨⟨hx, hb, hml, hown, hts⟩, hKn, hSt, hNs, hA, hI, hc, hs⟩ := X
  subst hn
  exact lv_ldc2 hx hb hown (hts _ hw) hd (hK _ _ _ _ h H locs ls hP hS hL hR (wf_c trivial hst))

theorem sd_nullz (X : aXz p s m args meth c R cells slots cc own nL ad D cI cC cG A0) {K : aK} {Ret : Option AV → Mem → Prop} {n a b : Nat} {z : Int} {pc : Nat} {L : Lc} {st : List AV} {μ : Mem} (hd : decode cc pc = .ok (.aconst_null, 1)) (hn : n = pc + 1) (hK : ∀ pc L st μ, K pc L st μ → aGz p l e R s m args below meth c cells slots QW nL ad D cI cC cG A0 pc L st μ) (h : stepIz Ret (.aconst_null) n a b z L st μ K) : aGz p l e R s m args below meth c cells slots QW nL ad D cI cC cG A0 pc L st μ := by
  intro H locs ls hP hS hL hR hst
  obtain ⟨⟨hx, hb, hml, hown, hts⟩, hKn, hSt, hNs, hA, hI, hc, hs⟩ := X
  subst hn
  exact lv_null hx hb hd (hK _ _ _ _ h H locs ls hP hS hL hR (wf_c trivial hst))

theorem sd_iloadz (X : aXz p s m args meth c R cells slots cc own nL ad D cI cC cG A0) {K : aK} {Ret : Option AV → Mem → Prop} {n a b : Nat} {z : Int} {pc : Nat} {L : Lc} {st : List AV} {μ : Mem} {k : Nat} (hd : decode cc pc = .ok (.iload k, 2)) (hn : n = pc + 2) (hk : k = a) (hK : ∀ pc L st μ, K pc L st μ → aGz p l e R s m args below meth c cells slots QW nL ad D cI cC cG A0 pc L st μ) (h : stepIz Ret (.iload k) n a b z L st μ K) : aGz p l e R s m args below meth c cells slots QW nL ad D cI cC cG A0 pc L st μ := by
  intro H locs ls hP hS hL hR hst
  obtain ⟨⟨hx, hb, hml, hown, hts⟩, hKn, hSt, hNs, hA, hI, hc, hs⟩ := X
  subst hn
  subst hk
  obtain ⟨x, hg, h⟩ := ldI_inv h
  have hg' := hL.2.2 _ _ hg
  exact lv_iload hx hb hd hg'.1 (hK _ _ _ _ h H locs ls hP hS hL hR (wf_c hg'.2 hst))

theorem sd_iload_nz (X : aXz p s m args meth c R cells slots cc own nL ad D cI cC cG A0) {K : aK} {Ret : Option AV → Mem → Prop} {n a b : Nat} {z : Int} {pc : Nat} {L : Lc} {st : List AV} {μ : Mem} {k : Fin 4} (hd : decode cc pc = .ok (.iload_n k, 1)) (hn : n = pc + 1) (hk : (k : Nat) = a) (hK : ∀ pc L st μ, K pc L st μ → aGz p l e R s m args below meth c cells slots QW nL ad D cI cC cG A0 pc L st μ) (h : stepIz Ret (.iload_n k) n a b z L st μ K) : aGz p l e R s m args below meth c cells slots QW nL ad D cI cC cG A0 pc L st μ := by
  intro H locs ls hP hS hL hR hst
  obtain ⟨⟨hx, hb, hml, hown, hts⟩, hKn, hSt, hNs, hA, hI, hc, hs⟩ := X
  subst hn
  obtain ⟨x, hg, h⟩ := ldI_inv h
  have hg' := hL.2.2 _ _ hg
  exact lv_iload_n hx hb hd hk hg'.1 (hK _ _ _ _ h H locs ls hP hS hL hR (wf_c hg'.2 hst))

theorem sd_aloadz (X : aXz p s m args meth c R cells slots cc own nL ad D cI cC cG A0) {K : aK} {Ret : Option AV → Mem → Prop} {n a b : Nat} {z : Int} {pc : Nat} {L : Lc} {st : List AV} {μ : Mem} {k : Nat} (hd : decode cc pc = .ok (.aload k, 2)) (hn : n = pc + 2) (hk : k = a) (hK : ∀ pc L st μ, K pc L st μ → aGz p l e R s m args below meth c cells slots QW nL ad D cI cC cG A0 pc L st μ) (h : stepIz Ret (.aload k) n a b z L st μ K) : aGz p l e R s m args below meth c cells slots QW nL ad D cI cC cG A0 pc L st μ := by
  intro H locs ls hP hS hL hR hst
  obtain ⟨⟨hx, hb, hml, hown, hts⟩, hKn, hSt, hNs, hA, hI, hc, hs⟩ := X
  subst hn
  subst hk
  rcases ldR_inv (show ldR (lget L _) (fun v => K _ L (v :: st) μ) from h) with ⟨r, hg, h⟩ | ⟨hg, h⟩
  · exact lv_aload hx hb hd (hL.2.2 _ _ hg).1 (hK _ _ _ _ h H locs ls hP hS hL hR (wf_c trivial hst))
  · exact lv_aloadN hx hb hd (hL.2.2 _ _ hg).1 (hK _ _ _ _ h H locs ls hP hS hL hR (wf_c trivial hst))

theorem sd_aload_nz (X : aXz p s m args meth c R cells slots cc own nL ad D cI cC cG A0) {K : aK} {Ret : Option AV → Mem → Prop} {n a b : Nat} {z : Int} {pc : Nat} {L : Lc} {st : List AV} {μ : Mem} {k : Fin 4} (hd : decode cc pc = .ok (.aload_n k, 1)) (hn : n = pc + 1) (hk : (k : Nat) = a) (hK : ∀ pc L st μ, K pc L st μ → aGz p l e R s m args below meth c cells slots QW nL ad D cI cC cG A0 pc L st μ) (h : stepIz Ret (.aload_n k) n a b z L st μ K) : aGz p l e R s m args below meth c cells slots QW nL ad D cI cC cG A0 pc L st μ := by
  intro H locs ls hP hS hL hR hst
  obtain ⟨⟨hx, hb, hml, hown, hts⟩, hKn, hSt, hNs, hA, hI, hc, hs⟩ := X
  subst hn
  rcases ldR_inv (show ldR (lget L _) (fun v => K _ L (v :: st) μ) from h) with ⟨r, hg, h⟩ | ⟨hg, h⟩
  · exact lv_aload_n hx hb hd hk (hL.2.2 _ _ hg).1 (hK _ _ _ _ h H locs ls hP hS hL hR (wf_c trivial hst))
  · exact lv_aload_nN hx hb hd hk (hL.2.2 _ _ hg).1 (hK _ _ _ _ h H locs ls hP hS hL hR (wf_c trivial hst))

theorem sd_lloadz (X : aXz p s m args meth c R cells slots cc own nL ad D cI cC cG A0) {K : aK} {Ret : Option AV → Mem → Prop} {n a b : Nat} {z : Int} {pc : Nat} {L : Lc} {st : List AV} {μ : Mem} {k : Nat} (hd : decode cc pc = .ok (.lload k, 2)) (hn : n = pc + 2) (hk : k = a) (hK : ∀ pc L st μ, K pc L st μ → aGz p l e R s m args below meth c cells slots QW nL ad D cI cC cG A0 pc L st μ) (h : stepIz Ret (.lload k) n a b z L st μ K) : aGz p l e R s m args below meth c cells slots QW nL ad D cI cC cG A0 pc L st μ := by
  intro H locs ls hP hS hL hR hst
  obtain ⟨⟨hx, hb, hml, hown, hts⟩, hKn, hSt, hNs, hA, hI, hc, hs⟩ := X
  subst hn
  subst hk
  obtain ⟨x, hg, h⟩ := ldL_inv h
  exact lv_lload hx hb hd (hL.2.2 _ _ hg).1 (hK _ _ _ _ h H locs ls hP hS hL hR (wf_c trivial hst))

theorem sd_lload_nz (X : aXz p s m args meth c R cells slots cc own nL ad D cI cC cG A0) {K : aK} {Ret : Option AV → Mem → Prop} {n a b : Nat} {z : Int} {pc : Nat} {L : Lc} {st : List AV} {μ : Mem} {k : Fin 4} (hd : decode cc pc = .ok (.lload_n k, 1)) (hn : n = pc + 1) (hk : (k : Nat) = a) (hK : ∀ pc L st μ, K pc L st μ → aGz p l e R s m args below meth c cells slots QW nL ad D cI cC cG A0 pc L st μ) (h : stepIz Ret (.lload_n k) n a b z L st μ K) : aGz p l e R s m args below meth c cells slots QW nL ad D cI cC cG A0 pc L st μ := by
  intro H locs ls hP hS hL hR hst
  obtain ⟨⟨hx, hb, hml, hown, hts⟩, hKn, hSt, hNs, hA, hI, hc, hs⟩ := X
  subst hn
  obtain ⟨x, hg, h⟩ := ldL_inv h
  exact lv_lload_n hx hb hd hk (hL.2.2 _ _ hg).1 (hK _ _ _ _ h H locs ls hP hS hL hR (wf_c trivial hst))

theorem sd_istorez (X : aXz p s m args meth c R cells slots cc own nL ad D cI cC cG A0) {K : aK} {Ret : Option AV → Mem → Prop} {n a b : Nat} {z : Int} {pc : Nat} {L : Lc} {st : List AV} {μ : Mem} {k : Nat} (hd : decode cc pc = .ok (.istore k, 2)) (hn : n = pc + 2) (hk : k = a) (ha : a < nL) (hK : ∀ pc L st μ, K pc L st μ → aGz p l e R s m args below meth c cells slots QW nL ad D cI cC cG A0 pc L st μ) (h : stepIz Ret (.istore k) n a b z L st μ K) : aGz p l e R s m args below meth c cells slots QW nL ad D cI cC cG A0 pc L st μ := by
  intro H locs ls hP hS hL hR hst
  obtain ⟨⟨hx, hb, hml, hown, hts⟩, hKn, hSt, hNs, hA, hI, hc, hs⟩ := X
  subst hn
  subst hk
  obtain ⟨x, t, rfl, hn, h⟩ := un_inv h
  exact lv_istore hx hb hd hL.has ha rfl (fun ls' hl' => hK _ _ _ _ h H locs ls' hP hS (hL.set hn (wf_h hst) rfl hl') hR (wf_t hst))

theorem sd_istore_nz (X : aXz p s m args meth c R cells slots cc own nL ad D cI cC cG A0) {K : aK} {Ret : Option AV → Mem → Prop} {n a b : Nat} {z : Int} {pc : Nat} {L : Lc} {st : List AV} {μ : Mem} {k : Fin 4} (hd : decode cc pc = .ok (.istore_n k, 1)) (hn : n = pc + 1) (hk : (k : Nat) = a) (ha : a < nL) (hK : ∀ pc L st μ, K pc L st μ → aGz p l e R s m args below meth c cells slots QW nL ad D cI cC cG A0 pc L st μ) (h : stepIz Ret (.istore_n k) n a b z L st μ K) : aGz p l e R s m args below meth c cells slots QW nL ad D cI cC cG A0 pc L st μ := by
  intro H locs ls hP hS hL hR hst
  obtain ⟨⟨hx, hb, hml, hown, hts⟩, hKn, hSt, hNs, hA, hI, hc, hs⟩ := X
  subst hn
  obtain ⟨x, t, rfl, hn, h⟩ := un_inv h
  exact lv_istore_n hx hb hd hk hL.has ha rfl (fun ls' hl' => hK _ _ _ _ h H locs ls' hP hS (hL.set hn (wf_h hst) rfl hl') hR (wf_t hst))

theorem sd_astorez (X : aXz p s m args meth c R cells slots cc own nL ad D cI cC cG A0) {K : aK} {Ret : Option AV → Mem → Prop} {n a b : Nat} {z : Int} {pc : Nat} {L : Lc} {st : List AV} {μ : Mem} {k : Nat} (hd : decode cc pc = .ok (.astore k, 2)) (hn : n = pc + 2) (hk : k = a) (ha : a < nL) (hK : ∀ pc L st μ, K pc L st μ → aGz p l e R s m args below meth c cells slots QW nL ad D cI cC cG A0 pc L st μ) (h : stepIz Ret (.astore k) n a b z L st μ K) : aGz p l e R s m args below meth c cells slots QW nL ad D cI cC cG A0 pc L st μ := by
  intro H locs ls hP hS hL hR hst
  obtain ⟨⟨hx, hb, hml, hown, hts⟩, hKn, hSt, hNs, hA, hI, hc, hs⟩ := X
  subst hn
  subst hk
  rcases unA_inv (show unA st (fun x st => nlg L _ = true ∧ K _ (lset L _ x) st μ) from h) with ⟨x, t, rfl, hn, h⟩ | ⟨t, rfl, hn, h⟩
  · exact lv_astore hx hb hd hL.has ha rfl (fun ls' hl' => hK _ _ _ _ h H locs ls' hP hS (hL.set hn trivial rfl hl') hR (wf_t hst))
  · exact lv_astoreN hx hb hd hL.has ha rfl (fun ls' hl' => hK _ _ _ _ h H locs ls' hP hS (hL.set hn trivial rfl hl') hR (wf_t hst))

theorem sd_astore_nz (X : aXz p s m args meth c R cells slots cc own nL ad D cI cC cG A0) {K : aK} {Ret : Option AV → Mem → Prop} {n a b : Nat} {z : Int} {pc : Nat} {L : Lc} {st : List AV} {μ : Mem} {k : Fin 4} (hd : decode cc pc = .ok (.astore_n k, 1)) (hn : n = pc + 1) (hk : (k : Nat) = a) (ha : a < nL) (hK : ∀ pc L st μ, K pc L st μ → aGz p l e R s m args below meth c cells slots QW nL ad D cI cC cG A0 pc L st μ) (h : stepIz Ret (.astore_n k) n a b z L st μ K) : aGz p l e R s m args below meth c cells slots QW nL ad D cI cC cG A0 pc L st μ := by
  intro H locs ls hP hS hL hR hst
  obtain ⟨⟨hx, hb, hml, hown, hts⟩, hKn, hSt, hNs, hA, hI, hc, hs⟩ := X
  subst hn
  rcases unA_inv (show unA st (fun x st => nlg L _ = true ∧ K _ (lset L _ x) st μ) from h) with ⟨x, t, rfl, hn, h⟩ | ⟨t, rfl, hn, h⟩
  · exact lv_astore_n hx hb hd hk hL.has ha rfl (fun ls' hl' => hK _ _ _ _ h H locs ls' hP hS (hL.set hn trivial rfl hl') hR (wf_t hst))
  · exact lv_astore_nN hx hb hd hk hL.has ha rfl (fun ls' hl' => hK _ _ _ _ h H locs ls' hP hS (hL.set hn trivial rfl hl') hR (wf_t hst))

theorem sd_lstorez (X : aXz p s m args meth c R cells slots cc own nL ad D cI cC cG A0) {K : aK} {Ret : Option AV → Mem → Prop} {n a b : Nat} {z : Int} {pc : Nat} {L : Lc} {st : List AV} {μ : Mem} {k : Nat} (hd : decode cc pc = .ok (.lstore k, 2)) (hn : n = pc + 2) (hk : k = a) (ha : a + 1 < nL) (hK : ∀ pc L st μ, K pc L st μ → aGz p l e R s m args below meth c cells slots QW nL ad D cI cC cG A0 pc L st μ) (h : stepIz Ret (.lstore k) n a b z L st μ K) : aGz p l e R s m args below meth c cells slots QW nL ad D cI cC cG A0 pc L st μ := by
  intro H locs ls hP hS hL hR hst
  obtain ⟨⟨hx, hb, hml, hown, hts⟩, hKn, hSt, hNs, hA, hI, hc, hs⟩ := X
  subst hn
  subst hk
  obtain ⟨x, t, rfl, hn, h⟩ := unL_inv h
  exact lv_lstore hx hb hd hL.has ha rfl (fun ls' hl' => hK _ _ _ _ h H locs ls' hP hS (hL.set2 hn trivial rfl hl') hR (wf_t hst))

theorem sd_lstore_nz (X : aXz p s m args meth c R cells slots cc own nL ad D cI cC cG A0) {K : aK} {Ret : Option AV → Mem → Prop} {n a b : Nat} {z : Int} {pc : Nat} {L : Lc} {st : List AV} {μ : Mem} {k : Fin 4} (hd : decode cc pc = .ok (.lstore_n k, 1)) (hn : n = pc + 1) (hk : (k : Nat) = a) (ha : a + 1 < nL) (hK : ∀ pc L st μ, K pc L st μ → aGz p l e R s m args below meth c cells slots QW nL ad D cI cC cG A0 pc L st μ) (h : stepIz Ret (.lstore_n k) n a b z L st μ K) : aGz p l e R s m args below meth c cells slots QW nL ad D cI cC cG A0 pc L st μ := by
  intro H locs ls hP hS hL hR hst
  obtain ⟨⟨hx, hb, hml, hown, hts⟩, hKn, hSt, hNs, hA, hI, hc, hs⟩ := X
  subst hn
  obtain ⟨x, t, rfl, hn, h⟩ := unL_inv h
  exact lv_lstore_n hx hb hd hk hL.has ha rfl (fun ls' hl' => hK _ _ _ _ h H locs ls' hP hS (hL.set2 hn trivial rfl hl') hR (wf_t hst))

theorem sd_iincz (X : aXz p s m args meth c R cells slots cc own nL ad D cI cC cG A0) {K : aK} {Ret : Option AV → Mem → Prop} {n a b : Nat} {z : Int} {pc : Nat} {L : Lc} {st : List AV} {μ : Mem} {k : Nat} {q : Int} (hd : decode cc pc = .ok (.iinc k q, 3)) (hn : n = pc + 3) (hk : k = a) (hz : z = q) (ha : a < nL) (hK : ∀ pc L st μ, K pc L st μ → aGz p l e R s m args below meth c cells slots QW nL ad D cI cC cG A0 pc L st μ) (h : stepIz Ret (.iinc k q) n a b z L st μ K) : aGz p l e R s m args below meth c cells slots QW nL ad D cI cC cG A0 pc L st μ := by
  intro H locs ls hP hS hL hR hst
  obtain ⟨⟨hx, hb, hml, hown, hts⟩, hKn, hSt, hNs, hA, hI, hc, hs⟩ := X
  subst hn
  subst hk; subst hz
  obtain ⟨x, hg, hr, hn, h⟩ := ldI_inv h
  have hg' := hL.2.2 _ _ hg
  obtain ⟨j, hj⟩ := List.getElem?_of_mem (canon_in (ad := ad) (L := L) (q := (k, .int (i32 x))).mpr ⟨_, hg, rfl⟩)
  exact lv_iinc hx hb hd hL.has hj (i32_add x z) ha rfl (fun ls' hl' => hK _ _ _ _ h H locs ls' hP hS (hL.set hn hr rfl hl') hR hst)

theorem sd_dupz (X : aXz p s m args meth c R cells slots cc own nL ad D cI cC cG A0) {K : aK} {Ret : Option AV → Mem → Prop} {n a b : Nat} {z : Int} {pc : Nat} {L : Lc} {st : List AV} {μ : Mem} (hd : decode cc pc = .ok (.dup, 1)) (hn : n = pc + 1) (hK : ∀ pc L st μ, K pc L st μ → aGz p l e R s m args below meth c cells slots QW nL ad D cI cC cG A0 pc L st μ) (h : stepIz Ret (.dup) n a b z L st μ K) : aGz p l e R s m args below meth c cells slots QW nL ad D cI cC cG A0 pc L st μ := by
  intro H locs ls hP hS hL hR hst
  obtain ⟨⟨hx, hb, hml, hown, hts⟩, hKn, hSt, hNs, hA, hI, hc, hs⟩ := X
  subst hn
  obtain ⟨v, t, rfl, h2, h⟩ := any1_inv h
  exact lv_dup hx hb hd (by rw [conc_cat, h2]; rfl) (hK _ _ _ _ h H locs ls hP hS hL hR (wf_c (wf_h hst) hst))

theorem sd_popz (X : aXz p s m args meth c R cells slots cc own nL ad D cI cC cG A0) {K : aK} {Ret : Option AV → Mem → Prop} {n a b : Nat} {z : Int} {pc : Nat} {L : Lc} {st : List AV} {μ : Mem} (hd : decode cc pc = .ok (.pop, 1)) (hn : n = pc + 1) (hK : ∀ pc L st μ, K pc L st μ → aGz p l e R s m args below meth c cells slots QW nL ad D cI cC cG A0 pc L st μ) (h : stepIz Ret (.pop) n a b z L st μ K) : aGz p l e R s m args below meth c cells slots QW nL ad D cI cC cG A0 pc L st μ := by
  intro H locs ls hP hS hL hR hst
  obtain ⟨⟨hx, hb, hml, hown, hts⟩, hKn, hSt, hNs, hA, hI, hc, hs⟩ := X
  subst hn
  obtain ⟨v, t, rfl, h2, h⟩ := any1_inv h
  exact lv_pop hx hb hd (by rw [conc_cat, h2]; rfl) (hK _ _ _ _ h H locs ls hP hS hL hR (wf_t hst))

theorem sd_dup2z (X : aXz p s m args meth c R cells slots cc own nL ad D cI cC cG A0) {K : aK} {Ret : Option AV → Mem → Prop} {n a b : Nat} {z : Int} {pc : Nat} {L : Lc} {st : List AV} {μ : Mem} (hd : decode cc pc = .ok (.dup2, 1)) (hn : n = pc + 1) (hK : ∀ pc L st μ, K pc L st μ → aGz p l e R s m args below meth c cells slots QW nL ad D cI cC cG A0 pc L st μ) (h : stepIz Ret (.dup2) n a b z L st μ K) : aGz p l e R s m args below meth c cells slots QW nL ad D cI cC cG A0 pc L st μ := by
  intro H locs ls hP hS hL hR hst
  obtain ⟨⟨hx, hb, hml, hown, hts⟩, hKn, hSt, hNs, hA, hI, hc, hs⟩ := X
  subst hn
  obtain ⟨v, t, rfl, h2, h⟩ := any1_inv h
  obtain ⟨w, t, rfl, h3, h⟩ := any1_inv h
  exact lv_dup2_11 hx hb hd (by rw [conc_cat, h2]; rfl) (by rw [conc_cat, h3]; rfl) (hK _ _ _ _ h H locs ls hP hS hL hR (wf_c (wf_h hst) (wf_c (wf_h (wf_t hst)) hst)))

theorem sd_iaddz (X : aXz p s m args meth c R cells slots cc own nL ad D cI cC cG A0) {K : aK} {Ret : Option AV → Mem → Prop} {n a b : Nat} {z : Int} {pc : Nat} {L : Lc} {st : List AV} {μ : Mem} (hd : decode cc pc = .ok (.iadd, 1)) (hn : n = pc + 1) (hK : ∀ pc L st μ, K pc L st μ → aGz p l e R s m args below meth c cells slots QW nL ad D cI cC cG A0 pc L st μ) (h : stepIz Ret (.iadd) n a b z L st μ K) : aGz p l e R s m args below meth c cells slots QW nL ad D cI cC cG A0 pc L st μ := by
  intro H locs ls hP hS hL hR hst
  obtain ⟨⟨hx, hb, hml, hown, hts⟩, hKn, hSt, hNs, hA, hI, hc, hs⟩ := X
  subst hn
  obtain ⟨x, y, t, rfl, hr, h⟩ := bin_inv h
  refine lv_iadd hx hb hd ?_
  rw [i32_add]
  exact hK _ _ _ _ h H locs ls hP hS hL hR (wf_c hr (wf_t (wf_t hst)))

theorem sd_isubz (X : aXz p s m args meth c R cells slots cc own nL ad D cI cC cG A0) {K : aK} {Ret : Option AV → Mem → Prop} {n a b : Nat} {z : Int} {pc : Nat} {L : Lc} {st : List AV} {μ : Mem} (hd : decode cc pc = .ok (.isub, 1)) (hn : n = pc + 1) (hK : ∀ pc L st μ, K pc L st μ → aGz p l e R s m args below meth c cells slots QW nL ad D cI cC cG A0 pc L st μ) (h : stepIz Ret (.isub) n a b z L st μ K) : aGz p l e R s m args below meth c cells slots QW nL ad D cI cC cG A0 pc L st μ := by
  intro H locs ls hP hS hL hR hst
  obtain ⟨⟨hx, hb, hml, hown, hts⟩, hKn, hSt, hNs, hA, hI, hc, hs⟩ := X
  subst hn
  obtain ⟨x, y, t, rfl, hr, h⟩ := bin_inv h
  refine lv_isub hx hb hd ?_
  rw [i32_sub]
  exact hK _ _ _ _ h H locs ls hP hS hL hR (wf_c hr (wf_t (wf_t hst)))

theorem sd_imulz (X : aXz p s m args meth c R cells slots cc own nL ad D cI cC cG A0) {K : aK} {Ret : Option AV → Mem → Prop} {n a b : Nat} {z : Int} {pc : Nat} {L : Lc} {st : List AV} {μ : Mem} (hd : decode cc pc = .ok (.imul, 1)) (hn : n = pc + 1) (hK : ∀ pc L st μ, K pc L st μ → aGz p l e R s m args below meth c cells slots QW nL ad D cI cC cG A0 pc L st μ) (h : stepIz Ret (.imul) n a b z L st μ K) : aGz p l e R s m args below meth c cells slots QW nL ad D cI cC cG A0 pc L st μ := by
  intro H locs ls hP hS hL hR hst
  obtain ⟨⟨hx, hb, hml, hown, hts⟩, hKn, hSt, hNs, hA, hI, hc, hs⟩ := X
  subst hn
  obtain ⟨x, y, t, rfl, hr, h⟩ := bin_inv h
  refine lv_imul hx hb hd ?_
  rw [i32_mul]
  exact hK _ _ _ _ h H locs ls hP hS hL hR (wf_c hr (wf_t (wf_t hst)))

theorem sd_idivz (X : aXz p s m args meth c R cells slots cc own nL ad D cI cC cG A0) {K : aK} {Ret : Option AV → Mem → Prop} {n a b : Nat} {z : Int} {pc : Nat} {L : Lc} {st : List AV} {μ : Mem} (hd : decode cc pc = .ok (.idiv, 1)) (hn : n = pc + 1) (hK : ∀ pc L st μ, K pc L st μ → aGz p l e R s m args below meth c cells slots QW nL ad D cI cC cG A0 pc L st μ) (h : stepIz Ret (.idiv) n a b z L st μ K) : aGz p l e R s m args below meth c cells slots QW nL ad D cI cC cG A0 pc L st μ := by
  intro H locs ls hP hS hL hR hst
  obtain ⟨⟨hx, hb, hml, hown, hts⟩, hKn, hSt, hNs, hA, hI, hc, hs⟩ := X
  subst hn
  obtain ⟨x, y, t, rfl, h0, h1, h⟩ := bin_inv h
  have rx : inR x := wf_h (wf_t hst)
  have ry : inR y := wf_h hst
  refine lv_idiv hx hb hd (fun e => ?_) ?_
  · have := (i32_inj ry inR_0).mp (e.trans i32_0.symm)
    omega
  · rw [i32_div h0 rx h1 ry]
    have h2 := Int.ediv_le_self y h0
    have h3 := Int.ediv_nonneg h0 (Int.le_of_lt h1)
    exact hK _ _ _ _ h H locs ls hP hS hL hR (wf_c (show inR (x / y) by unfold inR at *; omega) (wf_t (wf_t hst)))

theorem sd_iremz (X : aXz p s m args meth c R cells slots cc own nL ad D cI cC cG A0) {K : aK} {Ret : Option AV → Mem → Prop} {n a b : Nat} {z : Int} {pc : Nat} {L : Lc} {st : List AV} {μ : Mem} (hd : decode cc pc = .ok (.irem, 1)) (hn : n = pc + 1) (hK : ∀ pc L st μ, K pc L st μ → aGz p l e R s m args below meth c cells slots QW nL ad D cI cC cG A0 pc L st μ) (h : stepIz Ret (.irem) n a b z L st μ K) : aGz p l e R s m args below meth c cells slots QW nL ad D cI cC cG A0 pc L st μ := by
  intro H locs ls hP hS hL hR hst
  obtain ⟨⟨hx, hb, hml, hown, hts⟩, hKn, hSt, hNs, hA, hI, hc, hs⟩ := X
  subst hn
  obtain ⟨x, y, t, rfl, h0, h1, h⟩ := bin_inv h
  have rx : inR x := wf_h (wf_t hst)
  have ry : inR y := wf_h hst
  refine lv_irem hx hb hd (fun e => ?_) ?_
  · have := (i32_inj ry inR_0).mp (e.trans i32_0.symm)
    omega
  · rw [i32_div h0 rx h1 ry, i32_mul, i32_sub]
    have h4 : x - x / y * y = x % y := by have := Int.mul_ediv_add_emod x y; rw [Int.mul_comm] at this; omega
    rw [h4]
    have h2 := Int.emod_lt_of_pos x h1
    have h3 := Int.emod_nonneg x (show y ≠ 0 by omega)
    exact hK _ _ _ _ h H locs ls hP hS hL hR (wf_c (show inR (x % y) by unfold inR at *; omega) (wf_t (wf_t hst)))

theorem sd_inegz (X : aXz p s m args meth c R cells slots cc own nL ad D cI cC cG A0) {K : aK} {Ret : Option AV → Mem → Prop} {n a b : Nat} {z : Int} {pc : Nat} {L : Lc} {st : List AV} {μ : Mem} (hd : decode cc pc = .ok (.ineg, 1)) (hn : n = pc + 1) (hK : ∀ pc L st μ, K pc L st μ → aGz p l e R s m args below meth c cells slots QW nL ad D cI cC cG A0 pc L st μ) (h : stepIz Ret (.ineg) n a b z L st μ K) : aGz p l e R s m args below meth c cells slots QW nL ad D cI cC cG A0 pc L st μ := by
  intro H locs ls hP hS hL hR hst
  obtain ⟨⟨hx, hb, hml, hown, hts⟩, hKn, hSt, hNs, hA, hI, hc, hs⟩ := X
  subst hn
  obtain ⟨x, t, rfl, hr, h⟩ := un_inv h
  refine lv_ineg hx hb hd ?_
  rw [i32_neg]
  exact hK _ _ _ _ h H locs ls hP hS hL hR (wf_c hr (wf_t hst))

theorem sd_i2cz (X : aXz p s m args meth c R cells slots cc own nL ad D cI cC cG A0) {K : aK} {Ret : Option AV → Mem → Prop} {n a b : Nat} {z : Int} {pc : Nat} {L : Lc} {st : List AV} {μ : Mem} (hd : decode cc pc = .ok (.i2c, 1)) (hn : n = pc + 1) (hK : ∀ pc L st μ, K pc L st μ → aGz p l e R s m args below meth c cells slots QW nL ad D cI cC cG A0 pc L st μ) (h : stepIz Ret (.i2c) n a b z L st μ K) : aGz p l e R s m args below meth c cells slots QW nL ad D cI cC cG A0 pc L st μ := by
  intro H locs ls hP hS hL hR hst
  obtain ⟨⟨hx, hb, hml, hown, hts⟩, hKn, hSt, hNs, hA, hI, hc, hs⟩ := X
  subst hn
  obtain ⟨x, t, rfl, h0, h1, h⟩ := un_inv h
  exact lv_i2c hx hb hd (i32_char h0 h1) (hK _ _ _ _ h H locs ls hP hS hL hR (wf_c (wf_h hst) (wf_t hst)))

theorem sd_i2lz (X : aXz p s m args meth c R cells slots cc own nL ad D cI cC cG A0) {K : aK} {Ret : Option AV → Mem → Prop} {n a b : Nat} {z : Int} {pc : Nat} {L : Lc} {st : List AV} {μ : Mem} (hd : decode cc pc = .ok (.i2l, 1)) (hn : n = pc + 1) (hK : ∀ pc L st μ, K pc L st μ → aGz p l e R s m args below meth c cells slots QW nL ad D cI cC cG A0 pc L st μ) (h : stepIz Ret (.i2l) n a b z L st μ K) : aGz p l e R s m args below meth c cells slots QW nL ad D cI cC cG A0 pc L st μ := by
  intro H locs ls hP hS hL hR hst
  obtain ⟨⟨hx, hb, hml, hown, hts⟩, hKn, hSt, hNs, hA, hI, hc, hs⟩ := X
  subst hn
  obtain ⟨x, t, rfl, h⟩ := un_inv h
  exact lv_i2l hx hb hd (i32_long (wf_h hst)) (hK _ _ _ _ h H locs ls hP hS hL hR (wf_c trivial (wf_t hst)))

theorem sd_laddz (X : aXz p s m args meth c R cells slots cc own nL ad D cI cC cG A0) {K : aK} {Ret : Option AV → Mem → Prop} {n a b : Nat} {z : Int} {pc : Nat} {L : Lc} {st : List AV} {μ : Mem} (hd : decode cc pc = .ok (.ladd, 1)) (hn : n = pc + 1) (hK : ∀ pc L st μ, K pc L st μ → aGz p l e R s m args below meth c cells slots QW nL ad D cI cC cG A0 pc L st μ) (h : stepIz Ret (.ladd) n a b z L st μ K) : aGz p l e R s m args below meth c cells slots QW nL ad D cI cC cG A0 pc L st μ := by
  intro H locs ls hP hS hL hR hst
  obtain ⟨⟨hx, hb, hml, hown, hts⟩, hKn, hSt, hNs, hA, hI, hc, hs⟩ := X
  subst hn
  obtain ⟨x, y, t, rfl, h⟩ := binL_inv h
  exact lv_ladd hx hb hd (hK _ _ _ _ h H locs ls hP hS hL hR (wf_c trivial (wf_t (wf_t hst))))

theorem sd_lmulz (X : aXz p s m args meth c R cells slots cc own nL ad D cI cC cG A0) {K : aK} {Ret : Option AV → Mem → Prop} {n a b : Nat} {z : Int} {pc : Nat} {L : Lc} {st : List AV} {μ : Mem} (hd : decode cc pc = .ok (.lmul, 1)) (hn : n = pc + 1) (hK : ∀ pc L st μ, K pc L st μ → aGz p l e R s m args below meth c cells slots QW nL ad D cI cC cG A0 pc L st μ) (h : stepIz Ret (.lmul) n a b z L st μ K) : aGz p l e R s m args below meth c cells slots QW nL ad D cI cC cG A0 pc L st μ := by
  intro H locs ls hP hS hL hR hst
  obtain ⟨⟨hx, hb, hml, hown, hts⟩, hKn, hSt, hNs, hA, hI, hc, hs⟩ := X
  subst hn
  obtain ⟨x, y, t, rfl, h⟩ := binL_inv h
  exact lv_lmul hx hb hd (hK _ _ _ _ h H locs ls hP hS hL hR (wf_c trivial (wf_t (wf_t hst))))

theorem sd_gotoz (X : aXz p s m args meth c R cells slots cc own nL ad D cI cC cG A0) {K : aK} {Ret : Option AV → Mem → Prop} {n a b : Nat} {z : Int} {pc : Nat} {L : Lc} {st : List AV} {μ : Mem} {off : Int} (hd : decode cc pc = .ok (.goto off, 3)) (hn : n = pc + 3) (ht : (pc : Int) + off = (a : Int)) (hK : ∀ pc L st μ, K pc L st μ → aGz p l e R s m args below meth c cells slots QW nL ad D cI cC cG A0 pc L st μ) (h : stepIz Ret (.goto off) n a b z L st μ K) : aGz p l e R s m args below meth c cells slots QW nL ad D cI cC cG A0 pc L st μ := by
  intro H locs ls hP hS hL hR hst
  obtain ⟨⟨hx, hb, hml, hown, hts⟩, hKn, hSt, hNs, hA, hI, hc, hs⟩ := X
  subst hn
  exact lv_goto hx hb hd ht (hK _ _ _ _ h H locs ls hP hS hL hR hst)

theorem sd_ifCondz (X : aXz p s m args meth c R cells slots cc own nL ad D cI cC cG A0) {K : aK} {Ret : Option AV → Mem → Prop} {n a b : Nat} {z : Int} {pc : Nat} {L : Lc} {st : List AV} {μ : Mem} {q : Jvm.ClassFile.Cond} {off : Int} (hd : decode cc pc = .ok (.ifCond q off, 3)) (hn : n = pc + 3) (ht : (pc : Int) + off = (a : Int)) (hK : ∀ pc L st μ, K pc L st μ → aGz p l e R s m args below meth c cells slots QW nL ad D cI cC cG A0 pc L st μ) (h : stepIz Ret (.ifCond q off) n a b z L st μ K) : aGz p l e R s m args below meth c cells slots QW nL ad D cI cC cG A0 pc L st μ := by
  intro H locs ls hP hS hL hR hst
  obtain ⟨⟨hx, hb, hml, hown, hts⟩, hKn, hSt, hNs, hA, hI, hc, hs⟩ := X
  subst hn
  obtain ⟨x, t, rfl, ht1, hf1⟩ := un_inv h
  have rx : inR x := wf_h hst
  cases q with
  | eq => exact lv_if_eq hx hb hd ht (fun e => hK _ _ _ _ (ht1 ((i32_inj rx inR_0).mp e)) H locs ls hP hS hL hR (wf_t hst)) (fun e => hK _ _ _ _ (hf1 (fun z => e ((i32_inj rx inR_0).mpr z))) H locs ls hP hS hL hR (wf_t hst))
  | ne => exact lv_if_ne hx hb hd ht (fun e => hK _ _ _ _ (ht1 ((not_congr (i32_inj rx inR_0)).mp e)) H locs ls hP hS hL hR (wf_t hst)) (fun e => hK _ _ _ _ (hf1 (fun z => z ((i32_inj rx inR_0).mp e))) H locs ls hP hS hL hR (wf_t hst))
  | lt => exact lv_if_lt hx hb hd ht (fun e => hK _ _ _ _ (ht1 ((i32_lt rx inR_0).mp e)) H locs ls hP hS hL hR (wf_t hst)) (fun e => hK _ _ _ _ (hf1 (fun z => e ((i32_lt rx inR_0).mpr z))) H locs ls hP hS hL hR (wf_t hst))
  | ge => exact lv_if_ge hx hb hd ht (fun e => hK _ _ _ _ (ht1 ((i32_le inR_0 rx).mp e)) H locs ls hP hS hL hR (wf_t hst)) (fun e => hK _ _ _ _ (hf1 (fun z => e ((i32_le inR_0 rx).mpr z))) H locs ls hP hS hL hR (wf_t hst))
  | gt => exact lv_if_gt hx hb hd ht (fun e => hK _ _ _ _ (ht1 ((i32_lt inR_0 rx).mp e)) H locs ls hP hS hL hR (wf_t hst)) (fun e => hK _ _ _ _ (hf1 (fun z => e ((i32_lt inR_0 rx).mpr z))) H locs ls hP hS hL hR (wf_t hst))
  | le => exact lv_if_le hx hb hd ht (fun e => hK _ _ _ _ (ht1 ((i32_le rx inR_0).mp e)) H locs ls hP hS hL hR (wf_t hst)) (fun e => hK _ _ _ _ (hf1 (fun z => e ((i32_le rx inR_0).mpr z))) H locs ls hP hS hL hR (wf_t hst))

theorem sd_if_icmpz (X : aXz p s m args meth c R cells slots cc own nL ad D cI cC cG A0) {K : aK} {Ret : Option AV → Mem → Prop} {n a b : Nat} {z : Int} {pc : Nat} {L : Lc} {st : List AV} {μ : Mem} {q : Jvm.ClassFile.Cond} {off : Int} (hd : decode cc pc = .ok (.if_icmp q off, 3)) (hn : n = pc + 3) (ht : (pc : Int) + off = (a : Int)) (hK : ∀ pc L st μ, K pc L st μ → aGz p l e R s m args below meth c cells slots QW nL ad D cI cC cG A0 pc L st μ) (h : stepIz Ret (.if_icmp q off) n a b z L st μ K) : aGz p l e R s m args below meth c cells slots QW nL ad D cI cC cG A0 pc L st μ := by
  intro H locs ls hP hS hL hR hst
  obtain ⟨⟨hx, hb, hml, hown, hts⟩, hKn, hSt, hNs, hA, hI, hc, hs⟩ := X
  subst hn
  obtain ⟨x, y, t, rfl, ht1, hf1⟩ := bin_inv h
  have rx : inR x := wf_h (wf_t hst)
  have ry : inR y := wf_h hst
  cases q with
  | eq => exact lv_icmp_eq hx hb hd ht (fun e => hK _ _ _ _ (ht1 ((i32_inj rx ry).mp e)) H locs ls hP hS hL hR (wf_t (wf_t hst))) (fun e => hK _ _ _ _ (hf1 (fun z => e ((i32_inj rx ry).mpr z))) H locs ls hP hS hL hR (wf_t (wf_t hst)))
  | ne => exact lv_icmp_ne hx hb hd ht (fun e => hK _ _ _ _ (ht1 ((not_congr (i32_inj rx ry)).mp e)) H locs ls hP hS hL hR (wf_t (wf_t hst))) (fun e => hK _ _ _ _ (hf1 (fun z => z ((i32_inj rx ry).mp e))) H locs ls hP hS hL hR (wf_t (wf_t hst)))
  | lt => exact lv_icmp_lt hx hb hd ht (fun e => hK _ _ _ _ (ht1 ((i32_lt rx ry).mp e)) H locs ls hP hS hL hR (wf_t (wf_t hst))) (fun e => hK _ _ _ _ (hf1 (fun z => e ((i32_lt rx ry).mpr z))) H locs ls hP hS hL hR (wf_t (wf_t hst)))
  | ge => exact lv_icmp_ge hx hb hd ht (fun e => hK _ _ _ _ (ht1 ((i32_le ry rx).mp e)) H locs ls hP hS hL hR (wf_t (wf_t hst))) (fun e => hK _ _ _ _ (hf1 (fun z => e ((i32_le ry rx).mpr z))) H locs ls hP hS hL hR (wf_t (wf_t hst)))
  | gt => exact lv_icmp_gt hx hb hd ht (fun e => hK _ _ _ _ (ht1 ((i32_lt ry rx).mp e)) H locs ls hP hS hL hR (wf_t (wf_t hst))) (fun e => hK _ _ _ _ (hf1 (fun z => e ((i32_lt ry rx).mpr z))) H locs ls hP hS hL hR (wf_t (wf_t hst)))
  | le => exact lv_icmp_le hx hb hd ht (fun e => hK _ _ _ _ (ht1 ((i32_le rx ry).mp e)) H locs ls hP hS hL hR (wf_t (wf_t hst))) (fun e => hK _ _ _ _ (hf1 (fun z => e ((i32_le rx ry).mpr z))) H locs ls hP hS hL hR (wf_t (wf_t hst)))

theorem sd_ifnullz (X : aXz p s m args meth c R cells slots cc own nL ad D cI cC cG A0) {K : aK} {Ret : Option AV → Mem → Prop} {n a b : Nat} {z : Int} {pc : Nat} {L : Lc} {st : List AV} {μ : Mem} {off : Int} (hd : decode cc pc = .ok (.ifnull off, 3)) (hn : n = pc + 3) (ht : (pc : Int) + off = (a : Int)) (hK : ∀ pc L st μ, K pc L st μ → aGz p l e R s m args below meth c cells slots QW nL ad D cI cC cG A0 pc L st μ) (h : stepIz Ret (.ifnull off) n a b z L st μ K) : aGz p l e R s m args below meth c cells slots QW nL ad D cI cC cG A0 pc L st μ := by
  intro H locs ls hP hS hL hR hst
  obtain ⟨⟨hx, hb, hml, hown, hts⟩, hKn, hSt, hNs, hA, hI, hc, hs⟩ := X
  subst hn
  rcases unA_inv (show unA st (fun v st => (v = .inr .null → K a L st μ) ∧ (¬ v = .inr .null → K _ L st μ)) from h) with ⟨x, t, rfl, h1, h2⟩ | ⟨t, rfl, h1, h2⟩
  · exact lv_ifnull hx hb hd (hK _ _ _ _ (h2 (by simp)) H locs ls hP hS hL hR (wf_t hst))
  · exact lv_ifnullN hx hb hd ht (hK _ _ _ _ (h1 rfl) H locs ls hP hS hL hR (wf_t hst))

theorem cell_objz {k ci : Nat} {fs : List (Option Nat)} {μ : Mem} (h : shpz k = .inl (ci, fs)) : (wwz ad cI cC cG μ)[k]? = some (ad k, .inr (ci, mkF ad (μ k) fs 0)) := by
  rw [ww_getz (shp_inz (by rw [h]; simp))]
  unfold cellEz
  rw [h]

theorem sd_getfieldz (X : aXz p s m args meth c R cells slots cc own nL ad D cI cC cG A0) {K : aK} {Ret : Option AV → Mem → Prop} {n a b : Nat} {z : Int} {pc : Nat} {L : Lc} {st : List AV} {μ : Mem} {k0 w : Nat} (hd : decode cc pc = .ok (.getfield k0, 3)) (hn : n = pc + 3) (hf : okF own k0 a b w z = true) (hK : ∀ pc L st μ, K pc L st μ → aGz p l e R s m args below meth c cells slots QW nL ad D cI cC cG A0 pc L st μ) (h : stepIz Ret (.getfield k0) n a b z L st μ K) : aGz p l e R s m args below meth c cells slots QW nL ad D cI cC cG A0 pc L st μ := by
  intro H locs ls hP hS hL hR hst
  obtain ⟨⟨hx, hb, hml, hown, hts⟩, hKn, hSt, hNs, hA, hI, hc, hs⟩ := X
  subst hn
  obtain ⟨k, t, rfl, h⟩ := unR_inv h
  obtain ⟨fs, hsh, h⟩ := gfld_inv h
  obtain ⟨C, T, N, hcl, hlt, rfl, hC, hlk⟩ := okF_inv hf
  have he := cell_objz (ad := ad) (cI := cI) (cC := cC) (cG := cG) (μ := μ) hsh
  have hsame : ∀ x, s.fieldFound? (T a).1 (T a).2.1 (T a).2.2.1 = some x → s.fieldFound? C (T a).2.1 (T a).2.2.1 = some x := by rw [hC]; exact fun _ h9 => h9
  rcases h with ⟨hv, h⟩ | ⟨r, hv, h⟩
  · have hv2 : (mkF ad (μ k) fs 0)[a]? = some (.int (i32 (μ k a))) := by rw [mkF_get, hv]; simp
    have kk := hK _ _ _ _ h H locs ls hP hS hL hR (wf_c (hR k a).1 (wf_t hst))
    rcases hlk with hlk | hlk
    · exact va_get hx hb hts (uws_in hcl) hown hKn hP k he hcl a hlt (hts _ hlk) hsame hv2 hd kk
    · exact va_getN hx hb hts (uws_in hcl) hown hKn hP k he hcl a hlt ((lkN_at hlk hNs).use rfl) hsame hv2 hd kk
  · have hv2 : (mkF ad (μ k) fs 0)[a]? = some (.ref (ad r)) := by rw [mkF_get, hv]; simp
    have kk := hK _ _ _ _ h H locs ls hP hS hL hR (wf_c trivial (wf_t hst))
    rcases hlk with hlk | hlk
    · exact va_get hx hb hts (uws_in hcl) hown hKn hP k he hcl a hlt (hts _ hlk) hsame hv2 hd kk
    · exact va_getN hx hb hts (uws_in hcl) hown hKn hP k he hcl a hlt ((lkN_at hlk hNs).use rfl) hsame hv2 hd kk

theorem sd_putfieldz (X : aXz p s m args meth c R cells slots cc own nL ad D cI cC cG A0) {K : aK} {Ret : Option AV → Mem → Prop} {n a b : Nat} {z : Int} {pc : Nat} {L : Lc} {st : List AV} {μ : Mem} {k0 w : Nat} (hd : decode cc pc = .ok (.putfield k0, 3)) (hn : n = pc + 3) (hf : okF own k0 a b w z = true) (hp : okP a b = true) (hK : ∀ pc L st μ, K pc L st μ → aGz p l e R s m args below meth c cells slots QW nL ad D cI cC cG A0 pc L st μ) (h : stepIz Ret (.putfield k0) n a b z L st μ K) : aGz p l e R s m args below meth c cells slots QW nL ad D cI cC cG A0 pc L st μ := by
  intro H locs ls hP hS hL hR hst
  obtain ⟨⟨hx, hb, hml, hown, hts⟩, hKn, hSt, hNs, hA, hI, hc, hs⟩ := X
  subst hn
  obtain ⟨x, t, rfl, h⟩ := un_inv h
  obtain ⟨k, t, rfl, h⟩ := unR_inv h
  obtain ⟨fs, hsh, hv, h⟩ := pfld_inv h
  obtain ⟨C, T, N, hcl, hlt, rfl, hC, hlk⟩ := okF_inv hf
  obtain ⟨hfin, hI1⟩ := okP_inv hp hcl
  have he := cell_objz (ad := ad) (cI := cI) (cC := cC) (cG := cG) (μ := μ) hsh
  have hsame : ∀ x, s.fieldFound? (T a).1 (T a).2.1 (T a).2.2.1 = some x → s.fieldFound? C (T a).2.1 (T a).2.2.1 = some x := by rw [hC]; exact fun _ h9 => h9
  have hb9 : b < 8 := (List.getElem?_eq_some_iff.mp hcl).1
  obtain ⟨ty, hty⟩ := ty_ok b hb9
  obtain ⟨hty, hnm⟩ := hty C T N hcl
  have hset : (wwz ad cI cC cG μ).set k (ad k, .inr (b, (mkF ad (μ k) fs 0).set a (.int (i32 x)))) = wwz ad cI cC cG (stM μ k a x) := by
    refine ww_setz ?_ (fun j hj => stM_ne hj)
    unfold cellEz
    rw [hsh]
    simp only []
    rw [mkF_set ad (μ k) (stM μ k a x k) fs a x hv (by simp [stM]) (fun j hj => by simp [stM, hj])]
  have kk : ∀ (H1 : Heap) (locs1 : List Loc), va_P D vwCl ((wwz ad cI cC cG μ).set k (ad k, .inr (b, (mkF ad (μ k) fs 0).set a (.int (i32 x))))) H1 → va_D A0 ((wwz ad cI cC cG μ).set k (ad k, .inr (b, (mkF ad (μ k) fs 0).set a (.int (i32 x))))) → va_S A0 s.heap H1 locs1 → W p l e R s m args below meth c H1 locs1 cells slots QW (F0 m (pc + 3) ls (t.map (conc ad))) := by
    intro H1 locs1 hP1 _ hS1
    rw [hset] at hP1
    exact hK _ _ _ _ h H1 locs1 ls hP1 hS1 hL (stM_rngz hR (wf_h hst) (fun n hn => by rw [hsh] at hn; cases hn)) (wf_t (wf_t hst))
  have hl9 : a < (mkF ad (μ k) fs 0).length := by rw [mkF_len]; exact (List.getElem?_eq_some_iff.mp hv).1
  rcases hlk with hlk | hlk
  · exact va_put hx hb hts (uws_in hcl) ty hty hnm hown hKn hP (aDz hI hA) hS k he hcl a hlt (hts _ hlk) hsame hfin (ty := .int) (by rw [hI1]; decide +kernel) rfl rfl hl9 hd kk
  · exact va_putN hx hb hts (uws_in hcl) ty hty hnm hown hKn hP (aDz hI hA) hS k he hcl a hlt ((lkN_at hlk hNs).use rfl) hsame hfin (ty := .int) (by rw [hI1]; decide +kernel) rfl rfl hl9 hd kk

end SND

section SND2
variable {p : Program} {l : Launch} {e : Env} {R : Room} {s : State} {m : MethodId} {args : Array Value} {below : List Frame} {meth : Method} {c : Code} {cells slots : Nat} {QW : State → Prop} {cc : ByteArray} {own : String} {nL : Nat} {ret : Option FieldType} {ad : Nat → Nat} {D : va_G} {cI cC cG : ClassId} {A0 : Nat → Prop}
theorem cell_arrz {k n : Nat} {μ : Mem} (h : shpz k = .inr (0, n)) : (wwz ad cI cC cG μ)[k]? = some (ad k, .inl (cI, n, .inl (fun j => i32 (μ k j)))) := by
  rw [ww_getz (shp_inz (by rw [h]; simp))]
  unfold cellEz
  rw [h]
  rfl
theorem cell_chrz {k n : Nat} {μ : Mem} (h : shpz k = .inr (1, n)) : (wwz ad cI cC cG μ)[k]? = some (ad k, .inl (cC, n, .inl (fun j => i32 (μ k j)))) := by
  rw [ww_getz (shp_inz (by rw [h]; simp))]
  unfold cellEz
  rw [h]
  rfl
theorem cell_refz {k n : Nat} {μ : Mem} (h : shpz k = .inr (2, n)) : (wwz ad cI cC cG μ)[k]? = some (ad k, .inl (cG, n, .inr (.inr (.inr (.inr (fun j => some (ad (gHist j)))))))) := by
  rw [ww_getz (shp_inz (by rw [h]; simp))]
  unfold cellEz
  rw [h]
  rfl
theorem shp_kindz {k d n : Nat} (h : shpz k = .inr (d, n)) : d = 0 ∨ d = 1 ∨ d = 2 ∨ (d = 3 ∧ n = 7) := by
  unfold shpz at h
  split at h
  · unfold gshp at h
    split at h <;> simp at h <;> omega
  · simp at h; omega
theorem sd_getstaticz (X : aXz p s m args meth c R cells slots cc own nL ad D cI cC cG A0) {K : aK} {Ret : Option AV → Mem → Prop} {k0 n a b w : Nat} {z : Int} {pc : Nat} {L : Lc} {st : List AV} {μ : Mem} (hd : decode cc pc = .ok (.getstatic k0, 3)) (hn : n = pc + 3) (ha : a = 1001 ∨ a = 1002) (hw : lkN w (.fieldLinkNest own k0 "ClockedGame" (sname a) "[I" "ClockedGame") = true) (hK : ∀ pc L st μ, K pc L st μ → aGz p l e R s m args below meth c cells slots QW nL ad D cI cC cG A0 pc L st μ) (h : stepIz Ret (.getstatic k0) n a b z L st μ K) : aGz p l e R s m args below meth c cells slots QW nL ad D cI cC cG A0 pc L st μ := by
  intro H locs ls hP hS hL hR hst
  obtain ⟨⟨hx, hb, hml, hown, hts⟩, hKn, hSt, hNs, hA, hI, hc, hs⟩ := X
  subst hn
  have kk := hK _ _ _ _ h H locs ls hP hS hL hR (wf_c trivial hst)
  rcases ha with rfl | rfl
  · exact va_getsN hx hb hSt.1.1 hS hown ((lkN_at hw hNs).use rfl) (fun _ h9 => h9) hd kk
  · exact va_getsN hx hb hSt.1.2 hS hown ((lkN_at hw hNs).use rfl) (fun _ h9 => h9) hd kk
theorem sd_arraylengthz (X : aXz p s m args meth c R cells slots cc own nL ad D cI cC cG A0) {K : aK} {Ret : Option AV → Mem → Prop} {n a b : Nat} {z : Int} {pc : Nat} {L : Lc} {st : List AV} {μ : Mem} (hd : decode cc pc = .ok (.arraylength, 1)) (hn : n = pc + 1) (hK : ∀ pc L st μ, K pc L st μ → aGz p l e R s m args below meth c cells slots QW nL ad D cI cC cG A0 pc L st μ) (h : stepIz Ret .arraylength n a b z L st μ K) : aGz p l e R s m args below meth c cells slots QW nL ad D cI cC cG A0 pc L st μ := by
  intro H locs ls hP hS hL hR hst
  obtain ⟨⟨hx, hb, hml, hown, hts⟩, hKn, hSt, hNs, hA, hI, hc, hs⟩ := X
  subst hn
  obtain ⟨k, t, rfl, h⟩ := unR_inv h
  obtain ⟨d, len, hsh, h3, h⟩ := arrL_inv h
  have hlen : inR (len : Int) := by
    have : len ≤ 12720 := by
      unfold shpz at hsh
      split at hsh
      · unfold gshp at hsh
        split at hsh <;> simp at hsh <;> omega
      · simp at hsh; omega
    unfold inR; omega
  have kk := hK _ _ _ _ h H locs ls hP hS hL hR (wf_c hlen (wf_t hst))
  rcases shp_kindz hsh with rfl | rfl | rfl | ⟨rfl, rfl⟩
  · exact va_alen hx hb hKn hP k 0 (cell_arrz hsh) rfl (i32_nat len) hd kk
  · exact va_alen hx hb hKn hP k 1 (cell_chrz hsh) rfl (i32_nat len) hd kk
  · exact va_alen hx hb hKn hP k 2 (cell_refz hsh) rfl (i32_nat len) hd kk
  · rcases h3 rfl with rfl | rfl
    · exact va_tlen hx hb hSt.2.1 hS (i32_nat 7) hd kk
    · exact va_tlen hx hb hSt.2.2 hS (i32_nat 7) hd kk
theorem sd_ialoadz (X : aXz p s m args meth c R cells slots cc own nL ad D cI cC cG A0) {K : aK} {Ret : Option AV → Mem → Prop} {n a b : Nat} {z : Int} {pc : Nat} {L : Lc} {st : List AV} {μ : Mem} (hd : decode cc pc = .ok (.iaload, 1)) (hn : n = pc + 1) (hK : ∀ pc L st μ, K pc L st μ → aGz p l e R s m args below meth c cells slots QW nL ad D cI cC cG A0 pc L st μ) (h : stepIz Ret .iaload n a b z L st μ K) : aGz p l e R s m args below meth c cells slots QW nL ad D cI cC cG A0 pc L st μ := by
  intro H locs ls hP hS hL hR hst
  obtain ⟨⟨hx, hb, hml, hown, hts⟩, hKn, hSt, hNs, hA, hI, hc, hs⟩ := X
  subst hn
  obtain ⟨i, t, rfl, h⟩ := un_inv h
  obtain ⟨k, t, rfl, h⟩ := unR_inv h
  obtain ⟨d, len, hsh, h0, h1, h⟩ := arrL_inv h
  have ri : inR i := wf_h hst
  have hin := i32_idx h0 ri h1
  rcases h with ⟨rfl, h⟩ | ⟨rfl, hk, h⟩
  · have kk := hK _ _ _ _ h H locs ls hP hS hL hR (wf_c (hR k i).1 (wf_t (wf_t hst)))
    refine va_iald hx hb hKn hP k 0 (cell_arrz hsh) rfl hin hd ?_
    rw [i32_toNat ri h0]
    exact kk
  · have e7 : len = 7 := by rcases shp_kindz hsh with q | q | q | q <;> omega
    subst e7
    have hw : inR (stv k i) := by
      rcases hk with rfl | rfl <;> unfold stv inR <;> (repeat' split) <;> omega
    have kk := hK _ _ _ _ h H locs ls hP hS hL hR (wf_c hw (wf_t (wf_t hst)))
    rcases hk with rfl | rfl
    · exact va_ti hx hb hSt.2.1 hS hin (by show Value.int (i32 (stv 1001 ((i32 i).toNatClampNeg : Int))) = _; rw [i32_toNat ri h0]; rfl) hd kk
    · exact va_ti hx hb hSt.2.2 hS hin (by show Value.int (i32 (stv 1002 ((i32 i).toNatClampNeg : Int))) = _; rw [i32_toNat ri h0]; rfl) hd kk
theorem sd_caloadz (X : aXz p s m args meth c R cells slots cc own nL ad D cI cC cG A0) {K : aK} {Ret : Option AV → Mem → Prop} {n a b : Nat} {z : Int} {pc : Nat} {L : Lc} {st : List AV} {μ : Mem} (hd : decode cc pc = .ok (.caload, 1)) (hn : n = pc + 1) (hK : ∀ pc L st μ, K pc L st μ → aGz p l e R s m args below meth c cells slots QW nL ad D cI cC cG A0 pc L st μ) (h : stepIz Ret .caload n a b z L st μ K) : aGz p l e R s m args below meth c cells slots QW nL ad D cI cC cG A0 pc L st μ := by
  intro H locs ls hP hS hL hR hst
  obtain ⟨⟨hx, hb, hml, hown, hts⟩, hKn, hSt, hNs, hA, hI, hc, hs⟩ := X
  subst hn
  obtain ⟨i, t, rfl, h⟩ := un_inv h
  obtain ⟨k, t, rfl, h⟩ := unR_inv h
  obtain ⟨d, len, hsh, h0, h1, rfl, h⟩ := arrL_inv h
  have ri : inR i := wf_h hst
  have kk := hK _ _ _ _ h H locs ls hP hS hL hR (wf_c (hR k i).1 (wf_t (wf_t hst)))
  refine va_cald hx hb hKn hP k 1 (cell_chrz hsh) rfl (i32_idx h0 ri h1) hd ?_
  rw [i32_toNat ri h0]
  exact kk
theorem sd_aaloadz (X : aXz p s m args meth c R cells slots cc own nL ad D cI cC cG A0) {K : aK} {Ret : Option AV → Mem → Prop} {n a b : Nat} {z : Int} {pc : Nat} {L : Lc} {st : List AV} {μ : Mem} (hd : decode cc pc = .ok (.aaload, 1)) (hn : n = pc + 1) (hK : ∀ pc L st μ, K pc L st μ → aGz p l e R s m args below meth c cells slots QW nL ad D cI cC cG A0 pc L st μ) (h : stepIz Ret .aaload n a b z L st μ K) : aGz p l e R s m args below meth c cells slots QW nL ad D cI cC cG A0 pc L st μ := by
  intro H locs ls hP hS hL hR hst
  obtain ⟨⟨hx, hb, hml, hown, hts⟩, hKn, hSt, hNs, hA, hI, hc, hs⟩ := X
  subst hn
  obtain ⟨i, t, rfl, h⟩ := un_inv h
  obtain ⟨k, t, rfl, h⟩ := unR_inv h
  obtain ⟨d, len, hsh, h0, h1, rfl, h⟩ := arrL_inv h
  have ri : inR i := wf_h hst
  have kk := hK _ _ _ _ h H locs ls hP hS hL hR (wf_c trivial (wf_t (wf_t hst)))
  refine va_aldq hx hb hKn hP k 2 (cell_refz hsh) rfl (i32_idx h0 ri h1) hd ?_
  rw [i32_cl ri]
  exact kk
theorem sd_iastorez (X : aXz p s m args meth c R cells slots cc own nL ad D cI cC cG A0) {K : aK} {Ret : Option AV → Mem → Prop} {n a b : Nat} {z : Int} {pc : Nat} {L : Lc} {st : List AV} {μ : Mem} (hd : decode cc pc = .ok (.iastore, 1)) (hn : n = pc + 1) (hK : ∀ pc L st μ, K pc L st μ → aGz p l e R s m args below meth c cells slots QW nL ad D cI cC cG A0 pc L st μ) (h : stepIz Ret .iastore n a b z L st μ K) : aGz p l e R s m args below meth c cells slots QW nL ad D cI cC cG A0 pc L st μ := by
  intro H locs ls hP hS hL hR hst
  obtain ⟨⟨hx, hb, hml, hown, hts⟩, hKn, hSt, hNs, hA, hI, hc, hs⟩ := X
  subst hn
  obtain ⟨x, t, rfl, h⟩ := un_inv h
  obtain ⟨i, t, rfl, h⟩ := un_inv h
  obtain ⟨k, t, rfl, h⟩ := unR_inv h
  obtain ⟨d, len, hsh, h0, h1, rfl, h⟩ := arrL_inv h
  have ri : inR i := wf_h (wf_t hst)
  refine va_iast hx hb hKn hP (aDz hI hA) hS k 0 (cell_arrz hsh) rfl (i32_idx h0 ri h1) hd (fun H1 locs1 hP1 _ hS1 => ?_)
  have hset : (wwz ad cI cC cG μ).set k (ad k, .inl (cI, len, .inl (upd (fun j : Nat => i32 (μ k j)) (i32 i).toNatClampNeg (i32 x)))) = wwz ad cI cC cG (stM μ k i x) := by
    refine ww_setz ?_ (fun j hj => stM_ne hj)
    unfold cellEz
    rw [hsh, st_arr ri h0]
    rfl
  rw [hset] at hP1
  exact hK _ _ _ _ h H1 locs1 ls hP1 hS1 hL (stM_rngz hR (wf_h hst) (fun n hn => by rw [hsh] at hn; cases hn)) (wf_t (wf_t (wf_t hst)))
theorem sd_castorez (X : aXz p s m args meth c R cells slots cc own nL ad D cI cC cG A0) {K : aK} {Ret : Option AV → Mem → Prop} {n a b : Nat} {z : Int} {pc : Nat} {L : Lc} {st : List AV} {μ : Mem} (hd : decode cc pc = .ok (.castore, 1)) (hn : n = pc + 1) (hK : ∀ pc L st μ, K pc L st μ → aGz p l e R s m args below meth c cells slots QW nL ad D cI cC cG A0 pc L st μ) (h : stepIz Ret .castore n a b z L st μ K) : aGz p l e R s m args below meth c cells slots QW nL ad D cI cC cG A0 pc L st μ := by
  intro H locs ls hP hS hL hR hst
  obtain ⟨⟨hx, hb, hml, hown, hts⟩, hKn, hSt, hNs, hA, hI, hc, hs⟩ := X
  subst hn
  obtain ⟨x, t, rfl, h⟩ := un_inv h
  obtain ⟨i, t, rfl, h⟩ := un_inv h
  obtain ⟨k, t, rfl, h⟩ := unR_inv h
  obtain ⟨d, len, hsh, h0, h1, rfl, hx0, hx1, h⟩ := arrL_inv h
  have ri : inR i := wf_h (wf_t hst)
  refine va_cast hx hb hKn hP (aDz hI hA) hS k 1 (cell_chrz hsh) rfl (i32_idx h0 ri h1) hd (fun H1 locs1 hP1 _ hS1 => ?_)
  have hset : (wwz ad cI cC cG μ).set k (ad k, .inl (cC, len, .inl (upd (fun j : Nat => i32 (μ k j)) (i32 i).toNatClampNeg (vp_nar .char (i32 x))))) = wwz ad cI cC cG (stM μ k i x) := by
    refine ww_setz ?_ (fun j hj => stM_ne hj)
    unfold cellEz
    rw [hsh, nar_char hx0 hx1, st_arr ri h0]
    rfl
  rw [hset] at hP1
  exact hK _ _ _ _ h H1 locs1 ls hP1 hS1 hL (stM_rngz hR (wf_h hst) (fun n _ => ⟨hx0, hx1⟩)) (wf_t (wf_t (wf_t hst)))
theorem sd_maxz (X : aXz p s m args meth c R cells slots cc own nL ad D cI cC cG A0) {K : aK} {n k0 : Nat} {pc : Nat} {L : Lc} {st : List AV} {μ : Mem} (hd : decode cc pc = .ok (.invokestatic k0, 3)) (hn : n = pc + 3) (hw : Cond.methodLink own k0 Lib.Math.max.name ∈ lw_g) (hF : 1 ≤ R.frames) (hLo : 21 ≤ R.locals) (hK : ∀ pc L st μ, K pc L st μ → aGz p l e R s m args below meth c cells slots QW nL ad D cI cC cG A0 pc L st μ) (h : bin st fun x y st => st.length ≤ 4 ∧ K n L (.inl (imax x y) :: st) μ) : aGz p l e R s m args below meth c cells slots QW nL ad D cI cC cG A0 pc L st μ := by
  intro H locs ls hP hS hL hR hst
  obtain ⟨⟨hx, hb, hml, hown, hts⟩, hKn, hSt, hNs, hA, hI, hc, hs⟩ := X
  subst hn
  obtain ⟨x, y, t, rfl, h4, h⟩ := bin_inv h
  have rx : inR x := wf_h (wf_t hst)
  have ry : inR y := wf_h hst
  have hcs := cat_sum (ad := ad) t
  refine va_mmax hx hb (by rw [hml, hL.1]) hown (hts _ hw) (hts _ (lk_in (w := 284) (by decide +kernel))) (hts _ (lk_in (w := 16) (by decide +kernel))) (hts _ (lk_in (w := 285) (by decide +kernel))) hF (by omega) hc hs hd ?_
  have e : (if i32 x < i32 y then i32 y else i32 x) = i32 (imax x y) := by
    unfold imax
    by_cases hxy : x < y
    · rw [if_pos hxy, if_pos ((i32_lt rx ry).mpr hxy)]
    · rw [if_neg hxy, if_neg (fun z => hxy ((i32_lt rx ry).mp z))]
  rw [e]
  exact hK _ _ _ _ h H locs ls hP hS hL hR (wf_c (show inR (imax x y) by unfold imax; split <;> assumption) (wf_t (wf_t hst)))
theorem sd_minz (X : aXz p s m args meth c R cells slots cc own nL ad D cI cC cG A0) {K : aK} {n k0 : Nat} {pc : Nat} {L : Lc} {st : List AV} {μ : Mem} (hd : decode cc pc = .ok (.invokestatic k0, 3)) (hn : n = pc + 3) (hw : Cond.methodLink own k0 Lib.Math.min.name ∈ lw_g) (hF : 1 ≤ R.frames) (hLo : 21 ≤ R.locals) (hK : ∀ pc L st μ, K pc L st μ → aGz p l e R s m args below meth c cells slots QW nL ad D cI cC cG A0 pc L st μ) (h : bin st fun x y st => st.length ≤ 4 ∧ K n L (.inl (imin x y) :: st) μ) : aGz p l e R s m args below meth c cells slots QW nL ad D cI cC cG A0 pc L st μ := by
  intro H locs ls hP hS hL hR hst
  obtain ⟨⟨hx, hb, hml, hown, hts⟩, hKn, hSt, hNs, hA, hI, hc, hs⟩ := X
  subst hn
  obtain ⟨x, y, t, rfl, h4, h⟩ := bin_inv h
  have rx : inR x := wf_h (wf_t hst)
  have ry : inR y := wf_h hst
  have hcs := cat_sum (ad := ad) t
  refine va_mmin hx hb (by rw [hml, hL.1]) hown (hts _ hw) (hts _ (lk_in (w := 281) (by decide +kernel))) (hts _ (lk_in (w := 16) (by decide +kernel))) (hts _ (lk_in (w := 282) (by decide +kernel))) hF (by omega) hc hs hd ?_
  have e : (if i32 y < i32 x then i32 y else i32 x) = i32 (imin x y) := by
    unfold imin
    by_cases hxy : y < x
    · rw [if_pos hxy, if_pos ((i32_lt ry rx).mpr hxy)]
    · rw [if_neg hxy, if_neg (fun z => hxy ((i32_lt ry rx).mp z))]
  rw [e]
  exact hK _ _ _ _ h H locs ls hP hS hL hR (wf_c (show inR (imin x y) by unfold imin; split <;> assumption) (wf_t (wf_t hst)))
theorem cpM_rngz {μ : Mem} {a0 a : Nat} {sp dp n : Int} (h : aRngz μ) {d n0 n1 : Nat} (h0 : shpz a0 = .inr (d, n0)) (h1 : shpz a = .inr (d, n1)) : aRngz (cpM μ a0 a sp dp n) := by
  intro b j
  unfold cpM
  by_cases hb : b = a ∧ dp ≤ j ∧ j < dp + n
  · rw [if_pos hb]
    refine ⟨(h a0 _).1, fun n2 hn => ?_⟩
    rw [hb.1, h1] at hn
    cases hn
    exact (h a0 _).2 _ h0
  · rw [if_neg hb]
    exact h b j
theorem sd_copyz (X : aXz p s m args meth c R cells slots cc own nL ad D cI cC cG A0) {K : aK} {n k0 : Nat} {pc : Nat} {L : Lc} {st : List AV} {μ : Mem} (hd : decode cc pc = .ok (.invokestatic k0, 3)) (hn : n = pc + 3) (hw : Cond.methodLink own k0 arraycopyName ∈ lw_g) (hF : 1 ≤ R.frames) (hLo : 26 ≤ R.locals) (hK : ∀ pc L st μ, K pc L st μ → aGz p l e R s m args below meth c cells slots QW nL ad D cI cC cG A0 pc L st μ) (h : acopy st fun a0 a1 sp dp m st => st.length ≤ 4 ∧ arrL (shpz a0) fun d0 n0 => arrL (shpz a1) fun d1 n1 => d0 = d1 ∧ d0 < 2 ∧ 0 ≤ sp ∧ 0 ≤ dp ∧ 0 ≤ m ∧ sp + m ≤ n0 ∧ dp + m ≤ n1 ∧ K n L st (cpM μ a0 a1 sp dp m)) : aGz p l e R s m args below meth c cells slots QW nL ad D cI cC cG A0 pc L st μ := by
  intro H locs ls hP hS hL hR hst
  obtain ⟨⟨hx, hb, hml, hown, hts⟩, hKn, hSt, hNs, hA, hI, hc, hs⟩ := X
  subst hn
  obtain ⟨q, dp, a, sp, a0, t, rfl, h4, h⟩ := acopy_inv h
  obtain ⟨d0, n0, hs0, h⟩ := arrL_inv h
  obtain ⟨d1, n1, hs1, h⟩ := arrL_inv h
  obtain ⟨rfl, hd2, g1, g2, g3, g4, g5, h⟩ := h
  have rn : inR q := wf_h hst
  have rd : inR dp := wf_h (wf_t hst)
  have rs : inR sp := wf_h (wf_t (wf_t (wf_t hst)))
  have hcs := cat_sum (ad := ad) t
  have hw5 : nativeFrameWords "java/lang/System" "arraycopy" 5 = 7 := by decide +kernel
  have kk : ∀ (d : Nat) (cD : ClassId) (H1 : Heap) (locs1 : List Loc), shpz a = .inr (d, n1) → cellEz ad cI cC cG (cpM μ a0 a sp dp q) a = .inl (cD, n1, .inl (fun j : Nat => i32 (cpM μ a0 a sp dp q a j))) → va_P D vwCl ((wwz ad cI cC cG μ).set a (ad a, .inl (cD, n1, .inl (va_cpy (fun j : Nat => i32 (μ a0 j)) (fun j : Nat => i32 (μ a j)) (i32 sp).toNatClampNeg (i32 dp).toNatClampNeg (i32 q).toNatClampNeg)))) H1 → va_S A0 s.heap H1 locs1 → W p l e R s m args below meth c H1 locs1 cells slots QW (F0 m (pc + 3) ls (t.map (conc ad))) := by
    intro d cD H1 locs1 e1 e2 hP1 hS1
    rw [cp_arr rs rd rn g1 g2 g3, ww_setz (μ' := cpM μ a0 a sp dp q) e2.symm (fun j hj => cpM_ne hj)] at hP1
    exact hK _ _ _ _ h H1 locs1 ls hP1 hS1 hL (cpM_rngz hR hs0 hs1) (wf_t (wf_t (wf_t (wf_t (wf_t hst)))))
  have hsp : ¬ i32 sp < 0 := fun z => by have := (i32_lt rs inR_0).mp z; omega
  have hdp : ¬ i32 dp < 0 := fun z => by have := (i32_lt rd inR_0).mp z; omega
  have hq : ¬ i32 q < 0 := fun z => by have := (i32_lt rn inR_0).mp z; omega
  have e4 : (i32 sp).toNatClampNeg + (i32 q).toNatClampNeg ≤ n0 := by rw [i32_cl rs, i32_cl rn]; omega
  have e5 : (i32 dp).toNatClampNeg + (i32 q).toNatClampNeg ≤ n1 := by rw [i32_cl rd, i32_cl rn]; omega
  rcases (show d0 = 0 ∨ d0 = 1 by omega) with rfl | rfl
  · exact va_copyi hx hb (by rw [hml, hL.1]) hown (hts _ hw) (hts _ (lk_in (w := 135) (by decide +kernel))) (hts _ (lk_in (w := 134) (by decide +kernel))) (hts _ (lk_in (w := 13) (by decide +kernel))) hKn hP (aDz hI hA) hS a0 a 0 0 (cell_arrz hs0) (cell_arrz hs1) rfl rfl rfl hsp hdp hq e4 e5 (fun i _ => rfl) hF (by rw [hw5]; omega) hd (fun H1 locs1 hP1 _ hS1 => kk 0 cI H1 locs1 hs1 (by unfold cellEz; rw [hs1]; rfl) hP1 hS1)
  · exact va_copyi hx hb (by rw [hml, hL.1]) hown (hts _ hw) (hts _ (lk_in (w := 135) (by decide +kernel))) (hts _ (lk_in (w := 134) (by decide +kernel))) (hts _ (lk_in (w := 13) (by decide +kernel))) hKn hP (aDz hI hA) hS a0 a 1 1 (cell_chrz hs0) (cell_chrz hs1) rfl rfl rfl hsp hdp hq e4 e5 (fun i _ => fits_char ((hR a0 _).2 _ hs0).1 ((hR a0 _).2 _ hs0).2) hF (by rw [hw5]; omega) hd (fun H1 locs1 hP1 _ hS1 => kk 1 cC H1 locs1 hs1 (by unfold cellEz; rw [hs1]; rfl) hP1 hS1)
end SND2

section SND3
variable {p : Program} {l : Launch} {e : Env} {R : Room} {s : State} {m : MethodId} {args : Array Value} {below : List Frame} {meth : Method} {c : Code} {cells slots : Nat} {QW : State → Prop} {cc : ByteArray} {own : String} {nL : Nat} {ret : Option FieldType} {ad : Nat → Nat} {D : va_G} {cI cC cG : ClassId} {A0 : Nat → Prop}
/-- the way on behind a call -/
theorem a_backz {K : aK} {n b : Nat} {pc : Nat} {L : Lc} {st : List AV} {H : Heap} {locs : List Loc} {ls : Array Slot} {av : Array Value} (hn : n = pc + 3) (hA : ∀ k, k < nCellz → A0 (ad k)) (hK : ∀ pc L st μ, K pc L st μ → aGz p l e R s m args below meth c cells slots QW nL ad D cI cC cG A0 pc L st μ) (hS : va_S A0 s.heap H locs) (hL : aLoc ad ls nL L) (hst : ∀ v ∈ st, wfv v)
    (hr : va_Run p l e R s m args below meth c H locs cells slots 0 0 (F0 m pc ls (st.map (conc ad))) ((st.drop b).map (conc ad)) (aQz ad D cI cC cG (kc K n L (st.drop b)) av) (aAz ad)) : W p l e R s m args below meth c H locs cells slots QW (F0 m pc ls (st.map (conc ad))) := by
  subst hn
  intro T hT X
  obtain ⟨v, st₀, t, T', L2, h0, X', hL2, e1, e2, ⟨⟨r, μ', hv, hq, hw, hP1, hR1⟩, hz, hk⟩, go⟩ := hr T hT X
  cases hv
  rw [h0] at hz hk
  have hS1 : va_S A0 s.heap T'.heap (locs ++ L2) := by
    refine ⟨Nat.le_trans hS.1 (by rw [e1]; exact hz), fun q h1 h2 => ?_, fun q hq2 => ?_⟩
    · rw [e1, hk q (Nat.lt_of_lt_of_le h1 hS.1) (fun z => h2 (by obtain ⟨k, hk1, hk2⟩ := z; rw [hk2]; exact hA k hk1))]
      exact hS.2.1 q h1 h2
    · rcases List.mem_append.mp hq2 with h | h
      · exact hS.2.2 q h
      · obtain ⟨k, hk1, hk2⟩ := hL2 q h
        rw [hk2]; exact hA k hk1
  have hwf : ∀ v ∈ r.toList ++ st.drop b, wfv v := by
    intro v hv
    rcases List.mem_append.mp hv with h | h
    · exact hw v (by simpa using h)
    · exact hst v (List.mem_of_mem_drop h)
  obtain ⟨t2, a1, b1⟩ := hK _ _ _ _ hq T'.heap (locs ++ L2) ls (by rw [e1]; exact hP1) hS1 hL hR1 hwf T' rfl X'
  refine ⟨t2, go t2 ?_, b1⟩
  have ec : (Option.map (conc ad) r).toList ++ (st.drop b).map (conc ad) = (r.toList ++ st.drop b).map (conc ad) := by
    cases r <;> simp
  show Steps p.tables e below (T'.setTop { method := m, pc := pc + 3, locals := ls, stack := (Option.map (conc ad) r).toList ++ (st.drop b).map (conc ad), locked := none }) t2
  rw [ec]
  exact a1
theorem a_prez {μ : Mem} {H : Heap} {locs : List Loc} {as : List AV} (X : aXz p s m args meth c R cells slots cc own nL ad D cI cC cG A0) (hP : va_P D vwCl (wwz ad cI cC cG μ) H) (hS : va_S A0 s.heap H locs) (hR : aRngz μ) : ∀ U : State, U.heap = H → s.WarmedH U.vm → va_Pc (as.map (conc ad)) (aPrez ad D cI cC cG μ) (as.map (conc ad)).toArray U := by
  obtain ⟨⟨hx, hb, hml, hown, hts⟩, hKn, hSt, hNs, hA, hI, hc, hs⟩ := X
  intro U hU hW
  refine ⟨rfl, by rw [hU]; exact hP, va_K.moved hW.alike hKn, ?_, hNs.warm hW, hI, hR⟩
  rw [hU]
  refine ((hSt.kept (fun q h1 h2 => hS.2.1 q h1 h2)).moved hW.alike).narrow (fun q hq => ?_)
  obtain ⟨k, h1, h2⟩ := hq
  rw [h2]; exact hA k h1
theorem sd_staticz (X : aXz p s m args meth c R cells slots cc own nL ad D cI cC cG A0) {K : aK} {n k0 a b w : Nat} {pc : Nat} {L : Lc} {st : List AV} {μ : Mem} (hd : decode cc pc = .ok (.invokestatic k0, 3)) (hn : n = pc + 3) (hC : okC own k0 a b w R.frames R.locals = true) (hs9 : mSt a = true) (hK : ∀ pc L st μ, K pc L st μ → aGz p l e R s m args below meth c cells slots QW nL ad D cI cC cG A0 pc L st μ) (h : b ≤ st.length ∧ (st.drop b).length ≤ 4 ∧ wpMz a (st.take b).reverse μ (kc K n L (st.drop b))) : aGz p l e R s m args below meth c cells slots QW nL ad D cI cC cG A0 pc L st μ := by
  intro H locs ls hP hS hL hR hst
  have X0 := X
  obtain ⟨⟨hx, hb, hml, hown, hts⟩, hKn, hSt, hNs, hA, hI, hc, hs⟩ := X
  obtain ⟨h1, h2, h3⟩ := h
  obtain ⟨ha, hfr, hlo, hlk, hbn⟩ := okC_inv hC
  obtain ⟨⟨o1, o2⟩, o3, o4, o5, o6, o7, o8⟩ := okM_inv ha
  rw [if_pos hs9] at o4 hbn
  have hcs := cat_sum (ad := ad) (st.drop b)
  have hM := h3 (fun v hv => hst v (List.mem_of_mem_take (List.mem_reverse.mp hv))) l ad D cI cC cG
  have hp : PreS s H (va_Pc (((st.take b).reverse).map (conc ad)) (aPrez ad D cI cC cG μ)) (((st.take b).reverse).map (conc ad)) := ⟨aPrez.blind, a_prez X0 hP hS hR⟩
  have hlen : (((st.take b).reverse).map (conc ad)).length = mNp a := by simp; omega
  have hroom : 2 * (F0 m pc ls (st.map (conc ad))).monitorRoom + (((st.drop b).map (conc ad)).map fun v => v.category).sum ≤ 8 := lv_room (by omega)
  rcases hlk with hlk | hlk
  · have hlk' := hts _ hlk
    have cw : CallB R s args own k0 (mY a) (mB a) (mL a) (mT a) (mW a) (mR a) 0 0 (mNp a) ∧ (Cond.static (mY a)).before args s = true := by
      refine ⟨callB_of (mNp a) hts (mW_good a ha) rfl rfl rfl (hts _ (gd o3 rfl)) hlk' ⟨o5.1, o5.2, o6⟩ ⟨hfr, hlo⟩, hts _ (gd o4 rfl)⟩
    exact a_backz hn hA hK hS hL hst (va_runS (g := F0 m pc ls (st.map (conc ad))) ⟨hx, hb, hml, hown, hts⟩ hM cw hp rfl hlen hL.1 (st_split b) hroom hd ⟨by omega, by omega⟩)
  · have cw : va_CN R s args own k0 (mY a) "ClockedGame" (mB a) (mL a) (mT a) (mW a) (mR a) 0 0 (mNp a) ∧ (Cond.static (mY a)).before args s = true ∧ True :=
      ⟨va_cnB (mNp a) hts (mW_good a ha) rfl rfl rfl (lkN_at hlk hNs) (hts _ (gd o3 rfl)) ⟨o5.1, o5.2, o6⟩ ⟨hfr, hlo⟩, hts _ (gd o4 rfl), trivial⟩
    exact a_backz hn hA hK hS hL hst (va_runSN (g := F0 m pc ls (st.map (conc ad))) ⟨hx, hb, hml, hown, hts⟩ hM cw hp rfl hlen hL.1 (st_split b) hroom hd ⟨by omega, by omega⟩)
theorem rcv_invz {as : List AV} {ci : Int} (h : rcvz as ci) : ∃ r t c fs, as = .inr (.ref r) :: t ∧ shpz r = .inl (c, fs) ∧ c = ci.toNat := by
  unfold rcvz at h
  split at h
  · rename_i r t
    split at h
    · rename_i c fs e
      exact ⟨r, t, c, fs, rfl, e, h⟩
    · exact h.elim
  · exact h.elim
theorem sd_virtualz (X : aXz p s m args meth c R cells slots cc own nL ad D cI cC cG A0) {K : aK} {n k0 a b w : Nat} {z : Int} {pc : Nat} {L : Lc} {st : List AV} {μ : Mem} (hd : decode cc pc = .ok (.invokevirtual k0, 3)) (hn : n = pc + 3) (hC : okC own k0 a b w R.frames R.locals = true) (hs9 : mSt a = false) (hi9 : mInit a = false) (hz : z = mCl a) (hK : ∀ pc L st μ, K pc L st μ → aGz p l e R s m args below meth c cells slots QW nL ad D cI cC cG A0 pc L st μ) (h : b ≤ st.length ∧ (st.drop b).length ≤ 4 ∧ rcvz (st.take b).reverse z ∧ wpMz a (st.take b).reverse μ (kc K n L (st.drop b))) : aGz p l e R s m args below meth c cells slots QW nL ad D cI cC cG A0 pc L st μ := by
  intro H locs ls hP hS hL hR hst
  have X0 := X
  obtain ⟨⟨hx, hb, hml, hown, hts⟩, hKn, hSt, hNs, hA, hI, hc, hs⟩ := X
  obtain ⟨h1, h2, hrc, h3⟩ := h
  obtain ⟨ha, hfr, hlo, hlk, hbn⟩ := okC_inv hC
  obtain ⟨⟨o1, o2⟩, o3, o4, o5, o6, o7, o8⟩ := okM_inv ha
  rw [if_neg (by rw [hs9]; simp)] at o4 hbn
  obtain ⟨r, t, ci, fs, er, hsh, hci⟩ := rcv_invz hrc
  have hcs := cat_sum (ad := ad) (st.drop b)
  have hM := h3 (fun v hv => hst v (List.mem_of_mem_take (List.mem_reverse.mp hv))) l ad D cI cC cG
  have o8 := o8.resolve_left (by rw [hs9]; simp)
  have hcl : ∃ q, vwCl[ci]? = some q ∧ q.1 = (mY a).cls := by
    have : ci = mCl a := by omega
    rw [this]
    cases e9 : vwCl[mCl a]? with
    | none => rw [e9] at o8; cases o8
    | some q => rw [e9] at o8; exact ⟨q, rfl, by simpa using o8⟩
  obtain ⟨q, hq1, hq2⟩ := hcl
  have hrecv := va_recv hKn hP hq1 (cell_objz (ad := ad) (cI := cI) (cC := cC) (cG := cG) (μ := μ) hsh)
  rw [hq2] at hrecv
  have hpre := a_prez (as := (st.take b).reverse) X0 hP hS hR
  have hsp := st_split (ad := ad) (st := st) b
  have hlen9 : ((st.take b).reverse).length = mNp a + 1 := by simp; omega
  rw [er] at hM hpre hsp hlen9
  have hp : PreV s H (mY a).cls (ad r) (va_Pc ((.inr (.ref r) :: t : List AV).map (conc ad)) (aPrez ad D cI cC cG μ)) (t.map (conc ad)) := ⟨aPrez.blind, hrecv, hpre⟩
  have hlen : (t.map (conc ad)).length = mNp a := by simp at hlen9 ⊢; omega
  have hroom : 2 * (F0 m pc ls (st.map (conc ad))).monitorRoom + (((st.drop b).map (conc ad)).map fun v => v.category).sum ≤ 8 := lv_room (by omega)
  have hsp2 : st.map (conc ad) = (t.map (conc ad)).reverse ++ .ref (ad r) :: (st.drop b).map (conc ad) := by
    rw [hsp]
    show (Value.ref (ad r) :: t.map (conc ad)).reverse ++ _ = _
    simp
  have hsel : (Cond.selects (mY a).cls (mY a) (mY a)).before args s = true := by
    rcases o4.2 with z | z
    · rw [hi9] at z; cases z
    · exact hts _ (gd z rfl)
  rcases hlk with hlk | hlk
  · have cw : CallW R s args own (mY a).cls k0 (mY a) (mB a) (mL a) (mT a) (mW a) (mR a) 0 0 (mNp a) :=
      ⟨callB_of (mNp a) hts (mW_good a ha) rfl rfl rfl (hts _ (gd o3 rfl)) (hts _ hlk) ⟨o5.1, o5.2, o6⟩ ⟨hfr, hlo⟩, hts _ (gd o4.1 rfl), hsel⟩
    exact a_backz hn hA hK hS hL hst (va_runV (g := F0 m pc ls (st.map (conc ad))) ⟨hx, hb, hml, hown, hts⟩ hM cw hp rfl hlen hL.1 hsp2 hroom hd ⟨by omega, by omega⟩)
  · have cw : va_CN R s args own k0 (mY a) "ClockedGame" (mB a) (mL a) (mT a) (mW a) (mR a) 0 0 (mNp a) ∧ (Cond.instanceMethod (mY a)).before args s = true ∧ (Cond.selects (mY a).cls (mY a) (mY a)).before args s = true :=
      ⟨va_cnB (mNp a) hts (mW_good a ha) rfl rfl rfl (lkN_at hlk hNs) (hts _ (gd o3 rfl)) ⟨o5.1, o5.2, o6⟩ ⟨hfr, hlo⟩, hts _ (gd o4.1 rfl), hsel⟩
    exact a_backz hn hA hK hS hL hst (va_runVN (g := F0 m pc ls (st.map (conc ad))) ⟨hx, hb, hml, hown, hts⟩ hM cw hp rfl hlen hL.1 hsp2 hroom hd ⟨by omega, by omega⟩)
theorem sd_tableswitchz (X : aXz p s m args meth c R cells slots cc own nL ad D cI cC cG A0) {K : aK} {Ret : Option AV → Mem → Prop} {n a b : Nat} {z d lo hi : Int} {offs : Array Int} {len : Nat} {pc : Nat} {L : Lc} {st : List AV} {μ : Mem} (hd : decode cc pc = .ok (.tableswitch d lo hi offs, len)) (ha : a = pc) (h0 : 0 ≤ (pc : Int) + d) (h1 : ∀ o ∈ offs, 0 ≤ (pc : Int) + o) (hlen : hi < lo + offs.size) (hK : ∀ pc L st μ, K pc L st μ → aGz p l e R s m args below meth c cells slots QW nL ad D cI cC cG A0 pc L st μ) (h : stepIz Ret (.tableswitch d lo hi offs) n a b z L st μ K) : aGz p l e R s m args below meth c cells slots QW nL ad D cI cC cG A0 pc L st μ := by
  intro H locs ls hP hS hL hR hst
  obtain ⟨⟨hx, hb, hml, hown, hts⟩, hKn, hSt, hNs, hA, hI, hc, hs⟩ := X
  subst ha
  obtain ⟨x, t, rfl, h2, h3⟩ := un_inv h
  have rx : inR x := wf_h hst
  by_cases hb1 : x < lo ∨ hi < x
  · exact lv_tableOut hx hb hd (by rw [i32_toInt rx]; exact hb1) (tgt := ((a : Int) + d).toNat) (by omega) (hK _ _ _ _ (h2 hb1) H locs ls hP hS hL hR (wf_t hst))
  · have hj : (x - lo).toNat < offs.size := by omega
    have hg : offs[(x - lo).toNat]? = some offs[(x - lo).toNat] := Array.getElem?_eq_getElem hj
    have h4 : 0 ≤ (a : Int) + offs[(x - lo).toNat] := h1 _ (Array.getElem_mem hj)
    have h5 := tsw_inv (x - lo).toNat h3 (by rw [Array.getElem?_toList]; exact hg) (by omega)
    exact lv_tableIn hx hb hd (by rw [i32_toInt rx]; omega) (by rw [i32_toInt rx]; omega) (by rw [i32_toInt rx]; exact hg) (tgt := ((a : Int) + offs[(x - lo).toNat]).toNat) (by omega) (hK _ _ _ _ h5 H locs ls hP hS hL hR (wf_t hst))
end SND3

section SND4
variable {p : Program} {l : Launch} {e : Env} {R : Room} {s : State} {m : MethodId} {args : Array Value} {below : List Frame} {meth : Method} {c : Code} {cells slots : Nat} {QW : State → Prop} {cc : ByteArray} {own : String} {nL : Nat} {ret : Option FieldType} {ad : Nat → Nat} {D : va_G} {cI cC cG : ClassId} {A0 : Nat → Prop}
set_option maxHeartbeats 4000000 in
theorem step_sndz (X : aXz p s m args meth c R cells slots cc own nL ad D cI cC cG A0) {K : aK} {Ret : Option AV → Mem → Prop} {i : Instr} {n a b w : Nat} {z : Int} {pc : Nat} {L : Lc} {st : List AV} {μ : Mem} (hok : okE own cc ret nL R.frames R.locals pc (i, n, a, b, w, z) = true)
    (hRet : (i = .ireturn ∨ i = .lreturn ∨ i = .areturn ∨ i = .return_) → stepIz Ret i n a b z L st μ K → aGz p l e R s m args below meth c cells slots QW nL ad D cI cC cG A0 pc L st μ) (hK : ∀ pc L st μ, K pc L st μ → aGz p l e R s m args below meth c cells slots QW nL ad D cI cC cG A0 pc L st μ) (h : stepIz Ret i n a b z L st μ K) : aGz p l e R s m args below meth c cells slots QW nL ad D cI cC cG A0 pc L st μ := by
  cases i with
  | iadd =>
    obtain ⟨hd, hn, hB⟩ := okE_inv rfl hok
    exact sd_iaddz X hd hn hK h
  | isub =>
    obtain ⟨hd, hn, hB⟩ := okE_inv rfl hok
    exact sd_isubz X hd hn hK h
  | imul =>
    obtain ⟨hd, hn, hB⟩ := okE_inv rfl hok
    exact sd_imulz X hd hn hK h
  | idiv =>
    obtain ⟨hd, hn, hB⟩ := okE_inv rfl hok
    exact sd_idivz X hd hn hK h
  | irem =>
    obtain ⟨hd, hn, hB⟩ := okE_inv rfl hok
    exact sd_iremz X hd hn hK h
  | ineg =>
    obtain ⟨hd, hn, hB⟩ := okE_inv rfl hok
    exact sd_inegz X hd hn hK h
  | i2c =>
    obtain ⟨hd, hn, hB⟩ := okE_inv rfl hok
    exact sd_i2cz X hd hn hK h
  | i2l =>
    obtain ⟨hd, hn, hB⟩ := okE_inv rfl hok
    exact sd_i2lz X hd hn hK h
  | ladd =>
    obtain ⟨hd, hn, hB⟩ := okE_inv rfl hok
    exact sd_laddz X hd hn hK h
  | lmul =>
    obtain ⟨hd, hn, hB⟩ := okE_inv rfl hok
    exact sd_lmulz X hd hn hK h
  | dup =>
    obtain ⟨hd, hn, hB⟩ := okE_inv rfl hok
    exact sd_dupz X hd hn hK h
  | pop =>
    obtain ⟨hd, hn, hB⟩ := okE_inv rfl hok
    exact sd_popz X hd hn hK h
  | dup2 =>
    obtain ⟨hd, hn, hB⟩ := okE_inv rfl hok
    exact sd_dup2z X hd hn hK h
  | arraylength =>
    obtain ⟨hd, hn, hB⟩ := okE_inv rfl hok
    exact sd_arraylengthz X hd hn hK h
  | iaload =>
    obtain ⟨hd, hn, hB⟩ := okE_inv rfl hok
    exact sd_ialoadz X hd hn hK h
  | caload =>
    obtain ⟨hd, hn, hB⟩ := okE_inv rfl hok
    exact sd_caloadz X hd hn hK h
  | aaload =>
    obtain ⟨hd, hn, hB⟩ := okE_inv rfl hok
    exact sd_aaloadz X hd hn hK h
  | iastore =>
    obtain ⟨hd, hn, hB⟩ := okE_inv rfl hok
    exact sd_iastorez X hd hn hK h
  | castore =>
    obtain ⟨hd, hn, hB⟩ := okE_inv rfl hok
    exact sd_castorez X hd hn hK h
  | aconst_null =>
    obtain ⟨hd, hn, hB⟩ := okE_inv rfl hok
    exact sd_nullz X hd hn hK h
  | iconst k =>
    obtain ⟨hd, hn, hB⟩ := okE_inv rfl hok
    simp only [okB, Bool.and_eq_true, Bool.or_eq_true, decide_eq_true_eq] at hB
    exact sd_iconstz X hd hn hB.1 (inRb_of hB.2) hK h
  | bipush k =>
    obtain ⟨hd, hn, hB⟩ := okE_inv rfl hok
    simp only [okB, Bool.and_eq_true, Bool.or_eq_true, decide_eq_true_eq] at hB
    exact sd_bipushz X hd hn hB.1 (inRb_of hB.2) hK h
  | sipush k =>
    obtain ⟨hd, hn, hB⟩ := okE_inv rfl hok
    simp only [okB, Bool.and_eq_true, Bool.or_eq_true, decide_eq_true_eq] at hB
    exact sd_sipushz X hd hn hB.1 (inRb_of hB.2) hK h
  | ldc k =>
    obtain ⟨hd, hn, hB⟩ := okE_inv rfl hok
    simp only [okB, Bool.and_eq_true, Bool.or_eq_true, decide_eq_true_eq] at hB
    exact sd_ldcz X hd hn (lk_in hB.1) (inRb_of hB.2) hK h
  | ldc2_w k =>
    obtain ⟨hd, hn, hB⟩ := okE_inv rfl hok
    exact sd_ldc2z X hd hn (lk_in hB) hK h
  | iload k =>
    obtain ⟨hd, hn, hB⟩ := okE_inv rfl hok
    simp only [okB, Bool.and_eq_true, Bool.or_eq_true, decide_eq_true_eq] at hB
    exact sd_iloadz X hd hn hB hK h
  | aload k =>
    obtain ⟨hd, hn, hB⟩ := okE_inv rfl hok
    simp only [okB, Bool.and_eq_true, Bool.or_eq_true, decide_eq_true_eq] at hB
    exact sd_aloadz X hd hn hB hK h
  | lload k =>
    obtain ⟨hd, hn, hB⟩ := okE_inv rfl hok
    simp only [okB, Bool.and_eq_true, Bool.or_eq_true, decide_eq_true_eq] at hB
    exact sd_lloadz X hd hn hB hK h
  | iload_n k =>
    obtain ⟨hd, hn, hB⟩ := okE_inv rfl hok
    simp only [okB, Bool.and_eq_true, Bool.or_eq_true, decide_eq_true_eq] at hB
    exact sd_iload_nz X hd hn hB hK h
  | aload_n k =>
    obtain ⟨hd, hn, hB⟩ := okE_inv rfl hok
    simp only [okB, Bool.and_eq_true, Bool.or_eq_true, decide_eq_true_eq] at hB
    exact sd_aload_nz X hd hn hB hK h
  | lload_n k =>
    obtain ⟨hd, hn, hB⟩ := okE_inv rfl hok
    simp only [okB, Bool.and_eq_true, Bool.or_eq_true, decide_eq_true_eq] at hB
    exact sd_lload_nz X hd hn hB hK h
  | istore k =>
    obtain ⟨hd, hn, hB⟩ := okE_inv rfl hok
    simp only [okB, Bool.and_eq_true, Bool.or_eq_true, decide_eq_true_eq] at hB
    exact sd_istorez X hd hn hB.1 hB.2 hK h
  | astore k =>
    obtain ⟨hd, hn, hB⟩ := okE_inv rfl hok
    simp only [okB, Bool.and_eq_true, Bool.or_eq_true, decide_eq_true_eq] at hB
    exact sd_astorez X hd hn hB.1 hB.2 hK h
  | lstore k =>
    obtain ⟨hd, hn, hB⟩ := okE_inv rfl hok
    simp only [okB, Bool.and_eq_true, Bool.or_eq_true, decide_eq_true_eq] at hB
    exact sd_lstorez X hd hn hB.1 hB.2 hK h
  | istore_n k =>
    obtain ⟨hd, hn, hB⟩ := okE_inv rfl hok
    simp only [okB, Bool.and_eq_true, Bool.or_eq_true, decide_eq_true_eq] at hB
    exact sd_istore_nz X hd hn hB.1 hB.2 hK h
  | astore_n k =>
    obtain ⟨hd, hn, hB⟩ := okE_inv rfl hok
    simp only [okB, Bool.and_eq_true, Bool.or_eq_true, decide_eq_true_eq] at hB
    exact sd_astore_nz X hd hn hB.1 hB.2 hK h
  | lstore_n k =>
    obtain ⟨hd, hn, hB⟩ := okE_inv rfl hok
    simp only [okB, Bool.and_eq_true, Bool.or_eq_true, decide_eq_true_eq] at hB
    exact sd_lstore_nz X hd hn hB.1 hB.2 hK h
  | iinc k q =>
    obtain ⟨hd, hn, hB⟩ := okE_inv rfl hok
    simp only [okB, Bool.and_eq_true, Bool.or_eq_true, decide_eq_true_eq] at hB
    exact sd_iincz X hd hn hB.1.1 hB.1.2 hB.2 hK h
  | goto off =>
    obtain ⟨hd, hn, hB⟩ := okE_inv rfl hok
    simp only [okB, Bool.and_eq_true, Bool.or_eq_true, decide_eq_true_eq] at hB
    exact sd_gotoz X hd hn hB hK h
  | ifCond q off =>
    obtain ⟨hd, hn, hB⟩ := okE_inv rfl hok
    simp only [okB, Bool.and_eq_true, Bool.or_eq_true, decide_eq_true_eq] at hB
    exact sd_ifCondz X hd hn hB hK h
  | if_icmp q off =>
    obtain ⟨hd, hn, hB⟩ := okE_inv rfl hok
    simp only [okB, Bool.and_eq_true, Bool.or_eq_true, decide_eq_true_eq] at hB
    exact sd_if_icmpz X hd hn hB hK h
  | ifnull off =>
    obtain ⟨hd, hn, hB⟩ := okE_inv rfl hok
    simp only [okB, Bool.and_eq_true, Bool.or_eq_true, decide_eq_true_eq] at hB
    exact sd_ifnullz X hd hn hB hK h
  | getfield k =>
    obtain ⟨hd, hn, hB⟩ := okE_inv rfl hok
    exact sd_getfieldz X hd hn hB hK h
  | putfield k =>
    obtain ⟨hd, hn, hB⟩ := okE_inv rfl hok
    simp only [okB, Bool.and_eq_true, Bool.or_eq_true, decide_eq_true_eq] at hB
    exact sd_putfieldz X hd hn hB.1 hB.2 hK h
  | getstatic k =>
    obtain ⟨hd, hn, hB⟩ := okE_inv rfl hok
    simp only [okB, Bool.and_eq_true, Bool.or_eq_true, decide_eq_true_eq] at hB
    exact sd_getstaticz X hd hn hB.1 hB.2 hK h
  | invokevirtual k =>
    obtain ⟨hd, hn, hB⟩ := okE_inv rfl hok
    simp only [okB, Bool.and_eq_true, decide_eq_true_eq, Bool.not_eq_true'] at hB
    exact sd_virtualz X hd hn hB.1.1.1 hB.1.1.2 hB.1.2 hB.2 hK h
  | invokestatic k =>
    obtain ⟨hd, hn, hB⟩ := okE_inv rfl hok
    unfold okB at hB
    unfold stepIz at h
    simp only [] at hB h
    by_cases h1 : a = 1000
    · rw [if_pos h1] at hB h
      simp only [Bool.and_eq_true, decide_eq_true_eq] at hB
      exact sd_maxz X hd hn (lk_in hB.1.1) hB.1.2 hB.2 hK h
    · rw [if_neg h1] at hB h
      by_cases h2 : a = 1001
      · rw [if_pos h2] at hB h
        simp only [Bool.and_eq_true, decide_eq_true_eq] at hB
        exact sd_minz X hd hn (lk_in hB.1.1) hB.1.2 hB.2 hK h
      · rw [if_neg h2] at hB h
        by_cases h3 : a = 1002
        · rw [if_pos h3] at hB h
          simp only [Bool.and_eq_true, decide_eq_true_eq] at hB
          exact sd_copyz X hd hn (lk_in hB.1.1) hB.1.2 hB.2 hK h
        · rw [if_neg h3] at hB h
          simp only [Bool.and_eq_true] at hB
          exact sd_staticz X hd hn hB.1 hB.2 hK h
  | ireturn => exact hRet (by simp) h
  | lreturn => exact hRet (by simp) h
  | areturn => exact hRet (by simp) h
  | return_ => exact hRet (by simp) h
  | tableswitch d lo hi offs =>
    unfold okE okB at hok
    simp only [Bool.and_eq_true, decide_eq_true_eq] at hok
    obtain ⟨h1, ⟨⟨h2, h3⟩, h4⟩, h5⟩ := hok
    exact sd_tableswitchz X h1 h2 h3 (fun o ho => by have := Array.all_eq_true_iff_forall_mem.mp h4 o ho; simpa using this) h5 hK h
  | _ => exact False.elim h

end SND4
section SND5
variable {p : Program} {l : Launch} {e : Env} {R : Room} {s : State} {m : MethodId} {args : Array Value} {below : List Frame} {meth : Method} {c : Code} {cells slots : Nat} {QW : State → Prop} {cc : ByteArray} {own : String} {nL : Nat} {ret : Option FieldType} {ad : Nat → Nat} {D : va_G} {cI cC cG : ClassId} {A0 : Nat → Prop}
theorem sd_retz (X : aXz p s m args meth c R 0 0 cc own nL ad D cI cC cG (aAz ad)) {K : aK} {Ret : Option AV → Mem → Prop} {i : Instr} {n a b w : Nat} {z : Int} {pc : Nat} {L : Lc} {st : List AV} {μ : Mem} (hr : meth.sig.returnType = ret) (hlk : meth.locks = false) (hok : okE own cc ret nL R.frames R.locals pc (i, n, a, b, w, z) = true)
    (hi : i = .ireturn ∨ i = .lreturn ∨ i = .areturn ∨ i = .return_) (h : stepIz Ret i n a b z L st μ K) : aGz p l e R s m args below meth c 0 0 (MQ below (aQz ad D cI cC cG Ret) args s 0 0 (aAz ad)) nL ad D cI cC cG (aAz ad) pc L st μ := by
  intro H locs ls hP hS hL hR hst
  obtain ⟨⟨hx, hb, hml, hown, hts⟩, hKn, hSt, hNs, hA, hI, hc, hs⟩ := X
  have fin : ∀ (r : Option AV), Ret r μ → (∀ v, r = some v → wfv v) → ∀ t : State, t.heap = H → aQz ad D cI cC cG Ret args s (.returned (r.map (conc ad))) t := by
    intro r hq hw t ht
    exact ⟨⟨r, μ, rfl, hq, hw, by rw [ht]; exact hP, hR⟩, hS.F ht⟩
  rcases hi with rfl | rfl | rfl | rfl
  · obtain ⟨hd, hn, hB⟩ := okE_inv rfl hok
    simp only [okB, Bool.and_eq_true, Bool.or_eq_true, decide_eq_true_eq] at hB
    obtain ⟨x, t, rfl, rfl, hb2, hq⟩ := un_inv h
    have hf := fin _ hq (fun v hv => by cases hv; exact wf_h hst)
    rcases hB with (⟨hb3, rfl⟩ | ⟨hb3, rfl⟩) | ⟨hb3, rfl⟩
    · exact W.iret hx hb hr (fun t ht _ => hf t ht) hS.2.2 hd hlk
    · have hx1 : x = 0 ∨ x = 1 := by omega
      exact W.zret hx hb hr (by rcases hx1 with rfl | rfl <;> rfl) (fun t ht _ => hf t ht) hS.2.2 hd hlk
    · have hx1 : 0 ≤ x ∧ x ≤ 65535 := by omega
      obtain ⟨k, rfl⟩ : ∃ k : Nat, x = k := ⟨x.toNat, by omega⟩
      exact W.zret hx hb hr (by rw [← i32_nat]; exact (pk_charN (q := k) (by omega)).1) (fun t ht _ => hf t ht) hS.2.2 hd hlk
  · obtain ⟨hd, hn, hB⟩ := okE_inv rfl hok
    simp only [okB, decide_eq_true_eq] at hB
    subst hB
    obtain ⟨x, t, rfl, rfl, hq⟩ := unL_inv h
    have hf := fin _ hq (fun v hv => by cases hv; trivial)
    exact W.lret hx hb hr (fun t ht _ => hf t ht) hS.2.2 hd hlk
  · obtain ⟨hd, hn, hB⟩ := okE_inv rfl hok
    simp only [okB, Bool.or_eq_true, decide_eq_true_eq] at hB
    have hrt : ∃ rt, ret = some rt ∧ ∃ n, rt = FieldType.object n := by
      rcases hB with rfl | rfl
      · exact ⟨_, rfl, _, rfl⟩
      · exact ⟨_, rfl, _, rfl⟩
    obtain ⟨rt, rfl, hrt⟩ := hrt
    rcases unA_inv (show unA st (fun v st => st = [] ∧ Ret (some v) μ) from h) with ⟨x, t, rfl, rfl, hq⟩ | ⟨t, rfl, rfl, hq⟩
    · have hf := fin _ hq (fun v hv => by cases hv; trivial)
      exact W.aret hx hb hr (Or.inl hrt) (Or.inr ⟨_, rfl⟩) (fun t ht _ => hf t ht) hS.2.2 hd hlk
    · have hf := fin _ hq (fun v hv => by cases hv; trivial)
      exact W.aret hx hb hr (Or.inl hrt) (Or.inl rfl) (fun t ht _ => hf t ht) hS.2.2 hd hlk
  · obtain ⟨hd, hn, hB⟩ := okE_inv rfl hok
    simp only [okB, decide_eq_true_eq] at hB
    subst hB
    obtain ⟨rfl, hq⟩ := (show st = [] ∧ Ret none μ from h)
    have hf := fin _ hq (fun v hv => by cases hv)
    exact W.vret hx hb hr (fun t ht _ => hf t ht) hS.2.2 hd hlk
end SND5
/-- method a, at pc with these locals, stack, memory: it comes back with Ret -/
def AWz (a : Nat) (Ret : Option AV → Mem → Prop) : aK := fun pc L st μ =>
  ∀ (p : Program) (l : Launch) (e : Env) (s : State) (m : MethodId) (args : Array Value) (below : List Frame) (meth : Method) (c : Code) (ad : Nat → Nat) (D : va_G) (cI cC cG : ClassId),
    aXz p s m args meth c (mR a) 0 0 (mB a) (mY a).cls (mL a) ad D cI cC cG (aAz ad) → meth.sig.returnType = mT a → meth.locks = false →
    aGz p l e (mR a) s m args below meth c 0 0 (MQ below (aQz ad D cI cC cG Ret) args s 0 0 (aAz ad)) (mL a) ad D cI cC cG (aAz ad) pc L st μ
def stepOz (Ret : Option AV → Mem → Prop) (x : Option (Instr × E5)) (L : Lc) (st : List AV) (μ : Mem) (K : aK) : Prop := match x with
  | some (i, n, a, b, _, z) => stepIz Ret i n a b z L st μ K
  | none => False
def vcGz (G : aK) (Ret : Option AV → Mem → Prop) (T : tE) (stop : List Nat) : Nat → aK
  | 0 => G
  | f + 1 => fun pc L st μ => bif memN stop pc then G pc L st μ else stepOz Ret (tat T pc) L st μ (vcGz G Ret T stop f)
/-- one step first, then on to the stops -/
def vc1z (G : aK) (Ret : Option AV → Mem → Prop) (T : tE) (stop : List Nat) (f : Nat) : aK := fun pc L st μ => stepOz Ret (tat T pc) L st μ (vcGz G Ret T stop f)
theorem AW_stepz {a : Nat} {T : tE} {Ret : Option AV → Mem → Prop} {K : aK} (h : okT a T = true) (hK : ∀ pc L st μ, K pc L st μ → AWz a Ret pc L st μ) {pc : Nat} {L : Lc} {st : List AV} {μ : Mem} (hs : stepOz Ret (tat T pc) L st μ K) : AWz a Ret pc L st μ := by
  intro p l e s m args below meth c ad D cI cC cG X hr hlk
  cases e1 : tat T pc with
  | none => rw [e1] at hs; exact hs.elim
  | some x =>
    rw [e1] at hs
    obtain ⟨i, n, x1, b, w, z⟩ := x
    have ho := tat_ok h e1
    exact step_sndz X ho (fun hi hh => sd_retz X hr hlk ho hi hh) (fun pc L st μ hk => hK pc L st μ hk p l e s m args below meth c ad D cI cC cG X hr hlk) hs
theorem vc_sndz {a : Nat} {T : tE} {Ret : Option AV → Mem → Prop} {stop : List Nat} (h : okT a T = true) : ∀ (f pc : Nat) (L : Lc) (st : List AV) (μ : Mem), vcGz (AWz a Ret) Ret T stop f pc L st μ → AWz a Ret pc L st μ := by
  intro f
  induction f with
  | zero => exact fun pc L st μ h => h
  | succ f ih =>
    intro pc L st μ hv
    unfold vcGz at hv
    cases hm : memN stop pc with
    | true => rw [hm] at hv; exact hv
    | false =>
      rw [hm] at hv
      exact AW_stepz h ih hv
theorem vc1_sndz {a : Nat} {T : tE} {Ret : Option AV → Mem → Prop} {stop : List Nat} (h : okT a T = true) (f : Nat) {pc : Nat} {L : Lc} {st : List AV} {μ : Mem} (hv : vc1z (AWz a Ret) Ret T stop f pc L st μ) : AWz a Ret pc L st μ := AW_stepz h (vc_sndz h f) hv
/-- the contract of method a out of its walk -/
theorem wp_ofz {a : Nat} (ha : a < 190) {as : List AV} {μ : Mem} {Q : Option AV → Mem → Prop} (h1 : as.all (fun v => !av2 v) = true) (h2 : as.length ≤ mL a) (hw : (∀ v ∈ as, wfv v) → AWz a Q 0 (mkL as (mL a)) [] μ) : wpMz a as μ Q := by
  intro hwf l ad D cI cC cG
  refine Met.ofW (cc := mB a) (maxL := mL a) (ret := mT a) (okM_inv ha).1.2 rfl ?_
  intro p e s m args below meth c s₁ B hml hv
  obtain ⟨rfl, hP, hK, hSt, hNs, hI, hR⟩ := hv
  have hts := atoms_spec (ws := mW a) B.pre
  have X : aXz p s m (as.map (conc ad)).toArray meth c (mR a) 0 0 (mB a) (mY a).cls (mL a) ad D cI cC cG (aAz ad) :=
    ⟨⟨B.exec, B.bytes, hml, findClass_of_methodNamed B.named, fun w hw => hts w (List.mem_cons_of_mem _ hw)⟩, hK, hSt, hNs, fun k hk => ⟨k, hk, rfl⟩, hI, Nat.zero_le _, Nat.zero_le _⟩
  have hcat : ∀ v ∈ as.map (conc ad), v.category = 1 := by
    intro v hv
    obtain ⟨w, hw1, rfl⟩ := List.mem_map.mp hv
    have := List.all_eq_true.mp h1 w hw1
    rw [conc_cat]
    simp only [Bool.not_eq_true'] at this
    rw [this]; rfl
  have hl := lv_entry (as.map (conc ad)) (n := mL a) (by rw [sl_len _ hcat]; simpa using h2)
  rw [lg_entry_eq]
  generalize (lg_sl (as.map (conc ad)) ++ List.replicate (mL a - (lg_sl (as.map (conc ad))).length) Slot.unset).toArray = ls at hl ⊢
  refine hw hwf p l e s m _ below meth c ad D cI cC cG X B.returns B.notSynchronized s.heap [] ls hP va_S.rf ⟨hl.1, hl.2.1, fun i v hi => ?_⟩ hR (fun v hv => absurd hv List.not_mem_nil)
  unfold mkL at hi
  rw [lget_map] at hi
  by_cases h9 : i < as.length
  · rw [if_pos h9] at hi
    refine ⟨hl.2.2 (i, conc ad v) ?_, hwf v (List.mem_of_getElem? hi)⟩
    have := lv_args1 (as.map (conc ad)) 0 hcat i (conc ad v) (by rw [List.getElem?_map, hi]; rfl)
    simpa using this
  · rw [if_neg h9, lget_rep] at hi
    cases hi
theorem wp_monoz {a : Nat} {as : List AV} {μ : Mem} {Q Q' : Option AV → Mem → Prop} (h : wpMz a as μ Q) (hq : ∀ r μ', Q r μ' → Q' r μ') : wpMz a as μ Q' := by
  intro hwf l ad D cI cC cG p e ha hc hk s m args below hf ok hP hK
  obtain ⟨k, o, h1, h2, h3, ⟨⟨r, μ', e1, e2, e3⟩, e4⟩, h5⟩ := h hwf l ad D cI cC cG p e ha hc hk s m args below hf ok hP hK
  exact ⟨k, o, h1, h2, h3, ⟨⟨r, μ', e1, hq _ _ e2, e3⟩, e4⟩, h5⟩
def selKz (s : Bool) (x : Option (Instr × E5)) (G : aK) (Ret : Option AV → Mem → Prop) (pc : Nat) (L : Lc) (st : List AV) (μ : Mem) (K : aK) : Prop := bif s then G pc L st μ else stepOz Ret x L st μ K
theorem vc_sz {G : aK} {Ret : Option AV → Mem → Prop} {T : tE} {stop : List Nat} {f pc : Nat} {L : Lc} {st : List AV} {μ : Mem} : vcGz G Ret T stop (f + 1) pc L st μ = selKz (memN stop pc) (tat T pc) G Ret pc L st μ (vcGz G Ret T stop f) := (rfl)
theorem sel_tz {x : Option (Instr × E5)} {G : aK} {Ret : Option AV → Mem → Prop} {pc : Nat} {L : Lc} {st : List AV} {μ : Mem} {K : aK} : selKz true x G Ret pc L st μ K = G pc L st μ := (rfl)
theorem sel_fz {i : Instr} {n a b w : Nat} {z : Int} {G : aK} {Ret : Option AV → Mem → Prop} {pc : Nat} {L : Lc} {st : List AV} {μ : Mem} {K : aK} : selKz false (some (i, n, a, b, w, z)) G Ret pc L st μ K = stepIz Ret i n a b z L st μ K := (rfl)
theorem vc_1z {G : aK} {Ret : Option AV → Mem → Prop} {T : tE} {stop : List Nat} {f pc : Nat} {L : Lc} {st : List AV} {μ : Mem} : vc1z G Ret T stop f pc L st μ = selKz false (tat T pc) G Ret pc L st μ (vcGz G Ret T stop f) := (rfl)
section SI
variable {Ret : Option AV → Mem → Prop} {n a b : Nat} {z : Int} {L : Lc} {st : List AV} {μ : Mem} {K : aK}
theorem si_iloadz {q : Nat} : stepIz Ret (.iload q) n a b z L st μ K = xI (lget L a) n L st μ K := (rfl)
theorem si_iload_nz {q : Fin 4} : stepIz Ret (.iload_n q) n a b z L st μ K = xI (lget L a) n L st μ K := (rfl)
theorem si_aloadz {q : Nat} : stepIz Ret (.aload q) n a b z L st μ K = xR (lget L a) n L st μ K := (rfl)
theorem si_aload_nz {q : Fin 4} : stepIz Ret (.aload_n q) n a b z L st μ K = xR (lget L a) n L st μ K := (rfl)
theorem si_lloadz {q : Nat} : stepIz Ret (.lload q) n a b z L st μ K = xL (lget L a) n L st μ K := (rfl)
theorem si_lload_nz {q : Fin 4} : stepIz Ret (.lload_n q) n a b z L st μ K = xL (lget L a) n L st μ K := (rfl)
theorem si_iconstz {q : Int} : stepIz Ret (.iconst q) n a b z L st μ K = K n L (.inl z :: st) μ := (rfl)
theorem si_bipushz {q : Int} : stepIz Ret (.bipush q) n a b z L st μ K = K n L (.inl z :: st) μ := (rfl)
theorem si_sipushz {q : Int} : stepIz Ret (.sipush q) n a b z L st μ K = K n L (.inl z :: st) μ := (rfl)
theorem si_ldcz {q : Nat} : stepIz Ret (.ldc q) n a b z L st μ K = K n L (.inl z :: st) μ := (rfl)
theorem si_ldc2_wz {q : Nat} : stepIz Ret (.ldc2_w q) n a b z L st μ K = K n L (.inr (.long (Int64.ofInt z)) :: st) μ := (rfl)
theorem si_aconst_nullz : stepIz Ret .aconst_null n a b z L st μ K = K n L (.inr .null :: st) μ := (rfl)
theorem si_istorez {q : Nat} {x : Int} : stepIz Ret (.istore q) n a b z L (.inl x :: st) μ K = (nlg L a = true ∧ K n (lset L a (.inl x)) st μ) := (rfl)
theorem si_istore_nz {q : Fin 4} {x : Int} : stepIz Ret (.istore_n q) n a b z L (.inl x :: st) μ K = (nlg L a = true ∧ K n (lset L a (.inl x)) st μ) := (rfl)
theorem si_astorez {q : Nat} {x : Nat} : stepIz Ret (.astore q) n a b z L (.inr (.ref x) :: st) μ K = (nlg L a = true ∧ K n (lset L a (.inr (.ref x))) st μ) := (rfl)
theorem si_astore_nz {q : Fin 4} {x : Nat} : stepIz Ret (.astore_n q) n a b z L (.inr (.ref x) :: st) μ K = (nlg L a = true ∧ K n (lset L a (.inr (.ref x))) st μ) := (rfl)
theorem si_astoreNz {q : Nat} : stepIz Ret (.astore q) n a b z L (.inr .null :: st) μ K = (nlg L a = true ∧ K n (lset L a (.inr .null)) st μ) := (rfl)
theorem si_astore_nNz {q : Fin 4} : stepIz Ret (.astore_n q) n a b z L (.inr .null :: st) μ K = (nlg L a = true ∧ K n (lset L a (.inr .null)) st μ) := (rfl)
theorem si_lstorez {q : Nat} {x : Int64} : stepIz Ret (.lstore q) n a b z L (.inr (.long x) :: st) μ K = (nlg L a = true ∧ K n (lset2 L a (.inr (.long x))) st μ) := (rfl)
theorem si_lstore_nz {q : Fin 4} {x : Int64} : stepIz Ret (.lstore_n q) n a b z L (.inr (.long x) :: st) μ K = (nlg L a = true ∧ K n (lset2 L a (.inr (.long x))) st μ) := (rfl)
theorem si_iincz {q : Nat} {q2 : Int} : stepIz Ret (.iinc q q2) n a b z L st μ K = xInc (lget L a) z n a L st μ K := (rfl)
theorem si_dupIz {x : Int} : stepIz Ret .dup n a b z L (.inl x :: st) μ K = K n L (.inl x :: .inl x :: st) μ := by simp [stepIz, any1, av2]
theorem si_dupRz {x : Nat} : stepIz Ret .dup n a b z L (.inr (.ref x) :: st) μ K = K n L (.inr (.ref x) :: .inr (.ref x) :: st) μ := by simp [stepIz, any1, av2]
theorem si_popIz {x : Int} : stepIz Ret .pop n a b z L (.inl x :: st) μ K = K n L st μ := by simp [stepIz, any1, av2]
theorem si_popRz {x : Nat} : stepIz Ret .pop n a b z L (.inr (.ref x) :: st) μ K = K n L st μ := by simp [stepIz, any1, av2]
theorem si_dup2z {x : Nat} {y : Int} : stepIz Ret .dup2 n a b z L (.inl y :: .inr (.ref x) :: st) μ K = K n L (.inl y :: .inr (.ref x) :: .inl y :: .inr (.ref x) :: st) μ := by simp [stepIz, any1, av2]
theorem si_iaddz {x y : Int} : stepIz Ret .iadd n a b z L (.inl y :: .inl x :: st) μ K = (inR (x + y) ∧ K n L (.inl (x + y) :: st) μ) := (rfl)
theorem si_isubz {x y : Int} : stepIz Ret .isub n a b z L (.inl y :: .inl x :: st) μ K = (inR (x - y) ∧ K n L (.inl (x - y) :: st) μ) := (rfl)
theorem si_imulz {x y : Int} : stepIz Ret .imul n a b z L (.inl y :: .inl x :: st) μ K = (inR (x * y) ∧ K n L (.inl (x * y) :: st) μ) := (rfl)
theorem si_idivz {x y : Int} : stepIz Ret .idiv n a b z L (.inl y :: .inl x :: st) μ K = (0 ≤ x ∧ 0 < y ∧ K n L (.inl (x / y) :: st) μ) := (rfl)
theorem si_iremz {x y : Int} : stepIz Ret .irem n a b z L (.inl y :: .inl x :: st) μ K = (0 ≤ x ∧ 0 < y ∧ K n L (.inl (x % y) :: st) μ) := (rfl)
theorem si_inegz {x : Int} : stepIz Ret .ineg n a b z L (.inl x :: st) μ K = (inR (-x) ∧ K n L (.inl (-x) :: st) μ) := (rfl)
theorem si_i2cz {x : Int} : stepIz Ret .i2c n a b z L (.inl x :: st) μ K = (0 ≤ x ∧ x ≤ 65535 ∧ K n L (.inl x :: st) μ) := (rfl)
theorem si_i2lz {x : Int} : stepIz Ret .i2l n a b z L (.inl x :: st) μ K = K n L (.inr (.long (Int64.ofInt x)) :: st) μ := (rfl)
theorem si_laddz {x y : Int64} : stepIz Ret .ladd n a b z L (.inr (.long y) :: .inr (.long x) :: st) μ K = K n L (.inr (.long (x + y)) :: st) μ := (rfl)
theorem si_lmulz {x y : Int64} : stepIz Ret .lmul n a b z L (.inr (.long y) :: .inr (.long x) :: st) μ K = K n L (.inr (.long (x * y)) :: st) μ := (rfl)
theorem si_gotoz {q : Int} : stepIz Ret (.goto q) n a b z L st μ K = K a L st μ := (rfl)
theorem si_zeqz {q : Int} {x : Int} : stepIz Ret (.ifCond .eq q) n a b z L (.inl x :: st) μ K = ((x = 0 → K a L st μ) ∧ (¬ x = 0 → K n L st μ)) := (rfl)
theorem si_znez {q : Int} {x : Int} : stepIz Ret (.ifCond .ne q) n a b z L (.inl x :: st) μ K = ((¬ x = 0 → K a L st μ) ∧ (x = 0 → K n L st μ)) := by simp [stepIz, un, cbr]
theorem si_zltz {q : Int} {x : Int} : stepIz Ret (.ifCond .lt q) n a b z L (.inl x :: st) μ K = ((x < 0 → K a L st μ) ∧ (¬ x < 0 → K n L st μ)) := (rfl)
theorem si_zgez {q : Int} {x : Int} : stepIz Ret (.ifCond .ge q) n a b z L (.inl x :: st) μ K = ((0 ≤ x → K a L st μ) ∧ (¬ 0 ≤ x → K n L st μ)) := (rfl)
theorem si_zgtz {q : Int} {x : Int} : stepIz Ret (.ifCond .gt q) n a b z L (.inl x :: st) μ K = ((0 < x → K a L st μ) ∧ (¬ 0 < x → K n L st μ)) := (rfl)
theorem si_zlez {q : Int} {x : Int} : stepIz Ret (.ifCond .le q) n a b z L (.inl x :: st) μ K = ((x ≤ 0 → K a L st μ) ∧ (¬ x ≤ 0 → K n L st μ)) := (rfl)
theorem si_ceqz {q : Int} {x y : Int} : stepIz Ret (.if_icmp .eq q) n a b z L (.inl y :: .inl x :: st) μ K = ((x = y → K a L st μ) ∧ (¬ x = y → K n L st μ)) := (rfl)
theorem si_cnez {q : Int} {x y : Int} : stepIz Ret (.if_icmp .ne q) n a b z L (.inl y :: .inl x :: st) μ K = ((¬ x = y → K a L st μ) ∧ (x = y → K n L st μ)) := by simp [stepIz, bin, cbr]
theorem si_cltz {q : Int} {x y : Int} : stepIz Ret (.if_icmp .lt q) n a b z L (.inl y :: .inl x :: st) μ K = ((x < y → K a L st μ) ∧ (¬ x < y → K n L st μ)) := (rfl)
theorem si_cgez {q : Int} {x y : Int} : stepIz Ret (.if_icmp .ge q) n a b z L (.inl y :: .inl x :: st) μ K = ((y ≤ x → K a L st μ) ∧ (¬ y ≤ x → K n L st μ)) := (rfl)
theorem si_cgtz {q : Int} {x y : Int} : stepIz Ret (.if_icmp .gt q) n a b z L (.inl y :: .inl x :: st) μ K = ((y < x → K a L st μ) ∧ (¬ y < x → K n L st μ)) := (rfl)
theorem si_clez {q : Int} {x y : Int} : stepIz Ret (.if_icmp .le q) n a b z L (.inl y :: .inl x :: st) μ K = ((x ≤ y → K a L st μ) ∧ (¬ x ≤ y → K n L st μ)) := (rfl)
theorem si_ifnullz {q : Int} {x : Nat} : stepIz Ret (.ifnull q) n a b z L (.inr (.ref x) :: st) μ K = K n L st μ := by simp [stepIz, unA]
theorem si_ifnullNz {q : Int} : stepIz Ret (.ifnull q) n a b z L (.inr .null :: st) μ K = K a L st μ := by simp [stepIz, unA]
theorem si_tableswitchz {d lo hi : Int} {offs : Array Int} {x : Int} : stepIz Ret (.tableswitch d lo hi offs) n a b z L (.inl x :: st) μ K = ((x < lo ∨ hi < x → K ((a : Int) + d).toNat L st μ) ∧ xTS a x lo offs.toList L st μ K) := (rfl)
theorem si_getfieldz {q k : Nat} : stepIz Ret (.getfield q) n a b z L (.inr (.ref k) :: st) μ K = xGF (shpz k) k b a n z L st μ K := (rfl)
theorem si_putfieldz {q k : Nat} {x : Int} : stepIz Ret (.putfield q) n a b z L (.inl x :: .inr (.ref k) :: st) μ K = xPF (shpz k) k b a n z x L st μ K := (rfl)
theorem si_getstaticz {q : Nat} : stepIz Ret (.getstatic q) n a b z L st μ K = K n L (.inr (.ref a) :: st) μ := (rfl)
theorem si_arraylengthz {k : Nat} : stepIz Ret .arraylength n a b z L (.inr (.ref k) :: st) μ K = xAL (shpz k) k n L st μ K := (rfl)
theorem si_ialoadz {k : Nat} {i : Int} : stepIz Ret .iaload n a b z L (.inl i :: .inr (.ref k) :: st) μ K = xIA (shpz k) i k n L st μ K := (rfl)
theorem si_caloadz {k : Nat} {i : Int} : stepIz Ret .caload n a b z L (.inl i :: .inr (.ref k) :: st) μ K = xCA (shpz k) i k n L st μ K := (rfl)
theorem si_aaloadz {k : Nat} {i : Int} : stepIz Ret .aaload n a b z L (.inl i :: .inr (.ref k) :: st) μ K = xAA (shpz k) i n L st μ K := (rfl)
theorem si_iastorez {k : Nat} {i x : Int} : stepIz Ret .iastore n a b z L (.inl x :: .inl i :: .inr (.ref k) :: st) μ K = xIS (shpz k) i x k n L st μ K := (rfl)
theorem si_castorez {k : Nat} {i x : Int} : stepIz Ret .castore n a b z L (.inl x :: .inl i :: .inr (.ref k) :: st) μ K = xCS (shpz k) i x k n L st μ K := (rfl)
theorem e_rcvz {r : Nat} {t : List AV} {z : Int} : rcvz (.inr (.ref r) :: t) z = rcvS (shpz r) z := (rfl)
theorem si_invokevirtualz {q : Nat} : stepIz Ret (.invokevirtual q) n a b z L st μ K = (b ≤ st.length ∧ (st.drop b).length ≤ 4 ∧ rcvz (st.take b).reverse z ∧ wpMz a (st.take b).reverse μ (kc K n L (st.drop b))) := (rfl)
def xSVz (s : Bool) (n a b : Nat) (L : Lc) (st : List AV) (μ : Mem) (K : aK) : Prop := bif s then (if a = 1000 then bin st fun x y st => st.length ≤ 4 ∧ K n L (.inl (imax x y) :: st) μ else if a = 1001 then bin st fun x y st => st.length ≤ 4 ∧ K n L (.inl (imin x y) :: st) μ else acopy st fun a0 a1 sp dp m st => st.length ≤ 4 ∧ xCP (shpz a0) (shpz a1) a0 a1 sp dp m n L st μ K) else (b ≤ st.length ∧ (st.drop b).length ≤ 4 ∧ wpMz a (st.take b).reverse μ (kc K n L (st.drop b)))
theorem si_invokestaticz {q : Nat} : stepIz Ret (.invokestatic q) n a b z L st μ K = xSVz (a == 1000 || (a == 1001 || a == 1002)) n a b L st μ K := by
  unfold xSVz stepIz
  by_cases h : a = 1000
  · subst h; rfl
  · by_cases h1 : a = 1001
    · subst h1; rfl
    · by_cases h2 : a = 1002
      · subst h2; rfl
      · simp [h, h1, h2]
theorem e_svz {K : aK} : xSVz false n a b L st μ K = (b ≤ st.length ∧ (st.drop b).length ≤ 4 ∧ wpMz a (st.take b).reverse μ (kc K n L (st.drop b))) := (rfl)
theorem e_smaxz {x y : Int} : xSVz true n 1000 b L (.inl y :: .inl x :: st) μ K = (st.length ≤ 4 ∧ K n L (.inl (imax x y) :: st) μ) := (rfl)
theorem e_sminz {x y : Int} : xSVz true n 1001 b L (.inl y :: .inl x :: st) μ K = (st.length ≤ 4 ∧ K n L (.inl (imin x y) :: st) μ) := (rfl)
theorem e_scpz {m dp sp : Int} {k k0 : Nat} : xSVz true n 1002 b L (.inl m :: .inl dp :: .inr (.ref k) :: .inl sp :: .inr (.ref k0) :: st) μ K = (st.length ≤ 4 ∧ xCP (shpz k0) (shpz k) k0 k sp dp m n L st μ K) := (rfl)
theorem si_ireturnz {x : Int} : stepIz Ret .ireturn n a b z L [.inl x] μ K = ((b = 0 ∨ (b = 1 ∧ (x = 0 ∨ x = 1)) ∨ (b = 2 ∧ 0 ≤ x ∧ x ≤ 65535)) ∧ Ret (some (.inl x)) μ) := by simp [stepIz, un]
theorem si_lreturnz {x : Int64} : stepIz Ret .lreturn n a b z L [.inr (.long x)] μ K = Ret (some (.inr (.long x))) μ := by simp [stepIz, unL]
theorem si_areturnz {x : Nat} : stepIz Ret .areturn n a b z L [.inr (.ref x)] μ K = Ret (some (.inr (.ref x))) μ := by simp [stepIz, unA]
theorem si_areturnNz : stepIz Ret .areturn n a b z L [.inr .null] μ K = Ret (some (.inr .null)) μ := by simp [stepIz, unA]
theorem si_return_z : stepIz Ret .return_ n a b z L [] μ K = Ret none μ := by simp [stepIz]
end SI


theorem wo_1z {as : List AV} {μ : Mem} {Q : Option AV → Mem → Prop} (stop : List Nat) (f : Nat) (h1 : as.all (fun v => !av2 v) = true) (h2 : as.length ≤ 3) (hw : (∀ v ∈ as, wfv v) → vc1z (AWz 1 Q) Q T_1 stop f 0 (mkL as 3) [] μ) : wpMz 1 as μ Q := wp_ofz (by decide) h1 (by rw [ml_1]; exact h2) (fun h => by rw [ml_1]; exact vc1_sndz ok_1 f (hw h))
theorem wo_15z {as : List AV} {μ : Mem} {Q : Option AV → Mem → Prop} (stop : List Nat) (f : Nat) (h1 : as.all (fun v => !av2 v) = true) (h2 : as.length ≤ 1) (hw : (∀ v ∈ as, wfv v) → vc1z (AWz 15 Q) Q T_15 stop f 0 (mkL as 1) [] μ) : wpMz 15 as μ Q := wp_ofz (by decide) h1 (by rw [ml_15]; exact h2) (fun h => by rw [ml_15]; exact vc1_sndz ok_15 f (hw h))
theorem wo_30z {as : List AV} {μ : Mem} {Q : Option AV → Mem → Prop} (stop : List Nat) (f : Nat) (h1 : as.all (fun v => !av2 v) = true) (h2 : as.length ≤ 1) (hw : (∀ v ∈ as, wfv v) → vc1z (AWz 30 Q) Q T_30 stop f 0 (mkL as 1) [] μ) : wpMz 30 as μ Q := wp_ofz (by decide) h1 (by rw [ml_30]; exact h2) (fun h => by rw [ml_30]; exact vc1_sndz ok_30 f (hw h))
theorem wo_60z {as : List AV} {μ : Mem} {Q : Option AV → Mem → Prop} (stop : List Nat) (f : Nat) (h1 : as.all (fun v => !av2 v) = true) (h2 : as.length ≤ 1) (hw : (∀ v ∈ as, wfv v) → vc1z (AWz 60 Q) Q T_60 stop f 0 (mkL as 1) [] μ) : wpMz 60 as μ Q := wp_ofz (by decide) h1 (by rw [ml_60]; exact h2) (fun h => by rw [ml_60]; exact vc1_sndz ok_60 f (hw h))
theorem wo_72z {as : List AV} {μ : Mem} {Q : Option AV → Mem → Prop} (stop : List Nat) (f : Nat) (h1 : as.all (fun v => !av2 v) = true) (h2 : as.length ≤ 2) (hw : (∀ v ∈ as, wfv v) → vc1z (AWz 72 Q) Q T_72 stop f 0 (mkL as 2) [] μ) : wpMz 72 as μ Q := wp_ofz (by decide) h1 (by rw [ml_72]; exact h2) (fun h => by rw [ml_72]; exact vc1_sndz ok_72 f (hw h))
def gmz (b : Nat) : Prop := b = 0
theorem gmz_all {b : Nat} (h : gmz b) : shpz b = .inl (2, [some (b + 1), some (b + 2), some (b + 4), some (b + 5), some (b + 6), some (b + 11), none, none, none, none, none, none, none, none]) ∧ shpz (b + 1) = .inr (0, 7) ∧ shpz (b + 2) = .inl (0, [some (b + 3)]) ∧ shpz (b + 3) = .inr (0, 36) ∧ shpz (b + 4) = .inl (5, [none, none, none, none, none, none]) ∧ shpz (b + 5) = .inl (5, [none, none, none, none, none, none]) ∧ shpz (b + 6) = .inl (4, [some (b + 7), some (b + 8), some (b + 9), some (b + 10), none, none, none, none, none]) ∧ shpz (b + 7) = .inr (0, 200) ∧ shpz (b + 8) = .inr (0, 200) ∧ shpz (b + 9) = .inr (0, 200) ∧ shpz (b + 10) = .inr (0, 200) ∧ shpz (b + 11) = .inl (1, [some (b + 12), none, none]) ∧ shpz (b + 12) = .inr (1, 3417) := by
  cases h
  exact ⟨rfl, rfl, rfl, rfl, rfl, rfl, rfl, rfl, rfl, rfl, rfl, rfl, rfl⟩
