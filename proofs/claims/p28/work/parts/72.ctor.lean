/-! OBJECTS ARE MADE: a constructor's walk, row by row -/
def rC (a mc ms : Nat) : Room := { frames := (mR a).frames, cells := mc, slots := ms, locals := (mR a).locals }
def iniV (i : Int) : Int := if i = 0 then 1000 else if i = 1 then 10 else if i = 6 then 2 else 0
def iStat (ad : Nat → Nat) (A : Nat → Prop) (U : State) (H : Heap) : Prop := va_Z "ClockedGame" "INITIAL" "[I" (.ref (ad 1000)) A U H ∧ va_T .int (ad 1000) 7 (fun j => .int (i32 (iniV j))) A U H
/-- what a constructor finds of the classes, the tables and the nest -/
def eV (ad : Nat → Nat) (D : va_G) (cI cC cG : ClassId) (A : Nat → Prop) (U : State) (H : Heap) : Prop := va_K D vwCl (aT cI cC cG) U ∧ (aStat ad A U H ∧ iStat ad A U H) ∧ aNst U ∧ va_AO "ClockedGame$Game" U
theorem stats_moved {ad : Nat → Nat} {A : Nat → Prop} {u U : State} {H : Heap} (hvm : u.vm.Alike U.vm) (h : aStat ad A u H ∧ iStat ad A u H) : aStat ad A U H ∧ iStat ad A U H := ⟨h.1.moved hvm, h.2.1.moved hvm, h.2.2.moved hvm⟩
theorem stats_kept {ad : Nat → Nat} {A : Nat → Prop} {U : State} {H H1 : Heap} (h : aStat ad A U H ∧ iStat ad A U H) (hq : ∀ a : Nat, a < H.size → ¬ A a → H1[a]? = H[a]?) : aStat ad A U H1 ∧ iStat ad A U H1 := ⟨h.1.kept hq, h.2.1.kept hq, h.2.2.kept hq⟩
theorem stats_narrow {ad : Nat → Nat} {A B : Nat → Prop} {U : State} {H : Heap} (h : aStat ad A U H ∧ iStat ad A U H) (hAB : ∀ q, B q → A q) : aStat ad B U H ∧ iStat ad B U H := ⟨h.1.narrow hAB, h.2.1.narrow hAB, h.2.2.narrow hAB⟩
def cPre (ad : Nat → Nat) (D : va_G) (cI cC cG : ClassId) (w0 : va_W) (sz : Nat) (U : State) : Prop := U.heap.size = sz ∧ va_P D vwCl w0 U.heap ∧ va_D (fun _ => True) w0 ∧ eV ad D cI cC cG (va_A w0 sz) U U.heap
def cPost (D : va_G) (A : Nat → Prop) (sh : va_W → Prop) : Array Value → State → Outcome → State → Prop := va_Qv (S := va_W) sh (fun w t => va_P D vwCl w t.heap ∧ va_D A w) A
/-- a constructor's contract: out of the world w0 it makes a world of which sh holds -/
def ctM (l : Launch) (a h0 : Nat) (ad : Nat → Nat) (D : va_G) (cI cC cG : ClassId) (w0 : va_W) (sz : Nat) (sh : va_W → Prop) (mc ms : Nat) : Prop := Met l (mY a) (mW a) (rC a mc ms) (va_Pc [.ref h0] (cPre ad D cI cC cG w0 sz)) (cPost D (va_A w0 sz) sh) mc ms (va_A w0 sz)
theorem cPre.blind {ad : Nat → Nat} {D : va_G} {cI cC cG : ClassId} {w0 : va_W} {sz : Nat} {as : List Value} : FrameBlind (va_Pc as (cPre ad D cI cC cG w0 sz)) := by
  intro a U g mk h
  obtain ⟨h0, h1, h2, h3, h4, h5, h6, h7⟩ := h
  exact ⟨h0, h1, h2, h3, va_K.moved (u := U) (U := U.calling g mk a) (Vm.Alike.refl U.vm) h4, stats_moved (u := U) (U := U.calling g mk a) (Vm.Alike.refl U.vm) h5, aNst.same (u := U) (U := U.calling g mk a) rfl h6, va_AO.moved (u := U) (U := U.calling g mk a) (Vm.Alike.refl U.vm) h7⟩
def cX (p : Program) (s : State) (m : MethodId) (args : Array Value) (meth : Method) (c : Code) (a : Nat) : Prop := (p.tables.exec = Jvm.exec ∧ c.code = mB a ∧ c.maxLocals = mL a ∧ s.vm.findClass (mY a).cls = some m.cls ∧ (∀ w ∈ lw_g, w.before args s = true)) ∧ meth.sig.returnType = mT a ∧ meth.locks = false ∧ meth.name = "<init>"
def cW (p : Program) (l : Launch) (e : Env) (R : Room) (s : State) (m : MethodId) (args : Array Value) (below : List Frame) (meth : Method) (c : Code) (QW : State → Prop) (A0 : Nat → Prop) (D : va_G) (ls : Array Slot) (cells slots pc : Nat) (st : List Value) (ws : va_W) : Prop := ∀ (H : Heap) (locs : List Loc), va_P D vwCl ws H → va_D A0 ws → va_S A0 s.heap H locs → W p l e R s m args below meth c H locs cells slots QW (F0 m pc ls st)
theorem ct_of {a : Nat} (ha : a < 190) (hin : mInit a = true) (hL : 1 ≤ mL a) {l : Launch} {h0 : Nat} {ad : Nat → Nat} {D : va_G} {cI cC cG : ClassId} {w0 : va_W} {sz : Nat} {sh : va_W → Prop} {mc ms : Nat}
    (hw : ∀ (p : Program) (e : Env) (s : State) (m : MethodId) (args : Array Value) (below : List Frame) (meth : Method) (c : Code) (ls : Array Slot), cX p s m args meth c a → eV ad D cI cC cG (va_A w0 sz) s s.heap → (∀ q, s.heap.size ≤ q → va_A w0 sz q) → lv_has ls (mL a) [(0, .ref h0)] → cW p l e (rC a mc ms) s m args below meth c (MQ below (cPost D (va_A w0 sz) sh) args s mc ms (va_A w0 sz)) (va_A w0 sz) D ls 0 0 0 [] w0) : ctM l a h0 ad D cI cC cG w0 sz sh mc ms := by
  refine Met.ofW (cc := mB a) (maxL := mL a) (ret := mT a) (okM_inv ha).1.2 rfl ?_
  intro p e s m args below meth c s₁ B hml hv
  obtain ⟨rfl, hsz, hP, hD, hE⟩ := hv
  have hts := atoms_spec (ws := mW a) B.pre
  have hl := lv_entry ([.ref h0]) (n := mL a) hL
  rw [lg_entry_eq]
  generalize (lg_sl ([.ref h0]) ++ List.replicate (mL a - (lg_sl ([.ref h0])).length) Slot.unset).toArray = ls at hl ⊢
  have hnm : meth.name = "<init>" := by
    have := (name_of_methodNamed B.named B.method).1
    rw [this]
    unfold mInit at hin
    exact eq_of_beq hin
  exact hw p e s m _ below meth c ls ⟨⟨B.exec, B.bytes, hml, findClass_of_methodNamed B.named, fun w hw => hts w (List.mem_cons_of_mem _ hw)⟩, B.returns, B.notSynchronized, hnm⟩ hE (fun q h => Or.inr (by rw [hsz] at h; exact h)) hl s.heap [] hP hD.self va_S.rf
section CT
variable {p : Program} {l : Launch} {e : Env} {R : Room} {s : State} {m : MethodId} {args : Array Value} {below : List Frame} {meth : Method} {c : Code} {QW : State → Prop} {A0 : Nat → Prop} {D : va_G} {ls : Array Slot} {cells slots pc a : Nat} {st : List Value} {ws : va_W} {ad : Nat → Nat} {cI cC cG : ClassId}
theorem va_P.right {D : va_G} {w1 w2 : va_W} {H : Heap} (h : va_P D vwCl (w1 ++ w2) H) : va_P D vwCl w2 H := fun k q hk => h (w1.length + k) q (by rw [List.getElem?_append_right (by omega), Nat.add_sub_cancel_left]; exact hk)
theorem va_P.left {D : va_G} {w1 w2 : va_W} {H : Heap} (h : va_P D vwCl (w1 ++ w2) H) : va_P D vwCl w1 H := fun k q hk => h k q (by rw [List.getElem?_append_left (List.getElem?_eq_some_iff.mp hk).1]; exact hk)
theorem va_D.right {A : Nat → Prop} {w1 w2 : va_W} (h : va_D A (w1 ++ w2)) : va_D A w2 := by
  have k1 : ∀ (k : Nat) (q : Nat × va_E), w2[k]? = some q → (w1 ++ w2)[w1.length + k]? = some q := fun k q hk => by rw [List.getElem?_append_right (by omega), Nat.add_sub_cancel_left]; exact hk
  exact ⟨fun i j x y hx hy hxy => by have := h.1 _ _ x y (k1 i x hx) (k1 j y hy) hxy; omega, fun k q hk => h.2 _ q (k1 k q hk)⟩
theorem va_D.left {A : Nat → Prop} {w1 w2 : va_W} (h : va_D A (w1 ++ w2)) : va_D A w1 := by
  have k1 : ∀ (k : Nat) (q : Nat × va_E), w1[k]? = some q → (w1 ++ w2)[k]? = some q := fun k q hk => by rw [List.getElem?_append_left (List.getElem?_eq_some_iff.mp hk).1]; exact hk
  exact ⟨fun i j x y hx hy hxy => h.1 _ _ x y (k1 i x hx) (k1 j y hy) hxy, fun k q hk => h.2 _ q (k1 k q hk)⟩
/-- behind a constructor: the caller's other cells, and what was made -/
theorem w_join {A0 : Nat → Prop} {D : va_G} {wr wc w1 : va_W} {H H1 : Heap} (hP : va_P D vwCl (wr ++ wc) H) (hD : va_D A0 (wr ++ wc)) (hk : ∀ q : Nat, q < H.size → ¬ va_A wc H.size q → H1[q]? = H[q]?) (hF : ∀ q, va_A wc H.size q → A0 q) (hP1 : va_P D vwCl w1 H1) (hD1 : va_D (va_A wc H.size) w1) : va_P D vwCl (wr ++ w1) H1 ∧ va_D A0 (wr ++ w1) := by
  have apart : ∀ (k : Nat) (q : Nat × va_E), wr[k]? = some q → q.1 < H.size ∧ ¬ va_A wc H.size q.1 := by
    intro k q hq
    have hkl := (List.getElem?_eq_some_iff.mp hq).1
    have h1 : (wr ++ wc)[k]? = some q := by rw [List.getElem?_append_left hkl]; exact hq
    have hl := (hP k q h1).lt
    refine ⟨hl, fun h => ?_⟩
    rcases h with ⟨j, x, hj⟩ | h
    · have h2 : (wr ++ wc)[wr.length + j]? = some (q.1, x) := by rw [List.getElem?_append_right (by omega), Nat.add_sub_cancel_left]; exact hj
      have := hD.1 _ _ _ _ h1 h2 rfl
      omega
    · omega
  refine ⟨va_P.app (fun k q hq => ?_) hP1, va_D.app hD.left (hD1.weaken (fun k q _ h => hF q.1 h)) (fun i j x y hx hy hxy => ?_)⟩
  · obtain ⟨g1, g2⟩ := apart k q hq
    exact (hP.left k q hq).kept (hk q.1 g1 g2)
  · exact (apart i x hx).2 (by rw [hxy]; exact hD1.2 j y hy)
theorem cw_al0 (X : cX p s m args meth c a) {h0 : Nat} (hd : decode (mB a) pc = .ok (.aload_n 0, 1)) (hl : ls[0]? = some (.val (.ref h0))) (kk : cW p l e R s m args below meth c QW A0 D ls cells slots (pc + 1) (.ref h0 :: st) ws) : cW p l e R s m args below meth c QW A0 D ls cells slots pc st ws :=
  fun H locs hP hD hS => lv_aload_n X.1.1 X.1.2.1 hd rfl hl (kk H locs hP hD hS)
theorem cw_bi (X : cX p s m args meth c a) {k : Int} {v : Int32} (hd : decode (mB a) pc = .ok (.bipush k, 2)) (hv : (Int8.ofInt k).toInt32 = v) (kk : cW p l e R s m args below meth c QW A0 D ls cells slots (pc + 2) (.int v :: st) ws) : cW p l e R s m args below meth c QW A0 D ls cells slots pc st ws :=
  fun H locs hP hD hS => lv_bipush X.1.1 X.1.2.1 hd hv (kk H locs hP hD hS)
theorem cw_si (X : cX p s m args meth c a) {k : Int} {v : Int32} (hd : decode (mB a) pc = .ok (.sipush k, 3)) (hv : (Int16.ofInt k).toInt32 = v) (kk : cW p l e R s m args below meth c QW A0 D ls cells slots (pc + 3) (.int v :: st) ws) : cW p l e R s m args below meth c QW A0 D ls cells slots pc st ws :=
  fun H locs hP hD hS => lv_sipush X.1.1 X.1.2.1 hd hv (kk H locs hP hD hS)
theorem cw_ic (X : cX p s m args meth c a) {k : Int} {v : Int32} (hd : decode (mB a) pc = .ok (.iconst k, 1)) (hv : Int32.ofInt k = v) (kk : cW p l e R s m args below meth c QW A0 D ls cells slots (pc + 1) (.int v :: st) ws) : cW p l e R s m args below meth c QW A0 D ls cells slots pc st ws :=
  fun H locs hP hD hS => lv_iconst X.1.1 X.1.2.1 hd hv (kk H locs hP hD hS)
theorem cw_dup (X : cX p s m args meth c a) {q : Nat} (hd : decode (mB a) pc = .ok (.dup, 1)) (kk : cW p l e R s m args below meth c QW A0 D ls cells slots (pc + 1) (.ref q :: .ref q :: st) ws) : cW p l e R s m args below meth c QW A0 D ls cells slots pc (.ref q :: st) ws :=
  fun H locs hP hD hS => lv_dup X.1.1 X.1.2.1 hd rfl (kk H locs hP hD hS)
theorem cw_obj (X : cX p s m args meth c a) {q k w : Nat} (hd : decode (mB a) pc = .ok (.invokespecial k, 3)) (hk : lk w (.methodLink (mY a).cls k objectInit) = true) (hls : ls.size = mL a) (hfr : 1 ≤ R.frames) (hlo : (st.map fun v => v.category).sum + 12 ≤ R.locals) (kk : cW p l e R s m args below meth c QW A0 D ls cells slots (pc + 3) st ws) : cW p l e R s m args below meth c QW A0 D ls cells slots pc (.ref q :: st) ws := by
  intro H locs hP hD hS
  obtain ⟨⟨hx, hb, hml, hown, hts⟩, _⟩ := X
  exact W.objInit hx hb hown (hts _ (lk_in hk)) (hts (.instanceMethod objectInit) (gd (by decide +kernel) rfl)) (hts (.code objectInit ⟨#[0xb1]⟩ 1 none) (gd (by decide +kernel) rfl)) rfl (by rw [hml]; exact hls) rfl hd hfr (by show 2 * 0 + _ + 12 ≤ _; omega) (kk H locs hP hD hS)
theorem cw_newI (X : cX p s m args meth c a) (hK : va_K D vwCl (aT cI cC cG) s) (hA : ∀ q, s.heap.size ≤ q → A0 q) {n : Int32} {N : Nat} (hd : decode (mB a) pc = .ok (.newarray .int, 2)) (hn : ¬ n < 0) (hN : n.toNatClampNeg = N) (hN2 : N ≤ 100000) (hc : cells + 1 ≤ R.cells) (hs : slots + N ≤ R.slots) (kk : ∀ q, cW p l e R s m args below meth c QW A0 D ls (cells + 1) (slots + N) (pc + 2) (.ref q :: st) (ws ++ [(q, .inl (cI, N, .inl (fun _ => 0)))])) : cW p l e R s m args below meth c QW A0 D ls cells slots pc (.int n :: st) ws := by
  intro H locs hP hD hS
  obtain ⟨⟨hx, hb, hml, hown, hts⟩, _⟩ := X
  refine va_newa (atype := .int) (ty := .int) hx hb (hts (.arrayClass .int) (gd (by decide +kernel) rfl)) rfl hK hP hD hS hA (a0 := (N, .inl (fun _ => 0))) (fun cA => rfl) hn hN (by show N * 4 ≤ _; omega) hc hs hd (fun q cA H1 hK1 hP1 hD1 hS1 => ?_)
  have e1 : s.vm.findClass ("[" ++ (FieldType.int).toString) = some cA := (hK1.2 3 _ rfl).2
  have e2 : s.vm.findClass ("[" ++ (FieldType.int).toString) = some cI := (hK.2 0 _ rfl).2
  have e3 : cA = cI := Option.some.inj (e1.symm.trans e2)
  subst e3
  exact kk q H1 locs hP1 hD1 hS1
theorem cw_newC (X : cX p s m args meth c a) (hK : va_K D vwCl (aT cI cC cG) s) (hA : ∀ q, s.heap.size ≤ q → A0 q) {n : Int32} {N : Nat} (hd : decode (mB a) pc = .ok (.newarray .char, 2)) (hn : ¬ n < 0) (hN : n.toNatClampNeg = N) (hN2 : N ≤ 100000) (hc : cells + 1 ≤ R.cells) (hs : slots + N ≤ R.slots) (kk : ∀ q, cW p l e R s m args below meth c QW A0 D ls (cells + 1) (slots + N) (pc + 2) (.ref q :: st) (ws ++ [(q, .inl (cC, N, .inl (fun _ => 0)))])) : cW p l e R s m args below meth c QW A0 D ls cells slots pc (.int n :: st) ws := by
  intro H locs hP hD hS
  obtain ⟨⟨hx, hb, hml, hown, hts⟩, _⟩ := X
  refine va_newa (atype := .char) (ty := .char) hx hb (hts (.arrayClass .char) (gd (by decide +kernel) rfl)) rfl hK hP hD hS hA (a0 := (N, .inl (fun _ => 0))) (fun cA => rfl) hn hN (by show N * 2 ≤ _; omega) hc hs hd (fun q cA H1 hK1 hP1 hD1 hS1 => ?_)
  have e1 : s.vm.findClass ("[" ++ (FieldType.char).toString) = some cA := (hK1.2 3 _ rfl).2
  have e2 : s.vm.findClass ("[" ++ (FieldType.char).toString) = some cC := (hK.2 1 _ rfl).2
  have e3 : cA = cC := Option.some.inj (e1.symm.trans e2)
  subst e3
  exact kk q H1 locs hP1 hD1 hS1
/-- an object's fields as it is made -/
def blk (ci : Nat) : List Value := match ci with
  | 0 => [.null]
  | 1 => [.null, .int 0, .int 0]
  | 2 => [.null, .null, .null, .null, .null, .null, .int 0, .int 0, .int 0, .int 0, .int 0, .int 0, .int 0, .int 0]
  | 3 => [.null, .int 0, .int 0]
  | 4 => [.null, .null, .null, .null, .int 0, .int 0, .int 0, .int 0, .int 0]
  | 5 => [.int 0, .int 0, .int 0, .int 0, .int 0, .int 0]
  | 6 => [.null, .int 0]
  | 7 => [.null, .null, .null, .null]
  | _ => []
theorem blk_of {T : u_T} {N ci : Nat} {t0 : Nat → FieldType} (h0 : ∀ k, k < N → parseFieldDescriptor (T k).2.2.1 = some (t0 k)) (hv : ∀ k, k < N → defaultValue (t0 k) = vp_V (blk ci) k) {ty : Nat → FieldType} (hty : ∀ k, k < N → parseFieldDescriptor (T k).2.2.1 = some (ty k)) : ∀ j, j < N → defaultValue (ty j) = vp_V (blk ci) j := fun j hj => by
  have e : ty j = t0 j := Option.some.inj ((hty j hj).symm.trans (h0 j hj))
  rw [e]; exact hv j hj
theorem bv_0 : ∀ k, k < 1 → defaultValue (tyX0 k) = vp_V (blk 0) k := by decide +kernel
theorem bv_1 : ∀ k, k < 3 → defaultValue (tyX1 k) = vp_V (blk 1) k := by decide +kernel
theorem bv_2 : ∀ k, k < 14 → defaultValue (tyX2 k) = vp_V (blk 2) k := by decide +kernel
theorem bv_3 : ∀ k, k < 3 → defaultValue (tyX3 k) = vp_V (blk 3) k := by decide +kernel
theorem bv_4 : ∀ k, k < 9 → defaultValue (tyX4 k) = vp_V (blk 4) k := by decide +kernel
theorem bv_5 : ∀ k, k < 6 → defaultValue (tyX5 k) = vp_V (blk 5) k := by decide +kernel
theorem bv_6 : ∀ k, k < 2 → defaultValue (tyX6 k) = vp_V (blk 6) k := by decide +kernel
theorem bv_7 : ∀ k, k < 4 → defaultValue (tyX7 k) = vp_V (blk 7) k := by decide +kernel
theorem blk_ok {ci : Nat} {C : String} {T : u_T} {N : Nat} (hc : vwCl[ci]? = some (C, T, N)) {ty : Nat → FieldType} (hty : ∀ k, k < N → parseFieldDescriptor (T k).2.2.1 = some (ty k)) : ∀ j, j < N → defaultValue (ty j) = vp_V (blk ci) j := by
  have hb : ci < 8 := (List.getElem?_eq_some_iff.mp hc).1
  rcases (show ci = 0 ∨ ci = 1 ∨ ci = 2 ∨ ci = 3 ∨ ci = 4 ∨ ci = 5 ∨ ci = 6 ∨ ci = 7 by omega) with h | h | h | h | h | h | h | h <;> subst h <;> cases hc
  · exact blk_of tyX0_ok bv_0 hty
  · exact blk_of tyX1_ok bv_1 hty
  · exact blk_of tyX2_ok bv_2 hty
  · exact blk_of tyX3_ok bv_3 hty
  · exact blk_of tyX4_ok bv_4 hty
  · exact blk_of tyX5_ok bv_5 hty
  · exact blk_of tyX6_ok bv_6 hty
  · exact blk_of tyX7_ok bv_7 hty
theorem cw_new (X : cX p s m args meth c a) (hK : va_K D vwCl (aT cI cC cG) s) (hA : ∀ q, s.heap.size ≤ q → A0 q) {ci k w1 w2 w3 N : Nat} {C : String} {T : u_T} (hd : decode (mB a) pc = .ok (.new k, 3)) (hc : vwCl[ci]? = some (C, T, N)) (h1 : lk w1 (.classLink (mY a).cls k C) = true) (h2 : lk w2 (.instantiable C N) = true) (h3 : lk w3 (.initialized C) = true) (hce : cells + 1 ≤ R.cells) (hsl : slots + N ≤ R.slots) (kk : ∀ q, cW p l e R s m args below meth c QW A0 D ls (cells + 1) (slots + N) (pc + 3) (.ref q :: st) (ws ++ [(q, .inr (ci, blk ci))])) : cW p l e R s m args below meth c QW A0 D ls cells slots pc st ws := by
  intro H locs hP hD hS
  obtain ⟨⟨hx, hb, hml, hown, hts⟩, _⟩ := X
  have hb9 : ci < 8 := (List.getElem?_eq_some_iff.mp hc).1
  obtain ⟨ty, hty⟩ := ty_ok ci hb9
  obtain ⟨hty, hnm⟩ := hty C T N hc
  exact va_new hx hb hts (uws_in hc) ty hty hown (hts _ (lk_in h1)) (hts _ (lk_in h2)) (hts _ (lk_in h3)) hK hP hD hS hA hc (fs := blk ci) (blk_ok hc hty) hce hsl hd (fun q H1 hP1 hD1 hS1 => kk q H1 locs hP1 hD1 hS1)
theorem cw_putF (X : cX p s m args meth c a) (hK : va_K D vwCl (aT cI cC cG) s) {ci k i w N h0 : Nat} {C : String} {T : u_T} {fs : List Value} {tl : va_W} {v : Value} {r : FieldType} (hd : decode (mB a) pc = .ok (.putfield k, 3)) (hc : vwCl[ci]? = some (C, T, N)) (hi : i < N) (hw : lk w (.fieldLink (mY a).cls k C (T i).2.1 (T i).2.2.1) = true) (hC : (T i).1 = C) (hfin : (T i).2.2.2 = true) (hown : C = (mY a).cls) (hr : parseFieldDescriptor (T i).2.2.1 = some r) (hn : narrow r v = v) (hf : fits r v = true) (hlen : i < fs.length) (kk : cW p l e R s m args below meth c QW A0 D ls cells slots (pc + 3) st ((h0, .inr (ci, fs.set i v)) :: tl)) : cW p l e R s m args below meth c QW A0 D ls cells slots pc (v :: .ref h0 :: st) ((h0, .inr (ci, fs)) :: tl) := by
  intro H locs hP hD hS
  obtain ⟨⟨hx, hb, hml, hown', hts⟩, h2, h3, h4⟩ := X
  have hb9 : ci < 8 := (List.getElem?_eq_some_iff.mp hc).1
  obtain ⟨ty, hty⟩ := ty_ok ci hb9
  obtain ⟨hty, hnm⟩ := hty C T N hc
  exact va_putF hx hb hts (uws_in hc) ty hty hnm hown' hK hP hD hS 0 rfl hc i hi (hts _ (lk_in hw)) (by rw [hC]; exact fun _ h9 => h9) hfin h4 (hC.trans hown) hr hn hf hlen hd (fun H1 locs1 hP1 hD1 hS1 => kk H1 locs1 hP1 hD1 hS1)
theorem cw_ret {mc ms : Nat} {sh : va_W → Prop} (X : cX p s m args meth c a) (hd : decode (mB a) pc = .ok (.return_, 1)) (hT : mT a = none) (hc : cells ≤ mc) (hs : slots ≤ ms) (hsh : sh ws) : cW p l e R s m args below meth c (MQ below (cPost D A0 sh) args s mc ms A0) A0 D ls cells slots pc [] ws := by
  intro H locs hP hD hS
  obtain ⟨⟨hx, hb, hml, hown, hts⟩, h2, h3, h4⟩ := X
  refine W.widen hc hs ?_
  exact W.vret hx hb (h2.trans hT) (fun t ht hW => ⟨⟨ws, rfl, hsh, by rw [ht]; exact hP, hD⟩, hS.F ht⟩) hS.2.2 hd h3
theorem cw_init (X : cX p s m args meth c a) (hE : eV ad D cI cC cG A0 s s.heap) (hA : ∀ q, s.heap.size ≤ q → A0 q) {b k w q mc ms : Nat} {w0 : va_W} {sh : va_W → Prop} (hd : decode (mB a) pc = .ok (.invokespecial k, 3)) (hb : b < 190) (hi : mInit b = true) (hnp : mNp b = 0) (hst : mSt b = false) (hT : mT b = none) (hlk : lk w (.methodLink (mY a).cls k (mY b)) = true ∨ lkN w (.methodLinkNest (mY a).cls k (mY b) "ClockedGame") = true) (hM : ∀ sz, ctM l b q ad D cI cC cG w0 sz sh mc ms) (hls : ls.size = mL a) (hfr : (mR b).frames + 1 ≤ R.frames) (hlo : 8 + (mL b + 11) + (mR b).locals ≤ R.locals) (hce : cells + mc ≤ R.cells) (hsl : slots + ms ≤ R.slots) (hcat : (st.map fun v => v.category).sum ≤ 8) (kk : ∀ u, sh u → cW p l e R s m args below meth c QW A0 D ls (cells + mc) (slots + ms) (pc + 3) st (ws ++ u)) : cW p l e R s m args below meth c QW A0 D ls cells slots pc (.ref q :: st) (ws ++ w0) := by
  intro H locs hP hD hS
  obtain ⟨⟨hx, hb', hml, hown, hts⟩, h2, h3, h4⟩ := X
  obtain ⟨hK, hStt, hNs, hAO⟩ := hE
  obtain ⟨⟨o1, o2⟩, o3, o4, o5, o6, o7, o8⟩ := okM_inv hb
  rw [if_neg (by rw [hst]; simp)] at o4
  have hFc : ∀ x, va_A w0 H.size x → A0 x := by
    intro x h
    rcases h with ⟨j, y, hj⟩ | h
    · exact hD.right.2 j (x, y) hj
    · exact hA x (Nat.le_trans hS.1 h)
  have hpre : ∀ U : State, U.heap = H → s.WarmedH U.vm → va_Pc [.ref q] (cPre ad D cI cC cG w0 H.size) ([.ref q] : List Value).toArray U := by
    intro U hU hW
    refine ⟨rfl, by rw [hU], by rw [hU]; exact hP.right, hD.right.weaken (fun _ _ _ _ => trivial), va_K.moved hW.alike hK, ?_, hNs.warm hW, hAO.moved hW.alike⟩
    rw [hU]
    exact stats_narrow (stats_moved hW.alike (stats_kept hStt hS.2.1)) hFc
  have hp : PreS s H (va_Pc [.ref q] (cPre ad D cI cC cG w0 H.size)) [.ref q] := ⟨cPre.blind, hpre⟩
  have hroom : 2 * (F0 m pc ls (.ref q :: st)).monitorRoom + (st.map fun v => v.category).sum ≤ 8 := lv_room hcat
  have hnm : (mY b).name = "<init>" := by unfold mInit at hi; exact eq_of_beq hi
  have hM := hM H.size
  unfold ctM at hM
  have fin : va_Run p l e R s m args below meth c H locs cells slots mc ms (F0 m pc ls (.ref q :: st)) st (cPost D (va_A w0 H.size) sh (Value.ref q :: []).toArray) (va_A w0 H.size) → W p l e R s m args below meth c H locs cells slots QW (F0 m pc ls (.ref q :: st)) := fun hr =>
    va_callv hr hS (fun x _ h => hFc x h) hFc (fun u t H1 locs1 ht hvm hw hB hz1 hk1 hS1 => by
      obtain ⟨hP1, hD1⟩ := hB
      rw [ht] at hP1
      obtain ⟨j1, j2⟩ := w_join hP hD hk1 hFc hP1 hD1
      exact kk u hw H1 locs1 j1 j2 hS1)
  rcases hlk with hlk | hlk
  · have cw : CallB R s args (mY a).cls k (mY b) (mB b) (mL b) none (mW b) (rC b mc ms) mc ms 0 ∧ (mY b).name = "<init>" ∧ (Cond.instanceMethod (mY b)).before args s = true := by
      refine ⟨?_, hnm, hts _ (gd o4.1 rfl)⟩
      have := callB_of (R := R) (own := (mY a).cls) (index := k) (rm := rC b mc ms) (mc := mc) (ms := ms) (mNp b) hts (mW_good b hb) rfl rfl rfl (hts _ (gd o3 rfl)) (hts _ (lk_in hlk)) ⟨o5.1, o5.2, o6⟩ ⟨hfr, hlo⟩
      rw [hnp, hT] at this
      exact this
    exact fin (va_runI (As := []) ⟨hx, hb', hml, hown, hts⟩ hM cw hp rfl rfl hls rfl hroom hd ⟨hce, hsl⟩)
  · have cw : va_CN R s args (mY a).cls k (mY b) "ClockedGame" (mB b) (mL b) none (mW b) (rC b mc ms) mc ms 0 ∧ (mY b).name = "<init>" ∧ (Cond.instanceMethod (mY b)).before args s = true := by
      refine ⟨?_, hnm, hts _ (gd o4.1 rfl)⟩
      have := va_cnB (R := R) (own := (mY a).cls) (index := k) (rm := rC b mc ms) (mc := mc) (ms := ms) (mNp b) hts (mW_good b hb) rfl rfl rfl (lkN_at hlk hNs) (hts _ (gd o3 rfl)) ⟨o5.1, o5.2, o6⟩ ⟨hfr, hlo⟩
      rw [hnp, hT] at this
      exact this
    exact fin (va_runIN (As := []) ⟨hx, hb', hml, hown, hts⟩ hM cw hp rfl rfl hls rfl hroom hd ⟨hce, hsl⟩)
end CT
