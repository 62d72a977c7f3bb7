/-! THE STEP IS SOUND: what stepI says holds of the machine -/
def iln (i : Instr) : Nat := match i with
  | .bipush _ | .ldc _ | .iload _ | .aload _ | .lload _ | .istore _ | .astore _ | .lstore _ => 2
  | .sipush _ | .ldc2_w _ | .iinc _ _ | .goto _ | .ifCond _ _ | .if_icmp _ _ | .ifnull _ | .getfield _ | .putfield _ | .getstatic _ | .invokestatic _ | .invokevirtual _ => 3
  | _ => 1
def lk (w : Nat) (c : Cond) : Bool := decide (lw_tbl[w]? = some c) && goodWord c
def lkN (w : Nat) (c : Cond) : Bool := decide (lw_tbl[w]? = some c) && isNest c
theorem lk_in {w : Nat} {c : Cond} (h : lk w c = true) : c ∈ lw_g := by
  simp only [lk, Bool.and_eq_true, decide_eq_true_eq] at h
  exact List.mem_filter.mpr ⟨List.mem_of_getElem? h.1, h.2⟩
theorem lkN_at {w : Nat} {c : Cond} {s : State} (h : lkN w c = true) (hn : aNst s) : va_Nw c s := by
  simp only [lkN, Bool.and_eq_true, decide_eq_true_eq] at h
  exact hn c (List.mem_of_getElem? h.1) h.2
def inRb (x : Int) : Bool := decide (-2147483648 ≤ x) && decide (x ≤ 2147483647)
theorem inRb_of {x : Int} (h : inRb x = true) : inR x := by
  simp only [inRb, Bool.and_eq_true, decide_eq_true_eq] at h
  exact h
def okF (own : String) (idx a b w : Nat) (z : Int) : Bool := match vwCl[b]? with
  | some (C, T, N) => decide (a < N) && decide (z = a) && decide ((T a).1 = C) && (lk w (.fieldLink own idx C (T a).2.1 (T a).2.2.1) || lkN w (.fieldLinkNest own idx C (T a).2.1 (T a).2.2.1 "ClockedGame"))
  | none => false
def okP (a b : Nat) : Bool := match vwCl[b]? with
  | some (_, T, _) => decide ((T a).2.2.2 = false) && decide ((T a).2.2.1 = "I")
  | none => false
def okC (own : String) (idx a b w fr lo : Nat) : Bool :=
  decide (a < 190) && decide ((mR a).frames + 1 ≤ fr) && decide (8 + (mL a + 11) + (mR a).locals ≤ lo) && (lk w (.methodLink own idx (mY a)) || lkN w (.methodLinkNest own idx (mY a) "ClockedGame")) && decide (b = mNp a + (if mSt a then 0 else 1))
def sname (a : Nat) : String := if a = 1001 then "LEAST" else "GREATEST"
def okB (own : String) (cc : ByteArray) (ret : Option FieldType) (nL fr lo pc : Nat) (i : Instr) (n a b w : Nat) (z : Int) : Bool := match i with
  | .iconst k => decide (z = k) && inRb z
  | .bipush k => decide ((Int8.ofInt k).toInt32 = i32 z) && inRb z
  | .sipush k => decide ((Int16.ofInt k).toInt32 = i32 z) && inRb z
  | .ldc k => lk w (.constant own k (i32 z)) && inRb z
  | .ldc2_w k => lk w (.constantLong own k (Int64.ofInt z))
  | .iload k => decide (k = a)
  | .aload k => decide (k = a)
  | .lload k => decide (k = a)
  | .iload_n k => decide ((k : Nat) = a)
  | .aload_n k => decide ((k : Nat) = a)
  | .lload_n k => decide ((k : Nat) = a)
  | .istore k => decide (k = a) && decide (a < nL)
  | .astore k => decide (k = a) && decide (a < nL)
  | .lstore k => decide (k = a) && decide (a + 1 < nL)
  | .istore_n k => decide ((k : Nat) = a) && decide (a < nL)
  | .astore_n k => decide ((k : Nat) = a) && decide (a < nL)
  | .lstore_n k => decide ((k : Nat) = a) && decide (a + 1 < nL)
  | .iinc k q => decide (k = a) && decide (z = q) && decide (a < nL)
  | .goto off => decide ((pc : Int) + off = (a : Int))
  | .ifCond _ off => decide ((pc : Int) + off = (a : Int))
  | .if_icmp _ off => decide ((pc : Int) + off = (a : Int))
  | .ifnull off => decide ((pc : Int) + off = (a : Int))
  | .tableswitch d lo hi offs => decide (a = pc) && decide (0 ≤ (pc : Int) + d) && offs.all (fun o => decide (0 ≤ (pc : Int) + o)) && decide (hi < lo + offs.size)
  | .getfield k => okF own k a b w z
  | .putfield k => okF own k a b w z && okP a b
  | .getstatic k => (decide (a = 1001) || decide (a = 1002)) && lkN w (.fieldLinkNest own k "ClockedGame" (sname a) "[I" "ClockedGame")
  | .invokestatic k =>
    if a = 1000 then lk w (.methodLink own k Lib.Math.max.name) && decide (1 ≤ fr) && decide (21 ≤ lo)
    else if a = 1001 then lk w (.methodLink own k Lib.Math.min.name) && decide (1 ≤ fr) && decide (21 ≤ lo)
    else if a = 1002 then lk w (.methodLink own k arraycopyName) && decide (1 ≤ fr) && decide (26 ≤ lo)
    else okC own k a b w fr lo && mSt a
  | .invokevirtual k => okC own k a b w fr lo && !mSt a && !mInit a && decide (z = mCl a)
  | .ireturn => (decide (b = 0) && decide (ret = some .int)) || (decide (b = 1) && decide (ret = some .boolean)) || (decide (b = 2) && decide (ret = some .char))
  | .lreturn => decide (ret = some .long)
  | .areturn => decide (ret = some (.object "ClockedGame$Game")) || decide (ret = some (.object "ClockedGame$Side"))
  | .return_ => decide (ret = none)
  | _ => true
def okE (own : String) (cc : ByteArray) (ret : Option FieldType) (nL fr lo pc : Nat) (x : Instr × E5) : Bool := match x with
  | (i, n, a, b, w, z) => (match i with
    | .tableswitch _ _ _ _ => decide (decode cc pc = .ok (i, w))
    | _ => decide (decode cc pc = .ok (i, iln i)) && decide (n = pc + iln i)) && okB own cc ret nL fr lo pc i n a b w z
/-- the locals -/
def aLoc (ad : Nat → Nat) (ls : Array Slot) (nL : Nat) (L : Lc) : Prop := ls.size = nL ∧ lv_wf ls ∧ ∀ i v, lget L i = some v → ls[i]? = some (.val (conc ad v)) ∧ wfv v
def canon (ad : Nat → Nat) (L : Lc) : List (Nat × Value) := (List.range L.length).filterMap fun i => (lget L i).map fun v => (i, conc ad v)
theorem lget_lt : ∀ {L : Lc} {i : Nat} {v : AV}, lget L i = some v → i < L.length
  | [], i, v, h => by simp [lget] at h
  | o :: L, 0, v, h => by simp
  | o :: L, i + 1, v, h => by
    simp only [lget] at h
    have := lget_lt h
    simp only [List.length_cons]; omega
theorem canon_in {ad : Nat → Nat} {L : Lc} {q : Nat × Value} : q ∈ canon ad L ↔ ∃ v, lget L q.1 = some v ∧ q.2 = conc ad v := by
  unfold canon
  rw [List.mem_filterMap]
  constructor
  · rintro ⟨i, hi, h⟩
    cases hg : lget L i with
    | none => rw [hg] at h; cases h
    | some v => rw [hg] at h; cases h; exact ⟨v, hg, rfl⟩
  · rintro ⟨v, h1, h2⟩
    refine ⟨q.1, List.mem_range.mpr (lget_lt h1), ?_⟩
    rw [h1]
    show some (q.1, conc ad v) = some q
    rw [← h2]
theorem aLoc.has {ad : Nat → Nat} {ls : Array Slot} {nL : Nat} {L : Lc} (h : aLoc ad ls nL L) : lv_has ls nL (canon ad L) := by
  refine ⟨h.1, h.2.1, fun q hq => ?_⟩
  obtain ⟨v, h1, h2⟩ := canon_in.mp hq
  rw [h2]
  exact (h.2.2 q.1 v h1).1
theorem lget_lset : ∀ {L : Lc} {i j : Nat} {v : AV}, lget (lset L i v) j = if j = i then (if i < L.length then some v else none) else lget L j
  | [], i, j, v => by simp [lset, lget]
  | o :: L, 0, 0, v => by simp [lset, lget]
  | o :: L, 0, j + 1, v => by simp [lset, lget]
  | o :: L, i + 1, 0, v => by simp [lset, lget]
  | o :: L, i + 1, j + 1, v => by
    simp only [lset, lget, lget_lset, List.length_cons]
    by_cases h : j = i
    · subst h; simp
    · rw [if_neg h, if_neg (by omega)]
theorem lget_lclr : ∀ {L : Lc} {i j : Nat}, lget (lclr L i) j = if j = i then none else lget L j
  | [], i, j => by simp [lclr, lget]
  | o :: L, 0, 0 => by simp [lclr, lget]
  | o :: L, 0, j + 1 => by simp [lclr, lget]
  | o :: L, i + 1, 0 => by simp [lclr, lget]
  | o :: L, i + 1, j + 1 => by
    simp only [lclr, lget, lget_lclr]
    by_cases h : j = i
    · subst h; simp
    · rw [if_neg h, if_neg (by omega)]
theorem nlg_at {L : Lc} {i j : Nat} {v : AV} (h : nlg L i = true) (hj : lget L j = some v) (hji : j + 1 = i) : av2 v = false := by
  subst hji
  simp only [nlg, hj, nlgv] at h
  simpa using h
theorem conc_cat {ad : Nat → Nat} {v : AV} : (conc ad v).category = if av2 v then 2 else 1 := by
  cases v with
  | inl x => rfl
  | inr v => cases v <;> rfl
theorem aLoc.set {ad : Nat → Nat} {ls ls' : Array Slot} {nL i : Nat} {L : Lc} {v : AV} {x : Value} (h : aLoc ad ls nL L) (hn : nlg L i = true) (hw : wfv v) (hx : x = conc ad v)
    (h' : lv_has ls' nL ((i, x) :: (canon ad L).filter (fun q => !(q.1 == i) && !(q.1 + 1 == i && q.2.category == 2)))) : aLoc ad ls' nL (lset L i v) := by
  refine ⟨h'.1, h'.2.1, fun j w hj => ?_⟩
  rw [lget_lset] at hj
  by_cases hji : j = i
  · rw [if_pos hji] at hj
    by_cases hl : i < L.length
    · rw [if_pos hl] at hj
      cases hj
      have := h'.2.2 (i, x) List.mem_cons_self
      rw [hji, ← hx]
      exact ⟨this, hw⟩
    · rw [if_neg hl] at hj
      cases hj
  · rw [if_neg hji] at hj
    refine ⟨?_, (h.2.2 j w hj).2⟩
    refine h'.2.2 (j, conc ad w) (List.mem_cons_of_mem _ (List.mem_filter.mpr ⟨canon_in.mpr ⟨w, hj, rfl⟩, ?_⟩))
    simp only [Bool.and_eq_true, Bool.not_eq_true', beq_eq_false_iff_ne, ne_eq, Bool.and_eq_false_iff]
    refine ⟨hji, ?_⟩
    by_cases hq : j + 1 = i
    · right
      have := nlg_at hn hj hq
      rw [conc_cat, this]
      simp
    · left
      exact hq
theorem aLoc.set2 {ad : Nat → Nat} {ls ls' : Array Slot} {nL i : Nat} {L : Lc} {v : AV} {x : Value} (h : aLoc ad ls nL L) (hn : nlg L i = true) (hw : wfv v) (hx : x = conc ad v)
    (h' : lv_has ls' nL ((i, x) :: (canon ad L).filter (fun q => !(q.1 == i) && (!(q.1 == i + 1) && !(q.1 + 1 == i && q.2.category == 2))))) : aLoc ad ls' nL (lset2 L i v) := by
  refine ⟨h'.1, h'.2.1, fun j w hj => ?_⟩
  unfold lset2 at hj
  rw [lget_lclr] at hj
  by_cases hj1 : j = i + 1
  · rw [if_pos hj1] at hj; cases hj
  · rw [if_neg hj1, lget_lset] at hj
    by_cases hji : j = i
    · rw [if_pos hji] at hj
      by_cases hl : i < L.length
      · rw [if_pos hl] at hj
        cases hj
        have := h'.2.2 (i, x) List.mem_cons_self
        rw [hji, ← hx]
        exact ⟨this, hw⟩
      · rw [if_neg hl] at hj
        cases hj
    · rw [if_neg hji] at hj
      refine ⟨?_, (h.2.2 j w hj).2⟩
      refine h'.2.2 (j, conc ad w) (List.mem_cons_of_mem _ (List.mem_filter.mpr ⟨canon_in.mpr ⟨w, hj, rfl⟩, ?_⟩))
      simp only [Bool.and_eq_true, Bool.not_eq_true', beq_eq_false_iff_ne, ne_eq, Bool.and_eq_false_iff]
      refine ⟨hji, hj1, ?_⟩
      by_cases hq : j + 1 = i
      · right
        have := nlg_at hn hj hq
        rw [conc_cat, this]
        simp
      · left
        exact hq
theorem aLoc.getI {ad : Nat → Nat} {ls : Array Slot} {nL i : Nat} {L : Lc} {x : Int} (h : aLoc ad ls nL L) (hg : lget L i = some (.inl x)) : ls[i]? = some (.val (.int (i32 x))) ∧ inR x := h.2.2 i _ hg
theorem stM_rng {μ : Mem} {k : Nat} {i x : Int} (h : aRng μ) (hx : inR x) (hc : ∀ n, shp k = .inr (1, n) → 0 ≤ x ∧ x ≤ 65535) : aRng (stM μ k i x) := by
  intro b j
  unfold stM
  by_cases hb : b = k ∧ j = i
  · rw [if_pos hb]
    exact ⟨hx, by rw [hb.1]; exact hc⟩
  · rw [if_neg hb]
    exact h b j
theorem stM_ne {μ : Mem} {k b : Nat} {i x : Int} (h : b ≠ k) : stM μ k i x b = μ b := by
  funext j
  unfold stM
  rw [if_neg (fun z => h z.1)]
theorem cpM_ne {μ : Mem} {a0 k b : Nat} {sp dp n : Int} (h : b ≠ k) : cpM μ a0 k sp dp n b = μ b := by
  funext j
  unfold cpM
  rw [if_neg (fun z => h z.1)]
def aX (p : Program) (s : State) (m : MethodId) (args : Array Value) (meth : Method) (c : Code) (R : Room) (cells slots : Nat) (cc : ByteArray) (own : String) (nL : Nat) (ad : Nat → Nat) (D : va_G) (cI cC cG : ClassId) (A0 : Nat → Prop) : Prop :=
  (p.tables.exec = Jvm.exec ∧ c.code = cc ∧ c.maxLocals = nL ∧ s.vm.findClass own = some m.cls ∧ (∀ w ∈ lw_g, w.before args s = true)) ∧ va_K D vwCl (aT cI cC cG) s ∧ aStat ad A0 s s.heap ∧ aNst s ∧ (∀ k, inW k → A0 (ad k)) ∧ aInj ad ∧ cells ≤ R.cells ∧ slots ≤ R.slots
def aG (p : Program) (l : Launch) (e : Env) (R : Room) (s : State) (m : MethodId) (args : Array Value) (below : List Frame) (meth : Method) (c : Code) (cells slots : Nat) (QW : State → Prop) (nL : Nat) (ad : Nat → Nat) (D : va_G) (cI cC cG : ClassId) (A0 : Nat → Prop) (pc : Nat) (L : Lc) (st : List AV) (μ : Mem) : Prop :=
  ∀ (H : Heap) (locs : List Loc) (ls : Array Slot), va_P D vwCl (ww ad cI cC cG μ) H → va_S A0 s.heap H locs → aLoc ad ls nL L → aRng μ → (∀ v ∈ st, wfv v) → W p l e R s m args below meth c H locs cells slots QW (F0 m pc ls (st.map (conc ad)))
theorem i32_char {x : Int} (h0 : 0 ≤ x) (h1 : x ≤ 65535) : ((i32 x).toUInt32 % 65536).toInt32 = i32 x := by
  obtain ⟨k, rfl⟩ : ∃ k : Nat, x = k := ⟨x.toNat, by omega⟩
  rw [← i32_nat]
  have h2 : k < 65536 := by omega
  have := pk_char (nI k)
  have e : nI k = Int32.ofNat k := rfl
  rw [e] at this
  rw [this]
  have h3 : (Int32.ofNat k).toBitVec.toNat = k := pk_tn (n := k) (by omega)
  rw [h3, Nat.mod_eq_of_lt h2]
  rfl
theorem i32_long {x : Int} (h : inR x) : (i32 x).toInt64 = Int64.ofInt x := by
  rw [← Int64.toInt_inj, Int32.toInt_toInt64, i32_toInt h, Int64.toInt_ofInt_of_le (by unfold inR at h; omega) (by unfold inR at h; omega)]
