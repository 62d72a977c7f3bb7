/-! THE ABSTRACT MACHINE: ints are whole numbers (their range is a duty), cells have numbers, the memory is a function -/
abbrev AV : Type := Int ⊕ Value
abbrev Mem : Type := Nat → Int → Int
abbrev Lc : Type := List (Option AV)
abbrev aI (x : Int) : AV := Sum.inl x
abbrev aR (k : Nat) : AV := Sum.inr (.ref k)
abbrev aN : AV := Sum.inr .null
abbrev aL (x : Int64) : AV := Sum.inr (.long x)
def i32 (x : Int) : Int32 := Int32.ofInt x
def inR (x : Int) : Prop := -2147483648 ≤ x ∧ x ≤ 2147483647
def conc (ad : Nat → Nat) (v : AV) : Value := match v with
  | .inl x => .int (i32 x)
  | .inr (.ref k) => .ref (ad k)
  | .inr v => v
def wfv (v : AV) : Prop := match v with
  | .inl x => inR x
  | .inr _ => True
def av2 (v : AV) : Bool := match v with
  | .inr (.long _) => true
  | .inr (.double _) => true
  | _ => false
def stM (μ : Mem) (a : Nat) (i x : Int) : Mem := fun b j => if b = a ∧ j = i then x else μ b j
def cpM (μ : Mem) (a0 a : Nat) (sp dp n : Int) : Mem := fun b j => if b = a ∧ dp ≤ j ∧ j < dp + n then μ a0 (sp + (j - dp)) else μ b j
def lget : Lc → Nat → Option AV
  | [], _ => none
  | v :: _, 0 => v
  | _ :: L, n + 1 => lget L n
def lset : Lc → Nat → AV → Lc
  | [], _, _ => []
  | _ :: L, 0, v => some v :: L
  | o :: L, n + 1, v => o :: lset L n v
def lclr : Lc → Nat → Lc
  | [], _ => []
  | _ :: L, 0 => none :: L
  | o :: L, n + 1 => o :: lclr L n
def lset2 (L : Lc) (i : Nat) (v : AV) : Lc := lclr (lset L i v) (i + 1)
def nlgv (o : Option AV) : Bool := match o with
  | some v => !av2 v
  | none => true
def nlg (L : Lc) (i : Nat) : Bool := match i with
  | 0 => true
  | i + 1 => nlgv (lget L i)
/-- the cells: 0 to 4 the class's own, 5 a row of two numbers that the law makes (told by 6), then eight games of thirteen cells -/
abbrev nCell : Nat := 116
abbrev Shp : Type := (Nat × List (Option Nat)) ⊕ (Nat × Nat)
def gshp (b : Nat) (j : Nat) : Shp := match j with
  | 0 => .inl (2, [some (b + 1), some (b + 2), some (b + 4), some (b + 5), some (b + 6), some (b + 11), none, none, none, none, none, none, none, none])
  | 1 => .inr (0, 7)
  | 2 => .inl (0, [some (b + 3)])
  | 3 => .inr (0, 36)
  | 4 => .inl (5, [none, none, none, none, none, none])
  | 5 => .inl (5, [none, none, none, none, none, none])
  | 6 => .inl (4, [some (b + 7), some (b + 8), some (b + 9), some (b + 10), none, none, none, none, none])
  | 7 => .inr (0, 200)
  | 8 => .inr (0, 200)
  | 9 => .inr (0, 200)
  | 10 => .inr (0, 200)
  | 11 => .inl (1, [some (b + 12), none, none])
  | _ => .inr (1, 3417)
def fshp (k : Nat) : Shp := match k with
  | 0 => .inl (7, [some 12, some 25, some 1, some 3])
  | 1 => .inl (3, [some 2, none, none])
  | 2 => .inr (2, 6)
  | 3 => .inl (6, [some 4, none])
  | 4 => .inr (1, 100)
  | _ => .inr (3, 7)
def shp (k : Nat) : Shp := if k < 12 then fshp k else if k < nCell then gshp (k - (k - 12) % 13) ((k - 12) % 13) else .inr (3, 7)
/-- the number of the game of place j in the history's row -/
abbrev gHist (j : Nat) : Nat := 38 + 13 * j
/-- the static tables -/
def stv (k : Nat) (i : Int) : Int :=
  if k = 1001 then (if i = 0 then 1 else 0)
  else if i = 0 then 100000 else if i = 1 then 1000 else if i = 2 then 1000 else if i = 3 then 50 else if i = 4 then 10000 else if i = 5 then 1 else 20
theorem i32_toInt {x : Int} (h : inR x) : (i32 x).toInt = x := Int32.toInt_ofInt_of_le h.1 (by unfold inR at h; omega)
theorem i32_of (x : Int32) : i32 x.toInt = x := Int32.ofInt_toInt x
theorem i32_add (x y : Int) : i32 x + i32 y = i32 (x + y) := (Int32.ofInt_add x y).symm
theorem i32_sub (x y : Int) : i32 x - i32 y = i32 (x - y) := (Int32.ofInt_sub x y).symm
theorem i32_mul (x y : Int) : i32 x * i32 y = i32 (x * y) := (Int32.ofInt_mul x y).symm
theorem i32_neg (x : Int) : - i32 x = i32 (-x) := (Int32.ofInt_neg x).symm
theorem i32_inj {x y : Int} (hx : inR x) (hy : inR y) : i32 x = i32 y ↔ x = y := by
  constructor
  · intro h
    rw [← i32_toInt hx, ← i32_toInt hy, h]
  · intro h
    rw [h]
theorem i32_lt {x y : Int} (hx : inR x) (hy : inR y) : i32 x < i32 y ↔ x < y := by
  rw [Int32.lt_iff_toInt_lt, i32_toInt hx, i32_toInt hy]
theorem i32_le {x y : Int} (hx : inR x) (hy : inR y) : i32 x ≤ i32 y ↔ x ≤ y := by
  rw [Int32.le_iff_toInt_le, i32_toInt hx, i32_toInt hy]
theorem i32_0 : i32 0 = 0 := rfl
theorem inR_0 : inR 0 := by unfold inR; omega
theorem i32_div {x y : Int} (hx : 0 ≤ x) (hx2 : inR x) (hy : 0 < y) (hy2 : inR y) : i32 x / i32 y = i32 (x / y) := by
  have hd : 0 ≤ x / y := Int.ediv_nonneg hx (by omega)
  have hd2 : x / y ≤ x := Int.ediv_le_self y hx
  have hr : inR (x / y) := by unfold inR at *; omega
  rw [← Int32.toInt_inj, i32_toInt hr, Int32.toInt_div, i32_toInt hx2, i32_toInt hy2, Int.tdiv_eq_ediv_of_nonneg hx]
  rw [Int.bmod_eq_of_le] <;> unfold inR at * <;> omega
theorem i32_idx {i : Int} {n : Nat} (h0 : 0 ≤ i) (hr : inR i) (h1 : i < n) : vp_in (i32 i) n := by
  rw [vp_in_iff, i32_toInt hr]
  exact ⟨h0, h1⟩
theorem i32_cl {i : Int} (hr : inR i) : (i32 i).toNatClampNeg = i.toNat := by
  rw [← Int32.toNat_toInt, i32_toInt hr]
theorem i32_nat (n : Nat) : Int32.ofNat n = i32 (n : Int) := by
  rw [i32, Int32.ofInt_eq_ofNat]
/-- the fields of an object -/
def mkF (ad : Nat → Nat) (row : Int → Int) : List (Option Nat) → Int → List Value
  | [], _ => []
  | none :: fs, i => .int (i32 (row i)) :: mkF ad row fs (i + 1)
  | some r :: fs, i => .ref (ad r) :: mkF ad row fs (i + 1)
theorem mkF_get (ad : Nat → Nat) (row : Int → Int) : ∀ (fs : List (Option Nat)) (f : Nat) (i : Int), (mkF ad row fs i)[f]? = (fs[f]?).map (fun o => match o with | none => .int (i32 (row (i + f))) | some r => .ref (ad r))
  | [], f, i => by simp [mkF]
  | none :: fs, 0, i => by simp [mkF]
  | some r :: fs, 0, i => by simp [mkF]
  | none :: fs, f + 1, i => by
    simp only [mkF, List.getElem?_cons_succ]
    rw [mkF_get ad row fs f (i + 1)]
    congr 1
    funext o
    cases o with
    | none => simp only []; congr 3; omega
    | some r => rfl
  | some r :: fs, f + 1, i => by
    simp only [mkF, List.getElem?_cons_succ]
    rw [mkF_get ad row fs f (i + 1)]
    congr 1
    funext o
    cases o with
    | none => simp only []; congr 3; omega
    | some r => rfl
theorem mkF_len (ad : Nat → Nat) (row : Int → Int) : ∀ (fs : List (Option Nat)) (i : Int), (mkF ad row fs i).length = fs.length
  | [], i => rfl
  | none :: fs, i => by simp [mkF, mkF_len ad row fs]
  | some r :: fs, i => by simp [mkF, mkF_len ad row fs]
theorem mkF_set (ad : Nat → Nat) (row row' : Int → Int) (fs : List (Option Nat)) (f : Nat) (x : Int) (hf : fs[f]? = some none) (h1 : row' f = x) (h2 : ∀ j : Int, j ≠ f → row' j = row j) : (mkF ad row fs 0).set f (.int (i32 x)) = mkF ad row' fs 0 := by
  apply List.ext_getElem?
  intro k
  by_cases hk : k = f
  · subst hk
    have hl : k < fs.length := (List.getElem?_eq_some_iff.mp hf).1
    rw [List.getElem?_set_self (by rw [mkF_len]; exact hl), mkF_get, hf]
    simp [h1]
  · rw [List.getElem?_set_ne (Ne.symm hk), mkF_get, mkF_get]
    congr 1
    funext o
    cases o with
    | none =>
      simp only []
      rw [h2 (0 + (k : Int)) (by omega)]
    | some r => rfl
def cellE (ad : Nat → Nat) (cI cC cG : ClassId) (μ : Mem) (k : Nat) : va_E := match shp k with
  | .inl (ci, fs) => .inr (ci, mkF ad (μ k) fs 0)
  | .inr (0, n) => .inl (cI, n, .inl (fun j => i32 (μ k j)))
  | .inr (1, n) => .inl (cC, n, .inl (fun j => i32 (μ k j)))
  | .inr (_, n) => .inl (cG, n, .inr (.inr (.inr (.inr (fun j => some (ad (gHist j)))))))
/-- the class's own cells -/
def clK : List Nat := [0, 1, 2, 3, 4] ++ (List.range 104).map (fun i => 12 + i)
def inC (k : Nat) : Prop := k < 5 ∨ (12 ≤ k ∧ k < 116)
def inW (k : Nat) : Prop := k < 6 ∨ (12 ≤ k ∧ k < 116)
def cpos (k : Nat) : Nat := if k < 5 then k else k - 7
theorem clK_g (i : Nat) : clK[i]? = if i < 5 then some i else if i < 109 then some (i + 7) else none := by
  unfold clK
  by_cases h : i < 5
  · rw [if_pos h, List.getElem?_append_left (by simpa using h)]
    rcases (show i = 0 ∨ i = 1 ∨ i = 2 ∨ i = 3 ∨ i = 4 by omega) with h | h | h | h | h <;> subst h <;> rfl
  · rw [if_neg h, List.getElem?_append_right (by simp; omega), List.getElem?_map]
    by_cases h2 : i < 109
    · rw [if_pos h2, List.getElem?_range (by simp; omega)]
      simp only [List.length_cons, List.length_nil, Option.map_some]
      congr 1; omega
    · rw [if_neg h2, List.getElem?_eq_none (by simp; omega)]
      rfl
theorem clK_len : clK.length = 109 := by decide +kernel
theorem clK_at {k : Nat} (hk : inC k) : clK[cpos k]? = some k := by
  unfold inC at hk
  rw [clK_g]
  unfold cpos
  by_cases h : k < 5
  · rw [if_pos h, if_pos h]
  · rw [if_neg h, if_neg (by omega), if_pos (by omega)]
    congr 1; omega
theorem clK_of {i k : Nat} (h : clK[i]? = some k) : inC k ∧ i = cpos k := by
  rw [clK_g] at h
  unfold inC cpos
  split at h
  · cases h
    rename_i h5
    rw [if_pos h5]
    exact ⟨Or.inl h5, rfl⟩
  · split at h
    · cases h
      rw [if_neg (by omega)]
      omega
    · cases h
def clW (ad : Nat → Nat) (cI cC cG : ClassId) (μ : Mem) : va_W := clK.map (fun k => (ad k, cellE ad cI cC cG μ k))
/-- the pieces' row that the law's 'agrees' makes: cell 5, there if cell 6 says so -/
def pcW (ad : Nat → Nat) (cI : ClassId) (μ : Mem) : va_W := if μ 6 0 = 1 then [(ad 5, .inl (cI, 2, .inl (fun j => i32 (μ 5 j))))] else []
def ww (ad : Nat → Nat) (cI cC cG : ClassId) (μ : Mem) : va_W := clW ad cI cC cG μ ++ pcW ad cI μ
theorem clW_len {ad : Nat → Nat} {cI cC cG : ClassId} {μ : Mem} : (clW ad cI cC cG μ).length = 109 := by
  unfold clW
  rw [List.length_map, clK_len]
theorem cpos_lt {k : Nat} (hk : inC k) : cpos k < 109 := by
  unfold inC at hk
  unfold cpos
  split <;> omega
theorem clW_get {ad : Nat → Nat} {cI cC cG : ClassId} {μ : Mem} {k : Nat} (hk : inC k) : (clW ad cI cC cG μ)[cpos k]? = some (ad k, cellE ad cI cC cG μ k) := by
  unfold clW
  rw [List.getElem?_map, clK_at hk]
  rfl
theorem ww_get {ad : Nat → Nat} {cI cC cG : ClassId} {μ : Mem} {k : Nat} (hk : inC k) : (ww ad cI cC cG μ)[cpos k]? = some (ad k, cellE ad cI cC cG μ k) := by
  unfold ww
  rw [List.getElem?_append_left (by rw [clW_len]; exact cpos_lt hk)]
  exact clW_get hk
/-- what stands at a place -/
theorem ww_at {ad : Nat → Nat} {cI cC cG : ClassId} {μ : Mem} {i : Nat} {q : Nat × va_E} (h : (ww ad cI cC cG μ)[i]? = some q) : ∃ k, inW k ∧ q.1 = ad k ∧ i = (if k = 5 then 109 else cpos k) := by
  unfold ww at h
  by_cases hi : i < 109
  · rw [List.getElem?_append_left (by rw [clW_len]; exact hi)] at h
    unfold clW at h
    rw [List.getElem?_map] at h
    cases hk : clK[i]? with
    | none => rw [hk] at h; cases h
    | some k =>
      rw [hk] at h
      cases h
      obtain ⟨h1, h2⟩ := clK_of hk
      unfold inC at h1
      refine ⟨k, by unfold inW; omega, rfl, ?_⟩
      rw [if_neg (by omega)]; exact h2
  · rw [List.getElem?_append_right (by rw [clW_len]; omega), clW_len] at h
    unfold pcW at h
    split at h
    · have hi2 : i - 109 < 1 := (List.getElem?_eq_some_iff.mp h).1
      have hi3 : i = 109 := by omega
      subst hi3
      cases h
      exact ⟨5, by unfold inW; omega, rfl, rfl⟩
    · cases h
theorem ww_set {ad : Nat → Nat} {cI cC cG : ClassId} {μ μ' : Mem} {k : Nat} {x : va_E} (hk : inC k) (hx : x = cellE ad cI cC cG μ' k) (h : ∀ j, j ≠ k → μ' j = μ j) : (ww ad cI cC cG μ).set (cpos k) (ad k, x) = ww ad cI cC cG μ' := by
  subst hx
  have h5 : μ' 5 = μ 5 := h 5 (by unfold inC at hk; omega)
  have h6 : μ' 6 = μ 6 := h 6 (by unfold inC at hk; omega)
  have hp : pcW ad cI μ' = pcW ad cI μ := by unfold pcW; rw [h5, h6]
  unfold ww
  rw [List.set_append_left _ _ (by rw [clW_len]; exact cpos_lt hk), hp]
  congr 1
  apply List.ext_getElem?
  intro j
  by_cases hjk : j = cpos k
  · subst hjk
    rw [List.getElem?_set_self (by rw [clW_len]; exact cpos_lt hk), clW_get hk]
  · rw [List.getElem?_set_ne (Ne.symm hjk)]
    unfold clW
    rw [List.getElem?_map, List.getElem?_map]
    cases hq : clK[j]? with
    | none => rfl
    | some q =>
      obtain ⟨h1, h2⟩ := clK_of hq
      have hqk : q ≠ k := fun z => hjk (by rw [h2, z])
      have : cellE ad cI cC cG μ q = cellE ad cI cC cG μ' q := by
        unfold cellE
        rw [h q hqk]
      simp only [Option.map_some, this]
theorem shp_out {k : Nat} (h : ¬ inC k) : shp k = .inr (3, 7) := by
  unfold inC at h
  unfold shp
  split
  · rcases (show k = 5 ∨ k = 6 ∨ k = 7 ∨ k = 8 ∨ k = 9 ∨ k = 10 ∨ k = 11 by omega) with h | h | h | h | h | h | h <;> subst h <;> rfl
  · rw [if_neg (by unfold nCell; omega)]
def aT (cI cC cG : ClassId) : List (ClassId × FieldType) := [(cI, .int), (cC, .char), (cG, .object "ClockedGame$Game")]
def aA (ad : Nat → Nat) : Nat → Prop := fun q => ∃ k, inW k ∧ q = ad k
def aInj (ad : Nat → Nat) : Prop := ∀ i j, inW i → inW j → ad i = ad j → i = j
def aRng (μ : Mem) : Prop := ∀ k i, inR (μ k i) ∧ (∀ n, shp k = .inr (1, n) → 0 ≤ μ k i ∧ μ k i ≤ 65535)
def aStat (ad : Nat → Nat) (A : Nat → Prop) (U : State) (H : Heap) : Prop :=
  (va_Z "ClockedGame" "LEAST" "[I" (.ref (ad 1001)) A U H ∧ va_Z "ClockedGame" "GREATEST" "[I" (.ref (ad 1002)) A U H) ∧
  va_T .int (ad 1001) 7 (fun j => .int (i32 (stv 1001 j))) A U H ∧ va_T .int (ad 1002) 7 (fun j => .int (i32 (stv 1002 j))) A U H
def aNst (U : State) : Prop := ∀ w ∈ lw_tbl, isNest w = true → va_Nw w U
/-- the world, at a method's start -/
def aPre (ad : Nat → Nat) (D : va_G) (cI cC cG : ClassId) (μ : Mem) (U : State) : Prop :=
  va_P D vwCl (ww ad cI cC cG μ) U.heap ∧ va_K D vwCl (aT cI cC cG) U ∧ aStat ad (aA ad) U U.heap ∧ aNst U ∧ aInj ad ∧ aRng μ
def aQ (ad : Nat → Nat) (D : va_G) (cI cC cG : ClassId) (Q : Option AV → Mem → Prop) : Array Value → State → Outcome → State → Prop := fun _ st oc t =>
  (∃ (r : Option AV) (μ : Mem), oc = .returned (r.map (conc ad)) ∧ Q r μ ∧ (∀ v, r = some v → wfv v) ∧ va_P D vwCl (ww ad cI cC cG μ) t.heap ∧ aRng μ) ∧ va_F (aA ad) st t
/-- method a, called with these values over this memory, comes back with Q -/
def wpM (a : Nat) (as : List AV) (μ : Mem) (Q : Option AV → Mem → Prop) : Prop :=
  (∀ v ∈ as, wfv v) → ∀ (l : Launch) (ad : Nat → Nat) (D : va_G) (cI cC cG : ClassId), Met l (mY a) (mW a) (mR a) (va_Pc (as.map (conc ad)) (aPre ad D cI cC cG μ)) (aQ ad D cI cC cG Q) 0 0 (aA ad)
theorem aStat.moved {ad : Nat → Nat} {A : Nat → Prop} {u U : State} {H : Heap} (hvm : u.vm.Alike U.vm) (h : aStat ad A u H) : aStat ad A U H :=
  ⟨⟨h.1.1.moved hvm, h.1.2.moved hvm⟩, h.2.1.moved hvm, h.2.2.moved hvm⟩
theorem aStat.kept {ad : Nat → Nat} {A : Nat → Prop} {U : State} {H H1 : Heap} (h : aStat ad A U H) (hq : ∀ a : Nat, a < H.size → ¬ A a → H1[a]? = H[a]?) : aStat ad A U H1 :=
  ⟨⟨h.1.1.kept hq, h.1.2.kept hq⟩, h.2.1.kept hq, h.2.2.kept hq⟩
theorem aStat.narrow {ad : Nat → Nat} {A B : Nat → Prop} {U : State} {H : Heap} (h : aStat ad A U H) (hAB : ∀ q, B q → A q) : aStat ad B U H :=
  ⟨⟨h.1.1.narrow hAB, h.1.2.narrow hAB⟩, h.2.1.narrow hAB, h.2.2.narrow hAB⟩
theorem aNst.same {u U : State} (h : u.vm = U.vm) (hn : aNst u) : aNst U := by
  intro w hw hi
  have h1 := hn w hw hi
  cases w <;> first | exact h1.same rfl h | (simp [isNest] at hi)
theorem aNst.warm {s U : State} (hW : s.WarmedH U.vm) (hn : aNst s) : aNst U := by
  intro w hw hi
  have h1 := hn w hw hi
  cases w <;> first | exact h1.warmF hW | exact h1.warmM hW | (simp [isNest] at hi)
theorem aPre.blind {ad : Nat → Nat} {D : va_G} {cI cC cG : ClassId} {μ : Mem} {as : List Value} : FrameBlind (va_Pc as (aPre ad D cI cC cG μ)) := by
  intro a U g mk h
  obtain ⟨h0, h1, h2, h3, h4, h5, h6⟩ := h
  exact ⟨h0, h1, va_K.moved (u := U) (U := U.calling g mk a) (Vm.Alike.refl U.vm) h2, aStat.moved (u := U) (U := U.calling g mk a) (Vm.Alike.refl U.vm) h3, aNst.same (u := U) (U := U.calling g mk a) rfl h4, h5, h6⟩
theorem aD {ad : Nat → Nat} {cI cC cG : ClassId} {μ : Mem} {A : Nat → Prop} (hi : aInj ad) (hA : ∀ k, inW k → A (ad k)) : va_D A (ww ad cI cC cG μ) := by
  refine ⟨fun i j p q h1 h2 h => ?_, fun k q h => ?_⟩
  · obtain ⟨a, a1, a2, a3⟩ := ww_at h1
    obtain ⟨b, b1, b2, b3⟩ := ww_at h2
    have : a = b := hi a b a1 b1 (by rw [← a2, ← b2, h])
    rw [a3, b3, this]
  · obtain ⟨a, a1, a2, a3⟩ := ww_at h
    rw [a2]
    exact hA a a1
