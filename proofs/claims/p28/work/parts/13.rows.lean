/-! rows: the memory cell by cell -/
def sR (μ : Mem) (a : Nat) (f : Int → Int) : Mem := fun b => if b = a then f else μ b
def u1 (f : Int → Int) (i x : Int) : Int → Int := fun j => if j = i then x else f j
def cR (f g : Int → Int) (sp dp n : Int) : Int → Int := fun j => if dp ≤ j ∧ j < dp + n then f (sp + (j - dp)) else g j
theorem stM_eq (μ : Mem) (a : Nat) (i x : Int) : stM μ a i x = sR μ a (u1 (μ a) i x) := by
  funext b j
  unfold stM sR u1
  by_cases hb : b = a
  · subst hb; simp
  · simp [hb]
theorem cpM_eq (μ : Mem) (a0 a : Nat) (sp dp n : Int) : cpM μ a0 a sp dp n = sR μ a (cR (μ a0) (μ a) sp dp n) := by
  funext b j
  unfold cpM sR cR
  by_cases hb : b = a
  · subst hb; simp
  · simp [hb]
theorem sR_eq {μ : Mem} {a : Nat} {f : Int → Int} : sR μ a f a = f := by simp [sR]
theorem sR_ne {μ : Mem} {a b : Nat} {f : Int → Int} (h : b ≠ a) : sR μ a f b = μ b := by simp [sR, h]
theorem sR_sR {μ : Mem} {a : Nat} {f g : Int → Int} : sR (sR μ a f) a g = sR μ a g := by
  funext b
  unfold sR
  by_cases hb : b = a <;> simp [hb]
theorem sR_self {μ : Mem} {a : Nat} : sR μ a (μ a) = μ := by
  funext b
  unfold sR
  by_cases hb : b = a
  · subst hb; simp
  · simp [hb]
theorem sR_id {μ : Mem} {a : Nat} {v : Int → Int} (h : μ a = v) : sR μ a v = μ := by subst h; exact sR_self
theorem u1_eq {f : Int → Int} {i x : Int} : u1 f i x i = x := by simp [u1]
theorem u1_ne {f : Int → Int} {i x j : Int} (h : j ≠ i) : u1 f i x j = f j := by simp [u1, h]
theorem u1_u1 {f : Int → Int} {i x y : Int} : u1 (u1 f i x) i y = u1 f i y := by
  funext j
  unfold u1
  by_cases hb : j = i <;> simp [hb]
theorem sh_0 : shp 0 = .inl (7, [some 12, some 25, some 1, some 3]) := (rfl)
theorem sh_1 : shp 1 = .inl (3, [some 2, none, none]) := (rfl)
theorem sh_2 : shp 2 = .inr (2, 6) := (rfl)
theorem sh_3 : shp 3 = .inl (6, [some 4, none]) := (rfl)
theorem sh_4 : shp 4 = .inr (1, 100) := (rfl)
theorem sh_5 : shp 5 = .inr (3, 7) := (rfl)
theorem sh_6 : shp 6 = .inr (3, 7) := (rfl)
theorem sh_7 : shp 7 = .inr (3, 7) := (rfl)
theorem sh_8 : shp 8 = .inr (3, 7) := (rfl)
theorem sh_9 : shp 9 = .inr (3, 7) := (rfl)
theorem sh_10 : shp 10 = .inr (3, 7) := (rfl)
theorem sh_11 : shp 11 = .inr (3, 7) := (rfl)
theorem sh_st1 : shp 1001 = .inr (3, 7) := (rfl)
theorem sh_st2 : shp 1002 = .inr (3, 7) := (rfl)
def gm (b : Nat) : Prop := ∃ g, g < 8 ∧ b = 12 + 13 * g
theorem gm_shp {b : Nat} (h : gm b) : shp b = gshp b 0 ∧ shp (b + 1) = gshp b 1 ∧ shp (b + 2) = gshp b 2 ∧ shp (b + 3) = gshp b 3 ∧ shp (b + 4) = gshp b 4 ∧ shp (b + 5) = gshp b 5 ∧ shp (b + 6) = gshp b 6 ∧ shp (b + 7) = gshp b 7 ∧ shp (b + 8) = gshp b 8 ∧ shp (b + 9) = gshp b 9 ∧ shp (b + 10) = gshp b 10 ∧ shp (b + 11) = gshp b 11 ∧ shp (b + 12) = gshp b 12 := by
  obtain ⟨g, hg, rfl⟩ := h
  have key : ∀ j, j < 13 → shp (12 + 13 * g + j) = gshp (12 + 13 * g) j := by
    intro j hj
    unfold shp
    rw [if_neg (by omega), if_pos (by unfold nCell; omega)]
    have e1 : (12 + 13 * g + j - 12) % 13 = j := by omega
    rw [e1]
    congr 1
    omega
  exact ⟨key 0 (by omega), key 1 (by omega), key 2 (by omega), key 3 (by omega), key 4 (by omega), key 5 (by omega), key 6 (by omega), key 7 (by omega), key 8 (by omega), key 9 (by omega), key 10 (by omega), key 11 (by omega), key 12 (by omega)⟩
