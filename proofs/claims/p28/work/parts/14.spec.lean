/-! THE SPEC: a game as the reference keeps it, a row of numbers; what each act makes of it -/
abbrev Rw : Type := Int → Int
abbrev PQ : Type := Option AV → Mem → Prop
def hs (p w : Int) : Int := 56 + 8 * p + w
def wrF (v : Rw) (k a b c t : Int) : Rw := u1 (u1 (u1 (u1 (u1 (u1 v (1090 + 5 * v 11) k) (1090 + 5 * v 11 + 1) a) (1090 + 5 * v 11 + 2) b) (1090 + 5 * v 11 + 3) c) (1090 + 5 * v 11 + 4) t) 11 (v 11 + 1)
def clF (v : Rw) : Rw := u1 (u1 v 13 0) 14 (-200009)
def enF (v : Rw) (st re : Int) : Rw := wrF (clF (u1 (u1 v 7 st) 8 re)) 6 re 0 0 0
def loF (v : Rw) (p re : Int) : Rw := enF v (if p = 0 then 3 else 2) re
def flF (v : Rw) : Rw := if v 7 = 0 ∧ v 5 = 0 then (if v (hs (v 9) 0) < 0 then loF v (v 9) 4 else if v (hs (1 - v 9) 0) < 0 then loF v (1 - v 9) 4 else v) else v
def tk1 (v : Rw) : Rw := u1 v 12 (v 12 + 1)
def tk2 (v : Rw) : Rw := u1 (tk1 v) (hs (v 9) 2) (v (hs (v 9) 2) + 1)
def tk3 (v : Rw) : Rw := if v 2 < v 12 + 1 then u1 (u1 (tk2 v) (hs (v 9) 1) (v (hs (v 9) 1) + 1)) (hs (v 9) 0) (v (hs (v 9) 0) - 1) else tk2 v
def tkF (v : Rw) : Rw := flF (tk3 v)
def paF (v : Rw) : Nat → Rw
  | 0 => v
  | n + 1 => if v 7 = 0 then paF (tkF v) n else v
def why (v : Rw) (f t : Int) : Int :=
  if v (20 + f) ≠ v 9 + 1 then (if v (20 + f) = 0 then 1 else 2)
  else if t / 6 - f / 6 ≠ (if v 9 = 0 then 1 else -1) ∨ t % 6 - f % 6 < -1 ∨ 1 < t % 6 - f % 6 then 3
  else if v (20 + t) = v 9 + 1 then 4 else if t % 6 - f % 6 = 0 ∧ v (20 + t) ≠ 0 then 5 else 0
def pcC (v : Rw) (p : Int) : Nat → Int
  | 0 => 0
  | n + 1 => pcC v p n + (if v (20 + n) = p + 1 then 1 else 0)
def pcs (v : Rw) (p : Int) : Int := pcC v p 36
def pmC (v : Rw) : Nat → Int
  | 0 => 0
  | n + 1 => pmC v n + (if why v (n / 36 : Nat) (n % 36 : Nat) = 0 then 1 else 0)
def pmN (v : Rw) : Int := pmC v 1296
def mvT (v : Rw) (t : Int) : Int := if v (20 + t) = 0 then 0 else 1
def mvM (v : Rw) : Int := v 1 + (if 0 < v 3 ∧ (v (hs (v 9) 4) + 1) % v 3 = 0 then v 4 else 0)
/-- a move, but for the end that it may make -/
def mv1 (v : Rw) (f t kind : Int) : Rw := u1 (u1 (u1 (clF (wrF v kind (v 12) f t (mvT v t))) (20 + f) 0) (20 + t) (v 9 + 1)) (hs (v 9) 4) (v (hs (v 9) 4) + 1)
def mv2 (v : Rw) (m : Int) : Rw := u1 (u1 v (hs (v 9) 0) (v (hs (v 9) 0) + m)) (hs (v 9) 3) (v (hs (v 9) 3) + m)
def mv3 (v : Rw) (f t tk m : Int) : Rw := u1 (u1 (u1 (u1 (u1 v (80 + 5 * v 10) f) (80 + 5 * v 10 + 1) t) (80 + 5 * v 10 + 2) tk) (80 + 5 * v 10 + 3) m) (80 + 5 * v 10 + 4) (v 9)
def mv4 (v : Rw) : Rw := u1 (u1 (u1 v 10 (v 10 + 1)) 9 (1 - v 9)) 12 0
def mvB (v : Rw) (f t kind : Int) : Rw := mv4 (mv3 (mv2 (mv1 v f t kind) (mvM v)) f t (mvT v t) (mvM v))
/-- the end that a move may make; p: who has moved -/
def mvE (w : Rw) (p t : Int) : Rw := if t / 6 = (if p = 0 then 5 else 0) then loF w (1 - p) 1 else if pcs w (1 - p) = 0 then loF w (1 - p) 2 else if pmN w = 0 then loF w (1 - p) 3 else w
def mvF (v : Rw) (f t kind : Int) : Rw := mvE (mvB v f t kind) (v 9) t
abbrev isC (x : Int) : Prop := 0 ≤ x ∧ x ≤ 35
def zo (f : Rw) : Prop := ∀ k, (k < 0 ∨ 2120 ≤ k) → f k = 0
def ksh (f : Rw) : Rw := fun j => if 0 ≤ j ∧ j < 10600 then f (j + 2120) else f j
def kpt (f r : Rw) (n : Int) : Rw := fun j => if 2120 * n ≤ j ∧ j < 2120 * n + 2120 then r (j - 2120 * n) else f j
def kpP (f r : Rw) (n : Int) : Rw := if n = 6 then kpt (ksh f) r 5 else kpt f r n
def kpN (n : Int) : Int := if n = 6 then 6 else n + 1
/-- the reference's memory with the row of cell r kept in its history -/
def kpM (μ : Mem) (r : Nat) : Mem := sR (sR μ 8 (kpP (μ 8) (μ r) (μ 5 3))) 5 (u1 (μ 5) 3 (kpN (μ 5 3)))
theorem kpM_o {μ : Mem} {r q : Nat} (h : q ≠ 5 ∧ q ≠ 8) : kpM μ r q = μ q := by
  unfold kpM
  rw [sR_ne h.1, sR_ne h.2]
def bgF (v : Rw) : Rw := fun j =>
  if j = 14 then -200009 else if j = 56 ∨ j = 64 then v 0 else if 20 ≤ j ∧ j < 32 then 1 else if 44 ≤ j ∧ j < 56 then 2 else if 7 ≤ j ∧ j < 2120 then 0 else v j
theorem enF_lo {v : Rw} {st re i : Int} (h : 0 ≤ v 11) (hi : i < 1090 ∧ i ≠ 7 ∧ i ≠ 8 ∧ i ≠ 11 ∧ i ≠ 13 ∧ i ≠ 14) : enF v st re i = v i := by
  have e : clF (u1 (u1 v 7 st) 8 re) 11 = v 11 := by simp (disch := omega) only [clF, u1_ne]
  unfold enF wrF
  rw [e]
  simp (disch := omega) only [clF, u1_ne]
theorem enF_7 {v : Rw} {st re : Int} (h : 0 ≤ v 11) : enF v st re 7 = st := by
  have e : clF (u1 (u1 v 7 st) 8 re) 11 = v 11 := by simp (disch := omega) only [clF, u1_ne]
  unfold enF wrF
  rw [e]
  simp (disch := omega) only [clF, u1_ne, u1_eq]
theorem enF_8 {v : Rw} {st re : Int} (h : 0 ≤ v 11) : enF v st re 8 = re := by
  have e : clF (u1 (u1 v 7 st) 8 re) 11 = v 11 := by simp (disch := omega) only [clF, u1_ne]
  unfold enF wrF
  rw [e]
  simp (disch := omega) only [clF, u1_ne, u1_eq]
theorem enF_11 {v : Rw} {st re : Int} : enF v st re 11 = v 11 + 1 := by
  have e : clF (u1 (u1 v 7 st) 8 re) 11 = v 11 := by simp (disch := omega) only [clF, u1_ne]
  unfold enF wrF
  rw [e]
  simp (disch := omega) only [u1_eq]
theorem enF_13 {v : Rw} {st re : Int} (h : 0 ≤ v 11) : enF v st re 13 = 0 := by
  have e : clF (u1 (u1 v 7 st) 8 re) 11 = v 11 := by simp (disch := omega) only [clF, u1_ne]
  unfold enF wrF
  rw [e]
  simp (disch := omega) only [clF, u1_ne, u1_eq]
theorem enF_14 {v : Rw} {st re : Int} (h : 0 ≤ v 11) : enF v st re 14 = -200009 := by
  have e : clF (u1 (u1 v 7 st) 8 re) 11 = v 11 := by simp (disch := omega) only [clF, u1_ne]
  unfold enF wrF
  rw [e]
  simp (disch := omega) only [clF, u1_ne, u1_eq]
/-- what an end leaves as it was -/
def loI (i : Int) : Prop := i < 1090 ∧ i ≠ 7 ∧ i ≠ 8 ∧ i ≠ 11 ∧ i ≠ 13 ∧ i ≠ 14
theorem flF_lo {v : Rw} {i : Int} (h : 0 ≤ v 11) (hi : loI i) : flF v i = v i := by
  unfold flF loF
  split
  · split
    · exact enF_lo h hi
    · split
      · exact enF_lo h hi
      · rfl
  · rfl
theorem flF_c {v : Rw} : flF v = v ∨ (v 7 = 0 ∧ v 5 = 0 ∧ ∃ st, (st = 2 ∨ st = 3) ∧ flF v = enF v st 4) := by
  unfold flF loF
  split
  · rename_i h
    split
    · exact Or.inr ⟨h.1, h.2, _, by split <;> simp, rfl⟩
    · split
      · exact Or.inr ⟨h.1, h.2, _, by split <;> simp, rfl⟩
      · exact Or.inl rfl
  · exact Or.inl rfl
theorem tk3_i {v : Rw} (h9 : v 9 = 0 ∨ v 9 = 1) {i : Int} (hi : i ≠ 12 ∧ i ≠ hs (v 9) 0 ∧ i ≠ hs (v 9) 1 ∧ i ≠ hs (v 9) 2) : tk3 v i = v i := by
  unfold tk3 tk2 tk1
  split
  · simp (disch := omega) only [u1_ne]
  · simp (disch := omega) only [u1_ne]
theorem tk3_12 {v : Rw} (h9 : v 9 = 0 ∨ v 9 = 1) : tk3 v 12 = v 12 + 1 := by
  unfold tk3 tk2 tk1 hs
  split
  · simp (disch := omega) only [u1_ne, u1_eq]
  · simp (disch := omega) only [u1_ne, u1_eq]
theorem tk3_s {v : Rw} (h9 : v 9 = 0 ∨ v 9 = 1) : tk3 v (hs (v 9) 2) = v (hs (v 9) 2) + 1 ∧ ((v 2 < v 12 + 1 ∧ tk3 v (hs (v 9) 1) = v (hs (v 9) 1) + 1 ∧ tk3 v (hs (v 9) 0) = v (hs (v 9) 0) - 1) ∨ (¬ v 2 < v 12 + 1 ∧ tk3 v (hs (v 9) 1) = v (hs (v 9) 1) ∧ tk3 v (hs (v 9) 0) = v (hs (v 9) 0))) := by
  unfold tk3 tk2 tk1 hs
  split
  · rename_i h
    refine ⟨?_, Or.inl ⟨h, ?_, ?_⟩⟩ <;> simp (disch := omega) only [u1_ne, u1_eq]
  · rename_i h
    refine ⟨?_, Or.inr ⟨h, ?_, ?_⟩⟩ <;> simp (disch := omega) only [u1_ne, u1_eq]
theorem tkF_9 {v : Rw} (h9 : v 9 = 0 ∨ v 9 = 1) (h : 0 ≤ v 11) : tkF v 9 = v 9 := by
  have e11 : tk3 v 11 = v 11 := tk3_i h9 (by unfold hs; omega)
  unfold tkF
  rw [flF_lo (by omega) (by unfold loI; omega), tk3_i h9 (by unfold hs; omega)]
/-- a row over which ticks can go by -/
def tI (v : Rw) (n : Int) : Prop := (v 9 = 0 ∨ v 9 = 1) ∧ (0 ≤ v 11 ∧ (v 7 = 0 → v 11 ≤ 203) ∧ v 11 ≤ 204) ∧ (0 ≤ v 12 ∧ v 12 ≤ 1000000000 - n) ∧ (-1000000000 + n ≤ v (hs (v 9) 0) ∧ v (hs (v 9) 0) ≤ 1000000000) ∧ (-1000000000 ≤ v (hs (v 9) 1) ∧ v (hs (v 9) 1) ≤ 1000000000 - n) ∧ (-1000000000 ≤ v (hs (v 9) 2) ∧ v (hs (v 9) 2) ≤ 1000000000 - n)
theorem tI_tk {v : Rw} {n : Int} (h : tI v n) (h7 : v 7 = 0) : tI (tkF v) (n - 1) := by
  obtain ⟨h9, ⟨h11, h11b, h11c⟩, h12, hc, hu, hw⟩ := h
  have e9 := tkF_9 h9 h11
  have e11 : tk3 v 11 = v 11 := tk3_i h9 (by unfold hs; omega)
  have e7 : tk3 v 7 = v 7 := tk3_i h9 (by unfold hs; omega)
  have e12 := tk3_12 h9
  obtain ⟨es, es2⟩ := tk3_s h9
  have lo : ∀ i, loI i → tkF v i = tk3 v i := fun i hi => flF_lo (v := tk3 v) (by omega) hi
  unfold tI
  rw [e9, lo 12 (by unfold loI; omega), lo (hs (v 9) 0) (by unfold loI hs; omega), lo (hs (v 9) 1) (by unfold loI hs; omega), lo (hs (v 9) 2) (by unfold loI hs; omega)]
  refine ⟨h9, ?_, by omega, by omega, by omega, by omega⟩
  unfold tkF
  rcases flF_c (v := tk3 v) with e | ⟨_, _, st, hst, e⟩
  · rw [e, e11, e7]; omega
  · rw [e, enF_11, enF_7 (by omega), e11]; omega
theorem wrF_lo {v : Rw} {k a b c t i : Int} (h : 0 ≤ v 11) (hi : i < 1090 ∧ i ≠ 11) : wrF v k a b c t i = v i := by
  unfold wrF
  simp (disch := omega) only [u1_ne]
theorem wrF_11 {v : Rw} {k a b c t : Int} : wrF v k a b c t 11 = v 11 + 1 := by
  unfold wrF
  simp (disch := omega) only [u1_eq]
theorem clF_lo {v : Rw} {i : Int} (hi : i ≠ 13 ∧ i ≠ 14) : clF v i = v i := by
  unfold clF
  simp (disch := omega) only [u1_ne]
def mI (v : Rw) : Prop := (v 9 = 0 ∨ v 9 = 1) ∧ (0 ≤ v 11 ∧ v 11 ≤ 202) ∧ (0 ≤ v 10 ∧ v 10 ≤ 199) ∧ (0 ≤ v 1 ∧ v 1 ≤ 100000) ∧ 0 ≤ v 3 ∧ (0 ≤ v 4 ∧ v 4 ≤ 100000) ∧ (0 ≤ v (hs (v 9) 4) ∧ v (hs (v 9) 4) ≤ 100000) ∧ (-1000000000 ≤ v (hs (v 9) 0) ∧ v (hs (v 9) 0) ≤ 1000000000) ∧ (-1000000000 ≤ v (hs (v 9) 3) ∧ v (hs (v 9) 3) ≤ 1000000000)
theorem mv1_lo {v : Rw} {f t kind i : Int} (h9 : v 9 = 0 ∨ v 9 = 1) (h : 0 ≤ v 11) (hi : i < 1090 ∧ i ≠ 11 ∧ i ≠ 13 ∧ i ≠ 14 ∧ i ≠ 20 + f ∧ i ≠ 20 + t ∧ i ≠ 56 + 8 * v 9 + 4) : mv1 v f t kind i = v i := by
  unfold mv1 hs
  simp (disch := omega) only [u1_ne, clF_lo, wrF_lo]
theorem mv1_11 {v : Rw} {f t kind : Int} (h9 : v 9 = 0 ∨ v 9 = 1) (hf : isC f) (ht : isC t) : mv1 v f t kind 11 = v 11 + 1 := by
  unfold isC at hf ht
  unfold mv1 hs
  simp (disch := omega) only [u1_ne, clF_lo, wrF_11]
theorem mvB_eq {v : Rw} {f t kind : Int} (h9 : v 9 = 0 ∨ v 9 = 1) (h11 : 0 ≤ v 11) (h10 : 0 ≤ v 10 ∧ v 10 ≤ 199) (hf : isC f) (ht : isC t) : mvB v f t kind = u1 (u1 (u1 (u1 (u1 (u1 (u1 (u1 (u1 (u1 (mv1 v f t kind) (56 + 8 * v 9 + 0) (v (56 + 8 * v 9 + 0) + mvM v)) (56 + 8 * v 9 + 3) (v (56 + 8 * v 9 + 3) + mvM v)) (80 + 5 * v 10) f) (80 + 5 * v 10 + 1) t) (80 + 5 * v 10 + 2) (mvT v t)) (80 + 5 * v 10 + 3) (mvM v)) (80 + 5 * v 10 + 4) (v 9)) 10 (v 10 + 1)) 9 (1 - v 9)) 12 0 := by
  unfold isC at hf ht
  have a9 : mv1 v f t kind 9 = v 9 := mv1_lo h9 h11 (by omega)
  have a10 : mv1 v f t kind 10 = v 10 := mv1_lo h9 h11 (by omega)
  have b9 : mv2 (mv1 v f t kind) (mvM v) 9 = v 9 := by
    unfold mv2 hs
    rw [a9]
    simp (disch := omega) only [u1_ne, a9]
  have b10 : mv2 (mv1 v f t kind) (mvM v) 10 = v 10 := by
    unfold mv2 hs
    rw [a9]
    simp (disch := omega) only [u1_ne, a10]
  have c9 : mv3 (mv2 (mv1 v f t kind) (mvM v)) f t (mvT v t) (mvM v) 9 = v 9 := by
    unfold mv3
    rw [b10]
    simp (disch := omega) only [u1_ne, b9]
  have c10 : mv3 (mv2 (mv1 v f t kind) (mvM v)) f t (mvT v t) (mvM v) 10 = v 10 := by
    unfold mv3
    rw [b10]
    simp (disch := omega) only [u1_ne, b10]
  unfold mvB mv4
  simp (disch := omega) only [u1_ne, c9, c10]
  unfold mv3
  rw [b9, b10]
  unfold mv2 hs
  rw [a9, mv1_lo (i := 56 + 8 * v 9 + 0) h9 h11 (by omega), mv1_lo (i := 56 + 8 * v 9 + 3) h9 h11 (by omega)]
theorem mvB_9 {v : Rw} {f t kind : Int} (h9 : v 9 = 0 ∨ v 9 = 1) (h11 : 0 ≤ v 11) (h10 : 0 ≤ v 10 ∧ v 10 ≤ 199) (hf : isC f) (ht : isC t) : mvB v f t kind 9 = 1 - v 9 := by
  rw [mvB_eq h9 h11 h10 hf ht]
  simp (disch := omega) only [u1_ne, u1_eq]
theorem mvB_11 {v : Rw} {f t kind : Int} (h9 : v 9 = 0 ∨ v 9 = 1) (h11 : 0 ≤ v 11) (h10 : 0 ≤ v 10 ∧ v 10 ≤ 199) (hf : isC f) (ht : isC t) : mvB v f t kind 11 = v 11 + 1 := by
  rw [mvB_eq h9 h11 h10 hf ht]
  simp (disch := omega) only [u1_ne, u1_eq]
  exact mv1_11 h9 hf ht
