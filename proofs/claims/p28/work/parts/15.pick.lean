/-! what the reference's parts of whole said of the rows themselves (picked by wip/p28/tools/pick.py) -/
theorem pmC_rng (v : Rw) : ∀ m : Nat, 0 ≤ pmC v m ∧ pmC v m ≤ m
  | 0 => by unfold pmC; omega
  | m + 1 => by
    have := pmC_rng v m
    unfold pmC
    split <;> omega
/-- what a call to move does: the error, or 0 -/
def plE (v : Rw) (f t : Int) : Int := if ¬ (isC f ∧ isC t) then -200001 else if v 7 ≠ 0 ∨ why v f t ≠ 0 then -200002 else if 200 ≤ v 11 then -200003 else 0
def mxS (s : Int) : Int := if s = 0 then 100000 else if s = 1 ∨ s = 2 then 1000 else if s = 3 then 50 else if s = 4 then 10000 else if s = 5 then 1 else 20
abbrev okS (s x : Int) : Prop := (0 ≤ s ∧ s ≤ 6) ∧ ((if s = 0 then 1 else 0) ≤ x ∧ x ≤ mxS s)
def stF (v : Rw) (s x : Int) : Rw := flF (u1 v s x)
def slE (v : Rw) (f t : Int) : Int := if ¬ (isC f ∧ isC t) then -200001 else if v 7 ≠ 0 then -200002 else if 200 ≤ v 11 then -200003 else 0
def slF (v : Rw) (f t : Int) : Rw := clF (u1 (u1 (u1 v 7 1) 15 f) 16 t)
def bkN (v : Rw) (p : Int) : Int := if v (80 + 5 * (v 10 - 1) + 4) = p then 1 else 2
def akF (v : Rw) (q p e : Int) : Rw := wrF (u1 (u1 v 13 q) 14 p) e 0 0 0 0
def akE (v : Rw) (p : Int) : Int := if ¬ (0 ≤ p ∧ p ≤ 1) then -200001 else if v 7 ≠ 0 ∨ v 13 ≠ 0 ∨ v (hs p 4) = 0 ∨ v 6 ≤ v (hs p 5) then -200002 else if 200 ≤ v 11 then -200003 else 0
def ofE (v : Rw) (p : Int) : Int := if ¬ (0 ≤ p ∧ p ≤ 1) then -200001 else if v 7 ≠ 0 ∨ v 13 ≠ 0 then -200002 else if 200 ≤ v 11 then -200003 else 0
/-- one move undone -/
def un1 (w : Rw) : Rw := u1 w 10 (w 10 - 1)
def unK (w : Rw) : Int := 80 + 5 * (w 10 - 1)
def un2 (w : Rw) : Rw := u1 (un1 w) (20 + w (unK w)) (w (unK w + 4) + 1)
def un3 (w : Rw) : Rw := u1 (un2 w) (20 + w (unK w + 1)) (if w (unK w + 2) = 0 then 0 else 2 - w (unK w + 4))
def un4 (w : Rw) : Rw := u1 (un3 w) (hs (w (unK w + 4)) 0) (w (hs (w (unK w + 4)) 0) - w (unK w + 3))
def un5 (w : Rw) : Rw := u1 (un4 w) (hs (w (unK w + 4)) 3) (w (hs (w (unK w + 4)) 3) - w (unK w + 3))
def unF (w : Rw) : Rw := u1 (un5 w) (hs (w (unK w + 4)) 4) (w (hs (w (unK w + 4)) 4) - 1)
/-- a row whose last move can be undone -/
def uI (w : Rw) : Prop := (1 ≤ w 10 ∧ w 10 ≤ 200) ∧ (w (unK w + 4) = 0 ∨ w (unK w + 4) = 1) ∧ isC (w (unK w)) ∧ isC (w (unK w + 1)) ∧ (-1000000000 ≤ w (unK w + 3) ∧ w (unK w + 3) ≤ 1000000000) ∧ (-1000000000 ≤ w (hs (w (unK w + 4)) 0) ∧ w (hs (w (unK w + 4)) 0) ≤ 1000000000) ∧ (-1000000000 ≤ w (hs (w (unK w + 4)) 3) ∧ w (hs (w (unK w + 4)) 3) ≤ 1000000000) ∧ (-1000000000 ≤ w (hs (w (unK w + 4)) 4) ∧ w (hs (w (unK w + 4)) 4) ≤ 1000000000)
def unT (w : Rw) (n : Int) : Rw := if n = 1 then unF w else unF (unF w)
def tb1 (v : Rw) (p : Int) : Rw := unT (wrF v 2 (bkN v p) 0 0 0) (bkN v p)
def tb2 (w : Rw) (p n : Int) : Rw := clF (u1 (u1 (u1 w (hs p 5) (w (hs p 5) + n)) 9 p) 12 0)
def tbF (v : Rw) (p : Int) : Rw := flF (tb2 (tb1 v p) p (bkN v p))
def anE (v : Rw) (a : Int) : Int := if v 13 = 0 then -200002 else if 200 ≤ v 11 ∧ ¬ (a ≠ 0 ∧ v 13 = 2) then -200003 else 0
def anR (v : Rw) (a : Int) : Int := if a ≠ 0 ∧ v 13 = 2 then 1 else if a = 0 then 0 else 2
def anF (v : Rw) (a : Int) : Rw := if a ≠ 0 ∧ v 13 = 2 then enF v 4 6 else if a = 0 then clF (wrF v 3 0 0 0 0) else tbF v (v 14)
def rsE (v : Rw) (p : Int) : Int := if ¬ (0 ≤ p ∧ p ≤ 1) then -200001 else if 1 < v 7 then -200002 else 0
def clE (v : Rw) (p : Int) : Int := if ¬ (0 ≤ p ∧ p ≤ 1) then -200001 else if v 7 ≠ 0 ∨ v 5 = 0 ∨ 0 ≤ v (hs (1 - p) 0) then -200002 else 0
def rmW (v : Rw) : Rw := u1 v 7 0
def rmF (v : Rw) : Rw := if why (rmW v) (v 15) (v 16) = 0 then flF (mvF (rmW v) (v 15) (v 16) 1) else loF (wrF (rmW v) 1 (v 12) (v 15) (v 16) 0) (v 9) 7
def p10 (k : Nat) : Int := 10 ^ k
theorem p10_s (k : Nat) : p10 (k + 1) = 10 * p10 k := by unfold p10; rw [Int.pow_succ]; omega
theorem p10_0 : p10 0 = 1 := (rfl)
theorem p10_pos (k : Nat) : 1 ≤ p10 k := by
  induction k with
  | zero => rw [p10_0]; omega
  | succ k ih => rw [p10_s]; omega
theorem p10_mono {a b : Nat} (h : a ≤ b) : p10 a ≤ p10 b := by
  induction b with
  | zero => rw [show a = 0 by omega]; omega
  | succ b ih =>
    by_cases hb : a = b + 1
    · subst hb; omega
    · have := ih (by omega)
      have := p10_pos b
      rw [p10_s]; omega
def nd (x : Int) : Nat := if x < 10 then 0 else if x < 100 then 1 else if x < 1000 then 2 else if x < 10000 then 3 else if x < 100000 then 4 else if x < 1000000 then 5 else if x < 10000000 then 6 else if x < 100000000 then 7 else if x < 1000000000 then 8 else 9
theorem nd_spec {x : Int} (h0 : 0 ≤ x) (h1 : x ≤ 2147483647) : nd x ≤ 9 ∧ (nd x = 0 ∨ p10 (nd x) ≤ x) ∧ x < p10 (nd x + 1) := by
  have e1 : p10 1 = 10 := rfl
  have e2 : p10 2 = 100 := rfl
  have e3 : p10 3 = 1000 := rfl
  have e4 : p10 4 = 10000 := rfl
  have e5 : p10 5 = 100000 := rfl
  have e6 : p10 6 = 1000000 := rfl
  have e7 : p10 7 = 10000000 := rfl
  have e8 : p10 8 = 100000000 := rfl
  have e9 : p10 9 = 1000000000 := rfl
  have e10 : p10 10 = 10000000000 := rfl
  unfold nd
  (repeat' split) <;> simp only [Nat.reduceAdd, p10_0, e1, e2, e3, e4, e5, e6, e7, e8, e9, e10] <;> first | omega | (refine ⟨by omega, Or.inl trivial, by omega⟩)
def outD : Nat → Int → List Int
  | 0, x => [48 + x % 10]
  | k + 1, x => (48 + x / p10 (k + 1) % 10) :: outD k x
def digs (x : Int) : List Int := outD (nd x) x
theorem outD_len (k : Nat) (x : Int) : (outD k x).length = k + 1 := by
  induction k with
  | zero => rfl
  | succ k ih => simp [outD, ih]
theorem digs_len {x : Int} (h0 : 0 ≤ x) (h1 : x ≤ 2147483647) : 1 ≤ (digs x).length ∧ (digs x).length ≤ 10 := by
  have := (nd_spec h0 h1).1
  unfold digs
  rw [outD_len]; omega
def cel (c : Int) : List Int := [97 + c % 6, 49 + c / 6]
def entL (k a b c t : Int) : List Int :=
  if k = 0 ∨ k = 1 then (if k = 1 then [42] else []) ++ (digs a ++ (cel b ++ (cel c ++ (if t = 1 then [120] else []))))
  else (if k = 2 then 60 else if k = 3 then 33 else if k = 4 then 61 else if k = 5 then 63 else 35) :: (if k = 2 ∨ k = 6 then digs a else [])
def ent (v : Rw) (e : Int) : List Int := entL (v (1090 + 5 * e)) (v (1090 + 5 * e + 1)) (v (1090 + 5 * e + 2)) (v (1090 + 5 * e + 3)) (v (1090 + 5 * e + 4))
def recL (v : Rw) : Nat → List Int
  | 0 => []
  | n + 1 => recL v n ++ ((if n = 0 then [] else [32]) ++ ent v n)
def lat (L : List Int) (i : Int) : Int := L.getD i.toNat 0
/-- what an entry may hold -/
def entI (v : Rw) (e : Int) : Prop := (0 ≤ v (1090 + 5 * e + 1) ∧ v (1090 + 5 * e + 1) ≤ 2147483647) ∧ (v (1090 + 5 * e) = 0 ∨ v (1090 + 5 * e) = 1 → isC (v (1090 + 5 * e + 2)) ∧ isC (v (1090 + 5 * e + 3)))
theorem ent_len {v : Rw} {e : Int} (h : entI v e) : 1 ≤ (ent v e).length ∧ (ent v e).length ≤ 16 := by
  have := digs_len h.1.1 h.1.2
  unfold ent entL cel
  (repeat' split) <;> simp only [List.length_append, List.length_cons, List.length_nil] <;> omega
theorem lat_0 {c : Int} {cs : List Int} : lat (c :: cs) 0 = c := by simp [lat]
theorem lat_l {a b : List Int} {i : Int} (h0 : 0 ≤ i) (h : i < a.length) : lat (a ++ b) i = lat a i := by
  unfold lat
  rw [List.getD_eq_getElem?_getD, List.getD_eq_getElem?_getD, List.getElem?_append_left (by omega)]
theorem lat_r {a b : List Int} {i : Int} (h : a.length ≤ i) : lat (a ++ b) i = lat b (i - a.length) := by
  unfold lat
  rw [List.getD_eq_getElem?_getD, List.getD_eq_getElem?_getD, List.getElem?_append_right (by omega)]
  congr 2; omega
def smL (v : Rw) : Nat → Int
  | 0 => 0
  | n + 1 => smL v n + (ent v n).length
theorem recL_len (v : Rw) : ∀ n : Nat, ((recL v n).length : Int) = smL v n + (if n = 0 then (0 : Int) else (n : Int) - 1)
  | 0 => by simp [recL, smL]
  | n + 1 => by
    have := recL_len v n
    unfold recL smL
    simp only [List.length_append]
    by_cases h : n = 0
    · subst h; simp [smL, recL]
    · rw [if_neg h] at this ⊢
      rw [if_neg (by omega)]
      simp only [List.length_cons, List.length_nil]
      omega
theorem smL_rng {v : Rw} : ∀ n : Nat, (∀ e : Nat, e < n → entI v e) → (n : Int) ≤ smL v n ∧ smL v n ≤ 16 * n
  | 0, _ => by simp [smL]
  | n + 1, h => by
    have h1 := smL_rng n (fun e he => h e (by omega))
    have h2 := ent_len (h n (by omega))
    unfold smL
    omega
/-- the sign at place i of the record -/
def sgR (v : Rw) (N : Nat) (i : Int) : Int := if i < 0 then -200001 else if i < (recL v N).length then lat (recL v N) i else -200009
def atR (v : Rw) (c : Int) : Int := if ¬ isC c then -200001 else if v (20 + c) = 0 then -200009 else v (20 + c) - 1
def gmO (v : Rw) (k : Int) : Int := if k = 8 then pmN v else v (7 + k)
def plO (v : Rw) (p k : Int) : Int := if k = 6 then pcs v p else v (hs p k)
def psS (v : Rw) : Nat → Int → Nat → Int
  | 0, _, _ => -200009
  | n + 1, left, m => if why v (m / 36 : Nat) (m % 36 : Nat) = 0 then (if left = 0 then (m : Int) else psS v n (left - 1) (m + 1)) else psS v n left (m + 1)
def psR (v : Rw) (i : Int) : Int := if i < 0 then -200001 else psS v 1296 i 0
/-- row j of the history -/
def prw (f : Rw) (j : Int) : Rw := fun k => if 0 ≤ k ∧ k < 2120 then f (2120 * j + k) else 0
def h31 (h : Int64) (x : Int) : Int64 := Int64.ofInt 31 * h + Int64.ofInt x
def hR (f : Int → Int) (h : Int64) : Nat → Int64
  | 0 => h
  | n + 1 => h31 (hR f h n) (f n)
def hL (L : List Int) (h : Int64) : Int64 := L.foldl h31 h
theorem hL_app (a b : List Int) (h : Int64) : hL (a ++ b) h = hL b (hL a h) := List.foldl_append
theorem hR_hL (L : List Int) (h : Int64) : hR (lat L) h L.length = hL L h := by
  have key : ∀ n : Nat, n ≤ L.length → hR (lat L) h n = hL (L.take n) h := by
    intro n
    induction n with
    | zero => intro _; rfl
    | succ n ih =>
      intro hn
      unfold hR
      rw [ih (by omega)]
      have : L.take (n + 1) = L.take n ++ [lat L n] := by
        rw [List.take_add_one]
        congr 1
        unfold lat
        rw [List.getD_eq_getElem?_getD]
        have : (n : Int).toNat = n := by omega
        rw [this, List.getElem?_eq_getElem (by omega)]
        rfl
      rw [this, hL_app]
      rfl
  have := key L.length (Nat.le_refl _)
  rw [List.take_length] at this
  exact this
def atN (v : Rw) (c : Int) : Int := if v (20 + c) = 0 then -200009 else v (20 + c) - 1
def fp1 (v : Rw) : Int64 := hR v (Int64.ofInt 227) 7
def fp2 (v : Rw) : Int64 := hR (gmO v) (fp1 v) 9
def fp3 (v : Rw) : Int64 := hR (atN v) (fp2 v) 36
def fp4 (v : Rw) : Int64 := hR (plO v 0) (fp3 v) 7
def fp5 (v : Rw) : Int64 := hR (plO v 1) (fp4 v) 7
def fp6 (v : Rw) (N : Nat) : Int64 := h31 (fp5 v) (recL v N).length
def fpV (v : Rw) (N : Nat) : Int64 := hL (recL v N) (fp6 v N)
