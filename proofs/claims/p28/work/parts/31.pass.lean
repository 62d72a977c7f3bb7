/-! ticks at one stroke -/
def fr (v : Rw) : Int := if v 2 - v 12 < 0 then 0 else v 2 - v 12
def ov (v : Rw) (s : Int) : Int := if s - fr v < 0 then 0 else s - fr v
def adv (v : Rw) (s : Int) : Rw := u1 (u1 (u1 (u1 v 12 (v 12 + s)) (hs (v 9) 2) (v (hs (v 9) 2) + s)) (hs (v 9) 1) (v (hs (v 9) 1) + ov v s)) (hs (v 9) 0) (v (hs (v 9) 0) - ov v s)
def spn (v : Rw) (n : Int) : Int := if v 5 = 0 then (if fr v + v (hs (v 9) 0) + 1 < n then fr v + v (hs (v 9) 0) + 1 else n) else n
theorem adv_i {v : Rw} {s i : Int} (h9 : v 9 = 0 ∨ v 9 = 1) (hi : i ≠ 12 ∧ i ≠ hs (v 9) 0 ∧ i ≠ hs (v 9) 1 ∧ i ≠ hs (v 9) 2) : adv v s i = v i := by
  unfold adv
  simp (disch := omega) only [u1_ne]
theorem adv_12 {v : Rw} {s : Int} (h9 : v 9 = 0 ∨ v 9 = 1) : adv v s 12 = v 12 + s := by
  unfold adv hs
  simp (disch := omega) only [u1_ne, u1_eq]
theorem adv_0 {v : Rw} {s : Int} : adv v s (hs (v 9) 0) = v (hs (v 9) 0) - ov v s := by
  unfold adv
  rw [u1_eq]
theorem adv_1 {v : Rw} {s : Int} : adv v s (hs (v 9) 1) = v (hs (v 9) 1) + ov v s := by
  unfold adv hs
  simp (disch := omega) only [u1_ne, u1_eq]
theorem adv_2 {v : Rw} {s : Int} : adv v s (hs (v 9) 2) = v (hs (v 9) 2) + s := by
  unfold adv hs
  simp (disch := omega) only [u1_ne, u1_eq]
theorem adv_z {v : Rw} (h9 : v 9 = 0 ∨ v 9 = 1) : adv v 0 = v := by
  have e : ov v 0 = 0 := by unfold ov fr; (repeat' split) <;> omega
  funext i
  by_cases h1 : i = 12
  · rw [h1, adv_12 h9]; omega
  · by_cases h2 : i = hs (v 9) 0
    · rw [h2, adv_0]; omega
    · by_cases h3 : i = hs (v 9) 1
      · rw [h3, adv_1]; omega
      · by_cases h4 : i = hs (v 9) 2
        · rw [h4, adv_2]; omega
        · rw [adv_i h9 ⟨h1, h2, h3, h4⟩]
theorem tk3_adv {v : Rw} (h9 : v 9 = 0 ∨ v 9 = 1) : tk3 v = adv v 1 := by
  obtain ⟨es, e01⟩ := tk3_s h9
  have e : (v 2 < v 12 + 1 ∧ ov v 1 = 1) ∨ (¬ v 2 < v 12 + 1 ∧ ov v 1 = 0) := by unfold ov fr; (repeat' split) <;> omega
  funext i
  by_cases h1 : i = 12
  · rw [h1, adv_12 h9, tk3_12 h9]
  · by_cases h2 : i = hs (v 9) 0
    · rw [h2, adv_0]; omega
    · by_cases h3 : i = hs (v 9) 1
      · rw [h3, adv_1]; omega
      · by_cases h4 : i = hs (v 9) 2
        · rw [h4, adv_2]; omega
        · rw [adv_i h9 ⟨h1, h2, h3, h4⟩, tk3_i h9 ⟨h1, h2, h3, h4⟩]
theorem adv_9 {v : Rw} {s : Int} (h9 : v 9 = 0 ∨ v 9 = 1) : adv v s 9 = v 9 := adv_i h9 (by unfold hs; omega)
theorem ov_s {v : Rw} {n : Int} (h9 : v 9 = 0 ∨ v 9 = 1) (hn : 0 ≤ n) : ov v (1 + n) = ov v 1 + ov (adv v 1) n ∧ fr (adv v 1) = (if fr v = 0 then 0 else fr v - 1) := by
  have e2 : adv v 1 2 = v 2 := adv_i h9 (by unfold hs; omega)
  have e12 := adv_12 (s := 1) h9
  unfold ov fr
  rw [e2, e12]
  constructor <;> (repeat' split) <;> omega
theorem adv_s {v : Rw} {n : Int} (h9 : v 9 = 0 ∨ v 9 = 1) (hn : 0 ≤ n) : adv (adv v 1) n = adv v (1 + n) := by
  have e9 := adv_9 (s := 1) h9
  have h9' : adv v 1 9 = 0 ∨ adv v 1 9 = 1 := by rw [e9]; exact h9
  have eo := (ov_s h9 hn).1
  funext i
  by_cases h1 : i = 12
  · rw [h1, adv_12 h9, adv_12 h9', adv_12 h9]; omega
  · by_cases h2 : i = hs (v 9) 0
    · rw [h2, adv_0]
      have := adv_0 (v := adv v 1) (s := n)
      rw [e9, adv_0] at this
      omega
    · by_cases h3 : i = hs (v 9) 1
      · rw [h3, adv_1]
        have := adv_1 (v := adv v 1) (s := n)
        rw [e9, adv_1] at this
        omega
      · by_cases h4 : i = hs (v 9) 2
        · rw [h4, adv_2]
          have := adv_2 (v := adv v 1) (s := n)
          rw [e9, adv_2] at this
          omega
        · rw [adv_i h9 ⟨h1, h2, h3, h4⟩, adv_i h9' (by rw [e9]; exact ⟨h1, h2, h3, h4⟩), adv_i h9 ⟨h1, h2, h3, h4⟩]
theorem paF_st {w : Rw} (h : w 7 ≠ 0) : ∀ n, paF w n = w
  | 0 => rfl
  | n + 1 => by
    show (if w 7 = 0 then _ else w) = w
    rw [if_neg h]
/-- while the game runs and flags fall, no clock stands under zero -/
def flg (v : Rw) : Prop := v 7 = 0 → v 5 = 0 → 0 ≤ v (hs (v 9) 0) ∧ 0 ≤ v (hs (1 - v 9) 0)
theorem flF_no {v : Rw} (h : flg v) : flF v = v := by
  unfold flF
  split
  · rename_i hh
    have := h hh.1 hh.2
    rw [if_neg (by omega), if_neg (by omega)]
  · rfl
theorem paF_cl : ∀ (n : Nat) (v : Rw), v 7 = 0 → (v 9 = 0 ∨ v 9 = 1) → 0 ≤ v 11 → flg v → paF v n = flF (adv v (spn v n))
  | 0, v, h7, h9, h11, hf => by
    have e : spn v ((0 : Nat) : Int) = 0 := by
      unfold spn
      by_cases h5 : v 5 = 0
      · have := hf h7 h5
        have : 0 ≤ fr v := by unfold fr; split <;> omega
        rw [if_pos h5, if_neg (by omega)]; rfl
      · rw [if_neg h5]; rfl
    rw [e, adv_z h9, flF_no hf]; rfl
  | n + 1, v, h7, h9, h11, hf => by
    have e9 := adv_9 (s := 1) h9
    have e7 : adv v 1 7 = v 7 := adv_i h9 (by unfold hs; omega)
    have e5 : adv v 1 5 = v 5 := adv_i h9 (by unfold hs; omega)
    have e11 : adv v 1 11 = v 11 := adv_i h9 (by unfold hs; omega)
    have eq : adv v 1 (hs (1 - v 9) 0) = v (hs (1 - v 9) 0) := adv_i h9 (by unfold hs; omega)
    have ep := adv_0 (v := v) (s := 1)
    have hfr : 0 ≤ fr v := by unfold fr; split <;> omega
    have ho1 : ov v 1 = if fr v = 0 then 1 else 0 := by unfold ov; (repeat' split) <;> omega
    show (if v 7 = 0 then paF (tkF v) n else v) = _
    rw [if_pos h7]
    unfold tkF
    rw [tk3_adv h9]
    by_cases hx : v 5 = 0 ∧ fr v = 0 ∧ v (hs (v 9) 0) = 0
    · obtain ⟨h5, hz, hc⟩ := hx
      have e1 : spn v ((n + 1 : Nat) : Int) = 1 := by
        unfold spn
        rw [if_pos h5]
        split <;> omega
      rw [e1]
      refine paF_st ?_ n
      rw [if_pos hz] at ho1
      unfold flF
      rw [e7, e5, e9, if_pos ⟨h7, h5⟩, if_pos (by omega)]
      unfold loF
      rw [enF_7 (by omega)]
      split <;> omega
    · have hf1 : flg (adv v 1) := by
        unfold flg
        rw [e7, e5, e9, ep, eq]
        intro _ h5
        have := hf h7 h5
        refine ⟨?_, this.2⟩
        rw [ho1]
        split <;> omega
      rw [flF_no hf1, paF_cl n (adv v 1) (by omega) (by omega) (by omega) hf1]
      have hs2 := (ov_s (v := v) (n := 0) h9 (by omega)).2
      have e0 : 0 ≤ spn (adv v 1) n := by
        unfold spn
        rw [e5, e9, ep, ho1, hs2]
        by_cases h5 : v 5 = 0
        · have := hf h7 h5
          rw [if_pos h5]
          (repeat' split) <;> omega
        · rw [if_neg h5]; omega
      rw [adv_s h9 e0]
      congr 2
      unfold spn
      rw [e5, e9, ep, ho1, hs2]
      by_cases h5 : v 5 = 0
      · have := hf h7 h5
        rw [if_pos h5, if_pos h5]
        (repeat' split) <;> omega
      · rw [if_neg h5, if_neg h5]; omega
