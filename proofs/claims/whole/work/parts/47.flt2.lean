theorem FL_end {T : Rw} {n q s : Int} (hq : q ≤ n) (hs : isP s) (hd : s < 4 → ¬ (48 ≤ nx T n q ∧ nx T n q ≤ 57)) : (nx T n q = 32 → FL T n q s = FL T n (q + 1) 0) ∧ (nx T n q ≠ 32 → FL T n q s = if q = n then -1 else q) := by
  refine ⟨fun h => ?_, fun h => ?_⟩
  · obtain ⟨hlt, he⟩ := nx_lt (T := T) (n := n) (p := q) (by omega)
    exact FL_t hlt (by unfold rs; rw [if_pos ⟨hs, by omega⟩]) (by omega)
  · by_cases hn : q = n
    · subst hn
      rw [FL_n, if_pos hs, if_pos rfl]
    · rw [if_neg hn]
      refine FL_x hq (fun z => ?_) (fun z => absurd z hn)
      rw [nx_t z] at h hd
      unfold rs
      (repeat' split) <;> omega
theorem FL_P {T : Rw} {n p : Int} (hp : p ≤ n) : ((rdP T n p).1 = false → FL T n p 0 = (rdP T n p).2.1) ∧ ((rdP T n p).1 = true → (nx T n (rdP T n p).2.1 = 32 → FL T n p 0 = FL T n ((rdP T n p).2.1 + 1) 0) ∧ (nx T n (rdP T n p).2.1 ≠ 32 → FL T n p 0 = if (rdP T n p).2.1 = n then -1 else (rdP T n p).2.1)) := by
  obtain ⟨a, b⟩ := FL_dg (T := T) (n := n) 4 p 0 0 (by omega) (by omega)
  have hr := dgF_rng T n 4 p 0 (by omega)
  unfold rdP
  split
  · rename_i h0
    have hd : ¬ (48 ≤ nx T n p ∧ nx T n p ≤ 57) := by
      have := b (by omega)
      rw [h0] at this
      exact this
    obtain ⟨c1, c2⟩ := FL_c (s := 0) hp (Or.inl rfl) (fun _ => hd)
    split
    · rename_i h1
      exact ⟨fun _ => c1 h1, fun h => by simp at h⟩
    · rename_i h1
      have r1 := (rdC_rng T n p).2.2.2 (by omega)
      have c3 := c2 h1
      rw [if_pos rfl] at c3
      obtain ⟨d1, d2⟩ := FL_c (T := T) (n := n) (p := (rdC T n p).2) (s := 6) (by omega) (Or.inr rfl) (fun z => by omega)
      rw [← r1.1] at c3
      split
      · rename_i h2
        exact ⟨fun _ => c3.trans (d1 h2), fun h => by simp at h⟩
      · rename_i h2
        have r2 := (rdC_rng T n (rdC T n p).2).2.2.2 (by omega)
        have d3 := d2 h2
        rw [if_neg (by omega), ← r2.1] at d3
        obtain ⟨e1, e2⟩ := FL_end (T := T) (n := n) (q := (rdC T n (rdC T n p).2).2) (s := 8) (by omega) (by omega) (fun z => by omega)
        refine ⟨fun h => by simp at h, fun _ => ⟨fun z => ?_, fun z => ?_⟩⟩
        · exact c3.trans (d3.trans (e1 z))
        · exact c3.trans (d3.trans (e2 z))
  · rename_i h0
    obtain ⟨e1, e2⟩ := FL_end (T := T) (n := n) (q := (dgF T n 4 p 0).1) (s := 0 + ((dgF T n 4 p 0).1 - p)) (hr.2.2.2 hp) (by omega) (fun z => b (by omega))
    refine ⟨fun h => by simp at h, fun _ => ⟨fun z => ?_, fun z => ?_⟩⟩
    · exact a.trans (e1 z)
    · exact a.trans (e2 z)
theorem FL_T {T : Rw} {n : Int} : ∀ (f : Nat) (p : Int) (acc : List Int), p ≤ n → n - p < f → FL T n p 0 = if (rdT T n f p acc).1 = true then -1 else (rdT T n f p acc).2.1
  | 0, p, acc, h1, h2 => by omega
  | f + 1, p, acc, h1, h2 => by
    obtain ⟨a, b⟩ := FL_P (T := T) h1
    have hr := rdP_rng T n p h1
    unfold rdT
    by_cases hb : (rdP T n p).1 = true
    · rw [if_pos hb]
      obtain ⟨b1, b2⟩ := b hb
      have hr2 := hr.2.2 hb
      by_cases hx : nx T n (rdP T n p).2.1 = 32
      · rw [if_pos hx, b1 hx]
        obtain ⟨hlt, _⟩ := nx_lt (T := T) (n := n) (p := (rdP T n p).2.1) (by omega)
        exact FL_T f _ _ (by omega) (by omega)
      · rw [if_neg hx, b2 hx]
        by_cases hn : (rdP T n p).2.1 = n
        · simp [hn]
        · simp [hn]
    · rw [if_neg hb]
      have : (rdP T n p).1 = false := by simpa using hb
      rw [a this]
      simp
/-- the class finds the fault that the reference finds -/
theorem fl_rdT {T : Rw} {m : Int} (hm : 0 ≤ m ∧ m ≤ 100) : fl T m.toNat 0 0 = if (rdT T m 102 0 []).1 = true then -1 else (rdT T m 102 0 []).2.1 := by
  have := FL_T (T := T) (n := m) 102 0 [] (by omega) (by omega)
  unfold FL at this
  rw [Int.sub_zero] at this
  exact this
