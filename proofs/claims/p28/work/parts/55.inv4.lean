/-! the invariant is kept -/
theorem sdI_cg {k : Nat} {v w : Rw} {p : Int} (h : sdI k v p) (hp : p = 0 ∨ p = 1) (e10 : w 10 = v 10) (e : ∀ i, 56 ≤ i ∧ i < 80 → w i = v i) : sdI k w p := by
  unfold sdI hs at *
  rw [e (56 + 8 * p + 0) (by omega), e (56 + 8 * p + 1) (by omega), e (56 + 8 * p + 2) (by omega), e (56 + 8 * p + 3) (by omega), e (56 + 8 * p + 4) (by omega), e (56 + 8 * p + 5) (by omega), e10]
  exact h
theorem mdI_cg {v w : Rw} (h : mdI v) (e10 : w 10 = v 10) (h200 : v 10 ≤ 200) (e : ∀ i, 80 ≤ i ∧ i < 1080 → w i = v i) : mdI w := by
  intro i hi
  rw [e10] at hi
  rw [e (80 + 5 * i) (by omega), e (80 + 5 * i + 1) (by omega), e (80 + 5 * i + 2) (by omega), e (80 + 5 * i + 3) (by omega), e (80 + 5 * i + 4) (by omega)]
  exact h i hi
theorem ch_rw {v w : Rw} (hm : mdI v) (h : ch v (v 10).toNat (brd v)) (e10 : w 10 = v 10) (h200 : v 10 ≤ 200) (e : ∀ i, (20 ≤ i ∧ i < 56) ∨ (80 ≤ i ∧ i < 1080) → w i = v i) : ch w (w 10).toNat (brd w) := by
  rw [e10]
  refine ch_cg (M := v) _ _ (fun i g1 g2 => e i (by omega)) (ch_b _ (brd v) (brd w) (fun i hi => ?_) (fun c hc => e _ (by omega)) h)
  have := hm i (by omega)
  exact ⟨this.2.1, this.2.2.1⟩
/-- only scalars and entries have changed -/
theorem jB_sc {k : Nat} {v w : Rw} (h : jB k v) (hz : zo w) (hE : gE w) (hst : stI w) (hsc : scI w) (h12 : 0 ≤ w 12 ∧ w 12 ≤ Bd k) (e : ∀ i, i = 10 ∨ (20 ≤ i ∧ i < 1080) → w i = v i) : jB k w := by
  obtain ⟨_, _, _, b4, _, b6, s0, s1, hm, hc⟩ := h
  have e10 := e 10 (by omega)
  have h200 := b4.2.2.1.2
  exact ⟨hz, hE, hst, hsc, h12, fun c hc => by rw [e _ (by omega)]; exact b6 c hc, sdI_cg s0 (by omega) e10 (fun i hi => e i (by omega)), sdI_cg s1 (by omega) e10 (fun i hi => e i (by omega)), mdI_cg hm e10 h200 (fun i hi => e i (by omega)), ch_rw hm hc e10 h200 (fun i hi => e i (by omega))⟩
theorem zo_wr {v : Rw} {k a b c t : Int} (h : zo v) (h11 : 0 ≤ v 11 ∧ v 11 ≤ 204) : zo (wrF v k a b c t) := by
  unfold wrF
  exact zo_u1 (zo_u1 (zo_u1 (zo_u1 (zo_u1 (zo_u1 h (by omega)) (by omega)) (by omega)) (by omega)) (by omega)) (by omega)
theorem zo_cl {v : Rw} (h : zo v) : zo (clF v) := by
  unfold clF
  exact zo_u1 (zo_u1 h (by omega)) (by omega)
theorem jI_en {k : Nat} {v : Rw} {st re : Int} (h : jB k v) (h11 : v 11 ≤ 200) (hst : 2 ≤ st ∧ st ≤ 4) (hre : 0 ≤ re ∧ re ≤ 9) : jI k (enF v st re) := by
  have hB := h
  obtain ⟨hz, hE, ⟨b0, b1, b2, b3, b4, b5, b6⟩, ⟨a7, a9, a10, a11, a70, a71⟩, h12, _⟩ := h
  have z11 : 0 ≤ v 11 := by omega
  have lo := fun i hi => enF_lo (v := v) (st := st) (re := re) (i := i) z11 hi
  have e7 := enF_7 (v := v) (st := st) (re := re) z11
  have e11 := enF_11 (v := v) (st := st) (re := re)
  have e13 := enF_13 (v := v) (st := st) (re := re) z11
  refine ⟨jB_sc hB ?_ (enF_gE hE z11 hre) ?_ ?_ ?_ (fun i hi => lo i (by omega)), ?_, ?_, ?_⟩
  · unfold enF
    refine zo_wr (zo_cl (zo_u1 (zo_u1 hz (by omega)) (by omega))) ?_
    rw [clF_lo (by omega), u1_ne (by omega), u1_ne (by omega)]; omega
  · unfold stI
    rw [lo 0 (by omega), lo 1 (by omega), lo 2 (by omega), lo 3 (by omega), lo 4 (by omega), lo 5 (by omega), lo 6 (by omega)]
    exact ⟨b0, b1, b2, b3, b4, b5, b6⟩
  · unfold scI
    rw [e7, lo 9 (by omega), lo 10 (by omega), e11]
    exact ⟨by omega, a9, a10, by omega, fun z => by omega, fun z => by omega⟩
  · rw [lo 12 (by omega)]; exact h12
  · intro z; rw [e7] at z; omega
  · rw [e13]; exact fun z => absurd rfl z
  · rw [e13]; exact fun z => by omega
theorem jI_fl {k : Nat} {v : Rw} (h : jB k v) (hq : qI v) : jI k (flF v) := by
  have h70 := h.2.2.2.1.2.2.2.2.1
  by_cases hc : v 7 = 0 ∧ v 5 = 0
  · unfold flF loF
    rw [if_pos hc]
    have h11 := h70 hc.1
    by_cases h1 : v (hs (v 9) 0) < 0
    · rw [if_pos h1]
      exact jI_en h h11 (by split <;> omega) (by omega)
    · rw [if_neg h1]
      by_cases h2 : v (hs (1 - v 9) 0) < 0
      · rw [if_pos h2]
        exact jI_en h h11 (by split <;> omega) (by omega)
      · rw [if_neg h2]
        exact ⟨h, fun _ _ => by omega, hq⟩
  · unfold flF
    rw [if_neg hc]
    exact ⟨h, fun z1 z2 => absurd ⟨z1, z2⟩ hc, hq⟩
