theorem uI_b {v : Rw} (h : uI (unC v)) : uI (unF v) := by
  have := uI_9 (x := unF v 9) h
  unfold unC at this
  rw [u1_u1] at this
  have e : u1 (unF v) 9 (unF v 9) = unF v := by
    funext j
    unfold u1
    by_cases hj : j = 9
    · rw [if_pos hj, hj]
    · rw [if_neg hj]
  rw [e] at this
  exact this
theorem unT_5 {k : Nat} {v : Rw} {p : Int} (hk : k ≤ 39000) (h : jB k v) (h10 : 1 ≤ v 10) (h102 : bkN v p = 2 → 2 ≤ v 10) (hp : p = 0 ∨ p = 1) : unT v (bkN v p) (hs p 5) = v (hs p 5) := by
  obtain ⟨hI, hJ, h4⟩ := jB_uI (k := k) (by omega) h h10
  have h9 := jB_9 h
  have e1 : unC v (hs p 5) = v (hs p 5) := unC_o hI (by unfold hs; omega)
  have e1b : unC v (hs p 5) = unF v (hs p 5) := u1_ne (by unfold hs; omega)
  unfold unT
  by_cases hb : bkN v p = 1
  · rw [if_pos hb, ← e1b, e1]
  · rw [if_neg hb]
    have hb2 : bkN v p = 2 := by
      unfold bkN at hb ⊢
      by_cases q : v (80 + 5 * (v 10 - 1) + 4) = p
      · rw [if_pos q] at hb; exact absurd rfl hb
      · rw [if_neg q]
    have h1 := jB_un (k := k) (by omega) h h10
    have e10 := unC_10 hI
    obtain ⟨hI1, _, h41⟩ := jB_uI (k := k + 1) (by omega) h1 (by have := h102 hb2; omega)
    have e2 : unC (unC v) (hs p 5) = unC v (hs p 5) := by
      have e9 := unC_9 (v := v)
      exact unC_o hI1 (by unfold hs; omega)
    have e2b : unC (unC v) (hs p 5) = unF (unC v) (hs p 5) := u1_ne (by unfold hs; omega)
    have e3 : unF (unC v) = u1 (unF (unF v)) 9 (1 - v 9) := unF_9 (uI_b hI1)
    rw [e3, u1_ne (by unfold hs; omega)] at e2b
    rw [← e2b, e2, e1]
theorem jB_two {k : Nat} {v : Rw} {p : Int} (hk : k ≤ 39000) (h : jB k v) (hp : p = 0 ∨ p = 1) (hm : 1 ≤ v (hs p 4)) : 1 ≤ v 10 ∧ (bkN v p = 2 → 2 ≤ v 10) ∧ bkN v p = (if v 9 = p then 2 else 1) := by
  have h9 := jB_9 h
  have q4 := (jB_s h hp).2.2.2.2.1
  have a9 := h.2.2.2.1.2.1
  have a10 := h.2.2.2.1.2.2.1
  have h10 : 1 ≤ v 10 := by omega
  obtain ⟨hI, hJ, h4⟩ := jB_uI (k := k) (by omega) h h10
  have eb : bkN v p = (if v 9 = p then 2 else 1) := by
    unfold bkN
    have : unK v = 80 + 5 * (v 10 - 1) := rfl
    rw [← this]
    (repeat' split) <;> omega
  refine ⟨h10, fun hb => ?_, eb⟩
  rw [eb] at hb
  split at hb <;> omega
theorem jB_tbI {k : Nat} {v : Rw} {p : Int} (hk : k ≤ 39000) (h : jB k v) (hp : p = 0 ∨ p = 1) (hm : 1 ≤ v (hs p 4)) : tbI v p := by
  obtain ⟨h10, h102, eb⟩ := jB_two hk h hp hm
  obtain ⟨hI, hJ, h4⟩ := jB_uI (k := k) (by omega) h h10
  have q5 := (jB_s h hp).2.2.2.2.2
  have e5 := unT_5 hk h h10 h102 hp
  refine ⟨hp, hI, hJ, fun hb => ?_, by omega, by omega⟩
  have e10 := unC_10 hI
  obtain ⟨hI1, hJ1, _⟩ := jB_uI (k := k + 1) (by omega) (jB_un (k := k) (by omega) h h10) (by have := h102 hb; omega)
  exact ⟨uI_b hI1, hJ1⟩
theorem rmW_mI {k : Nat} {v : Rw} (hk : k ≤ 39000) (h : jB k v) (h11 : v 11 ≤ 199) : mI (rmW v) := by
  have hm := jB_mI (k := k) (by omega) h h11
  have h9 := jB_9 h
  have fr : ∀ i, i ≠ 7 → rmW v i = v i := fun i hi => u1_ne hi
  unfold mI at *
  rw [fr 9 (by omega), fr 11 (by omega), fr 10 (by omega), fr 1 (by omega), fr 3 (by omega), fr 4 (by omega), fr (hs (v 9) 4) (by unfold hs; omega), fr (hs (v 9) 0) (by unfold hs; omega), fr (hs (v 9) 3) (by unfold hs; omega)]
  exact hm
theorem jI_cJ {k : Nat} {v : Rw} (hk : k ≤ 39000) (h : jI k v) : cJ v := by
  obtain ⟨hB, hf, ⟨q1, q2⟩⟩ := h
  have h9 := jB_9 hB
  have hbd := Bd_le (k := k) (by omega)
  have hst := hB.2.2.1
  have hsc := hB.2.2.2.1
  have h12 := hB.2.2.2.2.1
  have hbI := hB.2.2.2.2.2.1
  obtain ⟨a7, a9, a10, a11, a70, a71⟩ := hsc
  refine ⟨jB_rwJ hB, h9, hbI, hf, ⟨hst.2.2.1.1, by have := hst.2.2.1.2; omega⟩, fun z => ?_, fun z => jB_tI (k := k) (by omega) hB z, fun z z2 => jB_mI (k := k) (by omega) hB (by omega), by omega, fun z => ⟨(a71 z).1, rmW_mI hk hB (a71 z).1, (a71 z).2⟩, fun z => ⟨(q1 z).1, (q1 z).2.1⟩, fun z => jB_tbI hk hB (q1 (by omega)).2.2 (q2 z), fun z => ?_, fun p hp hz => ?_, a7.1⟩
  · rcases z with z | z
    · exact a70 z
    · have := (a71 z).1; omega
  · exact (jB_uI (k := k) (by omega) hB z).2.2
  · have q4 := (jB_s hB hp).2.2.2.2.1
    omega
