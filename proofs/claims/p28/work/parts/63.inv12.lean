theorem jI_bg {k : Nat} {v : Rw} (hst : stI v) (hz : zo v) : jI k (bgF v) := by
  have hb0 : 100000 ≤ Bd k := by unfold Bd; omega
  have hst' := hst
  obtain ⟨b0, b1, b2, b3, b4, b5, b6⟩ := hst'
  have z : ∀ i, (7 ≤ i ∧ i < 2120) → (i ≠ 14 ∧ i ≠ 56 ∧ i ≠ 64 ∧ ¬ (20 ≤ i ∧ i < 32) ∧ ¬ (44 ≤ i ∧ i < 56)) → bgF v i = 0 := fun i h1 h2 => bg_z h1 h2
  have e56 := bg_k (v := v) (i := 56) (by omega)
  have e64 := bg_k (v := v) (i := 64) (by omega)
  refine ⟨⟨?_, ?_, ?_, ?_, ?_, ?_, ?_, ?_, ?_, ?_⟩, ?_, ?_, ?_⟩
  · intro i hi
    have : bgF v i = v i := by
      unfold bgF
      (repeat' split) <;> first | rfl | (exfalso; omega)
    rw [this]; exact hz i hi
  · intro e he
    rw [z 11 (by omega) (by omega)] at he
    omega
  · unfold stI
    rw [bg_s (by omega), bg_s (by omega), bg_s (by omega), bg_s (by omega), bg_s (by omega), bg_s (by omega), bg_s (by omega)]
    exact hst
  · unfold scI
    rw [z 7 (by omega) (by omega), z 9 (by omega) (by omega), z 10 (by omega) (by omega), z 11 (by omega) (by omega)]
    exact ⟨by omega, by omega, by omega, by omega, fun _ => by omega, fun q => by omega⟩
  · rw [z 12 (by omega) (by omega)]; omega
  · intro c hc
    rw [bg_b hc]
    (repeat' split) <;> omega
  · unfold sdI hs
    rw [show (56 + 8 * 0 + 0 : Int) = 56 by omega, e56, z _ (by omega) (by omega), z _ (by omega) (by omega), z _ (by omega) (by omega), z _ (by omega) (by omega), z _ (by omega) (by omega), z _ (by omega) (by omega)]
    exact ⟨by omega, by omega, by omega, by omega, by omega, by omega⟩
  · unfold sdI hs
    rw [show (56 + 8 * 1 + 0 : Int) = 64 by omega, e64, z _ (by omega) (by omega), z _ (by omega) (by omega), z _ (by omega) (by omega), z _ (by omega) (by omega), z _ (by omega) (by omega), z _ (by omega) (by omega)]
    exact ⟨by omega, by omega, by omega, by omega, by omega, by omega⟩
  · intro i hi
    rw [z 10 (by omega) (by omega)] at hi
    omega
  · rw [z 10 (by omega) (by omega)]
    exact trivial
  · intro _ _
    unfold hs
    rw [z 9 (by omega) (by omega), show (56 + 8 * 0 + 0 : Int) = 56 by omega, show (56 + 8 * (1 - 0) + 0 : Int) = 64 by omega, e56, e64]
    omega
  · exact fun q => absurd (z 13 (by omega) (by omega)) q
  · intro q
    rw [z 13 (by omega) (by omega)] at q
    omega
