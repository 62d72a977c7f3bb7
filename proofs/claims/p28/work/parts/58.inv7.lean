theorem jI_mvF {k : Nat} {v : Rw} {f t kind : Int} (h : jB k v) (hfl : flg v) (h7 : v 7 = 0) (h11 : v 11 ≤ 199) (hf : isC f) (ht : isC t) (hk : kind = 0 ∨ kind = 1) (hk12 : Bd k ≤ 2147483647) (hy : why v f t = 0) : jI (k + 1) (mvF v f t kind) := by
  have hB := jB_mvB h h7 h11 hf ht hk hk12 hy
  have h9 := jB_9 h
  obtain ⟨hz, hE, ⟨b0, b1, b2, b3, b4, b5, b6⟩, ⟨a7, a9, a10, a11, a70, a71⟩, h12, hbI, _⟩ := h
  have z11 : 0 ≤ v 11 := by omega
  have h10 : 0 ≤ v 10 ∧ v 10 ≤ 199 := by omega
  have hM : 0 ≤ mvM v ∧ mvM v ≤ 11000 := by unfold mvM; split <;> omega
  have e9 := mvB_9 (kind := kind) h9 z11 h10 hf ht
  have e11 := mvB_11 (kind := kind) h9 z11 h10 hf ht
  obtain ⟨⟨e10, e12, e13⟩, ⟨s0, s3, s4⟩, _⟩ := mvB_v (kind := kind) h9 z11 h10 hf ht
  have eo := fun i hi => mvB_o (kind := kind) (i := i) h9 z11 h10 hf ht hi
  unfold mvF
  rcases mvE_c (w := mvB v f t kind) (p := v 9) (t := t) with q | ⟨st, re, hst, hre, q⟩
  · rw [q]
    refine ⟨hB, fun _ z5 => ?_, ?_, ?_⟩
    · rw [eo 5 (by omega)] at z5
      have := hfl h7 z5
      rw [e9, show 1 - (1 - v 9) = v 9 by omega]
      unfold hs at *
      simp only [Int.add_zero] at *
      rw [s0, eo (56 + 8 * (1 - v 9)) (by omega)]
      omega
    · rw [e13]; exact fun z => absurd rfl z
    · rw [e13]; exact fun z => by omega
  · rw [q]
    exact jI_en hB (by omega) (by omega) hre
theorem jI_lo {k : Nat} {v : Rw} {p re : Int} (h : jI k v) (h11 : v 11 ≤ 200) (hre : 0 ≤ re ∧ re ≤ 9) : jI k (loF v p re) := by
  unfold loF
  exact jI_en h.1 h11 (by split <;> omega) hre
theorem jI_sl {k : Nat} {v : Rw} {f t : Int} (h : jI k v) (h11 : v 11 ≤ 199) (hf : isC f) (ht : isC t) : jI k (slF v f t) := by
  obtain ⟨hB, hfl, hq⟩ := h
  have hB' := hB
  obtain ⟨hz, hE, ⟨b0, b1, b2, b3, b4, b5, b6⟩, ⟨a7, a9, a10, a11, a70, a71⟩, h12, _⟩ := hB'
  have fr : ∀ i, i ≠ 7 ∧ i ≠ 13 ∧ i ≠ 14 ∧ i ≠ 15 ∧ i ≠ 16 → slF v f t i = v i := fun i hi => by
    unfold slF
    rw [clF_lo (by omega), u1_ne (by omega), u1_ne (by omega), u1_ne (by omega)]
  have e7 : slF v f t 7 = 1 := by unfold slF; rw [clF_lo (by omega), u1_ne (by omega), u1_ne (by omega), u1_eq]
  have e15 : slF v f t 15 = f := by unfold slF; rw [clF_lo (by omega), u1_ne (by omega), u1_eq]
  have e16 : slF v f t 16 = t := by unfold slF; rw [clF_lo (by omega), u1_eq]
  have e13 : slF v f t 13 = 0 := by unfold slF clF; rw [u1_ne (by omega), u1_eq]
  refine ⟨jB_sc hB ?_ (gE_fr hE ⟨fr 11 (by omega), fun i hi => fr i (by omega)⟩) ?_ ?_ (by rw [fr 12 (by omega)]; exact h12) (fun i hi => fr i (by omega)), ?_, ?_, ?_⟩
  · unfold slF
    exact zo_cl (zo_u1 (zo_u1 (zo_u1 hz (by omega)) (by omega)) (by omega))
  · unfold stI
    rw [fr 0 (by omega), fr 1 (by omega), fr 2 (by omega), fr 3 (by omega), fr 4 (by omega), fr 5 (by omega), fr 6 (by omega)]
    exact ⟨b0, b1, b2, b3, b4, b5, b6⟩
  · unfold scI
    rw [e7, e15, e16, fr 9 (by omega), fr 10 (by omega), fr 11 (by omega)]
    exact ⟨by omega, a9, a10, a11, fun z => by omega, fun _ => ⟨h11, hf, ht⟩⟩
  · intro z; rw [e7] at z; omega
  · rw [e13]; exact fun z => absurd rfl z
  · rw [e13]; exact fun z => by omega
