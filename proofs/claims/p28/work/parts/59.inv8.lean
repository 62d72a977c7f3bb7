theorem jB_wr {k : Nat} {v : Rw} {e a : Int} (h : jB k v) (h11 : v 11 ≤ 199) (h7 : v 7 = 0) (he : 2 ≤ e) (ha : 0 ≤ a ∧ a ≤ 9) : jB k (wrF v e a 0 0 0) := by
  have hB := h
  obtain ⟨hz, hE, ⟨b0, b1, b2, b3, b4, b5, b6⟩, ⟨a7, a9, a10, a11, a70, a71⟩, h12, _⟩ := h
  have z11 : 0 ≤ v 11 := by omega
  have lo : ∀ i, i < 1090 ∧ i ≠ 11 → wrF v e a 0 0 0 i = v i := fun i hi => wrF_lo z11 hi
  have e11 := wrF_11 (v := v) (k := e) (a := a) (b := 0) (c := 0) (t := 0)
  refine jB_sc hB (zo_wr hz (by omega)) (gE_wr hE z11 (by omega) (by omega)) ?_ ?_ (by rw [lo 12 (by omega)]; exact h12) (fun i hi => lo i (by omega))
  · unfold stI
    rw [lo 0 (by omega), lo 1 (by omega), lo 2 (by omega), lo 3 (by omega), lo 4 (by omega), lo 5 (by omega), lo 6 (by omega)]
    exact ⟨b0, b1, b2, b3, b4, b5, b6⟩
  · unfold scI
    rw [lo 7 (by omega), lo 9 (by omega), lo 10 (by omega), lo 15 (by omega), lo 16 (by omega), e11]
    exact ⟨a7, a9, a10, by omega, fun _ => by omega, fun z => by omega⟩
/-- fields 12 to 16, and the state as it was -/
theorem jB_fd {k : Nat} {v w : Rw} (h : jB k v) (h7 : v 7 ≠ 1) (e : ∀ i, ¬ (13 ≤ i ∧ i < 17) → w i = v i) : jB k w := by
  have hB := h
  obtain ⟨hz, hE, ⟨b0, b1, b2, b3, b4, b5, b6⟩, ⟨a7, a9, a10, a11, a70, a71⟩, h12, _⟩ := h
  refine jB_sc hB (fun i hi => by rw [e i (by omega)]; exact hz i hi) (gE_fr hE ⟨e 11 (by omega), fun i hi => e i (by omega)⟩) ?_ ?_ (by rw [e 12 (by omega)]; exact h12) (fun i hi => e i (by omega))
  · unfold stI
    rw [e 0 (by omega), e 1 (by omega), e 2 (by omega), e 3 (by omega), e 4 (by omega), e 5 (by omega), e 6 (by omega)]
    exact ⟨b0, b1, b2, b3, b4, b5, b6⟩
  · unfold scI
    rw [e 7 (by omega), e 9 (by omega), e 10 (by omega), e 11 (by omega)]
    exact ⟨a7, a9, a10, a11, a70, fun z => absurd z h7⟩
theorem jI_ak {k : Nat} {v : Rw} {q p e : Int} (h : jI k v) (h7 : v 7 = 0) (h11 : v 11 ≤ 199) (hp : p = 0 ∨ p = 1) (hq : q = 2 ∨ (q = 1 ∧ 1 ≤ v (hs p 4))) (he : 2 ≤ e) : jI k (akF v q p e) := by
  obtain ⟨hB, hfl, _⟩ := h
  have h9 := jB_9 hB
  have z11 : 0 ≤ v 11 := by have := hB.2.2.2.1.2.2.1.1; have := hB.2.2.2.1.2.2.2.1.1; omega
  have e1 : ∀ i, ¬ (13 ≤ i ∧ i < 17) → u1 (u1 v 13 q) 14 p i = v i := fun i hi => by rw [u1_ne (by omega), u1_ne (by omega)]
  have e11 := e1 11 (by omega)
  have h1 : jB k (u1 (u1 v 13 q) 14 p) := jB_fd hB (by omega) e1
  have h2 := jB_wr (e := e) (a := 0) h1 (by omega) (by rw [e1 7 (by omega)]; exact h7) he (by omega)
  have lo : ∀ i, i < 1090 ∧ i ≠ 11 → akF v q p e i = u1 (u1 v 13 q) 14 p i := fun i hi => wrF_lo (by omega) hi
  have l13 : akF v q p e 13 = q := by rw [lo 13 (by omega), u1_ne (by omega), u1_eq]
  have l14 : akF v q p e 14 = p := by rw [lo 14 (by omega), u1_eq]
  refine ⟨h2, flg_cg hfl h9 ?_ ?_ ?_ (fun i hi => ?_), fun _ => ⟨?_, by rw [l13]; omega, by rw [l14]; exact hp⟩, fun z => ?_⟩
  · rw [lo 7 (by omega), e1 7 (by omega)]
  · rw [lo 5 (by omega), e1 5 (by omega)]
  · rw [lo 9 (by omega), e1 9 (by omega)]
  · rw [lo i (by omega), e1 i (by omega)]
  · rw [lo 7 (by omega), e1 7 (by omega)]; exact h7
  · rw [l13] at z
    rw [l14, lo (hs p 4) (by unfold hs; omega), e1 (hs p 4) (by unfold hs; omega)]
    omega
theorem jI_rf {k : Nat} {v : Rw} (h : jI k v) (h7 : v 7 = 0) (h11 : v 11 ≤ 199) : jI k (clF (wrF v 3 0 0 0 0)) := by
  obtain ⟨hB, hfl, _⟩ := h
  have h9 := jB_9 hB
  have z11 : 0 ≤ v 11 := by have := hB.2.2.2.1.2.2.1.1; have := hB.2.2.2.1.2.2.2.1.1; omega
  have h1 := jB_wr (e := 3) (a := 0) hB h11 h7 (by omega) (by omega)
  have lo : ∀ i, i < 1090 ∧ i ≠ 11 → wrF v 3 0 0 0 0 i = v i := fun i hi => wrF_lo z11 hi
  have h2 : jB k (clF (wrF v 3 0 0 0 0)) := jB_fd h1 (by rw [lo 7 (by omega)]; omega) (fun i hi => clF_lo (by omega))
  have l13 : clF (wrF v 3 0 0 0 0) 13 = 0 := by unfold clF; rw [u1_ne (by omega), u1_eq]
  refine ⟨h2, flg_cg hfl h9 ?_ ?_ ?_ (fun i hi => ?_), fun z => absurd l13 z, fun z => by omega⟩
  · rw [clF_lo (by omega), lo 7 (by omega)]
  · rw [clF_lo (by omega), lo 5 (by omega)]
  · rw [clF_lo (by omega), lo 9 (by omega)]
  · rw [clF_lo (by omega), lo i (by omega)]
