theorem jB_mvF {k : Nat} {v : Rw} {f t kind : Int} (h : jB k v) (h7 : v 7 = 0) (h11 : v 11 ≤ 199) (hf : isC f) (ht : isC t) (hk : kind = 0 ∨ kind = 1) (hk12 : Bd k ≤ 2147483647) (hy : why v f t = 0) : jB (k + 1) (mvF v f t kind) ∧ qI (mvF v f t kind) := by
  have hB := jB_mvB h h7 h11 hf ht hk hk12 hy
  have h9 := jB_9 h
  obtain ⟨_, _, _, ⟨a7, a9, a10, a11, a70, a71⟩, _⟩ := h
  have z11 : 0 ≤ v 11 := by omega
  have h10 : 0 ≤ v 10 ∧ v 10 ≤ 199 := by omega
  have e11 := mvB_11 (kind := kind) h9 z11 h10 hf ht
  obtain ⟨⟨e10, e12, e13⟩, _⟩ := mvB_v (kind := kind) h9 z11 h10 hf ht
  unfold mvF
  rcases mvE_c (w := mvB v f t kind) (p := v 9) (t := t) with q | ⟨st, re, hst, hre, q⟩
  · rw [q]
    exact ⟨hB, fun z => absurd e13 z, fun z => by omega⟩
  · rw [q]
    have := jI_en (st := st) hB (by omega) (by omega) hre
    exact ⟨this.1, this.2.2⟩
theorem jI_rm {k : Nat} {v : Rw} (h : jI k v) (h7 : v 7 = 1) (hk12 : Bd k ≤ 2147483647) : jI (k + 1) (rmF v) := by
  obtain ⟨hB, hfl, hq⟩ := h
  have hB' := hB
  obtain ⟨hz, hE, ⟨b0, b1, b2, b3, b4, b5, b6⟩, ⟨a7, a9, a10, a11, a70, a71⟩, h12, _⟩ := hB'
  obtain ⟨h11, c15, c16⟩ := a71 h7
  have z11 : 0 ≤ v 11 := by omega
  have fr : ∀ i, i ≠ 7 → rmW v i = v i := fun i hi => u1_ne hi
  have r7 : rmW v 7 = 0 := u1_eq
  have h1 : jB k (rmW v) := by
    refine jB_sc hB (zo_u1 hz (by omega)) (gE_fr hE ⟨fr 11 (by omega), fun i hi => fr i (by omega)⟩) ?_ ?_ (by rw [fr 12 (by omega)]; exact h12) (fun i hi => fr i (by omega))
    · unfold stI
      rw [fr 0 (by omega), fr 1 (by omega), fr 2 (by omega), fr 3 (by omega), fr 4 (by omega), fr 5 (by omega), fr 6 (by omega)]
      exact ⟨b0, b1, b2, b3, b4, b5, b6⟩
    · unfold scI
      rw [r7, fr 9 (by omega), fr 10 (by omega), fr 11 (by omega)]
      exact ⟨by omega, a9, a10, a11, fun z => by omega, fun z => by omega⟩
  have f11 := fr 11 (by omega)
  unfold rmF
  by_cases hy : why (rmW v) (v 15) (v 16) = 0
  · rw [if_pos hy]
    obtain ⟨m1, m2⟩ := jB_mvF h1 r7 (by omega) c15 c16 (Or.inr rfl) hk12 hy
    exact jI_fl m1 m2
  · rw [if_neg hy]
    have lo : ∀ i, i < 1090 ∧ i ≠ 11 → wrF (rmW v) 1 (v 12) (v 15) (v 16) 0 i = rmW v i := fun i hi => wrF_lo (by omega) hi
    have e11 := wrF_11 (v := rmW v) (k := 1) (a := v 12) (b := v 15) (c := v 16) (t := 0)
    have h2 : jB k (wrF (rmW v) 1 (v 12) (v 15) (v 16) 0) := by
      refine jB_sc h1 (zo_wr h1.1 (by omega)) (gE_wr h1.2.1 (by omega) (by omega) (fun _ => ⟨c15, c16⟩)) ?_ ?_ (by rw [lo 12 (by omega), fr 12 (by omega)]; exact h12) (fun i hi => lo i (by omega))
      · unfold stI
        rw [lo 0 (by omega), lo 1 (by omega), lo 2 (by omega), lo 3 (by omega), lo 4 (by omega), lo 5 (by omega), lo 6 (by omega)]
        exact h1.2.2.1
      · unfold scI
        rw [lo 7 (by omega), lo 9 (by omega), lo 10 (by omega), e11, r7, f11, fr 9 (by omega), fr 10 (by omega)]
        exact ⟨by omega, a9, a10, by omega, fun z => by omega, fun z => by omega⟩
    unfold loF
    exact jI_mono (by omega) (jI_en h2 (by omega) (by split <;> omega) (by omega))
