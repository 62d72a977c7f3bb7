theorem unC_o {v : Rw} (hI : uI v) {i : Int} (hi : i ≠ 9 ∧ i ≠ 10 ∧ ¬ (20 ≤ i ∧ i < 56) ∧ i ≠ 56 + 8 * v (unK v + 4) ∧ i ≠ 56 + 8 * v (unK v + 4) + 3 ∧ i ≠ 56 + 8 * v (unK v + 4) + 4) : unC v i = v i := by
  obtain ⟨h10, h4, hf, ht, _⟩ := hI
  unfold unC unF un5 un4 un3 un2 un1 hs
  simp (disch := omega) only [u1_ne]
theorem unC_9 {v : Rw} : unC v 9 = 1 - v 9 := u1_eq
theorem unC_10 {v : Rw} (hI : uI v) : unC v 10 = v 10 - 1 := by
  obtain ⟨h10, h4, hf, ht, _⟩ := hI
  unfold unC unF un5 un4 un3 un2 un1 hs
  simp (disch := omega) only [u1_ne, u1_eq]
theorem unC_s {v : Rw} (hI : uI v) : unC v (56 + 8 * v (unK v + 4)) = v (56 + 8 * v (unK v + 4)) - v (unK v + 3) ∧ unC v (56 + 8 * v (unK v + 4) + 3) = v (56 + 8 * v (unK v + 4) + 3) - v (unK v + 3) ∧ unC v (56 + 8 * v (unK v + 4) + 4) = v (56 + 8 * v (unK v + 4) + 4) - 1 := by
  obtain ⟨h10, h4, hf, ht, _⟩ := hI
  unfold unC unF un5 un4 un3 un2 un1 hs
  simp only [Int.add_zero]
  simp (disch := omega) only [u1_ne, u1_eq, and_self]
theorem jB_un {k : Nat} {v : Rw} (hk : k ≤ 40000) (h : jB k v) (h10 : 1 ≤ v 10) : jB (k + 1) (unC v) := by
  obtain ⟨hI, hJ, h4⟩ := jB_uI hk h h10
  have h9 := jB_9 h
  have e9 := unC_9 (v := v)
  have e10 := unC_10 hI
  obtain ⟨es0, es3, es4⟩ := unC_s hI
  have eo := fun i hi => unC_o (i := i) hI hi
  have hbd : Bd (k + 1) = Bd k + 22000 := by unfold Bd; omega
  have hsd := fun p hp => jB_s (p := p) h hp
  obtain ⟨hz, hE, ⟨b0, b1, b2, b3, b4, b5, b6⟩, ⟨a7, a9, a10, a11, a70, a71⟩, h12, hbI, _, _, hmd, hch⟩ := h
  have eK : unK v = 80 + 5 * (v 10 - 1) := rfl
  obtain ⟨m4, m0, m1, m2, m3⟩ := hmd (v 10 - 1) (by omega)
  rw [← eK] at m0 m1 m2 m3
  have hbr : ∀ c, isC c → brd (unC v) c = unB (brd v) v ((v 10).toNat - 1) c := fun c hc => brd_un hI hc
  generalize hp : v (unK v + 4) = p at *
  have hp2 : p = 0 ∨ p = 1 := by omega
  have sdp : sdI (k + 1) (unC v) p := by
    obtain ⟨q0, q1, q2, q3, q4, q5⟩ := hsd p hp2
    unfold sdI hs at *
    simp only [Int.add_zero] at *
    rw [es0, es3, es4, eo (56 + 8 * p + 1) (by omega), eo (56 + 8 * p + 2) (by omega), eo (56 + 8 * p + 5) (by omega), e10]
    refine ⟨by omega, by omega, by omega, by omega, by omega, by omega⟩
  have sdq : sdI (k + 1) (unC v) (1 - p) := by
    obtain ⟨q0, q1, q2, q3, q4, q5⟩ := hsd (1 - p) (by omega)
    unfold sdI hs at *
    simp only [Int.add_zero] at *
    rw [eo (56 + 8 * (1 - p)) (by omega), eo (56 + 8 * (1 - p) + 1) (by omega), eo (56 + 8 * (1 - p) + 2) (by omega), eo (56 + 8 * (1 - p) + 3) (by omega), eo (56 + 8 * (1 - p) + 4) (by omega), eo (56 + 8 * (1 - p) + 5) (by omega), e10]
    refine ⟨by omega, by omega, by omega, by omega, by omega, by omega⟩
  refine ⟨?_, ?_, ?_, ?_, ?_, ?_, ?_, ?_, ?_, ?_⟩
  · intro i hi
    rw [eo i (by omega)]
    exact hz i hi
  · exact gE_fr hE ⟨eo 11 (by omega), fun i hi => eo i (by omega)⟩
  · unfold stI
    rw [eo 0 (by omega), eo 1 (by omega), eo 2 (by omega), eo 3 (by omega), eo 4 (by omega), eo 5 (by omega), eo 6 (by omega)]
    exact ⟨b0, b1, b2, b3, b4, b5, b6⟩
  · unfold scI
    rw [eo 7 (by omega), e9, e10, eo 11 (by omega), eo 15 (by omega), eo 16 (by omega)]
    exact ⟨a7, by omega, by omega, by omega, a70, a71⟩
  · rw [eo 12 (by omega)]; omega
  · intro c hc
    have := hbr c hc
    unfold brd unB at this
    rw [this]
    have ei : (((v 10).toNat - 1 : Nat) : Int) = v 10 - 1 := by omega
    rw [ei, ← eK, hp]
    have := hbI c hc
    unfold u1
    (repeat' split) <;> omega
  · rcases hp2 with e | e
    · rw [e] at sdp; exact sdp
    · rw [e] at sdq; exact sdq
  · rcases hp2 with e | e
    · rw [e] at sdq; exact sdq
    · rw [e] at sdp; exact sdp
  · intro i hi
    rw [e10] at hi
    rw [eo (80 + 5 * i + 4) (by omega), eo (80 + 5 * i) (by omega), eo (80 + 5 * i + 1) (by omega), eo (80 + 5 * i + 2) (by omega), eo (80 + 5 * i + 3) (by omega)]
    exact hmd i (by omega)
  · rw [e10]
    have hn : (v 10).toNat = (v 10 - 1).toNat + 1 := by omega
    rw [hn] at hch
    have hch2 := hch.2
    have e1 : (v 10).toNat - 1 = (v 10 - 1).toNat := by omega
    rw [e1] at hbr
    refine ch_cg (M := v) _ _ (fun i g1 g2 => eo i (by omega)) (ch_b _ _ _ (fun i hi => ?_) hbr hch2)
    have := hmd i (by omega)
    exact ⟨this.2.1, this.2.2.1⟩
