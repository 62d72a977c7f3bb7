theorem mvB_o {v : Rw} {f t kind : Int} (h9 : v 9 = 0 ∨ v 9 = 1) (h11 : 0 ≤ v 11) (h10 : 0 ≤ v 10 ∧ v 10 ≤ 199) (hf : isC f) (ht : isC t) {i : Int} (hi : i < 1090 ∧ ¬ (9 ≤ i ∧ i < 15) ∧ ¬ (20 ≤ i ∧ i < 56) ∧ i ≠ 56 + 8 * v 9 ∧ i ≠ 56 + 8 * v 9 + 3 ∧ i ≠ 56 + 8 * v 9 + 4 ∧ ¬ (80 + 5 * v 10 ≤ i ∧ i < 85 + 5 * v 10)) : mvB v f t kind i = v i := by
  rw [mvB_eq h9 h11 h10 hf ht]
  unfold mv1 hs
  simp (disch := omega) only [u1_ne, clF_lo, wrF_lo]
theorem mvB_v {v : Rw} {f t kind : Int} (h9 : v 9 = 0 ∨ v 9 = 1) (h11 : 0 ≤ v 11) (h10 : 0 ≤ v 10 ∧ v 10 ≤ 199) (hf : isC f) (ht : isC t) : (mvB v f t kind 10 = v 10 + 1 ∧ mvB v f t kind 12 = 0 ∧ mvB v f t kind 13 = 0) ∧ (mvB v f t kind (56 + 8 * v 9) = v (56 + 8 * v 9) + mvM v ∧ mvB v f t kind (56 + 8 * v 9 + 3) = v (56 + 8 * v 9 + 3) + mvM v ∧ mvB v f t kind (56 + 8 * v 9 + 4) = v (56 + 8 * v 9 + 4) + 1) ∧ (mvB v f t kind (80 + 5 * v 10) = f ∧ mvB v f t kind (80 + 5 * v 10 + 1) = t ∧ mvB v f t kind (80 + 5 * v 10 + 2) = mvT v t ∧ mvB v f t kind (80 + 5 * v 10 + 3) = mvM v ∧ mvB v f t kind (80 + 5 * v 10 + 4) = v 9) := by
  rw [mvB_eq h9 h11 h10 hf ht]
  unfold mv1 hs
  simp only [Int.add_zero]
  refine ⟨⟨?_, ?_, ?_⟩, ⟨?_, ?_, ?_⟩, ?_, ?_, ?_, ?_, ?_⟩ <;> simp (disch := omega) only [u1_ne, u1_eq]
  · unfold clF
    simp (disch := omega) only [u1_ne, u1_eq]
theorem jB_mvB {k : Nat} {v : Rw} {f t kind : Int} (h : jB k v) (h7 : v 7 = 0) (h11 : v 11 ≤ 199) (hf : isC f) (ht : isC t) (hk : kind = 0 ∨ kind = 1) (hk12 : Bd k ≤ 2147483647) (hy : why v f t = 0) : jB (k + 1) (mvB v f t kind) := by
  have h9 := jB_9 h
  have hsd := fun p hp => jB_s (p := p) h hp
  obtain ⟨hz, hE, ⟨b0, b1, b2, b3, b4, b5, b6⟩, ⟨a7, a9, a10, a11, a70, a71⟩, h12, hbI, _, _, hmd, hch⟩ := h
  have z11 : 0 ≤ v 11 := by omega
  have h10 : 0 ≤ v 10 ∧ v 10 ≤ 199 := by omega
  have hyy : v (20 + f) = v 9 + 1 ∧ v (20 + t) ≠ v 9 + 1 := by
    unfold why at hy
    (repeat' split at hy) <;> first | omega | (constructor <;> omega)
  have hft : f ≠ t := fun z => by rw [z] at hyy; omega
  have bt := hbI t ht
  have hM : 0 ≤ mvM v ∧ mvM v ≤ 11000 := by unfold mvM; split <;> omega
  have hT : mvT v t = 0 ∨ mvT v t = 1 := by unfold mvT; split <;> omega
  have e9 := mvB_9 (kind := kind) h9 z11 h10 hf ht
  have e11 := mvB_11 (kind := kind) h9 z11 h10 hf ht
  obtain ⟨⟨e10, e12, e13⟩, ⟨s0, s3, s4⟩, m0, m1, m2, m3, m4⟩ := mvB_v (kind := kind) h9 z11 h10 hf ht
  have eo := fun i hi => mvB_o (kind := kind) (i := i) h9 z11 h10 hf ht hi
  have eb := fun i hi => mvB_lo (kind := kind) (i := i) h9 z11 h10 hf ht hi
  have hbd : Bd (k + 1) = Bd k + 22000 := by unfold Bd; omega
  have sdp : sdI (k + 1) (mvB v f t kind) (v 9) := by
    obtain ⟨q0, q1, q2, q3, q4, q5⟩ := hsd (v 9) h9
    unfold sdI hs at *
    simp only [Int.add_zero] at *
    rw [s0, s3, s4, eo (56 + 8 * v 9 + 1) (by omega), eo (56 + 8 * v 9 + 2) (by omega), eo (56 + 8 * v 9 + 5) (by omega), e10]
    exact ⟨by omega, by omega, by omega, by omega, by omega, by omega⟩
  have sdq : sdI (k + 1) (mvB v f t kind) (1 - v 9) := by
    obtain ⟨q0, q1, q2, q3, q4, q5⟩ := hsd (1 - v 9) (by omega)
    unfold sdI hs at *
    simp only [Int.add_zero] at *
    rw [eo (56 + 8 * (1 - v 9)) (by omega), eo (56 + 8 * (1 - v 9) + 1) (by omega), eo (56 + 8 * (1 - v 9) + 2) (by omega), eo (56 + 8 * (1 - v 9) + 3) (by omega), eo (56 + 8 * (1 - v 9) + 4) (by omega), eo (56 + 8 * (1 - v 9) + 5) (by omega), e10]
    exact ⟨by omega, by omega, by omega, by omega, by omega, by omega⟩
  have hbr : ∀ c, isC c → mvB v f t kind (20 + c) = u1 (u1 (brd v) f 0) t (v 9 + 1) c := by
    intro c hc
    rw [eb (20 + c) (by omega)]
    unfold u1 brd
    (repeat' split) <;> first | rfl | omega | exact wrF_lo z11 (by omega)
  refine ⟨?_, mvB_gE hE h9 z11 h10 (by omega) hf ht, ?_, ?_, by rw [e12]; omega, ?_, ?_, ?_, ?_, ?_⟩
  · intro i hi
    rcases hi with hi | hi
    · rw [eo i (by omega)]; exact hz i (by omega)
    · rw [eb i (by omega), u1_ne (by omega), u1_ne (by omega)]
      exact zo_wr hz (by omega) i (by omega)
  · unfold stI
    rw [eo 0 (by omega), eo 1 (by omega), eo 2 (by omega), eo 3 (by omega), eo 4 (by omega), eo 5 (by omega), eo 6 (by omega)]
    exact ⟨b0, b1, b2, b3, b4, b5, b6⟩
  · unfold scI
    rw [eo 7 (by omega), e9, e10, e11]
    exact ⟨a7, by omega, by omega, by omega, fun _ => by omega, fun z => by omega⟩
  · intro c hc
    rw [hbr c hc]
    have := hbI c hc
    unfold u1 brd
    (repeat' split) <;> omega
  · rcases h9 with e | e
    · rw [e] at sdp; exact sdp
    · rw [e] at sdq; exact sdq
  · rcases h9 with e | e
    · rw [e] at sdq; exact sdq
    · rw [e] at sdp; exact sdp
  · intro i hi
    rw [e10] at hi
    by_cases q : i = v 10
    · subst q
      rw [m4, m0, m1, m2, m3]
      exact ⟨a9, hf, ht, hT, hM⟩
    · rw [eo (80 + 5 * i) (by omega), eo (80 + 5 * i + 1) (by omega), eo (80 + 5 * i + 2) (by omega), eo (80 + 5 * i + 3) (by omega), eo (80 + 5 * i + 4) (by omega)]
      exact hmd i (by omega)
  · rw [e10, show (v 10 + 1).toNat = (v 10).toNat + 1 by omega]
    have ei : (((v 10).toNat : Nat) : Int) = v 10 := by omega
    refine ⟨?_, ?_⟩
    · rw [ei, m1, m4]
      unfold brd
      rw [hbr t ht, u1_eq]
    · refine ch_cg (M := v) _ _ (fun i g1 g2 => eo i (by omega)) (ch_b _ (brd v) _ (fun i hi => ?_) (fun c hc => ?_) hch)
      · have := hmd i (by omega)
        exact ⟨this.2.1, this.2.2.1⟩
      · unfold unB
        rw [ei, m0, m1, m2, m4]
        have hb := hbr c hc
        have eT : mvT v t = (if v (20 + t) = 0 then 0 else 1) := rfl
        unfold u1
        by_cases c1 : c = t
        · rw [if_pos c1, c1]
          unfold brd
          (repeat' split at eT) <;> (repeat' split) <;> omega
        · rw [if_neg c1]
          by_cases c2 : c = f
          · rw [if_pos c2, c2]; unfold brd; omega
          · rw [if_neg c2]
            unfold brd at hb ⊢
            rw [hb, u1_ne c1, u1_ne c2]
