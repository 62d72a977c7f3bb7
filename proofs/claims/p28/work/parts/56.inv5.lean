theorem qI_cg {v w : Rw} (h : qI v) (h7 : w 7 = v 7) (h13 : w 13 = v 13) (h14 : w 14 = v 14) (hs4 : ∀ i, i = 60 ∨ i = 68 → w i = v i) : qI w := by
  unfold qI at *
  rw [h7, h13, h14]
  refine ⟨h.1, fun z => ?_⟩
  have h14 := (h.1 (by omega)).2.2
  rw [hs4 (hs (v 14) 4) (by unfold hs; omega)]
  exact h.2 z
theorem flg_cg {v w : Rw} (h : flg v) (h9 : v 9 = 0 ∨ v 9 = 1) (h7 : w 7 = v 7) (h5 : w 5 = v 5) (h99 : w 9 = v 9) (hs4 : ∀ i, i = 56 ∨ i = 64 → w i = v i) : flg w := by
  unfold flg at *
  rw [h7, h5, h99, hs4 (hs (v 9) 0) (by unfold hs; omega), hs4 (hs (1 - v 9) 0) (by unfold hs; omega)]
  exact h
theorem jI_stF {k : Nat} {v : Rw} {s x : Int} (h : jI k v) (hk : okS s x) : jI k (stF v s x) := by
  obtain ⟨hB, hf, hq⟩ := h
  have hB' := hB
  obtain ⟨hz, hE, ⟨b0, b1, b2, b3, b4, b5, b6⟩, hsc, h12, _⟩ := hB'
  obtain ⟨hs6, hx⟩ := hk
  have fr : ∀ i, ¬ (0 ≤ i ∧ i ≤ 6) → u1 v s x i = v i := fun i hi => u1_ne (by omega)
  unfold stF
  refine jI_fl (jB_sc hB (zo_u1 hz (by omega)) (gE_fr hE ⟨fr 11 (by omega), fun i hi => fr i (by omega)⟩) ?_ ?_ (by rw [fr 12 (by omega)]; exact h12) (fun i hi => fr i (by omega))) (qI_cg hq (fr _ (by omega)) (fr _ (by omega)) (fr _ (by omega)) (fun i hi => fr i (by omega)))
  · unfold mxS at hx
    unfold stI u1
    refine ⟨?_, ?_, ?_, ?_, ?_, ?_, ?_⟩ <;> (repeat' split) <;> (repeat' split at hx) <;> omega
  · unfold scI at *
    rw [fr 7 (by omega), fr 9 (by omega), fr 10 (by omega), fr 11 (by omega), fr 15 (by omega), fr 16 (by omega)]
    exact hsc
theorem jI_paF {k : Nat} {v : Rw} {n : Nat} (hn : 1 ≤ n ∧ n ≤ 9999) (h : jI k v) : jI (k + 1) (paF v n) := by
  by_cases h7 : v 7 = 0
  · obtain ⟨hB, hf, hq⟩ := h
    have h9 := jB_9 hB
    have hsd := fun p hp => jB_s (p := p) hB hp
    have hB' := hB
    obtain ⟨hz, hE, ⟨b0, b1, b2, b3, b4, b5, b6⟩, hsc, h12, hbI, _, _, hmd, hch⟩ := hB'
    have z11 : 0 ≤ v 11 := by have := hsc.2.2.1.1; have := hsc.2.2.2.1.1; omega
    have h200 := hsc.2.2.1.2
    rw [paF_cl n v h7 h9 z11 hf]
    have hfr : 0 ≤ fr v := by unfold fr; split <;> omega
    have hsp : 0 ≤ spn v n ∧ spn v n ≤ n := by
      unfold spn
      by_cases h5 : v 5 = 0
      · have := hf h7 h5
        rw [if_pos h5]
        split <;> omega
      · rw [if_neg h5]; omega
    generalize spn v n = s at *
    have hov : 0 ≤ ov v s ∧ ov v s ≤ s := by unfold ov; split <;> omega
    have eo := fun i hi => adv_i (v := v) (s := s) (i := i) h9 hi
    have e12 := adv_12 (v := v) (s := s) h9
    have e0 := adv_0 (v := v) (s := s)
    have e1 := adv_1 (v := v) (s := s)
    have e2 := adv_2 (v := v) (s := s)
    have lo : ∀ i, i ≠ 12 → ¬ (56 ≤ i ∧ i < 80) → adv v s i = v i := fun i q1 q2 => eo i (by unfold hs; omega)
    have hbd : Bd (k + 1) = Bd k + 22000 := by unfold Bd; omega
    have sdp : sdI (k + 1) (adv v s) (v 9) := by
      obtain ⟨q0, q1, q2, q3, q4, q5⟩ := hsd (v 9) h9
      unfold sdI
      rw [e0, e1, e2, eo (hs (v 9) 3) (by unfold hs; omega), eo (hs (v 9) 4) (by unfold hs; omega), eo (hs (v 9) 5) (by unfold hs; omega), lo 10 (by omega) (by omega)]
      exact ⟨by omega, by omega, by omega, by omega, q4, by omega⟩
    have sdq : sdI (k + 1) (adv v s) (1 - v 9) := by
      obtain ⟨q0, q1, q2, q3, q4, q5⟩ := hsd (1 - v 9) (by omega)
      unfold sdI
      rw [eo (hs (1 - v 9) 0) (by unfold hs; omega), eo (hs (1 - v 9) 1) (by unfold hs; omega), eo (hs (1 - v 9) 2) (by unfold hs; omega), eo (hs (1 - v 9) 3) (by unfold hs; omega), eo (hs (1 - v 9) 4) (by unfold hs; omega), eo (hs (1 - v 9) 5) (by unfold hs; omega), lo 10 (by omega) (by omega)]
      exact ⟨by omega, by omega, by omega, by omega, q4, by omega⟩
    refine jI_fl ⟨?_, gE_fr hE ⟨lo 11 (by omega) (by omega), fun i hi => lo i (by omega) (by omega)⟩, ?_, ?_, by rw [e12]; omega, fun c hc => by rw [lo _ (by omega) (by omega)]; exact hbI c hc, ?_, ?_, mdI_cg hmd (lo 10 (by omega) (by omega)) h200 (fun i hi => lo i (by omega) (by omega)), ch_rw hmd hch (lo 10 (by omega) (by omega)) h200 (fun i hi => lo i (by omega) (by omega))⟩ (qI_cg hq (lo _ (by omega) (by omega)) (lo _ (by omega) (by omega)) (lo _ (by omega) (by omega)) (fun i hi => eo i (by unfold hs; omega)))
    · intro i hi
      rw [lo i (by omega) (by omega)]
      exact hz i hi
    · unfold stI
      rw [lo 0 (by omega) (by omega), lo 1 (by omega) (by omega), lo 2 (by omega) (by omega), lo 3 (by omega) (by omega), lo 4 (by omega) (by omega), lo 5 (by omega) (by omega), lo 6 (by omega) (by omega)]
      exact ⟨b0, b1, b2, b3, b4, b5, b6⟩
    · unfold scI at *
      rw [lo 7 (by omega) (by omega), lo 9 (by omega) (by omega), lo 10 (by omega) (by omega), lo 11 (by omega) (by omega), lo 15 (by omega) (by omega), lo 16 (by omega) (by omega)]
      exact hsc
    · rcases h9 with e | e
      · rw [e] at sdp; exact sdp
      · rw [e] at sdq; exact sdq
    · rcases h9 with e | e
      · rw [e] at sdq; exact sdq
      · rw [e] at sdp; exact sdp
  · rw [paF_st h7]
    exact jI_mono (by omega) h
