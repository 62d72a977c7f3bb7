theorem jB_12 {k : Nat} {v : Rw} {p n : Int} (h : jB k v) (hp : p = 0 ∨ p = 1) (hn : 0 ≤ n ∧ n ≤ 2) : jB (k + 1) (u1 (u1 v (hs p 5) (v (hs p 5) + n)) 12 0) := by
  have hm := jB_mono (k' := k + 1) (by omega) h
  have hsd := fun q hq => jB_s (p := q) h hq
  obtain ⟨hz, hE, ⟨b0, b1, b2, b3, b4, b5, b6⟩, hsc, h12, hbI, s0, s1, hmd, hch⟩ := h
  have h200 := hsc.2.2.1.2
  have fr : ∀ i, i ≠ 12 → i ≠ hs p 5 → u1 (u1 v (hs p 5) (v (hs p 5) + n)) 12 0 i = v i := fun i q1 q2 => by rw [u1_ne q1, u1_ne q2]
  have hbd : Bd (k + 1) = Bd k + 22000 := by unfold Bd; omega
  have hb0 : 0 ≤ Bd k := by unfold Bd; omega
  have l5 : u1 (u1 v (hs p 5) (v (hs p 5) + n)) 12 0 (hs p 5) = v (hs p 5) + n := by rw [u1_ne (by unfold hs; omega), u1_eq]
  have sdp : sdI (k + 1) (u1 (u1 v (hs p 5) (v (hs p 5) + n)) 12 0) p := by
    obtain ⟨q0, q1, q2, q3, q4, q5⟩ := hsd p hp
    unfold sdI
    rw [l5, fr (hs p 0) (by unfold hs; omega) (by unfold hs; omega), fr (hs p 1) (by unfold hs; omega) (by unfold hs; omega), fr (hs p 2) (by unfold hs; omega) (by unfold hs; omega), fr (hs p 3) (by unfold hs; omega) (by unfold hs; omega), fr (hs p 4) (by unfold hs; omega) (by unfold hs; omega), fr 10 (by omega) (by unfold hs; omega)]
    exact ⟨by omega, by omega, by omega, by omega, q4, by omega⟩
  have sdq : sdI (k + 1) (u1 (u1 v (hs p 5) (v (hs p 5) + n)) 12 0) (1 - p) := by
    obtain ⟨q0, q1, q2, q3, q4, q5⟩ := hsd (1 - p) (by omega)
    unfold sdI
    rw [fr (hs (1 - p) 0) (by unfold hs; omega) (by unfold hs; omega), fr (hs (1 - p) 1) (by unfold hs; omega) (by unfold hs; omega), fr (hs (1 - p) 2) (by unfold hs; omega) (by unfold hs; omega), fr (hs (1 - p) 3) (by unfold hs; omega) (by unfold hs; omega), fr (hs (1 - p) 4) (by unfold hs; omega) (by unfold hs; omega), fr (hs (1 - p) 5) (by unfold hs; omega) (by unfold hs; omega), fr 10 (by omega) (by unfold hs; omega)]
    exact ⟨by omega, by omega, by omega, by omega, q4, by omega⟩
  have lo : ∀ i, i ≠ 12 → ¬ (56 ≤ i ∧ i < 80) → u1 (u1 v (hs p 5) (v (hs p 5) + n)) 12 0 i = v i := fun i q1 q2 => fr i q1 (by unfold hs; omega)
  refine ⟨zo_u1 (zo_u1 hz (by unfold hs; omega)) (by omega), gE_fr hE ⟨lo 11 (by omega) (by omega), fun i hi => lo i (by omega) (by omega)⟩, ?_, ?_, by rw [u1_eq]; omega, fun c hc => by rw [lo _ (by omega) (by omega)]; exact hbI c hc, ?_, ?_, mdI_cg hmd (lo 10 (by omega) (by omega)) h200 (fun i hi => lo i (by omega) (by omega)), ch_rw hmd hch (lo 10 (by omega) (by omega)) h200 (fun i hi => lo i (by omega) (by omega))⟩
  · unfold stI
    rw [lo 0 (by omega) (by omega), lo 1 (by omega) (by omega), lo 2 (by omega) (by omega), lo 3 (by omega) (by omega), lo 4 (by omega) (by omega), lo 5 (by omega) (by omega), lo 6 (by omega) (by omega)]
    exact ⟨b0, b1, b2, b3, b4, b5, b6⟩
  · unfold scI at *
    rw [lo 7 (by omega) (by omega), lo 9 (by omega) (by omega), lo 10 (by omega) (by omega), lo 11 (by omega) (by omega), lo 15 (by omega) (by omega), lo 16 (by omega) (by omega)]
    exact hsc
  · rcases hp with e | e
    · rw [e] at sdp; rw [e]; exact sdp
    · rw [e] at sdq; rw [e]; exact sdq
  · rcases hp with e | e
    · rw [e] at sdq; rw [e]; exact sdq
    · rw [e] at sdp; rw [e]; exact sdp
