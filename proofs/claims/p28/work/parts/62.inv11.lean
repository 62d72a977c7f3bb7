theorem unT_C {k : Nat} {w : Rw} {p n : Int} (hk : k ≤ 39000) (h : jB k w) (h10 : 1 ≤ w 10) (hp : p = 0 ∨ p = 1) (hn : (n = 1 ∧ p = 1 - w 9) ∨ (n = 2 ∧ p = w 9 ∧ 2 ≤ w 10)) : jB (k + 2) (u1 (unT w n) 9 p) ∧ unT w n 7 = w 7 := by
  have h1 := jB_un (k := k) (by omega) h h10
  obtain ⟨hI, hJ, h4⟩ := jB_uI (k := k) (by omega) h h10
  unfold unT
  rcases hn with ⟨rfl, e⟩ | ⟨rfl, e, h2⟩
  · rw [if_pos rfl, e]
    exact ⟨jB_mono (by omega) h1, unF_o hI (by omega)⟩
  · rw [if_neg (by omega)]
    have e10 := unC_10 hI
    obtain ⟨hI1, _, _⟩ := jB_uI (k := k + 1) (by omega) h1 (by omega)
    have h2 := jB_un (k := k + 1) (by omega) h1 (by omega)
    have e9 : unC w 9 = 1 - w 9 := u1_eq
    have e2 : unC (unC w) = u1 (unF (unC w)) 9 (1 - unC w 9) := rfl
    have e3 : unF (unC w) = u1 (unF (unF w)) 9 (1 - w 9) := unF_9 (uI_b hI1)
    rw [e2, e9, e3, u1_u1, show 1 - (1 - w 9) = p by omega] at h2
    refine ⟨h2, ?_⟩
    rw [unF_o (uI_b hI1) (by omega), unF_o hI (by omega)]
theorem jI_tb {k : Nat} {v : Rw} {p : Int} (hk : k ≤ 38000) (h : jI k v) (h7 : v 7 = 0) (h11 : v 11 ≤ 199) (hp : p = 0 ∨ p = 1) (hm : 1 ≤ v (hs p 4)) : jI (k + 3) (tbF v p) := by
  have hB := h.1
  have h9 := jB_9 hB
  obtain ⟨h10, h102, eb⟩ := jB_two (k := k) (by omega) hB hp hm
  have z11 : 0 ≤ v 11 := by have := hB.2.2.2.1.2.2.2.1.1; omega
  have hbk : bkN v p = 1 ∨ bkN v p = 2 := by unfold bkN; split <;> simp
  unfold tbF tb2 tb1
  generalize hn : bkN v p = n at *
  have lo : ∀ i, i < 1090 ∧ i ≠ 11 → wrF v 2 n 0 0 0 i = v i := fun i hi => wrF_lo z11 hi
  have h1 := jB_wr (e := 2) (a := n) hB h11 h7 (by omega) (by omega)
  have hU : jB (k + 2) (u1 (unT (wrF v 2 n 0 0 0) n) 9 p) ∧ unT (wrF v 2 n 0 0 0) n 7 = wrF v 2 n 0 0 0 7 := by
    refine unT_C (by omega) h1 (by rw [lo 10 (by omega)]; exact h10) hp ?_
    rw [lo 9 (by omega), lo 10 (by omega)]
    split at eb
    · exact Or.inr ⟨eb, by omega, h102 eb⟩
    · exact Or.inl ⟨eb, by omega⟩
  obtain ⟨hU, hU7⟩ := hU
  rw [lo 7 (by omega), h7] at hU7
  generalize unT (wrF v 2 n 0 0 0) n = X at *
  have h2 := jB_12 (p := p) (n := n) hU hp (by omega)
  have e : u1 (u1 (u1 X 9 p) (hs p 5) (u1 X 9 p (hs p 5) + n)) 12 0 = u1 (u1 (u1 X (hs p 5) (X (hs p 5) + n)) 9 p) 12 0 := by
    have : u1 X 9 p (hs p 5) = X (hs p 5) := u1_ne (by unfold hs; omega)
    rw [this]
    generalize X (hs p 5) + n = y
    unfold hs
    funext j
    unfold u1
    (repeat' split) <;> first | rfl | omega
  rw [e] at h2
  refine jI_fl (jB_fd h2 ?_ (fun i hi => clF_lo (by omega))) ?_
  · rw [u1_ne (by omega), u1_ne (by omega), u1_ne (by unfold hs; omega), hU7]; omega
  · have l13 : clF (u1 (u1 (u1 X (hs p 5) (X (hs p 5) + n)) 9 p) 12 0) 13 = 0 := by unfold clF; rw [u1_ne (by omega), u1_eq]
    exact ⟨fun z => absurd l13 z, fun z => by omega⟩
