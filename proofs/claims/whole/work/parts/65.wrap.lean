/-! THE REFERENCE'S METHODS OVER ROW, HISTORY AND TEXT -/
theorem kp_rM {μ : Mem} {v w f T : Rw} {n m : Int} (h : rM μ v f n T m) : rM (sR (kpM μ 6) 6 w) w (kpP f v n) (kpN n) T m ∧ sC μ (sR (kpM μ 6) 6 w) := by
  obtain ⟨h6, h8, h3, h10, h7, hz⟩ := h
  refine ⟨⟨sR_eq, ?_, ?_, ?_, ?_, ?_⟩, fun a ha => ?_⟩
  · rw [sR_ne (by omega)]; unfold kpM; rw [sR_ne (by omega), sR_eq, h8, h6, h3]
  · rw [sR_ne (by omega)]; unfold kpM; rw [sR_eq, u1_eq, h3]
  · rw [sR_ne (by omega), kpM_o (by omega), h10]
  · rw [sR_ne (by omega)]; unfold kpM; rw [sR_eq, u1_ne (by omega), h7]
  · rw [sR_ne (by omega), kpM_o (by omega)]; exact hz
  · rw [sR_ne (by omega), kpM_o (by omega)]
theorem m_begin {μ : Mem} {v f T : Rw} {n m : Int} {Q : PQ} (h : rM μ v f n T m) (hn : 0 ≤ n ∧ n ≤ 6) (hQ : ∀ μ', rM μ' (bgF v) (kpP f v n) (kpN n) T m → sC μ μ' → Q (some (aI (v 11))) μ') : wpM 134 [aR 5] μ Q := by
  obtain ⟨r, s⟩ := kp_rM (w := bgF v) h
  exact c_begin h.1 (by rw [h.2.2.1]; exact hn) (hQ _ r s)
theorem m_set {μ : Mem} {v f T : Rw} {n m s x : Int} {Q : PQ} (h : rM μ v f n T m) (hn : 0 ≤ n ∧ n ≤ 6) (h9 : v 9 = 0 ∨ v 9 = 1) (h11 : 0 ≤ v 11 ∧ v 11 ≤ 204) (h0 : ¬ okS s x → Q (some (aI (-200001))) μ) (h1 : okS s x → ∀ μ', rM μ' (stF v s x) (kpP f v n) (kpN n) T m → sC μ μ' → Q (some (aI (v s))) μ') : wpM 135 [aR 5, aI s, aI x] μ Q := by
  obtain ⟨r, sc⟩ := kp_rM (w := stF v s x) h
  exact c_set h.1 (by rw [h.2.2.1]; exact hn) h9 h11 h0 (fun z => h1 z _ r sc)
theorem m_pass {μ : Mem} {v f T : Rw} {n m t : Int} {Q : PQ} (h : rM μ v f n T m) (hn : 0 ≤ n ∧ n ≤ 6) (hI : v 7 = 0 → tI v 9999) (h0 : ¬ (1 ≤ t ∧ t ≤ 9999) → Q (some (aI (-200001))) μ) (h1 : 1 ≤ t ∧ t ≤ 9999 → v 7 ≠ 0 → Q (some (aI (-200002))) μ) (h2 : 1 ≤ t ∧ t ≤ 9999 → v 7 = 0 → ∀ μ', rM μ' (paF v t.toNat) (kpP f v n) (kpN n) T m → sC μ μ' → Q (some (aI (paF v t.toNat (hs (v 9) 0)))) μ') : wpM 138 [aR 5, aI t] μ Q := by
  obtain ⟨r, sc⟩ := kp_rM (w := paF v t.toNat) h
  exact c_pass h.1 (by rw [h.2.2.1]; exact hn) hI h0 h1 (fun z z7 => h2 z z7 _ r sc)
