theorem jI_pt {k : Nat} {v : Rw} {x : Int} (hk : k ≤ 39000) (h : jI k v) (hx : -1296 ≤ x ∧ x ≤ 9999) (hE : ¬ ptE v x) : jI (k + 1) (ptF v x) := by
  have hbd := Bd_le (k := k) (by omega)
  unfold ptE at hE
  unfold ptF
  by_cases h1 : 0 < x
  · rw [if_pos h1]
    exact jI_paF (by omega) h
  · rw [if_neg h1]
    by_cases h2 : x < 0
    · rw [if_pos h2]
      have hk : plE v ((-1 - x) / 36) ((-1 - x) % 36) = 0 := by
        by_cases q : plE v ((-1 - x) / 36) ((-1 - x) % 36) = 0
        · exact q
        · exact absurd (Or.inr ⟨h2, q⟩) hE
      have hk2 : (isC ((-1 - x) / 36) ∧ isC ((-1 - x) % 36)) ∧ v 7 = 0 ∧ why v ((-1 - x) / 36) ((-1 - x) % 36) = 0 ∧ v 11 ≤ 199 := by
        unfold plE at hk
        split at hk
        · omega
        · split at hk
          · omega
          · split at hk
            · omega
            · omega
      obtain ⟨⟨ha, ht⟩, h7, hy, h11⟩ := hk2
      exact jI_mvF h.1 h.2.1 h7 h11 ha ht (Or.inl rfl) (by omega) hy
    · rw [if_neg h2]
      exact jI_mono (by omega) h
