/-! THE ROW'S INVARIANT; k: steps so far -/
def Bd (k : Nat) : Int := 100000 + 22000 * k
def stI (v : Rw) : Prop := (1 ≤ v 0 ∧ v 0 ≤ 100000) ∧ (0 ≤ v 1 ∧ v 1 ≤ 1000) ∧ (0 ≤ v 2 ∧ v 2 ≤ 1000) ∧ (0 ≤ v 3 ∧ v 3 ≤ 50) ∧ (0 ≤ v 4 ∧ v 4 ≤ 10000) ∧ (0 ≤ v 5 ∧ v 5 ≤ 1) ∧ 0 ≤ v 6 ∧ v 6 ≤ 20
def sdI (k : Nat) (v : Rw) (p : Int) : Prop := (-Bd k ≤ v (hs p 0) ∧ v (hs p 0) ≤ Bd k) ∧ (0 ≤ v (hs p 1) ∧ v (hs p 1) ≤ Bd k) ∧ (0 ≤ v (hs p 2) ∧ v (hs p 2) ≤ Bd k) ∧ (-Bd k ≤ v (hs p 3) ∧ v (hs p 3) ≤ Bd k) ∧ v (hs p 4) = (v 10 + 1 - p) / 2 ∧ 0 ≤ v (hs p 5) ∧ v (hs p 5) ≤ 2 * k
def mdI (v : Rw) : Prop := ∀ i, 0 ≤ i ∧ i < v 10 → v (80 + 5 * i + 4) = i % 2 ∧ isC (v (80 + 5 * i)) ∧ isC (v (80 + 5 * i + 1)) ∧ (v (80 + 5 * i + 2) = 0 ∨ v (80 + 5 * i + 2) = 1) ∧ 0 ≤ v (80 + 5 * i + 3) ∧ v (80 + 5 * i + 3) ≤ 11000
def unB (β M : Rw) (n : Nat) : Rw := u1 (u1 β (M (80 + 5 * n)) (M (80 + 5 * n + 4) + 1)) (M (80 + 5 * n + 1)) (if M (80 + 5 * n + 2) = 0 then 0 else 2 - M (80 + 5 * n + 4))
/-- the board bears the moves: each in its turn can be undone -/
def ch (M : Rw) : Nat → Rw → Prop
  | 0, _ => True
  | n + 1, β => β (M (80 + 5 * n + 1)) = M (80 + 5 * n + 4) + 1 ∧ ch M n (unB β M n)
def brd (v : Rw) : Rw := fun c => v (20 + c)
def scI (v : Rw) : Prop := (0 ≤ v 7 ∧ v 7 ≤ 4) ∧ v 9 = v 10 % 2 ∧ (0 ≤ v 10 ∧ v 10 ≤ 200) ∧ (v 10 ≤ v 11 ∧ v 11 ≤ 201) ∧ (v 7 = 0 → v 11 ≤ 200) ∧ (v 7 = 1 → v 11 ≤ 199 ∧ isC (v 15) ∧ isC (v 16)) ∧ (v 13 ≠ 0 → v 7 = 0 ∧ (v 13 = 1 ∨ v 13 = 2) ∧ (v 14 = 0 ∨ v 14 = 1)) ∧ (v 13 = 1 → 1 ≤ v (hs (v 14) 4))
def jI (k : Nat) (v : Rw) : Prop := zo v ∧ gE v ∧ stI v ∧ scI v ∧ (0 ≤ v 12 ∧ v 12 ≤ Bd k) ∧ bI v ∧ flg v ∧ sdI k v 0 ∧ sdI k v 1 ∧ mdI v ∧ ch v (v 10).toNat (brd v)
theorem jI_rwJ {k : Nat} {v : Rw} (h : jI k v) : rwJ v := by
  obtain ⟨hz, hE, _, hs4, _⟩ := h
  exact ⟨hz, hE, hs4.2.2.1.1, hs4.2.2.2.1.2⟩
theorem jI_s {k : Nat} {v : Rw} (h : jI k v) {p : Int} (hp : p = 0 ∨ p = 1) : sdI k v p := by
  obtain ⟨_, _, _, _, _, _, _, s0, s1, _⟩ := h
  rcases hp with rfl | rfl
  · exact s0
  · exact s1
theorem jI_9 {k : Nat} {v : Rw} (h : jI k v) : v 9 = 0 ∨ v 9 = 1 := by
  have := h.2.2.2.1.2.1
  omega
theorem Bd_le {k : Nat} (hk : k ≤ 40000) : 100000 ≤ Bd k ∧ Bd k ≤ 880100000 := by
  unfold Bd
  omega
theorem jI_tI {k : Nat} {v : Rw} (hk : k ≤ 40000) (h : jI k v) (h7 : v 7 = 0) : tI v 9999 := by
  have h9 := jI_9 h
  have hb := Bd_le hk
  obtain ⟨q0, q1, q2, q3, q4, q5⟩ := jI_s h h9
  obtain ⟨_, _, _, ⟨a7, a9, a10, a11, a70, _⟩, a12, _⟩ := h
  exact ⟨h9, by omega, by omega, by omega, by omega, by omega⟩
theorem jI_mI {k : Nat} {v : Rw} (hk : k ≤ 40000) (h : jI k v) (h11 : v 11 ≤ 199) : mI v := by
  have h9 := jI_9 h
  have hb := Bd_le hk
  obtain ⟨q0, q1, q2, q3, q4, q5⟩ := jI_s h h9
  obtain ⟨_, _, ⟨b0, b1, b2, b3, b4, _⟩, ⟨a7, a9, a10, a11, a70, _⟩, a12, _⟩ := h
  exact ⟨h9, by omega, by omega, by omega, by omega, by omega, by omega, by omega, by omega⟩
theorem jI_uI {k : Nat} {v : Rw} (hk : k ≤ 40000) (h : jI k v) (h10 : 1 ≤ v 10) : uI v ∧ uJ v ∧ v (unK v + 4) = 1 - v 9 := by
  have hb := Bd_le hk
  have h9 := jI_9 h
  have hsd := fun p hp => jI_s (p := p) h hp
  obtain ⟨_, _, _, ⟨a7, a9, a10, a11, _⟩, a12, hbI, hfl, _, _, hmd, hch⟩ := h
  have eK : unK v = 80 + 5 * (v 10 - 1) := rfl
  obtain ⟨m4, m0, m1, m2, m3⟩ := hmd (v 10 - 1) (by omega)
  have e9 : v (unK v + 4) = 1 - v 9 := by rw [eK, m4]; omega
  have hp : v (unK v + 4) = 0 ∨ v (unK v + 4) = 1 := by omega
  obtain ⟨q0, q1, q2, q3, q4, q5⟩ := hsd _ hp
  have hn : (v 10).toNat = (v 10 - 1).toNat + 1 := by omega
  rw [hn] at hch
  have hc := hch.1
  have ei : (((v 10 - 1).toNat : Nat) : Int) = v 10 - 1 := by omega
  rw [ei] at hc
  unfold brd at hc
  rw [← eK] at m0 m1 m3 hc
  refine ⟨⟨by omega, hp, m0, m1, by omega, by omega, by omega, by omega⟩, ⟨by omega, ?_⟩, e9⟩
  exact hc
