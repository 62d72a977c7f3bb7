/-! THE ROW'S INVARIANT; k: steps so far -/
def Bd (k : Nat) : Int := 100000 + 22000 * k
def stI (v : Rw) : Prop := (1 ≤ v 0 ∧ v 0 ≤ 100000) ∧ (0 ≤ v 1 ∧ v 1 ≤ 1000) ∧ (0 ≤ v 2 ∧ v 2 ≤ 1000) ∧ (0 ≤ v 3 ∧ v 3 ≤ 50) ∧ (0 ≤ v 4 ∧ v 4 ≤ 10000) ∧ (0 ≤ v 5 ∧ v 5 ≤ 1) ∧ 0 ≤ v 6 ∧ v 6 ≤ 20
def sdI (k : Nat) (v : Rw) (p : Int) : Prop := (-Bd k ≤ v (hs p 0) ∧ v (hs p 0) ≤ Bd k) ∧ (0 ≤ v (hs p 1) ∧ v (hs p 1) ≤ Bd k) ∧ (0 ≤ v (hs p 2) ∧ v (hs p 2) ≤ Bd k) ∧ (-Bd k ≤ v (hs p 3) ∧ v (hs p 3) ≤ Bd k) ∧ v (hs p 4) = (v 10 + 1 - p) / 2 ∧ 0 ≤ v (hs p 5) ∧ v (hs p 5) ≤ 2 * k
def mdI (v : Rw) : Prop := ∀ i, 0 ≤ i ∧ i < v 10 → v (80 + 5 * i + 4) = i % 2 ∧ isC (v (80 + 5 * i)) ∧ isC (v (80 + 5 * i + 1)) ∧ (v (80 + 5 * i + 2) = 0 ∨ v (80 + 5 * i + 2) = 1) ∧ 0 ≤ v (80 + 5 * i + 3) ∧ v (80 + 5 * i + 3) ≤ 11000
def unB (β M : Rw) (n : Nat) : Rw := u1 (u1 β (M (80 + 5 * n)) (M (80 + 5 * n + 4) + 1)) (M (80 + 5 * n + 1)) (if M (80 + 5 * n + 2) = 0 then 0 else 2 - M (80 + 5 * n + 4))
/-- the board bears the moves: each in its turn can be undone -/
def ch (M : Rw) : Nat → Rw → Prop
  | 0, _ => True
  | n + 1, β => β (M (80 + 5 * n + 1)) = M (80 + 5 * n + 4) + 1 ∧ ch M n (unB β M n)
def brd (v : Rw) : Rw := fun c => v (20 + c)
def scI (v : Rw) : Prop := (0 ≤ v 7 ∧ v 7 ≤ 4) ∧ v 9 = v 10 % 2 ∧ (0 ≤ v 10 ∧ v 10 ≤ 200) ∧ (v 10 ≤ v 11 ∧ v 11 ≤ 201) ∧ (v 7 = 0 → v 11 ≤ 200) ∧ (v 7 = 1 → v 11 ≤ 199 ∧ isC (v 15) ∧ isC (v 16))
def qI (v : Rw) : Prop := (v 13 ≠ 0 → v 7 = 0 ∧ (v 13 = 1 ∨ v 13 = 2) ∧ (v 14 = 0 ∨ v 14 = 1)) ∧ (v 13 = 1 → 1 ≤ v (hs (v 14) 4))
def jB (k : Nat) (v : Rw) : Prop := zo v ∧ gE v ∧ stI v ∧ scI v ∧ (0 ≤ v 12 ∧ v 12 ≤ Bd k) ∧ bI v ∧ sdI k v 0 ∧ sdI k v 1 ∧ mdI v ∧ ch v (v 10).toNat (brd v)
def jI (k : Nat) (v : Rw) : Prop := jB k v ∧ flg v ∧ qI v
theorem jB_rwJ {k : Nat} {v : Rw} (h : jB k v) : rwJ v := by
  obtain ⟨hz, hE, _, hs4, _⟩ := h
  exact ⟨hz, hE, hs4.2.2.1.1, hs4.2.2.2.1.2⟩
theorem jB_s {k : Nat} {v : Rw} (h : jB k v) {p : Int} (hp : p = 0 ∨ p = 1) : sdI k v p := by
  obtain ⟨_, _, _, _, _, _, s0, s1, _⟩ := h
  rcases hp with rfl | rfl
  · exact s0
  · exact s1
theorem jB_9 {k : Nat} {v : Rw} (h : jB k v) : v 9 = 0 ∨ v 9 = 1 := by
  have := h.2.2.2.1.2.1
  omega
theorem Bd_le {k : Nat} (hk : k ≤ 40000) : 100000 ≤ Bd k ∧ Bd k ≤ 880100000 := by
  unfold Bd
  omega
theorem jB_tI {k : Nat} {v : Rw} (hk : k ≤ 40000) (h : jB k v) (h7 : v 7 = 0) : tI v 9999 := by
  have h9 := jB_9 h
  have hb := Bd_le hk
  obtain ⟨q0, q1, q2, q3, q4, q5⟩ := jB_s h h9
  obtain ⟨_, _, _, ⟨a7, a9, a10, a11, a70, _⟩, a12, _⟩ := h
  exact ⟨h9, by omega, by omega, by omega, by omega, by omega⟩
theorem jB_mI {k : Nat} {v : Rw} (hk : k ≤ 40000) (h : jB k v) (h11 : v 11 ≤ 199) : mI v := by
  have h9 := jB_9 h
  have hb := Bd_le hk
  obtain ⟨q0, q1, q2, q3, q4, q5⟩ := jB_s h h9
  obtain ⟨_, _, ⟨b0, b1, b2, b3, b4, _⟩, ⟨a7, a9, a10, a11, a70, _⟩, a12, _⟩ := h
  exact ⟨h9, by omega, by omega, by omega, by omega, by omega, by omega, by omega, by omega⟩
theorem jB_uI {k : Nat} {v : Rw} (hk : k ≤ 40000) (h : jB k v) (h10 : 1 ≤ v 10) : uI v ∧ uJ v ∧ v (unK v + 4) = 1 - v 9 := by
  have hb := Bd_le hk
  have h9 := jB_9 h
  have hsd := fun p hp => jB_s (p := p) h hp
  obtain ⟨_, _, _, ⟨a7, a9, a10, a11, _⟩, a12, hbI, _, _, hmd, hch⟩ := h
  have eK : unK v = 80 + 5 * (v 10 - 1) := rfl
  obtain ⟨m4, m0, m1, m2, m3⟩ := hmd (v 10 - 1) (by omega)
  have e9 : v (unK v + 4) = 1 - v 9 := by rw [eK, m4]; omega
  have hp : v (unK v + 4) = 0 ∨ v (unK v + 4) = 1 := by omega
  obtain ⟨q0, q1, q2, q3, q4, q5⟩ := hsd _ hp
  have hn : (v 10).toNat = (v 10 - 1).toNat + 1 := by omega
  rw [hn] at hch
  have hc := hch.1
  have ei : (((v 10 - 1).toNat : Nat) : Int) = v 10 - 1 := by omega
  rw [ei] at hc
  unfold brd at hc
  rw [← eK] at m0 m1 m3 hc
  refine ⟨⟨by omega, hp, m0, m1, by omega, by omega, by omega, by omega⟩, ⟨by omega, ?_⟩, e9⟩
  exact hc
theorem zo_u1 {v : Rw} {i x : Int} (h : zo v) (hi : 0 ≤ i ∧ i < 2120) : zo (u1 v i x) := by
  intro k hk
  rw [u1_ne (by omega)]
  exact h k hk
theorem jB_mono {k k' : Nat} {v : Rw} (hk : k ≤ k') (h : jB k v) : jB k' v := by
  have hb : Bd k ≤ Bd k' := by unfold Bd; omega
  obtain ⟨hz, hE, hst, hsc, h12, hbI, s0, s1, hmd, hch⟩ := h
  have sm : ∀ p, sdI k v p → sdI k' v p := by
    intro p ⟨q0, q1, q2, q3, q4, q5⟩
    exact ⟨by omega, by omega, by omega, by omega, q4, by omega⟩
  exact ⟨hz, hE, hst, hsc, by omega, hbI, sm 0 s0, sm 1 s1, hmd, hch⟩
theorem jI_mono {k k' : Nat} {v : Rw} (hk : k ≤ k') (h : jI k v) : jI k' v := ⟨jB_mono hk h.1, h.2⟩
theorem ch_cg {M M' : Rw} : ∀ (n : Nat) (β : Rw), (∀ i, 80 ≤ i → i < 80 + 5 * (n : Int) → M' i = M i) → ch M n β → ch M' n β
  | 0, _, _, _ => trivial
  | n + 1, β, h, hc => by
    obtain ⟨h1, h2⟩ := hc
    have e0 := h (80 + 5 * (n : Int)) (by omega) (by omega)
    have e1 := h (80 + 5 * (n : Int) + 1) (by omega) (by omega)
    have e2 := h (80 + 5 * (n : Int) + 2) (by omega) (by omega)
    have e4 := h (80 + 5 * (n : Int) + 4) (by omega) (by omega)
    refine ⟨by rw [e1, e4]; exact h1, ?_⟩
    have : unB β M' n = unB β M n := by
      unfold unB
      rw [e0, e1, e2, e4]
    rw [this]
    exact ch_cg n _ (fun i g1 g2 => h i g1 (by omega)) h2
theorem ch_b {M : Rw} : ∀ (n : Nat) (β β' : Rw), (∀ i : Nat, i < n → isC (M (80 + 5 * i)) ∧ isC (M (80 + 5 * i + 1))) → (∀ c, isC c → β' c = β c) → ch M n β → ch M n β'
  | 0, _, _, _, _, _ => trivial
  | n + 1, β, β', hM, hb, hc => by
    obtain ⟨h1, h2⟩ := hc
    obtain ⟨m0, m1⟩ := hM n (by omega)
    refine ⟨by rw [hb _ m1]; exact h1, ?_⟩
    refine ch_b n _ _ (fun i hi => hM i (by omega)) (fun c hc => ?_) h2
    unfold unB
    exact u1_cg (u1_cg (hb c hc))
/-- the board of a row whose last move is undone -/
theorem brd_un {v : Rw} (hI : uI v) {c : Int} (hc : isC c) : brd (unC v) c = unB (brd v) v ((v 10).toNat - 1) c := by
  obtain ⟨h10, h4, hf, ht, _⟩ := hI
  have ei : (((v 10).toNat - 1 : Nat) : Int) = v 10 - 1 := by omega
  have eK : unK v = 80 + 5 * (v 10 - 1) := rfl
  unfold brd unC unF un5 un4 un3 un2 un1 unB
  rw [ei, ← eK]
  unfold hs
  simp (disch := omega) only [u1_ne]
  unfold u1
  (repeat' split) <;> first | rfl | omega
