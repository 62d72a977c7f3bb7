/-! p28: WHAT THE PROPERTY ASKS OF A ROW, and how the acts keep it -/
def yG (v : Rw) : Prop := ∀ i, 0 ≤ i ∧ i < v 10 → ahd (v (80 + 5 * i + 4)) (v (80 + 5 * i)) (v (80 + 5 * i + 1)) ∧ (v (80 + 5 * i) % 6 = v (80 + 5 * i + 1) % 6 → v (80 + 5 * i + 2) = 0)
def yC (base : Int) (v : Rw) : Prop := ∀ p, p = 0 ∨ p = 1 → v (hs p 0) = base + v (hs p 3) - v (hs p 1) ∧ v (hs p 1) ≤ v (hs p 2)
def yS (v : Rw) : Prop := (v 7 < 2 ↔ v 8 = 0) ∧ (v 7 = 4 ↔ v 8 = 6)
def yQ (v : Rw) : Prop := v 13 = 0 ↔ v 14 = -200009
def yY (base : Int) (v : Rw) : Prop := yG v ∧ yC base v ∧ yS v ∧ yQ v ∧ xE v
def yP (v : Rw) : Prop := v 7 = 0 → 1 ≤ pmN v
def yI (base : Int) (v : Rw) : Prop := yY base v ∧ yP v
theorem pmC_cg {v w : Rw} (h9 : w 9 = v 9) (h : ∀ i, 20 ≤ i ∧ i < 56 → w i = v i) : ∀ n : Nat, n ≤ 1296 → pmC w n = pmC v n
  | 0, _ => rfl
  | n + 1, hn => by
    have e : why w (n / 36 : Nat) (n % 36 : Nat) = why v (n / 36 : Nat) (n % 36 : Nat) := by
      unfold why
      rw [h9, h (20 + ((n / 36 : Nat) : Int)) (by omega), h (20 + ((n % 36 : Nat) : Int)) (by omega)]
    show pmC w n + (if why w (n / 36 : Nat) (n % 36 : Nat) = 0 then 1 else 0) = pmC v n + (if why v (n / 36 : Nat) (n % 36 : Nat) = 0 then 1 else 0)
    rw [pmC_cg h9 h n (by omega), e]
theorem pmN_cg {v w : Rw} (h9 : w 9 = v 9) (h : ∀ i, 20 ≤ i ∧ i < 56 → w i = v i) : pmN w = pmN v := pmC_cg h9 h 1296 (by omega)
theorem pmC_mono (v : Rw) (m : Nat) : ∀ j : Nat, pmC v m ≤ pmC v (m + j)
  | 0 => by simp
  | j + 1 => by
    have := pmC_mono v m j
    show pmC v m ≤ pmC v (m + j) + (if why v ((m + j) / 36 : Nat) ((m + j) % 36 : Nat) = 0 then 1 else 0)
    split <;> omega
theorem pm_pos {v : Rw} {f t : Int} (hf : isC f) (ht : isC t) (h : why v f t = 0) : 1 ≤ pmN v := by
  have e := pmC_s v f.toNat t.toNat (by omega)
  rw [show ((f.toNat : Nat) : Int) = f by omega, show ((t.toNat : Nat) : Int) = t by omega, if_pos h] at e
  have r := (pmC_rng v (36 * f.toNat + t.toNat)).1
  have mo := pmC_mono v (36 * f.toNat + t.toNat + 1) (1296 - (36 * f.toNat + t.toNat + 1))
  rw [show 36 * f.toNat + t.toNat + 1 + (1296 - (36 * f.toNat + t.toNat + 1)) = 1296 by omega] at mo
  unfold pmN
  omega
theorem yG_cg {v w : Rw} (h : yG v) (h10 : w 10 = v 10) (h200 : v 10 ≤ 200) (hm : ∀ i, 80 ≤ i → i < 1080 → w i = v i) : yG w := by
  intro i hi
  rw [h10] at hi
  rw [hm (80 + 5 * i + 4) (by omega) (by omega), hm (80 + 5 * i) (by omega) (by omega), hm (80 + 5 * i + 1) (by omega) (by omega), hm (80 + 5 * i + 2) (by omega) (by omega)]
  exact h i hi
theorem yC_cg {base : Int} {v w : Rw} (h : yC base v) (hc : ∀ i, (56 ≤ i ∧ i < 60) ∨ (64 ≤ i ∧ i < 68) → w i = v i) : yC base w := by
  intro p hp
  rw [hc (hs p 0) (by unfold hs; omega), hc (hs p 1) (by unfold hs; omega), hc (hs p 2) (by unfold hs; omega), hc (hs p 3) (by unfold hs; omega)]
  exact h p hp
/-- scalars have changed that it doesn't speak of -/
theorem yY_cg {base : Int} {v w : Rw} (h : yY base v) (h200 : v 10 ≤ 200) (h7 : w 7 = v 7) (h8 : w 8 = v 8) (h11 : w 11 = v 11) (hq : yQ w) (e : ∀ i, i = 10 ∨ (56 ≤ i ∧ i < 60) ∨ (64 ≤ i ∧ i < 68) ∨ (80 ≤ i ∧ i < 1080) ∨ 1090 ≤ i → w i = v i) : yY base w := by
  obtain ⟨g, c, s, q, x⟩ := h
  refine ⟨yG_cg g (e 10 (by omega)) h200 (fun i h1 h2 => e i (by omega)), yC_cg c (fun i hi => e i (by omega)), ?_, hq, xE_cg x (by rw [h7]) h8 h11 (fun i hi => e i (by omega))⟩
  unfold yS
  rw [h7, h8]; exact s
theorem yI_en {base : Int} {v : Rw} {st re : Int} (h : yY base v) (h7 : v 7 ≤ 1) (h11 : 0 ≤ v 11) (h200 : v 10 ≤ 200) (hst : 2 ≤ st ∧ st ≤ 4) (hre : 1 ≤ re ∧ re ≤ 9) (h46 : st = 4 ↔ re = 6) : yI base (enF v st re) := by
  obtain ⟨g, c, s, q, x⟩ := h
  have lo := fun i hi => enF_lo (v := v) (st := st) (re := re) (i := i) h11 hi
  have e7 := enF_7 (v := v) (st := st) (re := re) h11
  have e8 := enF_8 (v := v) (st := st) (re := re) h11
  have e13 := enF_13 (v := v) (st := st) (re := re) h11
  have e14 := enF_14 (v := v) (st := st) (re := re) h11
  refine ⟨⟨yG_cg g (lo 10 (by omega)) h200 (fun i h1 h2 => lo i (by omega)), yC_cg c (fun i hi => lo i (by omega)), ?_, ?_, xE_en x h7 h11 (by omega) (by omega)⟩, fun z => by omega⟩
  · unfold yS
    rw [e7, e8]
    exact ⟨by omega, h46⟩
  · unfold yQ
    rw [e13, e14]
    exact ⟨fun _ => rfl, fun _ => rfl⟩
theorem yI_lo {base : Int} {v : Rw} {p re : Int} (h : yY base v) (h7 : v 7 ≤ 1) (h11 : 0 ≤ v 11) (h200 : v 10 ≤ 200) (hre : 1 ≤ re ∧ re ≤ 9) (h6 : re ≠ 6) : yI base (loF v p re) := by
  unfold loF
  exact yI_en h h7 h11 h200 (by split <;> omega) hre ⟨fun z => by split at z <;> omega, fun z => absurd z h6⟩
theorem yI_fl {base : Int} {v : Rw} (h : yI base v) (h11 : 0 ≤ v 11) (h200 : v 10 ≤ 200) : yI base (flF v) := by
  rcases flF_c (v := v) with e | ⟨a, b, st, hst, e⟩
  · rw [e]; exact h
  · rw [e]
    exact yI_en h.1 (by omega) h11 h200 (by omega) (by omega) (by omega)
theorem yI_st {base : Int} {v : Rw} {s x : Int} (h : yI base v) (h11 : 0 ≤ v 11) (h200 : v 10 ≤ 200) (hs6 : 0 ≤ s ∧ s ≤ 6) : yI base (stF v s x) := by
  have fr : ∀ i, ¬ (0 ≤ i ∧ i ≤ 6) → u1 v s x i = v i := fun i hi => u1_ne (by omega)
  unfold stF
  refine yI_fl ⟨yY_cg h.1 h200 (fr 7 (by omega)) (fr 8 (by omega)) (fr 11 (by omega)) ?_ (fun i hi => fr i (by omega)), ?_⟩ (by rw [fr 11 (by omega)]; exact h11) (by rw [fr 10 (by omega)]; exact h200)
  · unfold yQ
    rw [fr 13 (by omega), fr 14 (by omega)]; exact h.1.2.2.2.1
  · intro z
    rw [fr 7 (by omega)] at z
    rw [pmN_cg (fr 9 (by omega)) (fun i hi => fr i (by omega))]
    exact h.2 z
theorem spn_r {k : Nat} {v : Rw} {n : Nat} (h : jI k v) (h7 : v 7 = 0) : 0 ≤ spn v n ∧ spn v n ≤ n ∧ 0 ≤ ov v (spn v n) ∧ ov v (spn v n) ≤ spn v n := by
  have hfr : 0 ≤ fr v := by unfold fr; split <;> omega
  have hsp : 0 ≤ spn v n ∧ spn v n ≤ n := by
    unfold spn
    by_cases h5 : v 5 = 0
    · have := h.2.1 h7 h5
      rw [if_pos h5]
      split <;> omega
    · rw [if_neg h5]; omega
  generalize spn v n = s at *
  have hov : 0 ≤ ov v s ∧ ov v s ≤ s := by unfold ov; split <;> omega
  omega
theorem yY_adv {base : Int} {v : Rw} {s : Int} (h : yY base v) (h9 : v 9 = 0 ∨ v 9 = 1) (h200 : v 10 ≤ 200) (hov : ov v s ≤ s) : yY base (adv v s) := by
  have eo := fun i hi => adv_i (v := v) (s := s) (i := i) h9 hi
  have e0 := adv_0 (v := v) (s := s)
  have e1 := adv_1 (v := v) (s := s)
  have e2 := adv_2 (v := v) (s := s)
  have lo : ∀ i, i ≠ 12 → ¬ (56 ≤ i ∧ i < 80) → adv v s i = v i := fun i q1 q2 => eo i (by unfold hs; omega)
  obtain ⟨g, c, sx, q, x⟩ := h
  refine ⟨yG_cg g (lo 10 (by omega) (by omega)) h200 (fun i h1 h2 => lo i (by omega) (by omega)), ?_, ?_, ?_, xE_cg x (by rw [lo 7 (by omega) (by omega)]) (lo 8 (by omega) (by omega)) (lo 11 (by omega) (by omega)) (fun i hi => lo i (by omega) (by omega))⟩
  · intro p hp
    by_cases hpv : p = v 9
    · obtain ⟨c1, c2⟩ := c p hp
      rw [hpv] at c1 c2 ⊢
      rw [e0, e1, e2, eo (hs (v 9) 3) (by unfold hs; omega)]
      omega
    · rw [eo (hs p 0) (by unfold hs; omega), eo (hs p 1) (by unfold hs; omega), eo (hs p 2) (by unfold hs; omega), eo (hs p 3) (by unfold hs; omega)]
      exact c p hp
  · unfold yS
    rw [lo 7 (by omega) (by omega), lo 8 (by omega) (by omega)]; exact sx
  · unfold yQ
    rw [lo 13 (by omega) (by omega), lo 14 (by omega) (by omega)]; exact q
theorem yI_pa {base : Int} {k : Nat} {v : Rw} {n : Nat} (hj : jI k v) (h : yI base v) : yI base (paF v n) := by
  by_cases h7 : v 7 = 0
  · have h9 := jB_9 hj.1
    obtain ⟨a7, a9, a10, a11, a70, a71⟩ := id hj.1.2.2.2.1
    obtain ⟨s0, s1, o0, o1⟩ := spn_r (n := n) hj h7
    rw [paF_cl n v h7 h9 (by omega) hj.2.1]
    generalize spn v n = s at *
    have lo : ∀ i, i ≠ 12 → ¬ (56 ≤ i ∧ i < 80) → adv v s i = v i := fun i q1 q2 => adv_i h9 (by unfold hs; omega)
    refine yI_fl ⟨yY_adv h.1 h9 (by omega) o1, fun z => ?_⟩ (by rw [lo 11 (by omega) (by omega)]; omega) (by rw [lo 10 (by omega) (by omega)]; omega)
    rw [pmN_cg (lo 9 (by omega) (by omega)) (fun i hi => lo i (by omega) (by omega))]
    exact h.2 h7
  · rw [paF_st h7]; exact h
/-! a move -/
theorem mvB_14 {v : Rw} {f t kind : Int} (h9 : v 9 = 0 ∨ v 9 = 1) (h11 : 0 ≤ v 11) (h10 : 0 ≤ v 10 ∧ v 10 ≤ 199) (hf : isC f) (ht : isC t) : mvB v f t kind 14 = -200009 := by
  rw [mvB_eq h9 h11 h10 hf ht]
  unfold mv1 hs clF
  simp (disch := omega) only [u1_ne, u1_eq]
theorem mvB_hi {v : Rw} {f t kind i : Int} (h9 : v 9 = 0 ∨ v 9 = 1) (h11 : 0 ≤ v 11) (h10 : 0 ≤ v 10 ∧ v 10 ≤ 199) (hf : isC f) (ht : isC t) (hi : 1090 ≤ i) : mvB v f t kind i = wrF v kind (v 12) f t (mvT v t) i := by
  rw [mvB_eq h9 h11 h10 hf ht]
  unfold mv1 hs clF
  simp (disch := omega) only [u1_ne]
theorem mvB_bd {v : Rw} {f t kind i : Int} (h9 : v 9 = 0 ∨ v 9 = 1) (h11 : 0 ≤ v 11) (h10 : 0 ≤ v 10 ∧ v 10 ≤ 199) (hf : isC f) (ht : isC t) (hi : isC i) : mvB v f t kind (20 + i) = u1 (u1 (brd v) f 0) t (v 9 + 1) i := by
  rw [mvB_eq h9 h11 h10 hf ht]
  unfold mv1 hs clF
  simp (disch := omega) only [u1_ne]
  unfold brd u1
  (repeat' split) <;> first | rfl | omega | (rw [wrF_lo h11 (by omega)])
theorem why_0 {v : Rw} {f t : Int} (h : why v f t = 0) : v (20 + f) = v 9 + 1 ∧ ahd (v 9) f t ∧ v (20 + t) ≠ v 9 + 1 ∧ (f % 6 = t % 6 → v (20 + t) = 0) := by
  have ha := why_ah h
  unfold why at h
  split at h
  · split at h <;> omega
  · split at h
    · omega
    · split at h
      · omega
      · split at h
        · omega
        · exact ⟨by omega, ha, by omega, fun z => by omega⟩
theorem yY_mvB {base : Int} {k : Nat} {v : Rw} {f t kind : Int} (hj : jB k v) (h : yY base v) (h7 : v 7 ≤ 1) (h11 : v 11 ≤ 199) (hf : isC f) (ht : isC t) (hk : kind = 0 ∨ kind = 1) (hy : why v f t = 0) : yY base (mvB v f t kind) := by
  have h9 := jB_9 hj
  obtain ⟨a7, a9, a10, a11, a70, a71⟩ := id hj.2.2.2.1
  have z11 : 0 ≤ v 11 := by omega
  have h10 : 0 ≤ v 10 ∧ v 10 ≤ 199 := by omega
  have eo := fun i hi => mvB_o (kind := kind) (i := i) h9 z11 h10 hf ht hi
  obtain ⟨⟨e10, e12, e13⟩, ⟨ec, ea, em⟩, k0, k1, k2, k3, k4⟩ := mvB_v (kind := kind) h9 z11 h10 hf ht
  have e14 := mvB_14 (kind := kind) h9 z11 h10 hf ht
  have e11 := mvB_11 (kind := kind) h9 z11 h10 hf ht
  obtain ⟨g, c, s, q, x⟩ := h
  obtain ⟨y1, y2, y3, y4⟩ := why_0 hy
  refine ⟨?_, ?_, ?_, ?_, ?_⟩
  · intro i hi
    rw [e10] at hi
    by_cases hl : i = v 10
    · rw [hl, k4, k0, k1, k2]
      refine ⟨y2, fun z => ?_⟩
      unfold mvT
      rw [if_pos (y4 z)]
    · rw [eo (80 + 5 * i + 4) (by omega), eo (80 + 5 * i) (by omega), eo (80 + 5 * i + 1) (by omega), eo (80 + 5 * i + 2) (by omega)]
      exact g i (by omega)
  · intro p hp
    obtain ⟨c1, c2⟩ := c p hp
    unfold hs at *
    simp only [Int.add_zero] at *
    by_cases hpv : p = v 9
    · rw [hpv] at c1 c2 ⊢
      rw [ec, ea, eo (56 + 8 * v 9 + 1) (by omega), eo (56 + 8 * v 9 + 2) (by omega)]
      omega
    · rw [eo (56 + 8 * p) (by omega), eo (56 + 8 * p + 3) (by omega), eo (56 + 8 * p + 1) (by omega), eo (56 + 8 * p + 2) (by omega)]
      exact ⟨c1, c2⟩
  · unfold yS
    rw [eo 7 (by omega), eo 8 (by omega)]; exact s
  · unfold yQ
    rw [e13, e14]
    exact ⟨fun _ => rfl, fun _ => rfl⟩
  · refine xE_cg (xE_wr (k := kind) (a := v 12) (b := f) (c := t) (t := mvT v t) x (by omega) z11 (by omega)) ?_ ?_ ?_ (fun i hi => mvB_hi h9 z11 h10 hf ht hi)
    · rw [eo 7 (by omega), wrF_lo z11 (by omega)]
    · rw [eo 8 (by omega), wrF_lo z11 (by omega)]
    · rw [e11, wrF_11]
theorem yI_mv {base : Int} {k : Nat} {v : Rw} {f t kind : Int} (hj : jB k v) (h : yY base v) (h7 : v 7 ≤ 1) (h11 : v 11 ≤ 199) (hf : isC f) (ht : isC t) (hk : kind = 0 ∨ kind = 1) (hy : why v f t = 0) : yI base (mvF v f t kind) := by
  have hb := yY_mvB hj h h7 h11 hf ht hk hy
  have h9 := jB_9 hj
  obtain ⟨a7, a9, a10, a11, a70, a71⟩ := id hj.2.2.2.1
  have z11 : 0 ≤ v 11 := by omega
  have h10 : 0 ≤ v 10 ∧ v 10 ≤ 199 := by omega
  have e11 := mvB_11 (kind := kind) h9 z11 h10 hf ht
  have e7 : mvB v f t kind 7 = v 7 := mvB_o h9 z11 h10 hf ht (by omega)
  have e10 := (mvB_v (kind := kind) h9 z11 h10 hf ht).1.1
  have lo := fun p re (h1 : 1 ≤ re ∧ re ≤ 9) (h2 : re ≠ 6) => yI_lo (p := p) (re := re) hb (by omega) (by omega) (by omega) h1 h2
  unfold mvF mvE
  have hP : ¬ pmN (mvB v f t kind) = 0 → yP (mvB v f t kind) := by
    intro hn
    have r := (pmC_rng (mvB v f t kind) 1296).1
    unfold yP
    intro _
    unfold pmN at hn ⊢
    omega
  generalize mvB v f t kind = w at *
  have key : ∀ (w1 w2 w3 w4 : Rw) (c1 c2 c3 : Prop) [Decidable c1] [Decidable c2] [Decidable c3], yI base w1 → yI base w2 → yI base w3 → (¬ c3 → yI base w4) → yI base (if c1 then w1 else if c2 then w2 else if c3 then w3 else w4) := by
    intro w1 w2 w3 w4 c1 c2 c3 _ _ _ g1 g2 g3 g4
    by_cases h1 : c1
    · rw [if_pos h1]; exact g1
    · rw [if_neg h1]
      by_cases h2 : c2
      · rw [if_pos h2]; exact g2
      · rw [if_neg h2]
        by_cases h3 : c3
        · rw [if_pos h3]; exact g3
        · rw [if_neg h3]; exact g4 h3
  exact key _ _ _ _ _ _ _ (lo (1 - v 9) 1 (by omega) (by omega)) (lo (1 - v 9) 2 (by omega) (by omega)) (lo (1 - v 9) 3 (by omega) (by omega)) (fun hn => ⟨hb, hP hn⟩)
theorem yI_sl {base : Int} {v : Rw} {f t : Int} (h : yI base v) (h7 : v 7 = 0) (h200 : v 10 ≤ 200) : yI base (slF v f t) := by
  have e : ∀ i, i ≠ 7 → ¬ (13 ≤ i ∧ i < 17) → slF v f t i = v i := fun i h1 h2 => by
    unfold slF clF
    simp (disch := omega) only [u1_ne]
  have e7 : slF v f t 7 = 1 := by unfold slF clF; simp (disch := omega) only [u1_ne, u1_eq]
  have e13 : slF v f t 13 = 0 := by unfold slF clF; simp (disch := omega) only [u1_ne, u1_eq]
  have e14 : slF v f t 14 = -200009 := by unfold slF clF; simp (disch := omega) only [u1_ne, u1_eq]
  obtain ⟨⟨g, c, s, q, x⟩, hp⟩ := h
  refine ⟨⟨yG_cg g (e 10 (by omega) (by omega)) h200 (fun i h1 h2 => e i (by omega) (by omega)), yC_cg c (fun i hi => e i (by omega) (by omega)), ?_, ?_, xE_cg x (by rw [e7, h7]; omega) (e 8 (by omega) (by omega)) (e 11 (by omega) (by omega)) (fun i hi => e i (by omega) (by omega))⟩, fun z => by omega⟩
  · unfold yS at *
    rw [e7, e 8 (by omega) (by omega)]
    omega
  · unfold yQ
    rw [e13, e14]
    exact ⟨fun _ => rfl, fun _ => rfl⟩
/-- a move, and perhaps an end behind it -/
theorem mvF_c {v : Rw} {f t kind : Int} : mvF v f t kind = mvB v f t kind ∨ ∃ st re, mvF v f t kind = enF (mvB v f t kind) st re := by
  unfold mvF mvE loF
  generalize mvB v f t kind = w
  have key : ∀ (P : Rw → Prop) (w1 w2 w3 w4 : Rw) (c1 c2 c3 : Prop) [Decidable c1] [Decidable c2] [Decidable c3], P w1 → P w2 → P w3 → P w4 → P (if c1 then w1 else if c2 then w2 else if c3 then w3 else w4) := by
    intro P w1 w2 w3 w4 c1 c2 c3 _ _ _ g1 g2 g3 g4
    by_cases h1 : c1
    · rw [if_pos h1]; exact g1
    · rw [if_neg h1]
      by_cases h2 : c2
      · rw [if_pos h2]; exact g2
      · rw [if_neg h2]
        by_cases h3 : c3
        · rw [if_pos h3]; exact g3
        · rw [if_neg h3]; exact g4
  exact key (fun x => x = w ∨ ∃ st re, x = enF w st re) _ _ _ _ _ _ _ (Or.inr ⟨_, _, rfl⟩) (Or.inr ⟨_, _, rfl⟩) (Or.inr ⟨_, _, rfl⟩) (Or.inl rfl)
theorem jB_rmW {k : Nat} {v : Rw} (h : jB k v) (h11 : v 11 ≤ 199) : jB k (rmW v) := by
  have fr : ∀ i, i ≠ 7 → rmW v i = v i := fun i hi => u1_ne hi
  have e7 : rmW v 7 = 0 := u1_eq
  have hB := h
  obtain ⟨hz, hE, hst, hsc, h12, _⟩ := h
  refine jB_sc hB (zo_u1 hz (by omega)) (gE_fr hE ⟨fr 11 (by omega), fun i hi => fr i (by omega)⟩) ?_ ?_ (by rw [fr 12 (by omega)]; exact h12) (fun i hi => fr i (by omega))
  · unfold stI at *
    rw [fr 0 (by omega), fr 1 (by omega), fr 2 (by omega), fr 3 (by omega), fr 4 (by omega), fr 5 (by omega), fr 6 (by omega)]
    exact hst
  · unfold scI at *
    rw [e7, fr 9 (by omega), fr 10 (by omega), fr 11 (by omega)]
    exact ⟨by omega, hsc.2.1, hsc.2.2.1, hsc.2.2.2.1, fun _ => by omega, fun z => by omega⟩
theorem yI_rm {base : Int} {k : Nat} {v : Rw} (hj : jI k v) (h : yI base v) (h7 : v 7 = 1) : yI base (rmF v) := by
  have h9 := jB_9 hj.1
  obtain ⟨a7, a9, a10, a11, a70, a71⟩ := id hj.1.2.2.2.1
  obtain ⟨b11, bf, bt⟩ := a71 h7
  have fr : ∀ i, i ≠ 7 → rmW v i = v i := fun i hi => u1_ne hi
  have e7 : rmW v 7 = 0 := u1_eq
  have hB := jB_rmW hj.1 b11
  have hY : yY base (rmW v) := by
    obtain ⟨⟨g, c, s, q, x⟩, hp⟩ := h
    refine ⟨yG_cg g (fr 10 (by omega)) (by omega) (fun i h1 h2 => fr i (by omega)), yC_cg c (fun i hi => fr i (by omega)), ?_, ?_, xE_cg x (by rw [e7, h7]; omega) (fr 8 (by omega)) (fr 11 (by omega)) (fun i hi => fr i (by omega))⟩
    · unfold yS at *
      rw [e7, fr 8 (by omega)]
      omega
    · unfold yQ
      rw [fr 13 (by omega), fr 14 (by omega)]; exact q
  unfold rmF
  split
  · rename_i hy
    have hm := yI_mv (kind := 1) hB hY (by omega) (by rw [fr 11 (by omega)]; exact b11) bf bt (Or.inr rfl) hy
    have z11 : 0 ≤ rmW v 11 := by rw [fr 11 (by omega)]; omega
    have h10 : 0 ≤ rmW v 10 ∧ rmW v 10 ≤ 199 := by rw [fr 10 (by omega)]; omega
    have h9' : rmW v 9 = 0 ∨ rmW v 9 = 1 := by rw [fr 9 (by omega)]; exact h9
    have e11 := mvB_11 (v := rmW v) (kind := 1) h9' z11 h10 bf bt
    have e10 := (mvB_v (v := rmW v) (kind := 1) h9' z11 h10 bf bt).1.1
    have q11 : 0 ≤ mvF (rmW v) (v 15) (v 16) 1 11 ∧ mvF (rmW v) (v 15) (v 16) 1 10 ≤ 200 := by
      rcases mvF_c (v := rmW v) (f := v 15) (t := v 16) (kind := 1) with e | ⟨st, re, e⟩
      · rw [e]; omega
      · rw [e, enF_11, enF_lo (by omega) (by omega)]; omega
    exact yI_fl hm q11.1 q11.2
  · refine yI_lo ?_ ?_ ?_ ?_ (by omega) (by omega)
    · have z11 : 0 ≤ rmW v 11 := by rw [fr 11 (by omega)]; omega
      have lo := fun i hi => wrF_lo (v := rmW v) (k := 1) (a := v 12) (b := v 15) (c := v 16) (t := 0) (i := i) z11 hi
      obtain ⟨g, c, s, q, x⟩ := hY
      refine ⟨yG_cg g (lo 10 (by omega)) (by rw [fr 10 (by omega)]; omega) (fun i h1 h2 => lo i (by omega)), yC_cg c (fun i hi => lo i (by omega)), ?_, ?_, xE_wr x (by omega) z11 (by omega)⟩
      · unfold yS
        rw [lo 7 (by omega), lo 8 (by omega)]; exact s
      · unfold yQ
        rw [lo 13 (by omega), lo 14 (by omega)]; exact q
    · rw [wrF_lo (by rw [fr 11 (by omega)]; omega) (by omega), e7]; omega
    · rw [wrF_11, fr 11 (by omega)]; omega
    · rw [wrF_lo (by rw [fr 11 (by omega)]; omega) (by omega), fr 10 (by omega)]; omega
/-! questions -/
theorem yY_wr {base : Int} {v : Rw} {k a b c t : Int} (h : yY base v) (h7 : v 7 ≤ 1) (z11 : 0 ≤ v 11) (h200 : v 10 ≤ 200) (hk : 0 ≤ k ∧ k ≤ 5) : yY base (wrF v k a b c t) := by
  have lo := fun i hi => wrF_lo (v := v) (k := k) (a := a) (b := b) (c := c) (t := t) (i := i) z11 hi
  obtain ⟨g, cc, s, q, x⟩ := h
  refine ⟨yG_cg g (lo 10 (by omega)) h200 (fun i h1 h2 => lo i (by omega)), yC_cg cc (fun i hi => lo i (by omega)), ?_, ?_, xE_wr x h7 z11 hk⟩
  · unfold yS
    rw [lo 7 (by omega), lo 8 (by omega)]; exact s
  · unfold yQ
    rw [lo 13 (by omega), lo 14 (by omega)]; exact q
theorem yI_wr {base : Int} {v : Rw} {k a b c t : Int} (h : yI base v) (h7 : v 7 ≤ 1) (z11 : 0 ≤ v 11) (h200 : v 10 ≤ 200) (hk : 0 ≤ k ∧ k ≤ 5) : yI base (wrF v k a b c t) := by
  have lo := fun i hi => wrF_lo (v := v) (k := k) (a := a) (b := b) (c := c) (t := t) (i := i) z11 hi
  refine ⟨yY_wr h.1 h7 z11 h200 hk, fun z => ?_⟩
  rw [lo 7 (by omega)] at z
  rw [pmN_cg (lo 9 (by omega)) (fun i hi => lo i (by omega))]
  exact h.2 z
theorem yI_ak {base : Int} {v : Rw} {q p e : Int} (h : yI base v) (h7 : v 7 = 0) (z11 : 0 ≤ v 11) (h200 : v 10 ≤ 200) (hq : q ≠ 0) (hp : p ≠ -200009) (he : 0 ≤ e ∧ e ≤ 5) : yI base (akF v q p e) := by
  have fr : ∀ i, i ≠ 13 → i ≠ 14 → u1 (u1 v 13 q) 14 p i = v i := fun i h1 h2 => by rw [u1_ne h2, u1_ne h1]
  unfold akF
  refine yI_wr ⟨yY_cg h.1 h200 (fr 7 (by omega) (by omega)) (fr 8 (by omega) (by omega)) (fr 11 (by omega) (by omega)) ?_ (fun i hi => fr i (by omega) (by omega)), fun z => ?_⟩ (by rw [fr 7 (by omega) (by omega)]; omega) (by rw [fr 11 (by omega) (by omega)]; exact z11) (by rw [fr 10 (by omega) (by omega)]; exact h200) he
  · unfold yQ
    rw [u1_eq, u1_ne (by omega), u1_eq]
    exact ⟨fun z => absurd z hq, fun z => absurd z hp⟩
  · rw [pmN_cg (fr 9 (by omega) (by omega)) (fun i hi => fr i (by omega) (by omega))]
    exact h.2 h7
theorem yI_cl {base : Int} {v : Rw} (h : yI base v) (h200 : v 10 ≤ 200) : yI base (clF v) := by
  have fr : ∀ i, i ≠ 13 → i ≠ 14 → clF v i = v i := fun i h1 h2 => clF_lo ⟨h1, h2⟩
  refine ⟨yY_cg h.1 h200 (fr 7 (by omega) (by omega)) (fr 8 (by omega) (by omega)) (fr 11 (by omega) (by omega)) ?_ (fun i hi => fr i (by omega) (by omega)), fun z => ?_⟩
  · unfold yQ clF
    rw [u1_eq, u1_ne (by omega), u1_eq]
    exact ⟨fun _ => rfl, fun _ => rfl⟩
  · rw [fr 7 (by omega) (by omega)] at z
    rw [pmN_cg (fr 9 (by omega) (by omega)) (fun i hi => fr i (by omega) (by omega))]
    exact h.2 z
theorem yI_rf {base : Int} {v : Rw} (h : yI base v) (h7 : v 7 = 0) (z11 : 0 ≤ v 11) (h200 : v 10 ≤ 200) : yI base (clF (wrF v 3 0 0 0 0)) :=
  yI_cl (yI_wr h (by omega) z11 h200 (by omega)) (by rw [wrF_lo z11 (by omega)]; exact h200)
/-! moves taken back -/
theorem yY_un {base : Int} {k : Nat} {v : Rw} (hk : k ≤ 40000) (hj : jB k v) (h : yY base v) (h10 : 1 ≤ v 10) : yY base (unC v) ∧ 1 ≤ pmN (unC v) := by
  obtain ⟨hI, hJ, h4⟩ := jB_uI hk hj h10
  have h9 := jB_9 hj
  have e9 := unC_9 (v := v)
  have e10 := unC_10 hI
  obtain ⟨es0, es3, es4⟩ := unC_s hI
  have eo := fun i hi => unC_o (i := i) hI hi
  obtain ⟨a7, a9, a10, a11, a70, a71⟩ := id hj.2.2.2.1
  have eK : unK v = 80 + 5 * (v 10 - 1) := rfl
  obtain ⟨m4, m0, m1, m2, m3⟩ := hj.2.2.2.2.2.2.2.2.1 (v 10 - 1) (by omega)
  have hbr : ∀ c, isC c → brd (unC v) c = unB (brd v) v ((v 10).toNat - 1) c := fun c hc => brd_un hI hc
  obtain ⟨g, c, s, q, x⟩ := h
  obtain ⟨gl, gs⟩ := g (v 10 - 1) (by omega)
  rw [← eK] at m0 m1 m2 m3 gl gs
  have ei : (((v 10).toNat - 1 : Nat) : Int) = v 10 - 1 := by omega
  unfold unB brd at hbr
  rw [ei, ← eK] at hbr
  rw [h4] at *
  have hb9 : 1 - v 9 = 0 ∨ 1 - v 9 = 1 := by omega
  refine ⟨⟨?_, ?_, ?_, ?_, ?_⟩, ?_⟩
  · intro i hi
    rw [e10] at hi
    rw [eo (80 + 5 * i + 4) (by omega), eo (80 + 5 * i) (by omega), eo (80 + 5 * i + 1) (by omega), eo (80 + 5 * i + 2) (by omega)]
    exact g i (by omega)
  · intro p hp
    obtain ⟨c1, c2⟩ := c p hp
    unfold hs at *
    simp only [Int.add_zero] at *
    by_cases hpv : p = 1 - v 9
    · rw [hpv] at c1 c2 ⊢
      rw [es0, es3, eo (56 + 8 * (1 - v 9) + 1) (by omega), eo (56 + 8 * (1 - v 9) + 2) (by omega)]
      omega
    · rw [eo (56 + 8 * p) (by omega), eo (56 + 8 * p + 3) (by omega), eo (56 + 8 * p + 1) (by omega), eo (56 + 8 * p + 2) (by omega)]
      exact ⟨c1, c2⟩
  · unfold yS
    rw [eo 7 (by omega), eo 8 (by omega)]; exact s
  · unfold yQ
    rw [eo 13 (by omega), eo 14 (by omega)]; exact q
  · exact xE_cg x (by rw [eo 7 (by omega)]) (eo 8 (by omega)) (eo 11 (by omega)) (fun i hi => eo i (by omega))
  · refine pm_pos m0 m1 ?_
    have b0 := hbr _ m0
    have b1 := hbr _ m1
    have hne : v (unK v) ≠ v (unK v + 1) := by
      intro z
      have := gl.1
      rw [z] at this
      split at this <;> omega
    rw [u1_ne hne, u1_eq] at b0
    rw [u1_eq] at b1
    unfold why
    rw [b0, b1, e9, if_neg (by omega), if_neg, if_neg, if_neg]
    · intro z
      have := gs (by omega)
      rw [if_pos this] at z
      exact z.2 rfl
    · split <;> omega
    · intro z
      rcases z with z | z | z
      · exact z gl.1
      · have := gl.2.1; omega
      · have := gl.2.2; omega
theorem unT_U {k : Nat} {w : Rw} {p n : Int} (hk : k ≤ 39000) (h : jB k w) (h10 : 1 ≤ w 10) (hn : (n = 1 ∧ p = 1 - w 9) ∨ (n = 2 ∧ p = w 9 ∧ 2 ≤ w 10)) : (n = 1 ∧ u1 (unT w n) 9 p = unC w) ∨ (n = 2 ∧ u1 (unT w n) 9 p = unC (unC w)) := by
  have h1 := jB_un (k := k) (by omega) h h10
  obtain ⟨hI, hJ, h4⟩ := jB_uI (k := k) (by omega) h h10
  unfold unT
  rcases hn with ⟨rfl, e⟩ | ⟨rfl, e, h2⟩
  · rw [if_pos rfl, e]
    exact Or.inl ⟨rfl, rfl⟩
  · rw [if_neg (by omega)]
    refine Or.inr ⟨rfl, ?_⟩
    have e10 := unC_10 hI
    obtain ⟨hI1, _, _⟩ := jB_uI (k := k + 1) (by omega) h1 (by omega)
    have e9 : unC w 9 = 1 - w 9 := u1_eq
    have e2 : unC (unC w) = u1 (unF (unC w)) 9 (1 - unC w 9) := rfl
    have e3 : unF (unC w) = u1 (unF (unF w)) 9 (1 - w 9) := unF_9 (uI_b hI1)
    rw [e2, e9, e3, u1_u1, show 1 - (1 - w 9) = p by omega]
theorem yI_unT {base : Int} {k : Nat} {w : Rw} {p n : Int} (hk : k ≤ 39000) (h : jB k w) (hx : yY base w) (h10 : 1 ≤ w 10) (hn : (n = 1 ∧ p = 1 - w 9) ∨ (n = 2 ∧ p = w 9 ∧ 2 ≤ w 10)) : yI base (u1 (unT w n) 9 p) := by
  obtain ⟨x1, p1⟩ := yY_un (by omega) h hx h10
  rcases unT_U hk h h10 hn with ⟨e1, e⟩ | ⟨e1, e⟩
  · rw [e]; exact ⟨x1, fun _ => p1⟩
  · rw [e]
    have h1 := jB_un (k := k) (by omega) h h10
    obtain ⟨hI, _, _⟩ := jB_uI (k := k) (by omega) h h10
    have e10 := unC_10 hI
    obtain ⟨x2, p2⟩ := yY_un (k := k + 1) (by omega) h1 x1 (by omega)
    exact ⟨x2, fun _ => p2⟩
theorem yI_tb {base : Int} {k : Nat} {v : Rw} {p : Int} (hk : k ≤ 38000) (hj : jI k v) (h : yI base v) (h7 : v 7 = 0) (h11 : v 11 ≤ 199) (hp : p = 0 ∨ p = 1) (hm : 1 ≤ v (hs p 4)) : yI base (tbF v p) := by
  have hB := hj.1
  have h9 := jB_9 hB
  obtain ⟨h10, h102, eb⟩ := jB_two (k := k) (by omega) hB hp hm
  obtain ⟨a7, a9, a10, a11, a70, a71⟩ := id hB.2.2.2.1
  have z11 : 0 ≤ v 11 := by omega
  unfold tbF tb2 tb1
  have hbk : bkN v p = 1 ∨ bkN v p = 2 := by unfold bkN; split <;> simp
  generalize hn : bkN v p = n at *
  have lo : ∀ i, i < 1090 ∧ i ≠ 11 → wrF v 2 n 0 0 0 i = v i := fun i hi => wrF_lo z11 hi
  have h1 := jB_wr (e := 2) (a := n) hB h11 h7 (by omega) (by omega)
  have hx1 := yY_wr (k := 2) (a := n) (b := 0) (c := 0) (t := 0) h.1 (by omega) z11 (by omega) (by omega)
  have hnn : (n = 1 ∧ p = 1 - wrF v 2 n 0 0 0 9) ∨ (n = 2 ∧ p = wrF v 2 n 0 0 0 9 ∧ 2 ≤ wrF v 2 n 0 0 0 10) := by
    rw [lo 9 (by omega), lo 10 (by omega)]
    split at eb
    · exact Or.inr ⟨eb, by omega, h102 eb⟩
    · exact Or.inl ⟨eb, by omega⟩
  have hU := yI_unT (p := p) (by omega) h1 hx1 (by rw [lo 10 (by omega)]; exact h10) hnn
  have hU2 := (unT_C (by omega) h1 (by rw [lo 10 (by omega)]; exact h10) hp hnn).1
  generalize unT (wrF v 2 n 0 0 0) n = X at *
  obtain ⟨c7, c9, c10, c11, _⟩ := id hU2.2.2.2.1
  have e : ∀ i, i ≠ 12 → i ≠ 9 → i ≠ hs p 5 → u1 (u1 (u1 X (hs p 5) (X (hs p 5) + n)) 9 p) 12 0 i = u1 X 9 p i := fun i q1 q2 q3 => by
    rw [u1_ne q1, u1_ne q2, u1_ne q3, u1_ne q2]
  have e9 : u1 (u1 (u1 X (hs p 5) (X (hs p 5) + n)) 9 p) 12 0 9 = u1 X 9 p 9 := by
    rw [u1_ne (by omega), u1_eq, u1_eq]
  have hh : ∀ i, i ≠ 12 → i ≠ 61 → i ≠ 69 → u1 (u1 (u1 X (hs p 5) (X (hs p 5) + n)) 9 p) 12 0 i = u1 X 9 p i := fun i q1 q2 q3 => by
    by_cases h : i = 9
    · rw [h]; exact e9
    · exact e i q1 h (by unfold hs; omega)
  have h3 : yI base (u1 (u1 (u1 X (hs p 5) (X (hs p 5) + n)) 9 p) 12 0) := by
    refine ⟨yY_cg hU.1 (by omega) (hh 7 (by omega) (by omega) (by omega)) (hh 8 (by omega) (by omega) (by omega)) (hh 11 (by omega) (by omega) (by omega)) ?_ (fun i hi => hh i (by omega) (by omega) (by omega)), fun z => ?_⟩
    · unfold yQ
      rw [hh 13 (by omega) (by omega) (by omega), hh 14 (by omega) (by omega) (by omega)]
      exact hU.1.2.2.2.1
    · rw [hh 7 (by omega) (by omega) (by omega)] at z
      rw [pmN_cg e9 (fun i hi => hh i (by omega) (by omega) (by omega))]
      exact hU.2 z
  have q10 := hh 10 (by omega) (by omega) (by omega)
  have q11 := hh 11 (by omega) (by omega) (by omega)
  refine yI_fl (yI_cl h3 (by omega)) ?_ ?_
  · rw [clF_lo (by omega)]; omega
  · rw [clF_lo (by omega)]; omega
/-! a new game -/
theorem bg_pm {v : Rw} : 1 ≤ pmN (bgF v) := by
  refine pm_pos (f := 6) (t := 12) (by omega) (by omega) ?_
  have e6 : bgF v (20 + 6) = 1 := by unfold bgF; simp
  have e12 : bgF v (20 + 12) = 0 := by unfold bgF; simp
  have e9 : bgF v 9 = 0 := by unfold bgF; simp
  unfold why
  rw [e6, e12, e9]
  decide
theorem yI_bg {v : Rw} : yI (v 0) (bgF v) := by
  have e10 : bgF v 10 = 0 := by unfold bgF; simp
  have e7 : bgF v 7 = 0 := by unfold bgF; simp
  have e8 : bgF v 8 = 0 := by unfold bgF; simp
  have e11 : bgF v 11 = 0 := by unfold bgF; simp
  have e13 : bgF v 13 = 0 := by unfold bgF; simp
  have e14 : bgF v 14 = -200009 := by unfold bgF; simp
  refine ⟨⟨fun i hi => by omega, fun p hp => ?_, ?_, ?_, ?_⟩, fun _ => bg_pm⟩
  · rcases hp with rfl | rfl <;> unfold hs bgF <;> simp
  · unfold yS
    rw [e7, e8]; omega
  · unfold yQ
    rw [e13, e14]
    exact ⟨fun _ => rfl, fun _ => rfl⟩
  · unfold xE
    rw [e7, e8, e11]
    exact ⟨fun e he => by omega, fun z => by omega, by omega, by omega⟩
