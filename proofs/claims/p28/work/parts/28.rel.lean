/-! THE CLASS, 4: how a game of the class stands for a row of the reference -/
def fdR (μ : Mem) (b : Nat) (v : Rw) : Prop := (μ b 6 = v 7 ∧ μ b 7 = v 8 ∧ μ b 8 = v 9) ∧ (μ b 9 = v 12 ∧ μ b 10 = v 13 ∧ μ b 11 = v 14) ∧ μ b 12 = v 15 ∧ μ b 13 = v 16
def stR (f v : Rw) : Prop := ∀ i, 0 ≤ i ∧ i < 7 → f i = v i
def sdR (f v : Rw) (p : Int) : Prop := ∀ w, 0 ≤ w ∧ w < 6 → f w = v (56 + 8 * p + w)
def tgt (v : Rw) (k : Int) : Int := if v (80 + 5 * k + 2) = 0 then -200009 else 1 - v (80 + 5 * k + 4)
def mdR (μ : Mem) (b : Nat) (v : Rw) : Prop := μ (b + 6) 4 = v 10 ∧ v 10 ≤ 200 ∧ ∀ k, 0 ≤ k ∧ k < v 10 → (μ (b + 7) k = v (80 + 5 * k) ∧ μ (b + 8) k = v (80 + 5 * k + 1)) ∧ μ (b + 9) k = v (80 + 5 * k + 3) ∧ μ (b + 10) k = tgt v k
def etR (μ : Mem) (b : Nat) (v : Rw) : Prop := 0 ≤ v 11 ∧ μ (b + 11) 2 = v 11 ∧ μ (b + 11) 1 = (recL v (v 11).toNat).length ∧ ∀ i : Nat, i < (recL v (v 11).toNat).length → μ (b + 12) i = lat (recL v (v 11).toNat) i
def rG (b : Nat) (μ : Mem) (v : Rw) : Prop := fdR μ b v ∧ stR (μ (b + 1)) v ∧ oR (μ (b + 3)) v ∧ sdR (μ (b + 4)) v 0 ∧ sdR (μ (b + 5)) v 1 ∧ mdR μ b v ∧ etR μ b v
def oG (b : Nat) (μ μ' : Mem) : Prop := ∀ a, (a < b ∨ b + 13 ≤ a) → μ' a = μ a
theorem oG.rf {b : Nat} {μ : Mem} : oG b μ μ := fun _ _ => rfl
theorem oG.tr {b : Nat} {μ μ1 μ2 : Mem} (h : oG b μ μ1) (h2 : oG b μ1 μ2) : oG b μ μ2 := fun a ha => (h2 a ha).trans (h a ha)
theorem oG.st {b : Nat} {μ : Mem} {a : Nat} {f : Rw} (ha : b ≤ a ∧ a < b + 13) : oG b μ (sR μ a f) := fun c hc => by simp (disch := omega) only [sR_ne]
theorem recL_cg {v w : Rw} : ∀ N : Nat, (∀ i, 1090 ≤ i → i < 1090 + 5 * (N : Int) → w i = v i) → recL w N = recL v N
  | 0, _ => rfl
  | N + 1, h => by
    have ih := recL_cg (v := v) (w := w) N (fun i h1 h2 => h i h1 (by omega))
    show recL w N ++ ((if N = 0 then [] else [32]) ++ ent w N) = recL v N ++ ((if N = 0 then [] else [32]) ++ ent v N)
    rw [ih]
    unfold ent
    rw [h (1090 + 5 * (N : Int)) (by omega) (by omega), h (1090 + 5 * (N : Int) + 1) (by omega) (by omega), h (1090 + 5 * (N : Int) + 2) (by omega) (by omega), h (1090 + 5 * (N : Int) + 3) (by omega) (by omega), h (1090 + 5 * (N : Int) + 4) (by omega) (by omega)]
theorem stR.cg {f v w : Rw} (h : stR f v) (hw : ∀ i, 0 ≤ i ∧ i < 7 → w i = v i) : stR f w := fun i hi => by rw [h i hi, hw i hi]
theorem oR.cg {f v w : Rw} (h : oR f v) (hw : ∀ i, 20 ≤ i ∧ i < 56 → w i = v i) : oR f w := fun c hc => by
  have := h c hc
  unfold atN at this ⊢
  rw [hw (20 + c) (by omega)]; exact this
theorem sdR.cg {f v w : Rw} {p : Int} (h : sdR f v p) (hw : ∀ i, 56 + 8 * p ≤ i ∧ i < 62 + 8 * p → w i = v i) : sdR f w p := fun i hi => by rw [h i hi, hw _ (by omega)]
theorem mdR.cg {μ μ' : Mem} {b : Nat} {v w : Rw} (h : mdR μ b v) (hm : μ' (b + 6) = μ (b + 6) ∧ μ' (b + 7) = μ (b + 7) ∧ μ' (b + 8) = μ (b + 8) ∧ μ' (b + 9) = μ (b + 9) ∧ μ' (b + 10) = μ (b + 10)) (hw : w 10 = v 10 ∧ ∀ i, 80 ≤ i ∧ i < 80 + 5 * v 10 → w i = v i) : mdR μ' b w := by
  obtain ⟨h6, h7, h8, h9, h10⟩ := hm
  unfold mdR tgt at h ⊢
  rw [h6, h7, h8, h9, h10, hw.1]
  refine ⟨h.1, h.2.1, fun k hk => ?_⟩
  have := h.2.2 k hk
  rw [hw.2 (80 + 5 * k) (by omega), hw.2 (80 + 5 * k + 1) (by omega), hw.2 (80 + 5 * k + 2) (by omega), hw.2 (80 + 5 * k + 3) (by omega), hw.2 (80 + 5 * k + 4) (by omega)]
  exact this
theorem etR.cg {μ μ' : Mem} {b : Nat} {v w : Rw} (h : etR μ b v) (hm : μ' (b + 11) = μ (b + 11) ∧ μ' (b + 12) = μ (b + 12)) (hw : w 11 = v 11 ∧ ∀ i, 1090 ≤ i → w i = v i) : etR μ' b w := by
  unfold etR at h ⊢
  rw [hm.1, hm.2, hw.1, recL_cg (v := v) (w := w) _ (fun i h1 h2 => hw.2 i h1)]
  exact h
theorem fdR.cg {μ μ' : Mem} {b : Nat} {v w : Rw} (h : fdR μ b v) (hm : μ' b = μ b) (hw : ∀ i, (7 ≤ i ∧ i < 10) ∨ (12 ≤ i ∧ i < 17) → w i = v i) : fdR μ' b w := by
  unfold fdR at h ⊢
  rw [hm, hw 7 (by omega), hw 8 (by omega), hw 9 (by omega), hw 12 (by omega), hw 13 (by omega), hw 14 (by omega), hw 15 (by omega), hw 16 (by omega)]
  exact h
theorem rG_fd {b : Nat} {μ : Mem} {v w f : Rw} (h : rG b μ v) (hf : fdR (sR μ b f) b w) (hw : ∀ i, ¬ ((7 ≤ i ∧ i < 10) ∨ (12 ≤ i ∧ i < 17)) → w i = v i) : rG b (sR μ b f) w := by
  obtain ⟨h1, h2, h3, h4, h5, h6, h7⟩ := h
  refine ⟨hf, ?_, ?_, ?_, ?_, ?_, ?_⟩
  · rw [sR_ne (by omega)]; exact h2.cg (fun i hi => hw i (by omega))
  · rw [sR_ne (by omega)]; exact h3.cg (fun i hi => hw i (by omega))
  · rw [sR_ne (by omega)]; exact h4.cg (fun i hi => hw i (by omega))
  · rw [sR_ne (by omega)]; exact h5.cg (fun i hi => hw i (by omega))
  · exact h6.cg (by simp (disch := omega) only [sR_ne, and_self]) ⟨hw _ (by omega), fun i hi => hw i (by omega)⟩
  · exact h7.cg (by simp (disch := omega) only [sR_ne, and_self]) ⟨hw _ (by omega), fun i hi => hw i (by omega)⟩
theorem rG_st {b : Nat} {μ : Mem} {v w f : Rw} (h : rG b μ v) (hf : stR f w) (hw : ∀ i, ¬ (0 ≤ i ∧ i < 7) → w i = v i) : rG b (sR μ (b + 1) f) w := by
  obtain ⟨h1, h2, h3, h4, h5, h6, h7⟩ := h
  refine ⟨h1.cg (by rw [sR_ne (by omega)]) (fun i hi => hw i (by omega)), ?_, ?_, ?_, ?_, ?_, ?_⟩
  · rw [sR_eq]; exact hf
  · rw [sR_ne (by omega)]; exact h3.cg (fun i hi => hw i (by omega))
  · rw [sR_ne (by omega)]; exact h4.cg (fun i hi => hw i (by omega))
  · rw [sR_ne (by omega)]; exact h5.cg (fun i hi => hw i (by omega))
  · exact h6.cg (by simp (disch := omega) only [sR_ne, and_self]) ⟨hw _ (by omega), fun i hi => hw i (by omega)⟩
  · exact h7.cg (by simp (disch := omega) only [sR_ne, and_self]) ⟨hw _ (by omega), fun i hi => hw i (by omega)⟩
theorem rG_ow {b : Nat} {μ : Mem} {v w f : Rw} (h : rG b μ v) (hf : oR f w) (hw : ∀ i, ¬ (20 ≤ i ∧ i < 56) → w i = v i) : rG b (sR μ (b + 3) f) w := by
  obtain ⟨h1, h2, h3, h4, h5, h6, h7⟩ := h
  refine ⟨h1.cg (by rw [sR_ne (by omega)]) (fun i hi => hw i (by omega)), ?_, ?_, ?_, ?_, ?_, ?_⟩
  · rw [sR_ne (by omega)]; exact h2.cg (fun i hi => hw i (by omega))
  · rw [sR_eq]; exact hf
  · rw [sR_ne (by omega)]; exact h4.cg (fun i hi => hw i (by omega))
  · rw [sR_ne (by omega)]; exact h5.cg (fun i hi => hw i (by omega))
  · exact h6.cg (by simp (disch := omega) only [sR_ne, and_self]) ⟨hw _ (by omega), fun i hi => hw i (by omega)⟩
  · exact h7.cg (by simp (disch := omega) only [sR_ne, and_self]) ⟨hw _ (by omega), fun i hi => hw i (by omega)⟩
/-- the side of player p -/
def sdC (b : Nat) (p : Int) : Nat := if p = 0 then b + 4 else b + 5
theorem rG_sd {b : Nat} {μ : Mem} {v w f : Rw} {p : Int} (hp : p = 0 ∨ p = 1) (h : rG b μ v) (hf : sdR f w p) (hw : ∀ i, ¬ (56 + 8 * p ≤ i ∧ i < 62 + 8 * p) → w i = v i) : rG b (sR μ (sdC b p) f) w := by
  obtain ⟨h1, h2, h3, h4, h5, h6, h7⟩ := h
  unfold sdC
  rcases hp with rfl | rfl
  · rw [if_pos rfl]
    refine ⟨h1.cg (by rw [sR_ne (by omega)]) (fun i hi => hw i (by omega)), ?_, ?_, ?_, ?_, ?_, ?_⟩
    · rw [sR_ne (by omega)]; exact h2.cg (fun i hi => hw i (by omega))
    · rw [sR_ne (by omega)]; exact h3.cg (fun i hi => hw i (by omega))
    · rw [sR_eq]; exact hf
    · rw [sR_ne (by omega)]; exact h5.cg (fun i hi => hw i (by omega))
    · exact h6.cg (by simp (disch := omega) only [sR_ne, and_self]) ⟨hw _ (by omega), fun i hi => hw i (by omega)⟩
    · exact h7.cg (by simp (disch := omega) only [sR_ne, and_self]) ⟨hw _ (by omega), fun i hi => hw i (by omega)⟩
  · rw [if_neg (by omega)]
    refine ⟨h1.cg (by rw [sR_ne (by omega)]) (fun i hi => hw i (by omega)), ?_, ?_, ?_, ?_, ?_, ?_⟩
    · rw [sR_ne (by omega)]; exact h2.cg (fun i hi => hw i (by omega))
    · rw [sR_ne (by omega)]; exact h3.cg (fun i hi => hw i (by omega))
    · rw [sR_ne (by omega)]; exact h4.cg (fun i hi => hw i (by omega))
    · rw [sR_eq]; exact hf
    · exact h6.cg (by simp (disch := omega) only [sR_ne, and_self]) ⟨hw _ (by omega), fun i hi => hw i (by omega)⟩
    · exact h7.cg (by simp (disch := omega) only [sR_ne, and_self]) ⟨hw _ (by omega), fun i hi => hw i (by omega)⟩
theorem rG_md {b : Nat} {μ μ' : Mem} {v w : Rw} (h : rG b μ v) (hm : ∀ a, ¬ (b + 6 ≤ a ∧ a < b + 11) → μ' a = μ a) (hf : mdR μ' b w) (hw : ∀ i, ¬ (i = 10 ∨ (80 ≤ i ∧ i < 1080)) → w i = v i) : rG b μ' w := by
  obtain ⟨h1, h2, h3, h4, h5, h6, h7⟩ := h
  refine ⟨h1.cg (hm _ (by omega)) (fun i hi => hw i (by omega)), ?_, ?_, ?_, ?_, hf, ?_⟩
  · rw [hm _ (by omega)]; exact h2.cg (fun i hi => hw i (by omega))
  · rw [hm _ (by omega)]; exact h3.cg (fun i hi => hw i (by omega))
  · rw [hm _ (by omega)]; exact h4.cg (fun i hi => hw i (by omega))
  · rw [hm _ (by omega)]; exact h5.cg (fun i hi => hw i (by omega))
  · exact h7.cg ⟨hm _ (by omega), hm _ (by omega)⟩ ⟨hw _ (by omega), fun i hi => hw i (by omega)⟩
theorem wrF_ent {v : Rw} {k a c d t : Int} (h : 0 ≤ v 11) : recL (wrF v k a c d t) (wrF v k a c d t 11).toNat = recL v (v 11).toNat ++ ((if v 11 = 0 then [] else [32]) ++ entL k a c d t) := by
  rw [wrF_11, show (v 11 + 1).toNat = (v 11).toNat + 1 by omega]
  show recL _ (v 11).toNat ++ ((if (v 11).toNat = 0 then [] else [32]) ++ ent _ ((v 11).toNat : Nat)) = _
  rw [recL_cg (v := v) (w := wrF v k a c d t) _ (fun i h1 h2 => by unfold wrF; simp (disch := omega) only [u1_ne])]
  congr 2
  · by_cases hz : v 11 = 0
    · rw [if_pos hz, if_pos (by omega)]
    · rw [if_neg hz, if_neg (by omega)]
  · unfold ent
    rw [show (((v 11).toNat : Nat) : Int) = v 11 by omega]
    unfold wrF
    simp (disch := omega) only [u1_ne, u1_eq]
theorem rG_wr {b : Nat} {μ μ' : Mem} {v : Rw} {k a c d t : Int} (h : rG b μ v) (he : enE b μ μ' (entL k a c d t)) : rG b μ' (wrF v k a c d t) ∧ oG b μ μ' := by
  obtain ⟨h1, h2, h3, h4, h5, h6, g0, g2, g1, g⟩ := h
  obtain ⟨q0, q1, q2, q3, q4, q5⟩ := he
  have hw : ∀ i, ¬ (i = 11 ∨ 1090 ≤ i) → wrF v k a c d t i = v i := fun i hi => wrF_lo g0 (by omega)
  refine ⟨⟨h1.cg (q0 _ (by omega) (by omega)) (fun i hi => hw i (by omega)), ?_, ?_, ?_, ?_, ?_, ?_⟩, fun x hx => q0 x (by omega) (by omega)⟩
  · rw [q0 _ (by omega) (by omega)]; exact h2.cg (fun i hi => hw i (by omega))
  · rw [q0 _ (by omega) (by omega)]; exact h3.cg (fun i hi => hw i (by omega))
  · rw [q0 _ (by omega) (by omega)]; exact h4.cg (fun i hi => hw i (by omega))
  · rw [q0 _ (by omega) (by omega)]; exact h5.cg (fun i hi => hw i (by omega))
  · have e10 := h6.2.1
    exact h6.cg ⟨q0 _ (by omega) (by omega), q0 _ (by omega) (by omega), q0 _ (by omega) (by omega), q0 _ (by omega) (by omega), q0 _ (by omega) (by omega)⟩ ⟨hw _ (by omega), fun i hi => hw i (by omega)⟩
  · have e := wrF_ent (k := k) (a := a) (c := c) (d := d) (t := t) g0
    rw [g2] at q3 q5
    unfold etR
    rw [e]
    refine ⟨by rw [wrF_11]; omega, by rw [wrF_11, q2, g2], ?_, fun i hi => ?_⟩
    · rw [q3, g1]; simp only [List.length_append]; omega
    · by_cases hl : i < (recL v (v 11).toNat).length
      · rw [q4 i (by omega), g i hl, lat_l (by omega) (by omega)]
      · rw [lat_r (by omega)]
        have := q5 (i - (recL v (v 11).toNat).length) (by rw [List.length_append] at hi; omega)
        rw [show ((i : Int) - (recL v (v 11).toNat).length) = ((i - (recL v (v 11).toNat).length : Nat) : Int) by omega, ← this, g1]
        congr 1; omega
