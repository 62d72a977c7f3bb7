/-! BOTH SIDES, CALL BY CALL: the same answer, and the invariant again -/
theorem rM.mC {μ μ' : Mem} {v f T : Rw} {n m : Int} (h : rM μ v f n T m) (c : mC μ μ') : rM μ' v f n T m := by
  obtain ⟨h1, h2, h3, h4, h5, h6⟩ := h
  have e5 := c 5 (by omega) (by omega)
  exact ⟨by rw [c 6 (by omega) (by omega), h1], by rw [c 8 (by omega) (by omega), h2], by rw [e5, h3], by rw [c 10 (by omega) (by omega), h4], by rw [e5, h5], by rw [c 7 (by omega) (by omega)]; exact h6⟩
theorem rK.sC {J : Rw → Prop} {μ μ' : Mem} {v f T : Rw} {n m : Int} (h : rK J μ v f n T m) (c : sC μ μ') : rK J μ' v f n T m := by
  obtain ⟨h1, h2, h3, h4⟩ := h
  exact ⟨rG_fr h1 (fun a g1 g2 => c a (by omega)), hsR_fr h2 (c 1 (by omega)) (fun a ha => c a (by omega)), by rw [c 3 (by omega)]; exact h3, fun i hi => by rw [c 4 (by omega)]; exact h4 i hi⟩
theorem rK.mono {J J' : Rw → Prop} (hJ : ∀ v, J v → J' v) {μ : Mem} {v f T : Rw} {n m : Int} (h : rK J μ v f n T m) : rK J' μ v f n T m := by
  obtain ⟨h1, ⟨g1, g2, g3, g4⟩, h3, h4⟩ := h
  exact ⟨h1, ⟨g1, g2, g3, fun j hj => ⟨(g4 j hj).1, hJ _ (g4 j hj).2⟩⟩, h3, h4⟩
def INV (k : Nat) (μ : Mem) : Prop := ∃ (v f T : Rw) (n m : Int), rK (jI k) μ v f n T m ∧ jI k v ∧ rM μ v f n T m ∧ (0 ≤ m ∧ m ≤ 100) ∧ sgT T m
theorem INV.mk {k j : Nat} {μ μ' : Mem} {v f T : Rw} {n m : Int} (hK : rK (jI k) μ v f n T m) (hv : jI j v) (hj : j ≤ k + 52) (hM : rM μ' v f n T m) (s : sC μ μ') (hm : 0 ≤ m ∧ m ≤ 100) (hT : sgT T m) : INV (k + 52) μ' :=
  ⟨v, f, T, n, m, (hK.sC s).mono (fun _ h => jI_mono (by omega) h), jI_mono hj hv, hM, hm, hT⟩
/-- the reference answers the same, and the invariant holds again -/
def PR (k : Nat) (b : Nat) (bs : List AV) : PQ := fun r μ1 => ∃ x : Int, r = some (aI x) ∧ wpM b bs μ1 (fun r2 μ2 => r2 = some (aI x) ∧ INV (k + 52) μ2)
theorem INV.st {k : Nat} (hk : k ≤ 38000) {v : Rw} (hv : jI k v) : (∀ v, jI k v → cJ v) ∧ (∀ v, jI k v → rwJ v) ∧ (v 9 = 0 ∨ v 9 = 1) ∧ (0 ≤ v 11 ∧ v 11 ≤ 201) ∧ bI v ∧ zo v ∧ gE v ∧ (v 7 = 0 → v 11 < 200 → mI v) ∧ (v 7 = 0 → tI v 9999) := by
  have hC : ∀ v, jI k v → cJ v := fun v h => jI_cJ (by omega) h
  obtain ⟨c0, c9, cb, cf, c2, c11, ct, cm, c12, c1, c13, cta, cl, cp, c7⟩ := hC v hv
  obtain ⟨a7, a9, a10, a11, a70, a71⟩ := id hv.1.2.2.2.1
  exact ⟨hC, fun v h => (hC v h).1, c9, by omega, cb, c0.1, c0.2.1, cm, ct⟩
theorem pr_begin {k : Nat} (hk : k ≤ 38000) {μ : Mem} (h : INV k μ) : wpM 94 [aR 0] μ (PR k 134 [aR 5]) := by
  obtain ⟨v, f, T, n, m, hK, hv, hM, hm, hT⟩ := h
  obtain ⟨hC, hJ, h9, h11, hb, hz, hE, hI, ht⟩ := INV.st hk hv
  have hn := hK.2.1.1
  refine tp_begin hJ hK hv (fun μ1 c1 K1 => ⟨_, rfl, ?_⟩)
  exact m_begin (hM.mC c1) hn (fun μ2 M2 s2 => ⟨rfl, INV.mk K1 (jI_bg (k := k) hv.1.2.2.1 hz) (by omega) M2 s2 hm hT⟩)
theorem pr_set {k : Nat} (hk : k ≤ 38000) {μ : Mem} {s : Int} {x : Int} (h : INV k μ) : wpM 95 [aR 0, aI s, aI x] μ (PR k 135 [aR 5, aI s, aI x]) := by
  obtain ⟨v, f, T, n, m, hK, hv, hM, hm, hT⟩ := h
  obtain ⟨hC, hJ, h9, h11, hb, hz, hE, hI, ht⟩ := INV.st hk hv
  have hn := hK.2.1.1
  refine tp_set hJ hC hK hv (fun z => ⟨_, rfl, ?_⟩) (fun z μ1 c1 K1 => ⟨_, rfl, ?_⟩)
  · exact m_set hM hn h9 (by omega) (fun _ => ⟨rfl, INV.mk hK hv (by omega) hM (sC.rf μ) hm hT⟩) (fun z2 => absurd z2 z)
  · exact m_set (hM.mC c1) hn h9 (by omega) (fun z2 => absurd z z2) (fun _ μ2 M2 s2 => ⟨rfl, INV.mk K1 (jI_stF hv z) (by omega) M2 s2 hm hT⟩)
theorem pr_setting {k : Nat} (hk : k ≤ 38000) {μ : Mem} {s : Int} (h : INV k μ) : wpM 96 [aR 0, aI s] μ (PR k 136 [aR 5, aI s]) := by
  obtain ⟨v, f, T, n, m, hK, hv, hM, hm, hT⟩ := h
  obtain ⟨hC, hJ, h9, h11, hb, hz, hE, hI, ht⟩ := INV.st hk hv
  have hn := hK.2.1.1
  refine tp_setting hK ⟨_, rfl, ?_⟩
  exact c_setting hM.1 ⟨rfl, INV.mk hK hv (by omega) hM (sC.rf μ) hm hT⟩
theorem pr_pass {k : Nat} (hk : k ≤ 38000) {μ : Mem} {t : Int} (h : INV k μ) : wpM 97 [aR 0, aI t] μ (PR k 138 [aR 5, aI t]) := by
  obtain ⟨v, f, T, n, m, hK, hv, hM, hm, hT⟩ := h
  obtain ⟨hC, hJ, h9, h11, hb, hz, hE, hI, ht⟩ := INV.st hk hv
  have hn := hK.2.1.1
  refine tp_pass hJ hC hK hv (fun z => ⟨_, rfl, ?_⟩) (fun z z7 => ⟨_, rfl, ?_⟩) (fun z z7 μ1 c1 K1 => ⟨_, rfl, ?_⟩)
  · exact m_pass hM hn ht (fun _ => ⟨rfl, INV.mk hK hv (by omega) hM (sC.rf μ) hm hT⟩) (fun z2 _ => absurd z2 z) (fun z2 _ => absurd z2 z)
  · exact m_pass hM hn ht (fun z2 => absurd z z2) (fun _ _ => ⟨rfl, INV.mk hK hv (by omega) hM (sC.rf μ) hm hT⟩) (fun _ z2 => absurd z2 z7)
  · exact m_pass (hM.mC c1) hn ht (fun z2 => absurd z z2) (fun _ z2 => absurd z7 z2) (fun _ _ μ2 M2 s2 => ⟨rfl, INV.mk K1 (jI_paF (by omega) hv) (by omega) M2 s2 hm hT⟩)
theorem pr_move {k : Nat} (hk : k ≤ 38000) {μ : Mem} {a : Int} {t : Int} (h : INV k μ) : wpM 98 [aR 0, aI a, aI t] μ (PR k 145 [aR 5, aI a, aI t]) := by
  obtain ⟨v, f, T, n, m, hK, hv, hM, hm, hT⟩ := h
  obtain ⟨hC, hJ, h9, h11, hb, hz, hE, hI, ht⟩ := INV.st hk hv
  have hn := hK.2.1.1
  have hE2 : plE v a t = 0 → (isC a ∧ isC t) ∧ v 7 = 0 ∧ why v a t = 0 ∧ v 11 ≤ 199 := by
    intro hk
    unfold plE at hk
    (repeat' split at hk) <;> omega
  have hbd := Bd_le (k := k) (by omega)
  refine tp_move hJ hC hK hv (fun z => ⟨_, rfl, ?_⟩) (fun z μ1 c1 K1 => ⟨_, rfl, ?_⟩)
  · exact m_move hM hn hz hI h9 (fun _ μ2 M2 s2 => ⟨rfl, INV.mk hK hv (by omega) M2 s2 hm hT⟩) (fun z2 => absurd z2 z)
  · obtain ⟨⟨ha, hc⟩, h7, hy, h199⟩ := hE2 z
    exact m_move (hM.mC c1) hn hz hI h9 (fun z2 => absurd z z2) (fun _ μ2 M2 s2 => ⟨rfl, INV.mk K1 (jI_mvF hv.1 hv.2.1 h7 h199 ha hc (Or.inl rfl) (by omega) hy) (by omega) M2 s2 hm hT⟩)
theorem pr_why {k : Nat} (hk : k ≤ 38000) {μ : Mem} {a : Int} {t : Int} (h : INV k μ) : wpM 99 [aR 0, aI a, aI t] μ (PR k 146 [aR 5, aI a, aI t]) := by
  obtain ⟨v, f, T, n, m, hK, hv, hM, hm, hT⟩ := h
  obtain ⟨hC, hJ, h9, h11, hb, hz, hE, hI, ht⟩ := INV.st hk hv
  have hn := hK.2.1.1
  refine tp_why hC hK hv ⟨_, rfl, ?_⟩
  exact c_why hM.1 h9 ⟨rfl, INV.mk hK hv (by omega) hM (sC.rf μ) hm hT⟩
theorem pr_seal {k : Nat} (hk : k ≤ 38000) {μ : Mem} {a : Int} {t : Int} (h : INV k μ) : wpM 100 [aR 0, aI a, aI t] μ (PR k 147 [aR 5, aI a, aI t]) := by
  obtain ⟨v, f, T, n, m, hK, hv, hM, hm, hT⟩ := h
  obtain ⟨hC, hJ, h9, h11, hb, hz, hE, hI, ht⟩ := INV.st hk hv
  have hn := hK.2.1.1
  have hE2 : slE v a t = 0 → (isC a ∧ isC t) ∧ v 7 = 0 ∧ v 11 ≤ 199 := by
    intro hk
    unfold slE at hk
    (repeat' split at hk) <;> omega
  refine tp_seal hJ hK hv (fun z => ⟨_, rfl, ?_⟩) (fun z μ1 c1 K1 => ⟨_, rfl, ?_⟩)
  · exact m_seal hM hn (fun _ => ⟨rfl, INV.mk hK hv (by omega) hM (sC.rf μ) hm hT⟩) (fun z2 => absurd z2 z)
  · obtain ⟨⟨ha, hc⟩, h7, h199⟩ := hE2 z
    exact m_seal (hM.mC c1) hn (fun z2 => absurd z z2) (fun _ μ2 M2 s2 => ⟨rfl, INV.mk K1 (jI_sl hv h199 ha hc) (by omega) M2 s2 hm hT⟩)
theorem pr_resume {k : Nat} (hk : k ≤ 38000) {μ : Mem} (h : INV k μ) : wpM 101 [aR 0] μ (PR k 148 [aR 5]) := by
  obtain ⟨v, f, T, n, m, hK, hv, hM, hm, hT⟩ := h
  obtain ⟨hC, hJ, h9, h11, hb, hz, hE, hI, ht⟩ := INV.st hk hv
  have hn := hK.2.1.1
  have hbd := Bd_le (k := k) (by omega)
  refine tp_resume hJ hC hK hv (fun z => ⟨_, rfl, ?_⟩) (fun z μ1 c1 K1 => ⟨_, rfl, ?_⟩)
  · exact m_resume (k := k) (by omega) hM hn hv.1 (fun _ => ⟨rfl, INV.mk hK hv (by omega) hM (sC.rf μ) hm hT⟩) (fun z2 => absurd z2 z)
  · exact m_resume (k := k) (by omega) (hM.mC c1) hn hv.1 (fun z2 => absurd z z2) (fun _ μ2 M2 s2 => ⟨rfl, INV.mk K1 (jI_rm hv z (by omega)) (by omega) M2 s2 hm hT⟩)
theorem pr_ask {k : Nat} (hk : k ≤ 38000) {μ : Mem} {p : Int} (h : INV k μ) : wpM 102 [aR 0, aI p] μ (PR k 152 [aR 5, aI p]) := by
  obtain ⟨v, f, T, n, m, hK, hv, hM, hm, hT⟩ := h
  obtain ⟨hC, hJ, h9, h11, hb, hz, hE, hI, ht⟩ := INV.st hk hv
  have hn := hK.2.1.1
  have hE2 : akE v p = 0 → (p = 0 ∨ p = 1) ∧ v 7 = 0 ∧ v 13 = 0 ∧ v (hs p 4) ≠ 0 ∧ v 11 ≤ 199 := by
    intro hk
    unfold akE at hk
    (repeat' split at hk) <;> omega
  have h10 : akE v p = 0 → 1 ≤ v (hs p 4) ∧ 1 ≤ v 10 ∧ v 10 ≤ 200 := by
    intro z
    obtain ⟨hp, _, _, h4, _⟩ := hE2 z
    have q4 := (jB_s hv.1 hp).2.2.2.2.1
    obtain ⟨a7, a9, a10, a11, a70, a71⟩ := id hv.1.2.2.2.1
    omega
  refine tp_ask hJ hC hK hv (fun z => ⟨_, rfl, ?_⟩) (fun z μ1 c1 K1 => ⟨_, rfl, ?_⟩)
  · exact m_ask hM hn h11.1 (fun z => (h10 z).2) (fun _ => ⟨rfl, INV.mk hK hv (by omega) hM (sC.rf μ) hm hT⟩) (fun z2 => absurd z2 z)
  · obtain ⟨hp, h7, h13, h4, h199⟩ := hE2 z
    exact m_ask (hM.mC c1) hn h11.1 (fun z => (h10 z).2) (fun z2 => absurd z z2) (fun _ μ2 M2 s2 => ⟨rfl, INV.mk K1 (jI_ak (q := 1) (e := 5) hv h7 h199 hp (Or.inr ⟨rfl, (h10 z).1⟩) (by omega)) (by omega) M2 s2 hm hT⟩)
theorem pr_offer {k : Nat} (hk : k ≤ 38000) {μ : Mem} {p : Int} (h : INV k μ) : wpM 103 [aR 0, aI p] μ (PR k 153 [aR 5, aI p]) := by
  obtain ⟨v, f, T, n, m, hK, hv, hM, hm, hT⟩ := h
  obtain ⟨hC, hJ, h9, h11, hb, hz, hE, hI, ht⟩ := INV.st hk hv
  have hn := hK.2.1.1
  have hE2 : ofE v p = 0 → (p = 0 ∨ p = 1) ∧ v 7 = 0 ∧ v 11 ≤ 199 := by
    intro hk
    unfold ofE at hk
    (repeat' split at hk) <;> omega
  refine tp_offer hJ hC hK hv (fun z => ⟨_, rfl, ?_⟩) (fun z μ1 c1 K1 => ⟨_, rfl, ?_⟩)
  · exact m_offer hM hn h11.1 (fun _ => ⟨rfl, INV.mk hK hv (by omega) hM (sC.rf μ) hm hT⟩) (fun z2 => absurd z2 z)
  · obtain ⟨hp, h7, h199⟩ := hE2 z
    exact m_offer (hM.mC c1) hn h11.1 (fun z2 => absurd z z2) (fun _ μ2 M2 s2 => ⟨rfl, INV.mk K1 (jI_ak (q := 2) (e := 4) hv h7 h199 hp (Or.inl rfl) (by omega)) (by omega) M2 s2 hm hT⟩)
theorem jI_an {k : Nat} (hk : k ≤ 38000) {v : Rw} {a : Int} (hv : jI k v) (h : anE v a = 0) : jI (k + 3) (anF v a) := by
  obtain ⟨hB, hf, q1, q2⟩ := id hv
  obtain ⟨a7, a9, a10, a11, a70, a71⟩ := id hB.2.2.2.1
  have h13 : v 13 ≠ 0 ∧ (200 ≤ v 11 → a ≠ 0 ∧ v 13 = 2) := by
    unfold anE at h
    (repeat' split at h) <;> omega
  obtain ⟨h13, h200⟩ := h13
  obtain ⟨g7, g13, g14⟩ := q1 h13
  unfold anF
  by_cases c : a ≠ 0 ∧ v 13 = 2
  · rw [if_pos c]
    exact jI_mono (by omega) (jI_en hB (a70 g7) (by omega) (by omega))
  · rw [if_neg c]
    have h199 : v 11 ≤ 199 := by
      apply Classical.byContradiction
      intro z
      exact c (h200 (by omega))
    by_cases c2 : a = 0
    · rw [if_pos c2]
      exact jI_mono (by omega) (jI_rf hv g7 h199)
    · rw [if_neg c2]
      exact jI_tb hk hv g7 h199 g14 (q2 (by omega))
theorem pr_answer {k : Nat} (hk : k ≤ 38000) {μ : Mem} {a : Int} (h : INV k μ) (ha : a = 0 ∨ a = 1) : wpM 104 [aR 0, aI a] μ (PR k 155 [aR 5, aI a]) := by
  obtain ⟨v, f, T, n, m, hK, hv, hM, hm, hT⟩ := h
  obtain ⟨hC, hJ, h9, h11, hb, hz, hE, hI, ht⟩ := INV.st hk hv
  have hn := hK.2.1.1
  refine tp_answer hJ hC hK hv ha (fun z => ⟨_, rfl, ?_⟩) (fun z μ1 c1 K1 => ⟨_, rfl, ?_⟩)
  · exact m_answer hk hM hn hv ha (fun _ => ⟨rfl, INV.mk hK hv (by omega) hM (sC.rf μ) hm hT⟩) (fun z2 => absurd z2 z)
  · exact m_answer hk (hM.mC c1) hn hv ha (fun z2 => absurd z z2) (fun _ μ2 M2 s2 => ⟨rfl, INV.mk K1 (jI_an hk hv z) (by omega) M2 s2 hm hT⟩)
theorem pr_resign {k : Nat} (hk : k ≤ 38000) {μ : Mem} {p : Int} (h : INV k μ) : wpM 105 [aR 0, aI p] μ (PR k 156 [aR 5, aI p]) := by
  obtain ⟨v, f, T, n, m, hK, hv, hM, hm, hT⟩ := h
  obtain ⟨hC, hJ, h9, h11, hb, hz, hE, hI, ht⟩ := INV.st hk hv
  have hn := hK.2.1.1
  have hE2 : rsE v p = 0 → v 11 ≤ 200 := by
    intro hk
    obtain ⟨a7, a9, a10, a11, a70, a71⟩ := id hv.1.2.2.2.1
    unfold rsE at hk
    (repeat' split at hk) <;> omega
  refine tp_resign hJ hC hK hv (fun z => ⟨_, rfl, ?_⟩) (fun z μ1 c1 K1 => ⟨_, rfl, ?_⟩)
  · exact m_resign hM hn (by omega) (fun _ => ⟨rfl, INV.mk hK hv (by omega) hM (sC.rf μ) hm hT⟩) (fun z2 => absurd z2 z)
  · exact m_resign (hM.mC c1) hn (by omega) (fun z2 => absurd z z2) (fun _ μ2 M2 s2 => ⟨rfl, INV.mk K1 (jI_lo hv (hE2 z) (by omega)) (by omega) M2 s2 hm hT⟩)
theorem pr_claim {k : Nat} (hk : k ≤ 38000) {μ : Mem} {p : Int} (h : INV k μ) : wpM 106 [aR 0, aI p] μ (PR k 157 [aR 5, aI p]) := by
  obtain ⟨v, f, T, n, m, hK, hv, hM, hm, hT⟩ := h
  obtain ⟨hC, hJ, h9, h11, hb, hz, hE, hI, ht⟩ := INV.st hk hv
  have hn := hK.2.1.1
  have hE2 : clE v p = 0 → v 11 ≤ 200 := by
    intro hk
    obtain ⟨a7, a9, a10, a11, a70, a71⟩ := id hv.1.2.2.2.1
    unfold clE at hk
    (repeat' split at hk) <;> omega
  refine tp_claim hJ hC hK hv (fun z => ⟨_, rfl, ?_⟩) (fun z μ1 c1 K1 => ⟨_, rfl, ?_⟩)
  · exact m_claim hM hn (by omega) (fun _ => ⟨rfl, INV.mk hK hv (by omega) hM (sC.rf μ) hm hT⟩) (fun z2 => absurd z2 z)
  · exact m_claim (hM.mC c1) hn (by omega) (fun z2 => absurd z z2) (fun _ μ2 M2 s2 => ⟨rfl, INV.mk K1 (jI_lo hv (hE2 z) (by omega)) (by omega) M2 s2 hm hT⟩)
theorem pr_at {k : Nat} (hk : k ≤ 38000) {μ : Mem} {c : Int} (h : INV k μ) : wpM 107 [aR 0, aI c] μ (PR k 158 [aR 5, aI c]) := by
  obtain ⟨v, f, T, n, m, hK, hv, hM, hm, hT⟩ := h
  obtain ⟨hC, hJ, h9, h11, hb, hz, hE, hI, ht⟩ := INV.st hk hv
  have hn := hK.2.1.1
  refine tp_at hK ⟨_, rfl, ?_⟩
  exact c_at hM.1 (hb c) ⟨rfl, INV.mk hK hv (by omega) hM (sC.rf μ) hm hT⟩
theorem pr_game {k : Nat} (hk : k ≤ 38000) {μ : Mem} {c : Int} (h : INV k μ) : wpM 108 [aR 0, aI c] μ (PR k 160 [aR 5, aI c]) := by
  obtain ⟨v, f, T, n, m, hK, hv, hM, hm, hT⟩ := h
  obtain ⟨hC, hJ, h9, h11, hb, hz, hE, hI, ht⟩ := INV.st hk hv
  have hn := hK.2.1.1
  refine tp_game hK hb h9 ⟨_, rfl, ?_⟩
  exact c_game hM.1 h9 ⟨rfl, INV.mk hK hv (by omega) hM (sC.rf μ) hm hT⟩
theorem pr_player {k : Nat} (hk : k ≤ 38000) {μ : Mem} {p : Int} {c : Int} (h : INV k μ) : wpM 109 [aR 0, aI p, aI c] μ (PR k 162 [aR 5, aI p, aI c]) := by
  obtain ⟨v, f, T, n, m, hK, hv, hM, hm, hT⟩ := h
  obtain ⟨hC, hJ, h9, h11, hb, hz, hE, hI, ht⟩ := INV.st hk hv
  have hn := hK.2.1.1
  refine tp_player hK hb ⟨_, rfl, ?_⟩
  exact c_player hM.1 ⟨rfl, INV.mk hK hv (by omega) hM (sC.rf μ) hm hT⟩
theorem pr_possible {k : Nat} (hk : k ≤ 38000) {μ : Mem} {i : Int} (h : INV k μ) : wpM 110 [aR 0, aI i] μ (PR k 163 [aR 5, aI i]) := by
  obtain ⟨v, f, T, n, m, hK, hv, hM, hm, hT⟩ := h
  obtain ⟨hC, hJ, h9, h11, hb, hz, hE, hI, ht⟩ := INV.st hk hv
  have hn := hK.2.1.1
  refine tp_possible hK hb h9 ⟨_, rfl, ?_⟩
  exact c_psbl hM.1 h9 ⟨rfl, INV.mk hK hv (by omega) hM (sC.rf μ) hm hT⟩
theorem pr_written {k : Nat} (hk : k ≤ 38000) {μ : Mem} (h : INV k μ) : wpM 111 [aR 0] μ (PR k 169 [aR 5]) := by
  obtain ⟨v, f, T, n, m, hK, hv, hM, hm, hT⟩ := h
  obtain ⟨hC, hJ, h9, h11, hb, hz, hE, hI, ht⟩ := INV.st hk hv
  have hn := hK.2.1.1
  refine tp_written hK ⟨_, rfl, ?_⟩
  exact m_written hM hE (by omega) (fun μ2 M2 s2 => ⟨rfl, INV.mk hK hv (by omega) M2 s2 hm hT⟩)
theorem pr_sign {k : Nat} (hk : k ≤ 38000) {μ : Mem} {i : Int} (h : INV k μ) : wpM 112 [aR 0, aI i] μ (PR k 170 [aR 5, aI i]) := by
  obtain ⟨v, f, T, n, m, hK, hv, hM, hm, hT⟩ := h
  obtain ⟨hC, hJ, h9, h11, hb, hz, hE, hI, ht⟩ := INV.st hk hv
  have hn := hK.2.1.1
  refine tp_sign hK (rJ_len hK.1 (hJ v hv)).2 ⟨_, rfl, ?_⟩
  exact m_sign hM hE (by omega) (fun μ2 M2 s2 => ⟨rfl, INV.mk hK hv (by omega) M2 s2 hm hT⟩)
theorem pr_type {k : Nat} (hk : k ≤ 38000) {μ : Mem} {c : Int} (h : INV k μ) : wpM 114 [aR 0, aI c] μ (PR k 172 [aR 5, aI c]) := by
  obtain ⟨v, f, T, n, m, hK, hv, hM, hm, hT⟩ := h
  obtain ⟨hC, hJ, h9, h11, hb, hz, hE, hI, ht⟩ := INV.st hk hv
  have hn := hK.2.1.1
  have hT2 : 32 ≤ c ∧ c ≤ 126 → m ≠ 100 → sgT (u1 T m c) (m + 1) := by
    intro z z2 i hi
    unfold u1
    by_cases e : i = m
    · rw [if_pos e]; exact z
    · rw [if_neg e]; exact hT i (by omega)
  refine tp_type hK hm hT (fun z => ⟨_, rfl, ?_⟩) (fun z z1 => ⟨_, rfl, ?_⟩) (fun z z1 μ1 c1 K1 => ⟨_, rfl, ?_⟩)
  · exact m_type hM hm (fun _ => ⟨rfl, INV.mk hK hv (by omega) hM (sC.rf μ) hm hT⟩) (fun z2 _ => absurd z2 z) (fun z2 _ => absurd z2 z)
  · exact m_type hM hm (fun z2 => absurd z z2) (fun _ _ => ⟨rfl, INV.mk hK hv (by omega) hM (sC.rf μ) hm hT⟩) (fun _ z2 => absurd z1 z2)
  · exact m_type (hM.mC c1) hm (fun z2 => absurd z z2) (fun _ z2 => absurd z2 z1) (fun _ _ μ2 M2 s2 => ⟨rfl, INV.mk K1 hv (by omega) M2 s2 (by omega) (hT2 z z1)⟩)
theorem pr_clear {k : Nat} (hk : k ≤ 38000) {μ : Mem} (h : INV k μ) : wpM 115 [aR 0] μ (PR k 173 [aR 5]) := by
  obtain ⟨v, f, T, n, m, hK, hv, hM, hm, hT⟩ := h
  obtain ⟨hC, hJ, h9, h11, hb, hz, hE, hI, ht⟩ := INV.st hk hv
  have hn := hK.2.1.1
  refine tp_clear hK (fun μ1 c1 K1 => ⟨_, rfl, ?_⟩)
  exact m_clear (hM.mC c1) (fun μ2 M2 s2 => ⟨rfl, INV.mk K1 hv (by omega) M2 s2 (by omega) (fun i hi => by omega)⟩)
theorem plyL_J {J : Nat → Rw → Prop} {ps : List Int} (hJs : ∀ k v x, k < 60 → J k v → x ∈ ps → ¬ ptE v x → J (k + 1) (ptF v x)) : ∀ (xs : List Int) (k : Nat) (v : Rw), (∀ x ∈ xs, x ∈ ps) → k + xs.length ≤ 60 → J k v → (plyL v xs k).1 = none → J (k + xs.length) (plyL v xs k).2
  | [], k, v, _, _, h, _ => h
  | x :: xs, k, v, hx, hk, h, he => by
    by_cases c : ptE v x
    · rw [plyL_f c] at he
      cases he
    · rw [plyL_s c] at he ⊢
      simp only [List.length_cons] at hk ⊢
      have := plyL_J hJs xs (k + 1) (ptF v x) (fun y hy => hx y (List.mem_cons_of_mem _ hy)) (by omega) (hJs k v x (by omega) h (hx x List.mem_cons_self) c) he
      rw [show k + (xs.length + 1) = k + 1 + xs.length by omega]
      exact this
theorem pr_play {k : Nat} (hk : k ≤ 38000) {μ : Mem} (h : INV k μ) : wpM 116 [aR 0] μ (PR k 178 [aR 5]) := by
  obtain ⟨v, f, T, n, m, hK, hv, hM, hm, hT⟩ := h
  obtain ⟨hC, hJ, h9, h11, hb, hz, hE, hI, ht⟩ := INV.st hk hv
  have hn := hK.2.1.1
  have hrg := rdT_rng T m 102 0 [] (by omega) (by omega) (by simp) (by simp)
  have hJs : ∀ (j : Nat) (v : Rw) (x : Int), j < 60 → (j ≤ 60 ∧ jI (k + j) v) → x ∈ (rdT T m 102 0 []).2.2 → ¬ ptE v x → (j + 1 ≤ 60 ∧ jI (k + (j + 1)) (ptF v x)) := by
    intro j v x hj h hx hE
    exact ⟨by omega, jI_pt (k := k + j) (by omega) h.2 (hrg.1 x hx) hE⟩
  have hp : ∀ (j : Nat) (v : Rw), (j ≤ 60 ∧ jI (k + j) v) → pK v := fun j v h => cJ_pK (jI_cJ (by omega) h.2)
  have hq : ∀ j : Nat, plJ (fun v => j ≤ 60 ∧ jI (k + j) v) := by
    intro j v h
    obtain ⟨c0, c9, cb, cf, c2, c11, ct, cm, c12, c1, c13, cta, cl, cp, c7⟩ := jI_cJ (by omega) h.2
    exact ⟨cm, c9, ct, c0.1⟩
  have hfin := plyL_J (J := fun j v => j ≤ 60 ∧ jI (k + j) v) hJs (rdT T m 102 0 []).2.2 0 v (fun x hx => hx) (by omega) ⟨by omega, hv⟩
  refine tp_play (J := fun j v => j ≤ 60 ∧ jI (k + j) v) hJ hp hK hv ⟨by omega, hv⟩ hm hT hJs (fun z => ⟨_, rfl, ?_⟩) (fun z j zj μ1 c1 K1 => ⟨_, rfl, ?_⟩) (fun z z1 μ1 c1 K1 => ⟨_, rfl, ?_⟩)
  · exact c_play (J := fun j v => j ≤ 60 ∧ jI (k + j) v) hM hn hm hq ⟨by omega, hv⟩ hJs (fun _ μ2 M2 s2 => ⟨rfl, INV.mk hK hv (by omega) M2 s2 hm hT⟩) (fun z2 => absurd (z.symm.trans z2) (by decide)) (fun z2 => absurd (z.symm.trans z2) (by decide))
  · refine c_play (J := fun j v => j ≤ 60 ∧ jI (k + j) v) (hM.mC c1) hn hm hq ⟨by omega, hv⟩ hJs (fun z2 => absurd (z.symm.trans z2) (by decide)) (fun _ j2 zj2 μ2 M2 s2 => ⟨?_, INV.mk K1 hv (by omega) M2 s2 hm hT⟩) (fun _ z2 => absurd (zj.symm.trans z2) (by simp))
    have : j2 = j := by simpa using zj2.symm.trans zj
    rw [this]
  · exact c_play (J := fun j v => j ≤ 60 ∧ jI (k + j) v) (hM.mC c1) hn hm hq ⟨by omega, hv⟩ hJs (fun z2 => absurd (z.symm.trans z2) (by decide)) (fun _ j2 zj2 => absurd (zj2.symm.trans z1) (by simp)) (fun _ _ μ2 M2 s2 => ⟨rfl, INV.mk K1 (hfin z1).2 (by omega) M2 s2 (by omega) (fun i hi => by omega)⟩)
theorem pr_undo {k : Nat} (hk : k ≤ 38000) {μ : Mem} (h : INV k μ) : wpM 117 [aR 0] μ (PR k 179 [aR 5]) := by
  obtain ⟨v, f, T, n, m, hK, hv, hM, hm, hT⟩ := h
  obtain ⟨hC, hJ, h9, h11, hb, hz, hE, hI, ht⟩ := INV.st hk hv
  have hn := hK.2.1.1
  refine tp_undo hJ hK (fun z => ⟨_, rfl, ?_⟩) (fun z zJ μ1 c1 K1 => ⟨_, rfl, ?_⟩)
  · exact m_undo hM hn hz (fun _ => ⟨rfl, INV.mk hK hv (by omega) hM (sC.rf μ) hm hT⟩) (fun z2 => absurd z z2)
  · exact m_undo (hM.mC c1) hn hz (fun z2 => absurd z2 z) (fun _ μ2 M2 s2 => ⟨rfl, INV.mk K1 zJ (by omega) M2 s2 hm hT⟩)
/-- the fingerprint, a long number -/
theorem pr_fp {k : Nat} (hk : k ≤ 38000) {μ : Mem} (h : INV k μ) : wpM 118 [aR 0] μ (fun r μ1 => ∃ x : Int64, r = some (aL x) ∧ wpM 180 [aR 5] μ1 (fun r2 μ2 => r2 = some (aL x) ∧ INV (k + 52) μ2)) := by
  obtain ⟨v, f, T, n, m, hK, hv, hM, hm, hT⟩ := h
  obtain ⟨hC, hJ, h9, h11, hb, hz, hE, hI, ht⟩ := INV.st hk hv
  refine tp_fp hC hK hv ⟨_, rfl, ?_⟩
  exact m_fp hM h9 hb hE (by omega) (fun μ2 M2 s2 => ⟨rfl, INV.mk hK hv (by omega) M2 s2 hm hT⟩)
