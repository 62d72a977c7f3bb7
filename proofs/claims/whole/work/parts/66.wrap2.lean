/-! THE REFERENCE'S METHODS OVER ROW, HISTORY AND TEXT, 2 -/
theorem eqL.sC {μ μ' : Mem} (h : eqL μ μ') : sC μ μ' := fun a ha => h.1 a (by omega) (by omega)
theorem eqL.rM {μ μ' : Mem} {v f T : Rw} {n m : Int} (h : eqL μ μ') (hr : rM μ v f n T m) : rM μ' v f n T m := by
  obtain ⟨h1, h2, h3, h4, h5, h6⟩ := hr
  exact ⟨by rw [h.1 6 (by omega) (by omega), h1], by rw [h.1 8 (by omega) (by omega), h2], by rw [h.2 3 (by omega), h3], by rw [h.1 10 (by omega) (by omega), h4], by rw [h.2 7 (by omega), h5], by rw [h.1 7 (by omega) (by omega)]; exact h6⟩
theorem m_move {μ : Mem} {v f T : Rw} {n m a t : Int} {Q : PQ} (h : rM μ v f n T m) (hn : 0 ≤ n ∧ n ≤ 6) (hz : zo v) (hI : v 7 = 0 → v 11 < 200 → mI v) (h9 : v 9 = 0 ∨ v 9 = 1) (h0 : plE v a t ≠ 0 → ∀ μ', rM μ' v f n T m → sC μ μ' → Q (some (aI (plE v a t))) μ') (h1 : plE v a t = 0 → ∀ μ', rM μ' (mvF v a t 0) (kpP f v n) (kpN n) T m → sC μ μ' → Q (some (aI (mvT v t))) μ') : wpM 145 [aR 5, aI a, aI t] μ Q := by
  obtain ⟨h6, h8, h3, h10, h7, hz7⟩ := id h
  refine c_move h6 hz hz7 (by rw [h3]; exact hn) hI h9 ?_
  by_cases hk : plE v a t = 0
  · have e1 : plR v a t = mvT v t := by unfold plR; rw [if_pos hk]
    have e2 : plF v a t = mvF v a t 0 := by unfold plF; rw [if_pos hk]
    rw [if_pos hk, e1, e2]
    refine h1 hk _ ⟨?_, ?_, ?_, ?_, ?_, ?_⟩ (fun q hq => ?_)
    · rw [kpM_o (by omega), sR_eq]
    · unfold kpM; simp (disch := omega) only [sR_ne, sR_eq, h3, h8]
    · unfold kpM; simp (disch := omega) only [sR_ne, sR_eq, u1_eq, h3]
    · rw [kpM_o (by omega), sR_ne (by omega), sR_ne (by omega), h10]
    · unfold kpM; simp (disch := omega) only [sR_ne, sR_eq, u1_ne, h7]
    · rw [kpM_o (by omega), sR_ne (by omega), sR_eq]; exact hz
    · rw [kpM_o (by omega), sR_ne (by omega), sR_ne (by omega)]
  · have e1 : plR v a t = plE v a t := by unfold plR; rw [if_neg hk]
    rw [if_neg hk, e1]
    exact h0 hk _ ⟨by rw [sR_ne (by omega), h6], by rw [sR_ne (by omega), h8], by rw [sR_ne (by omega), h3], by rw [sR_ne (by omega), h10], by rw [sR_ne (by omega), h7], by rw [sR_eq]; exact hz⟩ (sC.st (by omega))
theorem m_seal {μ : Mem} {v f T : Rw} {n m a t : Int} {Q : PQ} (h : rM μ v f n T m) (hn : 0 ≤ n ∧ n ≤ 6) (h0 : slE v a t ≠ 0 → Q (some (aI (slE v a t))) μ) (h1 : slE v a t = 0 → ∀ μ', rM μ' (slF v a t) (kpP f v n) (kpN n) T m → sC μ μ' → Q (some (aI (v 9))) μ') : wpM 147 [aR 5, aI a, aI t] μ Q := by
  obtain ⟨r, sc⟩ := kp_rM (w := slF v a t) h
  exact c_seal h.1 (by rw [h.2.2.1]; exact hn) h0 (fun z => h1 z _ r sc)
theorem m_resume {k : Nat} (hk : k ≤ 39000) {μ : Mem} {v f T : Rw} {n m : Int} {Q : PQ} (h : rM μ v f n T m) (hn : 0 ≤ n ∧ n ≤ 6) (hv : jB k v) (h0 : v 7 ≠ 1 → Q (some (aI (-200002))) μ) (h1 : v 7 = 1 → ∀ μ', rM μ' (rmF v) (kpP f v n) (kpN n) T m → sC μ μ' → Q (some (aI (rmF v 7))) μ') : wpM 148 [aR 5] μ Q := by
  obtain ⟨r, sc⟩ := kp_rM (w := rmF v) h
  have h9 := jB_9 hv
  obtain ⟨a7, a9, a10, a11, a70, a71⟩ := hv.2.2.2.1
  have fr : ∀ i, i ≠ 7 → rmW v i = v i := fun i hi => u1_ne hi
  have e9 := fr 9 (by omega)
  have e10 := fr 10 (by omega)
  have e11 := fr 11 (by omega)
  refine c_resume h.1 (by rw [h.2.2.1]; exact hn) (fun z => ⟨(a71 z).2.1, (a71 z).2.2, rmW_mI hk hv (a71 z).1⟩) h9 (fun z x y hx hy => ?_) (fun z x y hx hy => ?_) h0 (fun z => h1 z _ r sc)
  · have := (a71 z).1
    rw [mvF_9 (by omega) (by omega) (by omega) hx hy]
    omega
  · have := (a71 z).1
    have m11 := mvF_11 (v := rmW v) (kind := 1) (f := x) (t := y) (by omega) (by omega) (by omega) hx hy
    omega
theorem m_ask {μ : Mem} {v f T : Rw} {n m p : Int} {Q : PQ} (h : rM μ v f n T m) (hn : 0 ≤ n ∧ n ≤ 6) (h11 : 0 ≤ v 11) (h10 : akE v p = 0 → 1 ≤ v 10 ∧ v 10 ≤ 200) (h0 : akE v p ≠ 0 → Q (some (aI (akE v p))) μ) (h1 : akE v p = 0 → ∀ μ', rM μ' (akF v 1 p 5) (kpP f v n) (kpN n) T m → sC μ μ' → Q (some (aI (bkN v p))) μ') : wpM 152 [aR 5, aI p] μ Q := by
  obtain ⟨r, sc⟩ := kp_rM (w := akF v 1 p 5) h
  exact c_ask h.1 (by rw [h.2.2.1]; exact hn) h11 h10 h0 (fun z => h1 z _ r sc)
theorem m_offer {μ : Mem} {v f T : Rw} {n m p : Int} {Q : PQ} (h : rM μ v f n T m) (hn : 0 ≤ n ∧ n ≤ 6) (h11 : 0 ≤ v 11) (h0 : ofE v p ≠ 0 → Q (some (aI (ofE v p))) μ) (h1 : ofE v p = 0 → ∀ μ', rM μ' (akF v 2 p 4) (kpP f v n) (kpN n) T m → sC μ μ' → Q (some (aI 1)) μ') : wpM 153 [aR 5, aI p] μ Q := by
  obtain ⟨r, sc⟩ := kp_rM (w := akF v 2 p 4) h
  exact c_offer h.1 (by rw [h.2.2.1]; exact hn) h11 h0 (fun z => h1 z _ r sc)
theorem m_resign {μ : Mem} {v f T : Rw} {n m p : Int} {Q : PQ} (h : rM μ v f n T m) (hn : 0 ≤ n ∧ n ≤ 6) (h11 : 0 ≤ v 11 ∧ v 11 ≤ 204) (h0 : rsE v p ≠ 0 → Q (some (aI (rsE v p))) μ) (h1 : rsE v p = 0 → ∀ μ', rM μ' (loF v p 5) (kpP f v n) (kpN n) T m → sC μ μ' → Q (some (aI (loF v p 5 7))) μ') : wpM 156 [aR 5, aI p] μ Q := by
  obtain ⟨r, sc⟩ := kp_rM (w := loF v p 5) h
  exact c_resign h.1 (by rw [h.2.2.1]; exact hn) h11 h0 (fun z => h1 z _ r sc)
theorem m_claim {μ : Mem} {v f T : Rw} {n m p : Int} {Q : PQ} (h : rM μ v f n T m) (hn : 0 ≤ n ∧ n ≤ 6) (h11 : 0 ≤ v 11 ∧ v 11 ≤ 204) (h0 : clE v p ≠ 0 → Q (some (aI (clE v p))) μ) (h1 : clE v p = 0 → ∀ μ', rM μ' (loF v (1 - p) 4) (kpP f v n) (kpN n) T m → sC μ μ' → Q (some (aI (loF v (1 - p) 4 7))) μ') : wpM 157 [aR 5, aI p] μ Q := by
  obtain ⟨r, sc⟩ := kp_rM (w := loF v (1 - p) 4) h
  exact c_claim h.1 (by rw [h.2.2.1]; exact hn) h11 h0 (fun z => h1 z _ r sc)
theorem unT_o {k : Nat} {w : Rw} {n i : Int} (hk : k ≤ 39000) (h : jB k w) (h10 : 1 ≤ w 10) (hn : n = 1 ∨ (n = 2 ∧ 2 ≤ w 10)) (hi : i ≠ 9 ∧ i ≠ 10 ∧ ¬ (20 ≤ i ∧ i < 56) ∧ ¬ (56 ≤ i ∧ i < 61) ∧ ¬ (64 ≤ i ∧ i < 69)) : unT w n i = w i := by
  obtain ⟨hI, hJ, h4⟩ := jB_uI (k := k) (by omega) h h10
  have h1 := jB_un (k := k) (by omega) h h10
  have h9 := jB_9 h
  have e1 : unC w i = w i := unC_o hI (by omega)
  have e1b : unC w i = unF w i := u1_ne (by omega)
  unfold unT
  rcases hn with rfl | ⟨rfl, h2⟩
  · rw [if_pos rfl, ← e1b, e1]
  · rw [if_neg (by omega)]
    have e10 := unC_10 hI
    obtain ⟨hI1, _, h41⟩ := jB_uI (k := k + 1) (by omega) h1 (by omega)
    have e9 : unC w 9 = 1 - w 9 := u1_eq
    have e2 : unC (unC w) i = unC w i := unC_o hI1 (by omega)
    have e2b : unC (unC w) i = unF (unC w) i := u1_ne (by omega)
    have e3 : unF (unC w) = u1 (unF (unF w)) 9 (1 - w 9) := unF_9 (uI_b hI1)
    rw [e3, u1_ne (by omega)] at e2b
    rw [← e2b, e2, e1]
theorem m_answer {k : Nat} (hk : k ≤ 38000) {μ : Mem} {v f T : Rw} {n m a : Int} {Q : PQ} (h : rM μ v f n T m) (hn : 0 ≤ n ∧ n ≤ 6) (hv : jI k v) (ha : a = 0 ∨ a = 1) (h0 : anE v a ≠ 0 → Q (some (aI (anE v a))) μ) (h1 : anE v a = 0 → ∀ μ', rM μ' (anF v a) (kpP f v n) (kpN n) T m → sC μ μ' → Q (some (aI (anR v a))) μ') : wpM 155 [aR 5, aI a] μ Q := by
  obtain ⟨r, sc⟩ := kp_rM (w := anF v a) h
  obtain ⟨hB, hf, q1, q2⟩ := hv
  obtain ⟨a7, a9, a10, a11, a70, a71⟩ := id hB.2.2.2.1
  refine c_answer h.1 (by rw [h.2.2.1]; exact hn) (by omega) ha (fun z1 z2 z3 z4 => ?_) h0 (fun z => h1 z _ r sc)
  obtain ⟨g7, g13, g14⟩ := q1 z3
  have gm := q2 (by omega)
  obtain ⟨h10, h102, eb⟩ := jB_two (k := k) (by omega) hB g14 gm
  have hbk : bkN v (v 14) = 1 ∨ bkN v (v 14) = 2 := by unfold bkN; split <;> simp
  have hw := jB_wr (e := 2) (a := bkN v (v 14)) hB (by omega) g7 (by omega) (by omega)
  have lo : ∀ i, i < 1090 ∧ i ≠ 11 → wrF v 2 (bkN v (v 14)) 0 0 0 i = v i := fun i hi => wrF_lo (by omega) hi
  have w11 := wrF_11 (v := v) (k := 2) (a := bkN v (v 14)) (b := 0) (c := 0) (t := 0)
  have w10 := lo 10 (by omega)
  have q5 := (jB_s hB g14).2.2.2.2.2
  unfold tb1
  generalize hn9 : bkN v (v 14) = n9 at *
  generalize wrF v 2 n9 0 0 0 = w at *
  have o11 := unT_o (n := n9) (i := 11) (k := k) (by omega) hw (by omega) (by omega) (by omega)
  have o5 := unT_o (n := n9) (i := hs (v 14) 5) (k := k) (by omega) hw (by omega) (by omega) (by unfold hs; omega)
  have e5 := lo (hs (v 14) 5) (by unfold hs; omega)
  obtain ⟨hI, _, _⟩ := jB_uI (k := k) (by omega) hw (by omega)
  refine ⟨g14, by omega, hI, fun hb => ?_, fun i hi => ?_, by omega, by omega⟩
  · have e10 := unC_10 hI
    exact uI_b (jB_uI (k := k + 1) (by omega) (jB_un (k := k) (by omega) hw (by omega)) (by have := h102 hb; omega)).1
  · rw [hi, o11, w11]
theorem gE_h {v : Rw} (hE : gE v) (h : 0 ≤ v 11) : v 11 = ((v 11).toNat : Int) ∧ ∀ e : Nat, e < (v 11).toNat → entI v e := ⟨by omega, fun e he => hE e (by omega)⟩
theorem m_written {μ : Mem} {v f T : Rw} {n m : Int} {Q : PQ} (h : rM μ v f n T m) (hE : gE v) (h11 : 0 ≤ v 11 ∧ v 11 ≤ 204) (hQ : ∀ μ', rM μ' v f n T m → sC μ μ' → Q (some (aI (recL v (v 11).toNat).length)) μ') : wpM 169 [aR 5] μ Q := by
  obtain ⟨e1, e2⟩ := gE_h hE h11.1
  exact c_written h.1 e1 (by omega) e2 (fun μ' e => hQ μ' (e.rM h) e.sC)
theorem m_sign {μ : Mem} {v f T : Rw} {n m i : Int} {Q : PQ} (h : rM μ v f n T m) (hE : gE v) (h11 : 0 ≤ v 11 ∧ v 11 ≤ 204) (hQ : ∀ μ', rM μ' v f n T m → sC μ μ' → Q (some (aI (sgR v (v 11).toNat i))) μ') : wpM 170 [aR 5, aI i] μ Q := by
  obtain ⟨e1, e2⟩ := gE_h hE h11.1
  exact c_sign h.1 e1 (by omega) e2 (fun μ' e => hQ μ' (e.rM h) e.sC)
theorem m_fp {μ : Mem} {v f T : Rw} {n m : Int} {Q : PQ} (h : rM μ v f n T m) (h9 : v 9 = 0 ∨ v 9 = 1) (hb : bI v) (hE : gE v) (h11 : 0 ≤ v 11 ∧ v 11 ≤ 204) (hQ : ∀ μ', rM μ' v f n T m → sC μ μ' → Q (some (aL (fpV v (v 11).toNat))) μ') : wpM 180 [aR 5] μ Q := by
  obtain ⟨e1, e2⟩ := gE_h hE h11.1
  exact c_fp h.1 h9 hb e1 (by omega) e2 (fun μ' e => hQ μ' (e.rM h) e.sC)
theorem m_undo {μ : Mem} {v f T : Rw} {n m : Int} {Q : PQ} (h : rM μ v f n T m) (hn : 0 ≤ n ∧ n ≤ 6) (hz : zo v) (h0 : n = 0 → Q (some (aI (-200009))) μ) (h1 : n ≠ 0 → ∀ μ', rM μ' (prw f (n - 1)) f (n - 1) T m → sC μ μ' → Q (some (aI (n - 1))) μ') : wpM 179 [aR 5] μ Q := by
  obtain ⟨h6, h8, h3, h10, h7, hz7⟩ := id h
  refine c_undo (by rw [h3]; exact hn) (by rw [h6]; exact hz) (fun z => h0 (by omega)) (fun z => ?_)
  rw [h3, h8]
  refine h1 (by omega) _ ⟨sR_eq, ?_, ?_, ?_, ?_, ?_⟩ (fun q hq => ?_)
  · rw [sR_ne (by omega), sR_ne (by omega), h8]
  · rw [sR_ne (by omega), sR_eq, u1_eq]
  · rw [sR_ne (by omega), sR_ne (by omega), h10]
  · rw [sR_ne (by omega), sR_eq, u1_ne (by omega), h7]
  · rw [sR_ne (by omega), sR_ne (by omega)]; exact hz7
  · rw [sR_ne (by omega), sR_ne (by omega)]
theorem m_type {μ : Mem} {v f T : Rw} {n m c : Int} {Q : PQ} (h : rM μ v f n T m) (hm : 0 ≤ m ∧ m ≤ 100) (h0 : ¬ (32 ≤ c ∧ c ≤ 126) → Q (some (aI (-200001))) μ) (h1 : 32 ≤ c ∧ c ≤ 126 → m = 100 → Q (some (aI (-200003))) μ) (h2 : 32 ≤ c ∧ c ≤ 126 → m ≠ 100 → ∀ μ', rM μ' v f n (u1 T m c) (m + 1) → sC μ μ' → Q (some (aI (m + 1))) μ') : wpM 172 [aR 5, aI c] μ Q := by
  obtain ⟨h6, h8, h3, h10, h7, hz7⟩ := id h
  refine c_type (by rw [h7]; exact hm) h0 (fun z z2 => h1 z (by omega)) (fun z z2 => ?_)
  rw [h7, h10]
  refine h2 z (by omega) _ ⟨?_, ?_, ?_, ?_, ?_, ?_⟩ (fun q hq => ?_)
  · rw [sR_ne (by omega), sR_ne (by omega), h6]
  · rw [sR_ne (by omega), sR_ne (by omega), h8]
  · rw [sR_eq, u1_ne (by omega), h3]
  · rw [sR_ne (by omega), sR_eq]
  · rw [sR_eq, u1_eq]
  · rw [sR_ne (by omega), sR_ne (by omega)]; exact hz7
  · rw [sR_ne (by omega), sR_ne (by omega)]
theorem m_clear {μ : Mem} {v f T : Rw} {n m : Int} {Q : PQ} (h : rM μ v f n T m) (hQ : ∀ μ', rM μ' v f n T 0 → sC μ μ' → Q (some (aI m)) μ') : wpM 173 [aR 5] μ Q := by
  obtain ⟨h6, h8, h3, h10, h7, hz7⟩ := id h
  refine c_clear ?_
  rw [h7]
  refine hQ _ ⟨?_, ?_, ?_, ?_, ?_, ?_⟩ (fun q hq => ?_)
  · rw [sR_ne (by omega), h6]
  · rw [sR_ne (by omega), h8]
  · rw [sR_eq, u1_ne (by omega), h3]
  · rw [sR_ne (by omega), h10]
  · rw [sR_eq, u1_eq]
  · rw [sR_ne (by omega)]; exact hz7
  · rw [sR_ne (by omega)]
