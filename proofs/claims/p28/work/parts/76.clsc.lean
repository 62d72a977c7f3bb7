/-! THE CLASS'S OWN OBJECT IS MADE: all its cells, by their numbers -/
theorem arrV_cg {c : ClassId} {n : Nat} {f g : Nat → Value} (h : ∀ j, j < n → f j = g j) : arrV c n f = arrV c n g := by
  unfold arrV
  have e : (fun (j : Fin n) => f j.val) = fun j => g j.val := funext fun j => h j.val j.isLt
  rw [e]
/-- a world's cells told in another order, by their numbers -/
theorem w_conv {D : va_G} {L : va_W} {ks : List Nat} {f : Nat → Nat × va_E} (π : Nat → Nat) (hg : ∀ k ∈ ks, ∃ x, L[π k]? = some ((f k).1, x) ∧ ∀ H, va_at D vwCl ((f k).1, x) H → va_at D vwCl (f k) H) (hi : ∀ k ∈ ks, ∀ k' ∈ ks, π k = π k' → k = k') (hn : ks.Nodup) : (∀ H, va_P D vwCl L H → va_P D vwCl (ks.map f) H) ∧ ∀ A, va_D A L → va_D A (ks.map f) := by
  have key : ∀ (j : Nat) (q : Nat × va_E), (ks.map f)[j]? = some q → ∃ k, ks[j]? = some k ∧ f k = q := by
    intro j q h
    rw [List.getElem?_map] at h
    cases hk : ks[j]? with
    | none => rw [hk] at h; cases h
    | some k => rw [hk] at h; exact ⟨k, rfl, Option.some.inj h⟩
  refine ⟨fun H hP j q h => ?_, fun A hD => ⟨fun i j x y hx hy hxy => ?_, fun j q h => ?_⟩⟩
  · obtain ⟨k, h1, rfl⟩ := key j q h
    obtain ⟨x, h2, h3⟩ := hg k (List.mem_of_getElem? h1)
    exact h3 H (hP _ _ h2)
  · obtain ⟨k, h1, rfl⟩ := key i x hx
    obtain ⟨k', h1', rfl⟩ := key j y hy
    obtain ⟨u, h2, _⟩ := hg k (List.mem_of_getElem? h1)
    obtain ⟨u', h2', _⟩ := hg k' (List.mem_of_getElem? h1')
    have := hi k (List.mem_of_getElem? h1) k' (List.mem_of_getElem? h1') (hD.1 _ _ _ _ h2 h2' hxy)
    subst this
    obtain ⟨l1, e1⟩ := List.getElem?_eq_some_iff.mp h1
    obtain ⟨l2, e2⟩ := List.getElem?_eq_some_iff.mp h1'
    exact (List.getElem_inj hn).mp (e1.trans e2.symm)
  · obtain ⟨k, h1, rfl⟩ := key j q h
    obtain ⟨x, h2, _⟩ := hg k (List.mem_of_getElem? h1)
    exact hD.2 _ ((f k).1, x) h2
theorem clK_in {k : Nat} : k ∈ clK ↔ k < 5 ∨ (12 ≤ k ∧ k < 116) := by
  unfold clK
  simp only [List.mem_append, List.mem_map, List.mem_range, List.mem_cons, List.not_mem_nil, or_false]
  constructor
  · rintro (h | ⟨i, h1, h2⟩) <;> omega
  · intro h
    rcases h with h | h
    · left; omega
    · right; exact ⟨k - 12, by omega, by omega⟩
theorem clK_nd : clK.Nodup := by decide +kernel
theorem shp_g {g j : Nat} (hg : g < 8) (hj : j < 13) : shp (12 + 13 * g + j) = gshp (12 + 13 * g) j := by
  unfold shp
  rw [if_neg (by omega), if_pos (by unfold nCell; omega)]
  have e1 : (12 + 13 * g + j - 12) % 13 = j := by omega
  rw [e1]
  congr 1
  omega
theorem cellE_g {g j : Nat} (hg : g < 8) (hj : j < 13) {ad adg : Nat → Nat} {μ μg : Mem} {cI cC cG : ClassId} (ha : ∀ i, i < 13 → ad (12 + 13 * g + i) = adg i) (hm : ∀ i, i < 13 → μ (12 + 13 * g + i) = μg i) : cellE ad cI cC cG μ (12 + 13 * g + j) = cellEz adg cI cC cG μg j := by
  have e1 := shp_g hg hj
  have e2 : shpz j = gshp 0 j := by unfold shpz; rw [if_pos hj]
  unfold cellE cellEz
  rw [e1, e2, hm j hj]
  have a1 := ha 1 (by omega)
  have a2 := ha 2 (by omega)
  have a3 := ha 3 (by omega)
  have a4 := ha 4 (by omega)
  have a5 := ha 5 (by omega)
  have a6 := ha 6 (by omega)
  have a7 := ha 7 (by omega)
  have a8 := ha 8 (by omega)
  have a9 := ha 9 (by omega)
  have a10 := ha 10 (by omega)
  have a11 := ha 11 (by omega)
  have a12 := ha 12 (by omega)
  rcases (show j = 0 ∨ j = 1 ∨ j = 2 ∨ j = 3 ∨ j = 4 ∨ j = 5 ∨ j = 6 ∨ j = 7 ∨ j = 8 ∨ j = 9 ∨ j = 10 ∨ j = 11 ∨ j = 12 by omega) with h | h | h | h | h | h | h | h | h | h | h | h | h <;> subst h <;> simp only [gshp, mkF, a1, a2, a3, a4, a5, a6, a7, a8, a9, a10, a11, a12, Nat.zero_add]
def adC (h0 qh qa qt qc : Nat) (a1 a2 : Nat → Nat) (as : Nat → Nat → Nat) (ad : Nat → Nat) : Nat → Nat := fun k =>
  if k < 12 then (if k = 0 then h0 else if k = 1 then qh else if k = 2 then qa else if k = 3 then qt else qc)
  else if k < 116 then (if (k - 12) / 13 = 0 then a1 ((k - 12) % 13) else if (k - 12) / 13 = 1 then a2 ((k - 12) % 13) else as ((k - 12) / 13 - 2) ((k - 12) % 13))
  else ad k
def mmC (m1 m2 : Mem) (ms : Nat → Mem) : Mem := fun k => if k < 12 ∨ 116 ≤ k then fun _ => 0 else if (k - 12) / 13 = 0 then m1 ((k - 12) % 13) else if (k - 12) / 13 = 1 then m2 ((k - 12) % 13) else ms ((k - 12) / 13 - 2) ((k - 12) % 13)
theorem rG_sh {b : Nat} {μ μ' : Mem} {v : Rw} (hm : ∀ j, j < 13 → μ' (b + j) = μ j) (h : rG 0 μ v) : rG b μ' v := by
  obtain ⟨h1, h2, h3, h4, h5, h6, h7⟩ := h
  have e0 := hm 0 (by omega)
  have e1 := hm 1 (by omega)
  have e3 := hm 3 (by omega)
  have e4 := hm 4 (by omega)
  have e5 := hm 5 (by omega)
  have e6 := hm 6 (by omega)
  have e7 := hm 7 (by omega)
  have e8 := hm 8 (by omega)
  have e9 := hm 9 (by omega)
  have e10 := hm 10 (by omega)
  have e11 := hm 11 (by omega)
  have e12 := hm 12 (by omega)
  rw [Nat.add_zero] at e0
  refine ⟨?_, by rw [e1]; exact h2, by rw [e3]; exact h3, by rw [e4]; exact h4, by rw [e5]; exact h5, ?_, ?_⟩
  · unfold fdR at h1 ⊢
    rw [e0]; exact h1
  · unfold mdR at h6 ⊢
    rw [e6, e7, e8, e9, e10]
    exact h6
  · unfold etR at h7 ⊢
    rw [e11, e12]
    exact h7
theorem adC_hi {h0 qh qa qt qc : Nat} {a1 a2 : Nat → Nat} {as : Nat → Nat → Nat} {ad : Nat → Nat} {k : Nat} (hk : 116 ≤ k) : adC h0 qh qa qt qc a1 a2 as ad k = ad k := by
  unfold adC
  rw [if_neg (by omega), if_neg (by omega)]
def cSh (ad0 : Nat → Nat) (h0 : Nat) (cI cC cG : ClassId) (w : va_W) : Prop := ∃ (ad : Nat → Nat) (μ : Mem), (ad 0 = h0 ∧ ∀ k, 116 ≤ k → ad k = ad0 k) ∧ w = clW ad cI cC cG μ ∧ rG 12 μ vIR ∧ (∀ k, k < 12 → μ k = fun _ => 0) ∧ aRng μ
theorem cw_conv {p : Program} {l : Launch} {e : Env} {R : Room} {s : State} {m : MethodId} {args : Array Value} {below : List Frame} {meth : Method} {c : Code} {QW : State → Prop} {A0 : Nat → Prop} {D : va_G} {ls : Array Slot} {cells slots pc : Nat} {st : List Value} {w w' : va_W} (h : (∀ H, va_P D vwCl w H → va_P D vwCl w' H) ∧ ∀ A, va_D A w → va_D A w') (kk : cW p l e R s m args below meth c QW A0 D ls cells slots pc st w') : cW p l e R s m args below meth c QW A0 D ls cells slots pc st w :=
  fun H locs hP hD hS => kk H locs (h.1 H hP) (h.2 A0 hD) hS
theorem mmC_lo {m1 m2 : Mem} {ms : Nat → Mem} {k : Nat} (hk : k < 12) : mmC m1 m2 ms k = fun _ => 0 := by unfold mmC; rw [if_pos (Or.inl hk)]
theorem mmC_g1 {m1 m2 : Mem} {ms : Nat → Mem} (i : Nat) (hi : i < 13) : mmC m1 m2 ms (12 + i) = m1 i := by
  have q1 : (12 + i - 12) / 13 = 0 := by omega
  have q2 : (12 + i - 12) % 13 = i := by omega
  unfold mmC
  rw [if_neg (by omega), q1, q2, if_pos rfl]
theorem mmC_g2 {m1 m2 : Mem} {ms : Nat → Mem} (i : Nat) (hi : i < 13) : mmC m1 m2 ms (25 + i) = m2 i := by
  have q1 : (25 + i - 12) / 13 = 1 := by omega
  have q2 : (25 + i - 12) % 13 = i := by omega
  unfold mmC
  rw [if_neg (by omega), q1, q2, if_neg (by omega), if_pos rfl]
theorem mmC_g3 {m1 m2 : Mem} {ms : Nat → Mem} (g i : Nat) (hg : g < 6) (hi : i < 13) : mmC m1 m2 ms (38 + 13 * g + i) = ms g i := by
  have q1 : (38 + 13 * g + i - 12) / 13 = g + 2 := by omega
  have q2 : (38 + 13 * g + i - 12) % 13 = i := by omega
  unfold mmC
  rw [if_neg (by omega), q1, q2, if_neg (by omega), if_neg (by omega), Nat.add_sub_cancel]
theorem adC_g1 {h0 qh qa qt qc : Nat} {a1 a2 : Nat → Nat} {as : Nat → Nat → Nat} {ad : Nat → Nat} (i : Nat) (hi : i < 13) : adC h0 qh qa qt qc a1 a2 as ad (12 + i) = a1 i := by
  have q1 : (12 + i - 12) / 13 = 0 := by omega
  have q2 : (12 + i - 12) % 13 = i := by omega
  unfold adC
  rw [if_neg (by omega), if_pos (by omega), q1, q2, if_pos rfl]
theorem adC_g2 {h0 qh qa qt qc : Nat} {a1 a2 : Nat → Nat} {as : Nat → Nat → Nat} {ad : Nat → Nat} (i : Nat) (hi : i < 13) : adC h0 qh qa qt qc a1 a2 as ad (25 + i) = a2 i := by
  have q1 : (25 + i - 12) / 13 = 1 := by omega
  have q2 : (25 + i - 12) % 13 = i := by omega
  unfold adC
  rw [if_neg (by omega), if_pos (by omega), q1, q2, if_neg (by omega), if_pos rfl]
theorem adC_g3 {h0 qh qa qt qc : Nat} {a1 a2 : Nat → Nat} {as : Nat → Nat → Nat} {ad : Nat → Nat} (g i : Nat) (hg : g < 6) (hi : i < 13) : adC h0 qh qa qt qc a1 a2 as ad (38 + 13 * g + i) = as g i := by
  have q1 : (38 + 13 * g + i - 12) / 13 = g + 2 := by omega
  have q2 : (38 + 13 * g + i - 12) % 13 = i := by omega
  unfold adC
  rw [if_neg (by omega), if_pos (by omega), q1, q2, if_neg (by omega), if_neg (by omega), Nat.add_sub_cancel]
theorem gsh_1 {b j n : Nat} (hj : j < 13) (h : gshp b j = .inr (1, n)) : shpz j = .inr (1, n) := by
  rcases (show j = 0 ∨ j = 1 ∨ j = 2 ∨ j = 3 ∨ j = 4 ∨ j = 5 ∨ j = 6 ∨ j = 7 ∨ j = 8 ∨ j = 9 ∨ j = 10 ∨ j = 11 ∨ j = 12 by omega) with h1 | h1 | h1 | h1 | h1 | h1 | h1 | h1 | h1 | h1 | h1 | h1 | h1 <;> subst h1 <;> first | (cases h; rfl) | (cases h)
theorem mmC_rng {m1 m2 : Mem} {ms : Nat → Mem} (h1 : aRngz m1) (h2 : aRngz m2) (h3 : ∀ i, i < 6 → aRngz (ms i)) : aRng (mmC m1 m2 ms) := by
  have gm : ∀ (g j : Nat) (μ : Mem), g < 8 → j < 13 → aRngz μ → ∀ i, inR (μ j i) ∧ ∀ n, shp (12 + 13 * g + j) = .inr (1, n) → 0 ≤ μ j i ∧ μ j i ≤ 65535 := by
    intro g j μ hg hj hr i
    refine ⟨(hr j i).1, fun n hn => (hr j i).2 n ?_⟩
    rw [shp_g hg hj] at hn
    exact gsh_1 hj hn
  intro k i
  by_cases hk : k < 12 ∨ 116 ≤ k
  · have e : mmC m1 m2 ms k i = 0 := by unfold mmC; rw [if_pos hk]
    rw [e]
    exact ⟨inR_0, fun n _ => by omega⟩
  · by_cases hA : k < 25
    · obtain ⟨j, rfl⟩ : ∃ j, k = 12 + j := ⟨k - 12, by omega⟩
      rw [mmC_g1 j (by omega)]
      exact gm 0 j m1 (by omega) (by omega) h1 i
    · by_cases hB : k < 38
      · obtain ⟨j, rfl⟩ : ∃ j, k = 25 + j := ⟨k - 25, by omega⟩
        rw [mmC_g2 j (by omega)]
        exact gm 1 j m2 (by omega) (by omega) h2 i
      · obtain ⟨g, j, hg, hj, rfl⟩ : ∃ g j, g < 6 ∧ j < 13 ∧ k = 38 + 13 * g + j := ⟨(k - 38) / 13, (k - 38) % 13, by omega, by omega, by omega⟩
        rw [mmC_g3 g j hg hj]
        have := gm (g + 2) j (ms g) (by omega) hj (h3 g hg) i
        rw [show 12 + 13 * (g + 2) + j = 38 + 13 * g + j by omega] at this
        exact this
/-- the world of the class's object, told by its numbers -/
def clL (h0 qh qa qt qc : Nat) (a1 a2 : Nat → Nat) (as : Nat → Nat → Nat) (m1 m2 : Mem) (ms : Nat → Mem) (cI cC cG : ClassId) : va_W := (((([(h0, .inr (7, [.ref (a1 0), .ref (a2 0), .ref qh, .ref qt]))] ++ wwz a1 cI cC cG m1) ++ wwz a2 cI cC cG m2) ++ hst qh qa as cI cC cG ms 6) ++ [(qt, .inr (6, [.ref qc, .int 0])), (qc, .inl (cC, 100, .inl (fun _ => 0)))])
theorem c_conv {D : va_G} {h0 qh qa qt qc : Nat} {a1 a2 : Nat → Nat} {as : Nat → Nat → Nat} {ad : Nat → Nat} {m1 m2 : Mem} {ms : Nat → Mem} {cI cC cG : ClassId} : (∀ H, va_P D vwCl (clL h0 qh qa qt qc a1 a2 as m1 m2 ms cI cC cG) H → va_P D vwCl (clW (adC h0 qh qa qt qc a1 a2 as ad) cI cC cG (mmC m1 m2 ms)) H) ∧ ∀ A, va_D A (clL h0 qh qa qt qc a1 a2 as m1 m2 ms cI cC cG) → va_D A (clW (adC h0 qh qa qt qc a1 a2 as ad) cI cC cG (mmC m1 m2 ms)) := by
  have l1 : (wwz a1 cI cC cG m1).length = 13 := wwz_len
  have l2 : (wwz a2 cI cC cG m2).length = 13 := wwz_len
  have l3 : (hst qh qa as cI cC cG ms 6).length = 80 := by unfold hst; simp [gms_len]
  have L1 : ∀ k, k < 13 → (clL h0 qh qa qt qc a1 a2 as m1 m2 ms cI cC cG)[1 + k]? = some (a1 k, cellEz a1 cI cC cG m1 k) := by
    intro k hk
    unfold clL
    rw [List.getElem?_append_left (by simp [l1, l2, l3]; omega), List.getElem?_append_left (by simp [l1, l2]; omega), List.getElem?_append_left (by simp [l1]; omega), List.getElem?_append_right (by simp)]
    rw [show 1 + k - [(h0, (Sum.inr (7, [Value.ref (a1 0), Value.ref (a2 0), Value.ref qh, Value.ref qt]) : va_E))].length = k by simp]
    exact ww_getz hk
  have L2 : ∀ k, k < 13 → (clL h0 qh qa qt qc a1 a2 as m1 m2 ms cI cC cG)[14 + k]? = some (a2 k, cellEz a2 cI cC cG m2 k) := by
    intro k hk
    unfold clL
    rw [List.getElem?_append_left (by simp [l1, l2, l3]; omega), List.getElem?_append_left (by simp [l1, l2]; omega), List.getElem?_append_right (by simp [l1])]
    rw [show 14 + k - ([(h0, (Sum.inr (7, [Value.ref (a1 0), Value.ref (a2 0), Value.ref qh, Value.ref qt]) : va_E))] ++ wwz a1 cI cC cG m1).length = k by simp [l1]]
    exact ww_getz hk
  have L3 : ∀ k, k < 80 → (clL h0 qh qa qt qc a1 a2 as m1 m2 ms cI cC cG)[27 + k]? = (hst qh qa as cI cC cG ms 6)[k]? := by
    intro k hk
    unfold clL
    rw [List.getElem?_append_left (by simp [l1, l2, l3]; omega), List.getElem?_append_right (by simp [l1, l2])]
    rw [show 27 + k - (([(h0, (Sum.inr (7, [Value.ref (a1 0), Value.ref (a2 0), Value.ref qh, Value.ref qt]) : va_E))] ++ wwz a1 cI cC cG m1) ++ wwz a2 cI cC cG m2).length = k by simp [l1, l2]]
  have L4 : ∀ k, (clL h0 qh qa qt qc a1 a2 as m1 m2 ms cI cC cG)[107 + k]? = ([(qt, .inr (6, [.ref qc, .int 0])), (qc, .inl (cC, 100, .inl (fun _ => 0)))] : va_W)[k]? := by
    intro k
    unfold clL
    rw [List.getElem?_append_right (by simp [l1, l2, l3])]
    rw [show 107 + k - ((([(h0, (Sum.inr (7, [Value.ref (a1 0), Value.ref (a2 0), Value.ref qh, Value.ref qt]) : va_E))] ++ wwz a1 cI cC cG m1) ++ wwz a2 cI cC cG m2) ++ hst qh qa as cI cC cG ms 6).length = k by simp [l1, l2, l3]]
  refine w_conv (fun k => if k = 0 then 0 else if k = 1 then 27 else if k = 2 then 28 else if k = 3 then 107 else if k = 4 then 108 else if k < 38 then k - 11 else k - 9) (fun k hk => ?_) (fun k hk k' hk' h => ?_) clK_nd
  · rcases clK_in.mp hk with h5 | h12
    · rcases (show k = 0 ∨ k = 1 ∨ k = 2 ∨ k = 3 ∨ k = 4 by omega) with h | h | h | h | h <;> subst h
      · exact ⟨.inr (7, [.ref (a1 0), .ref (a2 0), .ref qh, .ref qt]), rfl, fun H h => h⟩
      · exact ⟨.inr (3, [.ref qa, .int 0, .int 0]), L3 0 (by omega), fun H h => h⟩
      · refine ⟨rfE cG 6 (fun j => if j < 6 then some (as j 0) else none), L3 1 (by omega), fun H h => ?_⟩
        have h : H[qa]? = some (arrV cG 6 (fun j => va_rf (if j < 6 then some (as j 0) else none))) := h
        show H[qa]? = some (arrV cG 6 (fun j => va_rf (some (adC h0 qh qa qt qc a1 a2 as ad (38 + 13 * j)))))
        rw [h]
        refine congrArg some (arrV_cg (fun j hj => ?_))
        have e := adC_g3 (h0 := h0) (qh := qh) (qa := qa) (qt := qt) (qc := qc) (a1 := a1) (a2 := a2) (as := as) (ad := ad) j 0 hj (by omega)
        rw [Nat.add_zero] at e
        rw [if_pos hj, e]
      · exact ⟨.inr (6, [.ref qc, .int 0]), L4 0, fun H h => h⟩
      · exact ⟨.inl (cC, 100, .inl (fun _ => 0)), L4 1, fun H h => h⟩
    · by_cases hA : k < 25
      · obtain ⟨j, rfl⟩ : ∃ j, k = 12 + j := ⟨k - 12, by omega⟩
        refine ⟨cellEz a1 cI cC cG m1 j, ?_, fun H h => ?_⟩
        · show (clL h0 qh qa qt qc a1 a2 as m1 m2 ms cI cC cG)[if 12 + j = 0 then 0 else if 12 + j = 1 then 27 else if 12 + j = 2 then 28 else if 12 + j = 3 then 107 else if 12 + j = 4 then 108 else if 12 + j < 38 then 12 + j - 11 else 12 + j - 9]? = some (adC h0 qh qa qt qc a1 a2 as ad (12 + j), _)
          rw [if_neg (by omega), if_neg (by omega), if_neg (by omega), if_neg (by omega), if_neg (by omega), if_pos (by omega), show 12 + j - 11 = 1 + j by omega, adC_g1 j (by omega)]
          exact L1 j (by omega)
        · have e := cellE_g (g := 0) (j := j) (ad := adC h0 qh qa qt qc a1 a2 as ad) (adg := a1) (μ := mmC m1 m2 ms) (μg := m1) (cI := cI) (cC := cC) (cG := cG) (by omega) (by omega) (fun i hi => by rw [Nat.mul_zero, Nat.add_zero]; exact adC_g1 i hi) (fun i hi => by rw [Nat.mul_zero, Nat.add_zero]; exact mmC_g1 i hi)
          rw [Nat.mul_zero, Nat.add_zero] at e
          show va_at D vwCl (_, cellE _ _ _ _ _ (12 + j)) H
          rw [e]; exact h
      · by_cases hB : k < 38
        · obtain ⟨j, rfl⟩ : ∃ j, k = 25 + j := ⟨k - 25, by omega⟩
          refine ⟨cellEz a2 cI cC cG m2 j, ?_, fun H h => ?_⟩
          · show (clL h0 qh qa qt qc a1 a2 as m1 m2 ms cI cC cG)[if 25 + j = 0 then 0 else if 25 + j = 1 then 27 else if 25 + j = 2 then 28 else if 25 + j = 3 then 107 else if 25 + j = 4 then 108 else if 25 + j < 38 then 25 + j - 11 else 25 + j - 9]? = some (adC h0 qh qa qt qc a1 a2 as ad (25 + j), _)
            rw [if_neg (by omega), if_neg (by omega), if_neg (by omega), if_neg (by omega), if_neg (by omega), if_pos (by omega), show 25 + j - 11 = 14 + j by omega, adC_g2 j (by omega)]
            exact L2 j (by omega)
          · have e := cellE_g (g := 1) (j := j) (ad := adC h0 qh qa qt qc a1 a2 as ad) (adg := a2) (μ := mmC m1 m2 ms) (μg := m2) (cI := cI) (cC := cC) (cG := cG) (by omega) (by omega) (fun i hi => adC_g2 i hi) (fun i hi => mmC_g2 i hi)
            show va_at D vwCl (_, cellE _ _ _ _ _ (25 + j)) H
            rw [show 12 + 13 * 1 + j = 25 + j by omega] at e
            rw [e]; exact h
        · obtain ⟨g, j, hg, hj, rfl⟩ : ∃ g j, g < 6 ∧ j < 13 ∧ k = 38 + 13 * g + j := ⟨(k - 38) / 13, (k - 38) % 13, by omega, by omega, by omega⟩
          refine ⟨cellEz (as g) cI cC cG (ms g) j, ?_, fun H h => ?_⟩
          · show (clL h0 qh qa qt qc a1 a2 as m1 m2 ms cI cC cG)[if 38 + 13 * g + j = 0 then 0 else if 38 + 13 * g + j = 1 then 27 else if 38 + 13 * g + j = 2 then 28 else if 38 + 13 * g + j = 3 then 107 else if 38 + 13 * g + j = 4 then 108 else if 38 + 13 * g + j < 38 then 38 + 13 * g + j - 11 else 38 + 13 * g + j - 9]? = some (adC h0 qh qa qt qc a1 a2 as ad (38 + 13 * g + j), _)
            rw [if_neg (by omega), if_neg (by omega), if_neg (by omega), if_neg (by omega), if_neg (by omega), if_neg (by omega), show 38 + 13 * g + j - 9 = 27 + ((13 * g + j) + 1 + 1) by omega, adC_g3 g j hg hj, L3 _ (by omega)]
            unfold hst
            rw [List.getElem?_cons_succ, List.getElem?_cons_succ]
            exact gms_get 6 g j hg hj
          · have e := cellE_g (g := g + 2) (j := j) (ad := adC h0 qh qa qt qc a1 a2 as ad) (adg := as g) (μ := mmC m1 m2 ms) (μg := ms g) (cI := cI) (cC := cC) (cG := cG) (by omega) hj (fun i hi => by rw [show 12 + 13 * (g + 2) + i = 38 + 13 * g + i by omega]; exact adC_g3 g i hg hi) (fun i hi => by rw [show 12 + 13 * (g + 2) + i = 38 + 13 * g + i by omega]; exact mmC_g3 g i hg hi)
            show va_at D vwCl (_, cellE _ _ _ _ _ (38 + 13 * g + j)) H
            rw [show 12 + 13 * (g + 2) + j = 38 + 13 * g + j by omega] at e
            rw [e]; exact h
  · have h1 := clK_in.mp hk
    have h2 := clK_in.mp hk'
    (repeat' split at h) <;> omega
set_option maxRecDepth 100000 in
set_option maxHeartbeats 4000000 in
theorem ct_93 {l : Launch} {h0 : Nat} {ad : Nat → Nat} {D : va_G} {cI cC cG : ClassId} {sz : Nat} : ctM l 93 h0 ad D cI cC cG [(h0, .inr (7, blk 7))] sz (cSh ad h0 cI cC cG) 108 34503 := by
  refine ct_of (by decide) (by decide +kernel) (by decide +kernel) (fun p e s m args below meth c ls X hE hA hl => ?_)
  have hl0 := lv_at hl 0 rfl
  have hK := hE.1
  have hls : ls.size = mL 93 := hl.1
  refine cw_al0 X (by decide +kernel) hl0 ?_
  refine cw_obj X (k := 1) (w := 22) (by decide +kernel) (by decide +kernel) hls (by decide +kernel) (by decide +kernel) ?_
  refine cw_al0 X (by decide +kernel) hl0 ?_
  refine cw_new X hK hA (ci := 2) (k := 7) (w1 := 25) (w2 := 26) (w3 := 8) (by decide +kernel) rfl (by decide +kernel) (by decide +kernel) (by decide +kernel) (Nat.le_of_ble_eq_true rfl) (Nat.le_of_ble_eq_true rfl) (fun q1 => ?_)
  refine cw_dup X (by decide +kernel) ?_
  refine cw_init X hE hA (b := 28) (k := 9) (w := 27) (by decide +kernel) (by decide) (by decide +kernel) (by decide +kernel) (by decide +kernel) (by decide +kernel) (Or.inl (by decide +kernel)) (fun sz => ct_28) hls (by decide +kernel) (by decide +kernel) (Nat.le_of_ble_eq_true rfl) (Nat.le_of_ble_eq_true rfl) (Nat.le_of_ble_eq_true rfl) (fun u1 hu => ?_)
  obtain ⟨adA, μA, rfl, rfl, rGA, rgA⟩ := hu
  refine cw_putF X hK (ci := 7) (i := 0) (k := 10) (w := 238) (r := .object "ClockedGame$Game") (by decide +kernel) rfl (by decide) (by decide +kernel) rfl rfl (by decide +kernel) (by decide +kernel) rfl rfl (Nat.le_of_ble_eq_true rfl) ?_
  refine cw_al0 X (by decide +kernel) hl0 ?_
  refine cw_new X hK hA (ci := 2) (k := 7) (w1 := 25) (w2 := 26) (w3 := 8) (by decide +kernel) rfl (by decide +kernel) (by decide +kernel) (by decide +kernel) (Nat.le_of_ble_eq_true rfl) (Nat.le_of_ble_eq_true rfl) (fun q2 => ?_)
  refine cw_dup X (by decide +kernel) ?_
  refine cw_init X hE hA (b := 28) (k := 9) (w := 27) (by decide +kernel) (by decide) (by decide +kernel) (by decide +kernel) (by decide +kernel) (by decide +kernel) (Or.inl (by decide +kernel)) (fun sz => ct_28) hls (by decide +kernel) (by decide +kernel) (Nat.le_of_ble_eq_true rfl) (Nat.le_of_ble_eq_true rfl) (Nat.le_of_ble_eq_true rfl) (fun u2 hu => ?_)
  obtain ⟨adB, μB, rfl, rfl, rGB, rgB⟩ := hu
  refine cw_putF X hK (ci := 7) (i := 1) (k := 16) (w := 239) (r := .object "ClockedGame$Game") (by decide +kernel) rfl (by decide) (by decide +kernel) rfl rfl (by decide +kernel) (by decide +kernel) rfl rfl (Nat.le_of_ble_eq_true rfl) ?_
  refine cw_al0 X (by decide +kernel) hl0 ?_
  refine cw_new X hK hA (ci := 3) (k := 19) (w1 := 205) (w2 := 206) (w3 := 14) (by decide +kernel) rfl (by decide +kernel) (by decide +kernel) (by decide +kernel) (Nat.le_of_ble_eq_true rfl) (Nat.le_of_ble_eq_true rfl) (fun q3 => ?_)
  refine cw_dup X (by decide +kernel) ?_
  refine cw_init X hE hA (b := 63) (k := 21) (w := 207) (by decide +kernel) (by decide) (by decide +kernel) (by decide +kernel) (by decide +kernel) (by decide +kernel) (Or.inl (by decide +kernel)) (fun sz => ct_63) hls (by decide +kernel) (by decide +kernel) (Nat.le_of_ble_eq_true rfl) (Nat.le_of_ble_eq_true rfl) (Nat.le_of_ble_eq_true rfl) (fun u3 hu => ?_)
  obtain ⟨qa, ads, μs, rfl, rgs⟩ := hu
  refine cw_putF X hK (ci := 7) (i := 2) (k := 22) (w := 240) (r := .object "ClockedGame$History") (by decide +kernel) rfl (by decide) (by decide +kernel) rfl rfl (by decide +kernel) (by decide +kernel) rfl rfl (Nat.le_of_ble_eq_true rfl) ?_
  refine cw_al0 X (by decide +kernel) hl0 ?_
  refine cw_new X hK hA (ci := 6) (k := 26) (w1 := 225) (w2 := 226) (w3 := 15) (by decide +kernel) rfl (by decide +kernel) (by decide +kernel) (by decide +kernel) (Nat.le_of_ble_eq_true rfl) (Nat.le_of_ble_eq_true rfl) (fun q4 => ?_)
  refine cw_dup X (by decide +kernel) ?_
  refine cw_init X hE hA (b := 77) (k := 28) (w := 227) (by decide +kernel) (by decide) (by decide +kernel) (by decide +kernel) (by decide +kernel) (by decide +kernel) (Or.inr (by decide +kernel)) (fun sz => ct_77) hls (by decide +kernel) (by decide +kernel) (Nat.le_of_ble_eq_true rfl) (Nat.le_of_ble_eq_true rfl) (Nat.le_of_ble_eq_true rfl) (fun u4 hu => ?_)
  obtain ⟨qc, rfl⟩ := hu
  refine cw_putF X hK (ci := 7) (i := 3) (k := 29) (w := 241) (r := .object "ClockedGame$Text") (by decide +kernel) rfl (by decide) (by decide +kernel) rfl rfl (by decide +kernel) (by decide +kernel) rfl rfl (Nat.le_of_ble_eq_true rfl) ?_
  refine cw_conv (c_conv (h0 := h0) (qh := q3) (qa := qa) (qt := q4) (qc := qc) (a1 := adA) (a2 := adB) (as := ads) (ad := ad) (m1 := μA) (m2 := μB) (ms := μs) (cI := cI) (cC := cC) (cG := cG)) ?_
  refine cw_ret X (by decide +kernel) (by decide +kernel) (Nat.le_of_ble_eq_true rfl) (Nat.le_of_ble_eq_true rfl) ⟨_, _, ⟨rfl, fun k hk => adC_hi hk⟩, rfl, rG_sh (fun j hj => (mmC_g1 j hj)) rGA, fun k hk => mmC_lo hk, mmC_rng rgA rgB rgs⟩
