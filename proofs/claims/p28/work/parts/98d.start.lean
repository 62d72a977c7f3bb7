/-! p28: THE LAW'S START -/
theorem flat_st {args : Array Value} {s : State} (h : (Jvm.Cond.and given_1 narrow_1).before args s = true) {c : Cond} (hc : c ∈ flatC (Jvm.Cond.and given_1 narrow_1)) : c.before args s = true := flat_of_before _ h c hc
set_option maxRecDepth 100000 in
set_option maxHeartbeats 4000000 in
/-- from the entry, for every script of at most 260 ints, the law comes to its end with true -/
theorem whole_start {p : Program} {e : Env} {s : State} {m : MethodId} {below : List Frame} {meth : Method} {c : Code} (l : Launch) (hflags : l.flags = flags0) {b L : Nat} {xs : Nat → Int32} (hL : L ≤ 260) (C0 : lw_At p s m meth c b L xs) : W p l e room_1 s m #[Value.ref b] below meth c s.heap [] 0 0 (lw_Z below #[Value.ref b] s) (entryFrame m ([Value.ref b] : List Value).toArray 14) := by
  obtain ⟨hx, hb, hr, hml, hown, hts, hX, hbl, hlocks, hgv⟩ := C0
  generalize hA9 : (fun q : Nat => s.heap.size ≤ q) = A0
  have hA : ∀ q, s.heap.size ≤ q → A0 q := fun q h => by rw [← hA9]; exact h
  have hAn : ∀ a : Nat, a < s.heap.size → ¬ A0 a := fun a h => by rw [← hA9]; exact Nat.not_le.mpr h
  have hAi : ∀ q, A0 q → s.heap.size ≤ q := fun q h => by rw [← hA9] at h; exact h
  have hbA : ¬ A0 b := hAn b hbl
  -- the tables
  obtain ⟨tI, zI1, tI1⟩ := st_of (A := A0) (nm := "INITIAL") (f := fun j => iniV j) hAn (flat_st hgv (by decide +kernel)) (flat_st hgv (by decide +kernel)) (fun j hj => by rcases (show j = 0 ∨ j = 1 ∨ j = 2 ∨ j = 3 ∨ j = 4 ∨ j = 5 ∨ j = 6 by omega) with h | h | h | h | h | h | h <;> subst h <;> exact flat_st hgv (by decide +kernel)) (hts _ (by decide +kernel)) (hts _ (by decide +kernel))
  obtain ⟨tL, zL1, tL1⟩ := st_of (A := A0) (nm := "LEAST") (f := fun j => stv 1001 j) hAn (flat_st hgv (by decide +kernel)) (flat_st hgv (by decide +kernel)) (fun j hj => by rcases (show j = 0 ∨ j = 1 ∨ j = 2 ∨ j = 3 ∨ j = 4 ∨ j = 5 ∨ j = 6 by omega) with h | h | h | h | h | h | h <;> subst h <;> exact flat_st hgv (by decide +kernel)) (hts _ (by decide +kernel)) (hts _ (by decide +kernel))
  obtain ⟨tG, zG1, tG1⟩ := st_of (A := A0) (nm := "GREATEST") (f := fun j => stv 1002 j) hAn (flat_st hgv (by decide +kernel)) (flat_st hgv (by decide +kernel)) (fun j hj => by rcases (show j = 0 ∨ j = 1 ∨ j = 2 ∨ j = 3 ∨ j = 4 ∨ j = 5 ∨ j = 6 by omega) with h | h | h | h | h | h | h <;> subst h <;> exact flat_st hgv (by decide +kernel)) (hts _ (by decide +kernel)) (hts _ (by decide +kernel))
  -- the classes
  obtain ⟨D, hD9⟩ := kn_of hts
  obtain ⟨cI, kI, pI, f1, f2, f3⟩ := Cond.arrayClass_spec (hts (.arrayClass .int) (by decide +kernel))
  obtain ⟨cC, kC, pC, g1, g2, g3⟩ := Cond.arrayClass_spec (hts (.arrayClass .char) (by decide +kernel))
  have hAO := hts (.arrayOver (.object "ClockedGame$Game")) (by decide +kernel)
  obtain ⟨pG, cG, kG, i1, i2, i3, i4, i5⟩ := Cond.arrayOver_spec hAO
  have hK : va_K D vwCl (aT cI cC cG) s := by
    refine ⟨hD9, fun k q hk => ?_⟩
    rcases (show k = 0 ∨ k = 1 ∨ k = 2 by have := (List.getElem?_eq_some_iff.mp hk).1; simp [aT] at this; omega) with h | h | h <;> subst h <;> cases hk
    · exact ⟨fun n z => ⟨fun _ h => (by cases h), kI, f2, pI, f3⟩, f1⟩
    · exact ⟨fun n z => ⟨fun _ h => (by cases h), kC, g2, pC, g3⟩, g1⟩
    · exact ⟨fun n z => ⟨fun _ h => (by cases h), kG, i3, pG, i4⟩, kG, pG, i3, i4, i1, i5⟩
  have hNs : aNst s := by
    intro w hw hi
    have h := hts w hw
    cases w <;> first | exact va_Nw.of rfl h | (simp [isNest] at hi)
  obtain ⟨ad0, hd0⟩ : ∃ ad0 : Nat → Nat, ad0 1000 = tI ∧ ad0 1001 = tL ∧ ad0 1002 = tG ∧ ad0 2000 = b := ⟨fun k => if k = 1000 then tI else if k = 1001 then tL else if k = 1002 then tG else b, rfl, rfl, rfl, rfl⟩
  obtain ⟨d1, d2, d3, d4⟩ := hd0
  have hE : eV ad0 D cI cC cG A0 s s.heap := by
    refine ⟨hK, ⟨⟨⟨?_, ?_⟩, ?_, ?_⟩, ?_, ?_⟩, hNs, va_AO.of hAO⟩
    · rw [d2]; exact zL1
    · rw [d3]; exact zG1
    · rw [d2]; exact tL1
    · rw [d3]; exact tG1
    · rw [d1]; exact zI1
    · rw [d1]; exact tI1
  have htg : ∀ w ∈ lw_g, w.before #[Value.ref b] s = true := fun w hw => hts w (List.mem_filter.mp hw).1
  have X : gX p s m #[Value.ref b] c "ClockedGameLaw" code 14 := ⟨hx, hb, hml, hown, htg⟩
  -- the walk
  have hl := lv_entry ([.ref b]) (n := 14) (Nat.le_of_ble_eq_true rfl)
  rw [lg_entry_eq]
  generalize (lg_sl ([.ref b]) ++ List.replicate (14 - (lg_sl ([.ref b])).length) Slot.unset).toArray = ls at hl ⊢
  have hl : lv_has ls 14 [(0, .ref b)] := hl
  have start : cW p l e room_1 s m #[Value.ref b] below meth c (lw_Z below #[Value.ref b] s) A0 D ls 0 0 0 [] [] := by
    refine gw_new X hK hA (ci := 7) (k := 10) (w1 := 17) (w2 := 18) (w3 := 7) (by decide +kernel) rfl (by decide +kernel) (by decide +kernel) (by decide +kernel) (Nat.le_of_ble_eq_true rfl) (Nat.le_of_ble_eq_true rfl) (fun q1 => ?_)
    refine gw_dup X (by decide +kernel) ?_
    refine gw_init X hE hA (b := 93) (k := 97) (w := 19) (by decide +kernel) (by decide) (by decide +kernel) (by decide +kernel) (by decide +kernel) (by decide +kernel) (by decide +kernel) (fun sz => ct_93) hl.1 (by decide +kernel) (by decide +kernel) (Nat.le_of_ble_eq_true rfl) (Nat.le_of_ble_eq_true rfl) (Nat.le_of_ble_eq_true rfl) (fun u hu => ?_)
    obtain ⟨adc, μc, ⟨a0, ahi⟩, rfl, hrG, hz, hrng⟩ := hu
    refine fun H locs hP hD hS => lv_astore_n (lv' := [(1, .ref q1), (0, .ref b)]) hx hb (cc := code) (k := 1) (by decide +kernel) rfl hl (by decide) rfl (fun ls hl => ?_)
    have hP : va_P D vwCl (clW adc cI cC cG μc) H := hP
    have hD : va_D A0 (clW adc cI cC cG μc) := hD
    obtain ⟨ad, had⟩ : ∃ ad : Nat → Nat, ad = fun k => if k = 5 then H.size else adc k := ⟨_, rfl⟩
    have a5 : ad 5 = H.size := by rw [had]; rfl
    have ao : ∀ k, k ≠ 5 → ad k = adc k := fun k hk => by rw [had]; exact if_neg hk
    have h6 : μc 6 0 = 0 := by rw [hz 6 (by omega)]
    have ew : ww ad cI cC cG μc = clW adc cI cC cG μc := by
      rw [ww_no (by omega)]
      exact clW_5 ao (fun _ _ _ => rfl)
    have hPw : va_P D vwCl (ww ad cI cC cG μc) H := by rw [ew]; exact hP
    have hA0 : ∀ k, inW k → A0 (ad k) := by
      intro k hk
      by_cases h5 : k = 5
      · rw [h5, a5]; exact hA _ hS.1
      · rw [ao k h5]
        exact hD.2 (cpos k) _ (clW_get (by unfold inW at hk; unfold inC; omega))
    have hI : aInj ad := by
      intro i j hi hj hij
      by_cases hi5 : i = 5
      · by_cases hj5 : j = 5
        · omega
        · exfalso
          rw [hi5, a5, ao j hj5] at hij
          have := (hP (cpos j) _ (clW_get (by unfold inW at hj; unfold inC; omega))).lt
          have : adc j < H.size := this
          omega
      · by_cases hj5 : j = 5
        · exfalso
          rw [hj5, a5, ao i hi5] at hij
          have := (hP (cpos i) _ (clW_get (by unfold inW at hi; unfold inC; omega))).lt
          have : adc i < H.size := this
          omega
        · rw [ao i hi5, ao j hj5] at hij
          have := hD.1 (cpos i) (cpos j) _ _ (clW_get (by unfold inW at hi; unfold inC; omega)) (clW_get (by unfold inW at hj; unfold inC; omega)) hij
          unfold inW at hi hj
          unfold cpos at this
          (repeat' split at this) <;> omega
    have hSt2 : aStat ad A0 s s.heap := by
      unfold aStat
      rw [ao 1001 (by omega), ao 1002 (by omega), ahi 1001 (by omega), ahi 1002 (by omega)]
      exact hE.2.1.1
    have e0 : ad 0 = q1 := by rw [ao 0 (by omega), a0]
    have e2000 : ad 2000 = b := by rw [ao 2000 (by omega), ahi 2000 (by omega), d4]
    have XA : ∀ j, j ≤ 100 → aX p s m #[Value.ref b] meth c room_1 (109 + j) (34507 + 2 * j) code "ClockedGameLaw" 14 ad D cI cC cG A0 := fun j hj => ⟨⟨hx, hb, hml, hown, htg⟩, hK, hSt2, hNs, hA0, hI, by show 109 + j ≤ 600000; omega, by show 34507 + 2 * j ≤ 7302250; omega⟩
    have hret : ∀ (j pc : Nat) (L : Lc) (μ : Mem), j ≤ 99 → (pc = 315 ∨ pc = 985) → aG p l e room_1 s m #[Value.ref b] below meth c (109 + j) (34507 + 2 * j) (lw_Z below #[Value.ref b] s) 14 ad D cI cC cG A0 pc L [aI 1] μ := by
      intro j pc L μ hj hpc H locs ls hP hS hL hR hst
      refine W.widen (k := 600000) (n := 7302250) (by omega) (by omega) ?_
      refine va_forget (fun q hq => hAi _ (hS.2.2 q hq)) ?_
      rcases hpc with rfl | rfl
      · exact lw_ret (d0 := s.drawn) (Drawn.sameBut.refl s.drawn lw_cs) hx hb hr hlocks ld_315
      · exact lw_ret (d0 := s.drawn) (Drawn.sameBut.refl s.drawn lw_cs) hx hb hr hlocks ld_985
    have hLQ := LQ_of XA hA hL hX hbl hbA e2000 hret
    have hRK : RK μc vIR (fun _ => 0) 0 := by
      refine ⟨hrG, ⟨by omega, ?_, ?_, fun j hj => by omega⟩, ?_, fun i hi => by omega⟩
      · rw [hz 1 (by omega)]
      · rw [hz 1 (by omega)]
        exact ⟨Int.le_refl _, by decide⟩
      · rw [hz 3 (by omega)]
    refine law_1 hLQ hRK h6 H locs ls hPw hS ⟨hl.1, hl.2.1, fun i v hi => ?_⟩ hrng (fun v hv => absurd hv List.not_mem_nil)
    have l0 := lv_at hl 1 rfl
    have l1 := lv_at hl 0 rfl
    rcases (show i = 0 ∨ i = 1 ∨ 2 ≤ i by omega) with h | h | h
    · subst h
      cases hi
      refine ⟨?_, trivial⟩
      show ls[0]? = some (.val (.ref (ad 2000)))
      rw [e2000]; exact l0
    · subst h
      cases hi
      refine ⟨?_, trivial⟩
      show ls[1]? = some (.val (.ref (ad 0)))
      rw [e0]; exact l1
    · exfalso
      obtain ⟨j, rfl⟩ : ∃ j, i = j + 2 := ⟨i - 2, by omega⟩
      have hi : lget (List.replicate 12 none) j = some v := hi
      rw [lget_rep 12 j] at hi
      cases hi
  exact start s.heap [] (fun k q h => (by cases h)) ⟨fun i j x y h => (by cases h), fun k q h => (by cases h)⟩ va_S.rf
