/-! THE LAW'S START -/
theorem vI_jI : jI 0 vIR := by
  refine jI_bg ⟨by decide, by decide, by decide, by decide, by decide, by decide, by decide, by decide⟩ (fun k hk => ?_)
  unfold v1R
  rw [if_neg (by omega), if_neg (by omega)]
theorem INV_0 {μ : Mem} (h12 : rG 12 μ vIR) (h1 : μ 1 1 = 0 ∧ μ 1 2 = 0) (h3 : μ 3 1 = 0) (h6 : μ 6 = vIR) (h53 : μ 5 3 = 0) (h57 : μ 5 7 = 0) (z7 : zo (μ 7)) : INV 0 μ := by
  refine ⟨vIR, μ 8, μ 10, 0, 0, ⟨h12, ⟨by omega, h1.2, by omega, fun j hj => by omega⟩, h3, fun i hi => by omega⟩, vI_jI, ⟨h6, rfl, h53, rfl, h57, z7⟩, by omega, fun i hi => by omega⟩
theorem flat_st {args : Array Value} {s : State} (h : (Jvm.Cond.and given_1 narrow_1).before args s = true) {c : Cond} (hc : c ∈ flatC (Jvm.Cond.and given_1 narrow_1)) : c.before args s = true := flat_of_before _ h c hc
set_option maxRecDepth 100000 in
set_option maxHeartbeats 4000000 in
/-- from the entry, for every script of at most 1536 ints, the law comes to its end with true -/
theorem whole_start {p : Program} {e : Env} {s : State} {m : MethodId} {below : List Frame} {meth : Method} {c : Code} (l : Launch) (hflags : l.flags = flags0) {b L : Nat} {xs : Nat → Int32} (hL : L ≤ 1536) (C0 : lw_At p s m meth c b L xs) : W p l e room_1 s m #[Value.ref b] below meth c s.heap [] 0 0 (lw_Z below #[Value.ref b] s) (entryFrame m ([Value.ref b] : List Value).toArray 8) := by
  obtain ⟨hx, hb, hr, hml, hown, hts, hX, hbl, hlocks, hgv⟩ := C0
  generalize hA9 : (fun q : Nat => s.heap.size ≤ q) = A0
  have hA : ∀ q, s.heap.size ≤ q → A0 q := fun q h => by rw [← hA9]; exact h
  have hAn : ∀ a : Nat, a < s.heap.size → ¬ A0 a := fun a h => by rw [← hA9]; exact Nat.not_le.mpr h
  have hAi : ∀ q, A0 q → s.heap.size ≤ q := fun q h => by rw [← hA9] at h; exact h
  have hbA : ¬ A0 b := hAn b hbl
  -- the tables
  obtain ⟨tI, zI1, tI1⟩ := st_of (A := A0) (nm := "INITIAL") (f := fun j => iniV j) hAn (flat_st hgv (by decide +kernel)) (flat_st hgv (by decide +kernel)) (fun j hj => by rcases (show j = 0 ∨ j = 1 ∨ j = 2 ∨ j = 3 ∨ j = 4 ∨ j = 5 ∨ j = 6 by omega) with h | h | h | h | h | h | h <;> subst h <;> exact flat_st hgv (by decide +kernel)) (hts _ (by decide +kernel)) (hts _ (by decide +kernel))
  obtain ⟨tL, zL1, tL1⟩ := st_of (A := A0) (nm := "LEAST") (f := fun j => stv 1001 j) hAn (flat_st hgv (by decide +kernel)) (flat_st hgv (by decide +kernel)) (fun j hj => by rcases (show j = 0 ∨ j = 1 ∨ j = 2 ∨ j = 3 ∨ j = 4 ∨ j = 5 ∨ j = 6 by omega) with h | h | h | h | h | h | h <;> subst h <;> exact flat_st hgv (by decide +kernel)) (hts _ (by decide +kernel)) (hts _ (by decide +kernel))
  obtain ⟨tG, zG1, tG1⟩ := st_of (A := A0) (nm := "GREATEST") (f := fun j => stv 1002 j) hAn (flat_st hgv (by decide +kernel)) (flat_st hgv (by decide +kernel)) (fun j hj => by rcases (show j = 0 ∨ j = 1 ∨ j = 2 ∨ j = 3 ∨ j = 4 ∨ j = 5 ∨ j = 6 by omega) with h | h | h | h | h | h | h <;> subst h <;> exact flat_st hgv (by decide +kernel)) (hts _ (by decide +kernel)) (hts _ (by decide +kernel))
  -- the classes
  obtain ⟨D, hD9⟩ := kn_of hts
  obtain ⟨cI, kI, pI, f1, f2, f3⟩ := Cond.arrayClass_spec (hts (.arrayClass .int) (by decide +kernel))
  obtain ⟨cC, kC, pC, g1, g2, g3⟩ := Cond.arrayClass_spec (hts (.arrayClass .char) (by decide +kernel))
  have hAO := hts (.arrayOver (.object "ClockedGame$Game")) (by decide +kernel)
  obtain ⟨pG, cG, kG, i1, i2, i3, i4, i5⟩ := Cond.arrayOver_spec hAO
  have hK : va_K D vwCl (aT cI cC cG) s := by
    refine ⟨hD9, fun k q hk => ?_⟩
    rcases (show k = 0 ∨ k = 1 ∨ k = 2 by have := (List.getElem?_eq_some_iff.mp hk).1; simp [aT] at this; omega) with h | h | h <;> subst h <;> cases hk
    · exact ⟨fun n z => ⟨fun _ h => (by cases h), kI, f2, pI, f3⟩, f1⟩
    · exact ⟨fun n z => ⟨fun _ h => (by cases h), kC, g2, pC, g3⟩, g1⟩
    · exact ⟨fun n z => ⟨fun _ h => (by cases h), kG, i3, pG, i4⟩, kG, pG, i3, i4, i1, i5⟩
  have hNs : aNst s := by
    intro w hw hi
    have h := hts w hw
    cases w <;> first | exact va_Nw.of rfl h | (simp [isNest] at hi)
  obtain ⟨ad0, hd0⟩ : ∃ ad0 : Nat → Nat, ad0 1000 = tI ∧ ad0 1001 = tL ∧ ad0 1002 = tG ∧ ad0 2000 = b := ⟨fun k => if k = 1000 then tI else if k = 1001 then tL else if k = 1002 then tG else b, rfl, rfl, rfl, rfl⟩
  obtain ⟨d1, d2, d3, d4⟩ := hd0
  have hE : eV ad0 D cI cC cG A0 s s.heap := by
    refine ⟨hK, ⟨⟨⟨?_, ?_⟩, ?_, ?_⟩, ?_, ?_⟩, hNs, va_AO.of hAO⟩
    · rw [d2]; exact zL1
    · rw [d3]; exact zG1
    · rw [d2]; exact tL1
    · rw [d3]; exact tG1
    · rw [d1]; exact zI1
    · rw [d1]; exact tI1
  have htg : ∀ w ∈ lw_g, w.before #[Value.ref b] s = true := fun w hw => hts w (List.mem_filter.mp hw).1
  have X : gX p s m #[Value.ref b] c "ClockedGameLaw" code 8 := ⟨hx, hb, hml, hown, htg⟩
  -- the walk
  have hl := lv_entry ([.ref b]) (n := 8) (Nat.le_of_ble_eq_true rfl)
  rw [lg_entry_eq]
  generalize (lg_sl ([.ref b]) ++ List.replicate (8 - (lg_sl ([.ref b])).length) Slot.unset).toArray = ls at hl ⊢
  have hl : lv_has ls 8 [(0, .ref b)] := hl
  have start : cW p l e room_1 s m #[Value.ref b] below meth c (lw_Z below #[Value.ref b] s) A0 D ls 0 0 0 [] [] := by
    refine gw_new X hK hA (ci := 7) (k := 7) (w1 := 52) (w2 := 53) (w3 := 41) (by decide +kernel) rfl (by decide +kernel) (by decide +kernel) (by decide +kernel) (Nat.le_of_ble_eq_true rfl) (Nat.le_of_ble_eq_true rfl) (fun q1 => ?_)
    refine gw_dup X (by decide +kernel) ?_
    refine gw_init X hE hA (b := 93) (k := 9) (w := 54) (by decide +kernel) (by decide) (by decide +kernel) (by decide +kernel) (by decide +kernel) (by decide +kernel) (by decide +kernel) (fun sz => ct_93) hl.1 (by decide +kernel) (by decide +kernel) (Nat.le_of_ble_eq_true rfl) (Nat.le_of_ble_eq_true rfl) (Nat.le_of_ble_eq_true rfl) (fun u hu => ?_)
    obtain ⟨adc, μc, ⟨a0, ahi⟩, rfl, hrG, hz, hrng⟩ := hu
    refine fun H locs hP hD hS => lv_astore_n (lv' := [(1, .ref q1), (0, .ref b)]) hx hb (cc := code) (k := 1) (by decide +kernel) rfl hl (by decide) rfl (fun ls hl => ?_)
    have w2 : cW p l e room_1 s m #[Value.ref b] below meth c (lw_Z below #[Value.ref b] s) A0 D ls (0 + 1 + 108) (0 + 4 + 34503) 8 [] ([] ++ clW adc cI cC cG μc) := by
      refine gw_new X hK hA (ci := 8) (k := 10) (w1 := 778) (w2 := 779) (w3 := 50) (by decide +kernel) rfl (by decide +kernel) (by decide +kernel) (by decide +kernel) (Nat.le_of_ble_eq_true rfl) (Nat.le_of_ble_eq_true rfl) (fun q2 => ?_)
      refine gw_dup X (by decide +kernel) ?_
      refine cw_conv w_rot ?_
      refine gw_init (ws := []) (w0 := (q2, .inr (8, blk 8)) :: ([] ++ clW adc cI cC cG μc)) X hE hA (b := 123) (k := 12) (w := 780) (by decide +kernel) (by decide) (by decide +kernel) (by decide +kernel) (by decide +kernel) (by decide +kernel) (by decide +kernel) (fun sz => ct_123 ahi hrng) hl.1 (by decide +kernel) (by decide +kernel) (Nat.le_of_ble_eq_true rfl) (Nat.le_of_ble_eq_true rfl) (Nat.le_of_ble_eq_true rfl) (fun u hu => ?_)
      obtain ⟨ad, μ, rfl, ⟨a5, ao⟩, mo, rng, ⟨m6, m53, m57⟩, z7⟩ := hu
      refine fun H locs hP hD hS => lv_astore_n (lv' := [(2, .ref q2), (1, .ref q1), (0, .ref b)]) hx hb (cc := code) (k := 2) (by decide +kernel) rfl hl (by decide) rfl (fun ls hl => ?_)
      refine lv_iconst (n := 0) (v := 0) hx hb (cc := code) (by decide +kernel) (by decide) ?_
      refine lv_istore_n (lv' := [(3, .int 0), (2, .ref q2), (1, .ref q1), (0, .ref b)]) hx hb (cc := code) (k := 3) (by decide +kernel) rfl hl (by decide) rfl (fun ls hl => ?_)
      have hP : va_P D vwCl (ww ad cI cC cG μ) H := hP
      have hD : va_D A0 (ww ad cI cC cG μ) := hD
      obtain ⟨hI, hA0⟩ := inj_of hD
      have hSt2 : aStat ad A0 s s.heap := by
        unfold aStat
        rw [ao 1001 (by omega), ao 1002 (by omega), ahi 1001 (by omega), ahi 1002 (by omega)]
        exact hE.2.1.1
      have e0 : ad 0 = q1 := by rw [ao 0 (by omega), a0]
      have e2000 : ad 2000 = b := by rw [ao 2000 (by omega), ahi 2000 (by omega), d4]
      have XA : aX p s m #[Value.ref b] meth c room_1 600000 7302250 code "ClockedGameLaw" 8 ad D cI cC cG A0 := ⟨⟨hx, hb, hml, hown, htg⟩, hK, hSt2, hNs, hA0, hI, Nat.le_refl _, Nat.le_refl _⟩
      have hret : ∀ (L : Lc) (μ : Mem), aG p l e room_1 s m #[Value.ref b] below meth c 600000 7302250 (lw_Z below #[Value.ref b] s) 8 ad D cI cC cG A0 757 L [aI 1] μ := by
        intro L μ H locs ls hP hS hL hR hst
        refine va_forget (fun q hq => hAi _ (hS.2.2 q hq)) ?_
        exact lw_ret (d0 := s.drawn) (Drawn.sameBut.refl s.drawn lw_cs) hx hb hr hlocks ld_757
      have hLI := LI_of XA rfl rfl hL hX hbl hbA e2000 hret
      have hInv : INV 0 μ := by
        refine INV_0 ?_ ?_ ?_ m6 m53 m57 z7
        · exact rG_fr hrG (fun a g1 g2 => mo a (by omega))
        · rw [mo 1 (by omega), hz 1 (by omega)]; exact ⟨rfl, rfl⟩
        · rw [mo 3 (by omega), hz 3 (by omega)]
      refine W.widen (k := 600000) (n := 7302250) (Nat.le_of_ble_eq_true rfl) (Nat.le_of_ble_eq_true rfl) ?_
      refine law_lp hLI hL (L + 1) 0 μ 0 none none none none rfl (by omega) (by omega) hInv H locs ls hP hS ⟨hl.1, hl.2.1, fun i v hi => ?_⟩ rng (fun v hv => absurd hv List.not_mem_nil)
      have l0 := lv_at hl 3 rfl
      have l1 := lv_at hl 2 rfl
      have l2 := lv_at hl 1 rfl
      have l3 := lv_at hl 0 rfl
      rcases (show i = 0 ∨ i = 1 ∨ i = 2 ∨ i = 3 ∨ 4 ≤ i by omega) with h | h | h | h | h
      · subst h
        cases hi
        refine ⟨?_, trivial⟩
        show ls[0]? = some (.val (.ref (ad 2000)))
        rw [e2000]; exact l0
      · subst h
        cases hi
        refine ⟨?_, trivial⟩
        show ls[1]? = some (.val (.ref (ad 0)))
        rw [e0]; exact l1
      · subst h
        cases hi
        refine ⟨?_, trivial⟩
        show ls[2]? = some (.val (.ref (ad 5)))
        rw [a5]; exact l2
      · subst h
        cases hi
        exact ⟨l3, inR_0⟩
      · exfalso
        obtain ⟨j, rfl⟩ : ∃ j, i = j + 4 := ⟨i - 4, by omega⟩
        have hi : lget [none, none, none, none] j = some v := hi
        have : lget (List.replicate 4 none) j = none := lget_rep 4 j
        rw [show ([none, none, none, none] : Lc) = List.replicate 4 none from rfl, this] at hi
        cases hi
    exact w2 H locs hP hD hS
  exact start s.heap [] (fun k q h => (by cases h)) ⟨fun i j x y h => (by cases h), fun k q h => (by cases h)⟩ va_S.rf
