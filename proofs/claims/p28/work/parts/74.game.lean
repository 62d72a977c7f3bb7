/-! A GAME IS MADE -/
section CT2
variable {p : Program} {l : Launch} {e : Env} {R : Room} {s : State} {m : MethodId} {args : Array Value} {below : List Frame} {meth : Method} {c : Code} {QW : State → Prop} {A0 : Nat → Prop} {D : va_G} {ls : Array Slot} {cells slots pc a : Nat} {st : List Value} {ws : va_W} {ad : Nat → Nat} {cI cC cG : ClassId} {H : Heap} {locs : List Loc}
/-- the seven numbers of a table are copied into a new row of seven -/
theorem w_copy7 {cc : ByteArray} {own : String} {k t q j : Nat} {f : Nat → Int32} (hx : p.tables.exec = Jvm.exec) (hb : c.code = cc) (hml : c.maxLocals = ls.size) (hown : s.vm.findClass own = some m.cls) (hlink : (Cond.methodLink own k arraycopyName).before args s = true) (hnat : (Cond.native arraycopyName).before args s = true) (hstat : (Cond.static arraycopyName).before args s = true) (hini : (Cond.initialized "java/lang/System").before args s = true) (hK : va_K D vwCl (aT cI cC cG) s) (hP : va_P D vwCl ws H) (hD : va_D A0 ws) (hS : va_S A0 s.heap H locs) (hT : va_T .int t 7 (fun i => .int (f i)) A0 s s.heap) (hj : ws[j]? = some (q, .inl (cI, 7, .inl (fun _ => 0)))) (hf : ∀ i, 7 ≤ i → f i = 0) (hfr : 1 ≤ R.frames) (hlo : (st.map fun v => v.category).sum + (nativeFrameWords "java/lang/System" "arraycopy" 5 + 11) ≤ R.locals) (hd : decode cc pc = .ok (.invokestatic k, 3))
    (kk : ∀ (H1 : Heap) (locs1 : List Loc), va_P D vwCl (ws.set j (q, .inl (cI, 7, .inl f))) H1 → va_D A0 (ws.set j (q, .inl (cI, 7, .inl f))) → va_S A0 s.heap H1 locs1 → W p l e R s m args below meth c H1 locs1 cells slots QW (F0 m (pc + 3) ls st)) : W p l e R s m args below meth c H locs cells slots QW (F0 m pc ls (.int 7 :: .int 0 :: .ref q :: .int 0 :: .ref t :: st)) := by
  intro T hT0 X
  obtain ⟨src, g1, ⟨g2, kS, g3, cS, g4⟩, g5, g6, g7, g8, g9⟩ := hT
  have hsrc : H[t]? = some src := by rw [hS.2.1 t (Array.getElem?_eq_some_iff.mp g1).1 g9]; exact g1
  have hdst : H[q]? = some (vp_cell cI (7, .inl (fun _ => 0))) := hP j _ hj
  obtain ⟨-, kD, d1, cD, d2⟩ := (hK.2 0 _ rfl).1 7 (fun _ => .int 0)
  have e0 : (0 : Int32).toNatClampNeg = 0 := by decide
  have e7 : (7 : Int32).toNatClampNeg = 7 := by decide
  have i0 : (0 : Int32).toInt = 0 := by decide
  have i7 : (7 : Int32).toInt = 7 := by decide
  have hq : A0 q := hD.2 j _ hj
  obtain ⟨vm', X', step⟩ := X.arraycopy hx hown hlink hnat hstat hini (src := t) (dst := q) (cs := src) (cd := vp_cell cI (7, .inl (fun _ => 0))) (srcPos := 0) (destPos := 0) (n := 7) (by rw [hT0]; exact hsrc) (by rw [hT0]; exact hdst) g2 (fun _ z => by cases z) g5 (fun z => by cases z) g3 d1 g4 d2 (by simp [refKind]) (by decide) (by decide) (by decide)
    (by rw [i0, i7]; omega) (by rw [i0, i7]; show ¬ _ > ((arrV cI 7 (fun _ => .int 0)).slots.size : Int); rw [arrV_size]; omega)
    (fun vm1 _ i hi => by
      have e : src.slots.getD ((0 : Int32).toNatClampNeg + i) .null = .int (f i) := by
        rw [e0, Nat.zero_add, Array.getD_eq_getD_getElem?, g8 i (by rw [e7] at hi; exact hi)]
        rfl
      rw [e]
      exact ⟨rfl, trivial⟩)
    (g := F0 m pc ls (.int 7 :: .int 0 :: .ref q :: .int 0 :: .ref t :: st)) rfl (by rw [hml]) (rest := st) rfl (by rw [hb]; exact hd) hfr (by show 2 * 0 + _ + _ ≤ _; omega)
  have ec : copied src (vp_cell cI (7, .inl (fun _ => 0))) 0 0 7 = vp_cell cI (7, .inl f) := by
    have h := va_copiedX (fun z => Value.int z) src cI (n1 := 7) (sp := 0) (dp := 0) (n := 7) f (fun _ => 0) g8 (by omega)
    have ef : va_cpy f (fun _ => 0) 0 0 7 = f := by
      funext i
      unfold va_cpy
      by_cases hi : i < 7
      · rw [if_pos (by omega)]; congr 1; omega
      · rw [if_neg (by omega), hf i (by omega)]
    rw [ef] at h
    exact h
  rw [ec] at X' step
  generalize hcell : vp_cell cI (7, .inl f) = cell at *
  have hl : q < H.size := (Array.getElem?_eq_some_iff.mp hdst).1
  have hheap : ((T.setVm vm').setCell q cell).heap = H.setIfInBounds q cell := by rw [← hT0]; rfl
  have hat : (H.setIfInBounds q cell)[q]? = some cell := by simp [Array.getElem?_setIfInBounds, hl]
  have hne : ∀ x : Nat, x ≠ q → (H.setIfInBounds q cell)[x]? = H[x]? := fun x hx => by simp [Array.getElem?_setIfInBounds, Ne.symm hx]
  have hSn : va_S A0 s.heap (H.setIfInBounds q cell) (locs ++ ((src.stretch (0 : Int32).toNatClampNeg (7 : Int32).toNatClampNeg).zipIdx.map fun y => (⟨q, (0 : Int32).toNatClampNeg + y.2⟩ : Loc))) := by
    refine ⟨by simp; exact hS.1, fun x h1 h2 => ?_, fun y hy => ?_⟩
    · rw [hne x (fun z => h2 (by rw [z]; exact hq))]
      exact hS.2.1 x h1 h2
    · rcases List.mem_append.mp hy with h | h
      · exact hS.2.2 y h
      · obtain ⟨z, -, rfl⟩ := List.mem_map.mp h
        exact hq
  obtain ⟨t2, a1, b1⟩ := kk _ _ (hP.set hD hj (show va_at D vwCl (q, .inl (cI, 7, .inl f)) (H.setIfInBounds q cell) from by show _ = _; rw [hcell]; exact hat) hne) (hD.set hj) hSn _ hheap X'
  exact ⟨t2, step t2 a1, b1⟩
theorem cw_gets (X : cX p s m args meth c a) (hE : eV ad D cI cC cG A0 s s.heap) {k w : Nat} (hd : decode (mB a) pc = .ok (.getstatic k, 3)) (hw : lkN w (.fieldLinkNest (mY a).cls k "ClockedGame" "INITIAL" "[I" "ClockedGame") = true) (kk : cW p l e R s m args below meth c QW A0 D ls cells slots (pc + 3) (.ref (ad 1000) :: st) ws) : cW p l e R s m args below meth c QW A0 D ls cells slots pc st ws := by
  intro H locs hP hD hS
  obtain ⟨⟨hx, hb, hml, hown, hts⟩, _⟩ := X
  exact va_getsN hx hb hE.2.1.2.1 hS hown ((lkN_at hw hE.2.2.1).use rfl) (fun _ h9 => h9) hd (kk H locs hP hD hS)
theorem cw_get0 (X : cX p s m args meth c a) (hK : va_K D vwCl (aT cI cC cG) s) {ci i k w N h0 : Nat} {C : String} {T : u_T} {fs : List Value} {tl : va_W} {v : Value} (hd : decode (mB a) pc = .ok (.getfield k, 3)) (hc : vwCl[ci]? = some (C, T, N)) (hi : i < N) (hw : lk w (.fieldLink (mY a).cls k C (T i).2.1 (T i).2.2.1) = true) (hC : (T i).1 = C) (hv : fs[i]? = some v) (kk : cW p l e R s m args below meth c QW A0 D ls cells slots (pc + 3) (v :: st) ((h0, .inr (ci, fs)) :: tl)) : cW p l e R s m args below meth c QW A0 D ls cells slots pc (.ref h0 :: st) ((h0, .inr (ci, fs)) :: tl) := by
  intro H locs hP hD hS
  obtain ⟨⟨hx, hb, hml, hown, hts⟩, _⟩ := X
  exact va_get hx hb hts (uws_in hc) hown hK hP 0 rfl hc i hi (hts _ (lk_in hw)) (by rw [hC]; exact fun _ h9 => h9) hv hd (kk H locs hP hD hS)
theorem cw_cp7 (X : cX p s m args meth c a) (hE : eV ad D cI cC cG A0 s s.heap) {k w q j : Nat} (hd : decode (mB a) pc = .ok (.invokestatic k, 3)) (hw : lk w (.methodLink (mY a).cls k arraycopyName) = true) (hls : ls.size = mL a) (hj : ws[j]? = some (q, .inl (cI, 7, .inl (fun _ => 0)))) (hfr : 1 ≤ R.frames) (hlo : (st.map fun v => v.category).sum + (nativeFrameWords "java/lang/System" "arraycopy" 5 + 11) ≤ R.locals) (kk : cW p l e R s m args below meth c QW A0 D ls cells slots (pc + 3) st (ws.set j (q, .inl (cI, 7, .inl (fun i => i32 (iniV i)))))) : cW p l e R s m args below meth c QW A0 D ls cells slots pc (.int 7 :: .int 0 :: .ref q :: .int 0 :: .ref (ad 1000) :: st) ws := by
  intro H locs hP hD hS
  obtain ⟨⟨hx, hb, hml, hown, hts⟩, _⟩ := X
  refine w_copy7 hx hb (by rw [hml, hls]) hown (hts _ (lk_in hw)) (hts _ (gd (by decide +kernel) rfl)) (hts _ (gd (by decide +kernel) rfl)) (hts _ (gd (by decide +kernel) rfl)) hE.1 hP hD hS hE.2.1.2.2 hj (fun i hi => ?_) hfr hlo hd (fun H1 locs1 hP1 hD1 hS1 => kk H1 locs1 hP1 hD1 hS1)
  unfold iniV
  rw [if_neg (by omega), if_neg (by omega), if_neg (by omega)]
  rfl
end CT2
/-- the row of a game that was never begun: what its cells hold ahead of its start -/
def v1R : Rw := fun i => if 0 ≤ i ∧ i < 7 then iniV i else if 20 ≤ i ∧ i < 56 then 1 else 0
/-- the row of a new game -/
def vIR : Rw := bgF v1R
def m1R : Mem := fun k i => if k = 1 then iniV i else 0
theorem m1_rG : rG 0 m1R v1R := by
  refine ⟨⟨⟨rfl, rfl, rfl⟩, ⟨rfl, rfl, rfl⟩, rfl, rfl⟩, fun i hi => ?_, fun k hk => ?_, fun w hw => ?_, fun w hw => ?_, ⟨rfl, by decide, fun k hk => ?_⟩, by decide, rfl, rfl, fun i hi => ?_⟩
  · show iniV i = v1R i
    unfold v1R
    rw [if_pos hi]
  · show (0 : Int) = atN v1R k
    have e : v1R (20 + k) = 1 := by unfold v1R; rw [if_neg (by omega), if_pos (by omega)]
    unfold atN
    rw [e]
    decide
  · show (0 : Int) = v1R (56 + 8 * 0 + w)
    unfold v1R
    rw [if_neg (by omega), if_neg (by omega)]
  · show (0 : Int) = v1R (56 + 8 * 1 + w)
    unfold v1R
    rw [if_neg (by omega), if_neg (by omega)]
  · have : v1R 10 = 0 := rfl
    omega
  · exact absurd hi (by show ¬ i < 0; omega)
theorem iniV_rng (i : Int) : 0 ≤ iniV i ∧ iniV i ≤ 1000 := by
  unfold iniV
  (repeat' split) <;> omega
theorem m1_rng : aRngz m1R := by
  intro k i
  unfold m1R
  by_cases hk : k = 1
  · rw [if_pos hk]
    have := iniV_rng i
    refine ⟨by unfold inR; omega, fun n hn => ?_⟩
    subst hk
    cases hn
  · rw [if_neg hk]
    exact ⟨inR_0, fun n _ => by omega⟩
/-- a world that is one new game -/
def gSh (h0 : Nat) (cI cC cG : ClassId) (w : va_W) : Prop := ∃ (ad : Nat → Nat) (μ : Mem), ad 0 = h0 ∧ w = wwz ad cI cC cG μ ∧ rG 0 μ vIR ∧ aRngz μ
def adL (ad : Nat → Nat) (h0 h1 h2 h3 h4 h5 h6 h7 h8 h9 h10 h11 h12 : Nat) : Nat → Nat := fun k => match k with
  | 0 => h0
  | 1 => h1
  | 2 => h2
  | 3 => h3
  | 4 => h4
  | 5 => h5
  | 6 => h6
  | 7 => h7
  | 8 => h8
  | 9 => h9
  | 10 => h10
  | 11 => h11
  | 12 => h12
  | k + 13 => ad (k + 13)
theorem adL_ww {ad : Nat → Nat} {h0 h1 h2 h3 h4 h5 h6 h7 h8 h9 h10 h11 h12 : Nat} {cI cC cG : ClassId} : wwz (adL ad h0 h1 h2 h3 h4 h5 h6 h7 h8 h9 h10 h11 h12) cI cC cG m1R = [(h0, .inr (2, [.ref h1, .ref h2, .ref h4, .ref h5, .ref h6, .ref h11, .int 0, .int 0, .int 0, .int 0, .int 0, .int 0, .int 0, .int 0])), (h1, .inl (cI, 7, .inl (fun i => i32 (iniV i)))), (h2, .inr (0, [.ref h3])), (h3, .inl (cI, 36, .inl (fun _ => 0))), (h4, .inr (5, blk 5)), (h5, .inr (5, blk 5)), (h6, .inr (4, [.ref h7, .ref h8, .ref h9, .ref h10, .int 0, .int 0, .int 0, .int 0, .int 0])), (h7, .inl (cI, 200, .inl (fun _ => 0))), (h8, .inl (cI, 200, .inl (fun _ => 0))), (h9, .inl (cI, 200, .inl (fun _ => 0))), (h10, .inl (cI, 200, .inl (fun _ => 0))), (h11, .inr (1, [.ref h12, .int 0, .int 0])), (h12, .inl (cC, 3417, .inl (fun _ => 0)))] := (rfl)
theorem injz_of {ad : Nat → Nat} {cI cC cG : ClassId} {μ : Mem} {A : Nat → Prop} (h : va_D A (wwz ad cI cC cG μ)) : aInjz ad ∧ ∀ k, k < nCellz → A (ad k) := ⟨fun i j hi hj e => h.1 i j _ _ (ww_getz hi) (ww_getz hj) e, fun k hk => h.2 k _ (ww_getz hk)⟩
set_option maxRecDepth 100000 in
set_option maxHeartbeats 4000000 in
theorem ct_28 {l : Launch} {h0 : Nat} {ad : Nat → Nat} {D : va_G} {cI cC cG : ClassId} {sz : Nat} : ctM l 28 h0 ad D cI cC cG [(h0, .inr (2, blk 2))] sz (gSh h0 cI cC cG) 12 4285 := by
  refine ct_of (by decide) (by decide +kernel) (by decide +kernel) (fun p e s m args below meth c ls X hE hA hl => ?_)
  have hl0 := lv_at hl 0 rfl
  have hK := hE.1
  have hls : ls.size = mL 28 := hl.1
  refine cw_al0 X (by decide +kernel) hl0 ?_
  refine cw_obj X (k := 3) (w := 30) (by decide +kernel) (by decide +kernel) hls (by decide +kernel) (by decide +kernel) ?_
  refine cw_al0 X (by decide +kernel) hl0 ?_
  refine cw_bi X (k := 7) (v := 7) (by decide +kernel) (by decide +kernel) ?_
  refine cw_newI X hK hA (N := 7) (by decide +kernel) (by decide +kernel) (by decide +kernel) (by decide +kernel) (Nat.le_of_ble_eq_true rfl) (Nat.le_of_ble_eq_true rfl) (fun q1 => ?_)
  refine cw_putF X hK (ci := 2) (i := 0) (k := 9) (w := 158) (r := .array .int) (by decide +kernel) rfl (by decide) (by decide +kernel) rfl rfl (by decide +kernel) (by decide +kernel) rfl rfl (Nat.le_of_ble_eq_true rfl) ?_
  refine cw_al0 X (by decide +kernel) hl0 ?_
  refine cw_new X hK hA (ci := 0) (k := 15) (w1 := 31) (w2 := 32) (w3 := 9) (by decide +kernel) rfl (by decide +kernel) (by decide +kernel) (by decide +kernel) (Nat.le_of_ble_eq_true rfl) (Nat.le_of_ble_eq_true rfl) (fun q2 => ?_)
  refine cw_dup X (by decide +kernel) ?_
  refine cw_init X hE hA (b := 0) (k := 17) (w := 33) (by decide +kernel) (by decide) (by decide +kernel) (by decide +kernel) (by decide +kernel) (by decide +kernel) (Or.inr (by decide +kernel)) (fun sz => ct_0) hls (by decide +kernel) (by decide +kernel) (Nat.le_of_ble_eq_true rfl) (Nat.le_of_ble_eq_true rfl) (Nat.le_of_ble_eq_true rfl) (fun u2 hu => ?_)
  obtain ⟨o1, rfl⟩ := hu
  refine cw_putF X hK (ci := 2) (i := 1) (k := 18) (w := 159) (r := .object "ClockedGame$Board") (by decide +kernel) rfl (by decide) (by decide +kernel) rfl rfl (by decide +kernel) (by decide +kernel) rfl rfl (Nat.le_of_ble_eq_true rfl) ?_
  refine cw_al0 X (by decide +kernel) hl0 ?_
  refine cw_new X hK hA (ci := 5) (k := 22) (w1 := 42) (w2 := 43) (w3 := 10) (by decide +kernel) rfl (by decide +kernel) (by decide +kernel) (by decide +kernel) (Nat.le_of_ble_eq_true rfl) (Nat.le_of_ble_eq_true rfl) (fun q3 => ?_)
  refine cw_dup X (by decide +kernel) ?_
  refine cw_init X hE hA (b := 71) (k := 24) (w := 44) (by decide +kernel) (by decide) (by decide +kernel) (by decide +kernel) (by decide +kernel) (by decide +kernel) (Or.inr (by decide +kernel)) (fun sz => ct_71) hls (by decide +kernel) (by decide +kernel) (Nat.le_of_ble_eq_true rfl) (Nat.le_of_ble_eq_true rfl) (Nat.le_of_ble_eq_true rfl) (fun u3 hu => ?_)
  obtain rfl := hu
  refine cw_putF X hK (ci := 2) (i := 2) (k := 25) (w := 161) (r := .object "ClockedGame$Side") (by decide +kernel) rfl (by decide) (by decide +kernel) rfl rfl (by decide +kernel) (by decide +kernel) rfl rfl (Nat.le_of_ble_eq_true rfl) ?_
  refine cw_al0 X (by decide +kernel) hl0 ?_
  refine cw_new X hK hA (ci := 5) (k := 22) (w1 := 42) (w2 := 43) (w3 := 10) (by decide +kernel) rfl (by decide +kernel) (by decide +kernel) (by decide +kernel) (Nat.le_of_ble_eq_true rfl) (Nat.le_of_ble_eq_true rfl) (fun q4 => ?_)
  refine cw_dup X (by decide +kernel) ?_
  refine cw_init X hE hA (b := 71) (k := 24) (w := 44) (by decide +kernel) (by decide) (by decide +kernel) (by decide +kernel) (by decide +kernel) (by decide +kernel) (Or.inr (by decide +kernel)) (fun sz => ct_71) hls (by decide +kernel) (by decide +kernel) (Nat.le_of_ble_eq_true rfl) (Nat.le_of_ble_eq_true rfl) (Nat.le_of_ble_eq_true rfl) (fun u4 hu => ?_)
  obtain rfl := hu
  refine cw_putF X hK (ci := 2) (i := 3) (k := 29) (w := 162) (r := .object "ClockedGame$Side") (by decide +kernel) rfl (by decide) (by decide +kernel) rfl rfl (by decide +kernel) (by decide +kernel) rfl rfl (Nat.le_of_ble_eq_true rfl) ?_
  refine cw_al0 X (by decide +kernel) hl0 ?_
  refine cw_new X hK hA (ci := 4) (k := 32) (w1 := 72) (w2 := 73) (w3 := 11) (by decide +kernel) rfl (by decide +kernel) (by decide +kernel) (by decide +kernel) (Nat.le_of_ble_eq_true rfl) (Nat.le_of_ble_eq_true rfl) (fun q5 => ?_)
  refine cw_dup X (by decide +kernel) ?_
  refine cw_init X hE hA (b := 67) (k := 34) (w := 74) (by decide +kernel) (by decide) (by decide +kernel) (by decide +kernel) (by decide +kernel) (by decide +kernel) (Or.inr (by decide +kernel)) (fun sz => ct_67) hls (by decide +kernel) (by decide +kernel) (Nat.le_of_ble_eq_true rfl) (Nat.le_of_ble_eq_true rfl) (Nat.le_of_ble_eq_true rfl) (fun u5 hu => ?_)
  obtain ⟨m1, m2, m3, m4, rfl⟩ := hu
  refine cw_putF X hK (ci := 2) (i := 4) (k := 35) (w := 163) (r := .object "ClockedGame$Made") (by decide +kernel) rfl (by decide) (by decide +kernel) rfl rfl (by decide +kernel) (by decide +kernel) rfl rfl (Nat.le_of_ble_eq_true rfl) ?_
  refine cw_al0 X (by decide +kernel) hl0 ?_
  refine cw_new X hK hA (ci := 1) (k := 39) (w1 := 111) (w2 := 112) (w3 := 12) (by decide +kernel) rfl (by decide +kernel) (by decide +kernel) (by decide +kernel) (Nat.le_of_ble_eq_true rfl) (Nat.le_of_ble_eq_true rfl) (fun q6 => ?_)
  refine cw_dup X (by decide +kernel) ?_
  refine cw_init X hE hA (b := 14) (k := 41) (w := 113) (by decide +kernel) (by decide) (by decide +kernel) (by decide +kernel) (by decide +kernel) (by decide +kernel) (Or.inr (by decide +kernel)) (fun sz => ct_14) hls (by decide +kernel) (by decide +kernel) (Nat.le_of_ble_eq_true rfl) (Nat.le_of_ble_eq_true rfl) (Nat.le_of_ble_eq_true rfl) (fun u6 hu => ?_)
  obtain ⟨n1, rfl⟩ := hu
  refine cw_putF X hK (ci := 2) (i := 5) (k := 42) (w := 164) (r := .object "ClockedGame$Entries") (by decide +kernel) rfl (by decide) (by decide +kernel) rfl rfl (by decide +kernel) (by decide +kernel) rfl rfl (Nat.le_of_ble_eq_true rfl) ?_
  refine cw_gets X hE (k := 46) (w := 131) (by decide +kernel) (by decide +kernel) ?_
  refine cw_ic X (k := 0) (v := 0) (by decide +kernel) (by decide +kernel) ?_
  refine cw_al0 X (by decide +kernel) hl0 ?_
  refine cw_get0 X hK (ci := 2) (i := 0) (k := 9) (w := 158) (by decide +kernel) rfl (by decide) (by decide +kernel) rfl rfl ?_
  refine cw_ic X (k := 0) (v := 0) (by decide +kernel) (by decide +kernel) ?_
  refine cw_bi X (k := 7) (v := 7) (by decide +kernel) (by decide +kernel) ?_
  refine cw_cp7 X hE (k := 49) (w := 133) (j := 1) (by decide +kernel) (by decide +kernel) hls rfl (by decide +kernel) (by decide +kernel) ?_
  refine cw_al0 X (by decide +kernel) hl0 ?_
  intro H locs hP hD hS
  have hww := adL_ww (ad := ad) (h0 := h0) (h1 := q1) (h2 := q2) (h3 := o1) (h4 := q3) (h5 := q4) (h6 := q5) (h7 := m1) (h8 := m2) (h9 := m3) (h10 := m4) (h11 := q6) (h12 := n1) (cI := cI) (cC := cC) (cG := cG)
  generalize hadg : adL ad h0 q1 q2 o1 q3 q4 q5 m1 m2 m3 m4 q6 n1 = adg at hww
  have a0 : adg 0 = h0 := by rw [← hadg]; rfl
  have a1 : adg 1001 = ad 1001 := by rw [← hadg]; rfl
  have a2 : adg 1002 = ad 1002 := by rw [← hadg]; rfl
  have hP : va_P D vwCl (wwz adg cI cC cG m1R) H := by rw [hww]; exact hP
  have hD : va_D (va_A [(h0, .inr (2, blk 2))] sz) (wwz adg cI cC cG m1R) := by rw [hww]; exact hD
  obtain ⟨hI, hA0⟩ := injz_of hD
  obtain ⟨⟨hx, hb, hml, hown, hts⟩, h2, h3, h4⟩ := X
  obtain ⟨_, ⟨hSt, _⟩, hNs, _⟩ := hE
  have hSt2 : aStat adg (va_A [(h0, .inr (2, blk 2))] sz) s s.heap := by
    unfold aStat
    rw [a1, a2]
    exact hSt
  have XZ : aXz p s m args meth c (rC 28 12 4285) 12 4285 (mB 28) (mY 28).cls (mL 28) adg D cI cC cG (va_A [(h0, .inr (2, blk 2))] sz) := ⟨⟨hx, hb, hml, hown, hts⟩, hK, hSt2, hNs, hA0, hI, Nat.le_refl _, Nat.le_refl _⟩
  have e1 : (F0 m 82 ls [.ref h0]) = F0 m 82 ls (([aR 0] : List AV).map (conc adg)) := by
    show _ = F0 m 82 ls [.ref (adg 0)]
    rw [a0]
  refine W.widen (k := 12) (n := 4285) (Nat.le_of_ble_eq_true rfl) (Nat.le_of_ble_eq_true rfl) ?_
  show W p l e (rC 28 12 4285) s m args below meth c H locs 12 4285 _ (F0 m 82 ls [.ref h0])
  rw [e1]
  refine sd_virtualz (K := fun pc _ st μ' => pc = 85 ∧ st = [] ∧ rG 0 μ' vIR) (n := 85) (k0 := 55) (a := 30) (b := 1) (w := 136) (z := 2) (L := [some (aR 0)]) (st := [aR 0]) (μ := m1R) XZ (by decide +kernel) rfl (by decide +kernel) (by decide +kernel) (by decide +kernel) (by decide +kernel) (fun pc L st μ' hk => ?_) ⟨by decide, by decide, rfl, ?_⟩ H locs ls hP hS ⟨hl.1, hl.2.1, fun i v hi => ?_⟩ m1_rng (fun v hv => by rw [List.mem_singleton.mp hv]; exact trivial)
  · obtain ⟨rfl, rfl, hr⟩ := hk
    intro H1 locs1 ls1 hP1 hS1 hL1 hR1 hst1
    exact W.vret hx hb (h2.trans (by decide +kernel)) (fun t ht hW => ⟨⟨wwz adg cI cC cG μ', rfl, ⟨adg, μ', a0, rfl, hr, hR1⟩, by rw [ht]; exact hP1, aDz hI hA0⟩, hS1.F ht⟩) hS1.2.2 (by decide +kernel) h3
  · exact k_gStartz rfl m1_rG (fun μ' _ hr => ⟨rfl, rfl, hr⟩)
  · cases i with
    | zero =>
      have hv : aR 0 = v := by simpa [lget] using hi
      rw [← hv]
      refine ⟨?_, trivial⟩
      show ls[0]? = some (.val (.ref (adg 0)))
      rw [a0]; exact hl0
    | succ i => simp [lget] at hi
