/-! THE HISTORY IS MADE: six games in a row -/
section CT3
variable {p : Program} {l : Launch} {e : Env} {R : Room} {s : State} {m : MethodId} {args : Array Value} {below : List Frame} {meth : Method} {c : Code} {QW : State → Prop} {A0 : Nat → Prop} {D : va_G} {ls : Array Slot} {cells slots pc a : Nat} {st : List Value} {ws : va_W} {ad : Nat → Nat} {cI cC cG : ClassId} {H : Heap} {locs : List Loc}
abbrev rfE (cG : ClassId) (n : Nat) (f : Nat → Option Nat) : va_E := .inl (cG, n, .inr (.inr (.inr (.inr f))))
theorem cw_newq (X : cX p s m args meth c a) (hE : eV ad D cI cC cG A0 s s.heap) (hA : ∀ q, s.heap.size ≤ q → A0 q) {k w N : Nat} {n : Int32} (hd : decode (mB a) pc = .ok (.anewarray k, 3)) (hw : lk w (.classLink (mY a).cls k "ClockedGame$Game") = true) (hn : ¬ n < 0) (hN : n.toNatClampNeg = N) (hN2 : N ≤ 100000) (hc : cells + 1 ≤ R.cells) (hs : slots + N ≤ R.slots) (kk : ∀ q, cW p l e R s m args below meth c QW A0 D ls (cells + 1) (slots + N) (pc + 3) (.ref q :: st) (ws ++ [(q, rfE cG N (fun _ => none))])) : cW p l e R s m args below meth c QW A0 D ls cells slots pc (.int n :: st) ws := by
  intro H locs hP hD hS
  obtain ⟨⟨hx, hb, hml, hown, hts⟩, _⟩ := X
  refine va_newq hx hb hown (hts _ (lk_in hw)) hE.2.2.2 hE.1 hP hD hS hA hn hN (by omega) hc hs hd (fun q cA H1 hK1 hP1 hD1 hS1 => ?_)
  obtain ⟨_, _, _, _, _, e1⟩ := (hK1.2 3 _ rfl).2
  obtain ⟨_, _, _, _, _, e2⟩ := (hE.1.2 2 _ rfl).2
  have e3 : cA = cG := Option.some.inj (e1.symm.trans e2)
  subst e3
  exact kk q H1 locs hP1 hD1 hS1
theorem cw_il1 (X : cX p s m args meth c a) {x : Int32} (hd : decode (mB a) pc = .ok (.iload_n 1, 1)) (hl : ls[1]? = some (.val (.int x))) (kk : cW p l e R s m args below meth c QW A0 D ls cells slots (pc + 1) (.int x :: st) ws) : cW p l e R s m args below meth c QW A0 D ls cells slots pc st ws :=
  fun H locs hP hD hS => lv_iload_n X.1.1 X.1.2.1 hd rfl hl (kk H locs hP hD hS)
theorem cw_alen (X : cX p s m args meth c a) (hK : va_K D vwCl (aT cI cC cG) s) {j q N : Nat} {f : Nat → Option Nat} (hd : decode (mB a) pc = .ok (.arraylength, 1)) (hj : ws[j]? = some (q, rfE cG N f)) (kk : cW p l e R s m args below meth c QW A0 D ls cells slots (pc + 1) (.int (Int32.ofNat N) :: st) ws) : cW p l e R s m args below meth c QW A0 D ls cells slots pc (.ref q :: st) ws :=
  fun H locs hP hD hS => va_alen X.1.1 X.1.2.1 hK hP j 2 hj rfl rfl hd (kk H locs hP hD hS)
theorem cw_ge (X : cX p s m args meth c a) {x y : Int32} {off : Int} {tgt : Nat} (hd : decode (mB a) pc = .ok (.if_icmp .ge off, 3)) (ht : (pc : Int) + off = (tgt : Int)) (k1 : y ≤ x → cW p l e R s m args below meth c QW A0 D ls cells slots tgt st ws) (k2 : ¬ y ≤ x → cW p l e R s m args below meth c QW A0 D ls cells slots (pc + 3) st ws) : cW p l e R s m args below meth c QW A0 D ls cells slots pc (.int y :: .int x :: st) ws :=
  fun H locs hP hD hS => lv_icmp_ge X.1.1 X.1.2.1 hd ht (fun z => k1 z H locs hP hD hS) (fun z => k2 z H locs hP hD hS)
theorem cw_goto (X : cX p s m args meth c a) {off : Int} {tgt : Nat} (hd : decode (mB a) pc = .ok (.goto off, 3)) (ht : (pc : Int) + off = (tgt : Int)) (kk : cW p l e R s m args below meth c QW A0 D ls cells slots tgt st ws) : cW p l e R s m args below meth c QW A0 D ls cells slots pc st ws :=
  fun H locs hP hD hS => lv_goto X.1.1 X.1.2.1 hd ht (kk H locs hP hD hS)
theorem cw_astq (X : cX p s m args meth c a) (hK : va_K D vwCl (aT cI cC cG) s) {j jv q v N i : Nat} {f : Nat → Option Nat} {vs : List Value} (hd : decode (mB a) pc = .ok (.aastore, 1)) (hj : ws[j]? = some (q, rfE cG N f)) (hv : ws[jv]? = some (v, .inr (2, vs))) (hi : i < N) (hi2 : i ≤ 100000) (kk : cW p l e R s m args below meth c QW A0 D ls cells slots (pc + 1) st (ws.set j (q, rfE cG N (va_up f i (some v))))) : cW p l e R s m args below meth c QW A0 D ls cells slots pc (.ref v :: .int (i32 i) :: .ref q :: st) ws := by
  intro H locs hP hD hS
  have hr : inR (i : Int) := by unfold inR; omega
  have e : (i32 i).toNatClampNeg = i := by rw [i32_cl hr]; omega
  refine va_astq X.1.1 X.1.2.1 hK hP hD hS j 2 jv 2 (r := (RX2, TX2, 14)) hj rfl hv rfl (i32_idx (by omega) hr (by omega)) hd (fun H1 locs1 hP1 hD1 hS1 => ?_)
  rw [e] at hP1 hD1
  exact kk H1 locs1 hP1 hD1 hS1
end CT3
/-- n games, one behind another -/
def gms (ads : Nat → Nat → Nat) (cI cC cG : ClassId) (μs : Nat → Mem) (n : Nat) : va_W := (List.range n).flatMap (fun i => wwz (ads i) cI cC cG (μs i))
theorem wwz_len {ad : Nat → Nat} {cI cC cG : ClassId} {μ : Mem} : (wwz ad cI cC cG μ).length = 13 := by simp [wwz]
theorem gms_s {ads : Nat → Nat → Nat} {cI cC cG : ClassId} {μs : Nat → Mem} {n : Nat} : gms ads cI cC cG μs (n + 1) = gms ads cI cC cG μs n ++ wwz (ads n) cI cC cG (μs n) := by
  unfold gms
  rw [List.range_succ, List.flatMap_append]
  simp
theorem gms_cg {ads ads' : Nat → Nat → Nat} {cI cC cG : ClassId} {μs μs' : Nat → Mem} : ∀ n : Nat, (∀ i, i < n → ads' i = ads i ∧ μs' i = μs i) → gms ads' cI cC cG μs' n = gms ads cI cC cG μs n
  | 0, _ => rfl
  | n + 1, h => by
    rw [gms_s, gms_s, gms_cg n (fun i hi => h i (by omega)), (h n (by omega)).1, (h n (by omega)).2]
theorem gms_len {ads : Nat → Nat → Nat} {cI cC cG : ClassId} {μs : Nat → Mem} : ∀ n : Nat, (gms ads cI cC cG μs n).length = 13 * n
  | 0 => rfl
  | n + 1 => by
    rw [gms_s, List.length_append, gms_len n, wwz_len]; omega
theorem gms_get {ads : Nat → Nat → Nat} {cI cC cG : ClassId} {μs : Nat → Mem} : ∀ (n i k : Nat), i < n → k < 13 → (gms ads cI cC cG μs n)[13 * i + k]? = some (ads i k, cellEz (ads i) cI cC cG (μs i) k)
  | 0, i, k, hi, _ => by omega
  | n + 1, i, k, hi, hk => by
    rw [gms_s]
    by_cases h : i = n
    · subst h
      rw [List.getElem?_append_right (by rw [gms_len]; omega), gms_len, Nat.add_sub_cancel_left]
      exact ww_getz hk
    · rw [List.getElem?_append_left (by rw [gms_len]; omega)]
      exact gms_get n i k (by omega) hk
def hst (h0 qa : Nat) (ads : Nat → Nat → Nat) (cI cC cG : ClassId) (μs : Nat → Mem) (n : Nat) : va_W := (h0, .inr (3, [.ref qa, .int 0, .int 0])) :: (qa, rfE cG 6 (fun j => if j < n then some (ads j 0) else none)) :: gms ads cI cC cG μs n
def hSh (h0 : Nat) (cI cC cG : ClassId) (w : va_W) : Prop := ∃ (qa : Nat) (ads : Nat → Nat → Nat) (μs : Nat → Mem), w = hst h0 qa ads cI cC cG μs 6 ∧ ∀ i, i < 6 → aRngz (μs i)
set_option maxRecDepth 100000 in
set_option maxHeartbeats 4000000 in
theorem ct_63 {l : Launch} {h0 : Nat} {ad : Nat → Nat} {D : va_G} {cI cC cG : ClassId} {sz : Nat} : ctM l 63 h0 ad D cI cC cG [(h0, .inr (3, blk 3))] sz (hSh h0 cI cC cG) 79 25800 := by
  refine ct_of (by decide) (by decide +kernel) (by decide +kernel) (fun p e s m args below meth c ls X hE hA hl => ?_)
  have hl0 := lv_at hl 0 rfl
  have hK := hE.1
  have hls : ls.size = mL 63 := hl.1
  have hm2 : mL 63 = 2 := by decide +kernel
  have lp : ∀ (n i : Nat), i + n = 6 → ∀ (cells slots : Nat) (ls : Array Slot) (qa : Nat) (ads : Nat → Nat → Nat) (μs : Nat → Mem), cells = 1 + 13 * i → slots = 6 + 4299 * i → lv_has ls 2 [(1, .int (i32 i)), (0, .ref h0)] → (∀ j, j < i → aRngz (μs j)) → cW p l e (rC 63 79 25800) s m args below meth c (MQ below (cPost D (va_A [(h0, .inr (3, blk 3))] sz) (hSh h0 cI cC cG)) args s 79 25800 (va_A [(h0, .inr (3, blk 3))] sz)) (va_A [(h0, .inr (3, blk 3))] sz) D ls cells slots 15 [] (hst h0 qa ads cI cC cG μs i) := by
    intro n
    induction n with
    | zero =>
      intro i hi cells slots ls qa ads μs hce hsl hl hr
      have hi6 : i = 6 := by omega
      subst hi6
      refine cw_il1 X (by decide +kernel) (lv_at hl 0 rfl) ?_
      refine cw_al0 X (by decide +kernel) (lv_at hl 1 rfl) ?_
      refine cw_get0 X hK (ci := 3) (i := 0) (k := 11) (w := 214) (by decide +kernel) rfl (by decide) (by decide +kernel) rfl rfl ?_
      refine cw_alen X hK (j := 1) (N := 6) (by decide +kernel) rfl ?_
      refine cw_ge X (off := 22) (tgt := 43) (by decide +kernel) (by decide) (fun _ => ?_) (fun z => absurd (by decide : Int32.ofNat 6 ≤ i32 (6 : Nat)) z)
      exact cw_ret X (by decide +kernel) (by decide +kernel) (by omega) (by omega) ⟨qa, ads, μs, rfl, hr⟩
    | succ n ih =>
      intro i hi cells slots ls qa ads μs hce hsl hl hr
      have hi6 : i < 6 := by omega
      have hls : ls.size = mL 63 := by rw [hm2]; exact hl.1
      have hri : inR (i : Int) := by unfold inR; omega
      refine cw_il1 X (by decide +kernel) (lv_at hl 0 rfl) ?_
      refine cw_al0 X (by decide +kernel) (lv_at hl 1 rfl) ?_
      refine cw_get0 X hK (ci := 3) (i := 0) (k := 11) (w := 214) (by decide +kernel) rfl (by decide) (by decide +kernel) rfl rfl ?_
      refine cw_alen X hK (j := 1) (N := 6) (by decide +kernel) rfl ?_
      refine cw_ge X (off := 22) (tgt := 43) (by decide +kernel) (by decide) (fun z => ?_) (fun _ => ?_)
      · exfalso
        have e6 : Int32.ofNat 6 = i32 6 := i32_nat 6
        rw [e6] at z
        have := (i32_le (x := 6) (y := i) (by unfold inR; omega) hri).mp z
        omega
      refine cw_al0 X (by decide +kernel) (lv_at hl 1 rfl) ?_
      refine cw_get0 X hK (ci := 3) (i := 0) (k := 11) (w := 214) (by decide +kernel) rfl (by decide) (by decide +kernel) rfl rfl ?_
      refine cw_il1 X (by decide +kernel) (lv_at hl 0 rfl) ?_
      refine cw_new X hK hA (ci := 2) (k := 9) (w1 := 211) (w2 := 26) (w3 := 8) (by decide +kernel) rfl (by decide +kernel) (by decide +kernel) (by decide +kernel) (by show cells + 1 ≤ 79; omega) (by show slots + 14 ≤ 25800; omega) (fun q => ?_)
      refine cw_dup X (by decide +kernel) ?_
      refine cw_init X hE hA (b := 28) (k := 15) (w := 213) (by decide +kernel) (by decide) (by decide +kernel) (by decide +kernel) (by decide +kernel) (by decide +kernel) (Or.inl (by decide +kernel)) (fun sz => ct_28) hls (by decide +kernel) (by decide +kernel) (by show cells + 1 + 12 ≤ 79; omega) (by show slots + 14 + 4285 ≤ 25800; omega) (Nat.le_of_ble_eq_true rfl) (fun u hu => ?_)
      obtain ⟨adn, μn, q0, rfl, -, hrn⟩ := hu
      have hlen : (hst h0 qa ads cI cC cG μs i).length = 2 + 13 * i := by unfold hst; simp [gms_len]; omega
      refine cw_astq X hK (j := 1) (jv := 2 + 13 * i) (i := i) (vs := mkF adn (μn 0) [some 1, some 2, some 4, some 5, some 6, some 11, none, none, none, none, none, none, none, none] 0) (by decide +kernel) rfl ?_ hi6 (by omega) ?_
      · show (hst h0 qa ads cI cC cG μs i ++ wwz adn cI cC cG μn)[2 + 13 * i]? = _
        rw [List.getElem?_append_right (by omega), hlen, Nat.sub_self]
        rw [ww_getz (k := 0) (by decide), q0]
        rfl
      refine fun H locs hP hD hS => lv_iinc (k := 0) (v := i32 (i + 1 : Nat)) X.1.1 X.1.2.1 (cc := mB 63) (i := 1) (n := 1) (by decide +kernel) hl rfl (by rw [show Int32.ofInt 1 = i32 1 from rfl, i32_add]; congr 1) (by decide) rfl (fun ls2 hl2 => ?_)
      refine lv_goto (off := -25) (tgt := 15) X.1.1 X.1.2.1 (by decide +kernel) (by decide) ?_
      have e1 : (hst h0 qa ads cI cC cG μs i ++ wwz adn cI cC cG μn).set 1 (qa, rfE cG 6 (va_up (fun j => if j < i then some (ads j 0) else none) i (some q))) = hst h0 qa (fun j => if j = i then adn else ads j) cI cC cG (fun j => if j = i then μn else μs j) (i + 1) := by
        unfold hst
        rw [gms_s, gms_cg (ads := ads) (μs := μs) i (fun j hj => ⟨if_neg (by omega), if_neg (by omega)⟩), if_pos rfl, if_pos rfl]
        have ef : va_up (fun j => if j < i then some (ads j 0) else none) i (some q) = fun j => if j < i + 1 then some ((if j = i then adn else ads j) 0) else none := by
          funext j
          unfold va_up
          by_cases hj : j = i
          · rw [if_pos hj, if_pos (by omega), if_pos hj, q0]
          · rw [if_neg hj]
            show (if j < i then some (ads j 0) else none) = (if j < i + 1 then some ((if j = i then adn else ads j) 0) else none)
            by_cases hj2 : j < i
            · rw [if_pos hj2, if_pos (by omega), if_neg hj]
            · rw [if_neg hj2, if_neg (by omega)]
        rw [ef]
        rfl
      have hP : va_P D vwCl ((hst h0 qa ads cI cC cG μs i ++ wwz adn cI cC cG μn).set 1 (qa, rfE cG 6 (va_up (fun j => if j < i then some (ads j 0) else none) i (some q)))) H := hP
      have hD : va_D (va_A [(h0, .inr (3, blk 3))] sz) ((hst h0 qa ads cI cC cG μs i ++ wwz adn cI cC cG μn).set 1 (qa, rfE cG 6 (va_up (fun j => if j < i then some (ads j 0) else none) i (some q)))) := hD
      rw [e1] at hP hD
      exact ih (i + 1) (by omega) _ _ ls2 qa _ _ (by omega) (by omega) hl2 (fun j hj => by
        by_cases h : j = i
        · simp only [h, if_true]; exact hrn
        · simp only [h, if_false]; exact hr j (by omega)) H locs hP hD hS
  refine cw_al0 X (by decide +kernel) hl0 ?_
  refine cw_obj X (k := 1) (w := 210) (by decide +kernel) (by decide +kernel) hls (by decide +kernel) (by decide +kernel) ?_
  refine cw_al0 X (by decide +kernel) hl0 ?_
  refine cw_bi X (k := 6) (v := 6) (by decide +kernel) (by decide +kernel) ?_
  refine cw_newq X hE hA (k := 9) (w := 211) (N := 6) (by decide +kernel) (by decide +kernel) (by decide) (by decide) (by decide) (by decide +kernel) (by decide +kernel) (fun qa => ?_)
  refine cw_putF X hK (ci := 3) (i := 0) (k := 11) (w := 214) (r := .array (.object "ClockedGame$Game")) (by decide +kernel) rfl (by decide) (by decide +kernel) rfl rfl (by decide +kernel) (by decide +kernel) rfl rfl (Nat.le_of_ble_eq_true rfl) ?_
  refine cw_ic X (k := 0) (v := 0) (by decide +kernel) (by decide +kernel) ?_
  refine fun H locs hP hD hS => lv_istore_n (lv' := [(1, .int (i32 (0 : Nat))), (0, .ref h0)]) X.1.1 X.1.2.1 (cc := mB 63) (k := 1) (by decide +kernel) rfl hl (by decide +kernel) rfl (fun ls2 hl2 => ?_)
  rw [hm2] at hl2
  exact lp 6 0 rfl 1 6 ls2 qa (fun _ _ => 0) (fun _ _ _ => 0) rfl rfl hl2 (fun j hj => by omega) H locs hP hD hS
