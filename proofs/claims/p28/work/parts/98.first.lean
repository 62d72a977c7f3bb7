/-! ROWS OF A FRAME THAT IS NO METHOD'S OF THE CLASS (the law's entry) -/
def gX (p : Program) (s : State) (m : MethodId) (args : Array Value) (c : Code) (own : String) (cc : ByteArray) (nL : Nat) : Prop := p.tables.exec = Jvm.exec ∧ c.code = cc ∧ c.maxLocals = nL ∧ s.vm.findClass own = some m.cls ∧ (∀ w ∈ lw_g, w.before args s = true)
section GT
variable {p : Program} {l : Launch} {e : Env} {R : Room} {s : State} {m : MethodId} {args : Array Value} {below : List Frame} {meth : Method} {c : Code} {QW : State → Prop} {A0 : Nat → Prop} {D : va_G} {ls : Array Slot} {cells slots pc nL : Nat} {st : List Value} {ws : va_W} {ad : Nat → Nat} {cI cC cG : ClassId} {own : String} {cc : ByteArray}
theorem gw_dup (X : gX p s m args c own cc nL) {q : Nat} (hd : decode cc pc = .ok (.dup, 1)) (kk : cW p l e R s m args below meth c QW A0 D ls cells slots (pc + 1) (.ref q :: .ref q :: st) ws) : cW p l e R s m args below meth c QW A0 D ls cells slots pc (.ref q :: st) ws :=
  fun H locs hP hD hS => lv_dup X.1 X.2.1 hd rfl (kk H locs hP hD hS)
theorem gw_new (X : gX p s m args c own cc nL) (hK : va_K D vwCl (aT cI cC cG) s) (hA : ∀ q, s.heap.size ≤ q → A0 q) {ci k w1 w2 w3 N : Nat} {C : String} {T : u_T} (hd : decode cc pc = .ok (.new k, 3)) (hc : vwCl[ci]? = some (C, T, N)) (h1 : lk w1 (.classLink own k C) = true) (h2 : lk w2 (.instantiable C N) = true) (h3 : lk w3 (.initialized C) = true) (hce : cells + 1 ≤ R.cells) (hsl : slots + N ≤ R.slots) (kk : ∀ q, cW p l e R s m args below meth c QW A0 D ls (cells + 1) (slots + N) (pc + 3) (.ref q :: st) (ws ++ [(q, .inr (ci, blk ci))])) : cW p l e R s m args below meth c QW A0 D ls cells slots pc st ws := by
  intro H locs hP hD hS
  obtain ⟨hx, hb, hml, hown, hts⟩ := X
  have hb9 : ci < 8 := (List.getElem?_eq_some_iff.mp hc).1
  obtain ⟨ty, hty⟩ := ty_ok ci hb9
  obtain ⟨hty, hnm⟩ := hty C T N hc
  exact va_new hx hb hts (uws_in hc) ty hty hown (hts _ (lk_in h1)) (hts _ (lk_in h2)) (hts _ (lk_in h3)) hK hP hD hS hA hc (fs := blk ci) (blk_ok hc hty) hce hsl hd (fun q H1 hP1 hD1 hS1 => kk q H1 locs hP1 hD1 hS1)
theorem gw_init (X : gX p s m args c own cc nL) (hE : eV ad D cI cC cG A0 s s.heap) (hA : ∀ q, s.heap.size ≤ q → A0 q) {b k w q mc ms : Nat} {w0 : va_W} {sh : va_W → Prop} (hd : decode cc pc = .ok (.invokespecial k, 3)) (hb : b < 190) (hi : mInit b = true) (hnp : mNp b = 0) (hst : mSt b = false) (hT : mT b = none) (hlk : lk w (.methodLink own k (mY b)) = true) (hM : ∀ sz, ctM l b q ad D cI cC cG w0 sz sh mc ms) (hls : ls.size = nL) (hfr : (mR b).frames + 1 ≤ R.frames) (hlo : 8 + (mL b + 11) + (mR b).locals ≤ R.locals) (hce : cells + mc ≤ R.cells) (hsl : slots + ms ≤ R.slots) (hcat : (st.map fun v => v.category).sum ≤ 8) (kk : ∀ u, sh u → cW p l e R s m args below meth c QW A0 D ls (cells + mc) (slots + ms) (pc + 3) st (ws ++ u)) : cW p l e R s m args below meth c QW A0 D ls cells slots pc (.ref q :: st) (ws ++ w0) := by
  intro H locs hP hD hS
  obtain ⟨hx, hb', hml, hown, hts⟩ := X
  obtain ⟨hK, hStt, hNs, hAO⟩ := hE
  obtain ⟨⟨o1, o2⟩, o3, o4, o5, o6, o7, o8⟩ := okM_inv hb
  rw [if_neg (by rw [hst]; simp)] at o4
  have hFc : ∀ x, va_A w0 H.size x → A0 x := by
    intro x h
    rcases h with ⟨j, y, hj⟩ | h
    · exact hD.right.2 j (x, y) hj
    · exact hA x (Nat.le_trans hS.1 h)
  have hp : PreS s H (va_Pc [.ref q] (cPre ad D cI cC cG w0 H.size)) [.ref q] := by
    refine ⟨cPre.blind, fun U hU hW => ⟨rfl, by rw [hU], by rw [hU]; exact hP.right, hD.right.weaken (fun _ _ _ _ => trivial), va_K.moved hW.alike hK, ?_, hNs.warm hW, hAO.moved hW.alike⟩⟩
    rw [hU]
    exact stats_narrow (stats_moved hW.alike (stats_kept hStt hS.2.1)) hFc
  have hroom : 2 * (F0 m pc ls (.ref q :: st)).monitorRoom + (st.map fun v => v.category).sum ≤ 8 := lv_room hcat
  have hnm : (mY b).name = "<init>" := by unfold mInit at hi; exact eq_of_beq hi
  have hM := hM H.size
  unfold ctM at hM
  have cw : CallB R s args own k (mY b) (mB b) (mL b) none (mW b) (rC b mc ms) mc ms 0 ∧ (mY b).name = "<init>" ∧ (Cond.instanceMethod (mY b)).before args s = true := by
    refine ⟨?_, hnm, hts _ (gd o4.1 rfl)⟩
    have := callB_of (R := R) (own := own) (index := k) (rm := rC b mc ms) (mc := mc) (ms := ms) (mNp b) hts (mW_good b hb) rfl rfl rfl (hts _ (gd o3 rfl)) (hts _ (lk_in hlk)) ⟨o5.1, o5.2, o6⟩ ⟨hfr, hlo⟩
    rw [hnp, hT] at this
    exact this
  refine va_callv (va_runI (As := []) ⟨hx, hb', hml, hown, hts⟩ hM cw hp rfl rfl hls rfl hroom hd ⟨hce, hsl⟩) hS (fun x _ h => hFc x h) hFc (fun u t H1 locs1 ht hvm hw hB hz1 hk1 hS1 => ?_)
  obtain ⟨hP1, hD1⟩ := hB
  rw [ht] at hP1
  obtain ⟨j1, j2⟩ := w_join hP hD hk1 hFc hP1 hD1
  exact kk u hw H1 locs1 j1 j2 hS1
end GT
/-- the last cell first -/
theorem w_rot {D : va_G} {w : va_W} {x : Nat × va_E} : (∀ H, va_P D vwCl (w ++ [x]) H → va_P D vwCl (x :: w) H) ∧ ∀ A, va_D A (w ++ [x]) → va_D A (x :: w) := by
  have gl : (w ++ [x])[w.length]? = some x := by
    rw [List.getElem?_append_right (Nat.le_refl _), Nat.sub_self]
    rfl
  have gk : ∀ (k : Nat) (q : Nat × va_E), w[k]? = some q → (w ++ [x])[k]? = some q ∧ k < w.length := fun k q h => ⟨by rw [List.getElem?_append_left (List.getElem?_eq_some_iff.mp h).1]; exact h, (List.getElem?_eq_some_iff.mp h).1⟩
  refine ⟨fun H hP k q h => ?_, fun A hD => ⟨fun i j y z hy hz hyz => ?_, fun k q h => ?_⟩⟩
  · cases k with
    | zero => cases h; exact hP _ _ gl
    | succ k => exact hP k q (gk k q h).1
  · cases i with
    | zero =>
      cases hy
      cases j with
      | zero => rfl
      | succ j => have := hD.1 _ _ _ _ gl (gk j z hz).1 hyz; have := (gk j z hz).2; omega
    | succ i =>
      cases j with
      | zero => cases hz; have := hD.1 _ _ _ _ (gk i y hy).1 gl hyz; have := (gk i y hy).2; omega
      | succ j => have := hD.1 _ _ _ _ (gk i y hy).1 (gk j z hz).1 hyz; omega
  · cases k with
    | zero => cases h; exact hD.2 _ _ gl
    | succ k => exact hD.2 k q (gk k q h).1
/-- the classes as the tables have them -/
theorem kn_of {s : State} {args : Array Value} (hts : ∀ w ∈ lw_tbl, w.before args s = true) : ∃ D : va_G, ∀ (c : Nat) (q : vw_C), vwCl[c]? = some q → u_Kn s q.1 q.2.1 q.2.2 (D.1 c) (D.2 c) := by
  have hin : ∀ (c : Nat) (C : String) (T : u_T) (N : Nat), vwCl[c]? = some (C, T, N) → ∀ w ∈ u_ws C T N, w ∈ lw_tbl := fun c C T N h w hw => (List.mem_filter.mp (uws_in h w hw)).1
  have h : ∀ c : Nat, ∃ (cC : ClassId) (iS : Nat → Nat), ∀ q, vwCl[c]? = some q → u_Kn s q.1 q.2.1 q.2.2 cC iS := by
    intro c
    by_cases hc : c < 8
    · rcases (show c = 0 ∨ c = 1 ∨ c = 2 ∨ c = 3 ∨ c = 4 ∨ c = 5 ∨ c = 6 ∨ c = 7 by omega) with h | h | h | h | h | h | h | h <;> subst h
      · obtain ⟨cC, iS, h⟩ := u_known (N := 1) hts (hin 0 _ _ _ rfl) (hts (.instantiable RX0 1) (by decide +kernel))
        exact ⟨cC, iS, fun q hq => by cases hq; exact h⟩
      · obtain ⟨cC, iS, h⟩ := u_known (N := 3) hts (hin 1 _ _ _ rfl) (hts (.instantiable RX1 3) (by decide +kernel))
        exact ⟨cC, iS, fun q hq => by cases hq; exact h⟩
      · obtain ⟨cC, iS, h⟩ := u_known (N := 14) hts (hin 2 _ _ _ rfl) (hts (.instantiable RX2 14) (by decide +kernel))
        exact ⟨cC, iS, fun q hq => by cases hq; exact h⟩
      · obtain ⟨cC, iS, h⟩ := u_known (N := 3) hts (hin 3 _ _ _ rfl) (hts (.instantiable RX3 3) (by decide +kernel))
        exact ⟨cC, iS, fun q hq => by cases hq; exact h⟩
      · obtain ⟨cC, iS, h⟩ := u_known (N := 9) hts (hin 4 _ _ _ rfl) (hts (.instantiable RX4 9) (by decide +kernel))
        exact ⟨cC, iS, fun q hq => by cases hq; exact h⟩
      · obtain ⟨cC, iS, h⟩ := u_known (N := 6) hts (hin 5 _ _ _ rfl) (hts (.instantiable RX5 6) (by decide +kernel))
        exact ⟨cC, iS, fun q hq => by cases hq; exact h⟩
      · obtain ⟨cC, iS, h⟩ := u_known (N := 2) hts (hin 6 _ _ _ rfl) (hts (.instantiable RX6 2) (by decide +kernel))
        exact ⟨cC, iS, fun q hq => by cases hq; exact h⟩
      · obtain ⟨cC, iS, h⟩ := u_known (N := 4) hts (hin 7 _ _ _ rfl) (hts (.instantiable RX7 4) (by decide +kernel))
        exact ⟨cC, iS, fun q hq => by cases hq; exact h⟩
    · exact ⟨default, fun _ => 0, fun q hq => absurd (List.getElem?_eq_some_iff.mp hq).1 hc⟩
  exact ⟨(fun c => Classical.choose (h c), fun c => Classical.choose (Classical.choose_spec (h c))), fun c q hq => Classical.choose_spec (Classical.choose_spec (h c)) q hq⟩
/-- a static table of seven numbers, out of what the Statement gives -/
theorem st_of {s : State} {args : Array Value} {nm : String} {f : Nat → Int} {A : Nat → Prop} (hA : ∀ a : Nat, a < s.heap.size → ¬ A a) (h1 : (Cond.arrayOf (.static "ClockedGame" nm "[I") .int).before args s = true) (h2 : (Cond.eq (.length (.static "ClockedGame" nm "[I")) (.int 7)).before args s = true) (h3 : ∀ j : Nat, j < 7 → (Cond.eq (.elem (.static "ClockedGame" nm "[I") (.int (Int32.ofNat j))) (.int (i32 (f j)))).before args s = true) (h4 : (Cond.laysStatic "ClockedGame" nm "[I").before args s = true) (h5 : (Cond.initialized "ClockedGame").before args s = true) : ∃ t : Nat, va_Z "ClockedGame" nm "[I" (.ref t) A s s.heap ∧ va_T .int t 7 (fun j => .int (i32 (f j))) A s s.heap := by
  obtain ⟨t, ht, hT⟩ := va_Tof (N := 7) (f := fun j => .int (i32 (f j))) (A := A) (by omega) h1 (va_eqt h2) (fun j hj => va_eqt (h3 j hj)) hA
  exact ⟨t, va_Zref h4 h5 ht hA, hT⟩
