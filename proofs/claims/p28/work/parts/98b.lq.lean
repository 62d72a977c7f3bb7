/-! p28: what the law's walk rests on, over its own frame -/
theorem mem_all {l : List Nat} {pc : Nat} (h : memN l pc = true) : pc ∈ l := by
  induction l with
  | nil => cases h
  | cons x l ih =>
    simp only [memN, Bool.or_eq_true, beq_iff_eq] at h
    rcases h with h | h
    · rw [h]; exact List.mem_cons_self
    · exact List.mem_cons_of_mem _ (ih h)
section LQF
variable {p : Program} {l : Launch} {e : Env} {R : Room} {s : State} {m : MethodId} {args : Array Value} {below : List Frame} {meth : Method} {c : Code} {cells slots : Nat} {QW : State → Prop} {cc : ByteArray} {own : String} {nL : Nat} {ret : Option FieldType} {ad : Nat → Nat} {D : va_G} {cI cC cG : ClassId} {A0 : Nat → Prop}
set_option maxRecDepth 20000 in
theorem LQ_of (X : ∀ j, j ≤ 100 → aX p s m args meth c room_1 (109 + j) (34507 + 2 * j) code "ClockedGameLaw" 14 ad D cI cC cG A0) (hnew : ∀ q, s.heap.size ≤ q → A0 q) {b N : Nat} {xs : Nat → Int32} (hN : N ≤ 260) (hX : va_X b N xs s s.heap) (hbl : b < s.heap.size) (hbA : ¬ A0 b) (had : ad 2000 = b) (hret : ∀ (j pc : Nat) (L : Lc) (μ : Mem), j ≤ 99 → (pc = 315 ∨ pc = 985) → aG p l e room_1 s m args below meth c (109 + j) (34507 + 2 * j) QW 14 ad D cI cC cG A0 pc L [aI 1] μ) : LQ (fun j => aG p l e room_1 s m args below meth c (109 + j) (34507 + 2 * j) QW 14 ad D cI cC cG A0) (cvI N xs) := by
  refine ⟨fun j stop f pc L st μ hj h => vg1_snd (ret := ret) (X j (by omega)) ok_200 f h, fun j pc k L st μ hj hp h0 h4 h => ?_, fun j pc x y L st μ hj hp h => ?_, fun j pc x y L st μ hj hp h => ?_, fun j x L st μ hj h => ag_lcmp (X j (by omega)) ld_654 h, fun j pc L st μ v f n base hj hp hK hv hx h6 h4 h => ?_, hret⟩
  · have hd : decode code pc = .ok (.invokestatic 104, 3) := of_decide_eq_true (List.all_eq_true.mp clP_ok pc (mem_all hp))
    exact ag_cell (X j (by omega)) hd clP_c hX hbl hbA had h0 hN h4 h
  · have hd : decode code pc = .ok (.ishr, 1) := of_decide_eq_true (List.all_eq_true.mp shP_ok pc (mem_all hp))
    exact ag_ishr (X j (by omega)) hd h
  · have hd : decode code pc = .ok (.iand, 1) := of_decide_eq_true (List.all_eq_true.mp anP_ok pc (mem_all hp))
    exact ag_iand (X j (by omega)) hd h
  · have hd : decode code pc = .ok (.invokestatic 101, 3) := of_decide_eq_true (List.all_eq_true.mp agP_ok pc (mem_all hp))
    refine ag_agr (X j (by omega)) hnew hd agP_c ?_ ?_ hK hv hx (by omega) h4 h
    · show 109 + j + 1 ≤ 600000; omega
    · show 34507 + 2 * j + 2 ≤ 7302250; omega
end LQF
