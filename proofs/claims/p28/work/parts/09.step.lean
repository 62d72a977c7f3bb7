/-! THE STEP AS A WHOLE, and a run of steps (laid by wip/p28/tools/gen09.py) -/
def istab (i : Instr) : Bool := match i with
  | .tableswitch _ _ _ _ => true
  | _ => false
section SND4
variable {p : Program} {l : Launch} {e : Env} {R : Room} {s : State} {m : MethodId} {args : Array Value} {below : List Frame} {meth : Method} {c : Code} {cells slots : Nat} {QW : State → Prop} {cc : ByteArray} {own : String} {nL : Nat} {ret : Option FieldType} {ad : Nat → Nat} {D : va_G} {cI cC cG : ClassId} {A0 : Nat → Prop}
theorem okE_inv {fr lo pc n a b w : Nat} {z : Int} {i : Instr} (hi : istab i = false) (h : okE own cc ret nL fr lo pc (i, n, a, b, w, z) = true) : decode cc pc = .ok (i, iln i) ∧ n = pc + iln i ∧ okB own cc ret nL fr lo pc i n a b w z = true := by
  unfold okE at h
  simp only [] at h
  split at h
  · simp [istab] at hi
  · simp only [Bool.and_eq_true, decide_eq_true_eq] at h
    exact ⟨h.1.1, h.1.2, h.2⟩
set_option maxHeartbeats 4000000 in
theorem step_snd (X : aX p s m args meth c R cells slots cc own nL ad D cI cC cG A0) {K : aK} {Ret : Option AV → Mem → Prop} {i : Instr} {n a b w : Nat} {z : Int} {pc : Nat} {L : Lc} {st : List AV} {μ : Mem} (hok : okE own cc ret nL R.frames R.locals pc (i, n, a, b, w, z) = true)
    (hRet : (i = .ireturn ∨ i = .lreturn ∨ i = .areturn ∨ i = .return_) → stepI Ret i n a b z L st μ K → aG p l e R s m args below meth c cells slots QW nL ad D cI cC cG A0 pc L st μ) (hK : ∀ pc L st μ, K pc L st μ → aG p l e R s m args below meth c cells slots QW nL ad D cI cC cG A0 pc L st μ) (h : stepI Ret i n a b z L st μ K) : aG p l e R s m args below meth c cells slots QW nL ad D cI cC cG A0 pc L st μ := by
  cases i with
  | iadd =>
    obtain ⟨hd, hn, hB⟩ := okE_inv rfl hok
    exact sd_iadd X hd hn hK h
  | isub =>
    obtain ⟨hd, hn, hB⟩ := okE_inv rfl hok
    exact sd_isub X hd hn hK h
  | imul =>
    obtain ⟨hd, hn, hB⟩ := okE_inv rfl hok
    exact sd_imul X hd hn hK h
  | idiv =>
    obtain ⟨hd, hn, hB⟩ := okE_inv rfl hok
    exact sd_idiv X hd hn hK h
  | irem =>
    obtain ⟨hd, hn, hB⟩ := okE_inv rfl hok
    exact sd_irem X hd hn hK h
  | ineg =>
    obtain ⟨hd, hn, hB⟩ := okE_inv rfl hok
    exact sd_ineg X hd hn hK h
  | i2c =>
    obtain ⟨hd, hn, hB⟩ := okE_inv rfl hok
    exact sd_i2c X hd hn hK h
  | i2l =>
    obtain ⟨hd, hn, hB⟩ := okE_inv rfl hok
    exact sd_i2l X hd hn hK h
  | ladd =>
    obtain ⟨hd, hn, hB⟩ := okE_inv rfl hok
    exact sd_ladd X hd hn hK h
  | lmul =>
    obtain ⟨hd, hn, hB⟩ := okE_inv rfl hok
    exact sd_lmul X hd hn hK h
  | dup =>
    obtain ⟨hd, hn, hB⟩ := okE_inv rfl hok
    exact sd_dup X hd hn hK h
  | pop =>
    obtain ⟨hd, hn, hB⟩ := okE_inv rfl hok
    exact sd_pop X hd hn hK h
  | dup2 =>
    obtain ⟨hd, hn, hB⟩ := okE_inv rfl hok
    exact sd_dup2 X hd hn hK h
  | arraylength =>
    obtain ⟨hd, hn, hB⟩ := okE_inv rfl hok
    exact sd_arraylength X hd hn hK h
  | iaload =>
    obtain ⟨hd, hn, hB⟩ := okE_inv rfl hok
    exact sd_iaload X hd hn hK h
  | caload =>
    obtain ⟨hd, hn, hB⟩ := okE_inv rfl hok
    exact sd_caload X hd hn hK h
  | aaload =>
    obtain ⟨hd, hn, hB⟩ := okE_inv rfl hok
    exact sd_aaload X hd hn hK h
  | iastore =>
    obtain ⟨hd, hn, hB⟩ := okE_inv rfl hok
    exact sd_iastore X hd hn hK h
  | castore =>
    obtain ⟨hd, hn, hB⟩ := okE_inv rfl hok
    exact sd_castore X hd hn hK h
  | aconst_null =>
    obtain ⟨hd, hn, hB⟩ := okE_inv rfl hok
    exact sd_null X hd hn hK h
  | iconst k =>
    obtain ⟨hd, hn, hB⟩ := okE_inv rfl hok
    simp only [okB, Bool.and_eq_true, Bool.or_eq_true, decide_eq_true_eq] at hB
    exact sd_iconst X hd hn hB.1 (inRb_of hB.2) hK h
  | bipush k =>
    obtain ⟨hd, hn, hB⟩ := okE_inv rfl hok
    simp only [okB, Bool.and_eq_true, Bool.or_eq_true, decide_eq_true_eq] at hB
    exact sd_bipush X hd hn hB.1 (inRb_of hB.2) hK h
  | sipush k =>
    obtain ⟨hd, hn, hB⟩ := okE_inv rfl hok
    simp only [okB, Bool.and_eq_true, Bool.or_eq_true, decide_eq_true_eq] at hB
    exact sd_sipush X hd hn hB.1 (inRb_of hB.2) hK h
  | ldc k =>
    obtain ⟨hd, hn, hB⟩ := okE_inv rfl hok
    simp only [okB, Bool.and_eq_true, Bool.or_eq_true, decide_eq_true_eq] at hB
    exact sd_ldc X hd hn (lk_in hB.1) (inRb_of hB.2) hK h
  | ldc2_w k =>
    obtain ⟨hd, hn, hB⟩ := okE_inv rfl hok
    exact sd_ldc2 X hd hn (lk_in hB) hK h
  | iload k =>
    obtain ⟨hd, hn, hB⟩ := okE_inv rfl hok
    simp only [okB, Bool.and_eq_true, Bool.or_eq_true, decide_eq_true_eq] at hB
    exact sd_iload X hd hn hB hK h
  | aload k =>
    obtain ⟨hd, hn, hB⟩ := okE_inv rfl hok
    simp only [okB, Bool.and_eq_true, Bool.or_eq_true, decide_eq_true_eq] at hB
    exact sd_aload X hd hn hB hK h
  | lload k =>
    obtain ⟨hd, hn, hB⟩ := okE_inv rfl hok
    simp only [okB, Bool.and_eq_true, Bool.or_eq_true, decide_eq_true_eq] at hB
    exact sd_lload X hd hn hB hK h
  | iload_n k =>
    obtain ⟨hd, hn, hB⟩ := okE_inv rfl hok
    simp only [okB, Bool.and_eq_true, Bool.or_eq_true, decide_eq_true_eq] at hB
    exact sd_iload_n X hd hn hB hK h
  | aload_n k =>
    obtain ⟨hd, hn, hB⟩ := okE_inv rfl hok
    simp only [okB, Bool.and_eq_true, Bool.or_eq_true, decide_eq_true_eq] at hB
    exact sd_aload_n X hd hn hB hK h
  | lload_n k =>
    obtain ⟨hd, hn, hB⟩ := okE_inv rfl hok
    simp only [okB, Bool.and_eq_true, Bool.or_eq_true, decide_eq_true_eq] at hB
    exact sd_lload_n X hd hn hB hK h
  | istore k =>
    obtain ⟨hd, hn, hB⟩ := okE_inv rfl hok
    simp only [okB, Bool.and_eq_true, Bool.or_eq_true, decide_eq_true_eq] at hB
    exact sd_istore X hd hn hB.1 hB.2 hK h
  | astore k =>
    obtain ⟨hd, hn, hB⟩ := okE_inv rfl hok
    simp only [okB, Bool.and_eq_true, Bool.or_eq_true, decide_eq_true_eq] at hB
    exact sd_astore X hd hn hB.1 hB.2 hK h
  | lstore k =>
    obtain ⟨hd, hn, hB⟩ := okE_inv rfl hok
    simp only [okB, Bool.and_eq_true, Bool.or_eq_true, decide_eq_true_eq] at hB
    exact sd_lstore X hd hn hB.1 hB.2 hK h
  | istore_n k =>
    obtain ⟨hd, hn, hB⟩ := okE_inv rfl hok
    simp only [okB, Bool.and_eq_true, Bool.or_eq_true, decide_eq_true_eq] at hB
    exact sd_istore_n X hd hn hB.1 hB.2 hK h
  | astore_n k =>
    obtain ⟨hd, hn, hB⟩ := okE_inv rfl hok
    simp only [okB, Bool.and_eq_true, Bool.or_eq_true, decide_eq_true_eq] at hB
    exact sd_astore_n X hd hn hB.1 hB.2 hK h
  | lstore_n k =>
    obtain ⟨hd, hn, hB⟩ := okE_inv rfl hok
    simp only [okB, Bool.and_eq_true, Bool.or_eq_true, decide_eq_true_eq] at hB
    exact sd_lstore_n X hd hn hB.1 hB.2 hK h
  | iinc k q =>
    obtain ⟨hd, hn, hB⟩ := okE_inv rfl hok
    simp only [okB, Bool.and_eq_true, Bool.or_eq_true, decide_eq_true_eq] at hB
    exact sd_iinc X hd hn hB.1.1 hB.1.2 hB.2 hK h
  | goto off =>
    obtain ⟨hd, hn, hB⟩ := okE_inv rfl hok
    simp only [okB, Bool.and_eq_true, Bool.or_eq_true, decide_eq_true_eq] at hB
    exact sd_goto X hd hn hB hK h
  | ifCond q off =>
    obtain ⟨hd, hn, hB⟩ := okE_inv rfl hok
    simp only [okB, Bool.and_eq_true, Bool.or_eq_true, decide_eq_true_eq] at hB
    exact sd_ifCond X hd hn hB hK h
  | if_icmp q off =>
    obtain ⟨hd, hn, hB⟩ := okE_inv rfl hok
    simp only [okB, Bool.and_eq_true, Bool.or_eq_true, decide_eq_true_eq] at hB
    exact sd_if_icmp X hd hn hB hK h
  | ifnull off =>
    obtain ⟨hd, hn, hB⟩ := okE_inv rfl hok
    simp only [okB, Bool.and_eq_true, Bool.or_eq_true, decide_eq_true_eq] at hB
    exact sd_ifnull X hd hn hB hK h
  | getfield k =>
    obtain ⟨hd, hn, hB⟩ := okE_inv rfl hok
    exact sd_getfield X hd hn hB hK h
  | putfield k =>
    obtain ⟨hd, hn, hB⟩ := okE_inv rfl hok
    simp only [okB, Bool.and_eq_true, Bool.or_eq_true, decide_eq_true_eq] at hB
    exact sd_putfield X hd hn hB.1 hB.2 hK h
  | getstatic k =>
    obtain ⟨hd, hn, hB⟩ := okE_inv rfl hok
    simp only [okB, Bool.and_eq_true, Bool.or_eq_true, decide_eq_true_eq] at hB
    exact sd_getstatic X hd hn hB.1 hB.2 hK h
  | invokevirtual k =>
    obtain ⟨hd, hn, hB⟩ := okE_inv rfl hok
    simp only [okB, Bool.and_eq_true, decide_eq_true_eq, Bool.not_eq_true'] at hB
    exact sd_virtual X hd hn hB.1.1.1 hB.1.1.2 hB.1.2 hB.2 hK h
  | invokestatic k =>
    obtain ⟨hd, hn, hB⟩ := okE_inv rfl hok
    unfold okB at hB
    unfold stepI at h
    simp only [] at hB h
    by_cases h1 : a = 1000
    · rw [if_pos h1] at hB h
      simp only [Bool.and_eq_true, decide_eq_true_eq] at hB
      exact sd_max X hd hn (lk_in hB.1.1) hB.1.2 hB.2 hK h
    · rw [if_neg h1] at hB h
      by_cases h2 : a = 1001
      · rw [if_pos h2] at hB h
        simp only [Bool.and_eq_true, decide_eq_true_eq] at hB
        exact sd_min X hd hn (lk_in hB.1.1) hB.1.2 hB.2 hK h
      · rw [if_neg h2] at hB h
        by_cases h3 : a = 1002
        · rw [if_pos h3] at hB h
          simp only [Bool.and_eq_true, decide_eq_true_eq] at hB
          exact sd_copy X hd hn (lk_in hB.1.1) hB.1.2 hB.2 hK h
        · rw [if_neg h3] at hB h
          simp only [Bool.and_eq_true] at hB
          exact sd_static X hd hn hB.1 hB.2 hK h
  | ireturn => exact hRet (by simp) h
  | lreturn => exact hRet (by simp) h
  | areturn => exact hRet (by simp) h
  | return_ => exact hRet (by simp) h
  | tableswitch d lo hi offs =>
    unfold okE okB at hok
    simp only [Bool.and_eq_true, decide_eq_true_eq] at hok
    obtain ⟨h1, ⟨⟨h2, h3⟩, h4⟩, h5⟩ := hok
    exact sd_tableswitch X h1 h2 h3 (fun o ho => by have := Array.all_eq_true_iff_forall_mem.mp h4 o ho; simpa using this) h5 hK h
  | _ => exact False.elim h

end SND4
abbrev tE : Type := List (Option (Instr × E5))
def tat (T : tE) (pc : Nat) : Option (Instr × E5) := (T[pc]?).join
def okT (a : Nat) (T : tE) : Bool := T.zipIdx.all fun q => match q.1 with
  | some x => okE (mY a).cls (mB a) (mT a) (mL a) (mR a).frames (mR a).locals q.2 x
  | none => true

