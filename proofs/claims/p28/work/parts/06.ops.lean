/-! EACH INSTRUCTION IS SOUND (laid by wip/p28/tools/gen06.py) -/
theorem ldI_inv {o : Option AV} {k : Int → Prop} (h : ldI o k) : ∃ x, o = some (.inl x) ∧ k x := by
  unfold ldI at h
  split at h
  · exact ⟨_, rfl, h⟩
  · exact h.elim
theorem ldR_inv {o : Option AV} {k : AV → Prop} (h : ldR o k) : (∃ r, o = some (.inr (.ref r)) ∧ k (.inr (.ref r))) ∨ (o = some (.inr .null) ∧ k (.inr .null)) := by
  unfold ldR at h
  split at h
  · exact Or.inl ⟨_, rfl, h⟩
  · exact Or.inr ⟨rfl, h⟩
  · exact h.elim
theorem ldL_inv {o : Option AV} {k : Int64 → Prop} (h : ldL o k) : ∃ x, o = some (.inr (.long x)) ∧ k x := by
  unfold ldL at h
  split at h
  · exact ⟨_, rfl, h⟩
  · exact h.elim
theorem un_inv {st : List AV} {k : Int → List AV → Prop} (h : un st k) : ∃ x t, st = .inl x :: t ∧ k x t := by
  unfold un at h
  split at h
  · exact ⟨_, _, rfl, h⟩
  · exact h.elim
theorem bin_inv {st : List AV} {k : Int → Int → List AV → Prop} (h : bin st k) : ∃ x y t, st = .inl y :: .inl x :: t ∧ k x y t := by
  unfold bin at h
  split at h
  · exact ⟨_, _, _, rfl, h⟩
  · exact h.elim
theorem unR_inv {st : List AV} {k : Nat → List AV → Prop} (h : unR st k) : ∃ x t, st = .inr (.ref x) :: t ∧ k x t := by
  unfold unR at h
  split at h
  · exact ⟨_, _, rfl, h⟩
  · exact h.elim
theorem unL_inv {st : List AV} {k : Int64 → List AV → Prop} (h : unL st k) : ∃ x t, st = .inr (.long x) :: t ∧ k x t := by
  unfold unL at h
  split at h
  · exact ⟨_, _, rfl, h⟩
  · exact h.elim
theorem binL_inv {st : List AV} {k : Int64 → Int64 → List AV → Prop} (h : binL st k) : ∃ x y t, st = .inr (.long y) :: .inr (.long x) :: t ∧ k x y t := by
  unfold binL at h
  split at h
  · exact ⟨_, _, _, rfl, h⟩
  · exact h.elim
theorem unA_inv {st : List AV} {k : AV → List AV → Prop} (h : unA st k) : (∃ x t, st = .inr (.ref x) :: t ∧ k (.inr (.ref x)) t) ∨ (∃ t, st = .inr .null :: t ∧ k (.inr .null) t) := by
  unfold unA at h
  split at h
  · exact Or.inl ⟨_, _, rfl, h⟩
  · exact Or.inr ⟨_, rfl, h⟩
  · exact h.elim
theorem any1_inv {st : List AV} {k : AV → List AV → Prop} (h : any1 st k) : ∃ v t, st = v :: t ∧ av2 v = false ∧ k v t := by
  unfold any1 at h
  split at h
  · exact ⟨_, _, rfl, h⟩
  · exact h.elim
theorem gfld_inv {sh : Shp} {ci f : Nat} {kI : Prop} {kR : Nat → Prop} (h : gfld sh ci f kI kR) : ∃ fs, sh = .inl (ci, fs) ∧ ((fs[f]? = some none ∧ kI) ∨ ∃ r, fs[f]? = some (some r) ∧ kR r) := by
  unfold gfld at h
  split at h
  · rename_i c fs
    obtain ⟨rfl, h⟩ := h
    refine ⟨fs, rfl, ?_⟩
    split at h
    · rename_i e; exact Or.inl ⟨e, h⟩
    · rename_i r e; exact Or.inr ⟨r, e, h⟩
    · exact h.elim
  · exact h.elim
theorem pfld_inv {sh : Shp} {ci f : Nat} {k : Prop} (h : pfld sh ci f k) : ∃ fs, sh = .inl (ci, fs) ∧ fs[f]? = some none ∧ k := by
  unfold pfld at h
  split at h
  · rename_i c fs
    obtain ⟨rfl, h⟩ := h
    exact ⟨fs, rfl, h⟩
  · exact h.elim
theorem arrL_inv {sh : Shp} {k : Nat → Nat → Prop} (h : arrL sh k) : ∃ d n, sh = .inr (d, n) ∧ k d n := by
  unfold arrL at h
  split at h
  · exact ⟨_, _, rfl, h⟩
  · exact h.elim
theorem shp_in {k : Nat} (h : shp k ≠ .inr (3, 7)) : inC k := Classical.byContradiction fun z => h (shp_out z)
theorem wf_c {v : AV} {st : List AV} (h1 : wfv v) (h2 : ∀ v ∈ st, wfv v) : ∀ w ∈ v :: st, wfv w := fun w hw => (List.mem_cons.mp hw).elim (fun e => e ▸ h1) (h2 w)
theorem wf_t {v : AV} {st : List AV} (h : ∀ w ∈ v :: st, wfv w) : ∀ w ∈ st, wfv w := fun w hw => h w (List.mem_cons_of_mem _ hw)
theorem wf_h {v : AV} {st : List AV} (h : ∀ w ∈ v :: st, wfv w) : wfv v := h v List.mem_cons_self
theorem uws_ok : (List.range 8).all (fun b => match vwCl[b]? with | some (C, T, N) => (u_ws C T N).all (fun w => decide (w ∈ lw_tbl) && goodWord w) | none => true) = true := by decide +kernel
theorem uws_in {b : Nat} {C : String} {T : u_T} {N : Nat} (h : vwCl[b]? = some (C, T, N)) : ∀ w ∈ u_ws C T N, w ∈ lw_g := by
  intro w hw
  have hb : b < 8 := (List.getElem?_eq_some_iff.mp h).1
  have h1 := List.all_eq_true.mp uws_ok b (List.mem_range.mpr hb)
  rw [h] at h1
  have h2 := List.all_eq_true.mp h1 w hw
  simp only [Bool.and_eq_true, decide_eq_true_eq] at h2
  exact List.mem_filter.mpr h2
theorem ty_ok : ∀ b, b < 8 → ∃ ty : Nat → FieldType, ∀ (C : String) (T : u_T) (N : Nat), vwCl[b]? = some (C, T, N) → (∀ k, k < N → parseFieldDescriptor (T k).2.2.1 = some (ty k)) ∧ ∀ a, a < N → ∀ b, b < N → a ≠ b → (T a).2.1 ≠ (T b).2.1 := by
  intro b hb
  rcases (show b = 0 ∨ b = 1 ∨ b = 2 ∨ b = 3 ∨ b = 4 ∨ b = 5 ∨ b = 6 ∨ b = 7 by omega) with h | h | h | h | h | h | h | h <;> subst h

  · exact ⟨tyX0, fun C T N h => by cases h; exact ⟨tyX0_ok, nmX0⟩⟩
  · exact ⟨tyX1, fun C T N h => by cases h; exact ⟨tyX1_ok, nmX1⟩⟩
  · exact ⟨tyX2, fun C T N h => by cases h; exact ⟨tyX2_ok, nmX2⟩⟩
  · exact ⟨tyX3, fun C T N h => by cases h; exact ⟨tyX3_ok, nmX3⟩⟩
  · exact ⟨tyX4, fun C T N h => by cases h; exact ⟨tyX4_ok, nmX4⟩⟩
  · exact ⟨tyX5, fun C T N h => by cases h; exact ⟨tyX5_ok, nmX5⟩⟩
  · exact ⟨tyX6, fun C T N h => by cases h; exact ⟨tyX6_ok, nmX6⟩⟩
  · exact ⟨tyX7, fun C T N h => by cases h; exact ⟨tyX7_ok, nmX7⟩⟩
section SND
variable {p : Program} {l : Launch} {e : Env} {R : Room} {s : State} {m : MethodId} {args : Array Value} {below : List Frame} {meth : Method} {c : Code} {cells slots : Nat} {QW : State → Prop} {cc : ByteArray} {own : String} {nL : Nat} {ret : Option FieldType} {ad : Nat → Nat} {D : va_G} {cI cC cG : ClassId} {A0 : Nat → Prop}

theorem sd_iconst (X : aX p s m args meth c R cells slots cc own nL ad D cI cC cG A0) {K : aK} {Ret : Option AV → Mem → Prop} {n a b : Nat} {z : Int} {pc : Nat} {L : Lc} {st : List AV} {μ : Mem} {k : Int} (hd : decode cc pc = .ok (.iconst k, 1)) (hn : n = pc + 1) (hv : z = k) (hz : inR z) (hK : ∀ pc L st μ, K pc L st μ → aG p l e R s m args below meth c cells slots QW nL ad D cI cC cG A0 pc L st μ) (h : stepI Ret (.iconst k) n a b z L st μ K) : aG p l e R s m args below meth c cells slots QW nL ad D cI cC cG A0 pc L st μ := by
  intro H locs ls hP hS hL hR hst
  obtain ⟨⟨hx, hb, hml, hown, hts⟩, hKn, hSt, hNs, hA, hI, hc, hs⟩ := X
  subst hn
  subst hv
  exact lv_iconst hx hb hd rfl (hK _ _ _ _ h H locs ls hP hS hL hR (wf_c hz hst))

theorem sd_bipush (X : aX p s m args meth c R cells slots cc own nL ad D cI cC cG A0) {K : aK} {Ret : Option AV → Mem → Prop} {n a b : Nat} {z : Int} {pc : Nat} {L : Lc} {st : List AV} {μ : Mem} {k : Int} (hd : decode cc pc = .ok (.bipush k, 2)) (hn : n = pc + 2) (hv : (Int8.ofInt k).toInt32 = i32 z) (hz : inR z) (hK : ∀ pc L st μ, K pc L st μ → aG p l e R s m args below meth c cells slots QW nL ad D cI cC cG A0 pc L st μ) (h : stepI Ret (.bipush k) n a b z L st μ K) : aG p l e R s m args below meth c cells slots QW nL ad D cI cC cG A0 pc L st μ := by
  intro H locs ls hP hS hL hR hst
  obtain ⟨⟨hx, hb, hml, hown, hts⟩, hKn, hSt, hNs, hA, hI, hc, hs⟩ := X
  subst hn
  exact lv_bipush hx hb hd hv (hK _ _ _ _ h H locs ls hP hS hL hR (wf_c hz hst))

theorem sd_sipush (X : aX p s m args meth c R cells slots cc own nL ad D cI cC cG A0) {K : aK} {Ret : Option AV → Mem → Prop} {n a b : Nat} {z : Int} {pc : Nat} {L : Lc} {st : List AV} {μ : Mem} {k : Int} (hd : decode cc pc = .ok (.sipush k, 3)) (hn : n = pc + 3) (hv : (Int16.ofInt k).toInt32 = i32 z) (hz : inR z) (hK : ∀ pc L st μ, K pc L st μ → aG p l e R s m args below meth c cells slots QW nL ad D cI cC cG A0 pc L st μ) (h : stepI Ret (.sipush k) n a b z L st μ K) : aG p l e R s m args below meth c cells slots QW nL ad D cI cC cG A0 pc L st μ := by
  intro H locs ls hP hS hL hR hst
  obtain ⟨⟨hx, hb, hml, hown, hts⟩, hKn, hSt, hNs, hA, hI, hc, hs⟩ := X
  subst hn
  exact lv_sipush hx hb hd hv (hK _ _ _ _ h H locs ls hP hS hL hR (wf_c hz hst))

theorem sd_ldc (X : aX p s m args meth c R cells slots cc own nL ad D cI cC cG A0) {K : aK} {Ret : Option AV → Mem → Prop} {n a b : Nat} {z : Int} {pc : Nat} {L : Lc} {st : List AV} {μ : Mem} {k : Nat} (hd : decode cc pc = .ok (.ldc k, 2)) (hn : n = pc + 2) (hw : Cond.constant own k (i32 z) ∈ lw_g) (hz : inR z) (hK : ∀ pc L st μ, K pc L st μ → aG p l e R s m args below meth c cells slots QW nL ad D cI cC cG A0 pc L st μ) (h : stepI Ret (.ldc k) n a b z L st μ K) : aG p l e R s m args below meth c cells slots QW nL ad D cI cC cG A0 pc L st μ := by
  intro H locs ls hP hS hL hR hst
  obtain ⟨⟨hx, hb, hml, hown, hts⟩, hKn, hSt, hNs, hA, hI, hc, hs⟩ := X
  subst hn
  exact lv_ldc hx hb hown (hts _ hw) hd (hK _ _ _ _ h H locs ls hP hS hL hR (wf_c hz hst))

theorem sd_ldc2 (X : aX p s m args meth c R cells slots cc own nL ad D cI cC cG A0) {K : aK} {Ret : Option AV → Mem → Prop} {n a b : Nat} {z : Int} {pc : Nat} {L : Lc} {st : List AV} {μ : Mem} {k : Nat} (hd : decode cc pc = .ok (.ldc2_w k, 3)) (hn : n = pc + 3) (hw : Cond.constantLong own k (Int64.ofInt z) ∈ lw_g) (hK : ∀ pc L st μ, K pc L st μ → aG p l e R s m args below meth c cells slots QW nL ad D cI cC cG A0 pc L st μ) (h : stepI Ret (.ldc2_w k) n a b z L st μ K) : aG p l e R s m args below meth c cells slots QW nL ad D cI cC cG A0 pc L st μ := by
  intro H locs ls hP hS hL hR hst
  obtain ⟨⟨hx, hb, hml, hown, hts⟩, hKn, hSt, hNs, hA, hI, hc, hs⟩ := X
  subst hn
  exact lv_ldc2 hx hb hown (hts _ hw) hd (hK _ _ _ _ h H locs ls hP hS hL hR (wf_c trivial hst))

theorem sd_null (X : aX p s m args meth c R cells slots cc own nL ad D cI cC cG A0) {K : aK} {Ret : Option AV → Mem → Prop} {n a b : Nat} {z : Int} {pc : Nat} {L : Lc} {st : List AV} {μ : Mem} (hd : decode cc pc = .ok (.aconst_null, 1)) (hn : n = pc + 1) (hK : ∀ pc L st μ, K pc L st μ → aG p l e R s m args below meth c cells slots QW nL ad D cI cC cG A0 pc L st μ) (h : stepI Ret (.aconst_null) n a b z L st μ K) : aG p l e R s m args below meth c cells slots QW nL ad D cI cC cG A0 pc L st μ := by
  intro H locs ls hP hS hL hR hst
  obtain ⟨⟨hx, hb, hml, hown, hts⟩, hKn, hSt, hNs, hA, hI, hc, hs⟩ := X
  subst hn
  exact lv_null hx hb hd (hK _ _ _ _ h H locs ls hP hS hL hR (wf_c trivial hst))

theorem sd_iload (X : aX p s m args meth c R cells slots cc own nL ad D cI cC cG A0) {K : aK} {Ret : Option AV → Mem → Prop} {n a b : Nat} {z : Int} {pc : Nat} {L : Lc} {st : List AV} {μ : Mem} {k : Nat} (hd : decode cc pc = .ok (.iload k, 2)) (hn : n = pc + 2) (hk : k = a) (hK : ∀ pc L st μ, K pc L st μ → aG p l e R s m args below meth c cells slots QW nL ad D cI cC cG A0 pc L st μ) (h : stepI Ret (.iload k) n a b z L st μ K) : aG p l e R s m args below meth c cells slots QW nL ad D cI cC cG A0 pc L st μ := by
  intro H locs ls hP hS hL hR hst
  obtain ⟨⟨hx, hb, hml, hown, hts⟩, hKn, hSt, hNs, hA, hI, hc, hs⟩ := X
  subst hn
  subst hk
  obtain ⟨x, hg, h⟩ := ldI_inv h
  have hg' := hL.2.2 _ _ hg
  exact lv_iload hx hb hd hg'.1 (hK _ _ _ _ h H locs ls hP hS hL hR (wf_c hg'.2 hst))

theorem sd_iload_n (X : aX p s m args meth c R cells slots cc own nL ad D cI cC cG A0) {K : aK} {Ret : Option AV → Mem → Prop} {n a b : Nat} {z : Int} {pc : Nat} {L : Lc} {st : List AV} {μ : Mem} {k : Fin 4} (hd : decode cc pc = .ok (.iload_n k, 1)) (hn : n = pc + 1) (hk : (k : Nat) = a) (hK : ∀ pc L st μ, K pc L st μ → aG p l e R s m args below meth c cells slots QW nL ad D cI cC cG A0 pc L st μ) (h : stepI Ret (.iload_n k) n a b z L st μ K) : aG p l e R s m args below meth c cells slots QW nL ad D cI cC cG A0 pc L st μ := by
  intro H locs ls hP hS hL hR hst
  obtain ⟨⟨hx, hb, hml, hown, hts⟩, hKn, hSt, hNs, hA, hI, hc, hs⟩ := X
  subst hn
  obtain ⟨x, hg, h⟩ := ldI_inv h
  have hg' := hL.2.2 _ _ hg
  exact lv_iload_n hx hb hd hk hg'.1 (hK _ _ _ _ h H locs ls hP hS hL hR (wf_c hg'.2 hst))

theorem sd_aload (X : aX p s m args meth c R cells slots cc own nL ad D cI cC cG A0) {K : aK} {Ret : Option AV → Mem → Prop} {n a b : Nat} {z : Int} {pc : Nat} {L : Lc} {st : List AV} {μ : Mem} {k : Nat} (hd : decode cc pc = .ok (.aload k, 2)) (hn : n = pc + 2) (hk : k = a) (hK : ∀ pc L st μ, K pc L st μ → aG p l e R s m args below meth c cells slots QW nL ad D cI cC cG A0 pc L st μ) (h : stepI Ret (.aload k) n a b z L st μ K) : aG p l e R s m args below meth c cells slots QW nL ad D cI cC cG A0 pc L st μ := by
  intro H locs ls hP hS hL hR hst
  obtain ⟨⟨hx, hb, hml, hown, hts⟩, hKn, hSt, hNs, hA, hI, hc, hs⟩ := X
  subst hn
  subst hk
  rcases ldR_inv (show ldR (lget L _) (fun v => K _ L (v :: st) μ) from h) with ⟨r, hg, h⟩ | ⟨hg, h⟩
  · exact lv_aload hx hb hd (hL.2.2 _ _ hg).1 (hK _ _ _ _ h H locs ls hP hS hL hR (wf_c trivial hst))
  · exact lv_aloadN hx hb hd (hL.2.2 _ _ hg).1 (hK _ _ _ _ h H locs ls hP hS hL hR (wf_c trivial hst))

theorem sd_aload_n (X : aX p s m args meth c R cells slots cc own nL ad D cI cC cG A0) {K : aK} {Ret : Option AV → Mem → Prop} {n a b : Nat} {z : Int} {pc : Nat} {L : Lc} {st : List AV} {μ : Mem} {k : Fin 4} (hd : decode cc pc = .ok (.aload_n k, 1)) (hn : n = pc + 1) (hk : (k : Nat) = a) (hK : ∀ pc L st μ, K pc L st μ → aG p l e R s m args below meth c cells slots QW nL ad D cI cC cG A0 pc L st μ) (h : stepI Ret (.aload_n k) n a b z L st μ K) : aG p l e R s m args below meth c cells slots QW nL ad D cI cC cG A0 pc L st μ := by
  intro H locs ls hP hS hL hR hst
  obtain ⟨⟨hx, hb, hml, hown, hts⟩, hKn, hSt, hNs, hA, hI, hc, hs⟩ := X
  subst hn
  rcases ldR_inv (show ldR (lget L _) (fun v => K _ L (v :: st) μ) from h) with ⟨r, hg, h⟩ | ⟨hg, h⟩
  · exact lv_aload_n hx hb hd hk (hL.2.2 _ _ hg).1 (hK _ _ _ _ h H locs ls hP hS hL hR (wf_c trivial hst))
  · exact lv_aload_nN hx hb hd hk (hL.2.2 _ _ hg).1 (hK _ _ _ _ h H locs ls hP hS hL hR (wf_c trivial hst))

theorem sd_lload (X : aX p s m args meth c R cells slots cc own nL ad D cI cC cG A0) {K : aK} {Ret : Option AV → Mem → Prop} {n a b : Nat} {z : Int} {pc : Nat} {L : Lc} {st : List AV} {μ : Mem} {k : Nat} (hd : decode cc pc = .ok (.lload k, 2)) (hn : n = pc + 2) (hk : k = a) (hK : ∀ pc L st μ, K pc L st μ → aG p l e R s m args below meth c cells slots QW nL ad D cI cC cG A0 pc L st μ) (h : stepI Ret (.lload k) n a b z L st μ K) : aG p l e R s m args below meth c cells slots QW nL ad D cI cC cG A0 pc L st μ := by
  intro H locs ls hP hS hL hR hst
  obtain ⟨⟨hx, hb, hml, hown, hts⟩, hKn, hSt, hNs, hA, hI, hc, hs⟩ := X
  subst hn
  subst hk
  obtain ⟨x, hg, h⟩ := ldL_inv h
  exact lv_lload hx hb hd (hL.2.2 _ _ hg).1 (hK _ _ _ _ h H locs ls hP hS hL hR (wf_c trivial hst))

theorem sd_lload_n (X : aX p s m args meth c R cells slots cc own nL ad D cI cC cG A0) {K : aK} {Ret : Option AV → Mem → Prop} {n a b : Nat} {z : Int} {pc : Nat} {L : Lc} {st : List AV} {μ : Mem} {k : Fin 4} (hd : decode cc pc = .ok (.lload_n k, 1)) (hn : n = pc + 1) (hk : (k : Nat) = a) (hK : ∀ pc L st μ, K pc L st μ → aG p l e R s m args below meth c cells slots QW nL ad D cI cC cG A0 pc L st μ) (h : stepI Ret (.lload_n k) n a b z L st μ K) : aG p l e R s m args below meth c cells slots QW nL ad D cI cC cG A0 pc L st μ := by
  intro H locs ls hP hS hL hR hst
  obtain ⟨⟨hx, hb, hml, hown, hts⟩, hKn, hSt, hNs, hA, hI, hc, hs⟩ := X
  subst hn
  obtain ⟨x, hg, h⟩ := ldL_inv h
  exact lv_lload_n hx hb hd hk (hL.2.2 _ _ hg).1 (hK _ _ _ _ h H locs ls hP hS hL hR (wf_c trivial hst))

theorem sd_istore (X : aX p s m args meth c R cells slots cc own nL ad D cI cC cG A0) {K : aK} {Ret : Option AV → Mem → Prop} {n a b : Nat} {z : Int} {pc : Nat} {L : Lc} {st : List AV} {μ : Mem} {k : Nat} (hd : decode cc pc = .ok (.istore k, 2)) (hn : n = pc + 2) (hk : k = a) (ha : a < nL) (hK : ∀ pc L st μ, K pc L st μ → aG p l e R s m args below meth c cells slots QW nL ad D cI cC cG A0 pc L st μ) (h : stepI Ret (.istore k) n a b z L st μ K) : aG p l e R s m args below meth c cells slots QW nL ad D cI cC cG A0 pc L st μ := by
  intro H locs ls hP hS hL hR hst
  obtain ⟨⟨hx, hb, hml, hown, hts⟩, hKn, hSt, hNs, hA, hI, hc, hs⟩ := X
  subst hn
  subst hk
  obtain ⟨x, t, rfl, hn, h⟩ := un_inv h
  exact lv_istore hx hb hd hL.has ha rfl (fun ls' hl' => hK _ _ _ _ h H locs ls' hP hS (hL.set hn (wf_h hst) rfl hl') hR (wf_t hst))

theorem sd_istore_n (X : aX p s m args meth c R cells slots cc own nL ad D cI cC cG A0) {K : aK} {Ret : Option AV → Mem → Prop} {n a b : Nat} {z : Int} {pc : Nat} {L : Lc} {st : List AV} {μ : Mem} {k : Fin 4} (hd : decode cc pc = .ok (.istore_n k, 1)) (hn : n = pc + 1) (hk : (k : Nat) = a) (ha : a < nL) (hK : ∀ pc L st μ, K pc L st μ → aG p l e R s m args below meth c cells slots QW nL ad D cI cC cG A0 pc L st μ) (h : stepI Ret (.istore_n k) n a b z L st μ K) : aG p l e R s m args below meth c cells slots QW nL ad D cI cC cG A0 pc L st μ := by
  intro H locs ls hP hS hL hR hst
  obtain ⟨⟨hx, hb, hml, hown, hts⟩, hKn, hSt, hNs, hA, hI, hc, hs⟩ := X
  subst hn
  obtain ⟨x, t, rfl, hn, h⟩ := un_inv h
  exact lv_istore_n hx hb hd hk hL.has ha rfl (fun ls' hl' => hK _ _ _ _ h H locs ls' hP hS (hL.set hn (wf_h hst) rfl hl') hR (wf_t hst))

theorem sd_astore (X : aX p s m args meth c R cells slots cc own nL ad D cI cC cG A0) {K : aK} {Ret : Option AV → Mem → Prop} {n a b : Nat} {z : Int} {pc : Nat} {L : Lc} {st : List AV} {μ : Mem} {k : Nat} (hd : decode cc pc = .ok (.astore k, 2)) (hn : n = pc + 2) (hk : k = a) (ha : a < nL) (hK : ∀ pc L st μ, K pc L st μ → aG p l e R s m args below meth c cells slots QW nL ad D cI cC cG A0 pc L st μ) (h : stepI Ret (.astore k) n a b z L st μ K) : aG p l e R s m args below meth c cells slots QW nL ad D cI cC cG A0 pc L st μ := by
  intro H locs ls hP hS hL hR hst
  obtain ⟨⟨hx, hb, hml, hown, hts⟩, hKn, hSt, hNs, hA, hI, hc, hs⟩ := X
  subst hn
  subst hk
  rcases unA_inv (show unA st (fun x st => nlg L _ = true ∧ K _ (lset L _ x) st μ) from h) with ⟨x, t, rfl, hn, h⟩ | ⟨t, rfl, hn, h⟩
  · exact lv_astore hx hb hd hL.has ha rfl (fun ls' hl' => hK _ _ _ _ h H locs ls' hP hS (hL.set hn trivial rfl hl') hR (wf_t hst))
  · exact lv_astoreN hx hb hd hL.has ha rfl (fun ls' hl' => hK _ _ _ _ h H locs ls' hP hS (hL.set hn trivial rfl hl') hR (wf_t hst))

theorem sd_astore_n (X : aX p s m args meth c R cells slots cc own nL ad D cI cC cG A0) {K : aK} {Ret : Option AV → Mem → Prop} {n a b : Nat} {z : Int} {pc : Nat} {L : Lc} {st : List AV} {μ : Mem} {k : Fin 4} (hd : decode cc pc = .ok (.astore_n k, 1)) (hn : n = pc + 1) (hk : (k : Nat) = a) (ha : a < nL) (hK : ∀ pc L st μ, K pc L st μ → aG p l e R s m args below meth c cells slots QW nL ad D cI cC cG A0 pc L st μ) (h : stepI Ret (.astore_n k) n a b z L st μ K) : aG p l e R s m args below meth c cells slots QW nL ad D cI cC cG A0 pc L st μ := by
  intro H locs ls hP hS hL hR hst
  obtain ⟨⟨hx, hb, hml, hown, hts⟩, hKn, hSt, hNs, hA, hI, hc, hs⟩ := X
  subst hn
  rcases unA_inv (show unA st (fun x st => nlg L _ = true ∧ K _ (lset L _ x) st μ) from h) with ⟨x, t, rfl, hn, h⟩ | ⟨t, rfl, hn, h⟩
  · exact lv_astore_n hx hb hd hk hL.has ha rfl (fun ls' hl' => hK _ _ _ _ h H locs ls' hP hS (hL.set hn trivial rfl hl') hR (wf_t hst))
  · exact lv_astore_nN hx hb hd hk hL.has ha rfl (fun ls' hl' => hK _ _ _ _ h H locs ls' hP hS (hL.set hn trivial rfl hl') hR (wf_t hst))

theorem sd_lstore (X : aX p s m args meth c R cells slots cc own nL ad D cI cC cG A0) {K : aK} {Ret : Option AV → Mem → Prop} {n a b : Nat} {z : Int} {pc : Nat} {L : Lc} {st : List AV} {μ : Mem} {k : Nat} (hd : decode cc pc = .ok (.lstore k, 2)) (hn : n = pc + 2) (hk : k = a) (ha : a + 1 < nL) (hK : ∀ pc L st μ, K pc L st μ → aG p l e R s m args below meth c cells slots QW nL ad D cI cC cG A0 pc L st μ) (h : stepI Ret (.lstore k) n a b z L st μ K) : aG p l e R s m args below meth c cells slots QW nL ad D cI cC cG A0 pc L st μ := by
  intro H locs ls hP hS hL hR hst
  obtain ⟨⟨hx, hb, hml, hown, hts⟩, hKn, hSt, hNs, hA, hI, hc, hs⟩ := X
  subst hn
  subst hk
  obtain ⟨x, t, rfl, hn, h⟩ := unL_inv h
  exact lv_lstore hx hb hd hL.has ha rfl (fun ls' hl' => hK _ _ _ _ h H locs ls' hP hS (hL.set2 hn trivial rfl hl') hR (wf_t hst))

theorem sd_lstore_n (X : aX p s m args meth c R cells slots cc own nL ad D cI cC cG A0) {K : aK} {Ret : Option AV → Mem → Prop} {n a b : Nat} {z : Int} {pc : Nat} {L : Lc} {st : List AV} {μ : Mem} {k : Fin 4} (hd : decode cc pc = .ok (.lstore_n k, 1)) (hn : n = pc + 1) (hk : (k : Nat) = a) (ha : a + 1 < nL) (hK : ∀ pc L st μ, K pc L st μ → aG p l e R s m args below meth c cells slots QW nL ad D cI cC cG A0 pc L st μ) (h : stepI Ret (.lstore_n k) n a b z L st μ K) : aG p l e R s m args below meth c cells slots QW nL ad D cI cC cG A0 pc L st μ := by
  intro H locs ls hP hS hL hR hst
  obtain ⟨⟨hx, hb, hml, hown, hts⟩, hKn, hSt, hNs, hA, hI, hc, hs⟩ := X
  subst hn
  obtain ⟨x, t, rfl, hn, h⟩ := unL_inv h
  exact lv_lstore_n hx hb hd hk hL.has ha rfl (fun ls' hl' => hK _ _ _ _ h H locs ls' hP hS (hL.set2 hn trivial rfl hl') hR (wf_t hst))

theorem sd_iinc (X : aX p s m args meth c R cells slots cc own nL ad D cI cC cG A0) {K : aK} {Ret : Option AV → Mem → Prop} {n a b : Nat} {z : Int} {pc : Nat} {L : Lc} {st : List AV} {μ : Mem} {k : Nat} {q : Int} (hd : decode cc pc = .ok (.iinc k q, 3)) (hn : n = pc + 3) (hk : k = a) (hz : z = q) (ha : a < nL) (hK : ∀ pc L st μ, K pc L st μ → aG p l e R s m args below meth c cells slots QW nL ad D cI cC cG A0 pc L st μ) (h : stepI Ret (.iinc k q) n a b z L st μ K) : aG p l e R s m args below meth c cells slots QW nL ad D cI cC cG A0 pc L st μ := by
  intro H locs ls hP hS hL hR hst
  obtain ⟨⟨hx, hb, hml, hown, hts⟩, hKn, hSt, hNs, hA, hI, hc, hs⟩ := X
  subst hn
  subst hk; subst hz
  obtain ⟨x, hg, hr, hn, h⟩ := ldI_inv h
  have hg' := hL.2.2 _ _ hg
  obtain ⟨j, hj⟩ := List.getElem?_of_mem (canon_in (ad := ad) (L := L) (q := (k, .int (i32 x))).mpr ⟨_, hg, rfl⟩)
  exact lv_iinc hx hb hd hL.has hj (i32_add x z) ha rfl (fun ls' hl' => hK _ _ _ _ h H locs ls' hP hS (hL.set hn hr rfl hl') hR hst)

theorem sd_dup (X : aX p s m args meth c R cells slots cc own nL ad D cI cC cG A0) {K : aK} {Ret : Option AV → Mem → Prop} {n a b : Nat} {z : Int} {pc : Nat} {L : Lc} {st : List AV} {μ : Mem} (hd : decode cc pc = .ok (.dup, 1)) (hn : n = pc + 1) (hK : ∀ pc L st μ, K pc L st μ → aG p l e R s m args below meth c cells slots QW nL ad D cI cC cG A0 pc L st μ) (h : stepI Ret (.dup) n a b z L st μ K) : aG p l e R s m args below meth c cells slots QW nL ad D cI cC cG A0 pc L st μ := by
  intro H locs ls hP hS hL hR hst
  obtain ⟨⟨hx, hb, hml, hown, hts⟩, hKn, hSt, hNs, hA, hI, hc, hs⟩ := X
  subst hn
  obtain ⟨v, t, rfl, h2, h⟩ := any1_inv h
  exact lv_dup hx hb hd (by rw [conc_cat, h2]; rfl) (hK _ _ _ _ h H locs ls hP hS hL hR (wf_c (wf_h hst) hst))

theorem sd_pop (X : aX p s m args meth c R cells slots cc own nL ad D cI cC cG A0) {K : aK} {Ret : Option AV → Mem → Prop} {n a b : Nat} {z : Int} {pc : Nat} {L : Lc} {st : List AV} {μ : Mem} (hd : decode cc pc = .ok (.pop, 1)) (hn : n = pc + 1) (hK : ∀ pc L st μ, K pc L st μ → aG p l e R s m args below meth c cells slots QW nL ad D cI cC cG A0 pc L st μ) (h : stepI Ret (.pop) n a b z L st μ K) : aG p l e R s m args below meth c cells slots QW nL ad D cI cC cG A0 pc L st μ := by
  intro H locs ls hP hS hL hR hst
  obtain ⟨⟨hx, hb, hml, hown, hts⟩, hKn, hSt, hNs, hA, hI, hc, hs⟩ := X
  subst hn
  obtain ⟨v, t, rfl, h2, h⟩ := any1_inv h
  exact lv_pop hx hb hd (by rw [conc_cat, h2]; rfl) (hK _ _ _ _ h H locs ls hP hS hL hR (wf_t hst))

theorem sd_dup2 (X : aX p s m args meth c R cells slots cc own nL ad D cI cC cG A0) {K : aK} {Ret : Option AV → Mem → Prop} {n a b : Nat} {z : Int} {pc : Nat} {L : Lc} {st : List AV} {μ : Mem} (hd : decode cc pc = .ok (.dup2, 1)) (hn : n = pc + 1) (hK : ∀ pc L st μ, K pc L st μ → aG p l e R s m args below meth c cells slots QW nL ad D cI cC cG A0 pc L st μ) (h : stepI Ret (.dup2) n a b z L st μ K) : aG p l e R s m args below meth c cells slots QW nL ad D cI cC cG A0 pc L st μ := by
  intro H locs ls hP hS hL hR hst
  obtain ⟨⟨hx, hb, hml, hown, hts⟩, hKn, hSt, hNs, hA, hI, hc, hs⟩ := X
  subst hn
  obtain ⟨v, t, rfl, h2, h⟩ := any1_inv h
  obtain ⟨w, t, rfl, h3, h⟩ := any1_inv h
  exact lv_dup2_11 hx hb hd (by rw [conc_cat, h2]; rfl) (by rw [conc_cat, h3]; rfl) (hK _ _ _ _ h H locs ls hP hS hL hR (wf_c (wf_h hst) (wf_c (wf_h (wf_t hst)) hst)))

theorem sd_iadd (X : aX p s m args meth c R cells slots cc own nL ad D cI cC cG A0) {K : aK} {Ret : Option AV → Mem → Prop} {n a b : Nat} {z : Int} {pc : Nat} {L : Lc} {st : List AV} {μ : Mem} (hd : decode cc pc = .ok (.iadd, 1)) (hn : n = pc + 1) (hK : ∀ pc L st μ, K pc L st μ → aG p l e R s m args below meth c cells slots QW nL ad D cI cC cG A0 pc L st μ) (h : stepI Ret (.iadd) n a b z L st μ K) : aG p l e R s m args below meth c cells slots QW nL ad D cI cC cG A0 pc L st μ := by
  intro H locs ls hP hS hL hR hst
  obtain ⟨⟨hx, hb, hml, hown, hts⟩, hKn, hSt, hNs, hA, hI, hc, hs⟩ := X
  subst hn
  obtain ⟨x, y, t, rfl, hr, h⟩ := bin_inv h
  refine lv_iadd hx hb hd ?_
  rw [i32_add]
  exact hK _ _ _ _ h H locs ls hP hS hL hR (wf_c hr (wf_t (wf_t hst)))

theorem sd_isub (X : aX p s m args meth c R cells slots cc own nL ad D cI cC cG A0) {K : aK} {Ret : Option AV → Mem → Prop} {n a b : Nat} {z : Int} {pc : Nat} {L : Lc} {st : List AV} {μ : Mem} (hd : decode cc pc = .ok (.isub, 1)) (hn : n = pc + 1) (hK : ∀ pc L st μ, K pc L st μ → aG p l e R s m args below meth c cells slots QW nL ad D cI cC cG A0 pc L st μ) (h : stepI Ret (.isub) n a b z L st μ K) : aG p l e R s m args below meth c cells slots QW nL ad D cI cC cG A0 pc L st μ := by
  intro H locs ls hP hS hL hR hst
  obtain ⟨⟨hx, hb, hml, hown, hts⟩, hKn, hSt, hNs, hA, hI, hc, hs⟩ := X
  subst hn
  obtain ⟨x, y, t, rfl, hr, h⟩ := bin_inv h
  refine lv_isub hx hb hd ?_
  rw [i32_sub]
  exact hK _ _ _ _ h H locs ls hP hS hL hR (wf_c hr (wf_t (wf_t hst)))

theorem sd_imul (X : aX p s m args meth c R cells slots cc own nL ad D cI cC cG A0) {K : aK} {Ret : Option AV → Mem → Prop} {n a b : Nat} {z : Int} {pc : Nat} {L : Lc} {st : List AV} {μ : Mem} (hd : decode cc pc = .ok (.imul, 1)) (hn : n = pc + 1) (hK : ∀ pc L st μ, K pc L st μ → aG p l e R s m args below meth c cells slots QW nL ad D cI cC cG A0 pc L st μ) (h : stepI Ret (.imul) n a b z L st μ K) : aG p l e R s m args below meth c cells slots QW nL ad D cI cC cG A0 pc L st μ := by
  intro H locs ls hP hS hL hR hst
  obtain ⟨⟨hx, hb, hml, hown, hts⟩, hKn, hSt, hNs, hA, hI, hc, hs⟩ := X
  subst hn
  obtain ⟨x, y, t, rfl, hr, h⟩ := bin_inv h
  refine lv_imul hx hb hd ?_
  rw [i32_mul]
  exact hK _ _ _ _ h H locs ls hP hS hL hR (wf_c hr (wf_t (wf_t hst)))

theorem sd_idiv (X : aX p s m args meth c R cells slots cc own nL ad D cI cC cG A0) {K : aK} {Ret : Option AV → Mem → Prop} {n a b : Nat} {z : Int} {pc : Nat} {L : Lc} {st : List AV} {μ : Mem} (hd : decode cc pc = .ok (.idiv, 1)) (hn : n = pc + 1) (hK : ∀ pc L st μ, K pc L st μ → aG p l e R s m args below meth c cells slots QW nL ad D cI cC cG A0 pc L st μ) (h : stepI Ret (.idiv) n a b z L st μ K) : aG p l e R s m args below meth c cells slots QW nL ad D cI cC cG A0 pc L st μ := by
  intro H locs ls hP hS hL hR hst
  obtain ⟨⟨hx, hb, hml, hown, hts⟩, hKn, hSt, hNs, hA, hI, hc, hs⟩ := X
  subst hn
  obtain ⟨x, y, t, rfl, h0, h1, h⟩ := bin_inv h
  have rx : inR x := wf_h (wf_t hst)
  have ry : inR y := wf_h hst
  refine lv_idiv hx hb hd (fun e => ?_) ?_
  · have := (i32_inj ry inR_0).mp (e.trans i32_0.symm)
    omega
  · rw [i32_div h0 rx h1 ry]
    have h2 := Int.ediv_le_self y h0
    have h3 := Int.ediv_nonneg h0 (Int.le_of_lt h1)
    exact hK _ _ _ _ h H locs ls hP hS hL hR (wf_c (show inR (x / y) by unfold inR at *; omega) (wf_t (wf_t hst)))

theorem sd_irem (X : aX p s m args meth c R cells slots cc own nL ad D cI cC cG A0) {K : aK} {Ret : Option AV → Mem → Prop} {n a b : Nat} {z : Int} {pc : Nat} {L : Lc} {st : List AV} {μ : Mem} (hd : decode cc pc = .ok (.irem, 1)) (hn : n = pc + 1) (hK : ∀ pc L st μ, K pc L st μ → aG p l e R s m args below meth c cells slots QW nL ad D cI cC cG A0 pc L st μ) (h : stepI Ret (.irem) n a b z L st μ K) : aG p l e R s m args below meth c cells slots QW nL ad D cI cC cG A0 pc L st μ := by
  intro H locs ls hP hS hL hR hst
  obtain ⟨⟨hx, hb, hml, hown, hts⟩, hKn, hSt, hNs, hA, hI, hc, hs⟩ := X
  subst hn
  obtain ⟨x, y, t, rfl, h0, h1, h⟩ := bin_inv h
  have rx : inR x := wf_h (wf_t hst)
  have ry : inR y := wf_h hst
  refine lv_irem hx hb hd (fun e => ?_) ?_
  · have := (i32_inj ry inR_0).mp (e.trans i32_0.symm)
    omega
  · rw [i32_div h0 rx h1 ry, i32_mul, i32_sub]
    have h4 : x - x / y * y = x % y := by have := Int.mul_ediv_add_emod x y; rw [Int.mul_comm] at this; omega
    rw [h4]
    have h2 := Int.emod_lt_of_pos x h1
    have h3 := Int.emod_nonneg x (show y ≠ 0 by omega)
    exact hK _ _ _ _ h H locs ls hP hS hL hR (wf_c (show inR (x % y) by unfold inR at *; omega) (wf_t (wf_t hst)))

theorem sd_ineg (X : aX p s m args meth c R cells slots cc own nL ad D cI cC cG A0) {K : aK} {Ret : Option AV → Mem → Prop} {n a b : Nat} {z : Int} {pc : Nat} {L : Lc} {st : List AV} {μ : Mem} (hd : decode cc pc = .ok (.ineg, 1)) (hn : n = pc + 1) (hK : ∀ pc L st μ, K pc L st μ → aG p l e R s m args below meth c cells slots QW nL ad D cI cC cG A0 pc L st μ) (h : stepI Ret (.ineg) n a b z L st μ K) : aG p l e R s m args below meth c cells slots QW nL ad D cI cC cG A0 pc L st μ := by
  intro H locs ls hP hS hL hR hst
  obtain ⟨⟨hx, hb, hml, hown, hts⟩, hKn, hSt, hNs, hA, hI, hc, hs⟩ := X
  subst hn
  obtain ⟨x, t, rfl, hr, h⟩ := un_inv h
  refine lv_ineg hx hb hd ?_
  rw [i32_neg]
  exact hK _ _ _ _ h H locs ls hP hS hL hR (wf_c hr (wf_t hst))

theorem sd_i2c (X : aX p s m args meth c R cells slots cc own nL ad D cI cC cG A0) {K : aK} {Ret : Option AV → Mem → Prop} {n a b : Nat} {z : Int} {pc : Nat} {L : Lc} {st : List AV} {μ : Mem} (hd : decode cc pc = .ok (.i2c, 1)) (hn : n = pc + 1) (hK : ∀ pc L st μ, K pc L st μ → aG p l e R s m args below meth c cells slots QW nL ad D cI cC cG A0 pc L st μ) (h : stepI Ret (.i2c) n a b z L st μ K) : aG p l e R s m args below meth c cells slots QW nL ad D cI cC cG A0 pc L st μ := by
  intro H locs ls hP hS hL hR hst
  obtain ⟨⟨hx, hb, hml, hown, hts⟩, hKn, hSt, hNs, hA, hI, hc, hs⟩ := X
  subst hn
  obtain ⟨x, t, rfl, h0, h1, h⟩ := un_inv h
  exact lv_i2c hx hb hd (i32_char h0 h1) (hK _ _ _ _ h H locs ls hP hS hL hR (wf_c (wf_h hst) (wf_t hst)))

theorem sd_i2l (X : aX p s m args meth c R cells slots cc own nL ad D cI cC cG A0) {K : aK} {Ret : Option AV → Mem → Prop} {n a b : Nat} {z : Int} {pc : Nat} {L : Lc} {st : List AV} {μ : Mem} (hd : decode cc pc = .ok (.i2l, 1)) (hn : n = pc + 1) (hK : ∀ pc L st μ, K pc L st μ → aG p l e R s m args below meth c cells slots QW nL ad D cI cC cG A0 pc L st μ) (h : stepI Ret (.i2l) n a b z L st μ K) : aG p l e R s m args below meth c cells slots QW nL ad D cI cC cG A0 pc L st μ := by
  intro H locs ls hP hS hL hR hst
  obtain ⟨⟨hx, hb, hml, hown, hts⟩, hKn, hSt, hNs, hA, hI, hc, hs⟩ := X
  subst hn
  obtain ⟨x, t, rfl, h⟩ := un_inv h
  exact lv_i2l hx hb hd (i32_long (wf_h hst)) (hK _ _ _ _ h H locs ls hP hS hL hR (wf_c trivial (wf_t hst)))

theorem sd_ladd (X : aX p s m args meth c R cells slots cc own nL ad D cI cC cG A0) {K : aK} {Ret : Option AV → Mem → Prop} {n a b : Nat} {z : Int} {pc : Nat} {L : Lc} {st : List AV} {μ : Mem} (hd : decode cc pc = .ok (.ladd, 1)) (hn : n = pc + 1) (hK : ∀ pc L st μ, K pc L st μ → aG p l e R s m args below meth c cells slots QW nL ad D cI cC cG A0 pc L st μ) (h : stepI Ret (.ladd) n a b z L st μ K) : aG p l e R s m args below meth c cells slots QW nL ad D cI cC cG A0 pc L st μ := by
  intro H locs ls hP hS hL hR hst
  obtain ⟨⟨hx, hb, hml, hown, hts⟩, hKn, hSt, hNs, hA, hI, hc, hs⟩ := X
  subst hn
  obtain ⟨x, y, t, rfl, h⟩ := binL_inv h
  exact lv_ladd hx hb hd (hK _ _ _ _ h H locs ls hP hS hL hR (wf_c trivial (wf_t (wf_t hst))))

theorem sd_lmul (X : aX p s m args meth c R cells slots cc own nL ad D cI cC cG A0) {K : aK} {Ret : Option AV → Mem → Prop} {n a b : Nat} {z : Int} {pc : Nat} {L : Lc} {st : List AV} {μ : Mem} (hd : decode cc pc = .ok (.lmul, 1)) (hn : n = pc + 1) (hK : ∀ pc L st μ, K pc L st μ → aG p l e R s m args below meth c cells slots QW nL ad D cI cC cG A0 pc L st μ) (h : stepI Ret (.lmul) n a b z L st μ K) : aG p l e R s m args below meth c cells slots QW nL ad D cI cC cG A0 pc L st μ := by
  intro H locs ls hP hS hL hR hst
  obtain ⟨⟨hx, hb, hml, hown, hts⟩, hKn, hSt, hNs, hA, hI, hc, hs⟩ := X
  subst hn
  obtain ⟨x, y, t, rfl, h⟩ := binL_inv h
  exact lv_lmul hx hb hd (hK _ _ _ _ h H locs ls hP hS hL hR (wf_c trivial (wf_t (wf_t hst))))

theorem sd_goto (X : aX p s m args meth c R cells slots cc own nL ad D cI cC cG A0) {K : aK} {Ret : Option AV → Mem → Prop} {n a b : Nat} {z : Int} {pc : Nat} {L : Lc} {st : List AV} {μ : Mem} {off : Int} (hd : decode cc pc = .ok (.goto off, 3)) (hn : n = pc + 3) (ht : (pc : Int) + off = (a : Int)) (hK : ∀ pc L st μ, K pc L st μ → aG p l e R s m args below meth c cells slots QW nL ad D cI cC cG A0 pc L st μ) (h : stepI Ret (.goto off) n a b z L st μ K) : aG p l e R s m args below meth c cells slots QW nL ad D cI cC cG A0 pc L st μ := by
  intro H locs ls hP hS hL hR hst
  obtain ⟨⟨hx, hb, hml, hown, hts⟩, hKn, hSt, hNs, hA, hI, hc, hs⟩ := X
  subst hn
  exact lv_goto hx hb hd ht (hK _ _ _ _ h H locs ls hP hS hL hR hst)

theorem sd_ifCond (X : aX p s m args meth c R cells slots cc own nL ad D cI cC cG A0) {K : aK} {Ret : Option AV → Mem → Prop} {n a b : Nat} {z : Int} {pc : Nat} {L : Lc} {st : List AV} {μ : Mem} {q : Jvm.ClassFile.Cond} {off : Int} (hd : decode cc pc = .ok (.ifCond q off, 3)) (hn : n = pc + 3) (ht : (pc : Int) + off = (a : Int)) (hK : ∀ pc L st μ, K pc L st μ → aG p l e R s m args below meth c cells slots QW nL ad D cI cC cG A0 pc L st μ) (h : stepI Ret (.ifCond q off) n a b z L st μ K) : aG p l e R s m args below meth c cells slots QW nL ad D cI cC cG A0 pc L st μ := by
  intro H locs ls hP hS hL hR hst
  obtain ⟨⟨hx, hb, hml, hown, hts⟩, hKn, hSt, hNs, hA, hI, hc, hs⟩ := X
  subst hn
  obtain ⟨x, t, rfl, ht1, hf1⟩ := un_inv h
  have rx : inR x := wf_h hst
  cases q with
  | eq => exact lv_if_eq hx hb hd ht (fun e => hK _ _ _ _ (ht1 ((i32_inj rx inR_0).mp e)) H locs ls hP hS hL hR (wf_t hst)) (fun e => hK _ _ _ _ (hf1 (fun z => e ((i32_inj rx inR_0).mpr z))) H locs ls hP hS hL hR (wf_t hst))
  | ne => exact lv_if_ne hx hb hd ht (fun e => hK _ _ _ _ (ht1 ((not_congr (i32_inj rx inR_0)).mp e)) H locs ls hP hS hL hR (wf_t hst)) (fun e => hK _ _ _ _ (hf1 (fun z => z ((i32_inj rx inR_0).mp e))) H locs ls hP hS hL hR (wf_t hst))
  | lt => exact lv_if_lt hx hb hd ht (fun e => hK _ _ _ _ (ht1 ((i32_lt rx inR_0).mp e)) H locs ls hP hS hL hR (wf_t hst)) (fun e => hK _ _ _ _ (hf1 (fun z => e ((i32_lt rx inR_0).mpr z))) H locs ls hP hS hL hR (wf_t hst))
  | ge => exact lv_if_ge hx hb hd ht (fun e => hK _ _ _ _ (ht1 ((i32_le inR_0 rx).mp e)) H locs ls hP hS hL hR (wf_t hst)) (fun e => hK _ _ _ _ (hf1 (fun z => e ((i32_le inR_0 rx).mpr z))) H locs ls hP hS hL hR (wf_t hst))
  | gt => exact lv_if_gt hx hb hd ht (fun e => hK _ _ _ _ (ht1 ((i32_lt inR_0 rx).mp e)) H locs ls hP hS hL hR (wf_t hst)) (fun e => hK _ _ _ _ (hf1 (fun z => e ((i32_lt inR_0 rx).mpr z))) H locs ls hP hS hL hR (wf_t hst))
  | le => exact lv_if_le hx hb hd ht (fun e => hK _ _ _ _ (ht1 ((i32_le rx inR_0).mp e)) H locs ls hP hS hL hR (wf_t hst)) (fun e => hK _ _ _ _ (hf1 (fun z => e ((i32_le rx inR_0).mpr z))) H locs ls hP hS hL hR (wf_t hst))

theorem sd_if_icmp (X : aX p s m args meth c R cells slots cc own nL ad D cI cC cG A0) {K : aK} {Ret : Option AV → Mem → Prop} {n a b : Nat} {z : Int} {pc : Nat} {L : Lc} {st : List AV} {μ : Mem} {q : Jvm.ClassFile.Cond} {off : Int} (hd : decode cc pc = .ok (.if_icmp q off, 3)) (hn : n = pc + 3) (ht : (pc : Int) + off = (a : Int)) (hK : ∀ pc L st μ, K pc L st μ → aG p l e R s m args below meth c cells slots QW nL ad D cI cC cG A0 pc L st μ) (h : stepI Ret (.if_icmp q off) n a b z L st μ K) : aG p l e R s m args below meth c cells slots QW nL ad D cI cC cG A0 pc L st μ := by
  intro H locs ls hP hS hL hR hst
  obtain ⟨⟨hx, hb, hml, hown, hts⟩, hKn, hSt, hNs, hA, hI, hc, hs⟩ := X
  subst hn
  obtain ⟨x, y, t, rfl, ht1, hf1⟩ := bin_inv h
  have rx : inR x := wf_h (wf_t hst)
  have ry : inR y := wf_h hst
  cases q with
  | eq => exact lv_icmp_eq hx hb hd ht (fun e => hK _ _ _ _ (ht1 ((i32_inj rx ry).mp e)) H locs ls hP hS hL hR (wf_t (wf_t hst))) (fun e => hK _ _ _ _ (hf1 (fun z => e ((i32_inj rx ry).mpr z))) H locs ls hP hS hL hR (wf_t (wf_t hst)))
  | ne => exact lv_icmp_ne hx hb hd ht (fun e => hK _ _ _ _ (ht1 ((not_congr (i32_inj rx ry)).mp e)) H locs ls hP hS hL hR (wf_t (wf_t hst))) (fun e => hK _ _ _ _ (hf1 (fun z => z ((i32_inj rx ry).mp e))) H locs ls hP hS hL hR (wf_t (wf_t hst)))
  | lt => exact lv_icmp_lt hx hb hd ht (fun e => hK _ _ _ _ (ht1 ((i32_lt rx ry).mp e)) H locs ls hP hS hL hR (wf_t (wf_t hst))) (fun e => hK _ _ _ _ (hf1 (fun z => e ((i32_lt rx ry).mpr z))) H locs ls hP hS hL hR (wf_t (wf_t hst)))
  | ge => exact lv_icmp_ge hx hb hd ht (fun e => hK _ _ _ _ (ht1 ((i32_le ry rx).mp e)) H locs ls hP hS hL hR (wf_t (wf_t hst))) (fun e => hK _ _ _ _ (hf1 (fun z => e ((i32_le ry rx).mpr z))) H locs ls hP hS hL hR (wf_t (wf_t hst)))
  | gt => exact lv_icmp_gt hx hb hd ht (fun e => hK _ _ _ _ (ht1 ((i32_lt ry rx).mp e)) H locs ls hP hS hL hR (wf_t (wf_t hst))) (fun e => hK _ _ _ _ (hf1 (fun z => e ((i32_lt ry rx).mpr z))) H locs ls hP hS hL hR (wf_t (wf_t hst)))
  | le => exact lv_icmp_le hx hb hd ht (fun e => hK _ _ _ _ (ht1 ((i32_le rx ry).mp e)) H locs ls hP hS hL hR (wf_t (wf_t hst))) (fun e => hK _ _ _ _ (hf1 (fun z => e ((i32_le rx ry).mpr z))) H locs ls hP hS hL hR (wf_t (wf_t hst)))

theorem sd_ifnull (X : aX p s m args meth c R cells slots cc own nL ad D cI cC cG A0) {K : aK} {Ret : Option AV → Mem → Prop} {n a b : Nat} {z : Int} {pc : Nat} {L : Lc} {st : List AV} {μ : Mem} {off : Int} (hd : decode cc pc = .ok (.ifnull off, 3)) (hn : n = pc + 3) (ht : (pc : Int) + off = (a : Int)) (hK : ∀ pc L st μ, K pc L st μ → aG p l e R s m args below meth c cells slots QW nL ad D cI cC cG A0 pc L st μ) (h : stepI Ret (.ifnull off) n a b z L st μ K) : aG p l e R s m args below meth c cells slots QW nL ad D cI cC cG A0 pc L st μ := by
  intro H locs ls hP hS hL hR hst
  obtain ⟨⟨hx, hb, hml, hown, hts⟩, hKn, hSt, hNs, hA, hI, hc, hs⟩ := X
  subst hn
  rcases unA_inv (show unA st (fun v st => (v = .inr .null → K a L st μ) ∧ (¬ v = .inr .null → K _ L st μ)) from h) with ⟨x, t, rfl, h1, h2⟩ | ⟨t, rfl, h1, h2⟩
  · exact lv_ifnull hx hb hd (hK _ _ _ _ (h2 (by simp)) H locs ls hP hS hL hR (wf_t hst))
  · exact lv_ifnullN hx hb hd ht (hK _ _ _ _ (h1 rfl) H locs ls hP hS hL hR (wf_t hst))

theorem okF_inv {idx a b w : Nat} {z : Int} (h : okF own idx a b w z = true) : ∃ C T N, vwCl[b]? = some (C, T, N) ∧ a < N ∧ z = a ∧ (T a).1 = C ∧ (Cond.fieldLink own idx C (T a).2.1 (T a).2.2.1 ∈ lw_g ∨ lkN w (.fieldLinkNest own idx C (T a).2.1 (T a).2.2.1 "ClockedGame") = true) := by
  unfold okF at h
  split at h
  · rename_i C T N e
    simp only [Bool.and_eq_true, Bool.or_eq_true, decide_eq_true_eq] at h
    obtain ⟨⟨⟨h1, h2⟩, h3⟩, h4⟩ := h
    exact ⟨C, T, N, e, h1, h2, h3, h4.imp lk_in id⟩
  · cases h
theorem okP_inv {a b : Nat} (h : okP a b = true) {C : String} {T : u_T} {N : Nat} (e : vwCl[b]? = some (C, T, N)) : (T a).2.2.2 = false ∧ (T a).2.2.1 = "I" := by
  unfold okP at h
  rw [e] at h
  simpa using h
theorem cell_obj {k ci : Nat} {fs : List (Option Nat)} {μ : Mem} (h : shp k = .inl (ci, fs)) : (ww ad cI cC cG μ)[cpos k]? = some (ad k, .inr (ci, mkF ad (μ k) fs 0)) := by
  rw [ww_get (shp_in (by rw [h]; simp))]
  unfold cellE
  rw [h]

theorem sd_getfield (X : aX p s m args meth c R cells slots cc own nL ad D cI cC cG A0) {K : aK} {Ret : Option AV → Mem → Prop} {n a b : Nat} {z : Int} {pc : Nat} {L : Lc} {st : List AV} {μ : Mem} {k0 w : Nat} (hd : decode cc pc = .ok (.getfield k0, 3)) (hn : n = pc + 3) (hf : okF own k0 a b w z = true) (hK : ∀ pc L st μ, K pc L st μ → aG p l e R s m args below meth c cells slots QW nL ad D cI cC cG A0 pc L st μ) (h : stepI Ret (.getfield k0) n a b z L st μ K) : aG p l e R s m args below meth c cells slots QW nL ad D cI cC cG A0 pc L st μ := by
  intro H locs ls hP hS hL hR hst
  obtain ⟨⟨hx, hb, hml, hown, hts⟩, hKn, hSt, hNs, hA, hI, hc, hs⟩ := X
  subst hn
  obtain ⟨k, t, rfl, h⟩ := unR_inv h
  obtain ⟨fs, hsh, h⟩ := gfld_inv h
  obtain ⟨C, T, N, hcl, hlt, rfl, hC, hlk⟩ := okF_inv hf
  have he := cell_obj (ad := ad) (cI := cI) (cC := cC) (cG := cG) (μ := μ) hsh
  have hsame : ∀ x, s.fieldFound? (T a).1 (T a).2.1 (T a).2.2.1 = some x → s.fieldFound? C (T a).2.1 (T a).2.2.1 = some x := by rw [hC]; exact fun _ h9 => h9
  rcases h with ⟨hv, h⟩ | ⟨r, hv, h⟩
  · have hv2 : (mkF ad (μ k) fs 0)[a]? = some (.int (i32 (μ k a))) := by rw [mkF_get, hv]; simp
    have kk := hK _ _ _ _ h H locs ls hP hS hL hR (wf_c (hR k a).1 (wf_t hst))
    rcases hlk with hlk | hlk
    · exact va_get hx hb hts (uws_in hcl) hown hKn hP (cpos k) he hcl a hlt (hts _ hlk) hsame hv2 hd kk
    · exact va_getN hx hb hts (uws_in hcl) hown hKn hP (cpos k) he hcl a hlt ((lkN_at hlk hNs).use rfl) hsame hv2 hd kk
  · have hv2 : (mkF ad (μ k) fs 0)[a]? = some (.ref (ad r)) := by rw [mkF_get, hv]; simp
    have kk := hK _ _ _ _ h H locs ls hP hS hL hR (wf_c trivial (wf_t hst))
    rcases hlk with hlk | hlk
    · exact va_get hx hb hts (uws_in hcl) hown hKn hP (cpos k) he hcl a hlt (hts _ hlk) hsame hv2 hd kk
    · exact va_getN hx hb hts (uws_in hcl) hown hKn hP (cpos k) he hcl a hlt ((lkN_at hlk hNs).use rfl) hsame hv2 hd kk

theorem sd_putfield (X : aX p s m args meth c R cells slots cc own nL ad D cI cC cG A0) {K : aK} {Ret : Option AV → Mem → Prop} {n a b : Nat} {z : Int} {pc : Nat} {L : Lc} {st : List AV} {μ : Mem} {k0 w : Nat} (hd : decode cc pc = .ok (.putfield k0, 3)) (hn : n = pc + 3) (hf : okF own k0 a b w z = true) (hp : okP a b = true) (hK : ∀ pc L st μ, K pc L st μ → aG p l e R s m args below meth c cells slots QW nL ad D cI cC cG A0 pc L st μ) (h : stepI Ret (.putfield k0) n a b z L st μ K) : aG p l e R s m args below meth c cells slots QW nL ad D cI cC cG A0 pc L st μ := by
  intro H locs ls hP hS hL hR hst
  obtain ⟨⟨hx, hb, hml, hown, hts⟩, hKn, hSt, hNs, hA, hI, hc, hs⟩ := X
  subst hn
  obtain ⟨x, t, rfl, h⟩ := un_inv h
  obtain ⟨k, t, rfl, h⟩ := unR_inv h
  obtain ⟨fs, hsh, hv, h⟩ := pfld_inv h
  obtain ⟨C, T, N, hcl, hlt, rfl, hC, hlk⟩ := okF_inv hf
  obtain ⟨hfin, hI1⟩ := okP_inv hp hcl
  have he := cell_obj (ad := ad) (cI := cI) (cC := cC) (cG := cG) (μ := μ) hsh
  have hsame : ∀ x, s.fieldFound? (T a).1 (T a).2.1 (T a).2.2.1 = some x → s.fieldFound? C (T a).2.1 (T a).2.2.1 = some x := by rw [hC]; exact fun _ h9 => h9
  have hb9 : b < 8 := (List.getElem?_eq_some_iff.mp hcl).1
  obtain ⟨ty, hty⟩ := ty_ok b hb9
  obtain ⟨hty, hnm⟩ := hty C T N hcl
  have hset : (ww ad cI cC cG μ).set (cpos k) (ad k, .inr (b, (mkF ad (μ k) fs 0).set a (.int (i32 x)))) = ww ad cI cC cG (stM μ k a x) := by
    refine ww_set (shp_in (by rw [hsh]; simp)) ?_ (fun j hj => stM_ne hj)
    unfold cellE
    rw [hsh]
    simp only []
    rw [mkF_set ad (μ k) (stM μ k a x k) fs a x hv (by simp [stM]) (fun j hj => by simp [stM, hj])]
  have kk : ∀ (H1 : Heap) (locs1 : List Loc), va_P D vwCl ((ww ad cI cC cG μ).set (cpos k) (ad k, .inr (b, (mkF ad (μ k) fs 0).set a (.int (i32 x))))) H1 → va_D A0 ((ww ad cI cC cG μ).set (cpos k) (ad k, .inr (b, (mkF ad (μ k) fs 0).set a (.int (i32 x))))) → va_S A0 s.heap H1 locs1 → W p l e R s m args below meth c H1 locs1 cells slots QW (F0 m (pc + 3) ls (t.map (conc ad))) := by
    intro H1 locs1 hP1 _ hS1
    rw [hset] at hP1
    exact hK _ _ _ _ h H1 locs1 ls hP1 hS1 hL (stM_rng hR (wf_h hst) (fun n hn => by rw [hsh] at hn; cases hn)) (wf_t (wf_t hst))
  have hl9 : a < (mkF ad (μ k) fs 0).length := by rw [mkF_len]; exact (List.getElem?_eq_some_iff.mp hv).1
  rcases hlk with hlk | hlk
  · exact va_put hx hb hts (uws_in hcl) ty hty hnm hown hKn hP (aD hI hA) hS (cpos k) he hcl a hlt (hts _ hlk) hsame hfin (ty := .int) (by rw [hI1]; decide +kernel) rfl rfl hl9 hd kk
  · exact va_putN hx hb hts (uws_in hcl) ty hty hnm hown hKn hP (aD hI hA) hS (cpos k) he hcl a hlt ((lkN_at hlk hNs).use rfl) hsame hfin (ty := .int) (by rw [hI1]; decide +kernel) rfl rfl hl9 hd kk

end SND
