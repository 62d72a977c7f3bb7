/-! A METHOD: its own judgement AW, its conditions vc by computing, its contract (laid by wip/p28/tools/gen10.py) -/
section SND5
variable {p : Program} {l : Launch} {e : Env} {R : Room} {s : State} {m : MethodId} {args : Array Value} {below : List Frame} {meth : Method} {c : Code} {cells slots : Nat} {QW : State → Prop} {cc : ByteArray} {own : String} {nL : Nat} {ret : Option FieldType} {ad : Nat → Nat} {D : va_G} {cI cC cG : ClassId} {A0 : Nat → Prop}
theorem sd_ret (X : aX p s m args meth c R 0 0 cc own nL ad D cI cC cG (aA ad)) {K : aK} {Ret : Option AV → Mem → Prop} {i : Instr} {n a b w : Nat} {z : Int} {pc : Nat} {L : Lc} {st : List AV} {μ : Mem} (hr : meth.sig.returnType = ret) (hlk : meth.locks = false) (hok : okE own cc ret nL R.frames R.locals pc (i, n, a, b, w, z) = true)
    (hi : i = .ireturn ∨ i = .lreturn ∨ i = .areturn ∨ i = .return_) (h : stepI Ret i n a b z L st μ K) : aG p l e R s m args below meth c 0 0 (MQ below (aQ ad D cI cC cG Ret) args s 0 0 (aA ad)) nL ad D cI cC cG (aA ad) pc L st μ := by
  intro H locs ls hP hS hL hR hst
  obtain ⟨⟨hx, hb, hml, hown, hts⟩, hKn, hSt, hNs, hA, hI, hc, hs⟩ := X
  have fin : ∀ (r : Option AV), Ret r μ → (∀ v, r = some v → wfv v) → ∀ t : State, t.heap = H → aQ ad D cI cC cG Ret args s (.returned (r.map (conc ad))) t := by
    intro r hq hw t ht
    exact ⟨⟨r, μ, rfl, hq, hw, by rw [ht]; exact hP, hR⟩, hS.F ht⟩
  rcases hi with rfl | rfl | rfl | rfl
  · obtain ⟨hd, hn, hB⟩ := okE_inv rfl hok
    simp only [okB, Bool.and_eq_true, Bool.or_eq_true, decide_eq_true_eq] at hB
    obtain ⟨x, t, rfl, rfl, hb2, hq⟩ := un_inv h
    have hf := fin _ hq (fun v hv => by cases hv; exact wf_h hst)
    rcases hB with (⟨hb3, rfl⟩ | ⟨hb3, rfl⟩) | ⟨hb3, rfl⟩
    · exact W.iret hx hb hr (fun t ht _ => hf t ht) hS.2.2 hd hlk
    · have hx1 : x = 0 ∨ x = 1 := by omega
      exact W.zret hx hb hr (by rcases hx1 with rfl | rfl <;> rfl) (fun t ht _ => hf t ht) hS.2.2 hd hlk
    · have hx1 : 0 ≤ x ∧ x ≤ 65535 := by omega
      obtain ⟨k, rfl⟩ : ∃ k : Nat, x = k := ⟨x.toNat, by omega⟩
      exact W.zret hx hb hr (by rw [← i32_nat]; exact (pk_charN (q := k) (by omega)).1) (fun t ht _ => hf t ht) hS.2.2 hd hlk
  · obtain ⟨hd, hn, hB⟩ := okE_inv rfl hok
    simp only [okB, decide_eq_true_eq] at hB
    subst hB
    obtain ⟨x, t, rfl, rfl, hq⟩ := unL_inv h
    have hf := fin _ hq (fun v hv => by cases hv; trivial)
    exact W.lret hx hb hr (fun t ht _ => hf t ht) hS.2.2 hd hlk
  · obtain ⟨hd, hn, hB⟩ := okE_inv rfl hok
    simp only [okB, Bool.or_eq_true, decide_eq_true_eq] at hB
    have hrt : ∃ rt, ret = some rt ∧ ∃ n, rt = FieldType.object n := by
      rcases hB with rfl | rfl
      · exact ⟨_, rfl, _, rfl⟩
      · exact ⟨_, rfl, _, rfl⟩
    obtain ⟨rt, rfl, hrt⟩ := hrt
    rcases unA_inv (show unA st (fun v st => st = [] ∧ Ret (some v) μ) from h) with ⟨x, t, rfl, rfl, hq⟩ | ⟨t, rfl, rfl, hq⟩
    · have hf := fin _ hq (fun v hv => by cases hv; trivial)
      exact W.aret hx hb hr (Or.inl hrt) (Or.inr ⟨_, rfl⟩) (fun t ht _ => hf t ht) hS.2.2 hd hlk
    · have hf := fin _ hq (fun v hv => by cases hv; trivial)
      exact W.aret hx hb hr (Or.inl hrt) (Or.inl rfl) (fun t ht _ => hf t ht) hS.2.2 hd hlk
  · obtain ⟨hd, hn, hB⟩ := okE_inv rfl hok
    simp only [okB, decide_eq_true_eq] at hB
    subst hB
    obtain ⟨rfl, hq⟩ := (show st = [] ∧ Ret none μ from h)
    have hf := fin _ hq (fun v hv => by cases hv)
    exact W.vret hx hb hr (fun t ht _ => hf t ht) hS.2.2 hd hlk
end SND5
/-- method a, at pc with these locals, stack, memory: it comes back with Ret -/
def AW (a : Nat) (Ret : Option AV → Mem → Prop) : aK := fun pc L st μ =>
  ∀ (p : Program) (l : Launch) (e : Env) (s : State) (m : MethodId) (args : Array Value) (below : List Frame) (meth : Method) (c : Code) (ad : Nat → Nat) (D : va_G) (cI cC cG : ClassId),
    aX p s m args meth c (mR a) 0 0 (mB a) (mY a).cls (mL a) ad D cI cC cG (aA ad) → meth.sig.returnType = mT a → meth.locks = false →
    aG p l e (mR a) s m args below meth c 0 0 (MQ below (aQ ad D cI cC cG Ret) args s 0 0 (aA ad)) (mL a) ad D cI cC cG (aA ad) pc L st μ
def memN : List Nat → Nat → Bool
  | [], _ => false
  | a :: l, n => (a == n) || memN l n
def stepO (Ret : Option AV → Mem → Prop) (x : Option (Instr × E5)) (L : Lc) (st : List AV) (μ : Mem) (K : aK) : Prop := match x with
  | some (i, n, a, b, _, z) => stepI Ret i n a b z L st μ K
  | none => False
def vcG (G : aK) (Ret : Option AV → Mem → Prop) (T : tE) (stop : List Nat) : Nat → aK
  | 0 => G
  | f + 1 => fun pc L st μ => bif memN stop pc then G pc L st μ else stepO Ret (tat T pc) L st μ (vcG G Ret T stop f)
/-- one step first, then on to the stops -/
def vc1 (G : aK) (Ret : Option AV → Mem → Prop) (T : tE) (stop : List Nat) (f : Nat) : aK := fun pc L st μ => stepO Ret (tat T pc) L st μ (vcG G Ret T stop f)
theorem tat_ok {a : Nat} {T : tE} (h : okT a T = true) {pc : Nat} {x : Instr × E5} (e : tat T pc = some x) : okE (mY a).cls (mB a) (mT a) (mL a) (mR a).frames (mR a).locals pc x = true := by
  unfold tat at e
  have e2 : T[pc]? = some (some x) := by
    cases e3 : T[pc]? with
    | none => rw [e3] at e; cases e
    | some y => rw [e3] at e; rw [show y = some x from e]
  have h1 := List.all_eq_true.mp h (some x, pc) (by rw [List.mem_zipIdx_iff_getElem?]; exact e2)
  exact h1
theorem AW_step {a : Nat} {T : tE} {Ret : Option AV → Mem → Prop} {K : aK} (h : okT a T = true) (hK : ∀ pc L st μ, K pc L st μ → AW a Ret pc L st μ) {pc : Nat} {L : Lc} {st : List AV} {μ : Mem} (hs : stepO Ret (tat T pc) L st μ K) : AW a Ret pc L st μ := by
  intro p l e s m args below meth c ad D cI cC cG X hr hlk
  cases e1 : tat T pc with
  | none => rw [e1] at hs; exact hs.elim
  | some x =>
    rw [e1] at hs
    obtain ⟨i, n, x1, b, w, z⟩ := x
    have ho := tat_ok h e1
    exact step_snd X ho (fun hi hh => sd_ret X hr hlk ho hi hh) (fun pc L st μ hk => hK pc L st μ hk p l e s m args below meth c ad D cI cC cG X hr hlk) hs
theorem vc_snd {a : Nat} {T : tE} {Ret : Option AV → Mem → Prop} {stop : List Nat} (h : okT a T = true) : ∀ (f pc : Nat) (L : Lc) (st : List AV) (μ : Mem), vcG (AW a Ret) Ret T stop f pc L st μ → AW a Ret pc L st μ := by
  intro f
  induction f with
  | zero => exact fun pc L st μ h => h
  | succ f ih =>
    intro pc L st μ hv
    unfold vcG at hv
    cases hm : memN stop pc with
    | true => rw [hm] at hv; exact hv
    | false =>
      rw [hm] at hv
      exact AW_step h ih hv
theorem vc1_snd {a : Nat} {T : tE} {Ret : Option AV → Mem → Prop} {stop : List Nat} (h : okT a T = true) (f : Nat) {pc : Nat} {L : Lc} {st : List AV} {μ : Mem} (hv : vc1 (AW a Ret) Ret T stop f pc L st μ) : AW a Ret pc L st μ := AW_step h (vc_snd h f) hv
def mkL (as : List AV) (n : Nat) : Lc := as.map some ++ List.replicate (n - as.length) none
theorem lget_map : ∀ (as : List AV) (r : Lc) (i : Nat), lget (as.map some ++ r) i = if i < as.length then as[i]? else lget r (i - as.length)
  | [], r, i => by simp
  | a :: as, r, 0 => by simp [lget]
  | a :: as, r, i + 1 => by
    simp only [List.map_cons, List.cons_append, lget, lget_map as r i, List.length_cons, List.getElem?_cons_succ]
    by_cases h : i < as.length
    · rw [if_pos h, if_pos (by omega)]
    · rw [if_neg h, if_neg (by omega)]; congr 1; omega
theorem lget_rep : ∀ (n i : Nat), lget (List.replicate n none) i = none
  | 0, i => rfl
  | n + 1, 0 => rfl
  | n + 1, i + 1 => by simp only [List.replicate_succ, lget]; exact lget_rep n i
theorem lv_args1 : ∀ (vs : List Value) (n : Nat), (∀ v ∈ vs, v.category = 1) → ∀ (i : Nat) (v : Value), vs[i]? = some v → (n + i, v) ∈ lv_args n vs
  | [], n, h, i, v, hv => by simp at hv
  | x :: vs, n, h, 0, v, hv => by
    simp only [List.getElem?_cons_zero, Option.some.injEq] at hv
    subst hv
    unfold lv_args
    simp
  | x :: vs, n, h, i + 1, v, hv => by
    have hx : x.category = 1 := h x List.mem_cons_self
    simp only [List.getElem?_cons_succ] at hv
    have := lv_args1 vs (n + 1) (fun w hw => h w (List.mem_cons_of_mem _ hw)) i v hv
    unfold lv_args
    simp only [hx]
    exact List.mem_cons_of_mem _ (by rw [show n + (i + 1) = n + 1 + i by omega]; exact this)
theorem sl_len : ∀ (vs : List Value), (∀ v ∈ vs, v.category = 1) → (lg_sl vs).length = vs.length
  | [], _ => rfl
  | x :: vs, h => by
    have hx : x.category = 1 := h x List.mem_cons_self
    have := sl_len vs (fun w hw => h w (List.mem_cons_of_mem _ hw))
    unfold lg_sl at this ⊢
    simp [hx, this]
/-- the contract of method a out of its walk -/
theorem wp_of {a : Nat} (ha : a < 190) {as : List AV} {μ : Mem} {Q : Option AV → Mem → Prop} (h1 : as.all (fun v => !av2 v) = true) (h2 : as.length ≤ mL a) (hw : (∀ v ∈ as, wfv v) → AW a Q 0 (mkL as (mL a)) [] μ) : wpM a as μ Q := by
  intro hwf l ad D cI cC cG
  refine Met.ofW (cc := mB a) (maxL := mL a) (ret := mT a) (okM_inv ha).1.2 rfl ?_
  intro p e s m args below meth c s₁ B hml hv
  obtain ⟨rfl, hP, hK, hSt, hNs, hI, hR⟩ := hv
  have hts := atoms_spec (ws := mW a) B.pre
  have X : aX p s m (as.map (conc ad)).toArray meth c (mR a) 0 0 (mB a) (mY a).cls (mL a) ad D cI cC cG (aA ad) :=
    ⟨⟨B.exec, B.bytes, hml, findClass_of_methodNamed B.named, fun w hw => hts w (List.mem_cons_of_mem _ hw)⟩, hK, hSt, hNs, fun k hk => ⟨k, hk, rfl⟩, hI, Nat.zero_le _, Nat.zero_le _⟩
  have hcat : ∀ v ∈ as.map (conc ad), v.category = 1 := by
    intro v hv
    obtain ⟨w, hw1, rfl⟩ := List.mem_map.mp hv
    have := List.all_eq_true.mp h1 w hw1
    rw [conc_cat]
    simp only [Bool.not_eq_true'] at this
    rw [this]; rfl
  have hl := lv_entry (as.map (conc ad)) (n := mL a) (by rw [sl_len _ hcat]; simpa using h2)
  rw [lg_entry_eq]
  generalize (lg_sl (as.map (conc ad)) ++ List.replicate (mL a - (lg_sl (as.map (conc ad))).length) Slot.unset).toArray = ls at hl ⊢
  refine hw hwf p l e s m _ below meth c ad D cI cC cG X B.returns B.notSynchronized s.heap [] ls hP va_S.rf ⟨hl.1, hl.2.1, fun i v hi => ?_⟩ hR (fun v hv => absurd hv List.not_mem_nil)
  unfold mkL at hi
  rw [lget_map] at hi
  by_cases h9 : i < as.length
  · rw [if_pos h9] at hi
    refine ⟨hl.2.2 (i, conc ad v) ?_, hwf v (List.mem_of_getElem? hi)⟩
    have := lv_args1 (as.map (conc ad)) 0 hcat i (conc ad v) (by rw [List.getElem?_map, hi]; rfl)
    simpa using this
  · rw [if_neg h9, lget_rep] at hi
    cases hi
theorem wp_mono {a : Nat} {as : List AV} {μ : Mem} {Q Q' : Option AV → Mem → Prop} (h : wpM a as μ Q) (hq : ∀ r μ', Q r μ' → Q' r μ') : wpM a as μ Q' := by
  intro hwf l ad D cI cC cG p e ha hc hk s m args below hf ok hP hK
  obtain ⟨k, o, h1, h2, h3, ⟨⟨r, μ', e1, e2, e3⟩, e4⟩, h5⟩ := h hwf l ad D cI cC cG p e ha hc hk s m args below hf ok hP hK
  exact ⟨k, o, h1, h2, h3, ⟨⟨r, μ', e1, hq _ _ e2, e3⟩, e4⟩, h5⟩
/-! the rows by which conditions are computed: what goes on is never applied before the state is known -/
def selK (s : Bool) (x : Option (Instr × E5)) (G : aK) (Ret : Option AV → Mem → Prop) (pc : Nat) (L : Lc) (st : List AV) (μ : Mem) (K : aK) : Prop := bif s then G pc L st μ else stepO Ret x L st μ K
theorem vc_s {G : aK} {Ret : Option AV → Mem → Prop} {T : tE} {stop : List Nat} {f pc : Nat} {L : Lc} {st : List AV} {μ : Mem} : vcG G Ret T stop (f + 1) pc L st μ = selK (memN stop pc) (tat T pc) G Ret pc L st μ (vcG G Ret T stop f) := (rfl)
theorem sel_t {x : Option (Instr × E5)} {G : aK} {Ret : Option AV → Mem → Prop} {pc : Nat} {L : Lc} {st : List AV} {μ : Mem} {K : aK} : selK true x G Ret pc L st μ K = G pc L st μ := (rfl)
theorem sel_f {i : Instr} {n a b w : Nat} {z : Int} {G : aK} {Ret : Option AV → Mem → Prop} {pc : Nat} {L : Lc} {st : List AV} {μ : Mem} {K : aK} : selK false (some (i, n, a, b, w, z)) G Ret pc L st μ K = stepI Ret i n a b z L st μ K := (rfl)
theorem vc_1 {G : aK} {Ret : Option AV → Mem → Prop} {T : tE} {stop : List Nat} {f pc : Nat} {L : Lc} {st : List AV} {μ : Mem} : vc1 G Ret T stop f pc L st μ = selK false (tat T pc) G Ret pc L st μ (vcG G Ret T stop f) := (rfl)
theorem mn_0 {n : Nat} : memN [] n = false := (rfl)
theorem mn_s {a n : Nat} {l : List Nat} : memN (a :: l) n = ((a == n) || memN l n) := (rfl)
theorem e_kc {K : aK} {n : Nat} {L : Lc} {st : List AV} {r : Option AV} {μ : Mem} : kc K n L st r μ = K n L (r.toList ++ st) μ := (rfl)
theorem e_lg0 {v : Option AV} {L : Lc} : lget (v :: L) 0 = v := (rfl)
theorem e_lgs {v : Option AV} {L : Lc} {n : Nat} : lget (v :: L) (n + 1) = lget L n := (rfl)
theorem e_ls0 {o : Option AV} {L : Lc} {v : AV} : lset (o :: L) 0 v = some v :: L := (rfl)
theorem e_lss {o : Option AV} {L : Lc} {n : Nat} {v : AV} : lset (o :: L) (n + 1) v = o :: lset L n v := (rfl)
theorem e_lc0 {o : Option AV} {L : Lc} : lclr (o :: L) 0 = none :: L := (rfl)
theorem e_lcs {o : Option AV} {L : Lc} {n : Nat} : lclr (o :: L) (n + 1) = o :: lclr L n := (rfl)
theorem e_ls2 {L : Lc} {i : Nat} {v : AV} : lset2 L i v = lclr (lset L i v) (i + 1) := (rfl)
theorem e_nlg0 {L : Lc} : nlg L 0 = true := (rfl)
theorem e_nlgI {L : Lc} {i : Nat} : nlg L (i + 1) = nlgv (lget L i) := (rfl)
theorem e_nvI {x : Int} : nlgv (some (.inl x)) = true := (rfl)
theorem e_nvR {x : Nat} : nlgv (some (.inr (.ref x))) = true := (rfl)
theorem e_nvN : nlgv (some (.inr .null)) = true := (rfl)
theorem e_nv0 : nlgv none = true := (rfl)
section SI
variable {Ret : Option AV → Mem → Prop} {n a b : Nat} {z : Int} {L : Lc} {st : List AV} {μ : Mem} {K : aK}
def xI (o : Option AV) (n : Nat) (L : Lc) (st : List AV) (μ : Mem) (K : aK) : Prop := ldI o fun x => K n L (.inl x :: st) μ
theorem e_xI {x : Int} : xI (some (.inl x)) n L st μ K = K n L (.inl x :: st) μ := (rfl)
def xR (o : Option AV) (n : Nat) (L : Lc) (st : List AV) (μ : Mem) (K : aK) : Prop := ldR o fun x => K n L (x :: st) μ
theorem e_xR {x : Nat} : xR (some (.inr (.ref x))) n L st μ K = K n L (.inr (.ref x) :: st) μ := (rfl)
theorem e_xN : xR (some (.inr .null)) n L st μ K = K n L (.inr .null :: st) μ := (rfl)
def xL (o : Option AV) (n : Nat) (L : Lc) (st : List AV) (μ : Mem) (K : aK) : Prop := ldL o fun x => K n L (.inr (.long x) :: st) μ
theorem e_xL {x : Int64} : xL (some (.inr (.long x))) n L st μ K = K n L (.inr (.long x) :: st) μ := (rfl)
theorem si_iload {q : Nat} : stepI Ret (.iload q) n a b z L st μ K = xI (lget L a) n L st μ K := (rfl)
theorem si_iload_n {q : Fin 4} : stepI Ret (.iload_n q) n a b z L st μ K = xI (lget L a) n L st μ K := (rfl)
theorem si_aload {q : Nat} : stepI Ret (.aload q) n a b z L st μ K = xR (lget L a) n L st μ K := (rfl)
theorem si_aload_n {q : Fin 4} : stepI Ret (.aload_n q) n a b z L st μ K = xR (lget L a) n L st μ K := (rfl)
theorem si_lload {q : Nat} : stepI Ret (.lload q) n a b z L st μ K = xL (lget L a) n L st μ K := (rfl)
theorem si_lload_n {q : Fin 4} : stepI Ret (.lload_n q) n a b z L st μ K = xL (lget L a) n L st μ K := (rfl)
theorem si_iconst {q : Int} : stepI Ret (.iconst q) n a b z L st μ K = K n L (.inl z :: st) μ := (rfl)
theorem si_bipush {q : Int} : stepI Ret (.bipush q) n a b z L st μ K = K n L (.inl z :: st) μ := (rfl)
theorem si_sipush {q : Int} : stepI Ret (.sipush q) n a b z L st μ K = K n L (.inl z :: st) μ := (rfl)
theorem si_ldc {q : Nat} : stepI Ret (.ldc q) n a b z L st μ K = K n L (.inl z :: st) μ := (rfl)
theorem si_ldc2_w {q : Nat} : stepI Ret (.ldc2_w q) n a b z L st μ K = K n L (.inr (.long (Int64.ofInt z)) :: st) μ := (rfl)
theorem si_aconst_null : stepI Ret .aconst_null n a b z L st μ K = K n L (.inr .null :: st) μ := (rfl)
theorem si_istore {q : Nat} {x : Int} : stepI Ret (.istore q) n a b z L (.inl x :: st) μ K = (nlg L a = true ∧ K n (lset L a (.inl x)) st μ) := (rfl)
theorem si_istore_n {q : Fin 4} {x : Int} : stepI Ret (.istore_n q) n a b z L (.inl x :: st) μ K = (nlg L a = true ∧ K n (lset L a (.inl x)) st μ) := (rfl)
theorem si_astore {q : Nat} {x : Nat} : stepI Ret (.astore q) n a b z L (.inr (.ref x) :: st) μ K = (nlg L a = true ∧ K n (lset L a (.inr (.ref x))) st μ) := (rfl)
theorem si_astore_n {q : Fin 4} {x : Nat} : stepI Ret (.astore_n q) n a b z L (.inr (.ref x) :: st) μ K = (nlg L a = true ∧ K n (lset L a (.inr (.ref x))) st μ) := (rfl)
theorem si_astoreN {q : Nat} : stepI Ret (.astore q) n a b z L (.inr .null :: st) μ K = (nlg L a = true ∧ K n (lset L a (.inr .null)) st μ) := (rfl)
theorem si_astore_nN {q : Fin 4} : stepI Ret (.astore_n q) n a b z L (.inr .null :: st) μ K = (nlg L a = true ∧ K n (lset L a (.inr .null)) st μ) := (rfl)
theorem si_lstore {q : Nat} {x : Int64} : stepI Ret (.lstore q) n a b z L (.inr (.long x) :: st) μ K = (nlg L a = true ∧ K n (lset2 L a (.inr (.long x))) st μ) := (rfl)
theorem si_lstore_n {q : Fin 4} {x : Int64} : stepI Ret (.lstore_n q) n a b z L (.inr (.long x) :: st) μ K = (nlg L a = true ∧ K n (lset2 L a (.inr (.long x))) st μ) := (rfl)
def xInc (o : Option AV) (z : Int) (n a : Nat) (L : Lc) (st : List AV) (μ : Mem) (K : aK) : Prop := ldI o fun x => inR (x + z) ∧ nlg L a = true ∧ K n (lset L a (.inl (x + z))) st μ
theorem e_xInc {x : Int} : xInc (some (.inl x)) z n a L st μ K = (inR (x + z) ∧ nlg L a = true ∧ K n (lset L a (.inl (x + z))) st μ) := (rfl)
theorem si_iinc {q : Nat} {q2 : Int} : stepI Ret (.iinc q q2) n a b z L st μ K = xInc (lget L a) z n a L st μ K := (rfl)
theorem si_dupI {x : Int} : stepI Ret .dup n a b z L (.inl x :: st) μ K = K n L (.inl x :: .inl x :: st) μ := by simp [stepI, any1, av2]
theorem si_dupR {x : Nat} : stepI Ret .dup n a b z L (.inr (.ref x) :: st) μ K = K n L (.inr (.ref x) :: .inr (.ref x) :: st) μ := by simp [stepI, any1, av2]
theorem si_popI {x : Int} : stepI Ret .pop n a b z L (.inl x :: st) μ K = K n L st μ := by simp [stepI, any1, av2]
theorem si_popR {x : Nat} : stepI Ret .pop n a b z L (.inr (.ref x) :: st) μ K = K n L st μ := by simp [stepI, any1, av2]
theorem si_dup2 {x : Nat} {y : Int} : stepI Ret .dup2 n a b z L (.inl y :: .inr (.ref x) :: st) μ K = K n L (.inl y :: .inr (.ref x) :: .inl y :: .inr (.ref x) :: st) μ := by simp [stepI, any1, av2]
theorem si_iadd {x y : Int} : stepI Ret .iadd n a b z L (.inl y :: .inl x :: st) μ K = (inR (x + y) ∧ K n L (.inl (x + y) :: st) μ) := (rfl)
theorem si_isub {x y : Int} : stepI Ret .isub n a b z L (.inl y :: .inl x :: st) μ K = (inR (x - y) ∧ K n L (.inl (x - y) :: st) μ) := (rfl)
theorem si_imul {x y : Int} : stepI Ret .imul n a b z L (.inl y :: .inl x :: st) μ K = (inR (x * y) ∧ K n L (.inl (x * y) :: st) μ) := (rfl)
theorem si_idiv {x y : Int} : stepI Ret .idiv n a b z L (.inl y :: .inl x :: st) μ K = (0 ≤ x ∧ 0 < y ∧ K n L (.inl (x / y) :: st) μ) := (rfl)
theorem si_irem {x y : Int} : stepI Ret .irem n a b z L (.inl y :: .inl x :: st) μ K = (0 ≤ x ∧ 0 < y ∧ K n L (.inl (x % y) :: st) μ) := (rfl)
theorem si_ineg {x : Int} : stepI Ret .ineg n a b z L (.inl x :: st) μ K = (inR (-x) ∧ K n L (.inl (-x) :: st) μ) := (rfl)
theorem si_i2c {x : Int} : stepI Ret .i2c n a b z L (.inl x :: st) μ K = (0 ≤ x ∧ x ≤ 65535 ∧ K n L (.inl x :: st) μ) := (rfl)
theorem si_i2l {x : Int} : stepI Ret .i2l n a b z L (.inl x :: st) μ K = K n L (.inr (.long (Int64.ofInt x)) :: st) μ := (rfl)
theorem si_ladd {x y : Int64} : stepI Ret .ladd n a b z L (.inr (.long y) :: .inr (.long x) :: st) μ K = K n L (.inr (.long (x + y)) :: st) μ := (rfl)
theorem si_lmul {x y : Int64} : stepI Ret .lmul n a b z L (.inr (.long y) :: .inr (.long x) :: st) μ K = K n L (.inr (.long (x * y)) :: st) μ := (rfl)
theorem si_goto {q : Int} : stepI Ret (.goto q) n a b z L st μ K = K a L st μ := (rfl)
theorem si_zeq {q : Int} {x : Int} : stepI Ret (.ifCond .eq q) n a b z L (.inl x :: st) μ K = ((x = 0 → K a L st μ) ∧ (¬ x = 0 → K n L st μ)) := (rfl)
theorem si_zne {q : Int} {x : Int} : stepI Ret (.ifCond .ne q) n a b z L (.inl x :: st) μ K = ((¬ x = 0 → K a L st μ) ∧ (x = 0 → K n L st μ)) := by simp [stepI, un, cbr]
theorem si_zlt {q : Int} {x : Int} : stepI Ret (.ifCond .lt q) n a b z L (.inl x :: st) μ K = ((x < 0 → K a L st μ) ∧ (¬ x < 0 → K n L st μ)) := (rfl)
theorem si_zge {q : Int} {x : Int} : stepI Ret (.ifCond .ge q) n a b z L (.inl x :: st) μ K = ((0 ≤ x → K a L st μ) ∧ (¬ 0 ≤ x → K n L st μ)) := (rfl)
theorem si_zgt {q : Int} {x : Int} : stepI Ret (.ifCond .gt q) n a b z L (.inl x :: st) μ K = ((0 < x → K a L st μ) ∧ (¬ 0 < x → K n L st μ)) := (rfl)
theorem si_zle {q : Int} {x : Int} : stepI Ret (.ifCond .le q) n a b z L (.inl x :: st) μ K = ((x ≤ 0 → K a L st μ) ∧ (¬ x ≤ 0 → K n L st μ)) := (rfl)
theorem si_ceq {q : Int} {x y : Int} : stepI Ret (.if_icmp .eq q) n a b z L (.inl y :: .inl x :: st) μ K = ((x = y → K a L st μ) ∧ (¬ x = y → K n L st μ)) := (rfl)
theorem si_cne {q : Int} {x y : Int} : stepI Ret (.if_icmp .ne q) n a b z L (.inl y :: .inl x :: st) μ K = ((¬ x = y → K a L st μ) ∧ (x = y → K n L st μ)) := by simp [stepI, bin, cbr]
theorem si_clt {q : Int} {x y : Int} : stepI Ret (.if_icmp .lt q) n a b z L (.inl y :: .inl x :: st) μ K = ((x < y → K a L st μ) ∧ (¬ x < y → K n L st μ)) := (rfl)
theorem si_cge {q : Int} {x y : Int} : stepI Ret (.if_icmp .ge q) n a b z L (.inl y :: .inl x :: st) μ K = ((y ≤ x → K a L st μ) ∧ (¬ y ≤ x → K n L st μ)) := (rfl)
theorem si_cgt {q : Int} {x y : Int} : stepI Ret (.if_icmp .gt q) n a b z L (.inl y :: .inl x :: st) μ K = ((y < x → K a L st μ) ∧ (¬ y < x → K n L st μ)) := (rfl)
theorem si_cle {q : Int} {x y : Int} : stepI Ret (.if_icmp .le q) n a b z L (.inl y :: .inl x :: st) μ K = ((x ≤ y → K a L st μ) ∧ (¬ x ≤ y → K n L st μ)) := (rfl)
theorem si_ifnull {q : Int} {x : Nat} : stepI Ret (.ifnull q) n a b z L (.inr (.ref x) :: st) μ K = K n L st μ := by simp [stepI, unA]
theorem si_ifnullN {q : Int} : stepI Ret (.ifnull q) n a b z L (.inr .null :: st) μ K = K a L st μ := by simp [stepI, unA]
def xTS (pc : Nat) (x lo : Int) (offs : List Int) (L : Lc) (st : List AV) (μ : Mem) (K : aK) : Prop := tsw pc x lo offs fun t => K t L st μ
theorem e_ts0 {pc : Nat} {x lo : Int} : xTS pc x lo [] L st μ K = True := (rfl)
theorem e_tss {pc : Nat} {x lo o : Int} {os : List Int} : xTS pc x lo (o :: os) L st μ K = ((x = lo → K ((pc : Int) + o).toNat L st μ) ∧ xTS pc x (lo + 1) os L st μ K) := (rfl)
theorem si_tableswitch {d lo hi : Int} {offs : Array Int} {x : Int} : stepI Ret (.tableswitch d lo hi offs) n a b z L (.inl x :: st) μ K = ((x < lo ∨ hi < x → K ((a : Int) + d).toNat L st μ) ∧ xTS a x lo offs.toList L st μ K) := (rfl)
def xGF (sh : Shp) (k b a n : Nat) (z : Int) (L : Lc) (st : List AV) (μ : Mem) (K : aK) : Prop := gfld sh b a (K n L (.inl (μ k z) :: st) μ) fun r => K n L (.inr (.ref r) :: st) μ
def xGT : List (Option Nat) → Nat → Nat → Nat → Int → Lc → List AV → Mem → aK → Prop
  | [], _, _, _, _, _, _, _, _ => False
  | none :: _, 0, k, n, z, L, st, μ, K => K n L (.inl (μ k z) :: st) μ
  | some r :: _, 0, _, n, _, L, st, μ, K => K n L (.inr (.ref r) :: st) μ
  | _ :: fs, f + 1, k, n, z, L, st, μ, K => xGT fs f k n z L st μ K
theorem xGT_eq : ∀ (fs : List (Option Nat)) (f : Nat) (k : Nat), (match fs[f]? with | some none => K n L (.inl (μ k z) :: st) μ | some (some r) => K n L (.inr (.ref r) :: st) μ | none => False) = xGT fs f k n z L st μ K
  | [], f, k => by simp [xGT]
  | none :: _, 0, k => by simp [xGT]
  | some r :: _, 0, k => by simp [xGT]
  | none :: fs, f + 1, k => by simpa [xGT] using xGT_eq fs f k
  | some r :: fs, f + 1, k => by simpa [xGT] using xGT_eq fs f k
theorem si_getfield {q k : Nat} : stepI Ret (.getfield q) n a b z L (.inr (.ref k) :: st) μ K = xGF (shp k) k b a n z L st μ K := (rfl)
theorem e_gf {c k : Nat} {fs : List (Option Nat)} : xGF (.inl (c, fs)) k b a n z L st μ K = (c = b ∧ xGT fs a k n z L st μ K) := by
  rw [← xGT_eq]; rfl
theorem e_f0 {k : Nat} {fs : List (Option Nat)} : xGT (none :: fs) 0 k n z L st μ K = K n L (.inl (μ k z) :: st) μ := (rfl)
theorem e_fr {r k : Nat} {fs : List (Option Nat)} : xGT (some r :: fs) 0 k n z L st μ K = K n L (.inr (.ref r) :: st) μ := (rfl)
theorem e_fs {o : Option Nat} {k f : Nat} {fs : List (Option Nat)} : xGT (o :: fs) (f + 1) k n z L st μ K = xGT fs f k n z L st μ K := by cases o <;> rfl
def xPF (sh : Shp) (k b a n : Nat) (z x : Int) (L : Lc) (st : List AV) (μ : Mem) (K : aK) : Prop := pfld sh b a (K n L st (stM μ k z x))
def xPT : List (Option Nat) → Nat → Nat → Nat → Int → Int → Lc → List AV → Mem → aK → Prop
  | [], _, _, _, _, _, _, _, _, _ => False
  | none :: _, 0, k, n, z, x, L, st, μ, K => K n L st (stM μ k z x)
  | some _ :: _, 0, _, _, _, _, _, _, _, _ => False
  | _ :: fs, f + 1, k, n, z, x, L, st, μ, K => xPT fs f k n z x L st μ K
theorem xPT_eq {x : Int} : ∀ (fs : List (Option Nat)) (f k : Nat), (fs[f]? = some none ∧ K n L st (stM μ k z x)) = xPT fs f k n z x L st μ K
  | [], f, k => by simp [xPT]
  | none :: _, 0, k => by simp [xPT]
  | some r :: _, 0, k => by simp [xPT]
  | none :: fs, f + 1, k => by simpa [xPT] using xPT_eq fs f k
  | some r :: fs, f + 1, k => by simpa [xPT] using xPT_eq fs f k
theorem si_putfield {q k : Nat} {x : Int} : stepI Ret (.putfield q) n a b z L (.inl x :: .inr (.ref k) :: st) μ K = xPF (shp k) k b a n z x L st μ K := (rfl)
theorem e_pf {c k : Nat} {x : Int} {fs : List (Option Nat)} : xPF (.inl (c, fs)) k b a n z x L st μ K = (c = b ∧ xPT fs a k n z x L st μ K) := by
  rw [← xPT_eq]; rfl
theorem e_p0 {k : Nat} {x : Int} {fs : List (Option Nat)} : xPT (none :: fs) 0 k n z x L st μ K = K n L st (stM μ k z x) := (rfl)
theorem e_ps {o : Option Nat} {k f : Nat} {x : Int} {fs : List (Option Nat)} : xPT (o :: fs) (f + 1) k n z x L st μ K = xPT fs f k n z x L st μ K := by cases o <;> rfl
theorem si_getstatic {q : Nat} : stepI Ret (.getstatic q) n a b z L st μ K = K n L (.inr (.ref a) :: st) μ := (rfl)
def xAL (sh : Shp) (k n : Nat) (L : Lc) (st : List AV) (μ : Mem) (K : aK) : Prop := arrL sh fun d len => (d = 3 → k = 1001 ∨ k = 1002) ∧ K n L (.inl len :: st) μ
theorem si_arraylength {k : Nat} : stepI Ret .arraylength n a b z L (.inr (.ref k) :: st) μ K = xAL (shp k) k n L st μ K := (rfl)
theorem e_al {k d len : Nat} : xAL (.inr (d, len)) k n L st μ K = ((d = 3 → k = 1001 ∨ k = 1002) ∧ K n L (.inl len :: st) μ) := (rfl)
def xIA (sh : Shp) (i : Int) (k n : Nat) (L : Lc) (st : List AV) (μ : Mem) (K : aK) : Prop := arrL sh fun d len => 0 ≤ i ∧ i < len ∧ ((d = 0 ∧ K n L (.inl (μ k i) :: st) μ) ∨ (d = 3 ∧ (k = 1001 ∨ k = 1002) ∧ K n L (.inl (stv k i) :: st) μ))
theorem si_iaload {k : Nat} {i : Int} : stepI Ret .iaload n a b z L (.inl i :: .inr (.ref k) :: st) μ K = xIA (shp k) i k n L st μ K := (rfl)
theorem e_ia0 {k len : Nat} {i : Int} : xIA (.inr (0, len)) i k n L st μ K = (0 ≤ i ∧ i < len ∧ K n L (.inl (μ k i) :: st) μ) := by simp [xIA, arrL]
theorem e_ia3 {k len : Nat} {i : Int} : xIA (.inr (3, len)) i k n L st μ K = (0 ≤ i ∧ i < len ∧ (k = 1001 ∨ k = 1002) ∧ K n L (.inl (stv k i) :: st) μ) := by simp [xIA, arrL]
def xCA (sh : Shp) (i : Int) (k n : Nat) (L : Lc) (st : List AV) (μ : Mem) (K : aK) : Prop := arrL sh fun d len => 0 ≤ i ∧ i < len ∧ d = 1 ∧ K n L (.inl (μ k i) :: st) μ
theorem si_caload {k : Nat} {i : Int} : stepI Ret .caload n a b z L (.inl i :: .inr (.ref k) :: st) μ K = xCA (shp k) i k n L st μ K := (rfl)
theorem e_ca {k len : Nat} {i : Int} : xCA (.inr (1, len)) i k n L st μ K = (0 ≤ i ∧ i < len ∧ K n L (.inl (μ k i) :: st) μ) := by simp [xCA, arrL]
def xAA (sh : Shp) (i : Int) (n : Nat) (L : Lc) (st : List AV) (μ : Mem) (K : aK) : Prop := arrL sh fun d len => 0 ≤ i ∧ i < len ∧ d = 2 ∧ K n L (.inr (.ref (gHist i.toNat)) :: st) μ
theorem si_aaload {k : Nat} {i : Int} : stepI Ret .aaload n a b z L (.inl i :: .inr (.ref k) :: st) μ K = xAA (shp k) i n L st μ K := (rfl)
theorem e_aa {len : Nat} {i : Int} : xAA (.inr (2, len)) i n L st μ K = (0 ≤ i ∧ i < len ∧ K n L (.inr (.ref (gHist i.toNat)) :: st) μ) := by simp [xAA, arrL]
def xIS (sh : Shp) (i x : Int) (k n : Nat) (L : Lc) (st : List AV) (μ : Mem) (K : aK) : Prop := arrL sh fun d len => 0 ≤ i ∧ i < len ∧ d = 0 ∧ K n L st (stM μ k i x)
theorem si_iastore {k : Nat} {i x : Int} : stepI Ret .iastore n a b z L (.inl x :: .inl i :: .inr (.ref k) :: st) μ K = xIS (shp k) i x k n L st μ K := (rfl)
theorem e_is {k len : Nat} {i x : Int} : xIS (.inr (0, len)) i x k n L st μ K = (0 ≤ i ∧ i < len ∧ K n L st (stM μ k i x)) := by simp [xIS, arrL]
def xCS (sh : Shp) (i x : Int) (k n : Nat) (L : Lc) (st : List AV) (μ : Mem) (K : aK) : Prop := arrL sh fun d len => 0 ≤ i ∧ i < len ∧ d = 1 ∧ 0 ≤ x ∧ x ≤ 65535 ∧ K n L st (stM μ k i x)
theorem si_castore {k : Nat} {i x : Int} : stepI Ret .castore n a b z L (.inl x :: .inl i :: .inr (.ref k) :: st) μ K = xCS (shp k) i x k n L st μ K := (rfl)
theorem e_cs {k len : Nat} {i x : Int} : xCS (.inr (1, len)) i x k n L st μ K = (0 ≤ i ∧ i < len ∧ 0 ≤ x ∧ x ≤ 65535 ∧ K n L st (stM μ k i x)) := by simp [xCS, arrL]
def rcvS (s : Shp) (z : Int) : Prop := match s with
  | .inl (c, _) => c = z.toNat
  | .inr _ => False
theorem e_rcv {r : Nat} {t : List AV} {z : Int} : rcv (.inr (.ref r) :: t) z = rcvS (shp r) z := (rfl)
theorem e_rcS {c : Nat} {fs : List (Option Nat)} {z : Int} : rcvS (.inl (c, fs)) z = (c = z.toNat) := (rfl)
theorem si_invokevirtual {q : Nat} : stepI Ret (.invokevirtual q) n a b z L st μ K = (b ≤ st.length ∧ (st.drop b).length ≤ 4 ∧ rcv (st.take b).reverse z ∧ wpM a (st.take b).reverse μ (kc K n L (st.drop b))) := (rfl)
def xCP (sh0 sh1 : Shp) (a0 a1 : Nat) (sp dp m : Int) (n : Nat) (L : Lc) (st : List AV) (μ : Mem) (K : aK) : Prop := arrL sh0 fun d0 n0 => arrL sh1 fun d1 n1 => d0 = d1 ∧ d0 < 2 ∧ 0 ≤ sp ∧ 0 ≤ dp ∧ 0 ≤ m ∧ sp + m ≤ n0 ∧ dp + m ≤ n1 ∧ K n L st (cpM μ a0 a1 sp dp m)
theorem e_cp {d0 n0 d1 n1 a0 a1 : Nat} {sp dp m : Int} : xCP (.inr (d0, n0)) (.inr (d1, n1)) a0 a1 sp dp m n L st μ K = (d0 = d1 ∧ d0 < 2 ∧ 0 ≤ sp ∧ 0 ≤ dp ∧ 0 ≤ m ∧ sp + m ≤ n0 ∧ dp + m ≤ n1 ∧ K n L st (cpM μ a0 a1 sp dp m)) := (rfl)
def xSV (s : Bool) (n a b : Nat) (L : Lc) (st : List AV) (μ : Mem) (K : aK) : Prop := bif s then (if a = 1000 then bin st fun x y st => st.length ≤ 4 ∧ K n L (.inl (imax x y) :: st) μ else if a = 1001 then bin st fun x y st => st.length ≤ 4 ∧ K n L (.inl (imin x y) :: st) μ else acopy st fun a0 a1 sp dp m st => st.length ≤ 4 ∧ xCP (shp a0) (shp a1) a0 a1 sp dp m n L st μ K) else (b ≤ st.length ∧ (st.drop b).length ≤ 4 ∧ wpM a (st.take b).reverse μ (kc K n L (st.drop b)))
theorem si_invokestatic {q : Nat} : stepI Ret (.invokestatic q) n a b z L st μ K = xSV (a == 1000 || (a == 1001 || a == 1002)) n a b L st μ K := by
  unfold xSV stepI
  by_cases h : a = 1000
  · subst h; rfl
  · by_cases h1 : a = 1001
    · subst h1; rfl
    · by_cases h2 : a = 1002
      · subst h2; rfl
      · simp [h, h1, h2]
theorem e_sv {K : aK} : xSV false n a b L st μ K = (b ≤ st.length ∧ (st.drop b).length ≤ 4 ∧ wpM a (st.take b).reverse μ (kc K n L (st.drop b))) := (rfl)
theorem e_smax {x y : Int} : xSV true n 1000 b L (.inl y :: .inl x :: st) μ K = (st.length ≤ 4 ∧ K n L (.inl (imax x y) :: st) μ) := (rfl)
theorem e_smin {x y : Int} : xSV true n 1001 b L (.inl y :: .inl x :: st) μ K = (st.length ≤ 4 ∧ K n L (.inl (imin x y) :: st) μ) := (rfl)
theorem e_scp {m dp sp : Int} {k k0 : Nat} : xSV true n 1002 b L (.inl m :: .inl dp :: .inr (.ref k) :: .inl sp :: .inr (.ref k0) :: st) μ K = (st.length ≤ 4 ∧ xCP (shp k0) (shp k) k0 k sp dp m n L st μ K) := (rfl)
theorem si_ireturn {x : Int} : stepI Ret .ireturn n a b z L [.inl x] μ K = ((b = 0 ∨ (b = 1 ∧ (x = 0 ∨ x = 1)) ∨ (b = 2 ∧ 0 ≤ x ∧ x ≤ 65535)) ∧ Ret (some (.inl x)) μ) := by simp [stepI, un]
theorem si_lreturn {x : Int64} : stepI Ret .lreturn n a b z L [.inr (.long x)] μ K = Ret (some (.inr (.long x))) μ := by simp [stepI, unL]
theorem si_areturn {x : Nat} : stepI Ret .areturn n a b z L [.inr (.ref x)] μ K = Ret (some (.inr (.ref x))) μ := by simp [stepI, unA]
theorem si_areturnN : stepI Ret .areturn n a b z L [.inr .null] μ K = Ret (some (.inr .null)) μ := by simp [stepI, unA]
theorem si_return_ : stepI Ret .return_ n a b z L [] μ K = Ret none μ := by simp [stepI]
end SI

