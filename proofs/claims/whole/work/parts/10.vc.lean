/-! A METHOD: its own judgement AW, its conditions vc by computing, its contract (laid by wip/whole/tools/gen10.py) -/
section SND5
variable {p : Program} {l : Launch} {e : Env} {R : Room} {s : State} {m : MethodId} {args : Array Value} {below : List Frame} {meth : Method} {c : Code} {cells slots : Nat} {QW : State → Prop} {cc : ByteArray} {own : String} {nL : Nat} {ret : Option FieldType} {ad : Nat → Nat} {D : va_G} {cI cC cG : ClassId} {A0 : Nat → Prop}
theorem sd_ret (X : aX p s m args meth c R 0 0 cc own nL ad D cI cC cG (aA ad)) {K : aK} {Ret : Option AV → Mem → Prop} {i : Instr} {n a b w : Nat} {z : Int} {pc : Nat} {L : Lc} {st : List AV} {μ : Mem} (hr : meth.sig.returnType = ret) (hlk : meth.locks = false) (hok : okE own cc ret nL R.frames R.locals pc (i, n, a, b, w, z) = true)
    (hi : i = .ireturn ∨ i = .lreturn ∨ i = .areturn ∨ i = .return_) (h : stepI Ret i n a b z L st μ K) : aG p l e R s m args below meth c 0 0 (MQ below (aQ ad D cI cC cG Ret) args s 0 0 (aA ad)) nL ad D cI cC cG (aA ad) pc L st μ := by
  intro H locs ls hP hS hL hR hst
  obtain ⟨⟨hx, hb, hml, hown, hts⟩, hKn, hSt, hNs, hA, hI, hc, hs⟩ := X
  have fin : ∀ (r : Option AV), Ret r μ → (∀ v, r = some v → wfv v) → ∀ t : State, t.heap = H → aQ ad D cI cC cG Ret args s (.returned (r.map (conc ad))) t := by
    intro r hq hw t ht
    exact ⟨⟨r, μ, rfl, hq, hw, by rw [ht]; exact hP, hR⟩, hS.F ht⟩
  rcases hi with rfl | rfl | rfl | rfl
  · obtain ⟨hd, hn, hB⟩ := okE_inv rfl hok
    simp only [okB, Bool.and_eq_true, Bool.or_eq_true, decide_eq_true_eq] at hB
    obtain ⟨x, t, rfl, rfl, hb2, hq⟩ := un_inv h
    have hf := fin _ hq (fun v hv => by cases hv; exact wf_h hst)
    rcases hB with (⟨hb3, rfl⟩ | ⟨hb3, rfl⟩) | ⟨hb3, rfl⟩
    · exact W.iret hx hb hr (fun t ht _ => hf t ht) hS.2.2 hd hlk
    · have hx1 : x = 0 ∨ x = 1 := by omega
      exact W.zret hx hb hr (by rcases hx1 with rfl | rfl <;> rfl) (fun t ht _ => hf t ht) hS.2.2 hd hlk
    · have hx1 : 0 ≤ x ∧ x ≤ 65535 := by omega
      obtain ⟨k, rfl⟩ : ∃ k : Nat, x = k := ⟨x.toNat, by omega⟩
      exact W.zret hx hb hr (by rw [← i32_nat]; exact (pk_charN (q := k) (by omega)).1) (fun t ht _ => hf t ht) hS.2.2 hd hlk
  · obtain ⟨hd, hn, hB⟩ := okE_inv rfl hok
    simp only [okB, decide_eq_true_eq] at hB
    subst hB
    obtain ⟨x, t, rfl, rfl, hq⟩ := unL_inv h
    have hf := fin _ hq (fun v hv => by cases hv; trivial)
    exact W.lret hx hb hr (fun t ht _ => hf t ht) hS.2.2 hd hlk
  · obtain ⟨hd, hn, hB⟩ := okE_inv rfl hok
    simp only [okB, Bool.or_eq_true, decide_eq_true_eq] at hB
    have hrt : ∃ rt, ret = some rt ∧ ∃ n, rt = FieldType.object n := by
      rcases hB with rfl | rfl
      · exact ⟨_, rfl, _, rfl⟩
      · exact ⟨_, rfl, _, rfl⟩
    obtain ⟨rt, rfl, hrt⟩ := hrt
    rcases unA_inv (show unA st (fun v st => st = [] ∧ Ret (some v) μ) from h) with ⟨x, t, rfl, rfl, hq⟩ | ⟨t, rfl, rfl, hq⟩
    · have hf := fin _ hq (fun v hv => by cases hv; trivial)
      exact W.aret hx hb hr (Or.inl hrt) (Or.inr ⟨_, rfl⟩) (fun t ht _ => hf t ht) hS.2.2 hd hlk
    · have hf := fin _ hq (fun v hv => by cases hv; trivial)
      exact W.aret hx hb hr (Or.inl hrt) (Or.inl rfl) (fun t ht _ => hf t ht) hS.2.2 hd hlk
  · obtain ⟨hd, hn, hB⟩ := okE_inv rfl hok
    simp only [okB, decide_eq_true_eq] at hB
    subst hB
    obtain ⟨rfl, hq⟩ := (show st = [] ∧ Ret none μ from h)
    have hf := fin _ hq (fun v hv => by cases hv)
    exact W.vret hx hb hr (fun t ht _ => hf t ht) hS.2.2 hd hlk
end SND5
/-- method a, at pc with these locals, stack, memory: it comes back with Ret -/
def AW (a : Nat) (Ret : Option AV → Mem → Prop) : aK := fun pc L st μ =>
  ∀ (p : Program) (l : Launch) (e : Env) (s : State) (m : MethodId) (args : Array Value) (below : List Frame) (meth : Method) (c : Code) (ad : Nat → Nat) (D : va_G) (cI cC cG : ClassId),
    aX p s m args meth c (mR a) 0 0 (mB a) (mY a).cls (mL a) ad D cI cC cG (aA ad) → meth.sig.returnType = mT a → meth.locks = false →
    aG p l e (mR a) s m args below meth c 0 0 (MQ below (aQ ad D cI cC cG Ret) args s 0 0 (aA ad)) (mL a) ad D cI cC cG (aA ad) pc L st μ
abbrev tE : Type := List (Option (Instr × E5))
def tat (T : tE) (pc : Nat) : Option (Instr × E5) := (T[pc]?).join
def okT (a : Nat) (T : tE) : Bool := T.zipIdx.all fun q => match q.1 with
  | some x => okE (mY a).cls (mB a) (mT a) (mL a) (mR a).frames (mR a).locals q.2 x
  | none => true
def memN : List Nat → Nat → Bool
  | [], _ => false
  | a :: l, n => (a == n) || memN l n
def stepO (Ret : Option AV → Mem → Prop) (x : Option (Instr × E5)) (L : Lc) (st : List AV) (μ : Mem) (K : aK) : Prop := match x with
  | some (i, n, a, b, _, z) => stepI Ret i n a b z L st μ K
  | none => False
def vcG (G : aK) (Ret : Option AV → Mem → Prop) (T : tE) (stop : List Nat) : Nat → aK
  | 0 => G
  | f + 1 => fun pc L st μ => bif memN stop pc then G pc L st μ else stepO Ret (tat T pc) L st μ (vcG G Ret T stop f)
/-- one step first, then on to the stops -/
def vc1 (G : aK) (Ret : Option AV → Mem → Prop) (T : tE) (stop : List Nat) (f : Nat) : aK := fun pc L st μ => stepO Ret (tat T pc) L st μ (vcG G Ret T stop f)
theorem tat_ok {a : Nat} {T : tE} (h : okT a T = true) {pc : Nat} {x : Instr × E5} (e : tat T pc = some x) : okE (mY a).cls (mB a) (mT a) (mL a) (mR a).frames (mR a).locals pc x = true := by
  unfold tat at e
  have e2 : T[pc]? = some (some x) := by
    cases e3 : T[pc]? with
    | none => rw [e3] at e; cases e
    | some y => rw [e3] at e; rw [show y = some x from e]
  have h1 := List.all_eq_true.mp h (some x, pc) (by rw [List.mem_zipIdx_iff_getElem?]; exact e2)
  exact h1
theorem AW_step {a : Nat} {T : tE} {Ret : Option AV → Mem → Prop} {K : aK} (h : okT a T = true) (hK : ∀ pc L st μ, K pc L st μ → AW a Ret pc L st μ) {pc : Nat} {L : Lc} {st : List AV} {μ : Mem} (hs : stepO Ret (tat T pc) L st μ K) : AW a Ret pc L st μ := by
  intro p l e s m args below meth c ad D cI cC cG X hr hlk
  cases e1 : tat T pc with
  | none => rw [e1] at hs; exact hs.elim
  | some x =>
    rw [e1] at hs
    obtain ⟨i, n, x1, b, w, z⟩ := x
    have ho := tat_ok h e1
    exact step_snd X ho (fun hi hh => sd_ret X hr hlk ho hi hh) (fun pc L st μ hk => hK pc L st μ hk p l e s m args below meth c ad D cI cC cG X hr hlk) hs
theorem vc_snd {a : Nat} {T : tE} {Ret : Option AV → Mem → Prop} {stop : List Nat} (h : okT a T = true) : ∀ (f pc : Nat) (L : Lc) (st : List AV) (μ : Mem), vcG (AW a Ret) Ret T stop f pc L st μ → AW a Ret pc L st μ := by
  intro f
  induction f with
  | zero => exact fun pc L st μ h => h
  | succ f ih =>
    intro pc L st μ hv
    unfold vcG at hv
    cases hm : memN stop pc with
    | true => rw [hm] at hv; exact hv
    | false =>
      rw [hm] at hv
      exact AW_step h ih hv
theorem vc1_snd {a : Nat} {T : tE} {Ret : Option AV → Mem → Prop} {stop : List Nat} (h : okT a T = true) (f : Nat) {pc : Nat} {L : Lc} {st : List AV} {μ : Mem} (hv : vc1 (AW a Ret) Ret T stop f pc L st μ) : AW a Ret pc L st μ := AW_step h (vc_snd h f) hv
def mkL (as : List AV) (n : Nat) : Lc := as.map some ++ List.replicate (n - as.length) none
theorem lget_map : ∀ (as : List AV) (r : Lc) (i : Nat), lget (as.map some ++ r) i = if i < as.length then as[i]? else lget r (i - as.length)
  | [], r, i => by simp
  | a :: as, r, 0 => by simp [lget]
  | a :: as, r, i + 1 => by
    simp only [List.map_cons, List.cons_append, lget, lget_map as r i, List.length_cons, List.getElem?_cons_succ]
    by_cases h : i < as.length
    · rw [if_pos h, if_pos (by omega)]
    · rw [if_neg h, if_neg (by omega)]; congr 1; omega
theorem lget_rep : ∀ (n i : Nat), lget (List.replicate n none) i = none
  | 0, i => rfl
  | n + 1, 0 => rfl
  | n + 1, i + 1 => by simp only [List.replicate_succ, lget]; exact lget_rep n i
theorem lv_args1 : ∀ (vs : List Value) (n : Nat), (∀ v ∈ vs, v.category = 1) → ∀ (i : Nat) (v : Value), vs[i]? = some v → (n + i, v) ∈ lv_args n vs
  | [], n, h, i, v, hv => by simp at hv
  | x :: vs, n, h, 0, v, hv => by
    simp only [List.getElem?_cons_zero, Option.some.injEq] at hv
    subst hv
    unfold lv_args
    simp
  | x :: vs, n, h, i + 1, v, hv => by
    have hx : x.category = 1 := h x List.mem_cons_self
    simp only [List.getElem?_cons_succ] at hv
    have := lv_args1 vs (n + 1) (fun w hw => h w (List.mem_cons_of_mem _ hw)) i v hv
    unfold lv_args
    simp only [hx]
    exact List.mem_cons_of_mem _ (by rw [show n + (i + 1) = n + 1 + i by omega]; exact this)
theorem sl_len : ∀ (vs : List Value), (∀ v ∈ vs, v.category = 1) → (lg_sl vs).length = vs.length
  | [], _ => rfl
  | x :: vs, h => by
    have hx : x.category = 1 := h x List.mem_cons_self
    have := sl_len vs (fun w hw => h w (List.mem_cons_of_mem _ hw))
    unfold lg_sl at this ⊢
    simp [hx, this]
/-- the contract of method a out of its walk -/
theorem wp_of {a : Nat} (ha : a < 181) {as : List AV} {μ : Mem} {Q : Option AV → Mem → Prop} (h1 : as.all (fun v => !av2 v) = true) (h2 : as.length ≤ mL a) (hw : (∀ v ∈ as, wfv v) → AW a Q 0 (mkL as (mL a)) [] μ) : wpM a as μ Q := by
  intro hwf l ad D cI cC cG
  refine Met.ofW (cc := mB a) (maxL := mL a) (ret := mT a) (okM_inv ha).1.2 rfl ?_
  intro p e s m args below meth c s₁ B hml hv
  obtain ⟨rfl, hP, hK, hSt, hNs, hI, hR⟩ := hv
  have hts := atoms_spec (ws := mW a) B.pre
  have X : aX p s m (as.map (conc ad)).toArray meth c (mR a) 0 0 (mB a) (mY a).cls (mL a) ad D cI cC cG (aA ad) :=
    ⟨⟨B.exec, B.bytes, hml, findClass_of_methodNamed B.named, fun w hw => hts w (List.mem_cons_of_mem _ hw)⟩, hK, hSt, hNs, fun k hk => ⟨k, hk, rfl⟩, hI, Nat.zero_le _, Nat.zero_le _⟩
  have hcat : ∀ v ∈ as.map (conc ad), v.category = 1 := by
    intro v hv
    obtain ⟨w, hw1, rfl⟩ := List.mem_map.mp hv
    have := List.all_eq_true.mp h1 w hw1
    rw [conc_cat]
    simp only [Bool.not_eq_true'] at this
    rw [this]; rfl
  have hl := lv_entry (as.map (conc ad)) (n := mL a) (by rw [sl_len _ hcat]; simpa using h2)
  rw [lg_entry_eq]
  generalize (lg_sl (as.map (conc ad)) ++ List.replicate (mL a - (lg_sl (as.map (conc ad))).length) Slot.unset).toArray = ls at hl ⊢
  refine hw hwf p l e s m _ below meth c ad D cI cC cG X B.returns B.notSynchronized s.heap [] ls hP va_S.rf ⟨hl.1, hl.2.1, fun i v hi => ?_⟩ hR (fun v hv => absurd hv List.not_mem_nil)
  unfold mkL at hi
  rw [lget_map] at hi
  by_cases h9 : i < as.length
  · rw [if_pos h9] at hi
    refine ⟨hl.2.2 (i, conc ad v) ?_, hwf v (List.mem_of_getElem? hi)⟩
    have := lv_args1 (as.map (conc ad)) 0 hcat i (conc ad v) (by rw [List.getElem?_map, hi]; rfl)
    simpa using this
  · rw [if_neg h9, lget_rep] at hi
    cases hi
theorem wp_mono {a : Nat} {as : List AV} {μ : Mem} {Q Q' : Option AV → Mem → Prop} (h : wpM a as μ Q) (hq : ∀ r μ', Q r μ' → Q' r μ') : wpM a as μ Q' := by
  intro hwf l ad D cI cC cG p e ha hc hk s m args below hf ok hP hK
  obtain ⟨k, o, h1, h2, h3, ⟨⟨r, μ', e1, e2, e3⟩, e4⟩, h5⟩ := h hwf l ad D cI cC cG p e ha hc hk s m args below hf ok hP hK
  exact ⟨k, o, h1, h2, h3, ⟨⟨r, μ', e1, hq _ _ e2, e3⟩, e4⟩, h5⟩
/-! the rows by which conditions are computed -/
theorem vc_s {G : aK} {Ret : Option AV → Mem → Prop} {T : tE} {stop : List Nat} {f pc : Nat} {L : Lc} {st : List AV} {μ : Mem} : vcG G Ret T stop (f + 1) pc L st μ = (bif memN stop pc then G pc L st μ else stepO Ret (tat T pc) L st μ (vcG G Ret T stop f)) := rfl
theorem vc_1 {G : aK} {Ret : Option AV → Mem → Prop} {T : tE} {stop : List Nat} {f pc : Nat} {L : Lc} {st : List AV} {μ : Mem} : vc1 G Ret T stop f pc L st μ = stepO Ret (tat T pc) L st μ (vcG G Ret T stop f) := rfl
theorem so_ {Ret : Option AV → Mem → Prop} {i : Instr} {n a b w : Nat} {z : Int} {L : Lc} {st : List AV} {μ : Mem} {K : aK} : stepO Ret (some (i, n, a, b, w, z)) L st μ K = stepI Ret i n a b z L st μ K := rfl
theorem mn_0 {n : Nat} : memN [] n = false := rfl
theorem mn_s {a n : Nat} {l : List Nat} : memN (a :: l) n = ((a == n) || memN l n) := rfl
theorem e_ldI {x : Int} {k : Int → Prop} : ldI (some (.inl x)) k = k x := rfl
theorem e_ldR {x : Nat} {k : AV → Prop} : ldR (some (.inr (.ref x))) k = k (.inr (.ref x)) := rfl
theorem e_ldN {k : AV → Prop} : ldR (some (.inr .null)) k = k (.inr .null) := rfl
theorem e_ldL {x : Int64} {k : Int64 → Prop} : ldL (some (.inr (.long x))) k = k x := rfl
theorem e_un {x : Int} {st : List AV} {k : Int → List AV → Prop} : un (.inl x :: st) k = k x st := rfl
theorem e_bin {x y : Int} {st : List AV} {k : Int → Int → List AV → Prop} : bin (.inl y :: .inl x :: st) k = k x y st := rfl
theorem e_unR {x : Nat} {st : List AV} {k : Nat → List AV → Prop} : unR (.inr (.ref x) :: st) k = k x st := rfl
theorem e_unL {x : Int64} {st : List AV} {k : Int64 → List AV → Prop} : unL (.inr (.long x) :: st) k = k x st := rfl
theorem e_binL {x y : Int64} {st : List AV} {k : Int64 → Int64 → List AV → Prop} : binL (.inr (.long y) :: .inr (.long x) :: st) k = k x y st := rfl
theorem e_unA {x : Nat} {st : List AV} {k : AV → List AV → Prop} : unA (.inr (.ref x) :: st) k = k (.inr (.ref x)) st := rfl
theorem e_unAN {st : List AV} {k : AV → List AV → Prop} : unA (.inr .null :: st) k = k (.inr .null) st := rfl
theorem e_anyI {x : Int} {st : List AV} {k : AV → List AV → Prop} : any1 (.inl x :: st) k = k (.inl x) st := by simp [any1, av2]
theorem e_anyR {x : Nat} {st : List AV} {k : AV → List AV → Prop} : any1 (.inr (.ref x) :: st) k = k (.inr (.ref x)) st := by simp [any1, av2]
theorem e_anyN {st : List AV} {k : AV → List AV → Prop} : any1 (.inr .null :: st) k = k (.inr .null) st := by simp [any1, av2]
def fgt : List (Option Nat) → Nat → Prop → (Nat → Prop) → Prop
  | [], _, _, _ => False
  | none :: _, 0, kI, _ => kI
  | some r :: _, 0, _, kR => kR r
  | _ :: fs, f + 1, kI, kR => fgt fs f kI kR
theorem fgt_eq : ∀ (fs : List (Option Nat)) (f : Nat) (kI : Prop) (kR : Nat → Prop), (match fs[f]? with | some none => kI | some (some r) => kR r | none => False) = fgt fs f kI kR
  | [], f, kI, kR => by simp [fgt]
  | none :: _, 0, kI, kR => by simp [fgt]
  | some r :: _, 0, kI, kR => by simp [fgt]
  | none :: fs, f + 1, kI, kR => by simpa [fgt] using fgt_eq fs f kI kR
  | some r :: fs, f + 1, kI, kR => by simpa [fgt] using fgt_eq fs f kI kR
theorem e_gf {c ci f : Nat} {fs : List (Option Nat)} {kI : Prop} {kR : Nat → Prop} : gfld (.inl (c, fs)) ci f kI kR = (c = ci ∧ fgt fs f kI kR) := by
  rw [← fgt_eq]; rfl
def fpt : List (Option Nat) → Nat → Prop → Prop
  | [], _, _ => False
  | none :: _, 0, k => k
  | some _ :: _, 0, _ => False
  | _ :: fs, f + 1, k => fpt fs f k
theorem fpt_eq : ∀ (fs : List (Option Nat)) (f : Nat) (k : Prop), (fs[f]? = some none ∧ k) = fpt fs f k
  | [], f, k => by simp [fpt]
  | none :: _, 0, k => by simp [fpt]
  | some r :: _, 0, k => by simp [fpt]
  | none :: fs, f + 1, k => by simpa [fpt] using fpt_eq fs f k
  | some r :: fs, f + 1, k => by simpa [fpt] using fpt_eq fs f k
theorem e_pf {c ci f : Nat} {fs : List (Option Nat)} {k : Prop} : pfld (.inl (c, fs)) ci f k = (c = ci ∧ fpt fs f k) := by
  rw [← fpt_eq]; rfl
theorem e_arr {d n : Nat} {k : Nat → Nat → Prop} : arrL (.inr (d, n)) k = k d n := rfl
def rcvS (s : Shp) (z : Int) : Prop := match s with
  | .inl (c, _) => c = z.toNat
  | .inr _ => False
theorem e_rcv {r : Nat} {t : List AV} {z : Int} : rcv (.inr (.ref r) :: t) z = rcvS (shp r) z := rfl
theorem e_rcS {c : Nat} {fs : List (Option Nat)} {z : Int} : rcvS (.inl (c, fs)) z = (c = z.toNat) := rfl
theorem e_cp {n dp sp : Int} {a a0 : Nat} {st : List AV} {k : Nat → Nat → Int → Int → Int → List AV → Prop} : acopy (.inl n :: .inl dp :: .inr (.ref a) :: .inl sp :: .inr (.ref a0) :: st) k = k a0 a sp dp n st := rfl
theorem e_ceq {x y : Int} : cbr .eq x y = (x = y) := rfl
theorem e_cne {x y : Int} : cbr .ne x y = (¬ x = y) := rfl
theorem e_clt {x y : Int} : cbr .lt x y = (x < y) := rfl
theorem e_cge {x y : Int} : cbr .ge x y = (y ≤ x) := rfl
theorem e_cgt {x y : Int} : cbr .gt x y = (y < x) := rfl
theorem e_cle {x y : Int} : cbr .le x y = (x ≤ y) := rfl
theorem e_nlg0 {L : Lc} : nlg L 0 = true := rfl
theorem e_nlgI {L : Lc} {i : Nat} : nlg L (i + 1) = nlgv (lget L i) := rfl
theorem e_nvI {x : Int} : nlgv (some (.inl x)) = true := rfl
theorem e_nvR {x : Nat} : nlgv (some (.inr (.ref x))) = true := rfl
theorem e_nvN : nlgv (some (.inr .null)) = true := rfl
theorem e_nv0 : nlgv none = true := rfl
theorem e_kc {K : aK} {n : Nat} {L : Lc} {st : List AV} {r : Option AV} {μ : Mem} : kc K n L st r μ = K n L (r.toList ++ st) μ := rfl
theorem e_lg0 {v : Option AV} {L : Lc} : lget (v :: L) 0 = v := rfl
theorem e_lgs {v : Option AV} {L : Lc} {n : Nat} : lget (v :: L) (n + 1) = lget L n := rfl
theorem e_ls0 {o : Option AV} {L : Lc} {v : AV} : lset (o :: L) 0 v = some v :: L := rfl
theorem e_lss {o : Option AV} {L : Lc} {n : Nat} {v : AV} : lset (o :: L) (n + 1) v = o :: lset L n v := rfl
theorem e_lc0 {o : Option AV} {L : Lc} : lclr (o :: L) 0 = none :: L := rfl
theorem e_lcs {o : Option AV} {L : Lc} {n : Nat} : lclr (o :: L) (n + 1) = o :: lclr L n := rfl
theorem e_ls2 {L : Lc} {i : Nat} {v : AV} : lset2 L i v = lclr (lset L i v) (i + 1) := rfl
theorem e_ts0 {pc : Nat} {x lo : Int} {k : Nat → Prop} : tsw pc x lo [] k = True := rfl
theorem e_tss {pc : Nat} {x lo o : Int} {os : List Int} {k : Nat → Prop} : tsw pc x lo (o :: os) k = ((x = lo → k ((pc : Int) + o).toNat) ∧ tsw pc x (lo + 1) os k) := rfl
theorem e_f0 {fs : List (Option Nat)} {kI : Prop} {kR : Nat → Prop} : fgt (none :: fs) 0 kI kR = kI := rfl
theorem e_fr {r : Nat} {fs : List (Option Nat)} {kI : Prop} {kR : Nat → Prop} : fgt (some r :: fs) 0 kI kR = kR r := rfl
theorem e_fs {o : Option Nat} {fs : List (Option Nat)} {f : Nat} {kI : Prop} {kR : Nat → Prop} : fgt (o :: fs) (f + 1) kI kR = fgt fs f kI kR := by cases o <;> rfl
theorem e_p0 {fs : List (Option Nat)} {k : Prop} : fpt (none :: fs) 0 k = k := rfl
theorem e_ps {o : Option Nat} {fs : List (Option Nat)} {f : Nat} {k : Prop} : fpt (o :: fs) (f + 1) k = fpt fs f k := by cases o <;> rfl

theorem si_iconst {Ret : Option AV → Mem → Prop} {q0 : Int} {n a b : Nat} {z : Int} {L : Lc} {st : List AV} {μ : Mem} {K : aK} : stepI Ret (.iconst q0) n a b z L st μ K = (K n L (.inl z :: st) μ) := rfl
theorem si_bipush {Ret : Option AV → Mem → Prop} {q0 : Int} {n a b : Nat} {z : Int} {L : Lc} {st : List AV} {μ : Mem} {K : aK} : stepI Ret (.bipush q0) n a b z L st μ K = (K n L (.inl z :: st) μ) := rfl
theorem si_sipush {Ret : Option AV → Mem → Prop} {q0 : Int} {n a b : Nat} {z : Int} {L : Lc} {st : List AV} {μ : Mem} {K : aK} : stepI Ret (.sipush q0) n a b z L st μ K = (K n L (.inl z :: st) μ) := rfl
theorem si_ldc {Ret : Option AV → Mem → Prop} {q0 : Nat} {n a b : Nat} {z : Int} {L : Lc} {st : List AV} {μ : Mem} {K : aK} : stepI Ret (.ldc q0) n a b z L st μ K = (K n L (.inl z :: st) μ) := rfl
theorem si_ldc2_w {Ret : Option AV → Mem → Prop} {q0 : Nat} {n a b : Nat} {z : Int} {L : Lc} {st : List AV} {μ : Mem} {K : aK} : stepI Ret (.ldc2_w q0) n a b z L st μ K = (K n L (.inr (.long (Int64.ofInt z)) :: st) μ) := rfl
theorem si_aconst_null {Ret : Option AV → Mem → Prop}  {n a b : Nat} {z : Int} {L : Lc} {st : List AV} {μ : Mem} {K : aK} : stepI Ret (.aconst_null) n a b z L st μ K = (K n L (.inr .null :: st) μ) := rfl
theorem si_iload {Ret : Option AV → Mem → Prop} {q0 : Nat} {n a b : Nat} {z : Int} {L : Lc} {st : List AV} {μ : Mem} {K : aK} : stepI Ret (.iload q0) n a b z L st μ K = (ldI (lget L a) fun x => K n L (.inl x :: st) μ) := rfl
theorem si_iload_n {Ret : Option AV → Mem → Prop} {q0 : Fin 4} {n a b : Nat} {z : Int} {L : Lc} {st : List AV} {μ : Mem} {K : aK} : stepI Ret (.iload_n q0) n a b z L st μ K = (ldI (lget L a) fun x => K n L (.inl x :: st) μ) := rfl
theorem si_aload {Ret : Option AV → Mem → Prop} {q0 : Nat} {n a b : Nat} {z : Int} {L : Lc} {st : List AV} {μ : Mem} {K : aK} : stepI Ret (.aload q0) n a b z L st μ K = (ldR (lget L a) fun v => K n L (v :: st) μ) := rfl
theorem si_aload_n {Ret : Option AV → Mem → Prop} {q0 : Fin 4} {n a b : Nat} {z : Int} {L : Lc} {st : List AV} {μ : Mem} {K : aK} : stepI Ret (.aload_n q0) n a b z L st μ K = (ldR (lget L a) fun v => K n L (v :: st) μ) := rfl
theorem si_lload {Ret : Option AV → Mem → Prop} {q0 : Nat} {n a b : Nat} {z : Int} {L : Lc} {st : List AV} {μ : Mem} {K : aK} : stepI Ret (.lload q0) n a b z L st μ K = (ldL (lget L a) fun v => K n L (.inr (.long v) :: st) μ) := rfl
theorem si_lload_n {Ret : Option AV → Mem → Prop} {q0 : Fin 4} {n a b : Nat} {z : Int} {L : Lc} {st : List AV} {μ : Mem} {K : aK} : stepI Ret (.lload_n q0) n a b z L st μ K = (ldL (lget L a) fun v => K n L (.inr (.long v) :: st) μ) := rfl
theorem si_istore {Ret : Option AV → Mem → Prop} {q0 : Nat} {n a b : Nat} {z : Int} {L : Lc} {st : List AV} {μ : Mem} {K : aK} : stepI Ret (.istore q0) n a b z L st μ K = (un st fun x st => nlg L a = true ∧ K n (lset L a (.inl x)) st μ) := rfl
theorem si_istore_n {Ret : Option AV → Mem → Prop} {q0 : Fin 4} {n a b : Nat} {z : Int} {L : Lc} {st : List AV} {μ : Mem} {K : aK} : stepI Ret (.istore_n q0) n a b z L st μ K = (un st fun x st => nlg L a = true ∧ K n (lset L a (.inl x)) st μ) := rfl
theorem si_astore {Ret : Option AV → Mem → Prop} {q0 : Nat} {n a b : Nat} {z : Int} {L : Lc} {st : List AV} {μ : Mem} {K : aK} : stepI Ret (.astore q0) n a b z L st μ K = (unA st fun x st => nlg L a = true ∧ K n (lset L a x) st μ) := rfl
theorem si_astore_n {Ret : Option AV → Mem → Prop} {q0 : Fin 4} {n a b : Nat} {z : Int} {L : Lc} {st : List AV} {μ : Mem} {K : aK} : stepI Ret (.astore_n q0) n a b z L st μ K = (unA st fun x st => nlg L a = true ∧ K n (lset L a x) st μ) := rfl
theorem si_lstore {Ret : Option AV → Mem → Prop} {q0 : Nat} {n a b : Nat} {z : Int} {L : Lc} {st : List AV} {μ : Mem} {K : aK} : stepI Ret (.lstore q0) n a b z L st μ K = (unL st fun x st => nlg L a = true ∧ K n (lset2 L a (.inr (.long x))) st μ) := rfl
theorem si_lstore_n {Ret : Option AV → Mem → Prop} {q0 : Fin 4} {n a b : Nat} {z : Int} {L : Lc} {st : List AV} {μ : Mem} {K : aK} : stepI Ret (.lstore_n q0) n a b z L st μ K = (unL st fun x st => nlg L a = true ∧ K n (lset2 L a (.inr (.long x))) st μ) := rfl
theorem si_iinc {Ret : Option AV → Mem → Prop} {q0 : Nat} {q1 : Int} {n a b : Nat} {z : Int} {L : Lc} {st : List AV} {μ : Mem} {K : aK} : stepI Ret (.iinc q0 q1) n a b z L st μ K = (ldI (lget L a) fun x => inR (x + z) ∧ nlg L a = true ∧ K n (lset L a (.inl (x + z))) st μ) := rfl
theorem si_dup {Ret : Option AV → Mem → Prop}  {n a b : Nat} {z : Int} {L : Lc} {st : List AV} {μ : Mem} {K : aK} : stepI Ret (.dup) n a b z L st μ K = (any1 st fun v st => K n L (v :: v :: st) μ) := rfl
theorem si_pop {Ret : Option AV → Mem → Prop}  {n a b : Nat} {z : Int} {L : Lc} {st : List AV} {μ : Mem} {K : aK} : stepI Ret (.pop) n a b z L st μ K = (any1 st fun _ st => K n L st μ) := rfl
theorem si_dup2 {Ret : Option AV → Mem → Prop}  {n a b : Nat} {z : Int} {L : Lc} {st : List AV} {μ : Mem} {K : aK} : stepI Ret (.dup2) n a b z L st μ K = (any1 st fun v st => any1 st fun w st => K n L (v :: w :: v :: w :: st) μ) := rfl
theorem si_iadd {Ret : Option AV → Mem → Prop}  {n a b : Nat} {z : Int} {L : Lc} {st : List AV} {μ : Mem} {K : aK} : stepI Ret (.iadd) n a b z L st μ K = (bin st fun x y st => inR (x + y) ∧ K n L (.inl (x + y) :: st) μ) := rfl
theorem si_isub {Ret : Option AV → Mem → Prop}  {n a b : Nat} {z : Int} {L : Lc} {st : List AV} {μ : Mem} {K : aK} : stepI Ret (.isub) n a b z L st μ K = (bin st fun x y st => inR (x - y) ∧ K n L (.inl (x - y) :: st) μ) := rfl
theorem si_imul {Ret : Option AV → Mem → Prop}  {n a b : Nat} {z : Int} {L : Lc} {st : List AV} {μ : Mem} {K : aK} : stepI Ret (.imul) n a b z L st μ K = (bin st fun x y st => inR (x * y) ∧ K n L (.inl (x * y) :: st) μ) := rfl
theorem si_idiv {Ret : Option AV → Mem → Prop}  {n a b : Nat} {z : Int} {L : Lc} {st : List AV} {μ : Mem} {K : aK} : stepI Ret (.idiv) n a b z L st μ K = (bin st fun x y st => 0 ≤ x ∧ 0 < y ∧ K n L (.inl (x / y) :: st) μ) := rfl
theorem si_irem {Ret : Option AV → Mem → Prop}  {n a b : Nat} {z : Int} {L : Lc} {st : List AV} {μ : Mem} {K : aK} : stepI Ret (.irem) n a b z L st μ K = (bin st fun x y st => 0 ≤ x ∧ 0 < y ∧ K n L (.inl (x % y) :: st) μ) := rfl
theorem si_ineg {Ret : Option AV → Mem → Prop}  {n a b : Nat} {z : Int} {L : Lc} {st : List AV} {μ : Mem} {K : aK} : stepI Ret (.ineg) n a b z L st μ K = (un st fun x st => inR (-x) ∧ K n L (.inl (-x) :: st) μ) := rfl
theorem si_i2c {Ret : Option AV → Mem → Prop}  {n a b : Nat} {z : Int} {L : Lc} {st : List AV} {μ : Mem} {K : aK} : stepI Ret (.i2c) n a b z L st μ K = (un st fun x st => 0 ≤ x ∧ x ≤ 65535 ∧ K n L (.inl x :: st) μ) := rfl
theorem si_i2l {Ret : Option AV → Mem → Prop}  {n a b : Nat} {z : Int} {L : Lc} {st : List AV} {μ : Mem} {K : aK} : stepI Ret (.i2l) n a b z L st μ K = (un st fun x st => K n L (.inr (.long (Int64.ofInt x)) :: st) μ) := rfl
theorem si_ladd {Ret : Option AV → Mem → Prop}  {n a b : Nat} {z : Int} {L : Lc} {st : List AV} {μ : Mem} {K : aK} : stepI Ret (.ladd) n a b z L st μ K = (binL st fun x y st => K n L (.inr (.long (x + y)) :: st) μ) := rfl
theorem si_lmul {Ret : Option AV → Mem → Prop}  {n a b : Nat} {z : Int} {L : Lc} {st : List AV} {μ : Mem} {K : aK} : stepI Ret (.lmul) n a b z L st μ K = (binL st fun x y st => K n L (.inr (.long (x * y)) :: st) μ) := rfl
theorem si_goto {Ret : Option AV → Mem → Prop} {q0 : Int} {n a b : Nat} {z : Int} {L : Lc} {st : List AV} {μ : Mem} {K : aK} : stepI Ret (.goto q0) n a b z L st μ K = (K a L st μ) := rfl
theorem si_ifCond {Ret : Option AV → Mem → Prop} {c : Jvm.ClassFile.Cond} {q1 : Int} {n a b : Nat} {z : Int} {L : Lc} {st : List AV} {μ : Mem} {K : aK} : stepI Ret (.ifCond c q1) n a b z L st μ K = (un st fun x st => (cbr c x 0 → K a L st μ) ∧ (¬ cbr c x 0 → K n L st μ)) := rfl
theorem si_if_icmp {Ret : Option AV → Mem → Prop} {c : Jvm.ClassFile.Cond} {q1 : Int} {n a b : Nat} {z : Int} {L : Lc} {st : List AV} {μ : Mem} {K : aK} : stepI Ret (.if_icmp c q1) n a b z L st μ K = (bin st fun x y st => (cbr c x y → K a L st μ) ∧ (¬ cbr c x y → K n L st μ)) := rfl
theorem si_ifnull {Ret : Option AV → Mem → Prop} {q0 : Int} {n a b : Nat} {z : Int} {L : Lc} {st : List AV} {μ : Mem} {K : aK} : stepI Ret (.ifnull q0) n a b z L st μ K = (unA st fun v st => (v = .inr .null → K a L st μ) ∧ (¬ v = .inr .null → K n L st μ)) := rfl
theorem si_tableswitch {Ret : Option AV → Mem → Prop} {d : Int} {lo : Int} {hi : Int} {offs : Array Int} {n a b : Nat} {z : Int} {L : Lc} {st : List AV} {μ : Mem} {K : aK} : stepI Ret (.tableswitch d lo hi offs) n a b z L st μ K = (un st fun x st => ((x < lo ∨ hi < x) → K ((a : Int) + d).toNat L st μ) ∧ tsw a x lo offs.toList fun t => K t L st μ) := rfl
theorem si_getfield {Ret : Option AV → Mem → Prop} {q0 : Nat} {n a b : Nat} {z : Int} {L : Lc} {st : List AV} {μ : Mem} {K : aK} : stepI Ret (.getfield q0) n a b z L st μ K = (unR st fun k st => gfld (shp k) b a (K n L (.inl (μ k z) :: st) μ) fun r => K n L (.inr (.ref r) :: st) μ) := rfl
theorem si_putfield {Ret : Option AV → Mem → Prop} {q0 : Nat} {n a b : Nat} {z : Int} {L : Lc} {st : List AV} {μ : Mem} {K : aK} : stepI Ret (.putfield q0) n a b z L st μ K = (un st fun x st => unR st fun k st => pfld (shp k) b a (K n L st (stM μ k z x))) := rfl
theorem si_getstatic {Ret : Option AV → Mem → Prop} {q0 : Nat} {n a b : Nat} {z : Int} {L : Lc} {st : List AV} {μ : Mem} {K : aK} : stepI Ret (.getstatic q0) n a b z L st μ K = (K n L (.inr (.ref a) :: st) μ) := rfl
theorem si_arraylength {Ret : Option AV → Mem → Prop}  {n a b : Nat} {z : Int} {L : Lc} {st : List AV} {μ : Mem} {K : aK} : stepI Ret (.arraylength) n a b z L st μ K = (unR st fun k st => arrL (shp k) fun d len => (d = 3 → k = 1001 ∨ k = 1002) ∧ K n L (.inl len :: st) μ) := rfl
theorem si_iaload {Ret : Option AV → Mem → Prop}  {n a b : Nat} {z : Int} {L : Lc} {st : List AV} {μ : Mem} {K : aK} : stepI Ret (.iaload) n a b z L st μ K = (un st fun i st => unR st fun k st => arrL (shp k) fun d len => 0 ≤ i ∧ i < len ∧ ((d = 0 ∧ K n L (.inl (μ k i) :: st) μ) ∨ (d = 3 ∧ (k = 1001 ∨ k = 1002) ∧ K n L (.inl (stv k i) :: st) μ))) := rfl
theorem si_caload {Ret : Option AV → Mem → Prop}  {n a b : Nat} {z : Int} {L : Lc} {st : List AV} {μ : Mem} {K : aK} : stepI Ret (.caload) n a b z L st μ K = (un st fun i st => unR st fun k st => arrL (shp k) fun d len => 0 ≤ i ∧ i < len ∧ d = 1 ∧ K n L (.inl (μ k i) :: st) μ) := rfl
theorem si_aaload {Ret : Option AV → Mem → Prop}  {n a b : Nat} {z : Int} {L : Lc} {st : List AV} {μ : Mem} {K : aK} : stepI Ret (.aaload) n a b z L st μ K = (un st fun i st => unR st fun k st => arrL (shp k) fun d len => 0 ≤ i ∧ i < len ∧ d = 2 ∧ K n L (.inr (.ref (gHist i.toNat)) :: st) μ) := rfl
theorem si_iastore {Ret : Option AV → Mem → Prop}  {n a b : Nat} {z : Int} {L : Lc} {st : List AV} {μ : Mem} {K : aK} : stepI Ret (.iastore) n a b z L st μ K = (un st fun x st => un st fun i st => unR st fun k st => arrL (shp k) fun d len => 0 ≤ i ∧ i < len ∧ d = 0 ∧ K n L st (stM μ k i x)) := rfl
theorem si_castore {Ret : Option AV → Mem → Prop}  {n a b : Nat} {z : Int} {L : Lc} {st : List AV} {μ : Mem} {K : aK} : stepI Ret (.castore) n a b z L st μ K = (un st fun x st => un st fun i st => unR st fun k st => arrL (shp k) fun d len => 0 ≤ i ∧ i < len ∧ d = 1 ∧ 0 ≤ x ∧ x ≤ 65535 ∧ K n L st (stM μ k i x)) := rfl
theorem si_invokevirtual {Ret : Option AV → Mem → Prop} {q0 : Nat} {n a b : Nat} {z : Int} {L : Lc} {st : List AV} {μ : Mem} {K : aK} : stepI Ret (.invokevirtual q0) n a b z L st μ K = (b ≤ st.length ∧ (st.drop b).length ≤ 4 ∧ rcv (st.take b).reverse z ∧ wpM a (st.take b).reverse μ (kc K n L (st.drop b))) := rfl
theorem si_ireturn {Ret : Option AV → Mem → Prop}  {n a b : Nat} {z : Int} {L : Lc} {st : List AV} {μ : Mem} {K : aK} : stepI Ret (.ireturn) n a b z L st μ K = (un st fun x st => st = [] ∧ (b = 0 ∨ (b = 1 ∧ (x = 0 ∨ x = 1)) ∨ (b = 2 ∧ 0 ≤ x ∧ x ≤ 65535)) ∧ Ret (some (.inl x)) μ) := rfl
theorem si_lreturn {Ret : Option AV → Mem → Prop}  {n a b : Nat} {z : Int} {L : Lc} {st : List AV} {μ : Mem} {K : aK} : stepI Ret (.lreturn) n a b z L st μ K = (unL st fun x st => st = [] ∧ Ret (some (.inr (.long x))) μ) := rfl
theorem si_areturn {Ret : Option AV → Mem → Prop}  {n a b : Nat} {z : Int} {L : Lc} {st : List AV} {μ : Mem} {K : aK} : stepI Ret (.areturn) n a b z L st μ K = (unA st fun v st => st = [] ∧ Ret (some v) μ) := rfl
theorem si_return_ {Ret : Option AV → Mem → Prop}  {n a b : Nat} {z : Int} {L : Lc} {st : List AV} {μ : Mem} {K : aK} : stepI Ret (.return_) n a b z L st μ K = (st = [] ∧ Ret none μ) := rfl
theorem si_invokestatic {Ret : Option AV → Mem → Prop} {q0 : Nat} {n a b : Nat} {z : Int} {L : Lc} {st : List AV} {μ : Mem} {K : aK} : stepI Ret (.invokestatic q0) n a b z L st μ K = (if a = 1000 then bin st fun x y st => st.length ≤ 4 ∧ K n L (.inl (imax x y) :: st) μ else if a = 1001 then bin st fun x y st => st.length ≤ 4 ∧ K n L (.inl (imin x y) :: st) μ else if a = 1002 then acopy st fun a0 a1 sp dp m st => st.length ≤ 4 ∧ arrL (shp a0) fun d0 n0 => arrL (shp a1) fun d1 n1 => d0 = d1 ∧ d0 < 2 ∧ 0 ≤ sp ∧ 0 ≤ dp ∧ 0 ≤ m ∧ sp + m ≤ n0 ∧ dp + m ≤ n1 ∧ K n L st (cpM μ a0 a1 sp dp m) else b ≤ st.length ∧ (st.drop b).length ≤ 4 ∧ wpM a (st.take b).reverse μ (kc K n L (st.drop b))) := rfl
