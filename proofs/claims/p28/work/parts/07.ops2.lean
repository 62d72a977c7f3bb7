/-! arrays, tables, calls, ends -/
section SND2
variable {p : Program} {l : Launch} {e : Env} {R : Room} {s : State} {m : MethodId} {args : Array Value} {below : List Frame} {meth : Method} {c : Code} {cells slots : Nat} {QW : State → Prop} {cc : ByteArray} {own : String} {nL : Nat} {ret : Option FieldType} {ad : Nat → Nat} {D : va_G} {cI cC cG : ClassId} {A0 : Nat → Prop}
theorem cell_arr {k n : Nat} {μ : Mem} (h : shp k = .inr (0, n)) : (ww ad cI cC cG μ)[cpos k]? = some (ad k, .inl (cI, n, .inl (fun j => i32 (μ k j)))) := by
  rw [ww_get (shp_in (by rw [h]; simp))]
  unfold cellE
  rw [h]
  rfl
theorem cell_chr {k n : Nat} {μ : Mem} (h : shp k = .inr (1, n)) : (ww ad cI cC cG μ)[cpos k]? = some (ad k, .inl (cC, n, .inl (fun j => i32 (μ k j)))) := by
  rw [ww_get (shp_in (by rw [h]; simp))]
  unfold cellE
  rw [h]
  rfl
theorem cell_ref {k n : Nat} {μ : Mem} (h : shp k = .inr (2, n)) : (ww ad cI cC cG μ)[cpos k]? = some (ad k, .inl (cG, n, .inr (.inr (.inr (.inr (fun j => some (ad (gHist j)))))))) := by
  rw [ww_get (shp_in (by rw [h]; simp))]
  unfold cellE
  rw [h]
  rfl
theorem shp_kind {k d n : Nat} (h : shp k = .inr (d, n)) : d = 0 ∨ d = 1 ∨ d = 2 ∨ (d = 3 ∧ n = 7) := by
  unfold shp at h
  split at h
  · unfold fshp at h
    split at h <;> simp at h <;> omega
  · split at h
    · unfold gshp at h
      split at h <;> simp at h <;> omega
    · simp at h; omega
theorem sd_getstatic (X : aX p s m args meth c R cells slots cc own nL ad D cI cC cG A0) {K : aK} {Ret : Option AV → Mem → Prop} {k0 n a b w : Nat} {z : Int} {pc : Nat} {L : Lc} {st : List AV} {μ : Mem} (hd : decode cc pc = .ok (.getstatic k0, 3)) (hn : n = pc + 3) (ha : a = 1001 ∨ a = 1002) (hw : lkN w (.fieldLinkNest own k0 "ClockedGame" (sname a) "[I" "ClockedGame") = true) (hK : ∀ pc L st μ, K pc L st μ → aG p l e R s m args below meth c cells slots QW nL ad D cI cC cG A0 pc L st μ) (h : stepI Ret (.getstatic k0) n a b z L st μ K) : aG p l e R s m args below meth c cells slots QW nL ad D cI cC cG A0 pc L st μ := by
  intro H locs ls hP hS hL hR hst
  obtain ⟨⟨hx, hb, hml, hown, hts⟩, hKn, hSt, hNs, hA, hI, hc, hs⟩ := X
  subst hn
  have kk := hK _ _ _ _ h H locs ls hP hS hL hR (wf_c trivial hst)
  rcases ha with rfl | rfl
  · exact va_getsN hx hb hSt.1.1 hS hown ((lkN_at hw hNs).use rfl) (fun _ h9 => h9) hd kk
  · exact va_getsN hx hb hSt.1.2 hS hown ((lkN_at hw hNs).use rfl) (fun _ h9 => h9) hd kk
theorem sd_arraylength (X : aX p s m args meth c R cells slots cc own nL ad D cI cC cG A0) {K : aK} {Ret : Option AV → Mem → Prop} {n a b : Nat} {z : Int} {pc : Nat} {L : Lc} {st : List AV} {μ : Mem} (hd : decode cc pc = .ok (.arraylength, 1)) (hn : n = pc + 1) (hK : ∀ pc L st μ, K pc L st μ → aG p l e R s m args below meth c cells slots QW nL ad D cI cC cG A0 pc L st μ) (h : stepI Ret .arraylength n a b z L st μ K) : aG p l e R s m args below meth c cells slots QW nL ad D cI cC cG A0 pc L st μ := by
  intro H locs ls hP hS hL hR hst
  obtain ⟨⟨hx, hb, hml, hown, hts⟩, hKn, hSt, hNs, hA, hI, hc, hs⟩ := X
  subst hn
  obtain ⟨k, t, rfl, h⟩ := unR_inv h
  obtain ⟨d, len, hsh, h3, h⟩ := arrL_inv h
  have hlen : inR (len : Int) := by
    have : len ≤ 12720 := by
      unfold shp at hsh
      split at hsh
      · unfold fshp at hsh
        split at hsh <;> simp at hsh <;> omega
      · split at hsh
        · unfold gshp at hsh
          split at hsh <;> simp at hsh <;> omega
        · simp at hsh; omega
    unfold inR; omega
  have kk := hK _ _ _ _ h H locs ls hP hS hL hR (wf_c hlen (wf_t hst))
  rcases shp_kind hsh with rfl | rfl | rfl | ⟨rfl, rfl⟩
  · exact va_alen hx hb hKn hP (cpos k) 0 (cell_arr hsh) rfl (i32_nat len) hd kk
  · exact va_alen hx hb hKn hP (cpos k) 1 (cell_chr hsh) rfl (i32_nat len) hd kk
  · exact va_alen hx hb hKn hP (cpos k) 2 (cell_ref hsh) rfl (i32_nat len) hd kk
  · rcases h3 rfl with rfl | rfl
    · exact va_tlen hx hb hSt.2.1 hS (i32_nat 7) hd kk
    · exact va_tlen hx hb hSt.2.2 hS (i32_nat 7) hd kk
theorem i32_toNat {i : Int} (hr : inR i) (h0 : 0 ≤ i) : ((i32 i).toNatClampNeg : Int) = i := by
  rw [i32_cl hr]; omega
theorem sd_iaload (X : aX p s m args meth c R cells slots cc own nL ad D cI cC cG A0) {K : aK} {Ret : Option AV → Mem → Prop} {n a b : Nat} {z : Int} {pc : Nat} {L : Lc} {st : List AV} {μ : Mem} (hd : decode cc pc = .ok (.iaload, 1)) (hn : n = pc + 1) (hK : ∀ pc L st μ, K pc L st μ → aG p l e R s m args below meth c cells slots QW nL ad D cI cC cG A0 pc L st μ) (h : stepI Ret .iaload n a b z L st μ K) : aG p l e R s m args below meth c cells slots QW nL ad D cI cC cG A0 pc L st μ := by
  intro H locs ls hP hS hL hR hst
  obtain ⟨⟨hx, hb, hml, hown, hts⟩, hKn, hSt, hNs, hA, hI, hc, hs⟩ := X
  subst hn
  obtain ⟨i, t, rfl, h⟩ := un_inv h
  obtain ⟨k, t, rfl, h⟩ := unR_inv h
  obtain ⟨d, len, hsh, h0, h1, h⟩ := arrL_inv h
  have ri : inR i := wf_h hst
  have hin := i32_idx h0 ri h1
  rcases h with ⟨rfl, h⟩ | ⟨rfl, hk, h⟩
  · have kk := hK _ _ _ _ h H locs ls hP hS hL hR (wf_c (hR k i).1 (wf_t (wf_t hst)))
    refine va_iald hx hb hKn hP (cpos k) 0 (cell_arr hsh) rfl hin hd ?_
    rw [i32_toNat ri h0]
    exact kk
  · have e7 : len = 7 := by rcases shp_kind hsh with q | q | q | q <;> omega
    subst e7
    have hw : inR (stv k i) := by
      rcases hk with rfl | rfl <;> unfold stv inR <;> (repeat' split) <;> omega
    have kk := hK _ _ _ _ h H locs ls hP hS hL hR (wf_c hw (wf_t (wf_t hst)))
    rcases hk with rfl | rfl
    · exact va_ti hx hb hSt.2.1 hS hin (by show Value.int (i32 (stv 1001 ((i32 i).toNatClampNeg : Int))) = _; rw [i32_toNat ri h0]; rfl) hd kk
    · exact va_ti hx hb hSt.2.2 hS hin (by show Value.int (i32 (stv 1002 ((i32 i).toNatClampNeg : Int))) = _; rw [i32_toNat ri h0]; rfl) hd kk
theorem sd_caload (X : aX p s m args meth c R cells slots cc own nL ad D cI cC cG A0) {K : aK} {Ret : Option AV → Mem → Prop} {n a b : Nat} {z : Int} {pc : Nat} {L : Lc} {st : List AV} {μ : Mem} (hd : decode cc pc = .ok (.caload, 1)) (hn : n = pc + 1) (hK : ∀ pc L st μ, K pc L st μ → aG p l e R s m args below meth c cells slots QW nL ad D cI cC cG A0 pc L st μ) (h : stepI Ret .caload n a b z L st μ K) : aG p l e R s m args below meth c cells slots QW nL ad D cI cC cG A0 pc L st μ := by
  intro H locs ls hP hS hL hR hst
  obtain ⟨⟨hx, hb, hml, hown, hts⟩, hKn, hSt, hNs, hA, hI, hc, hs⟩ := X
  subst hn
  obtain ⟨i, t, rfl, h⟩ := un_inv h
  obtain ⟨k, t, rfl, h⟩ := unR_inv h
  obtain ⟨d, len, hsh, h0, h1, rfl, h⟩ := arrL_inv h
  have ri : inR i := wf_h hst
  have kk := hK _ _ _ _ h H locs ls hP hS hL hR (wf_c (hR k i).1 (wf_t (wf_t hst)))
  refine va_cald hx hb hKn hP (cpos k) 1 (cell_chr hsh) rfl (i32_idx h0 ri h1) hd ?_
  rw [i32_toNat ri h0]
  exact kk
theorem sd_aaload (X : aX p s m args meth c R cells slots cc own nL ad D cI cC cG A0) {K : aK} {Ret : Option AV → Mem → Prop} {n a b : Nat} {z : Int} {pc : Nat} {L : Lc} {st : List AV} {μ : Mem} (hd : decode cc pc = .ok (.aaload, 1)) (hn : n = pc + 1) (hK : ∀ pc L st μ, K pc L st μ → aG p l e R s m args below meth c cells slots QW nL ad D cI cC cG A0 pc L st μ) (h : stepI Ret .aaload n a b z L st μ K) : aG p l e R s m args below meth c cells slots QW nL ad D cI cC cG A0 pc L st μ := by
  intro H locs ls hP hS hL hR hst
  obtain ⟨⟨hx, hb, hml, hown, hts⟩, hKn, hSt, hNs, hA, hI, hc, hs⟩ := X
  subst hn
  obtain ⟨i, t, rfl, h⟩ := un_inv h
  obtain ⟨k, t, rfl, h⟩ := unR_inv h
  obtain ⟨d, len, hsh, h0, h1, rfl, h⟩ := arrL_inv h
  have ri : inR i := wf_h hst
  have kk := hK _ _ _ _ h H locs ls hP hS hL hR (wf_c trivial (wf_t (wf_t hst)))
  refine va_aldq hx hb hKn hP (cpos k) 2 (cell_ref hsh) rfl (i32_idx h0 ri h1) hd ?_
  rw [i32_cl ri]
  exact kk
theorem st_arr {μ : Mem} {k : Nat} {i x : Int} (ri : inR i) (h0 : 0 ≤ i) : upd (fun j : Nat => i32 (μ k j)) (i32 i).toNatClampNeg (i32 x) = fun j : Nat => i32 (stM μ k i x k j) := by
  rw [i32_cl ri]
  funext j
  unfold upd stM
  by_cases hj : j = i.toNat
  · rw [if_pos hj, if_pos ⟨rfl, by omega⟩]
  · rw [if_neg hj, if_neg (by omega)]
theorem sd_iastore (X : aX p s m args meth c R cells slots cc own nL ad D cI cC cG A0) {K : aK} {Ret : Option AV → Mem → Prop} {n a b : Nat} {z : Int} {pc : Nat} {L : Lc} {st : List AV} {μ : Mem} (hd : decode cc pc = .ok (.iastore, 1)) (hn : n = pc + 1) (hK : ∀ pc L st μ, K pc L st μ → aG p l e R s m args below meth c cells slots QW nL ad D cI cC cG A0 pc L st μ) (h : stepI Ret .iastore n a b z L st μ K) : aG p l e R s m args below meth c cells slots QW nL ad D cI cC cG A0 pc L st μ := by
  intro H locs ls hP hS hL hR hst
  obtain ⟨⟨hx, hb, hml, hown, hts⟩, hKn, hSt, hNs, hA, hI, hc, hs⟩ := X
  subst hn
  obtain ⟨x, t, rfl, h⟩ := un_inv h
  obtain ⟨i, t, rfl, h⟩ := un_inv h
  obtain ⟨k, t, rfl, h⟩ := unR_inv h
  obtain ⟨d, len, hsh, h0, h1, rfl, h⟩ := arrL_inv h
  have ri : inR i := wf_h (wf_t hst)
  refine va_iast hx hb hKn hP (aD hI hA) hS (cpos k) 0 (cell_arr hsh) rfl (i32_idx h0 ri h1) hd (fun H1 locs1 hP1 _ hS1 => ?_)
  have hset : (ww ad cI cC cG μ).set (cpos k) (ad k, .inl (cI, len, .inl (upd (fun j : Nat => i32 (μ k j)) (i32 i).toNatClampNeg (i32 x)))) = ww ad cI cC cG (stM μ k i x) := by
    refine ww_set (shp_in (by rw [hsh]; simp)) ?_ (fun j hj => stM_ne hj)
    unfold cellE
    rw [hsh, st_arr ri h0]
    rfl
  rw [hset] at hP1
  exact hK _ _ _ _ h H1 locs1 ls hP1 hS1 hL (stM_rng hR (wf_h hst) (fun n hn => by rw [hsh] at hn; cases hn)) (wf_t (wf_t (wf_t hst)))
theorem nar_char {x : Int} (h0 : 0 ≤ x) (h1 : x ≤ 65535) : vp_nar .char (i32 x) = i32 x := by
  rw [vp_nar_char]
  have hr : inR x := by unfold inR; omega
  obtain ⟨k, rfl⟩ : ∃ k : Nat, x = k := ⟨x.toNat, by omega⟩
  rw [← i32_nat]
  have h2 : k < 65536 := by omega
  have := pk_charN h2
  have e : vp_nar .char (nI k) = nI k := by unfold vp_nar; rw [this.1]
  rw [vp_nar_char] at e
  exact e
theorem sd_castore (X : aX p s m args meth c R cells slots cc own nL ad D cI cC cG A0) {K : aK} {Ret : Option AV → Mem → Prop} {n a b : Nat} {z : Int} {pc : Nat} {L : Lc} {st : List AV} {μ : Mem} (hd : decode cc pc = .ok (.castore, 1)) (hn : n = pc + 1) (hK : ∀ pc L st μ, K pc L st μ → aG p l e R s m args below meth c cells slots QW nL ad D cI cC cG A0 pc L st μ) (h : stepI Ret .castore n a b z L st μ K) : aG p l e R s m args below meth c cells slots QW nL ad D cI cC cG A0 pc L st μ := by
  intro H locs ls hP hS hL hR hst
  obtain ⟨⟨hx, hb, hml, hown, hts⟩, hKn, hSt, hNs, hA, hI, hc, hs⟩ := X
  subst hn
  obtain ⟨x, t, rfl, h⟩ := un_inv h
  obtain ⟨i, t, rfl, h⟩ := un_inv h
  obtain ⟨k, t, rfl, h⟩ := unR_inv h
  obtain ⟨d, len, hsh, h0, h1, rfl, hx0, hx1, h⟩ := arrL_inv h
  have ri : inR i := wf_h (wf_t hst)
  refine va_cast hx hb hKn hP (aD hI hA) hS (cpos k) 1 (cell_chr hsh) rfl (i32_idx h0 ri h1) hd (fun H1 locs1 hP1 _ hS1 => ?_)
  have hset : (ww ad cI cC cG μ).set (cpos k) (ad k, .inl (cC, len, .inl (upd (fun j : Nat => i32 (μ k j)) (i32 i).toNatClampNeg (vp_nar .char (i32 x))))) = ww ad cI cC cG (stM μ k i x) := by
    refine ww_set (shp_in (by rw [hsh]; simp)) ?_ (fun j hj => stM_ne hj)
    unfold cellE
    rw [hsh, nar_char hx0 hx1, st_arr ri h0]
    rfl
  rw [hset] at hP1
  exact hK _ _ _ _ h H1 locs1 ls hP1 hS1 hL (stM_rng hR (wf_h hst) (fun n _ => ⟨hx0, hx1⟩)) (wf_t (wf_t (wf_t hst)))
theorem cat_sum : ∀ (st : List AV), ((st.map (conc ad)).map fun v => v.category).sum ≤ 2 * st.length
  | [] => by simp
  | v :: st => by
    have h1 := cat_sum st
    have h2 : (conc ad v).category ≤ 2 := by rw [conc_cat]; split <;> omega
    simp only [List.map_cons, List.sum_cons, List.length_cons]
    omega
theorem sd_max (X : aX p s m args meth c R cells slots cc own nL ad D cI cC cG A0) {K : aK} {n k0 : Nat} {pc : Nat} {L : Lc} {st : List AV} {μ : Mem} (hd : decode cc pc = .ok (.invokestatic k0, 3)) (hn : n = pc + 3) (hw : Cond.methodLink own k0 Lib.Math.max.name ∈ lw_g) (hF : 1 ≤ R.frames) (hLo : 21 ≤ R.locals) (hK : ∀ pc L st μ, K pc L st μ → aG p l e R s m args below meth c cells slots QW nL ad D cI cC cG A0 pc L st μ) (h : bin st fun x y st => st.length ≤ 4 ∧ K n L (.inl (imax x y) :: st) μ) : aG p l e R s m args below meth c cells slots QW nL ad D cI cC cG A0 pc L st μ := by
  intro H locs ls hP hS hL hR hst
  obtain ⟨⟨hx, hb, hml, hown, hts⟩, hKn, hSt, hNs, hA, hI, hc, hs⟩ := X
  subst hn
  obtain ⟨x, y, t, rfl, h4, h⟩ := bin_inv h
  have rx : inR x := wf_h (wf_t hst)
  have ry : inR y := wf_h hst
  have hcs := cat_sum (ad := ad) t
  refine va_mmax hx hb (by rw [hml, hL.1]) hown (hts _ hw) (hts _ (lk_in (w := 284) (by decide +kernel))) (hts _ (lk_in (w := 16) (by decide +kernel))) (hts _ (lk_in (w := 285) (by decide +kernel))) hF (by omega) hc hs hd ?_
  have e : (if i32 x < i32 y then i32 y else i32 x) = i32 (imax x y) := by
    unfold imax
    by_cases hxy : x < y
    · rw [if_pos hxy, if_pos ((i32_lt rx ry).mpr hxy)]
    · rw [if_neg hxy, if_neg (fun z => hxy ((i32_lt rx ry).mp z))]
  rw [e]
  exact hK _ _ _ _ h H locs ls hP hS hL hR (wf_c (show inR (imax x y) by unfold imax; split <;> assumption) (wf_t (wf_t hst)))
theorem sd_min (X : aX p s m args meth c R cells slots cc own nL ad D cI cC cG A0) {K : aK} {n k0 : Nat} {pc : Nat} {L : Lc} {st : List AV} {μ : Mem} (hd : decode cc pc = .ok (.invokestatic k0, 3)) (hn : n = pc + 3) (hw : Cond.methodLink own k0 Lib.Math.min.name ∈ lw_g) (hF : 1 ≤ R.frames) (hLo : 21 ≤ R.locals) (hK : ∀ pc L st μ, K pc L st μ → aG p l e R s m args below meth c cells slots QW nL ad D cI cC cG A0 pc L st μ) (h : bin st fun x y st => st.length ≤ 4 ∧ K n L (.inl (imin x y) :: st) μ) : aG p l e R s m args below meth c cells slots QW nL ad D cI cC cG A0 pc L st μ := by
  intro H locs ls hP hS hL hR hst
  obtain ⟨⟨hx, hb, hml, hown, hts⟩, hKn, hSt, hNs, hA, hI, hc, hs⟩ := X
  subst hn
  obtain ⟨x, y, t, rfl, h4, h⟩ := bin_inv h
  have rx : inR x := wf_h (wf_t hst)
  have ry : inR y := wf_h hst
  have hcs := cat_sum (ad := ad) t
  refine va_mmin hx hb (by rw [hml, hL.1]) hown (hts _ hw) (hts _ (lk_in (w := 281) (by decide +kernel))) (hts _ (lk_in (w := 16) (by decide +kernel))) (hts _ (lk_in (w := 282) (by decide +kernel))) hF (by omega) hc hs hd ?_
  have e : (if i32 y < i32 x then i32 y else i32 x) = i32 (imin x y) := by
    unfold imin
    by_cases hxy : y < x
    · rw [if_pos hxy, if_pos ((i32_lt ry rx).mpr hxy)]
    · rw [if_neg hxy, if_neg (fun z => hxy ((i32_lt ry rx).mp z))]
  rw [e]
  exact hK _ _ _ _ h H locs ls hP hS hL hR (wf_c (show inR (imin x y) by unfold imin; split <;> assumption) (wf_t (wf_t hst)))
theorem acopy_inv {st : List AV} {k : Nat → Nat → Int → Int → Int → List AV → Prop} (h : acopy st k) : ∃ n dp a sp a0 t, st = .inl n :: .inl dp :: .inr (.ref a) :: .inl sp :: .inr (.ref a0) :: t ∧ k a0 a sp dp n t := by
  unfold acopy at h
  split at h
  · exact ⟨_, _, _, _, _, _, rfl, h⟩
  · exact h.elim
theorem cpM_rng {μ : Mem} {a0 a : Nat} {sp dp n : Int} (h : aRng μ) {d n0 n1 : Nat} (h0 : shp a0 = .inr (d, n0)) (h1 : shp a = .inr (d, n1)) : aRng (cpM μ a0 a sp dp n) := by
  intro b j
  unfold cpM
  by_cases hb : b = a ∧ dp ≤ j ∧ j < dp + n
  · rw [if_pos hb]
    refine ⟨(h a0 _).1, fun n2 hn => ?_⟩
    rw [hb.1, h1] at hn
    cases hn
    exact (h a0 _).2 _ h0
  · rw [if_neg hb]
    exact h b j
theorem cp_arr {μ : Mem} {a0 a : Nat} {sp dp n : Int} (rs : inR sp) (rd : inR dp) (rn : inR n) (h0 : 0 ≤ sp) (h1 : 0 ≤ dp) (h2 : 0 ≤ n) : va_cpy (fun j : Nat => i32 (μ a0 j)) (fun j : Nat => i32 (μ a j)) (i32 sp).toNatClampNeg (i32 dp).toNatClampNeg (i32 n).toNatClampNeg = fun j : Nat => i32 (cpM μ a0 a sp dp n a j) := by
  rw [i32_cl rs, i32_cl rd, i32_cl rn]
  funext j
  unfold va_cpy cpM
  by_cases hj : dp.toNat ≤ j ∧ j < dp.toNat + n.toNat
  · rw [if_pos hj, if_pos ⟨rfl, by omega, by omega⟩]
    have : ((sp.toNat + (j - dp.toNat) : Nat) : Int) = sp + ((j : Int) - dp) := by omega
    show i32 (μ a0 ((sp.toNat + (j - dp.toNat) : Nat) : Int)) = _
    rw [this]
  · rw [if_neg hj, if_neg (by omega)]
theorem fits_char {x : Int} (h0 : 0 ≤ x) (h1 : x ≤ 65535) : fits .char (.int (i32 x)) = true := by
  obtain ⟨k, rfl⟩ : ∃ k : Nat, x = k := ⟨x.toNat, by omega⟩
  rw [← i32_nat]
  exact (pk_charN (q := k) (by omega)).2
theorem sd_copy (X : aX p s m args meth c R cells slots cc own nL ad D cI cC cG A0) {K : aK} {n k0 : Nat} {pc : Nat} {L : Lc} {st : List AV} {μ : Mem} (hd : decode cc pc = .ok (.invokestatic k0, 3)) (hn : n = pc + 3) (hw : Cond.methodLink own k0 arraycopyName ∈ lw_g) (hF : 1 ≤ R.frames) (hLo : 26 ≤ R.locals) (hK : ∀ pc L st μ, K pc L st μ → aG p l e R s m args below meth c cells slots QW nL ad D cI cC cG A0 pc L st μ) (h : acopy st fun a0 a1 sp dp m st => st.length ≤ 4 ∧ arrL (shp a0) fun d0 n0 => arrL (shp a1) fun d1 n1 => d0 = d1 ∧ d0 < 2 ∧ 0 ≤ sp ∧ 0 ≤ dp ∧ 0 ≤ m ∧ sp + m ≤ n0 ∧ dp + m ≤ n1 ∧ K n L st (cpM μ a0 a1 sp dp m)) : aG p l e R s m args below meth c cells slots QW nL ad D cI cC cG A0 pc L st μ := by
  intro H locs ls hP hS hL hR hst
  obtain ⟨⟨hx, hb, hml, hown, hts⟩, hKn, hSt, hNs, hA, hI, hc, hs⟩ := X
  subst hn
  obtain ⟨q, dp, a, sp, a0, t, rfl, h4, h⟩ := acopy_inv h
  obtain ⟨d0, n0, hs0, h⟩ := arrL_inv h
  obtain ⟨d1, n1, hs1, h⟩ := arrL_inv h
  obtain ⟨rfl, hd2, g1, g2, g3, g4, g5, h⟩ := h
  have rn : inR q := wf_h hst
  have rd : inR dp := wf_h (wf_t hst)
  have rs : inR sp := wf_h (wf_t (wf_t (wf_t hst)))
  have hcs := cat_sum (ad := ad) t
  have hw5 : nativeFrameWords "java/lang/System" "arraycopy" 5 = 7 := by decide +kernel
  have hin : inC a := shp_in (by rw [hs1]; intro z; cases z; omega)
  have kk : ∀ (d : Nat) (cD : ClassId) (H1 : Heap) (locs1 : List Loc), shp a = .inr (d, n1) → cellE ad cI cC cG (cpM μ a0 a sp dp q) a = .inl (cD, n1, .inl (fun j : Nat => i32 (cpM μ a0 a sp dp q a j))) → va_P D vwCl ((ww ad cI cC cG μ).set (cpos a) (ad a, .inl (cD, n1, .inl (va_cpy (fun j : Nat => i32 (μ a0 j)) (fun j : Nat => i32 (μ a j)) (i32 sp).toNatClampNeg (i32 dp).toNatClampNeg (i32 q).toNatClampNeg)))) H1 → va_S A0 s.heap H1 locs1 → W p l e R s m args below meth c H1 locs1 cells slots QW (F0 m (pc + 3) ls (t.map (conc ad))) := by
    intro d cD H1 locs1 e1 e2 hP1 hS1
    rw [cp_arr rs rd rn g1 g2 g3, ww_set (μ' := cpM μ a0 a sp dp q) hin e2.symm (fun j hj => cpM_ne hj)] at hP1
    exact hK _ _ _ _ h H1 locs1 ls hP1 hS1 hL (cpM_rng hR hs0 hs1) (wf_t (wf_t (wf_t (wf_t (wf_t hst)))))
  have hsp : ¬ i32 sp < 0 := fun z => by have := (i32_lt rs inR_0).mp z; omega
  have hdp : ¬ i32 dp < 0 := fun z => by have := (i32_lt rd inR_0).mp z; omega
  have hq : ¬ i32 q < 0 := fun z => by have := (i32_lt rn inR_0).mp z; omega
  have e4 : (i32 sp).toNatClampNeg + (i32 q).toNatClampNeg ≤ n0 := by rw [i32_cl rs, i32_cl rn]; omega
  have e5 : (i32 dp).toNatClampNeg + (i32 q).toNatClampNeg ≤ n1 := by rw [i32_cl rd, i32_cl rn]; omega
  rcases (show d0 = 0 ∨ d0 = 1 by omega) with rfl | rfl
  · exact va_copyi hx hb (by rw [hml, hL.1]) hown (hts _ hw) (hts _ (lk_in (w := 135) (by decide +kernel))) (hts _ (lk_in (w := 134) (by decide +kernel))) (hts _ (lk_in (w := 13) (by decide +kernel))) hKn hP (aD hI hA) hS (cpos a0) (cpos a) 0 0 (cell_arr hs0) (cell_arr hs1) rfl rfl rfl hsp hdp hq e4 e5 (fun i _ => rfl) hF (by rw [hw5]; omega) hd (fun H1 locs1 hP1 _ hS1 => kk 0 cI H1 locs1 hs1 (by unfold cellE; rw [hs1]; rfl) hP1 hS1)
  · exact va_copyi hx hb (by rw [hml, hL.1]) hown (hts _ hw) (hts _ (lk_in (w := 135) (by decide +kernel))) (hts _ (lk_in (w := 134) (by decide +kernel))) (hts _ (lk_in (w := 13) (by decide +kernel))) hKn hP (aD hI hA) hS (cpos a0) (cpos a) 1 1 (cell_chr hs0) (cell_chr hs1) rfl rfl rfl hsp hdp hq e4 e5 (fun i _ => fits_char ((hR a0 _).2 _ hs0).1 ((hR a0 _).2 _ hs0).2) hF (by rw [hw5]; omega) hd (fun H1 locs1 hP1 _ hS1 => kk 1 cC H1 locs1 hs1 (by unfold cellE; rw [hs1]; rfl) hP1 hS1)
end SND2
