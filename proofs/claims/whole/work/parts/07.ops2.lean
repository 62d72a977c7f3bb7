/-! arrays, tables, calls, ends -/
section SND2
variable {p : Program} {l : Launch} {e : Env} {R : Room} {s : State} {m : MethodId} {args : Array Value} {below : List Frame} {meth : Method} {c : Code} {cells slots : Nat} {QW : State → Prop} {cc : ByteArray} {own : String} {nL : Nat} {ret : Option FieldType} {ad : Nat → Nat} {D : va_G} {cI cC cG : ClassId} {A0 : Nat → Prop}
theorem cell_arr {k n : Nat} {μ : Mem} (h : shp k = .inr (0, n)) : (ww ad cI cC cG μ)[k]? = some (ad k, .inl (cI, n, .inl (fun j => i32 (μ k j)))) := by
  rw [ww_get (shp_in (by rw [h]; simp))]
  unfold cellE
  rw [h]
theorem cell_chr {k n : Nat} {μ : Mem} (h : shp k = .inr (1, n)) : (ww ad cI cC cG μ)[k]? = some (ad k, .inl (cC, n, .inl (fun j => i32 (μ k j)))) := by
  rw [ww_get (shp_in (by rw [h]; simp))]
  unfold cellE
  rw [h]
theorem cell_ref {k n : Nat} {μ : Mem} (h : shp k = .inr (2, n)) : (ww ad cI cC cG μ)[k]? = some (ad k, .inl (cG, n, .inr (.inr (.inr (.inr (fun j => some (ad (gHist j)))))))) := by
  rw [ww_get (shp_in (by rw [h]; simp))]
  unfold cellE
  rw [h]
theorem shp_kind {k d n : Nat} (h : shp k = .inr (d, n)) : d = 0 ∨ d = 1 ∨ d = 2 ∨ (d = 3 ∧ n = 7) := by
  unfold shp at h
  split at h
  · unfold fshp at h
    split at h <;> simp at h <;> omega
  · split at h
    · unfold gshp at h
      split at h <;> simp at h <;> omega
    · simp at h; omega
theorem sd_getstatic (X : aX p s m args meth c R cells slots cc own nL ad D cI cC cG A0) {K : aK} {Ret : Option AV → Mem → Prop} {k0 n a b w : Nat} {z : Int} {pc : Nat} {L : Lc} {st : List AV} {μ : Mem} (hd : decode cc pc = .ok (.getstatic k0, 3)) (hn : n = pc + 3) (ha : a = 1001 ∨ a = 1002) (hw : lkN w (.fieldLinkNest own k0 "ClockedGame" (sname a) "[I" "ClockedGame") = true) (hK : ∀ pc L st μ, K pc L st μ → aG p l e R s m args below meth c cells slots QW nL ad D cI cC cG A0 pc L st μ) (h : stepI Ret (.getstatic k0) n a b z L st μ K) : aG p l e R s m args below meth c cells slots QW nL ad D cI cC cG A0 pc L st μ := by
  intro H locs ls hP hS hL hR hst
  obtain ⟨⟨hx, hb, hml, hown, hts⟩, hKn, hSt, hNs, hA, hI, hc, hs⟩ := X
  subst hn
  have kk := hK _ _ _ _ h H locs ls hP hS hL hR (wf_c trivial hst)
  rcases ha with rfl | rfl
  · exact va_getsN hx hb hSt.1.1 hS hown ((lkN_at hw hNs).use rfl) (fun _ h9 => h9) hd kk
  · exact va_getsN hx hb hSt.1.2 hS hown ((lkN_at hw hNs).use rfl) (fun _ h9 => h9) hd kk
theorem sd_arraylength (X : aX p s m args meth c R cells slots cc own nL ad D cI cC cG A0) {K : aK} {Ret : Option AV → Mem → Prop} {n a b : Nat} {z : Int} {pc : Nat} {L : Lc} {st : List AV} {μ : Mem} (hd : decode cc pc = .ok (.arraylength, 1)) (hn : n = pc + 1) (hK : ∀ pc L st μ, K pc L st μ → aG p l e R s m args below meth c cells slots QW nL ad D cI cC cG A0 pc L st μ) (h : stepI Ret .arraylength n a b z L st μ K) : aG p l e R s m args below meth c cells slots QW nL ad D cI cC cG A0 pc L st μ := by
  intro H locs ls hP hS hL hR hst
  obtain ⟨⟨hx, hb, hml, hown, hts⟩, hKn, hSt, hNs, hA, hI, hc, hs⟩ := X
  subst hn
  obtain ⟨k, t, rfl, h⟩ := unR_inv h
  obtain ⟨d, len, hsh, h3, h⟩ := arrL_inv h
  have hlen : inR (len : Int) := by
    have : len ≤ 12720 := by
      unfold shp at hsh
      split at hsh
      · unfold fshp at hsh
        split at hsh <;> simp at hsh <;> omega
      · split at hsh
        · unfold gshp at hsh
          split at hsh <;> simp at hsh <;> omega
        · simp at hsh; omega
    unfold inR; omega
  have kk := hK _ _ _ _ h H locs ls hP hS hL hR (wf_c hlen (wf_t hst))
  rcases shp_kind hsh with rfl | rfl | rfl | ⟨rfl, rfl⟩
  · exact va_alen hx hb hKn hP k 0 (cell_arr hsh) rfl (i32_nat len) hd kk
  · exact va_alen hx hb hKn hP k 1 (cell_chr hsh) rfl (i32_nat len) hd kk
  · exact va_alen hx hb hKn hP k 2 (cell_ref hsh) rfl (i32_nat len) hd kk
  · rcases h3 rfl with rfl | rfl
    · exact va_tlen hx hb hSt.2.1 hS (i32_nat 7) hd kk
    · exact va_tlen hx hb hSt.2.2 hS (i32_nat 7) hd kk
theorem i32_toNat {i : Int} (hr : inR i) (h0 : 0 ≤ i) : ((i32 i).toNatClampNeg : Int) = i := by
  rw [i32_cl hr]; omega
theorem sd_iaload (X : aX p s m args meth c R cells slots cc own nL ad D cI cC cG A0) {K : aK} {Ret : Option AV → Mem → Prop} {n a b : Nat} {z : Int} {pc : Nat} {L : Lc} {st : List AV} {μ : Mem} (hd : decode cc pc = .ok (.iaload, 1)) (hn : n = pc + 1) (hK : ∀ pc L st μ, K pc L st μ → aG p l e R s m args below meth c cells slots QW nL ad D cI cC cG A0 pc L st μ) (h : stepI Ret .iaload n a b z L st μ K) : aG p l e R s m args below meth c cells slots QW nL ad D cI cC cG A0 pc L st μ := by
  intro H locs ls hP hS hL hR hst
  obtain ⟨⟨hx, hb, hml, hown, hts⟩, hKn, hSt, hNs, hA, hI, hc, hs⟩ := X
  subst hn
  obtain ⟨i, t, rfl, h⟩ := un_inv h
  obtain ⟨k, t, rfl, h⟩ := unR_inv h
  obtain ⟨d, len, hsh, h0, h1, h⟩ := arrL_inv h
  have ri : inR i := wf_h hst
  have hin := i32_idx h0 ri h1
  rcases h with ⟨rfl, h⟩ | ⟨rfl, hk, h⟩
  · have kk := hK _ _ _ _ h H locs ls hP hS hL hR (wf_c (hR k i).1 (wf_t (wf_t hst)))
    refine va_iald hx hb hKn hP k 0 (cell_arr hsh) rfl hin hd ?_
    rw [i32_toNat ri h0]
    exact kk
  · have e7 : len = 7 := by rcases shp_kind hsh with q | q | q | q <;> omega
    subst e7
    have hw : inR (stv k i) := by
      rcases hk with rfl | rfl <;> unfold stv inR <;> (repeat' split) <;> omega
    have kk := hK _ _ _ _ h H locs ls hP hS hL hR (wf_c hw (wf_t (wf_t hst)))
    rcases hk with rfl | rfl
    · exact va_ti hx hb hSt.2.1 hS hin (by show Value.int (i32 (stv 1001 ((i32 i).toNatClampNeg : Int))) = _; rw [i32_toNat ri h0]) hd kk
    · exact va_ti hx hb hSt.2.2 hS hin (by show Value.int (i32 (stv 1002 ((i32 i).toNatClampNeg : Int))) = _; rw [i32_toNat ri h0]) hd kk
theorem sd_caload (X : aX p s m args meth c R cells slots cc own nL ad D cI cC cG A0) {K : aK} {Ret : Option AV → Mem → Prop} {n a b : Nat} {z : Int} {pc : Nat} {L : Lc} {st : List AV} {μ : Mem} (hd : decode cc pc = .ok (.caload, 1)) (hn : n = pc + 1) (hK : ∀ pc L st μ, K pc L st μ → aG p l e R s m args below meth c cells slots QW nL ad D cI cC cG A0 pc L st μ) (h : stepI Ret .caload n a b z L st μ K) : aG p l e R s m args below meth c cells slots QW nL ad D cI cC cG A0 pc L st μ := by
  intro H locs ls hP hS hL hR hst
  obtain ⟨⟨hx, hb, hml, hown, hts⟩, hKn, hSt, hNs, hA, hI, hc, hs⟩ := X
  subst hn
  obtain ⟨i, t, rfl, h⟩ := un_inv h
  obtain ⟨k, t, rfl, h⟩ := unR_inv h
  obtain ⟨d, len, hsh, h0, h1, rfl, h⟩ := arrL_inv h
  have ri : inR i := wf_h hst
  have kk := hK _ _ _ _ h H locs ls hP hS hL hR (wf_c (hR k i).1 (wf_t (wf_t hst)))
  refine va_cald hx hb hKn hP k 1 (cell_chr hsh) rfl (i32_idx h0 ri h1) hd ?_
  rw [i32_toNat ri h0]
  exact kk
theorem sd_aaload (X : aX p s m args meth c R cells slots cc own nL ad D cI cC cG A0) {K : aK} {Ret : Option AV → Mem → Prop} {n a b : Nat} {z : Int} {pc : Nat} {L : Lc} {st : List AV} {μ : Mem} (hd : decode cc pc = .ok (.aaload, 1)) (hn : n = pc + 1) (hK : ∀ pc L st μ, K pc L st μ → aG p l e R s m args below meth c cells slots QW nL ad D cI cC cG A0 pc L st μ) (h : stepI Ret .aaload n a b z L st μ K) : aG p l e R s m args below meth c cells slots QW nL ad D cI cC cG A0 pc L st μ := by
  intro H locs ls hP hS hL hR hst
  obtain ⟨⟨hx, hb, hml, hown, hts⟩, hKn, hSt, hNs, hA, hI, hc, hs⟩ := X
  subst hn
  obtain ⟨i, t, rfl, h⟩ := un_inv h
  obtain ⟨k, t, rfl, h⟩ := unR_inv h
  obtain ⟨d, len, hsh, h0, h1, rfl, h⟩ := arrL_inv h
  have ri : inR i := wf_h hst
  have kk := hK _ _ _ _ h H locs ls hP hS hL hR (wf_c trivial (wf_t (wf_t hst)))
  refine va_aldq hx hb hKn hP k 2 (cell_ref hsh) rfl (i32_idx h0 ri h1) hd ?_
  rw [i32_cl ri]
  exact kk
theorem st_arr {μ : Mem} {k : Nat} {i x : Int} (ri : inR i) (h0 : 0 ≤ i) : upd (fun j : Nat => i32 (μ k j)) (i32 i).toNatClampNeg (i32 x) = fun j : Nat => i32 (stM μ k i x k j) := by
  rw [i32_cl ri]
  funext j
  unfold upd stM
  by_cases hj : j = i.toNat
  · rw [if_pos hj, if_pos ⟨rfl, by omega⟩]
  · rw [if_neg hj, if_neg (by omega)]
theorem sd_iastore (X : aX p s m args meth c R cells slots cc own nL ad D cI cC cG A0) {K : aK} {Ret : Option AV → Mem → Prop} {n a b : Nat} {z : Int} {pc : Nat} {L : Lc} {st : List AV} {μ : Mem} (hd : decode cc pc = .ok (.iastore, 1)) (hn : n = pc + 1) (hK : ∀ pc L st μ, K pc L st μ → aG p l e R s m args below meth c cells slots QW nL ad D cI cC cG A0 pc L st μ) (h : stepI Ret .iastore n a b z L st μ K) : aG p l e R s m args below meth c cells slots QW nL ad D cI cC cG A0 pc L st μ := by
  intro H locs ls hP hS hL hR hst
  obtain ⟨⟨hx, hb, hml, hown, hts⟩, hKn, hSt, hNs, hA, hI, hc, hs⟩ := X
  subst hn
  obtain ⟨x, t, rfl, h⟩ := un_inv h
  obtain ⟨i, t, rfl, h⟩ := un_inv h
  obtain ⟨k, t, rfl, h⟩ := unR_inv h
  obtain ⟨d, len, hsh, h0, h1, rfl, h⟩ := arrL_inv h
  have ri : inR i := wf_h (wf_t hst)
  refine va_iast hx hb hKn hP (aD hI hA) hS k 0 (cell_arr hsh) rfl (i32_idx h0 ri h1) hd (fun H1 locs1 hP1 _ hS1 => ?_)
  have hset : (ww ad cI cC cG μ).set k (ad k, .inl (cI, len, .inl (upd (fun j : Nat => i32 (μ k j)) (i32 i).toNatClampNeg (i32 x)))) = ww ad cI cC cG (stM μ k i x) := by
    refine ww_set ?_ (fun j hj => stM_ne hj)
    unfold cellE
    rw [hsh, st_arr ri h0]
  rw [hset] at hP1
  exact hK _ _ _ _ h H1 locs1 ls hP1 hS1 hL (stM_rng hR (wf_h hst) (fun n hn => by rw [hsh] at hn; cases hn)) (wf_t (wf_t (wf_t hst)))
theorem nar_char {x : Int} (h0 : 0 ≤ x) (h1 : x ≤ 65535) : vp_nar .char (i32 x) = i32 x := by
  rw [vp_nar_char]
  have hr : inR x := by unfold inR; omega
  obtain ⟨k, rfl⟩ : ∃ k : Nat, x = k := ⟨x.toNat, by omega⟩
  rw [← i32_nat]
  have h2 : k < 65536 := by omega
  have := pk_charN h2
  have e : vp_nar .char (nI k) = nI k := by unfold vp_nar; rw [this.1]
  rw [vp_nar_char] at e
  exact e
theorem sd_castore (X : aX p s m args meth c R cells slots cc own nL ad D cI cC cG A0) {K : aK} {Ret : Option AV → Mem → Prop} {n a b : Nat} {z : Int} {pc : Nat} {L : Lc} {st : List AV} {μ : Mem} (hd : decode cc pc = .ok (.castore, 1)) (hn : n = pc + 1) (hK : ∀ pc L st μ, K pc L st μ → aG p l e R s m args below meth c cells slots QW nL ad D cI cC cG A0 pc L st μ) (h : stepI Ret .castore n a b z L st μ K) : aG p l e R s m args below meth c cells slots QW nL ad D cI cC cG A0 pc L st μ := by
  intro H locs ls hP hS hL hR hst
  obtain ⟨⟨hx, hb, hml, hown, hts⟩, hKn, hSt, hNs, hA, hI, hc, hs⟩ := X
  subst hn
  obtain ⟨x, t, rfl, h⟩ := un_inv h
  obtain ⟨i, t, rfl, h⟩ := un_inv h
  obtain ⟨k, t, rfl, h⟩ := unR_inv h
  obtain ⟨d, len, hsh, h0, h1, rfl, hx0, hx1, h⟩ := arrL_inv h
  have ri : inR i := wf_h (wf_t hst)
  refine va_cast hx hb hKn hP (aD hI hA) hS k 1 (cell_chr hsh) rfl (i32_idx h0 ri h1) hd (fun H1 locs1 hP1 _ hS1 => ?_)
  have hset : (ww ad cI cC cG μ).set k (ad k, .inl (cC, len, .inl (upd (fun j : Nat => i32 (μ k j)) (i32 i).toNatClampNeg (vp_nar .char (i32 x))))) = ww ad cI cC cG (stM μ k i x) := by
    refine ww_set ?_ (fun j hj => stM_ne hj)
    unfold cellE
    rw [hsh, nar_char hx0 hx1, st_arr ri h0]
  rw [hset] at hP1
  exact hK _ _ _ _ h H1 locs1 ls hP1 hS1 hL (stM_rng hR (wf_h hst) (fun n _ => ⟨hx0, hx1⟩)) (wf_t (wf_t (wf_t hst)))
theorem sd_max (X : aX p s m args meth c R cells slots cc own nL ad D cI cC cG A0) {K : aK} {n k0 : Nat} {pc : Nat} {L : Lc} {st : List AV} {μ : Mem} (hd : decode cc pc = .ok (.invokestatic k0, 3)) (hn : n = pc + 3) (hw : Cond.methodLink own k0 Lib.Math.max.name ∈ lw_g) (hF : 1 ≤ R.frames) (hLo : 21 ≤ R.locals) (h8 : ((st.map (conc ad)).map fun v => v.category).sum ≤ 8) (hK : ∀ pc L st μ, K pc L st μ → aG p l e R s m args below meth c cells slots QW nL ad D cI cC cG A0 pc L st μ) (h : bin st fun x y st => K n L (.inl (imax x y) :: st) μ) : aG p l e R s m args below meth c cells slots QW nL ad D cI cC cG A0 pc L st μ := by
  intro H locs ls hP hS hL hR hst
  obtain ⟨⟨hx, hb, hml, hown, hts⟩, hKn, hSt, hNs, hA, hI, hc, hs⟩ := X
  subst hn
  obtain ⟨x, y, t, rfl, h⟩ := bin_inv h
  have rx : inR x := wf_h (wf_t hst)
  have ry : inR y := wf_h hst
  refine va_mmax hx hb (by rw [hml, hL.1]) hown (hts _ hw) (hts _ (lk_in (w := 0) (by decide +kernel))) (hts _ (lk_in (w := 0) (by decide +kernel))) (hts _ (lk_in (w := 0) (by decide +kernel))) hF ?_ hc hs hd ?_
  · simp only [List.map_cons, List.sum_cons] at h8
    show ((t.map (conc ad)).map fun v => v.category).sum + 13 ≤ R.locals
    omega
  · have e : (if i32 x < i32 y then i32 y else i32 x) = i32 (imax x y) := by
      unfold imax
      by_cases hxy : x < y
      · rw [if_pos hxy, if_pos ((i32_lt rx ry).mpr hxy)]
      · rw [if_neg hxy, if_neg (fun z => hxy ((i32_lt rx ry).mp z))]
    rw [e]
    exact hK _ _ _ _ h H locs ls hP hS hL hR (wf_c (show inR (imax x y) by unfold imax; split <;> assumption) (wf_t (wf_t hst)))
end SND2
