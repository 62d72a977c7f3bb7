/-! p28: THE RECORD AS THE LAW READS IT -/
def cn (x : Int) : List Int → Int
  | [] => 0
  | c :: cs => (if c = x then 1 else 0) + cn x cs
def lst : Int → List Int → Int
  | l, [] => l
  | _, c :: cs => lst c cs
/-- no two blanks side by side -/
def gdl : Int → List Int → Prop
  | _, [] => True
  | l, c :: cs => ¬ (c = 32 ∧ l = 32) ∧ gdl c cs
theorem cn_app (x : Int) : ∀ a b : List Int, cn x (a ++ b) = cn x a + cn x b
  | [], b => by simp [cn]
  | c :: a, b => by
    show (if c = x then (1 : Int) else 0) + cn x (a ++ b) = (if c = x then (1 : Int) else 0) + cn x a + cn x b
    rw [cn_app x a b]; omega
theorem lst_app : ∀ (l : Int) (a b : List Int), lst l (a ++ b) = lst (lst l a) b
  | _, [], _ => rfl
  | _, c :: a, b => lst_app c a b
theorem gdl_app : ∀ (l : Int) (a b : List Int), gdl l (a ++ b) ↔ gdl l a ∧ gdl (lst l a) b
  | _, [], _ => by simp [gdl, lst]
  | l, c :: a, b => by
    show (¬ (c = 32 ∧ l = 32) ∧ gdl c (a ++ b)) ↔ ((¬ (c = 32 ∧ l = 32) ∧ gdl c a) ∧ gdl (lst c a) b)
    rw [gdl_app c a b, and_assoc]
/-- a sign that stands in an entry -/
def okc (c : Int) : Prop := (48 ≤ c ∧ c ≤ 57) ∨ (97 ≤ c ∧ c ≤ 102) ∨ c = 120 ∨ c = 60 ∨ c = 33 ∨ c = 61 ∨ c = 42 ∨ c = 35 ∨ c = 63
theorem okc_no : ∀ a : List Int, (∀ c ∈ a, okc c) → cn 32 a = 0
  | [], _ => rfl
  | c :: a, h => by
    have h1 := h c List.mem_cons_self
    unfold okc at h1
    show (if c = 32 then (1 : Int) else 0) + cn 32 a = 0
    rw [okc_no a (fun d hd => h d (List.mem_cons_of_mem _ hd)), if_neg (by omega)]; rfl
theorem okc_lst : ∀ (a : List Int) (l : Int), (∀ c ∈ a, okc c) → a ≠ [] → lst l a ≠ 32
  | [], _, _, h => absurd rfl h
  | [c], l, h, _ => by
    have h1 := h c List.mem_cons_self
    unfold okc at h1
    show c ≠ 32
    omega
  | c :: d :: a, l, h, _ => okc_lst (d :: a) c (fun e he => h e (List.mem_cons_of_mem _ he)) (by simp)
theorem okc_gdl : ∀ (a : List Int) (l : Int), (∀ c ∈ a, okc c) → gdl l a
  | [], _, _ => trivial
  | c :: a, l, h => by
    have h1 := h c List.mem_cons_self
    unfold okc at h1
    exact ⟨fun z => by omega, okc_gdl a c (fun d hd => h d (List.mem_cons_of_mem _ hd))⟩
theorem dig_ok : ∀ (k : Nat) (x : Int), ∀ c ∈ outD k x, 48 ≤ c ∧ c ≤ 57
  | 0, x, c, h => by
    simp only [outD, List.mem_cons, List.not_mem_nil, or_false] at h
    omega
  | k + 1, x, c, h => by
    simp only [outD, List.mem_cons] at h
    rcases h with h | h
    · have : 0 ≤ x / p10 (k + 1) % 10 ∧ x / p10 (k + 1) % 10 ≤ 9 := by omega
      omega
    · exact dig_ok k x c h
theorem cn_no {x : Int} : ∀ a : List Int, (∀ c ∈ a, c ≠ x) → cn x a = 0
  | [], _ => rfl
  | c :: a, h => by
    show (if c = x then (1 : Int) else 0) + cn x a = 0
    rw [cn_no a (fun d hd => h d (List.mem_cons_of_mem _ hd)), if_neg (h c List.mem_cons_self)]; rfl
theorem entL_ok {k a b c t : Int} (hb : k = 0 ∨ k = 1 → isC b ∧ isC c) : ∀ x ∈ entL k a b c t, okc x := by
  have hd := dig_ok (nd a) a
  intro x hx
  unfold entL cel digs at hx
  unfold okc
  split at hx
  · rename_i hk
    have hb := hb hk
    simp only [List.mem_append, List.mem_cons, List.not_mem_nil, or_false] at hx
    rcases hx with h | h | h | h | h
    · split at h
      · simp only [List.mem_cons, List.not_mem_nil, or_false] at h; omega
      · cases h
    · have := hd x h; omega
    · omega
    · omega
    · split at h
      · simp only [List.mem_cons, List.not_mem_nil, or_false] at h; omega
      · cases h
  · rename_i hk
    simp only [List.mem_cons] at hx
    rcases hx with h | h
    · (repeat' split at h) <;> omega
    · split at h
      · have := hd x h; omega
      · cases h
theorem entL_35 {k a b c t : Int} (hk : 0 ≤ k ∧ k ≤ 5) (hb : k = 0 ∨ k = 1 → isC b ∧ isC c) : cn 35 (entL k a b c t) = 0 := by
  have hd := dig_ok (nd a) a
  refine cn_no _ (fun x hx => ?_)
  unfold entL cel digs at hx
  split at hx
  · rename_i hk
    have hb := hb hk
    simp only [List.mem_append, List.mem_cons, List.not_mem_nil, or_false] at hx
    rcases hx with h | h | h | h | h
    · split at h
      · simp only [List.mem_cons, List.not_mem_nil, or_false] at h; omega
      · cases h
    · have := hd x h; omega
    · omega
    · omega
    · split at h
      · simp only [List.mem_cons, List.not_mem_nil, or_false] at h; omega
      · cases h
  · rename_i hk
    simp only [List.mem_cons] at hx
    rcases hx with h | h
    · (repeat' split at h) <;> omega
    · split at h
      · have := hd x h; omega
      · cases h
theorem entL_6 {a b c t : Int} (ha : 0 ≤ a ∧ a ≤ 9) : entL 6 a b c t = [35, 48 + a] := by
  have e : nd a = 0 := by unfold nd; rw [if_pos (by omega)]
  unfold entL digs
  rw [if_neg (by omega), if_neg (by omega), if_neg (by omega), if_neg (by omega), if_neg (by omega), if_pos (by omega), e]
  show [35, 48 + a % 10] = _
  rw [show a % 10 = a by omega]
theorem entL_ne {k a b c t : Int} (h0 : 0 ≤ a) (h1 : a ≤ 2147483647) : entL k a b c t ≠ [] := by
  unfold entL
  split
  · intro z
    have hl := (digs_len h0 h1).1
    have := congrArg List.length z
    simp only [List.length_append, List.length_nil] at this
    omega
  · exact List.cons_ne_nil _ _
/-- what stands in the entries, and where the end stands -/
def xE (v : Rw) : Prop := (∀ e : Nat, (e : Int) < v 11 → (0 ≤ v (1090 + 5 * (e : Int)) ∧ v (1090 + 5 * (e : Int)) ≤ 6) ∧ (v (1090 + 5 * (e : Int)) = 6 → 1 < v 7 ∧ (e : Int) = v 11 - 1)) ∧ (1 < v 7 → 1 ≤ v 11 ∧ v (1090 + 5 * (v 11 - 1)) = 6 ∧ v (1090 + 5 * (v 11 - 1) + 1) = v 8) ∧ 0 ≤ v 8 ∧ v 8 ≤ 9
def recOK (v : Rw) (L : List Int) : Prop := (∀ c ∈ L, okc c ∨ c = 32) ∧ gdl 32 L ∧ (v 11 = 0 → L = []) ∧ (v 11 ≠ 0 → cn 32 L = v 11 - 1 ∧ lst 32 L ≠ 32) ∧ cn 35 L = (if 1 < v 7 then 1 else 0) ∧ (1 < v 7 → ∃ a, L = a ++ [35, 48 + v 8])
theorem rec_n {v : Rw} (hx : xE v) (hE : gE v) : ∀ n : Nat, (n : Int) ≤ v 11 → (∀ c ∈ recL v n, okc c ∨ c = 32) ∧ gdl 32 (recL v n) ∧ (n ≠ 0 → cn 32 (recL v n) = (n : Int) - 1 ∧ lst 32 (recL v n) ≠ 32) ∧ cn 35 (recL v n) = (if 1 < v 7 ∧ (n : Int) = v 11 then 1 else 0)
  | 0, h => by
    refine ⟨fun c hc => absurd hc List.not_mem_nil, trivial, fun z => absurd rfl z, ?_⟩
    show (0 : Int) = _
    rw [if_neg]
    intro z
    have := (hx.2.1 z.1).1
    omega
  | n + 1, h => by
    obtain ⟨i1, i2, i3, i4⟩ := rec_n hx hE n (by omega)
    obtain ⟨⟨a0, a1⟩, hbc⟩ := hE n (by omega)
    obtain ⟨hk, hk6⟩ := hx.1 n (by omega)
    have eo : ∀ x ∈ ent v n, okc x := entL_ok hbc
    have en : ent v n ≠ [] := entL_ne a0 a1
    have e35 : cn 35 (ent v n) = (if 1 < v 7 ∧ ((n + 1 : Nat) : Int) = v 11 then 1 else 0) := by
      by_cases h6 : v (1090 + 5 * (n : Int)) = 6
      · obtain ⟨g1, g2⟩ := hk6 h6
        rw [if_pos ⟨g1, by omega⟩]
        obtain ⟨_, _, g3⟩ := hx.2.1 g1
        rw [← g2] at g3
        unfold ent
        rw [h6, entL_6 (by rw [g3]; exact hx.2.2), g3]
        have := hx.2.2
        show (if (35 : Int) = 35 then (1 : Int) else 0) + ((if 48 + v 8 = 35 then (1 : Int) else 0) + 0) = 1
        rw [if_pos rfl, if_neg (by omega)]; rfl
      · rw [if_neg]
        · unfold ent
          exact entL_35 (by omega) hbc
        · intro z
          have := (hx.2.1 z.1).2.1
          rw [← z.2, show (((n + 1 : Nat) : Int) - 1) = n by omega] at this
          exact h6 this
    have i4' : cn 35 (recL v n) = 0 := by rw [i4, if_neg (by omega)]
    show (∀ c ∈ recL v n ++ ((if n = 0 then [] else [32]) ++ ent v n), okc c ∨ c = 32) ∧ gdl 32 (recL v n ++ ((if n = 0 then [] else [32]) ++ ent v n)) ∧ (n + 1 ≠ 0 → cn 32 (recL v n ++ ((if n = 0 then [] else [32]) ++ ent v n)) = ((n + 1 : Nat) : Int) - 1 ∧ lst 32 (recL v n ++ ((if n = 0 then [] else [32]) ++ ent v n)) ≠ 32) ∧ cn 35 (recL v n ++ ((if n = 0 then [] else [32]) ++ ent v n)) = _
    rw [cn_app, cn_app, cn_app, cn_app, lst_app, lst_app, gdl_app, gdl_app, okc_no _ eo, e35, i4']
    by_cases hn : n = 0
    · subst hn
      rw [if_pos rfl]
      refine ⟨fun c hc => ?_, ⟨trivial, trivial, okc_gdl _ _ eo⟩, fun _ => ⟨rfl, okc_lst _ _ eo en⟩, by show (0 : Int) + (0 + _) = _; omega⟩
      rcases List.mem_append.mp hc with z | z
      · exact absurd z List.not_mem_nil
      · exact Or.inl (eo c (by simpa using z))
    · rw [if_neg hn]
      obtain ⟨i3a, i3b⟩ := i3 hn
      refine ⟨fun c hc => ?_, ⟨i2, ⟨fun z => i3b z.2, trivial⟩, okc_gdl _ _ eo⟩, fun _ => ⟨?_, okc_lst _ _ eo en⟩, ?_⟩
      · simp only [List.mem_append, List.mem_cons, List.not_mem_nil, or_false] at hc
        rcases hc with h | h | h
        · exact i1 c h
        · exact Or.inr h
        · exact Or.inl (eo c h)
      · rw [i3a]
        show (n : Int) - 1 + (((if (32 : Int) = 32 then (1 : Int) else 0) + 0) + 0) = _
        rw [if_pos rfl]; omega
      · show (0 : Int) + (((if (32 : Int) = 35 then (1 : Int) else 0) + 0) + _) = _
        rw [if_neg (by omega)]; omega
theorem rec_ok {v : Rw} (hx : xE v) (hE : gE v) (h11 : 0 ≤ v 11) : recOK v (recL v (v 11).toNat) := by
  have en : (((v 11).toNat : Nat) : Int) = v 11 := by omega
  obtain ⟨i1, i2, i3, i4⟩ := rec_n hx hE (v 11).toNat (by omega)
  rw [en] at i3 i4
  refine ⟨i1, i2, fun z => by rw [z]; rfl, fun z => i3 (by omega), ?_, fun z => ?_⟩
  · rw [i4]
    by_cases h : 1 < v 7
    · rw [if_pos ⟨h, rfl⟩, if_pos h]
    · rw [if_neg (fun z => h z.1), if_neg h]
  · obtain ⟨g1, g2, g3⟩ := hx.2.1 z
    obtain ⟨n, hn⟩ : ∃ n : Nat, (v 11).toNat = n + 1 := ⟨(v 11).toNat - 1, by omega⟩
    rw [hn]
    have en2 : (n : Int) = v 11 - 1 := by omega
    refine ⟨recL v n ++ (if n = 0 then [] else [32]), ?_⟩
    show recL v n ++ ((if n = 0 then [] else [32]) ++ ent v n) = _
    rw [List.append_assoc]
    congr 2
    unfold ent
    rw [en2, g2, entL_6 (by rw [g3]; exact hx.2.2), g3]
/-! how the acts keep it -/
theorem xE_cg {v w : Rw} (h : xE v) (h7 : 1 < w 7 ↔ 1 < v 7) (h8 : w 8 = v 8) (h11 : w 11 = v 11) (hi : ∀ i, 1090 ≤ i → w i = v i) : xE w := by
  obtain ⟨a, b, c⟩ := h
  unfold xE
  rw [h8, h11, h7]
  refine ⟨fun e he => ?_, fun z => ?_, c⟩
  · rw [hi (1090 + 5 * (e : Int)) (by omega)]
    exact a e he
  · have := (b z).1
    rw [hi _ (by omega), hi _ (by omega)]
    exact b z
theorem xE_wr {v : Rw} {k a b c t : Int} (h : xE v) (h7 : v 7 ≤ 1) (h11 : 0 ≤ v 11) (hk : 0 ≤ k ∧ k ≤ 5) : xE (wrF v k a b c t) := by
  obtain ⟨q, _, r⟩ := h
  have e7 : wrF v k a b c t 7 = v 7 := wrF_lo h11 (by omega)
  have e8 : wrF v k a b c t 8 = v 8 := wrF_lo h11 (by omega)
  unfold xE
  rw [wrF_11, e7, e8]
  refine ⟨fun e he => ?_, fun z => by omega, r⟩
  by_cases hl : (e : Int) = v 11
  · have : wrF v k a b c t (1090 + 5 * (e : Int)) = k := by
      rw [hl]
      unfold wrF
      simp (disch := omega) only [u1_ne, u1_eq]
    rw [this]
    exact ⟨by omega, fun z => by omega⟩
  · have : wrF v k a b c t (1090 + 5 * (e : Int)) = v (1090 + 5 * (e : Int)) := by
      unfold wrF
      simp (disch := omega) only [u1_ne]
    rw [this]
    have := q e (by omega)
    exact ⟨this.1, fun z => by have := this.2 z; omega⟩
theorem xE_en {v : Rw} {st re : Int} (h : xE v) (h7 : v 7 ≤ 1) (h11 : 0 ≤ v 11) (hst : 1 < st) (hre : 0 ≤ re ∧ re ≤ 9) : xE (enF v st re) := by
  obtain ⟨q, _, r⟩ := h
  have hi : ∀ i, 1090 ≤ i → i < 1090 + 5 * v 11 → enF v st re i = v i := by
    intro i h1 h2
    have e : clF (u1 (u1 v 7 st) 8 re) 11 = v 11 := by simp (disch := omega) only [clF, u1_ne]
    unfold enF wrF
    rw [e]
    simp (disch := omega) only [clF, u1_ne]
  have e0 : enF v st re (1090 + 5 * v 11) = 6 ∧ enF v st re (1090 + 5 * v 11 + 1) = re := by
    have e : clF (u1 (u1 v 7 st) 8 re) 11 = v 11 := by simp (disch := omega) only [clF, u1_ne]
    unfold enF wrF
    rw [e]
    constructor <;> simp (disch := omega) only [clF, u1_ne, u1_eq]
  unfold xE
  rw [enF_11, enF_7 h11, enF_8 h11, show v 11 + 1 - 1 = v 11 by omega]
  refine ⟨fun e he => ?_, fun _ => ⟨by omega, e0⟩, hre⟩
  by_cases hl : (e : Int) = v 11
  · rw [hl, e0.1]
    exact ⟨by omega, fun _ => ⟨hst, rfl⟩⟩
  · rw [hi _ (by omega) (by omega)]
    have := q e (by omega)
    exact ⟨this.1, fun z => by have := this.2 z; omega⟩
