/-! ONE INSTRUCTION: what must hold of the state ahead of it, K being what is wanted of the state behind it; Ret what is wanted of an answer -/
abbrev E5 : Type := Nat × Nat × Nat × Nat × Int
abbrev aK : Type := Nat → Lc → List AV → Mem → Prop
def ldI (o : Option AV) (k : Int → Prop) : Prop := match o with
  | some (.inl x) => k x
  | _ => False
def ldR (o : Option AV) (k : AV → Prop) : Prop := match o with
  | some (.inr (.ref r)) => k (.inr (.ref r))
  | some (.inr .null) => k (.inr .null)
  | _ => False
def ldL (o : Option AV) (k : Int64 → Prop) : Prop := match o with
  | some (.inr (.long x)) => k x
  | _ => False
def un (st : List AV) (k : Int → List AV → Prop) : Prop := match st with
  | .inl x :: st => k x st
  | _ => False
def bin (st : List AV) (k : Int → Int → List AV → Prop) : Prop := match st with
  | .inl y :: .inl x :: st => k x y st
  | _ => False
def unR (st : List AV) (k : Nat → List AV → Prop) : Prop := match st with
  | .inr (.ref r) :: st => k r st
  | _ => False
def unL (st : List AV) (k : Int64 → List AV → Prop) : Prop := match st with
  | .inr (.long x) :: st => k x st
  | _ => False
def binL (st : List AV) (k : Int64 → Int64 → List AV → Prop) : Prop := match st with
  | .inr (.long y) :: .inr (.long x) :: st => k x y st
  | _ => False
def unA (st : List AV) (k : AV → List AV → Prop) : Prop := match st with
  | .inr (.ref r) :: st => k (.inr (.ref r)) st
  | .inr .null :: st => k (.inr .null) st
  | _ => False
def any1 (st : List AV) (k : AV → List AV → Prop) : Prop := match st with
  | v :: st => av2 v = false ∧ k v st
  | _ => False
def gfld (sh : Shp) (ci f : Nat) (kI : Prop) (kR : Nat → Prop) : Prop := match sh with
  | .inl (c, fs) => c = ci ∧ (match fs[f]? with
    | some none => kI
    | some (some r) => kR r
    | none => False)
  | .inr _ => False
def pfld (sh : Shp) (ci f : Nat) (k : Prop) : Prop := match sh with
  | .inl (c, fs) => c = ci ∧ fs[f]? = some none ∧ k
  | .inr _ => False
def arrL (sh : Shp) (k : Nat → Nat → Prop) : Prop := match sh with
  | .inr (d, n) => k d n
  | .inl _ => False
def rcv (as : List AV) (ci : Int) : Prop := match as with
  | .inr (.ref r) :: _ => (match shp r with
    | .inl (c, _) => c = ci.toNat
    | .inr _ => False)
  | _ => False
def kc (K : aK) (n : Nat) (L : Lc) (st : List AV) : Option AV → Mem → Prop := fun r μ => K n L (r.toList ++ st) μ
def tsw (pc : Nat) (x : Int) (lo : Int) (offs : List Int) (k : Nat → Prop) : Prop := match offs with
  | [] => True
  | o :: offs => (x = lo → k ((pc : Int) + o).toNat) ∧ tsw pc x (lo + 1) offs k
def imax (x y : Int) : Int := if x < y then y else x
def imin (x y : Int) : Int := if y < x then y else x
def acopy (st : List AV) (k : Nat → Nat → Int → Int → Int → List AV → Prop) : Prop := match st with
  | .inl n :: .inl dp :: .inr (.ref a) :: .inl sp :: .inr (.ref a0) :: st => k a0 a sp dp n st
  | _ => False
def cbr (c : Jvm.ClassFile.Cond) (x y : Int) : Prop := match c with
  | .eq => x = y
  | .ne => ¬ x = y
  | .lt => x < y
  | .ge => y ≤ x
  | .gt => y < x
  | .le => x ≤ y
def stepI (Ret : Option AV → Mem → Prop) (i : Instr) (n a b : Nat) (z : Int) (L : Lc) (st : List AV) (μ : Mem) (K : aK) : Prop := match i with
  | .iconst _ => K n L (.inl z :: st) μ
  | .bipush _ => K n L (.inl z :: st) μ
  | .sipush _ => K n L (.inl z :: st) μ
  | .ldc _ => K n L (.inl z :: st) μ
  | .ldc2_w _ => K n L (.inr (.long (Int64.ofInt z)) :: st) μ
  | .aconst_null => K n L (.inr .null :: st) μ
  | .iload _ => ldI (lget L a) fun x => K n L (.inl x :: st) μ
  | .iload_n _ => ldI (lget L a) fun x => K n L (.inl x :: st) μ
  | .aload _ => ldR (lget L a) fun v => K n L (v :: st) μ
  | .aload_n _ => ldR (lget L a) fun v => K n L (v :: st) μ
  | .lload _ => ldL (lget L a) fun v => K n L (.inr (.long v) :: st) μ
  | .lload_n _ => ldL (lget L a) fun v => K n L (.inr (.long v) :: st) μ
  | .istore _ => un st fun x st => nlg L a = true ∧ K n (lset L a (.inl x)) st μ
  | .istore_n _ => un st fun x st => nlg L a = true ∧ K n (lset L a (.inl x)) st μ
  | .astore _ => unA st fun x st => nlg L a = true ∧ K n (lset L a x) st μ
  | .astore_n _ => unA st fun x st => nlg L a = true ∧ K n (lset L a x) st μ
  | .lstore _ => unL st fun x st => nlg L a = true ∧ K n (lset2 L a (.inr (.long x))) st μ
  | .lstore_n _ => unL st fun x st => nlg L a = true ∧ K n (lset2 L a (.inr (.long x))) st μ
  | .iinc _ _ => ldI (lget L a) fun x => inR (x + z) ∧ nlg L a = true ∧ K n (lset L a (.inl (x + z))) st μ
  | .dup => any1 st fun v st => K n L (v :: v :: st) μ
  | .pop => any1 st fun _ st => K n L st μ
  | .dup2 => any1 st fun v st => any1 st fun w st => K n L (v :: w :: v :: w :: st) μ
  | .iadd => bin st fun x y st => inR (x + y) ∧ K n L (.inl (x + y) :: st) μ
  | .isub => bin st fun x y st => inR (x - y) ∧ K n L (.inl (x - y) :: st) μ
  | .imul => bin st fun x y st => inR (x * y) ∧ K n L (.inl (x * y) :: st) μ
  | .idiv => bin st fun x y st => 0 ≤ x ∧ 0 < y ∧ K n L (.inl (x / y) :: st) μ
  | .irem => bin st fun x y st => 0 ≤ x ∧ 0 < y ∧ K n L (.inl (x % y) :: st) μ
  | .ineg => un st fun x st => inR (-x) ∧ K n L (.inl (-x) :: st) μ
  | .i2c => un st fun x st => 0 ≤ x ∧ x ≤ 65535 ∧ K n L (.inl x :: st) μ
  | .i2l => un st fun x st => K n L (.inr (.long (Int64.ofInt x)) :: st) μ
  | .ladd => binL st fun x y st => K n L (.inr (.long (x + y)) :: st) μ
  | .lmul => binL st fun x y st => K n L (.inr (.long (x * y)) :: st) μ
  | .goto _ => K a L st μ
  | .ifCond c _ => un st fun x st => (cbr c x 0 → K a L st μ) ∧ (¬ cbr c x 0 → K n L st μ)
  | .if_icmp c _ => bin st fun x y st => (cbr c x y → K a L st μ) ∧ (¬ cbr c x y → K n L st μ)
  | .ifnull _ => unA st fun v st => (v = .inr .null → K a L st μ) ∧ (¬ v = .inr .null → K n L st μ)
  | .tableswitch d lo hi offs => un st fun x st => ((x < lo ∨ hi < x) → K ((a : Int) + d).toNat L st μ) ∧ tsw a x lo offs.toList fun t => K t L st μ
  | .getfield _ => unR st fun k st => gfld (shp k) b a (K n L (.inl (μ k z) :: st) μ) fun r => K n L (.inr (.ref r) :: st) μ
  | .putfield _ => un st fun x st => unR st fun k st => pfld (shp k) b a (K n L st (stM μ k z x))
  | .getstatic _ => K n L (.inr (.ref a) :: st) μ
  | .arraylength => unR st fun k st => arrL (shp k) fun d len => (d = 3 → k = 1001 ∨ k = 1002) ∧ K n L (.inl len :: st) μ
  | .iaload => un st fun i st => unR st fun k st => arrL (shp k) fun d len => 0 ≤ i ∧ i < len ∧ ((d = 0 ∧ K n L (.inl (μ k i) :: st) μ) ∨ (d = 3 ∧ (k = 1001 ∨ k = 1002) ∧ K n L (.inl (stv k i) :: st) μ))
  | .caload => un st fun i st => unR st fun k st => arrL (shp k) fun d len => 0 ≤ i ∧ i < len ∧ d = 1 ∧ K n L (.inl (μ k i) :: st) μ
  | .aaload => un st fun i st => unR st fun k st => arrL (shp k) fun d len => 0 ≤ i ∧ i < len ∧ d = 2 ∧ K n L (.inr (.ref (gHist i.toNat)) :: st) μ
  | .iastore => un st fun x st => un st fun i st => unR st fun k st => arrL (shp k) fun d len => 0 ≤ i ∧ i < len ∧ d = 0 ∧ K n L st (stM μ k i x)
  | .castore => un st fun x st => un st fun i st => unR st fun k st => arrL (shp k) fun d len => 0 ≤ i ∧ i < len ∧ d = 1 ∧ 0 ≤ x ∧ x ≤ 65535 ∧ K n L st (stM μ k i x)
  | .invokestatic _ =>
    if a = 1000 then bin st fun x y st => st.length ≤ 4 ∧ K n L (.inl (imax x y) :: st) μ
    else if a = 1001 then bin st fun x y st => st.length ≤ 4 ∧ K n L (.inl (imin x y) :: st) μ
    else if a = 1002 then acopy st fun a0 a1 sp dp m st => st.length ≤ 4 ∧ arrL (shp a0) fun d0 n0 => arrL (shp a1) fun d1 n1 => d0 = d1 ∧ d0 < 2 ∧ 0 ≤ sp ∧ 0 ≤ dp ∧ 0 ≤ m ∧ sp + m ≤ n0 ∧ dp + m ≤ n1 ∧ K n L st (cpM μ a0 a1 sp dp m)
    else b ≤ st.length ∧ (st.drop b).length ≤ 4 ∧ wpM a (st.take b).reverse μ (kc K n L (st.drop b))
  | .invokevirtual _ => b ≤ st.length ∧ (st.drop b).length ≤ 4 ∧ rcv (st.take b).reverse z ∧ wpM a (st.take b).reverse μ (kc K n L (st.drop b))
  | .ireturn => un st fun x st => st = [] ∧ (b = 0 ∨ (b = 1 ∧ (x = 0 ∨ x = 1)) ∨ (b = 2 ∧ 0 ≤ x ∧ x ≤ 65535)) ∧ Ret (some (.inl x)) μ
  | .lreturn => unL st fun x st => st = [] ∧ Ret (some (.inr (.long x))) μ
  | .areturn => unA st fun v st => st = [] ∧ Ret (some v) μ
  | .return_ => st = [] ∧ Ret none μ
  | _ => False
