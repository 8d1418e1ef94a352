/-! ===== the small machine: values, store, steps (its tables stand ahead) ===== -/
abbrev MV : Type := Int ⊕ (BitVec 64 ⊕ Option Nat)
abbrev mI (x : Int) : MV := Sum.inl x
abbrev mL (x : BitVec 64) : MV := Sum.inr (Sum.inl x)
abbrev mR (x : Option Nat) : MV := Sum.inr (Sum.inr x)
/-- ints, longs, references of a cell's places; how many cells, of how many places; what the later cells are (kind, length); the script -/
abbrev MS : Type := (Nat → Nat → Int) × (Nat → Nat → BitVec 64) × (Nat → Nat → Option Nat) × (Nat × Nat) × (Nat → Nat × Nat) × (Nat × (Nat → Int))
def u2 {α : Type} (f : Nat → Nat → α) (k s : Nat) (v : α) : Nat → Nat → α := fun k' s' => if k' = k ∧ s' = s then v else f k' s'
def zr {α : Type} (f : Nat → Nat → α) (a b : Nat) (z : α) : Nat → Nat → α := fun k s => if a ≤ k ∧ k < b then z else f k s
def gI (σ : MS) (k s : Nat) : Int := σ.1 k s
def gL (σ : MS) (k s : Nat) : BitVec 64 := σ.2.1 k s
def gR (σ : MS) (k s : Nat) : Option Nat := σ.2.2.1 k s
def nC (σ : MS) : Nat := σ.2.2.2.1.1
def tS (σ : MS) : Nat := σ.2.2.2.1.2
def sI (σ : MS) (k s : Nat) (v : Int) : MS := (u2 σ.1 k s v, σ.2)
def sL (σ : MS) (k s : Nat) (v : BitVec 64) : MS := (σ.1, u2 σ.2.1 k s v, σ.2.2)
def sR (σ : MS) (k s : Nat) (v : Option Nat) : MS := (σ.1, σ.2.1, u2 σ.2.2.1 k s v, σ.2.2.2)
def scrK : Nat := 1000000
def strK : Nat := 2000000
def strB : Nat := 3000000
def strAt (j : Nat) : List Nat := stL.getD j []
/-- kind and length of a cell -/
def kd (σ : MS) (k : Nat) : Nat × Nat := if k < fxN then fxL.getD k (0, 0) else if k = scrK then (9, σ.2.2.2.2.2.1) else if strK ≤ k ∧ k < strK + stN then (50, 0) else if strB ≤ k ∧ k < strB + stN then (8, (strAt (k - strB)).length) else σ.2.2.2.2.1 k
def cpI (σ : MS) (k0 : Nat) (sp : Int) (k1 : Nat) (dp n : Int) : MS := ((fun k s => if k = k1 ∧ dp ≤ (s : Int) ∧ (s : Int) < dp + n then σ.1 k0 ((s : Int) - dp + sp).toNat else σ.1 k s), σ.2)
def cpL (σ : MS) (k0 : Nat) (sp : Int) (k1 : Nat) (dp n : Int) : MS := (σ.1, (fun k s => if k = k1 ∧ dp ≤ (s : Int) ∧ (s : Int) < dp + n then σ.2.1 k0 ((s : Int) - dp + sp).toNat else σ.2.1 k s), σ.2.2)
/-- a new int[n] -/
def alI (σ : MS) (n : Nat) : MS := (zr σ.1 (nC σ) (nC σ + 1) 0, zr σ.2.1 (nC σ) (nC σ + 1) 0, zr σ.2.2.1 (nC σ) (nC σ + 1) none, (nC σ + 1, tS σ + n), (fun k => if k = nC σ then (3, n) else σ.2.2.2.2.1 k), σ.2.2.2.2.2)
/-- a new state of the judge: the object, its row, back, held -/
def alS (σ : MS) : MS := (zr σ.1 (nC σ) (nC σ + 4) 0, zr σ.2.1 (nC σ) (nC σ + 4) 0, zr σ.2.2.1 (nC σ) (nC σ + 4) none, (nC σ + 4, tS σ + 1267), (fun k => if k = nC σ then (28, 0) else if k = nC σ + 1 then (4, 1188) else if k = nC σ + 2 then (3, 4) else if k = nC σ + 3 then (3, 64) else σ.2.2.2.2.1 k), σ.2.2.2.2.2)
/-- a final reference's cell -/
def fIn (ci s k : Nat) : Nat := if ci = 8 then k + 1 + s else (fnL.getD ci []).getD s 0
abbrev Ins : Type := Instr × Nat × Nat × Nat × Nat × List (Int × Nat)
abbrev Cf : Type := List Ins × List (Option MV) × List MV × MS
abbrev Rs : Type := Option MV × MS
abbrev DP : Type := (p : Prop) ×' Decidable p
abbrev Act : Type := Option (Cf ⊕ ((DP × Cf × Cf) ⊕ ((DP × Rs) ⊕ ((DP × Nat × List MV × MS × (Rs → Cf)) ⊕ (Int × List (Int × Cf) × Cf)))))
def w32 (x : Int) : Int := x.bmod 4294967296
def w16 (x : Int) : Int := x.bmod 65536
def w8 (x : Int) : Int := x.bmod 256
def b32 (x : Int) : BitVec 32 := BitVec.ofInt 32 x
def iAnd (x y : Int) : Int := (b32 x &&& b32 y).toInt
def iOr (x y : Int) : Int := (b32 x ||| b32 y).toInt
def iXor (x y : Int) : Int := (b32 x ^^^ b32 y).toInt
def iShl (x y : Int) : Int := w32 (x * 2 ^ (y % 32).toNat)
def iShr (x y : Int) : Int := x / 2 ^ (y % 32).toNat
def lShl (x : BitVec 64) (y : Int) : BitVec 64 := x <<< (y % 64).toNat
def lShr (x : BitVec 64) (y : Int) : BitVec 64 := x.sshiftRight (y % 64).toNat
def lUsh (x : BitVec 64) (y : Int) : BitVec 64 := x >>> (y % 64).toNat
def iL (x : Int) : BitVec 64 := BitVec.ofInt 64 x
def lI (x : BitVec 64) : Int := w32 x.toInt
def nCf (σ : MS) : Cf := ([], [], [], σ)
def aNx (r : List Ins) (ls : List (Option MV)) (st : List MV) (σ : MS) : Act := some (.inl (r, ls, st, σ))
def aBr (p : Prop) (d : Decidable p) (x y : Cf) : Act := some (.inr (.inl (⟨p, d⟩, x, y)))
def aRt (p : Prop) (d : Decidable p) (v : Option MV) (σ : MS) : Act := some (.inr (.inr (.inl (⟨p, d⟩, v, σ))))
def aCl (p : Prop) (d : Decidable p) (m : Nat) (as : List MV) (σ : MS) (k : Rs → Cf) : Act := some (.inr (.inr (.inr (.inl (⟨p, d⟩, m, as, σ, k)))))
def aSw (x : Int) (l : List (Int × Cf)) (d : Cf) : Act := some (.inr (.inr (.inr (.inr (x, l, d)))))
/-- at or above: an index lies in an array of this kind -/
abbrev ab (σ : MS) (ty k : Nat) (i : Int) : Prop := (kd σ k).1 = ty ∧ 0 ≤ i ∧ i < ((kd σ k).2 : Int)
/-- two stretches lie in arrays of this kind -/
abbrev ac (σ : MS) (ty k0 k1 : Nat) (sp dp n : Int) : Prop := ((kd σ k0).1 = ty ∧ (kd σ k1).1 = ty) ∧ (0 ≤ sp ∧ 0 ≤ dp ∧ 0 ≤ n) ∧ (sp + n ≤ ((kd σ k0).2 : Int) ∧ dp + n ≤ ((kd σ k1).2 : Int))
/-- an object of this kind -/
abbrev ao (σ : MS) (ci : Nat) (x : Option Nat) : Prop := x.isSome = true ∧ (kd σ (x.getD 0)).1 = 20 + ci
abbrev bl (x : Int) : Prop := x = 0 ∨ x = 1
def lk (ls : List (Option MV)) (j : Nat) : List (Option MV) := match j with
  | 0 => ls
  | j + 1 => match ls[j]? with
    | some (some (.inr (.inl _))) => ls.set j none
    | _ => ls
def l1 (ls : List (Option MV)) (j : Nat) (v : MV) : List (Option MV) := (lk ls j).set j (some v)
def l2 (ls : List (Option MV)) (j : Nat) (v : MV) : List (Option MV) := ((lk ls j).set j (some v)).set (j + 1) none
def mLdI (j : Nat) (r : List Ins) (ls : List (Option MV)) (st : List MV) (σ : MS) : Act := match ls[j]? with
  | some (some (.inl x)) => aNx r ls (mI x :: st) σ
  | _ => none
def mLdL (j : Nat) (r : List Ins) (ls : List (Option MV)) (st : List MV) (σ : MS) : Act := match ls[j]? with
  | some (some (.inr (.inl x))) => aNx r ls (mL x :: st) σ
  | _ => none
def mLdR (j : Nat) (r : List Ins) (ls : List (Option MV)) (st : List MV) (σ : MS) : Act := match ls[j]? with
  | some (some (.inr (.inr x))) => aNx r ls (mR x :: st) σ
  | _ => none
def mStI (j : Nat) (r : List Ins) (ls : List (Option MV)) (st : List MV) (σ : MS) : Act := match st with
  | .inl x :: s => aNx r (l1 ls j (mI x)) s σ
  | _ => none
def mStL (j : Nat) (r : List Ins) (ls : List (Option MV)) (st : List MV) (σ : MS) : Act := match st with
  | .inr (.inl x) :: s => aNx r (l2 ls j (mL x)) s σ
  | _ => none
def mStR (j : Nat) (r : List Ins) (ls : List (Option MV)) (st : List MV) (σ : MS) : Act := match st with
  | .inr (.inr x) :: s => aNx r (l1 ls j (mR x)) s σ
  | _ => none
def mBI (f : Int → Int → Int) (r : List Ins) (ls : List (Option MV)) (st : List MV) (σ : MS) : Act := match st with
  | .inl y :: .inl x :: s => aNx r ls (mI (f x y) :: s) σ
  | _ => none
def mBD (f : Int → Int → Int) (r : List Ins) (ls : List (Option MV)) (st : List MV) (σ : MS) : Act := match st with
  | .inl y :: .inl x :: s => aBr (¬ y = 0) inferInstance (r, ls, mI (f x y) :: s, σ) (nCf σ)
  | _ => none
def mBL (f : BitVec 64 → BitVec 64 → BitVec 64) (r : List Ins) (ls : List (Option MV)) (st : List MV) (σ : MS) : Act := match st with
  | .inr (.inl y) :: .inr (.inl x) :: s => aNx r ls (mL (f x y) :: s) σ
  | _ => none
def mBE (f : BitVec 64 → BitVec 64 → BitVec 64) (r : List Ins) (ls : List (Option MV)) (st : List MV) (σ : MS) : Act := match st with
  | .inr (.inl y) :: .inr (.inl x) :: s => aBr (¬ y = 0) inferInstance (r, ls, mL (f x y) :: s, σ) (nCf σ)
  | _ => none
def mBS (f : BitVec 64 → Int → BitVec 64) (r : List Ins) (ls : List (Option MV)) (st : List MV) (σ : MS) : Act := match st with
  | .inl y :: .inr (.inl x) :: s => aNx r ls (mL (f x y) :: s) σ
  | _ => none
def mUI (f : Int → Int) (r : List Ins) (ls : List (Option MV)) (st : List MV) (σ : MS) : Act := match st with
  | .inl x :: s => aNx r ls (mI (f x) :: s) σ
  | _ => none
def mIf (c : Jvm.ClassFile.Cond) (x y : Int) (t f : Cf) : Act := match c with
  | .eq => aBr (x = y) inferInstance t f
  | .ne => aBr (¬ x = y) inferInstance t f
  | .lt => aBr (x < y) inferInstance t f
  | .ge => aBr (y ≤ x) inferInstance t f
  | .gt => aBr (y < x) inferInstance t f
  | .le => aBr (x ≤ y) inferInstance t f
def mIfL (c : Jvm.ClassFile.Cond) (x y : BitVec 64) (t f : Cf) : Act := match c with
  | .eq => aBr (x = y) inferInstance t f
  | .ne => aBr (¬ x = y) inferInstance t f
  | .lt => aBr (x.toInt < y.toInt) inferInstance t f
  | .ge => aBr (y.toInt ≤ x.toInt) inferInstance t f
  | .gt => aBr (y.toInt < x.toInt) inferInstance t f
  | .le => aBr (x.toInt ≤ y.toInt) inferInstance t f
def mALd (ty : Nat) (r : List Ins) (ls : List (Option MV)) (st : List MV) (σ : MS) : Act := match st with
  | .inl i :: .inr (.inr x) :: s => aBr (x.isSome = true ∧ ab σ ty (x.getD 0) i) inferInstance (r, ls, (if ty = 9 then mI (σ.2.2.2.2.2.2 i.toNat) else if ty = 8 then mI ((strAt (x.getD 0 - strB)).getD i.toNat 0 : Nat) else if ty = 4 then mL (gL σ (x.getD 0) i.toNat) else if 5 ≤ ty ∧ ty ≤ 7 then mR (gR σ (x.getD 0) i.toNat) else mI (gI σ (x.getD 0) i.toNat)) :: s, σ) (nCf σ)
  | _ => none
def mASt (ty : Nat) (r : List Ins) (ls : List (Option MV)) (st : List MV) (σ : MS) : Act := match st with
  | .inl v :: .inl i :: .inr (.inr x) :: s => aBr (x.isSome = true ∧ ab σ ty (x.getD 0) i) inferInstance (r, ls, s, sI σ (x.getD 0) i.toNat (if ty = 1 then w8 v else if ty = 2 then v % 2 else v)) (nCf σ)
  | _ => none
def mAStL (r : List Ins) (ls : List (Option MV)) (st : List MV) (σ : MS) : Act := match st with
  | .inr (.inl v) :: .inl i :: .inr (.inr x) :: s => aBr (x.isSome = true ∧ ab σ 4 (x.getD 0) i) inferInstance (r, ls, s, sL σ (x.getD 0) i.toNat v) (nCf σ)
  | _ => none
/-- what may stand in a row of references of a kind -/
abbrev aq (σ : MS) (ty : Nat) (v : Option Nat) : Prop := v.isSome = true → (kd σ (v.getD 0)).1 = (if ty = 5 then 28 else if ty = 6 then 4 else 3)
def mAStR (ty : Nat) (r : List Ins) (ls : List (Option MV)) (st : List MV) (σ : MS) : Act := match st with
  | .inr (.inr v) :: .inl i :: .inr (.inr x) :: s => aBr ((x.isSome = true ∧ ab σ ty (x.getD 0) i) ∧ aq σ ty v) inferInstance (r, ls, s, sR σ (x.getD 0) i.toNat v) (nCf σ)
  | _ => none
def mGet (ci s k : Nat) (r : List Ins) (ls : List (Option MV)) (st : List MV) (σ : MS) : Act := match st with
  | .inr (.inr x) :: st => aBr (ao σ ci x) inferInstance (r, ls, (match k with
      | 0 => mI (gI σ (x.getD 0) s)
      | 1 => mL (gL σ (x.getD 0) s)
      | 2 => mR (gR σ (x.getD 0) s)
      | 3 => mR (some (fIn ci s (x.getD 0)))
      | 5 => mR (gR σ (x.getD 0) s)
      | 6 => mR (gR σ (x.getD 0) s)
      | 7 => mR (some (strB + (x.getD 0 - strK)))
      | 8 => mI 0
      | _ => mI (gI σ (x.getD 0) s)) :: st, σ) (nCf σ)
  | _ => none
/-- k: 0 int, 1 long, 2 a reference to a state, 4 boolean, 5 a reference to bytes, 6 to ints -/
abbrev ak (σ : MS) (k : Nat) (v : Option Nat) : Prop := v.isSome = true → (kd σ (v.getD 0)).1 = (if k = 2 then 28 else if k = 5 then 1 else 3)
def mPut (ci s k : Nat) (r : List Ins) (ls : List (Option MV)) (st : List MV) (σ : MS) : Act := match st with
  | .inl v :: .inr (.inr x) :: st => (match k with
    | 0 => aBr (ao σ ci x) inferInstance (r, ls, st, sI σ (x.getD 0) s v) (nCf σ)
    | 4 => aBr (ao σ ci x ∧ bl v) inferInstance (r, ls, st, sI σ (x.getD 0) s v) (nCf σ)
    | _ => none)
  | .inr (.inl v) :: .inr (.inr x) :: st => (match k with
    | 1 => aBr (ao σ ci x) inferInstance (r, ls, st, sL σ (x.getD 0) s v) (nCf σ)
    | _ => none)
  | .inr (.inr v) :: .inr (.inr x) :: st => (match k with
    | 2 => aBr (ao σ ci x ∧ ak σ 2 v) inferInstance (r, ls, st, sR σ (x.getD 0) s v) (nCf σ)
    | 5 => aBr (ao σ ci x ∧ ak σ 5 v) inferInstance (r, ls, st, sR σ (x.getD 0) s v) (nCf σ)
    | 6 => aBr (ao σ ci x ∧ ak σ 6 v) inferInstance (r, ls, st, sR σ (x.getD 0) s v) (nCf σ)
    | _ => none)
  | _ => none
/-- the words of a stack -/
def stW : List MV → Nat
  | [] => 0
  | .inr (.inl _) :: t => 2 + stW t
  | _ :: t => 1 + stW t
/-- an index is looked at: it must be good -/
def mChx (r : List Ins) (ls : List (Option MV)) (st : List MV) (σ : MS) : Act := match st with
  | .inl n :: .inl i :: s => aBr ((0 ≤ i ∧ i < n) ∧ stW s ≤ 8) inferInstance (r, ls, s, σ) (nCf σ)
  | _ => none
def mCpy (ty : Nat) (r : List Ins) (ls : List (Option MV)) (st : List MV) (σ : MS) : Act := match st with
  | .inl n :: .inl dp :: .inr (.inr y) :: .inl sp :: .inr (.inr x) :: s => aBr ((x.isSome = true ∧ y.isSome = true) ∧ ac σ ty (x.getD 0) (y.getD 0) sp dp n) inferInstance (r, ls, s, if ty = 4 then cpL σ (x.getD 0) sp (y.getD 0) dp n else cpI σ (x.getD 0) sp (y.getD 0) dp n) (nCf σ)
  | _ => none
/-- a call of m, which takes n arguments; ci: the receiver's kind, 99: none -/
def mCal (m n ci : Nat) (r : List Ins) (ls : List (Option MV)) (st : List MV) (σ : MS) : Act :=
  if ci = 99 then (if n ≤ st.length ∧ stW (st.drop n) ≤ 10 then aCl True inferInstance m (st.take n).reverse σ (fun q => (r, ls, q.1.toList ++ st.drop n, q.2)) else none)
  else match st.drop n with
    | .inr (.inr x) :: s => if stW s ≤ 10 then aCl (ao σ ci x) inferInstance m (st.take (n + 1)).reverse σ (fun q => (r, ls, q.1.toList ++ s, q.2)) else none
    | _ => none
def mRetI (k : Nat) (st : List MV) (σ : MS) : Act := match st with
  | [.inl x] => (match k with
    | 0 => aRt True inferInstance (some (mI x)) σ
    | 1 => aRt (bl x) inferInstance (some (mI x)) σ
    | 2 => aRt (0 ≤ x ∧ x < 65536) inferInstance (some (mI x)) σ
    | _ => aRt (-128 ≤ x ∧ x < 128) inferInstance (some (mI x)) σ)
  | _ => none
def mNull (c : Bool) (st : List MV) (ls : List (Option MV)) (t f : List Ins) (σ : MS) : Act := match st with
  | .inr (.inr x) :: s => aBr (x.isSome = c) inferInstance (t, ls, s, σ) (f, ls, s, σ)
  | _ => none
def mstep (tg : Nat → List Ins) (c : Cf) : Act := match c with
  | ([], _, _, _) => none
  | ((i, pc, a, b, k, t) :: r, ls, st, σ) => match i with
    | .iload_n n => mLdI n.val r ls st σ
    | .iload n => mLdI n r ls st σ
    | .lload_n n => mLdL n.val r ls st σ
    | .lload n => mLdL n r ls st σ
    | .aload_n n => mLdR n.val r ls st σ
    | .aload n => mLdR n r ls st σ
    | .istore_n n => mStI n.val r ls st σ
    | .istore n => mStI n r ls st σ
    | .lstore_n n => mStL n.val r ls st σ
    | .lstore n => mStL n r ls st σ
    | .astore_n n => mStR n.val r ls st σ
    | .astore n => mStR n r ls st σ
    | .iinc n d => (match ls[n]? with
      | some (some (.inl x)) => aNx r (l1 ls n (mI (w32 (x + d)))) st σ
      | _ => none)
    | .iconst n => aNx r ls (mI n :: st) σ
    | .bipush n => aNx r ls (mI n :: st) σ
    | .sipush n => aNx r ls (mI n :: st) σ
    | .lconst n => aNx r ls (mL (BitVec.ofNat 64 n.val) :: st) σ
    | .aconst_null => aNx r ls (mR none :: st) σ
    | .ldc _ => (match t with
      | (v, _) :: _ => if k = 0 then aNx r ls (mI v :: st) σ else aNx r ls (mR (some (strK + a)) :: st) σ
      | [] => none)
    | .ldc_w _ => (match t with
      | (v, _) :: _ => if k = 0 then aNx r ls (mI v :: st) σ else aNx r ls (mR (some (strK + a)) :: st) σ
      | [] => none)
    | .ldc2_w _ => (match t with
      | (v, _) :: _ => aNx r ls (mL (iL v) :: st) σ
      | [] => none)
    | .iadd => mBI (fun x y => w32 (x + y)) r ls st σ
    | .isub => mBI (fun x y => w32 (x - y)) r ls st σ
    | .imul => mBI (fun x y => w32 (x * y)) r ls st σ
    | .iand => mBI iAnd r ls st σ
    | .ior => mBI iOr r ls st σ
    | .ixor => mBI iXor r ls st σ
    | .ishl => mBI iShl r ls st σ
    | .ishr => mBI iShr r ls st σ
    | .idiv => mBD (fun x y => w32 (x.tdiv y)) r ls st σ
    | .irem => mBD (fun x y => x.tmod y) r ls st σ
    | .ineg => mUI (fun x => w32 (-x)) r ls st σ
    | .i2b => mUI w8 r ls st σ
    | .i2s => mUI w16 r ls st σ
    | .i2c => mUI (fun x => x % 65536) r ls st σ
    | .getstatic _ => (match t with
      | (v, _) :: _ => aNx r ls (mI v :: st) σ
      | [] => none)
    | .ladd => mBL (fun x y => x + y) r ls st σ
    | .lsub => mBL (fun x y => x - y) r ls st σ
    | .lmul => mBL (fun x y => x * y) r ls st σ
    | .land => mBL (fun x y => x &&& y) r ls st σ
    | .lor => mBL (fun x y => x ||| y) r ls st σ
    | .lxor => mBL (fun x y => x ^^^ y) r ls st σ
    | .ldiv => mBE BitVec.sdiv r ls st σ
    | .lrem => mBE BitVec.srem r ls st σ
    | .lshl => mBS lShl r ls st σ
    | .lshr => mBS lShr r ls st σ
    | .lushr => mBS lUsh r ls st σ
    | .lneg => (match st with
      | .inr (.inl x) :: s => aNx r ls (mL (-x) :: s) σ
      | _ => none)
    | .i2l => (match st with
      | .inl x :: s => aNx r ls (mL (iL x) :: s) σ
      | _ => none)
    | .l2i => (match st with
      | .inr (.inl x) :: s => aNx r ls (mI (lI x) :: s) σ
      | _ => none)
    | .dup => (match st with
      | .inl x :: s => aNx r ls (mI x :: mI x :: s) σ
      | .inr (.inr x) :: s => aNx r ls (mR x :: mR x :: s) σ
      | _ => none)
    | .dup2 => (match st with
      | .inr (.inl x) :: s => aNx r ls (mL x :: mL x :: s) σ
      | .inl y :: .inr (.inr x) :: s => aNx r ls (mI y :: mR x :: mI y :: mR x :: s) σ
      | _ => none)
    | .pop => (match st with
      | .inl _ :: s => aNx r ls s σ
      | .inr (.inr _) :: s => aNx r ls s σ
      | _ => none)
    | .pop2 => (match st with
      | .inr (.inl _) :: s => aNx r ls s σ
      | _ => none)
    | .dup_x1 => (match st with
      | .inl y :: .inr (.inr x) :: s => aNx r ls (mI y :: mR x :: mI y :: s) σ
      | _ => none)
    | .dup2_x1 => (match st with
      | .inr (.inl y) :: .inr (.inr x) :: s => aNx r ls (mL y :: mR x :: mL y :: s) σ
      | _ => none)
    | .lcmp => (match r, st with
      | (.ifCond cc _, _, a2, _, _, _) :: r2, .inr (.inl y) :: .inr (.inl x) :: s => mIfL cc x y (tg a2, ls, s, σ) (r2, ls, s, σ)
      | _, _ => none)
    | .ifCond cc _ => (match st with
      | .inl x :: s => mIf cc x 0 (tg a, ls, s, σ) (r, ls, s, σ)
      | _ => none)
    | .if_icmp cc _ => (match st with
      | .inl y :: .inl x :: s => mIf cc x y (tg a, ls, s, σ) (r, ls, s, σ)
      | _ => none)
    | .if_acmp cc o => (match st with
      | .inr (.inr y) :: .inr (.inr x) :: s => (match k with
        | 0 => aBr (ak σ 2 x ∧ ak σ 2 y) inferInstance ((.if_acmp cc o, pc, a, b, 1, t) :: r, ls, st, σ) (nCf σ)
        | _ => (match cc with
          | .eq => aBr (x = y) inferInstance (tg a, ls, s, σ) (r, ls, s, σ)
          | .ne => aBr (¬ x = y) inferInstance (tg a, ls, s, σ) (r, ls, s, σ)))
      | _ => none)
    | .ifnull _ => mNull false st ls (tg a) r σ
    | .ifnonnull _ => mNull true st ls (tg a) r σ
    | .goto _ => aNx (tg a) ls st σ
    | .nop => aNx r ls st σ
    | .tableswitch _ _ _ _ => (match st with
      | .inl x :: s => aSw x (t.map fun q => (q.1, (tg q.2, ls, s, σ))) (tg a, ls, s, σ)
      | _ => none)
    | .lookupswitch _ _ => (match st with
      | .inl x :: s => aSw x (t.map fun q => (q.1, (tg q.2, ls, s, σ))) (tg a, ls, s, σ)
      | _ => none)
    | .getfield _ => mGet a b k r ls st σ
    | .putfield _ => mPut a b k r ls st σ
    | .iaload => mALd a r ls st σ
    | .baload => mALd a r ls st σ
    | .laload => mALd a r ls st σ
    | .aaload => mALd a r ls st σ
    | .iastore => mASt a r ls st σ
    | .bastore => mASt a r ls st σ
    | .lastore => mAStL r ls st σ
    | .aastore => mAStR a r ls st σ
    | .arraylength => (match st with
      | .inr (.inr x) :: s => aBr (x.isSome = true ∧ (kd σ (x.getD 0)).1 = a) inferInstance (r, ls, mI ((kd σ (x.getD 0)).2 : Int) :: s, σ) (nCf σ)
      | _ => none)
    | .newarray _ => (match st with
      | .inl n :: s => if n = 4800 then aNx r ls (mR (some (nC σ)) :: s) (alI σ 4800) else none
      | _ => none)
    | .new _ => (match r with
      | (.dup, _) :: (.invokespecial _, _) :: r2 => if a = 8 ∧ stW st ≤ 7 then aNx r2 ls (mR (some (nC σ)) :: st) (alS σ) else none
      | _ => none)
    | .invokevirtual _ => (match t with
      | [] => mCal a b k r ls st σ
      | _ => none)
    | .invokestatic _ => (match t with
      | [] => mCal a b 99 r ls st σ
      | (1, _) :: _ => if stW st ≤ 13 then mCpy a r ls st σ else none
      | (2, _) :: _ => mChx r ls st σ
      | _ => none)
    | .ireturn => mRetI k st σ
    | .lreturn => (match st with
      | [.inr (.inl x)] => aRt True inferInstance (some (mL x)) σ
      | _ => none)
    | .areturn => (match st with
      | [.inr (.inr x)] => aRt True inferInstance (some (mR x)) σ
      | _ => none)
    | .return_ => (match st with
      | [] => aRt True inferInstance none σ
      | _ => none)
    | _ => none
def mkA : List MV → List (Option MV)
  | [] => []
  | .inr (.inl x) :: t => some (mL x) :: none :: mkA t
  | v :: t => some v :: mkA t
def mkL (n : Nat) (as : List MV) : List (Option MV) := mkA as ++ List.replicate (n - (mkA as).length) none
