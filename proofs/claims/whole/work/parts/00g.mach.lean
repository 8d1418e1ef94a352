/-! ===== a machine with places that are told by object and offset =====
objects: 0 a number, 1 the context, 2 .. 5 stacks, 6 nothing that counts, 8 .. 15 maps, 16 .. 271 cells, 280 the packet, 300 .. 363 records -/
abbrev SV : Type := Nat × B64
/-- a byte of a stack: 0 nothing, 1 a number's byte, 2 + j byte j of a place -/
abbrev MB : Type := Nat × Nat × B64
abbrev isPt (o : Nat) : Prop := (2 ≤ o ∧ o ≤ 5) ∨ (16 ≤ o ∧ o ≤ 271) ∨ o = 280 ∨ (300 ≤ o ∧ o ≤ 363)
/-- word, frames, registers, stacks, where to go back, the rest -/
abbrev TC (W : Type) : Type := Int × Nat × (Nat → Nat → SV) × (Nat → Nat → MB) × (Nat → Int) × W
/-- what the rest of a machine is to a run: the packet's size; a byte, a byte put (cells, packet, records); which records are held, and their size -/
abbrev WB (W : Type) : Type := (W → Nat) × (W → Nat → Nat → B64) × (W → Nat → Nat → B64 → W) × (W → Nat → Bool) × (W → Nat → Int)
/-- numbers of the context, the mark put; a key's cell; an update; a remove; all steps; a trace; chances; a program to go on with; bytes of the packet; the packet moved; a new record; a record's end -/
abbrev WH (W : Type) : Type := (W → Int → B64) × (W → B64 → W) × (W → Int → List B64 → Option Nat) × (W → Int → List B64 → List B64 → B64 → W × B64) × (W → Int → List B64 → W × B64) × (W → B64) × (W → List B64 → W) × (W → W × B64) × (W → Int → B64 → Option W) × (W → B64 → Nat → List B64 × B64) × (W → B64 → W × B64) × (W → Int → Int → W × Option Nat) × (W → Nat → Bool → W)
abbrev cP {W : Type} (c : TC W) : Int := c.1
abbrev cN {W : Type} (c : TC W) : Nat := c.2.1
abbrev cR {W : Type} (c : TC W) : Nat → Nat → SV := c.2.2.1
abbrev cS {W : Type} (c : TC W) : Nat → Nat → MB := c.2.2.2.1
abbrev cB {W : Type} (c : TC W) : Nat → Int := c.2.2.2.2.1
abbrev cW {W : Type} (c : TC W) : W := c.2.2.2.2.2
def nilR : SV := (6, 0#64)
def rdR {W : Type} (c : TC W) (r : Nat) : SV := if r = 10 then (cN c + 1, 128#64) else cR c (cN c - 1) r
def upR (f : Nat → Nat → SV) (a r : Nat) (v : SV) : Nat → Nat → SV := fun i j => if i = a ∧ j = r then v else f i j
def wrR {W : Type} (c : TC W) (r : Nat) (v : SV) : TC W := (cP c, cN c, upR (cR c) (cN c - 1) r v, cS c, cB c, cW c)
def goT {W : Type} (c : TC W) (i : Int) : TC W := (i, c.2)
/-- a step's end: stuck; goes on; over (1), or on with another program (2) -/
abbrev TR (W : Type) : Type := Option (Nat × TC W)
/-! bytes -/
def rdB {W : Type} (B : WB W) (c : TC W) (o b : Nat) : Option B64 :=
  if 2 ≤ o ∧ o ≤ 5 then (if b < 128 ∧ (cS c (o - 2) b).1 = 1 then some (cS c (o - 2) b).2.2 else none)
  else if 16 ≤ o ∧ o ≤ 271 then (if b < 64 then some (B.2.1 (cW c) o b) else none)
  else if o = 280 then (if b < B.1 (cW c) then some (B.2.1 (cW c) o b) else none)
  else if 300 ≤ o ∧ o ≤ 363 then (if b < 64 ∧ B.2.2.2.1 (cW c) (o - 300) = true then some (B.2.1 (cW c) o b) else none)
  else none
def rdL {W : Type} (B : WB W) (c : TC W) (o b : Nat) : Nat → Option (List B64)
  | 0 => some []
  | n + 1 => match rdB B c o b, rdL B c o (b + 1) n with
    | some x, some l => some (x :: l)
    | _, _ => none
def leN : List B64 → B64
  | [] => 0#64
  | b :: t => (leN t <<< 8) ||| b
/-- byte j of a number -/
def byJ (x : B64) (j : Nat) : B64 := (x >>> (8 * j)) &&& 255#64
def upS (f : Nat → Nat → MB) (a b : Nat) (v : MB) : Nat → Nat → MB := fun i j => if i = a ∧ j = b then v else f i j
def wrB {W : Type} (B : WB W) (c : TC W) (o b : Nat) (v : B64) : Option (TC W) :=
  if 2 ≤ o ∧ o ≤ 5 then (if b < 128 then some (cP c, cN c, cR c, upS (cS c) (o - 2) b (1, 0, v), cB c, cW c) else none)
  else if 16 ≤ o ∧ o ≤ 271 then (if b < 64 then some (cP c, cN c, cR c, cS c, cB c, B.2.2.1 (cW c) o b v) else none)
  else if o = 280 then (if b < B.1 (cW c) then some (cP c, cN c, cR c, cS c, cB c, B.2.2.1 (cW c) o b v) else none)
  else if 300 ≤ o ∧ o ≤ 363 then (if b < 64 ∧ B.2.2.2.1 (cW c) (o - 300) = true then some (cP c, cN c, cR c, cS c, cB c, B.2.2.1 (cW c) o b v) else none)
  else none
def wrL {W : Type} (B : WB W) (c : TC W) (o b : Nat) : List B64 → Option (TC W)
  | [] => some c
  | v :: t => match wrB B c o b v with
    | some c' => wrL B c' o (b + 1) t
    | none => none
def bysN (x : B64) (n : Nat) : List B64 := (List.range n).map (byJ x)
/-- a place comes to a whole part of a stack -/
def wrP {W : Type} (c : TC W) (f b : Nat) (v : SV) : TC W := (cP c, cN c, cR c, (fun i j => if i = f ∧ b ≤ j ∧ j < b + 8 then (2 + (j - b), v.1, v.2) else cS c i j), cB c, cW c)
/-- a whole part that is a place -/
abbrev isWp {W : Type} (c : TC W) (f b : Nat) : Prop := ∀ j, j < 8 → cS c f (b + j) = (2 + j, (cS c f b).2.1, (cS c f b).2.2)
/-- an offset that is one -/
abbrev offN (x : B64) (k : Int) : B64 := x + BitVec.ofInt 64 k
noncomputable def ldT {W : Type} (B : WB W) (H : WH W) (c : TC W) (w : B64) : Option SV :=
  if (rdR c (sRr w)).1 = 1 then
    (if ¬ fM w = 96 ∨ ¬ bytN w = 4 then none
     else if fO w = 0 then some (280, 0#64) else if fO w = 4 then some (280, BitVec.ofNat 64 (B.1 (cW c)))
     else if fO w = 8 ∨ fO w = 12 ∨ fO w = 16 then some (0, H.1 (cW c) (fO w)) else none)
  else if (2 ≤ (rdR c (sRr w)).1 ∧ (rdR c (sRr w)).1 ≤ 5) ∧ (bytN w = 8 ∧ (offN (rdR c (sRr w)).2 (fO w)).toNat % 8 = 0 ∧ (offN (rdR c (sRr w)).2 (fO w)).toNat < 128) ∧ (cS c ((rdR c (sRr w)).1 - 2) (offN (rdR c (sRr w)).2 (fO w)).toNat).1 = 2 then
    @ite _ (isWp c ((rdR c (sRr w)).1 - 2) (offN (rdR c (sRr w)).2 (fO w)).toNat) (Classical.propDecidable _)
      (some (cS c ((rdR c (sRr w)).1 - 2) (offN (rdR c (sRr w)).2 (fO w)).toNat).2) none
  else match rdL B c (rdR c (sRr w)).1 (offN (rdR c (sRr w)).2 (fO w)).toNat (bytN w) with
    | some l => some (0, if fM w = 128 then sxt (8 * bytN w) (leN l) else leN l)
    | none => none
def stoT {W : Type} (B : WB W) (H : WH W) (c : TC W) (w : B64) : Option (TC W) :=
  let v : SV := if fL w = 3 then rdR c (sRr w) else (0, BitVec.ofInt 64 (fI w))
  if (rdR c (dR w)).1 = 1 then (if bytN w = 4 ∧ fO w = 12 ∧ v.1 = 0 then some (cP c, cN c, cR c, cS c, cB c, H.2.1 (cW c) v.2) else none)
  else if v.1 = 0 then wrL B c (rdR c (dR w)).1 (offN (rdR c (dR w)).2 (fO w)).toNat (bysN v.2 (bytN w))
  else if ((2 ≤ (rdR c (dR w)).1 ∧ (rdR c (dR w)).1 ≤ 5) ∧ bytN w = 8) ∧ ((offN (rdR c (dR w)).2 (fO w)).toNat % 8 = 0 ∧ (offN (rdR c (dR w)).2 (fO w)).toNat < 128) ∧ ¬ v.1 = 6 then some (wrP c ((rdR c (dR w)).1 - 2) (offN (rdR c (dR w)).2 (fO w)).toNat v)
  else none
/-- what comes to the place -/
def swpX (i : Int) (x s : B64) : B64 := if i / 16 * 16 = 0 then x + s else if i / 16 * 16 = 64 then x ||| s else if i / 16 * 16 = 80 then x &&& s else if i / 16 * 16 = 160 then x ^^^ s else s
def swT {W : Type} (B : WB W) (c : TC W) (w : B64) : Option (TC W) :=
  if ¬ (rdR c (sRr w)).1 = 0 then none
  else match rdL B c (rdR c (dR w)).1 (offN (rdR c (dR w)).2 (fO w)).toNat (bytN w) with
    | none => none
    | some l =>
      if fI w = 241 then
        (if ¬ (rdR c 0).1 = 0 then none
         else match (if leN l = lowB (8 * bytN w) (rdR c 0).2 then wrL B c (rdR c (dR w)).1 (offN (rdR c (dR w)).2 (fO w)).toNat (bysN (rdR c (sRr w)).2 (bytN w)) else some c) with
          | some c' => some (wrR c' 0 (0, leN l))
          | none => none)
      else match wrL B c (rdR c (dR w)).1 (offN (rdR c (dR w)).2 (fO w)).toNat (bysN (swpX (fI w) (leN l) (rdR c (sRr w)).2) (bytN w)) with
        | some c' => some (if fI w % 2 = 1 then wrR c' (sRr w) (0, leN l) else c')
        | none => none
/-! numbers -/
def rgT {W : Type} (c : TC W) (w : B64) : SV := if rgt w then rdR c (sRr w) else (0, BitVec.ofInt 64 (fI w))
def alT {W : Type} (c : TC W) (w : B64) : Option SV :=
  if fC w = 208 then (if (rdR c (dR w)).1 = 0 then some (0, trnJ (decide (fOp w = 212)) (fI w).toNat (rdR c (dR w)).2) else none)
  else if fC w = 176 then
    (if wid w ∧ fO w = 0 then (if (rgT c w).1 = 6 then none else some (rgT c w))
     else if ¬ (rgT c w).1 = 0 then none
     else if fO w = 0 then some (0, (rgT c w).2 &&& cF)
     else if wid w then some (0, sxt (fO w).toNat (rgT c w).2)
     else some (0, sxt (fO w).toNat ((rgT c w).2 &&& cF) &&& cF))
  else if fC w = 128 then
    (if ¬ (rdR c (dR w)).1 = 0 then none
     else if wid w then some (0, 0#64 - (rdR c (dR w)).2) else some (0, (0#64 - ((rdR c (dR w)).2 &&& cF)) &&& cF))
  else if (rdR c (dR w)).1 = 0 ∧ (rgT c w).1 = 0 then
    some (0, if wid w then reck (fC w) (fO w) true (rdR c (dR w)).2 (rgT c w).2 else reck (fC w) (fO w) false ((rdR c (dR w)).2 &&& cF) ((rgT c w).2 &&& cF) &&& cF)
  else if (wid w ∧ fC w = 0) ∧ isPt (rdR c (dR w)).1 ∧ (rgT c w).1 = 0 then some ((rdR c (dR w)).1, (rdR c (dR w)).2 + (rgT c w).2)
  else if (wid w ∧ fC w = 16) ∧ isPt (rdR c (dR w)).1 ∧ (rgT c w).1 = 0 then some ((rdR c (dR w)).1, (rdR c (dR w)).2 - (rgT c w).2)
  else if (wid w ∧ fC w = 0) ∧ (rdR c (dR w)).1 = 0 ∧ isPt (rgT c w).1 then some ((rgT c w).1, (rgT c w).2 + (rdR c (dR w)).2)
  else none
def sdT {W : Type} (c : TC W) (w : B64) : SV := if rgt w then rdR c (sRr w) else (0, immJ w)
abbrev nearP (x : B64) : Prop := -524288 ≤ x.toInt ∧ x.toInt < 524288
/-- a comparison -/
def cmT {W : Type} (c : TC W) (w : B64) : Option Bool :=
  if (rdR c (dR w)).1 = 0 ∧ (sdT c w).1 = 0 then some (cmpW (fC w) (decide (widJ w)) (rdR c (dR w)).2 (sdT c w).2)
  else if (widJ w ∧ (fC w = 16 ∨ fC w = 80)) ∧ (¬ rgt w ∧ fI w = 0) ∧ ¬ (rdR c (dR w)).1 = 6 ∧ nearP (rdR c (dR w)).2 then some (decide (fC w = 80))
  else if ((widJ w ∧ rgt w) ∧ isOrd (fC w)) ∧ ((rdR c (dR w)).1 = 280 ∧ (sdT c w).1 = 280) ∧ nearP (rdR c (dR w)).2 ∧ nearP (sdT c w).2 then
    some (if fC w = 32 then decide ((sdT c w).2.toInt < (rdR c (dR w)).2.toInt) else if fC w = 48 then decide (¬ (rdR c (dR w)).2.toInt < (sdT c w).2.toInt) else if fC w = 160 then decide ((rdR c (dR w)).2.toInt < (sdT c w).2.toInt) else decide (¬ (sdT c w).2.toInt < (rdR c (dR w)).2.toInt))
  else none
/-! functions, helpers -/
def enT {W : Type} (c : TC W) (g n : Int) : TC W := (g, cN c + 1, (fun i j => if i = cN c then (if 1 ≤ j ∧ j ≤ 5 then cR c (cN c - 1) j else nilR) else cR c i j), (fun i j => if i = cN c then (0, 0, 0#64) else cS c i j), (fun f => if f = cN c then n else cB c f), cW c)
def nilA (f : Nat → Nat → SV) (a : Nat) : Nat → Nat → SV := fun i j => if i = a ∧ 1 ≤ j ∧ j ≤ 5 then nilR else f i j
def exT {W : Type} (c : TC W) : TR W :=
  if ¬ (rdR c 0).1 = 0 then none
  else if cN c = 1 then some (1, c)
  else some (0, (cB c (cN c - 1), cN c - 1, nilA (upR (cR c) (cN c - 2) 0 (rdR c 0)) (cN c - 2), cS c, cB c, cW c))
/-- a record's end: nothing leads to it any more -/
def kilR (o : Nat) (v : SV) : SV := if v.1 = o then nilR else v
def kilB (o : Nat) (m : MB) : MB := if 2 ≤ m.1 ∧ m.2.1 = o then (0, 0, 0#64) else m
def kilT {W : Type} (c : TC W) (o : Nat) : TC W := (cP c, cN c, (fun f r => kilR o (cR c f r)), (fun f b => kilB o (cS c f b)), cB c, cW c)
/-- behind a helper -/
def bhT {W : Type} (c : TC W) (s : Nat → Nat → MB) (v : W) (r : SV) (n : Int) : TR W := some (0, (n, cN c, upR (nilA (cR c) (cN c - 1)) (cN c - 1) 0 r, s, cB c, v))
abbrev isMap (v : SV) : Prop := 8 ≤ v.1 ∧ v.1 ≤ 15
def mapT (v : SV) : Int := (v.1 : Int) - 8
def hpT {W : Type} (B : WB W) (H : WH W) (E : EV) (c : TC W) (h n : Int) : TR W :=
  if h = 1 ∨ h = 2 ∨ h = 3 then
    (if ¬ isMap (rdR c 1) then none
     else match rdL B c (rdR c 2).1 (rdR c 2).2.toNat (E.2.1 (mapT (rdR c 1)).toNat).toNat with
      | none => none
      | some k =>
        if h = 1 then (match H.2.2.1 (cW c) (mapT (rdR c 1)) k with
          | none => bhT c (cS c) (cW c) (0, 0#64) n
          | some j => bhT c (cS c) (cW c) (16 + 32 * (mapT (rdR c 1)).toNat + j, 0#64) n)
        else if h = 3 then bhT c (cS c) (H.2.2.2.2.1 (cW c) (mapT (rdR c 1)) k).1 (0, (H.2.2.2.2.1 (cW c) (mapT (rdR c 1)) k).2) n
        else match rdL B c (rdR c 3).1 (rdR c 3).2.toNat (E.2.2 (mapT (rdR c 1)).toNat).toNat with
          | none => none
          | some v => if ¬ (rdR c 4).1 = 0 then none
            else bhT c (cS c) (H.2.2.2.1 (cW c) (mapT (rdR c 1)) k v (rdR c 4).2).1 (0, (H.2.2.2.1 (cW c) (mapT (rdR c 1)) k v (rdR c 4).2).2) n)
  else if h = 5 then bhT c (cS c) (cW c) (0, H.2.2.2.2.2.1 (cW c)) n
  else if h = 6 then
    (if ¬ (rdR c 2).1 = 0 ∨ ¬ (1 ≤ (rdR c 2).2.toNat ∧ (rdR c 2).2.toNat ≤ 64) then none
     else match rdL B c (rdR c 1).1 (rdR c 1).2.toNat (rdR c 2).2.toNat with
      | none => none
      | some l => bhT c (cS c) (H.2.2.2.2.2.2.1 (cW c) l) (0, (rdR c 2).2) n)
  else if h = 7 then bhT c (cS c) (H.2.2.2.2.2.2.2.1 (cW c)).1 (0, (H.2.2.2.2.2.2.2.1 (cW c)).2) n
  else if h = 12 then
    (if ¬ (rdR c 1) = (1, 0#64) ∨ ¬ isMap (rdR c 2) ∨ ¬ (rdR c 3).1 = 0 ∨ ¬ cN c = 1 then none
     else match H.2.2.2.2.2.2.2.2.1 (cW c) (mapT (rdR c 2)) (rdR c 3).2 with
      | some v => some (2, (n, cN c, cR c, cS c, cB c, v))
      | none => bhT c (cS c) (cW c) (0, cAll) n)
  else if h = 26 then
    (if ¬ (rdR c 2).1 = 0 ∨ ¬ (2 ≤ (rdR c 3).1 ∧ (rdR c 3).1 ≤ 5) ∨ ¬ ((rdR c 4).1 = 0 ∧ 1 ≤ (rdR c 4).2.toNat ∧ (rdR c 4).2.toNat ≤ 128) then none
     else match wrL B c (rdR c 3).1 (rdR c 3).2.toNat (H.2.2.2.2.2.2.2.2.2.1 (cW c) (rdR c 2).2 (rdR c 4).2.toNat).1 with
      | none => none
      | some c' => bhT c (cS c') (cW c) (0, (H.2.2.2.2.2.2.2.2.2.1 (cW c) (rdR c 2).2 (rdR c 4).2.toNat).2) n)
  else if h = 44 then (if ¬ (rdR c 2).1 = 0 then none else bhT c (cS c) (H.2.2.2.2.2.2.2.2.2.2.1 (cW c) (rdR c 2).2).1 (0, (H.2.2.2.2.2.2.2.2.2.2.1 (cW c) (rdR c 2).2).2) n)
  else if h = 131 then
    (if ¬ isMap (rdR c 1) ∨ ¬ ((rdR c 2).1 = 0 ∧ 1 ≤ (rdR c 2).2.toInt ∧ (rdR c 2).2.toInt ≤ 64) then none
     else bhT c (cS c) (H.2.2.2.2.2.2.2.2.2.2.2.1 (cW c) (mapT (rdR c 1)) (rdR c 2).2.toInt).1 (match (H.2.2.2.2.2.2.2.2.2.2.2.1 (cW c) (mapT (rdR c 1)) (rdR c 2).2.toInt).2 with
      | none => (0, 0#64)
      | some i => (300 + i, 0#64)) n)
  else if h = 132 ∨ h = 133 then
    (if ¬ ((300 ≤ (rdR c 1).1 ∧ (rdR c 1).1 ≤ 363) ∧ (rdR c 1).2 = 0#64) ∨ ¬ B.2.2.2.1 (cW c) ((rdR c 1).1 - 300) = true then none
     else bhT (kilT c (rdR c 1).1) (cS (kilT c (rdR c 1).1)) (H.2.2.2.2.2.2.2.2.2.2.2.2 (cW c) ((rdR c 1).1 - 300) (decide (h = 132))) (0, 0#64) n)
  else none
/-- what a helper is called for besides: maps of the right kind, room for one more record -/
def hpK {W : Type} (B : WB W) (E : EV) (c : TC W) (h : Int) : Prop :=
  (h = 1 ∨ h = 2 ∨ h = 3 → 0 ≤ E.1 (mapT (rdR c 1)).toNat ∧ E.1 (mapT (rdR c 1)).toNat ≤ 1)
  ∧ (h = 12 → E.1 (mapT (rdR c 2)).toNat = 2)
  ∧ (h = 131 → E.1 (mapT (rdR c 1)).toNat = 3 ∧ ∃ i, i < 64 ∧ ¬ B.2.2.2.1 (cW c) i = true)
noncomputable def hpG {W : Type} (B : WB W) (H : WH W) (E : EV) (c : TC W) (h n : Int) : TR W := @ite _ (hpK B E c h) (Classical.propDecidable _) (hpT B H E c h n) none
theorem hpG_T {W : Type} {B : WB W} {H : WH W} {E : EV} {c : TC W} {h n : Int} {x : Nat × TC W} (e : hpG B H E c h n = some x) : hpT B H E c h n = some x ∧ hpK B E c h := by
  unfold hpG at e
  by_cases k : hpK B E c h
  · rw [if_pos k] at e
    exact ⟨e, k⟩
  · rw [if_neg k] at e
    cases e
theorem hpG_e {W : Type} {B : WB W} {H : WH W} {E : EV} {c : TC W} {h n : Int} (k : hpK B E c h) : hpG B H E c h n = hpT B H E c h n := if_pos k
/-- one instruction, at the word that it goes on at; w, w2: that word and the next -/
noncomputable def stpT {W : Type} (B : WB W) (H : WH W) (E : EV) (c : TC W) (w w2 : B64) : TR W :=
  if fL w = 0 then
    (if fS w = 0 then some (0, goT (wrR c (dR w) (0, (BitVec.ofInt 64 (fI w) &&& cF) ||| (w2 &&& ~~~ cF))) (cP c + 2))
     else some (0, goT (wrR c (dR w) (8 + (fI w).toNat, 0#64)) (cP c + 2)))
  else if fL w = 4 ∨ fL w = 7 then (match alT c w with
    | some v => some (0, goT (wrR c (dR w) v) (cP c + 1))
    | none => none)
  else if fL w = 5 ∨ fL w = 6 then
    (if fOp w = 5 ∨ fOp w = 6 then some (0, goT c (goal (cP c) w))
     else if fOp w = 149 then exT c
     else if fOp w = 133 then (if fS w = 1 then (if cN c = 4 then none else some (0, enT c (goal (cP c) w) (cP c + 1))) else hpG B H E c (fI w) (cP c + 1))
     else (match cmT c w with
      | some b => some (0, goT c (if b = true then goal (cP c) w else cP c + 1))
      | none => none))
  else if fL w = 1 then (match ldT B H c w with
    | some v => some (0, goT (wrR c (dR w) v) (cP c + 1))
    | none => none)
  else if fL w = 3 ∧ fM w = 192 then (match swT B c w with
    | some c' => some (0, goT c' (cP c + 1))
    | none => none)
  else (match stoT B H c w with
    | some c' => some (0, goT c' (cP c + 1))
    | none => none)
