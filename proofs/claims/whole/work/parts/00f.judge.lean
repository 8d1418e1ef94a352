/-! ===== the judge, as such ===== -/
/-- the fields of a word -/
def fOp (w : B64) : Int := w.toInt % 256
def fD (w : B64) : Int := w.toInt / 256 % 16
def fS (w : B64) : Int := w.toInt / 4096 % 16
def fO (w : B64) : Int := (w.toInt / 65536).bmod 65536
def fI (w : B64) : Int := w.toInt / 4294967296
def fC (w : B64) : Int := fOp w / 16 * 16
def fL (w : B64) : Int := fOp w % 8
def fB (w : B64) : Int := fOp w / 8 % 4
def fM (w : B64) : Int := fOp w / 32 * 32
abbrev rgt (w : B64) : Prop := fOp w / 8 % 2 = 1
abbrev wid (w : B64) : Prop := fL w = 7
abbrev widJ (w : B64) : Prop := fL w = 5
abbrev isShf (c : Int) : Prop := c = 96 ∨ c = 112 ∨ c = 192
abbrev isQuo (c : Int) : Prop := c = 48 ∨ c = 144
abbrev okAlu (w : B64) : Prop := (fD w ≤ 9 ∧ fC w ≤ 208) ∧
  (if fC w = 208 then ¬ fOp w = 223 ∧ fS w = 0 ∧ fO w = 0 ∧ (fI w = 16 ∨ fI w = 32 ∨ fI w = 64)
   else if fC w = 128 then ¬ rgt w ∧ fS w = 0 ∧ fO w = 0 ∧ fI w = 0
   else (if rgt w then fS w ≤ 10 ∧ fI w = 0 else fS w = 0) ∧ (fO w = 0 ∨ isQuo (fC w) ∧ fO w = 1 ∨ (fC w = 176 ∧ rgt w) ∧ (fO w = 8 ∨ fO w = 16 ∨ wid w ∧ fO w = 32)) ∧ (rgt w ∨ ¬ isQuo (fC w) ∨ ¬ fI w = 0) ∧ (rgt w ∨ ¬ isShf (fC w) ∨ 0 ≤ fI w ∧ fI w ≤ (if wid w then 63 else 31)))
abbrev isCmpO (o : Int) : Prop := 1 ≤ o / 16 ∧ o / 16 ≤ 7 ∨ 10 ≤ o / 16 ∧ o / 16 ≤ 13
abbrev okJmp (w : B64) : Prop :=
  if fOp w = 5 then fD w = 0 ∧ fS w = 0 ∧ fI w = 0
  else if fOp w = 6 then fD w = 0 ∧ fS w = 0 ∧ fO w = 0
  else if fOp w = 133 then (fD w = 0 ∧ fO w = 0) ∧ (fS w = 0 ∧ 0 ≤ fI w ∨ fS w = 1)
  else if fOp w = 149 then fD w = 0 ∧ fS w = 0 ∧ fO w = 0 ∧ fI w = 0
  else (isCmpO (fOp w) ∧ fD w ≤ 10) ∧ (if rgt w then fS w ≤ 10 ∧ fI w = 0 else fS w = 0)
abbrev okMem (w : B64) : Prop :=
  if fL w = 1 then (fM w = 96 ∨ fM w = 128 ∧ ¬ fB w = 3) ∧ fD w ≤ 9 ∧ fS w ≤ 10 ∧ fI w = 0
  else if fL w = 2 then fM w = 96 ∧ fD w ≤ 10 ∧ fS w = 0
  else if fM w = 96 then fD w ≤ 10 ∧ fS w ≤ 10 ∧ fI w = 0
  else ((fOp w = 195 ∨ fOp w = 219) ∧ fD w ≤ 10) ∧ ((fI w = 0 ∨ fI w = 64 ∨ fI w = 80 ∨ fI w = 160 ∨ fI w = 241) ∧ fS w ≤ 10 ∨ (fI w = 1 ∨ fI w = 65 ∨ fI w = 81 ∨ fI w = 161 ∨ fI w = 225) ∧ fS w ≤ 9)
/-- a word that is an instruction, no pair's -/
abbrev okPl (w : B64) : Prop :=
  if fL w = 0 then False
  else if fL w = 4 ∨ fL w = 7 then okAlu w
  else if fL w = 5 ∨ fL w = 6 then okJmp w
  else okMem w
abbrev okPr (w w2 : B64) : Prop := (fOp w = 24 ∧ fD w ≤ 9 ∧ fO w = 0 ∧ w2 &&& cF = 0#64) ∧ (fS w = 0 ∨ fS w = 1 ∧ 0 ≤ fI w ∧ fI w ≤ 7 ∧ w2 = 0#64)
/-- a VALUE: kind, number, OFF, frame or map or bytes, REACH (of a part without VALUE: bytes that are set), TAG -/
abbrev VL : Type := Int × N6 × Int × Int × Int × Int
abbrev vk (v : VL) : Int := v.1
abbrev vn (v : VL) : N6 := v.2.1
abbrev vo (v : VL) : Int := v.2.2.1
abbrev vw (v : VL) : Int := v.2.2.2.1
abbrev vr (v : VL) : Int := v.2.2.2.2.1
abbrev vt (v : VL) : Int := v.2.2.2.2.2
def mkV (k w t : Int) : VL := (k, cstN 0#64, 0, w, 0, t)
def numV (n : N6) : VL := (1, n, 0, 0, 0, 0)
def bytV (r : Int) : VL := (0, cstN 0#64, 0, 0, r, 0)
abbrev unsV : VL := mkV 0 0 0
/-- a STATE: how many frames; the VALUES, 26 a frame; where FUNCTIONS go back; what is held -/
abbrev ST : Type := Nat × (Nat → VL) × (Nat → Int) × List Int
abbrev sF (S : ST) : Nat := S.1
abbrev sV (S : ST) : Nat → VL := S.2.1
abbrev sB (S : ST) : Nat → Int := S.2.2.1
abbrev sH (S : ST) : List Int := S.2.2.2
def upV (f : Nat → VL) (k : Nat) (v : VL) : Nat → VL := fun j => if j = k then v else f j
/-- register r of the uppermost frame -/
def rgV (S : ST) (r : Nat) : VL := if r = 10 then mkV 3 ((sF S : Int) - 1) 0 else sV S (26 * (sF S - 1) + r)
def wV (S : ST) (r : Nat) (v : VL) : ST := (sF S, upV (sV S) (26 * (sF S - 1) + r) v, sB S, sH S)
abbrev dR (w : B64) : Nat := (fD w).toNat
abbrev sRr (w : B64) : Nat := (fS w).toNat
abbrev isMb (v : VL) : Prop := vk v = 6 ∨ vk v = 10
abbrev mvs (v : VL) : Prop := vk v = 3 ∨ vk v = 5 ∨ vk v = 7 ∨ vk v = 9
/-- both have to be numbers -/
def wntN (x y : VL) : Int := if isMb x ∨ isMb y then 14 else if ¬ vk x = 1 ∨ ¬ vk y = 1 then 4 else 0
def wntS (x : VL) : Int := if vk x = 0 then 3 else 0
/-- what is not 0 first -/
def fst (a b : Int) : Int := if a = 0 then b else a
/-- the right side -/
def rgtV (S : ST) (w : B64) : VL := if rgt w then rgV S (sRr w) else numV (cstN (BitVec.ofInt 64 (fI w)))
/-- a place and a number: the fault, the place, the newest TAG -/
def shfV (p : VL) (n : N6) (c : Int) (t : Int) : Int × VL × Int :=
  if isC n then
    (if (if c = 0 then jV n else - jV n).toInt < -8192 ∨ 8192 < (if c = 0 then jV n else - jV n).toInt ∨ vo p + (if c = 0 then jV n else - jV n).toInt < -4096 ∨ 4096 < vo p + (if c = 0 then jV n else - jV n).toInt then (5, p, t)
     else (0, (vk p, vn p, vo p + (if c = 0 then jV n else - jV n).toInt, vw p, vr p, vt p), t))
  else if ¬ c = 0 ∨ vk p = 3 then (4, p, t)
  else if 65535#64 < jB (tdN (addN (vn p) n)) then (5, p, t)
  else if vk p = 7 then (0, (vk p, tdN (addN (vn p) n), vo p, vw p, 0, t + 1), t + 1)
  else (0, (vk p, tdN (addN (vn p) n), vo p, vw p, vr p, vt p), t)
def movV (w : B64) (y : VL) : Int × VL :=
  if wid w ∧ fO w = 0 then (0, y)
  else if ¬ wntN y y = 0 then (wntN y y, y)
  else if fO w = 0 then (0, numV (cutT (cutT (vn y))))
  else if wid w then (0, numV (extN (fO w).toNat (vn y)))
  else (0, numV (extW (fO w).toNat (cutT (vn y))))
/-- an ALU instruction: the fault, what D is, the newest TAG -/
def aluV (S : ST) (w : B64) (t : Int) : Int × VL × Int :=
  if fC w = 208 then
    (if ¬ fst (wntS (rgV S (dR w))) (wntN (rgV S (dR w)) (rgV S (dR w))) = 0 then (fst (wntS (rgV S (dR w))) (wntN (rgV S (dR w)) (rgV S (dR w))), unsV, t)
     else (0, numV (trnN (decide (fOp w = 212)) (fI w).toNat (vn (rgV S (dR w)))), t))
  else if ¬ fC w = 176 ∧ vk (rgV S (dR w)) = 0 then (3, unsV, t)
  else if vk (rgtV S w) = 0 then (3, unsV, t)
  else if fC w = 176 then ((movV w (rgtV S w)).1, (movV w (rgtV S w)).2, t)
  else if fC w = 128 then
    (if ¬ wntN (rgV S (dR w)) (rgV S (dR w)) = 0 then (wntN (rgV S (dR w)) (rgV S (dR w)), unsV, t)
     else if wid w then (0, numV (negN (vn (rgV S (dR w)))), t)
     else (0, numV (cutT (negN (cutT (vn (rgV S (dR w)))))), t))
  else if (wid w ∧ ¬ (isMb (rgV S (dR w)) ∨ isMb (rgtV S w))) ∧ (fC w = 0 ∨ fC w = 16) ∧ mvs (rgV S (dR w)) ∧ vk (rgtV S w) = 1 then shfV (rgV S (dR w)) (vn (rgtV S w)) (fC w) t
  else if (wid w ∧ ¬ (isMb (rgV S (dR w)) ∨ isMb (rgtV S w))) ∧ fC w = 0 ∧ vk (rgV S (dR w)) = 1 ∧ mvs (rgtV S w) then shfV (rgtV S w) (vn (rgV S (dR w))) (fC w) t
  else if ¬ wntN (rgV S (dR w)) (rgtV S w) = 0 then (wntN (rgV S (dR w)) (rgtV S w), unsV, t)
  else if wid w then (0, numV (opN (fC w) (fO w) (vn (rgV S (dR w))) (vn (rgtV S w))), t)
  else (0, numV (opW (fC w) (fO w) (vn (rgV S (dR w))) (vn (rgtV S w))), t)
/-! places -/
/-- kinds of the maps (-1: not told), bytes of their keys and values -/
abbrev EV : Type := (Nat → Int) × (Nat → Int) × (Nat → Int)
/-- n bytes are there, by so much -/
abbrev room (E : EV) (v : VL) (b n : Int) : Prop :=
  if vk v = 3 then -128 ≤ vo v + b ∧ vo v + b ≤ -n
  else if vk v = 7 then 0 ≤ vo v + b ∧ vo v + b + n ≤ vr v
  else 0 ≤ (BitVec.ofInt 64 (vo v + b) + jA (vn v)).toInt ∧ (BitVec.ofInt 64 (vo v + b) + jB (vn v) + BitVec.ofInt 64 n).toInt ≤ (if vk v = 5 then E.2.2 (vw v).toNat else vw v)
/-- byte b of a frame's stack is set -/
abbrev setB (S : ST) (f b : Nat) : Prop := if vk (sV S (26 * f + 10 + b / 8)) = 0 then (vr (sV S (26 * f + 10 + b / 8))).toNat.testBit (b % 8) = true else vk (sV S (26 * f + 10 + b / 8)) = 1
def areS (S : ST) (f b n : Nat) : Bool := (List.range n).all fun i => decide (setB S f (b + i))
def unpV (v : VL) : VL := if vk v = 0 then v else bytV (if vk v = 1 then 255 else 0)
/-- bytes b .. b + n - 1 of a stack: their parts have bytes, and the first k are set -/
def putB (S : ST) (f b n k : Nat) : ST :=
  (sF S, (fun j => if 26 * f + 10 + b / 8 ≤ j ∧ j ≤ 26 * f + 10 + (b + n - 1) / 8 ∧ 0 < n then
      (vk (unpV (sV S j)), vn (unpV (sV S j)), vo (unpV (sV S j)), vw (unpV (sV S j)), (((List.range 8).foldl (fun (a : Nat) i => if b ≤ 8 * (j - (26 * f + 10)) + i ∧ 8 * (j - (26 * f + 10)) + i < b + k then a ||| 1 <<< i else a) (vr (unpV (sV S j))).toNat : Nat) : Int), vt (unpV (sV S j)))
    else sV S j), sB S, sH S)
def bytN (w : B64) : Nat := if fB w = 0 then 4 else if fB w = 1 then 2 else if fB w = 2 then 1 else 8
def plcF (v : VL) : Int := if isMb v then 14 else if ¬ mvs v then 4 else 0
/-- a load: the fault, what D is -/
def lodV (E : EV) (S : ST) (w : B64) : Int × VL :=
  if vk (rgV S (sRr w)) = 0 then (3, unsV)
  else if vk (rgV S (sRr w)) = 2 then
    (if ¬ (fOp w = 97 ∧ 0 ≤ fO w ∧ fO w ≤ 16 ∧ fO w % 4 = 0) then (9, unsV)
     else if fO w ≤ 4 then (0, mkV (if fO w = 0 then 7 else 8) 0 0)
     else (0, numV (wideN 4)))
  else if ¬ plcF (rgV S (sRr w)) = 0 then (plcF (rgV S (sRr w)), unsV)
  else if ¬ room E (rgV S (sRr w)) (fO w) (bytN w) then (5, unsV)
  else if vk (rgV S (sRr w)) = 3 ∧ (bytN w = 8 ∧ (vo (rgV S (sRr w)) + fO w + 128) % 8 = 0) ∧ ¬ vk (sV S (26 * (vw (rgV S (sRr w))).toNat + 10 + (vo (rgV S (sRr w)) + fO w + 128).toNat / 8)) = 0 then
    (0, sV S (26 * (vw (rgV S (sRr w))).toNat + 10 + (vo (rgV S (sRr w)) + fO w + 128).toNat / 8))
  else if vk (rgV S (sRr w)) = 3 ∧ areS S (vw (rgV S (sRr w))).toNat (vo (rgV S (sRr w)) + fO w + 128).toNat (bytN w) = false then (6, unsV)
  else if fM w = 128 then (0, numV (tdN (sgnN (8 * bytN w))))
  else (0, numV (wideN (bytN w)))
/-- a store: the fault, the state -/
def stoV (E : EV) (S : ST) (w : B64) : Int × ST :=
  if vk (rgV S (dR w)) = 0 then (3, S)
  else if vk (if fL w = 3 then rgV S (sRr w) else numV (cstN (BitVec.ofInt 64 (fI w)))) = 0 then (3, S)
  else if vk (rgV S (dR w)) = 2 then
    (if ¬ bytN w = 4 ∨ ¬ fO w = 12 then (9, S)
     else if ¬ vk (if fL w = 3 then rgV S (sRr w) else numV (cstN (BitVec.ofInt 64 (fI w)))) = 1 then (7, S) else (0, S))
  else if ¬ plcF (rgV S (dR w)) = 0 then (plcF (rgV S (dR w)), S)
  else if ¬ room E (rgV S (dR w)) (fO w) (bytN w) then (5, S)
  else if ¬ vk (if fL w = 3 then rgV S (sRr w) else numV (cstN (BitVec.ofInt 64 (fI w)))) = 1 ∧ (¬ (vk (rgV S (dR w)) = 3 ∧ bytN w = 8 ∧ (vo (rgV S (dR w)) + fO w + 128) % 8 = 0) ∨ vk (if fL w = 3 then rgV S (sRr w) else numV (cstN (BitVec.ofInt 64 (fI w)))) = 3 ∧ vw (rgV S (dR w)) < vw (if fL w = 3 then rgV S (sRr w) else numV (cstN (BitVec.ofInt 64 (fI w))))) then (7, S)
  else if vk (rgV S (dR w)) = 3 ∧ bytN w = 8 ∧ (vo (rgV S (dR w)) + fO w + 128) % 8 = 0 then
    (0, (sF S, upV (sV S) (26 * (vw (rgV S (dR w))).toNat + 10 + (vo (rgV S (dR w)) + fO w + 128).toNat / 8) (if fL w = 3 then rgV S (sRr w) else numV (cstN (BitVec.ofInt 64 (fI w)))), sB S, sH S))
  else if vk (rgV S (dR w)) = 3 then (0, putB S (vw (rgV S (dR w))).toNat (vo (rgV S (dR w)) + fO w + 128).toNat (bytN w) (bytN w))
  else (0, S)
/-- C3, DB -/
def swpV (E : EV) (S : ST) (w : B64) : Int × ST :=
  if vk (rgV S (dR w)) = 0 ∨ (fI w = 241 ∧ vk (rgV S 0) = 0) ∨ vk (rgV S (sRr w)) = 0 then (3, S)
  else if isMb (rgV S (dR w)) then (14, S)
  else if ¬ vk (rgV S (dR w)) = 3 ∧ ¬ vk (rgV S (dR w)) = 5 ∧ ¬ vk (rgV S (dR w)) = 9 then (4, S)
  else if ¬ room E (rgV S (dR w)) (fO w) (bytN w) then (5, S)
  else if vk (rgV S (dR w)) = 3 ∧ areS S (vw (rgV S (dR w))).toNat (vo (rgV S (dR w)) + fO w + 128).toNat (bytN w) = false then (6, S)
  else if ¬ vk (rgV S (sRr w)) = 1 ∨ fI w = 241 ∧ ¬ vk (rgV S 0) = 1 then (7, S)
  else
    (0, (if fI w = 241 then wV (if vk (rgV S (dR w)) = 3 then putB S (vw (rgV S (dR w))).toNat (vo (rgV S (dR w)) + fO w + 128).toNat (bytN w) (bytN w) else S) 0 (numV (wideN (bytN w)))
      else if fI w % 2 = 1 then wV (if vk (rgV S (dR w)) = 3 then putB S (vw (rgV S (dR w))).toNat (vo (rgV S (dR w)) + fO w + 128).toNat (bytN w) (bytN w) else S) (sRr w) (numV (wideN (bytN w)))
      else (if vk (rgV S (dR w)) = 3 then putB S (vw (rgV S (dR w))).toNat (vo (rgV S (dR w)) + fO w + 128).toNat (bytN w) (bytN w) else S)))
/-! jumps -/
abbrev WY : Type := Option (Int × ST)
/-- fault, the way at hand, the one that waits, the newest TAG -/
abbrev JR : Type := Int × WY × WY × Int
def allV (S : ST) (g : VL → VL) : ST := (sF S, (fun k => if k < 26 * sF S then g (sV S k) else sV S k), sB S, sH S)
def zerV (t : Int) (v : VL) : VL := if isMb v ∧ vt v = t then numV (cstN 0#64) else v
def plcV (t : Int) (v : VL) : VL := if isMb v ∧ vt v = t then mkV (if vk v = 6 then 5 else 9) (vw v) (if vk v = 6 then 0 else t) else v
def relH (S : ST) (t : Int) : ST := (sF S, sV S, sB S, (sH S).filter fun h => decide (¬ h = t))
def becZ (S : ST) (t k : Int) : ST := if k = 10 then relH (allV S (zerV t)) t else allV S (zerV t)
def rchV (t n : Int) (v : VL) : VL := if vk v = 7 ∧ vt v = t ∧ vr v < n then (vk v, vn v, vo v, vw v, n, vt v) else v
/-- two numbers: what they are on each way -/
def nrwS (S : ST) (w : B64) (c : Int) (is : Bool) (x y : N6) : ST :=
  if rgt w then wV (wV S (dR w) (numV (tdN (narN c is x y).1))) (sRr w) (numV (tdN (narN c is x y).2))
  else wV S (dR w) (numV (tdN (narN c is x y).1))
def immJ (w : B64) : B64 := if widJ w then BitVec.ofInt 64 (fI w) else BitVec.ofInt 64 (fI w) &&& cF
def sidJ (S : ST) (w : B64) : VL := if rgt w then rgV S (sRr w) else numV (cstN (immJ w))
noncomputable def numJ (S : ST) (w : B64) (g n t : Int) : JR :=
  if decN (fC w) (decide (widJ w)) (vn (rgV S (dR w))) (vn (sidJ S w)) = 1 then (0, some (g, S), none, t)
  else if decN (fC w) (decide (widJ w)) (vn (rgV S (dR w))) (vn (sidJ S w)) = 0 then (0, some (n, S), none, t)
  else if (rgt w ∧ fD w = fS w) ∨ ¬ (widJ w ∨ ¬ isSgn (fC w) ∧ ¬ cF < jB (vn (rgV S (dR w))) ∧ ¬ cF < jB (vn (sidJ S w))) then (0, some (n, S), some (g, S), t)
  else @ite _ (tdG (narN (fC w) true (vn (rgV S (dR w))) (vn (sidJ S w))).1 ∧ tdG (narN (fC w) true (vn (rgV S (dR w))) (vn (sidJ S w))).2) (Classical.propDecidable _)
    (@ite _ (tdG (narN (fC w) false (vn (rgV S (dR w))) (vn (sidJ S w))).1 ∧ tdG (narN (fC w) false (vn (rgV S (dR w))) (vn (sidJ S w))).2) (Classical.propDecidable _)
      (0, some (n, nrwS S w (fC w) false (vn (rgV S (dR w))) (vn (sidJ S w))), some (g, nrwS S w (fC w) true (vn (rgV S (dR w))) (vn (sidJ S w))), t)
      (0, some (g, nrwS S w (fC w) true (vn (rgV S (dR w))) (vn (sidJ S w))), none, t))
    (@ite _ (tdG (narN (fC w) false (vn (rgV S (dR w))) (vn (sidJ S w))).1 ∧ tdG (narN (fC w) false (vn (rgV S (dR w))) (vn (sidJ S w))).2) (Classical.propDecidable _)
      (0, some (n, nrwS S w (fC w) false (vn (rgV S (dR w))) (vn (sidJ S w))), none, t)
      (0, none, none, t))
abbrev isOrd (c : Int) : Prop := c = 32 ∨ c = 48 ∨ c = 160 ∨ c = 176
def turC (c : Int) : Int := if c = 32 then 160 else if c = 48 then 176 else if c = 160 then 32 else 48
/-- a packet's place against its end -/
def rchJ (S : ST) (p : VL) (c g n t : Int) : JR :=
  (0, some (n, if c = 32 then allV S (rchV (vt p) (vo p)) else if c = 48 then allV S (rchV (vt p) (vo p + 1)) else S),
    some (g, if c = 160 then allV S (rchV (vt p) (vo p + 1)) else if c = 176 then allV S (rchV (vt p) (vo p)) else S), t)
/-- a comparison -/
noncomputable def cmpJ (S : ST) (w : B64) (g n t : Int) : JR :=
  if vk (rgV S (dR w)) = 0 ∨ vk (sidJ S w) = 0 then (3, none, none, t)
  else if vk (rgV S (dR w)) = 1 ∧ vk (sidJ S w) = 1 then numJ S w g n t
  else if ((¬ rgt w ∧ widJ w) ∧ (fC w = 16 ∨ fC w = 80) ∧ fI w = 0) ∧ isMb (rgV S (dR w)) then
    (if fC w = 16 then (0, some (n, allV S (plcV (vt (rgV S (dR w))))), some (g, becZ S (vt (rgV S (dR w))) (vk (rgV S (dR w)))), t)
     else (0, some (n, becZ S (vt (rgV S (dR w))) (vk (rgV S (dR w)))), some (g, allV S (plcV (vt (rgV S (dR w))))), t))
  else if (¬ rgt w ∧ widJ w) ∧ (fC w = 16 ∨ fC w = 80) ∧ fI w = 0 then (0, some (if fC w = 80 then g else n, S), none, t)
  else if isMb (rgV S (dR w)) ∨ isMb (sidJ S w) then (14, none, none, t)
  else if (widJ w ∧ rgt w) ∧ isOrd (fC w) ∧ vk (rgV S (dR w)) = 7 ∧ vk (sidJ S w) = 8 then rchJ S (rgV S (dR w)) (fC w) g n t
  else if (widJ w ∧ rgt w) ∧ isOrd (fC w) ∧ vk (rgV S (dR w)) = 8 ∧ vk (sidJ S w) = 7 then rchJ S (sidJ S w) (turC (fC w)) g n t
  else (4, none, none, t)
/-! functions, helpers -/
def clrF (S : ST) (f : Nat) : Nat → VL := fun k => if 26 * f ≤ k ∧ k < 26 * f + 26 then unsV else sV S k
def entJ (S : ST) (g n t : Int) : JR :=
  if sF S = 4 then (13, none, none, t)
  else (0, some (g, (sF S + 1, (fun k => if 26 * sF S + 1 ≤ k ∧ k ≤ 26 * sF S + 5 then sV S (k - 26) else clrF S (sF S) k), (fun f => if f = sF S then n else sB S f), sH S)), none, t)
def unsA (S : ST) : ST := (sF S, (fun k => if 26 * (sF S - 1) + 1 ≤ k ∧ k ≤ 26 * (sF S - 1) + 5 then unsV else sV S k), sB S, sH S)
def exiJ (S : ST) (t : Int) : JR :=
  if vk (rgV S 0) = 0 then (3, none, none, t)
  else if ¬ vk (rgV S 0) = 1 then (7, none, none, t)
  else if sF S = 1 then (if sH S = [] then (0, none, none, t) else (10, none, none, t))
  else (0, some (sB S (sF S - 1), unsA (wV (sF S - 1, sV S, sB S, sH S) 0 (rgV S 0))), none, t)
/-- an argument: it is set, then no place or 0, then as told -/
def wntA (x : VL) (p : Bool) : Int := if vk x = 0 then 3 else if isMb x then 14 else if p = true then 0 else 8
def wntM (E : EV) (x : VL) (a b : Int) : Int := wntA x (decide (vk x = 4 ∧ a ≤ E.1 (vw x).toNat ∧ E.1 (vw x).toNat ≤ b))
/-- so many bytes are there, and set -/
def wntB (E : EV) (S : ST) (x : VL) (n : Int) : Int :=
  if ¬ wntA x (decide (mvs x)) = 0 then wntA x (decide (mvs x))
  else if ¬ room E x 0 n then 5
  else if vk x = 3 ∧ areS S (vw x).toNat (vo x + 128).toNat n.toNat = false then 6
  else 0
def wntK (x : VL) (k : Int) : Int := wntA x (decide (vk x = k))
/-- the fault of a helper's call -/
def hlpF (E : EV) (S : ST) (h : Int) : Int :=
  if h = 1 ∨ h = 3 then fst (wntM E (rgV S 1) 0 1) (wntB E S (rgV S 2) (E.2.1 (vw (rgV S 1)).toNat))
  else if h = 2 then fst (fst (fst (wntM E (rgV S 1) 0 1) (wntB E S (rgV S 2) (E.2.1 (vw (rgV S 1)).toNat))) (wntB E S (rgV S 3) (E.2.2 (vw (rgV S 1)).toNat))) (wntK (rgV S 4) 1)
  else if h = 5 ∨ h = 7 then 0
  else if h = 6 then fst (wntA (rgV S 2) (decide (vk (rgV S 2) = 1 ∧ ¬ jA (vn (rgV S 2)) = 0#64 ∧ ¬ 64#64 < jB (vn (rgV S 2))))) (wntB E S (rgV S 1) (jB (vn (rgV S 2))).toInt)
  else if h = 12 then fst (fst (fst (wntK (rgV S 1) 2) (wntM E (rgV S 2) 2 2)) (wntK (rgV S 3) 1)) (if 1 < sF S then 8 else if sH S = [] then 0 else 10)
  else if h = 26 then fst (fst (fst (fst (wntK (rgV S 1) 2) (wntK (rgV S 2) 1)) (wntA (rgV S 4) (decide (vk (rgV S 4) = 1 ∧ ¬ jA (vn (rgV S 4)) = 0#64 ∧ ¬ 128#64 < jB (vn (rgV S 4)))))) (wntK (rgV S 3) 3)) (if room E (rgV S 3) 0 (jB (vn (rgV S 4))).toInt then 0 else 5)
  else if h = 44 then fst (wntK (rgV S 1) 2) (wntK (rgV S 2) 1)
  else if h = 131 then fst (fst (fst (wntM E (rgV S 1) 3 3) (wntA (rgV S 2) (decide (vk (rgV S 2) = 1 ∧ isC (vn (rgV S 2)) ∧ 1 ≤ (jV (vn (rgV S 2))).toInt ∧ (jV (vn (rgV S 2))).toInt ≤ 64)))) (wntK (rgV S 3) 1)) (if (sH S).length = 64 then 12 else 0)
  else if h = 132 ∨ h = 133 then fst (wntA (rgV S 1) (decide (vk (rgV S 1) = 9 ∧ vo (rgV S 1) = 0 ∧ isC (vn (rgV S 1)) ∧ jV (vn (rgV S 1)) = 0#64))) (wntK (rgV S 2) 1)
  else 8
def pktV (v : VL) : VL := if vk v = 7 ∨ vk v = 8 then unsV else v
def recV (t : Int) (v : VL) : VL := if vk v = 9 ∧ vt v = t then unsV else v
/-- what a helper makes of the state, before its answer -/
def hlpS (S : ST) (h : Int) : ST :=
  if h = 26 then putB S (vw (rgV S 3)).toNat (vo (rgV S 3) + 128).toNat (jB (vn (rgV S 4))).toNat (if jB (vn (rgV S 4)) < jA (vn (rgV S 4)) then (jB (vn (rgV S 4))).toNat else (jA (vn (rgV S 4))).toNat)
  else if h = 44 then allV S pktV
  else if h = 132 ∨ h = 133 then allV (relH S (vt (rgV S 1))) (recV (vt (rgV S 1)))
  else S
def hlpJ (E : EV) (S : ST) (h n t : Int) : JR :=
  if ¬ hlpF E S h = 0 then (hlpF E S h, none, none, t)
  else if h = 1 then (0, some (n, wV (unsA S) 0 (mkV 6 (vw (rgV S 1)) (t + 1))), none, t + 1)
  else if h = 131 then (0, some (n, ((wV (unsA S) 0 (mkV 10 ((jV (vn (rgV S 2))).toInt) (t + 1))).1, (wV (unsA S) 0 (mkV 10 ((jV (vn (rgV S 2))).toInt) (t + 1))).2.1, sB S, sH S ++ [t + 1])), none, t + 1)
  else (0, some (n, wV (unsA (hlpS S h)) 0 (numV (if h = 7 then wideN 4 else anyN))), none, t)
/-- where a jump or a FUNCTION leads -/
def goal (i : Int) (w : B64) : Int := i + 1 + (if fOp w = 6 ∨ fOp w = 133 then fI w else fO w)
def wayJ (f : Int) (n : Int) (S : ST) (t : Int) : JR := if f = 0 then (0, some (n, S), none, t) else (f, none, none, t)
/-- an instruction at word i; w2 is the word behind it -/
noncomputable def stpJ (E : EV) (S : ST) (i : Int) (w w2 : B64) (t : Int) : JR :=
  if fL w = 0 then
    (if fS w = 0 then (0, some (i + 2, wV S (dR w) (numV (cstN ((BitVec.ofInt 64 (fI w) &&& cF) ||| (w2 &&& ~~~ cF))))), none, t)
     else if E.1 (fI w).toNat < 0 then (15, none, none, t)
     else (0, some (i + 2, wV S (dR w) (mkV 4 (fI w) 0)), none, t))
  else if fL w = 4 ∨ fL w = 7 then wayJ (aluV S w t).1 (i + 1) (wV S (dR w) (aluV S w t).2.1) (aluV S w t).2.2
  else if fL w = 5 ∨ fL w = 6 then
    (if fOp w = 5 ∨ fOp w = 6 then (0, some (goal i w, S), none, t)
     else if fOp w = 149 then exiJ S t
     else if fOp w = 133 then (if fS w = 1 then entJ S (goal i w) (i + 1) t else hlpJ E S (fI w) (i + 1) t)
     else cmpJ S w (goal i w) (i + 1) t)
  else if fL w = 1 then wayJ (lodV E S w).1 (i + 1) (wV S (dR w) (lodV E S w).2) t
  else if fL w = 3 ∧ fM w = 192 then wayJ (swpV E S w).1 (i + 1) (swpV E S w).2 t
  else wayJ (stoV E S w).1 (i + 1) (stoV E S w).2 t
