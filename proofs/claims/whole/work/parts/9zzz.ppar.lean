/-! ===== statements (pure) ===== -/
/-- one behind another -/
def bS {α β : Type} (r : Int ⊕ α) (f : α → Int ⊕ β) : Int ⊕ β := match r with
  | .inl e => .inl e
  | .inr q => f q
/-- the token is this name -/
def nmB (t : Nat → Int) (T : TK) (L : List Nat) : Bool := decide (tK T = 2) && (decide (tE T - tB T = L.length) && (List.range L.length).all fun i => decide (t (tB T + i) = ((L.getD i 0 : Nat) : Int)))
abbrev nmP' (t : Nat → Int) (T : TK) (j : Nat) : Prop := nmB t T (strAt j) = true
/-- a register: 0 .. 10, W ones 16 more; -1 -/
def rgR (t : Nat → Int) (T : TK) : Int := if ¬ tK T = 2 then -1 else if tE T - tB T < 2 ∨ 3 < tE T - tB T then -1 else if ¬ (t (tB T) = 114 ∨ t (tB T) = 119) then -1 else if tE T - tB T = 2 then (if isDg (t (tB T + 1)) then (if t (tB T) = 119 then 16 + (t (tB T + 1) - 48) else t (tB T + 1) - 48) else -1) else if t (tB T + 1) = 49 ∧ t (tB T + 2) = 48 then (if t (tB T) = 119 then 26 else 10) else -1
abbrev sgn (T : Nat → TK) (c : Int) (k : Nat) : Prop := tK (T k) = 4 ∧ tkS (T k) = c
/-- a NUMBER up to this -/
def pNum (T : Nat → TK) (most : B64) (k : Nat) : Int ⊕ Nat := if tK (T k) = 3 ∧ tkS (T k) = 0 ∧ ¬ most < tV (T k) then .inr (k + 1) else .inl (tB (T k) : Int)
/-- with its sign -/
abbrev sgV (m : Int) (v : B64) : B64 := if m = 0 then v else -v
/-- 1 with a -, else 0 -/
def mnS (T : Nat → TK) (k : Nat) : Int := if sgn T 45 k then 1 else 0
def skS (T : Nat → TK) (k : Nat) : Nat := if sgn T 45 k then k + 1 else k
/-- CONST -/
def pCst (T : Nat → TK) (k : Nat) : Int ⊕ (B64 × Nat) := bS (pNum T (if mnS T k = 0 then iL 4294967295 else iL 2147483648) (skS T k)) fun k2 => .inr (sgV (mnS T k) (tV (T (skS T k))), k2)
/-- a register of this kind -/
def pRgt (t : Nat → Int) (T : Nat → TK) (w : Int) (k : Nat) : Int ⊕ (Int × Nat) := if rgR t (T k) < 0 ∨ ¬ (if rgR t (T k) < 16 then (0 : Int) else 1) = w then .inl (tB (T k) : Int) else .inr (iAnd (rgR t (T k)) 15, k + 1)
/-- the right side: 8 more to OP, S, IMM -/
def pSid (t : Nat → Int) (T : Nat → TK) (w : Int) (k : Nat) : Int ⊕ ((Int × Int × B64) × Nat) := if tK (T k) = 2 then (bS (pRgt t T w k) fun q => .inr ((8, q.1, 0), q.2)) else (bS (pCst T k) fun q => .inr ((0, 0, q.1), q.2))
/-- WHERE: a name, or how far -/
def pWh (t : Nat → Int) (T : Nat → TK) (most : B64) (k : Nat) : Int ⊕ ((Option Nat × B64) × Nat) := if tK (T k) = 2 then (if 0 ≤ rgR t (T k) then .inl (tB (T k) : Int) else .inr ((some k, 0), k + 1)) else if sgn T 45 k ∨ sgn T 43 k then (bS (pNum T (if mnS T k = 0 then most else most + 1) (k + 1)) fun k2 => .inr ((none, sgV (mnS T k) (tV (T (k + 1)))), k2)) else .inl (tB (T k) : Int)
/-- of a place: whether with sign; its size's bits; -1 -/
def pSz (t : Nat → Int) (T : TK) (loads : Int) : Int := if ¬ loads = 0 ∧ nmP' t T 72 then 144 else if ¬ loads = 0 ∧ nmP' t T 73 then 136 else if ¬ loads = 0 ∧ nmP' t T 74 then 128 else if nmP' t T 75 then 112 else if nmP' t T 76 then 104 else if nmP' t T 77 then 96 else if nmP' t T 78 then 120 else -1
/-- PTR behind its size -/
def pPt2 (t : Nat → Int) (T : Nat → TK) (z : Int) (j : Nat) : Int ⊕ ((Int × Int × B64) × Nat) := if ¬ sgn T 42 j then .inl (tB (T j) : Int) else if ¬ sgn T 41 (j + 1) then .inl (tB (T (j + 1)) : Int) else if ¬ sgn T 40 (j + 2) then .inl (tB (T (j + 2)) : Int) else bS (pRgt t T 0 (j + 3)) fun q => if ¬ (sgn T 45 (j + 4) ∨ sgn T 43 (j + 4)) then .inl (tB (T (j + 4)) : Int) else bS (pNum T (if mnS T (j + 4) = 0 then iL 32767 else iL 32768) (j + 5)) fun _ => if ¬ sgn T 41 (j + 6) then .inl (tB (T (j + 6)) : Int) else .inr ((z, q.1, sgV (mnS T (j + 4)) (tV (T (j + 5)))), j + 7)
/-- PTR: mode and size, register, OFF -/
def pPtr (t : Nat → Int) (T : Nat → TK) (loads : Int) (k : Nat) : Int ⊕ ((Int × Int × B64) × Nat) := if ¬ sgn T 42 k then .inl (tB (T k) : Int) else if ¬ sgn T 40 (k + 1) then .inl (tB (T (k + 1)) : Int) else if pSz t (T (k + 2)) loads < 0 then .inl (tB (T (k + 2)) : Int) else pPt2 t T (pSz t (T (k + 2)) loads) (k + 3)
/-- what a statement makes: OP D S OFF IMM; whether any word, that word or a second one, whether a pair; a WHERE's name -/
abbrev SR : Type := (Int × Int × Int × Int × Int) × (Int × B64 × Int) × Option Nat
/-- of operations -/
def cdT (s : Int) : Int := if s = 11069 then 0 else if s = 11581 then 16 else if s = 10813 then 32 else if s = 12093 then 48 else if s = 31805 then 64 else if s = 9789 then 80 else if s = 3947581 then 96 else if s = 4079165 then 112 else if s = 9533 then 144 else if s = 24125 then 160 else -1
/-- of comparisons -/
def cpT (s : Int) (g : Int) : Int := if g = 0 then (if s = 15677 then 16 else if s = 62 then 32 else if s = 15933 then 48 else if s = 38 then 64 else if s = 8509 then 80 else if s = 60 then 160 else if s = 15421 then 176 else -1) else (if s = 62 then 96 else if s = 15933 then 112 else if s = 60 then 192 else if s = 15421 then 208 else -1)
/-- of le16 and so on: OP, IMM; -1 -/
def orT (t : Nat → Int) (T : TK) : Int × Int := if nmP' t T 62 then (212, 16) else if nmP' t T 65 then (212, 32) else if nmP' t T 68 then (212, 64) else if nmP' t T 63 then (220, 16) else if nmP' t T 66 then (220, 32) else if nmP' t T 69 then (220, 64) else if nmP' t T 64 then (215, 16) else if nmP' t T 67 then (215, 32) else if nmP' t T 70 then (215, 64) else (-1, 0)
abbrev wOf (r : Int) : Int := if r < 16 then 0 else 1
abbrev bOf (r : Int) : Int := if r < 16 then 7 else 4
/-- a number behind REG = -/
def pPln (t : Nat → Int) (T : Nat → TK) (r m : Int) (k : Nat) : Int ⊕ (SR × Nat) := if ¬ (tK (T k) = 3 ∧ tkS (T k) = 0) then .inl (tB (T k) : Int) else if r < 16 ∧ nmP' t (T (k + 1)) 71 then (if ¬ m = 0 ∧ iL (-9223372036854775808) < tV (T k) then .inl (tB (T k) : Int) else .inr (((24, iAnd r 15, 0, 0, lI (sgV m (tV (T k)))), (0, sgV m (tV (T k)) &&& iL (-4294967296), 1), none), k + 2)) else if (if m = 0 then iL 4294967295 else iL 2147483648) < tV (T k) then .inl (tB (T k) : Int) else .inr (((iOr 176 (bOf r), iAnd r 15, 0, 0, lI (sgV m (tV (T k)))), (0, 0, 0), none), k + 1)
/-- of a cast -/
def csT (t : Nat → Int) (T : TK) : Int := if nmP' t T 72 then 8 else if nmP' t T 73 then 16 else if nmP' t T 74 then 32 else -1
/-- what stands behind REG = -/
def pVal (t : Nat → Int) (T : Nat → TK) (r : Int) (k : Nat) : Int ⊕ (SR × Nat) :=
  if 0 ≤ rgR t (T k) then (bS (pRgt t T (wOf r) k) fun q => .inr (((iOr (iOr 176 (bOf r)) 8, iAnd r 15, q.1, 0, 0), (0, 0, 0), none), q.2))
  else if tK (T k) = 3 then pPln t T r 0 k
  else if sgn T 45 k then (if tK (T (k + 1)) = 2 then (if ¬ rgR t (T (k + 1)) = r then .inl (tB (T (k + 1)) : Int) else .inr (((iOr 128 (bOf r), iAnd r 15, 0, 0, 0), (0, 0, 0), none), k + 2)) else pPln t T r 1 (k + 1))
  else if sgn T 40 k then (if csT t (T (k + 1)) < 0 then .inl (tB (T (k + 1)) : Int) else if ¬ sgn T 41 (k + 2) then .inl (tB (T (k + 2)) : Int) else bS (pRgt t T (wOf r) (k + 3)) fun q => .inr (((iOr 184 (bOf r), iAnd r 15, q.1, csT t (T (k + 1)), 0), (0, 0, 0), none), q.2))
  else if r < 16 ∧ sgn T 42 k then (bS (pPtr t T 1 k) fun q => .inr (((iOr (if q.1.1 < 128 then 97 else 129) (iAnd q.1.1 24), iAnd r 15, q.1.2.1, lI q.1.2.2, 0), (0, 0, 0), none), q.2))
  else if r < 16 ∧ nmP' t (T k) 61 then (bS (pNum T (iL 7) (k + 1)) fun k2 => .inr (((24, iAnd r 15, 1, 0, lI (tV (T (k + 1)))), (0, 0, 1), none), k2))
  else if (orT t (T k)).1 < 0 ∨ ¬ r < 16 then .inl (tB (T k) : Int)
  else if ¬ rgR t (T (k + 1)) = r then .inl (tB (T (k + 1)) : Int)
  else .inr ((((orT t (T k)).1, iAnd r 15, 0, 0, (orT t (T k)).2), (0, 0, 0), none), k + 2)
/-- whether there is an s; the token behind it -/
def sS (t : Nat → Int) (T : Nat → TK) (k : Nat) : Int := if nmP' t (T k) 60 then 1 else 0
def skN (t : Nat → Int) (T : Nat → TK) (k : Nat) : Nat := if nmP' t (T k) 60 then k + 1 else k
def opT (T : TK) : Int := if tK T = 4 then cdT (tkS T) else -1
/-- a statement that begins with a register -/
def pTo (t : Nat → Int) (T : Nat → TK) (k : Nat) : Int ⊕ (SR × Nat) :=
  if sgn T 61 (k + 1) then pVal t T (rgR t (T k)) (k + 2)
  else if opT (T (skN t T (k + 1))) < 0 ∨ (¬ sS t T (k + 1) = 0 ∧ ¬ (opT (T (skN t T (k + 1))) = 48 ∨ opT (T (skN t T (k + 1))) = 144 ∨ opT (T (skN t T (k + 1))) = 112)) then .inl (tB (T (skN t T (k + 1))) : Int)
  else bS (pSid t T (wOf (rgR t (T k))) (skN t T (k + 1) + 1)) fun q => .inr (((iOr (iOr (if ¬ sS t T (k + 1) = 0 ∧ opT (T (skN t T (k + 1))) = 112 then 192 else opT (T (skN t T (k + 1)))) (bOf (rgR t (T k)))) q.1.1, iAnd (rgR t (T k)) 15, q.1.2.1, (if ¬ sS t T (k + 1) = 0 ∧ ¬ opT (T (skN t T (k + 1))) = 112 then 1 else 0), lI q.1.2.2), (0, 0, 0), none), q.2)
/-- PTR = REG or CONST -/
def pMem (t : Nat → Int) (T : Nat → TK) (k : Nat) : Int ⊕ (SR × Nat) := bS (pPtr t T 0 k) fun q => if ¬ sgn T 61 q.2 then .inl (tB (T q.2) : Int) else if tK (T (q.2 + 1)) = 2 then (bS (pRgt t T 0 (q.2 + 1)) fun u => .inr (((iOr 99 (iAnd q.1.1 24), q.1.2.1, u.1, lI q.1.2.2, 0), (0, 0, 0), none), u.2)) else (bS (pCst T (q.2 + 1)) fun u => .inr (((iOr 98 (iAnd q.1.1 24), q.1.2.1, 0, lI q.1.2.2, lI u.1), (0, 0, 0), none), u.2))
/-- lock, fetch (x: 1 more), xchg, cmpxchg -/
def pAtm (t : Nat → Int) (T : Nat → TK) (g : Prop) (d : Decidable g) (x : Int) (k : Nat) : Int ⊕ (SR × Nat) := bS (pPtr t T 0 (k + 1)) fun q => if g then (if ¬ (opT (T q.2) = 0 ∨ opT (T q.2) = 64 ∨ opT (T q.2) = 80 ∨ opT (T q.2) = 160) then .inl (tB (T q.2) : Int) else bS (pRgt t T 0 (q.2 + 1)) fun u => .inr (((iOr 195 (iAnd q.1.1 24), q.1.2.1, u.1, lI q.1.2.2, opT (T q.2) + x), (0, 0, 0), none), u.2)) else (bS (pRgt t T 0 q.2) fun u => .inr (((iOr 195 (iAnd q.1.1 24), q.1.2.1, u.1, lI q.1.2.2, x), (0, 0, 0), none), u.2))
def cmT' (T : TK) (g : Int) : Int := if tK T = 4 then cpT (tkS T) g else -1
/-- if REG CMP REG|CONST goto WHERE (behind if) -/
def pIf (t : Nat → Int) (T : Nat → TK) (k : Nat) : Int ⊕ (SR × Nat) :=
  if rgR t (T k) < 0 then .inl (tB (T k) : Int)
  else if cmT' (T (skN t T (k + 1))) (sS t T (k + 1)) < 0 then .inl (tB (T (skN t T (k + 1))) : Int)
  else bS (pSid t T (wOf (rgR t (T k))) (skN t T (k + 1) + 1)) fun q => if ¬ nmP' t (T q.2) 52 then .inl (tB (T q.2) : Int) else bS (pWh t T (iL 32767) (q.2 + 1)) fun u => .inr (((iOr (iOr (cmT' (T (skN t T (k + 1))) (sS t T (k + 1))) (if rgR t (T k) < 16 then 5 else 6)) q.1.1, iAnd (rgR t (T k)) 15, q.1.2.1, lI u.1.2, lI q.1.2.2), (0, 0, 0), u.1.1), u.2)
/-- goto, gotol, call -/
def pGo (t : Nat → Int) (T : Nat → TK) (k : Nat) : Int ⊕ (SR × Nat) := bS (pWh t T (iL 32767) k) fun u => .inr (((5, 0, 0, lI u.1.2, 0), (0, 0, 0), u.1.1), u.2)
def pGol (t : Nat → Int) (T : Nat → TK) (k : Nat) : Int ⊕ (SR × Nat) := bS (pWh t T (iL 2147483647) k) fun u => .inr (((6, 0, 0, 0, lI u.1.2), (0, 0, 0), u.1.1), u.2)
def pCal (t : Nat → Int) (T : Nat → TK) (k : Nat) : Int ⊕ (SR × Nat) := if tK (T k) = 3 then (bS (pNum T (iL 2147483647) k) fun k2 => .inr (((133, 0, 0, 0, lI (tV (T k))), (0, 0, 0), none), k2)) else (bS (pWh t T (iL 2147483647) k) fun u => .inr (((133, 0, 1, 0, lI u.1.2), (0, 0, 0), u.1.1), u.2))
/-- a statement -/
def pStm (t : Nat → Int) (T : Nat → TK) (k : Nat) : Int ⊕ (SR × Nat) :=
  if 0 ≤ rgR t (T k) then pTo t T k
  else if sgn T 42 k then pMem t T k
  else if nmP' t (T k) 51 then pIf t T (k + 1)
  else if nmP' t (T k) 52 then pGo t T (k + 1)
  else if nmP' t (T k) 53 then pGol t T (k + 1)
  else if nmP' t (T k) 54 then pCal t T (k + 1)
  else if nmP' t (T k) 17 then .inr (((149, 0, 0, 0, 0), (0, 0, 0), none), k + 1)
  else if nmP' t (T k) 55 then (bS (pNum T (iL (-1)) (k + 1)) fun k2 => .inr (((0, 0, 0, 0, 0), (1, tV (T (k + 1)), 0), none), k2))
  else if nmP' t (T k) 56 then pAtm t T True inferInstance 0 k
  else if nmP' t (T k) 57 then pAtm t T True inferInstance 1 k
  else if nmP' t (T k) 58 then pAtm t T False inferInstance 225 k
  else if nmP' t (T k) 59 then pAtm t T False inferInstance 241 k
  else .inl (tB (T k) : Int)
section PPA
variable {t : Nat → Int} {T : Nat → TK} {k j : Nat} {X : TK}
theorem rgR_r : rgR t X = -1 ∨ (0 ≤ rgR t X ∧ rgR t X ≤ 10) ∨ (16 ≤ rgR t X ∧ rgR t X ≤ 26) := by
  unfold rgR
  split
  · exact Or.inl rfl
  · split
    · exact Or.inl rfl
    · split
      · exact Or.inl rfl
      · split
        · split
          · rename_i d
            have := d.1
            have := d.2
            split
            · exact Or.inr (Or.inr (by omega))
            · exact Or.inr (Or.inl (by omega))
          · exact Or.inl rfl
        · split
          · split
            · exact Or.inr (Or.inr (by omega))
            · exact Or.inr (Or.inl (by omega))
          · exact Or.inl rfl
theorem rgR_n (h : ¬ rgR t X = -1) : tK X = 2 := by
  refine Classical.byContradiction fun c => h ?_
  unfold rgR
  rw [if_pos c]
theorem nm_k {L : List Nat} (h : nmB t X L = true) : tK X = 2 := by
  unfold nmB at h
  exact of_decide_eq_true (Bool.and_eq_true_iff.mp h).1
end PPA
