/-! ===== what the start says of the texts ===== -/
def stOI : List (Nat × Nat) := [(3, 82), (3, 91), (3, 93), (3, 95), (3, 113), (3, 119), (3, 124), (3, 126), (3, 128), (3, 130), (3, 132), (3, 134), (3, 140), (3, 142), (3, 144), (3, 146), (3, 148), (3, 150), (3, 152), (3, 157), (3, 162), (3, 171), (3, 173), (3, 175), (3, 177), (3, 179), (3, 181), (3, 183), (3, 185), (3, 187), (3, 189), (3, 191), (3, 193), (3, 195), (3, 197), (3, 199), (3, 201), (3, 203), (3, 205), (3, 207), (3, 213), (3, 215), (3, 217), (3, 219), (3, 221), (3, 223), (3, 225), (3, 227), (3, 229), (5, 115), (5, 121), (5, 200), (5, 205), (5, 212), (5, 219), (5, 228), (5, 234), (5, 240), (5, 242), (5, 244), (5, 256), (5, 302), (5, 309), (5, 311), (5, 313), (5, 315), (5, 317), (5, 319), (5, 321), (5, 323), (5, 325), (5, 327), (5, 333), (5, 335), (5, 337), (5, 350), (5, 352), (5, 354), (5, 356), (9, 424), (9, 426), (9, 428), (9, 430), (9, 432), (9, 434), (9, 436), (9, 438), (9, 440), (11, 594), (11, 596), (11, 598), (11, 600), (11, 687), (11, 689), (11, 691), (11, 693), (11, 695), (11, 697), (11, 699), (11, 701), (11, 703), (11, 705), (11, 707), (11, 709), (11, 711), (11, 713), (11, 715), (11, 717), (11, 719), (11, 721), (11, 723), (11, 725), (11, 727), (11, 729), (11, 731), (11, 733), (11, 735)]
def sgTS : List (Nat × Nat) := [(9, 49), (0, 50), (0, 71), (0, 72), (0, 73), (0, 74), (0, 75), (0, 76), (0, 77), (0, 78), (0, 61), (0, 62), (0, 63), (0, 64), (0, 65), (0, 66), (0, 67), (0, 68), (0, 69), (0, 70), (0, 60), (0, 51), (0, 52), (0, 53), (0, 54), (8, 55), (0, 56), (0, 57), (0, 58), (0, 59), (0, 2), (0, 4), (0, 5), (0, 6), (0, 7), (0, 8), (0, 9), (0, 10), (0, 11), (0, 12), (0, 13), (0, 14), (0, 15), (0, 16), (0, 17), (1, 18), (0, 19), (0, 22), (0, 20), (0, 23), (0, 24), (0, 25), (0, 26), (0, 27), (0, 28), (0, 29), (0, 30), (0, 31), (0, 32), (0, 33), (0, 21), (0, 34), (0, 35), (0, 36), (0, 37), (0, 38), (0, 39), (0, 40), (0, 41), (0, 42), (0, 43), (0, 44), (0, 45), (0, 46), (0, 47), (0, 48), (0, 1), (0, 3), (0, 0), (0, 79), (0, 80), (0, 81), (0, 82), (0, 83), (0, 84), (0, 85), (0, 86), (0, 87), (359, 92), (0, 93), (0, 94), (0, 95), (0, 96), (0, 97), (0, 98), (0, 99), (0, 100), (0, 101), (0, 102), (0, 103), (0, 104), (0, 105), (39, 106), (0, 107), (0, 108), (0, 109), (0, 110), (0, 111), (0, 112), (0, 113), (0, 114), (0, 115), (0, 116), (18, 88), (0, 89), (0, 90), (0, 91)]
def soT : List (Nat × (Nat × Nat × Nat × Bool)) := [(393, 5, 224, 17, true), (379, 11, 405, 51, false), (8, 11, 411, 52, false), (9, 11, 413, 53, false), (8, 11, 415, 54, false), (9, 11, 417, 17, false), (8, 11, 419, 55, false), (8, 11, 421, 56, false), (9, 11, 423, 57, false), (8, 11, 425, 58, false), (11, 11, 427, 59, false), (6, 11, 559, 71, false), (6, 11, 509, 72, false), (7, 11, 511, 73, false), (7, 11, 513, 74, false), (6, 11, 565, 75, false), (7, 11, 567, 76, false), (7, 11, 569, 77, false), (7, 11, 571, 78, false), (7, 11, 533, 61, false), (8, 11, 541, 62, false), (8, 11, 543, 65, false), (8, 11, 545, 68, false), (8, 11, 547, 63, false), (8, 11, 549, 66, false), (8, 11, 551, 69, false), (11, 11, 553, 64, false), (11, 11, 555, 67, false), (11, 11, 557, 70, false), (5, 11, 497, 60, false), (11, 11, 623, 0, false), (11, 11, 632, 1, false), (7, 11, 634, 2, false), (7, 11, 636, 3, false), (9, 11, 671, 34, false), (9, 11, 673, 35, false), (12, 11, 675, 36, false), (9, 11, 677, 37, false), (9, 11, 679, 38, false), (6, 11, 681, 39, false), (98, 11, 737, 18, false), (10, 11, 739, 19, false), (9, 11, 744, 22, false), (7, 11, 746, 20, false), (75, 11, 751, 21, false), (6, 11, 602, 4, false), (46, 11, 616, 6, false), (7, 11, 618, 7, false), (9, 11, 655, 8, false), (12, 11, 657, 9, false), (10, 11, 659, 10, false), (9, 11, 661, 11, false), (8, 11, 663, 12, false), (8, 11, 665, 13, false), (8, 11, 667, 14, false), (8, 11, 669, 15, false)]
def stTm (i : Nat) : Jvm.Term := .string (owS (stOI.getD i (0, 0)).1) (stOI.getD i (0, 0)).2
def stFS (i k : Nat) : Jvm.Cond := match k with
  | 0 => .exactly (stTm i) "java/lang/String"
  | 1 => .eq (.field (stTm i) "java/lang/String" "coder" "B") (.int 0)
  | 2 => .arrayOf (.field (stTm i) "java/lang/String" "value" "[B") .byte
  | 3 => .eq (.length (.field (stTm i) "java/lang/String" "value" "[B")) (.int (Int32.ofNat (stLn.getD i 0)))
  | j + 4 => .eq (.elem (.field (stTm i) "java/lang/String" "value" "[B") (.int (Int32.ofNat j))) (.int ((stBy.getD i []).getD j 0))
def eqS (f : Nat → Jvm.Cond) : Nat → Nat → List Jvm.Cond → Bool
  | _, 0, _ => true
  | _, _ + 1, [] => false
  | k, n + 1, w :: l => decide (w = f k) && eqS f (k + 1) n l
theorem eqS_mem {f : Nat → Jvm.Cond} : ∀ (n k : Nat) (l : List Jvm.Cond), eqS f k n l = true → ∀ j, j < n → f (k + j) ∈ l
  | 0, _, _, _, _, hj => absurd hj (by omega)
  | n + 1, k, [], h, _, _ => by cases h
  | n + 1, k, w :: l, h, j, hj => by
    rw [eqS, Bool.and_eq_true, decide_eq_true_eq] at h
    cases j with
    | zero => rw [h.1]; exact List.mem_cons_self
    | succ j =>
      have := eqS_mem n (k + 1) l h.2 j (by omega)
      rw [show k + (j + 1) = k + 1 + j by omega]
      exact List.mem_cons_of_mem _ this
def gapS : List Jvm.Cond → List (Nat × Nat) → Bool
  | _, [] => true
  | l, q :: t => eqS (stFS q.2) 0 (4 + stLn.getD q.2 0) (l.drop q.1) && gapS (l.drop (q.1 + (4 + stLn.getD q.2 0))) t
theorem gapS_mem : ∀ (t : List (Nat × Nat)) (l : List Jvm.Cond), gapS l t = true → ∀ q ∈ t, ∀ k, k < 4 + stLn.getD q.2 0 → stFS q.2 k ∈ l
  | [], _, _, _, hq => by cases hq
  | x :: t, l, h, q, hq => by
    rw [gapS, Bool.and_eq_true] at h
    intro k hk
    rcases List.mem_cons.mp hq with e | e
    · subst e
      have := eqS_mem _ 0 _ h.1 k hk
      rw [Nat.zero_add] at this
      exact List.mem_of_mem_drop this
    · exact List.mem_of_mem_drop (gapS_mem t _ h.2 q e k hk)
abbrev stFl : List Jvm.Cond := flatC (Jvm.Cond.and given_1 narrow_1)
set_option maxRecDepth 100000 in
theorem sg_ok : gapS stFl sgTS = true := by decide +kernel
theorem sg_cov : (List.range stN).all (fun i => (sgTS.map (·.2)).contains i) = true := by decide +kernel
theorem sg_all {i : Nat} (hi : i < stN) : ∀ k, k < 4 + stLn.getD i 0 → stFS i k ∈ stFl := by
  have h := List.all_eq_true.mp sg_cov i (List.mem_range.mpr hi)
  obtain ⟨q, hq, e⟩ := List.mem_map.mp (List.contains_iff_mem.mp h)
  subst e
  exact gapS_mem sgTS stFl sg_ok q hq
theorem sl_all : (List.range stN).all (fun i => decide (stLn.getD i 0 < 100)) = true := by decide +kernel
theorem sl_lt {i : Nat} (hi : i < stN) : stLn.getD i 0 < 100 := of_decide_eq_true (List.all_eq_true.mp sl_all i (List.mem_range.mpr hi))
def stCS (A : Nat → Prop) (U : State) (H : Heap) (i k v : Nat) : Prop := va_O "java/lang/String" k A U H ∧ va_OF "java/lang/String" "coder" "B" (.int 0) k A U H ∧ va_OF "java/lang/String" "value" "[B" (.ref v) k A U H ∧ va_T .byte v (stLn.getD i 0) (fun j => .int ((stBy.getD i []).getD j 0)) A U H
theorem st_cell {args : Array Value} {s : State} {A : Nat → Prop} (hA : ∀ a : Nat, a < s.heap.size → ¬ A a) (hs : ∀ c ∈ stFl, c.before args s = true) {i : Nat} (hi : i < stN) : ∃ q : Nat × Nat, (stTm i).eval args s none [] s = some (.ref q.1) ∧ stCS A s s.heap i q.1 q.2 := by
  have hc := sg_all hi
  have h0 := hs _ (hc 0 (by omega))
  have h1 := hs _ (hc 1 (by omega))
  have h2 := hs _ (hc 2 (by omega))
  have h3 := hs _ (hc 3 (by omega))
  have h4 : ∀ j, j < stLn.getD i 0 → (stFS i (j + 4)).before args s = true := fun j hj => hs _ (hc (j + 4) (by omega))
  obtain ⟨a, c, cA, kA, q1, q2, q3, q4, q5, q6, -⟩ := Cond.exactly_spec (args := args) (first := s) (o := none) (s := s) (idx := []) (t := stTm i) (cls := "java/lang/String") h0
  obtain ⟨t, ht, hT⟩ := va_Tof (f := fun j => .int ((stBy.getD i []).getD j 0)) (A := A) (Nat.lt_trans (sl_lt hi) (by decide)) h2 (va_eqt h3) (fun j hj => va_eqt (h4 j hj)) hA
  exact ⟨(a, t), q1, ⟨cA, q3, q5, by rw [q6]; exact q2, hA a (Array.getElem?_eq_some_iff.mp q3).1⟩, vk_OFof q1 (va_eqt h1) hA, vk_OFof q1 ht hA, hT⟩
theorem st_ne : (List.range stN).all (fun i => (List.range stN).all fun j => decide (i = j) || !decide (strAt i = strAt j)) = true := by decide +kernel
theorem rI_inj2 {x y : Int} (hx : inR x) (hy : inR y) (h : rI x = rI y) : x = y := by rw [← rI_toInt hx, ← rI_toInt hy, h]
theorem st_inj {A : Nat → Prop} {U : State} {H : Heap} {i j k v w : Nat} (hi : i < stN) (hj : j < stN) (h1 : stCS A U H i k v) (h2 : stCS A U H j k w) : i = j := by
  obtain ⟨-, -, ⟨cf, kf, fi, f, cell, e1, -, e2, -, e3, -⟩, cA, a1, -, -, -, a2, a3, -⟩ := h1
  obtain ⟨-, -, ⟨cf', kf', fi', f', cell', g1, -, g2, -, g3, -⟩, cB, b1, -, -, -, b2, b3, -⟩ := h2
  rw [e1] at g1
  have ef : f' = f := by cases g1; rfl
  rw [e2] at g2
  have ec : cell' = cell := by cases g2; rfl
  subst ef; subst ec
  rw [e3] at g3
  have ev : v = w := by cases g3; rfl
  subst ev
  rw [a1] at b1
  have eb : cB = cA := by cases b1; rfl
  subst eb
  have hl : stLn.getD i 0 = stLn.getD j 0 := by
    have q : Int32.ofNat (stLn.getD i 0) = Int32.ofNat (stLn.getD j 0) := a2.symm.trans b2
    rw [← Int32.ofInt_eq_ofNat, ← Int32.ofInt_eq_ofNat] at q
    have h1 := sl_lt hi
    have h2 := sl_lt hj
    have := rI_inj2 (by unfold inR; omega) (by unfold inR; omega) q
    omega
  have hs : strAt i = strAt j := by
    have l1 := stLn_at i
    have l2 := stLn_at j
    refine List.ext_getElem (by omega) (fun n p1 p2 => ?_)
    have q1 := a3 n (by omega)
    have q2 := b3 n (by omega)
    have q : Value.int ((stBy.getD i []).getD n 0) = .int ((stBy.getD j []).getD n 0) := Option.some.inj (q1.symm.trans q2)
    have q := Value.int.inj q
    rw [stBy_at, stBy_at] at q
    have c1 := st_lt i n
    have c2 := st_lt j n
    have := rI_inj2 (by unfold inR; omega) (by unfold inR; omega) q
    rw [List.getD_eq_getElem?_getD, List.getD_eq_getElem?_getD, List.getElem?_eq_getElem p1, List.getElem?_eq_getElem p2, Option.getD_some, Option.getD_some] at this
    omega
  have h := List.all_eq_true.mp (List.all_eq_true.mp st_ne i (List.mem_range.mpr hi)) j (List.mem_range.mpr hj)
  simp only [Bool.or_eq_true, decide_eq_true_eq, Bool.not_eq_true', decide_eq_false_iff_not] at h
  exact h.resolve_right (fun z => z hs)
theorem va_eqRb {args : Array Value} {s : State} {t u : Jvm.Term} {a : Nat} (h : (Cond.eq t u).before args s = true) (hu : u.eval args s none [] s = some (.ref a)) : t.eval args s none [] s = some (.ref a) := by
  refine va_eqR (t := u) ?_ hu
  cases ht : t.eval args s none [] s with
  | none => simp [Cond.before, Cond.holds, Cond.value, ht, hu] at h
  | some w =>
    simp [Cond.before, Cond.holds, Cond.value, ht, hu] at h ⊢
    cases w <;> simp at h ⊢
    exact h.symm
def soW : (Nat × Nat × Nat × Bool) → Jvm.Cond := fun q => if q.2.2.2 then .eq (.string (owS q.1) q.2.1) (stTm q.2.2.1) else .eq (stTm q.2.2.1) (.string (owS q.1) q.2.1)
set_option maxRecDepth 100000 in
theorem so_ok : gapW soW stFl soT = true := by decide +kernel
theorem so_cov : ksM.all (fun q => decide ((q.1, q.2.1) = stOI.getD q.2.2 (0, 0)) || (soT.map (·.2)).contains (q.1, q.2.1, q.2.2, true) || (soT.map (·.2)).contains (q.1, q.2.1, q.2.2, false)) = true := by decide +kernel
theorem ks_lt : ksM.all (fun q => decide (q.2.2 < stN)) = true := by decide +kernel
theorem st_start {args : Array Value} {s : State} {A : Nat → Prop} (hA : ∀ a : Nat, a < s.heap.size → ¬ A a) (hs : ∀ c ∈ stFl, c.before args s = true) (ht : ∀ w ∈ lw_tbl, w.before args s = true) : ∃ adK adV : Nat → Nat, vk_S stN stLn stBy adK adV A s s.heap ∧ ∀ q ∈ ksM, vk_R (owS q.1) q.2.1 (stT.getD q.2.2 "") (adK q.2.2) s := by
  have h0 : ∀ i : Nat, ∃ q : Nat × Nat, i < stN → (stTm i).eval args s none [] s = some (.ref q.1) ∧ stCS A s s.heap i q.1 q.2 := by
    intro i
    by_cases hi : i < stN
    · obtain ⟨q, hq⟩ := st_cell hA hs hi
      exact ⟨q, fun _ => hq⟩
    · exact ⟨(0, 0), fun h => absurd h hi⟩
  obtain ⟨ad, had⟩ := Classical.axiomOfChoice h0
  refine ⟨fun i => (ad i).1, fun i => (ad i).2, ⟨fun i hi => (had i hi).2, fun i j hi hj e => ?_⟩, fun q hq => ?_⟩
  · have e : (ad i).1 = (ad j).1 := e
    have hj2 := (had j hj).2
    rw [← e] at hj2
    exact st_inj hi hj (had i hi).2 hj2
  · have hlt : q.2.2 < stN := of_decide_eq_true (List.all_eq_true.mp ks_lt q hq)
    have hev := (had q.2.2 hlt).1
    refine vk_R.of (ht _ (ksA hq)) ?_
    have hc := List.all_eq_true.mp so_cov q hq
    simp only [Bool.or_eq_true, decide_eq_true_eq] at hc
    rcases hc with (hc | hc) | hc
    · have e : stTm q.2.2 = .string (owS q.1) q.2.1 := by
        unfold stTm
        rw [← hc]
      rw [e] at hev
      exact hev
    · obtain ⟨x, hx, e⟩ := List.mem_map.mp (List.contains_iff_mem.mp hc)
      have h := hs _ (gapW_mem soW soT stFl so_ok x hx)
      rw [e] at h
      exact va_eqRb h hev
    · obtain ⟨x, hx, e⟩ := List.mem_map.mp (List.contains_iff_mem.mp hc)
      have h := hs _ (gapW_mem soW soT stFl so_ok x hx)
      rw [e] at h
      exact va_eqR h hev

