/-! ===== the rest of the reference's machine: maps, packet, records, trace ===== -/
/-- ints by (cell, place), as the reference has them; chances; all steps -/
abbrev WR : Type := (Nat → Nat → Int) × B64 × B64
abbrev wg (w : WR) (k s : Nat) : Int := w.1 k s
def wset (w : WR) (k s : Nat) (x : Int) : WR := (u2 w.1 k s x, w.2)
/-- places from s on of a cell: those of a list -/
def wsL (w : WR) (k s : Nat) (l : List Int) : WR := (fun k' s' => if k' = k ∧ s ≤ s' ∧ s' < s + l.length then l.getD (s' - s) 0 else w.1 k' s', w.2)
/-- places from a on to below b: those that stand d behind -/
def wmv (w : WR) (k a b d : Nat) : WR := (fun k' s' => if k' = k ∧ a ≤ s' ∧ s' < b then w.1 k (s' + d) else w.1 k' s', w.2)
theorem wg_wset (w : WR) (k s : Nat) (x : Int) (k' s' : Nat) : wg (wset w k s x) k' s' = if k' = k ∧ s' = s then x else wg w k' s' := rfl
theorem wg_wsL_o {w : WR} {k s : Nat} {l : List Int} {k' s' : Nat} (h : ¬ k' = k) : wg (wsL w k s l) k' s' = wg w k' s' := if_neg fun q => h q.1
theorem wg_wmv_o {w : WR} {k a b d k' s' : Nat} (h : ¬ k' = k) : wg (wmv w k a b d) k' s' = wg w k' s' := if_neg fun q => h q.1
theorem wg_wset_o {w : WR} {k s : Nat} {x : Int} {k' s' : Nat} (h : ¬ k' = k) : wg (wset w k s x) k' s' = wg w k' s' := if_neg fun q => h q.1
def byW (x : Int) : B64 := BitVec.ofInt 64 (x % 256)
/-- a byte as it is kept -/
def kpW (b : B64) : Int := w8 b.toInt
def RB : WB WR :=
  (fun w => min (wg w 80 105).toNat 256,
   fun w o b => byW (if o ≤ 271 then wg w 100 (64 * (o - 16) + b) else if o = 280 then wg w 144 b else wg w 149 (64 * (o - 300) + b)),
   fun w o b v => if o ≤ 271 then wset w 100 (64 * (o - 16) + b) (kpW v) else if o = 280 then wset w 144 b (kpW v) else wset w 149 (64 * (o - 300) + b) (kpW v),
   fun w i => decide (¬ wg w 152 i = 0),
   fun w i => wg w 150 i)
/-- the entry of a key -/
def entR (w : WR) (m : Nat) (key : List Int) : Option Nat := (List.range (wg w 101 m).toNat).find? fun e => (List.range (wg w 97 m).toNat).all fun k => decide (wg w 102 (256 * m + 16 * e + k) = key.getD k 0)
def idxR (key : List Int) : Nat := (key.getD 0 0 % 256 + key.getD 1 0 % 256 * 256 + key.getD 2 0 % 256 * 65536 + key.getD 3 0 % 256 * 16777216).toNat
/-- the cell of a key -/
def finR (w : WR) (m : Nat) (key : List Int) : Option Nat := if wg w 96 m = 0 then (if (idxR key : Int) < wg w 99 m then some (idxR key) else none) else (entR w m key).map fun e => (wg w 103 (16 * m + e)).toNat
def freR (w : WR) (m : Nat) : Option Nat := (List.range 32).find? fun c => decide (wg w 104 (32 * m + c) = 0)
def putR (w : WR) (m c : Nat) (val : List Int) : WR := wsL w 100 ((32 * m + c) * 64) (val.take (wg w 98 m).toNat)
/-- an UPDATE -/
def updR (w : WR) (m : Nat) (key val : List Int) (f : Int) : WR × Int :=
  if f < 0 ∨ 2 < f then (w, -22)
  else match finR w m key with
    | some c => if f = 1 then (w, -17) else (putR w m c val, 0)
    | none =>
      if wg w 96 m = 0 then (w, -7)
      else if f = 2 then (w, -2)
      else if wg w 101 m = wg w 99 m then (w, -7)
      else match freR w m with
        | none => (w, -12)
        | some c => (putR (wset (wset (wsL (wset w 104 (32 * m + c) 1) 102 (256 * m + 16 * (wg w 101 m).toNat) (key.take (wg w 97 m).toNat)) 103 (16 * m + (wg w 101 m).toNat) c) 101 m (wg w 101 m + 1)) m c val, 0)
/-- a REMOVE, while a run goes (r: 1) or not (0) -/
def remR (w : WR) (m : Nat) (key : List Int) (r : Int) : WR × Int :=
  if wg w 96 m = 0 then (w, -22)
  else match entR w m key with
    | none => (w, -2)
    | some e =>
      let c := 32 * m + (wg w 103 (16 * m + e)).toNat
      let n := (wg w 101 m - 1).toNat
      (wmv (wmv (wset (wset (wset w 104 c r) 105 c r) 101 m (wg w 101 m - 1)) 103 (16 * m + e) (16 * m + n) 1) 102 (256 * m + 16 * e) (256 * m + 16 * n) 16, 0)
def traR (w : WR) : List Int → WR
  | [] => w
  | b :: t => traR (if wg w 80 113 < 2000 then wset (wset w 145 (wg w 80 113).toNat b) 80 113 (wg w 80 113 + 1) else w) t
def chaX (x : B64) : B64 := x * 6364136223846793005#64 + 1442695040888963407#64
def taiR (w : WR) (m : Nat) (x : B64) : Option WR :=
  if ¬ (x.toNat : Int) < wg w 99 m then none
  else if wg w 106 (16 * m + x.toNat) < 0 ∨ wg w 85 (wg w 106 (16 * m + x.toNat)).toNat = 0 ∨ wg w 80 110 = 8 then none
  else some (wset (wset w 80 110 (wg w 80 110 + 1)) 80 122 (wg w 106 (16 * m + x.toNat)))
def pktR (w : WR) (x : B64) (n : Nat) : List B64 × B64 :=
  if (x.toNat : Int) + n ≤ wg w 80 105 then ((List.range n).map fun i => byW (wg w 144 (x.toNat + i)), 0#64) else (List.replicate n 0#64, BitVec.ofInt 64 (-14))
def triR (w : WR) (x : B64) : WR × B64 :=
  let by_ := lI x
  let p := wg w 80 105
  if p < by_ ∨ by_ < 0 ∧ 256 < p - by_ then (w, BitVec.ofInt 64 (-22))
  else (wset (fun k s => if k = 144 ∧ (s : Int) < p - by_ then (if 0 ≤ (s : Int) + by_ then w.1 144 ((s : Int) + by_).toNat else 0) else w.1 k s, w.2) 80 105 (p - by_), 0#64)
/-- the records of a map that are held -/
def hldR (w : WR) (m : Nat) : Nat := ((List.range 64).filter fun i => decide (¬ wg w 152 i = 0 ∧ wg w 151 i = m)).length
def recR (w : WR) (m n : Int) : WR × Option Nat :=
  if wg w 99 m.toNat ≤ wg w 107 m.toNat + hldR w m.toNat then (w, none)
  else match (List.range 64).find? fun i => decide (wg w 152 i = 0) with
    | none => (w, none)
    | some i => (wsL (wset (wset (wset w 152 i 1) 151 i m) 150 i n) 149 (64 * i) (List.replicate 64 0), some i)
def givR (w : WR) (i : Nat) (fin : Bool) : WR :=
  let v := wset w 152 i 0
  if fin = false then v
  else
    let m := (wg w 151 i).toNat
    let k := (wg w 107 m).toNat
    wset (wsL (wset v 108 (16 * m + k) (wg w 150 i)) 109 (1024 * m + 64 * k) ((List.range (wg w 150 i).toNat).map fun j => wg w 149 (64 * i + j))) 107 m (wg w 107 m + 1)
def RH : WH WR :=
  (fun w i => BitVec.ofInt 64 ((if i = 8 then wg w 80 105 else if i = 12 then wg w 80 106 else wg w 80 107) % 4294967296),
   fun w x => wset w 80 106 (lI x),
   fun w m k => (finR w m.toNat (k.map kpW)).filter fun j => decide (j < 32),
   fun w m k v f => ((updR w m.toNat (k.map kpW) (v.map kpW) f.toInt).1, BitVec.ofInt 64 (updR w m.toNat (k.map kpW) (v.map kpW) f.toInt).2),
   fun w m k => ((remR w m.toNat (k.map kpW) 1).1, BitVec.ofInt 64 (remR w m.toNat (k.map kpW) 1).2),
   fun w => w.2.2,
   fun w l => traR w (l.map kpW),
   fun w => ((w.1, chaX w.2.1, w.2.2), chaX w.2.1 >>> 32),
   fun w m x => taiR w m.toNat x,
   fun w x n => pktR w x n,
   fun w x => triR w x,
   fun w m n => recR w m n,
   fun w i b => givR w i b)
/-- each step is counted -/
def RT (w : WR) : WR := (w.1, w.2.1, w.2.2 + 1#64)
/-- what helps: the packet's size, which records are held, their sizes -/
def sm3 (w v : WR) : Prop := (∀ k s, k = 80 → s = 105 → wg v k s = wg w k s) ∧ (∀ s, wg v 152 s = wg w 152 s) ∧ ∀ s, wg v 150 s = wg w 150 s
theorem sm3_B {w v : WR} (h : sm3 w v) : RB.1 v = RB.1 w ∧ RB.2.2.2.1 v = RB.2.2.2.1 w ∧ RB.2.2.2.2 v = RB.2.2.2.2 w := by
  refine ⟨?_, ?_, ?_⟩
  · show min (wg v 80 105).toNat 256 = min (wg w 80 105).toNat 256
    rw [h.1 80 105 rfl rfl]
  · funext i
    show decide (¬ wg v 152 i = 0) = decide (¬ wg w 152 i = 0)
    rw [h.2.1 i]
  · funext i
    exact h.2.2 i
theorem sm3_r (w : WR) : sm3 w w := ⟨fun _ _ _ _ => rfl, fun _ => rfl, fun _ => rfl⟩
theorem sm3_t {a b c : WR} (h1 : sm3 a b) (h2 : sm3 b c) : sm3 a c := ⟨fun k s e1 e2 => (h2.1 k s e1 e2).trans (h1.1 k s e1 e2), fun s => (h2.2.1 s).trans (h1.2.1 s), fun s => (h2.2.2 s).trans (h1.2.2 s)⟩
theorem sm3_set {w : WR} {k s : Nat} {x : Int} (h : ¬ k = 152 ∧ ¬ k = 150 ∧ ¬ (k = 80 ∧ s = 105)) : sm3 w (wset w k s x) := by
  refine ⟨fun k' s' e1 e2 => ?_, fun s' => ?_, fun s' => ?_⟩
  · rw [wg_wset, if_neg (by omega)]
  · rw [wg_wset, if_neg (by omega)]
  · rw [wg_wset, if_neg (by omega)]
theorem sm3_L {w : WR} {k s : Nat} {l : List Int} (h : ¬ k = 152 ∧ ¬ k = 150 ∧ ¬ k = 80) : sm3 w (wsL w k s l) :=
  ⟨fun k' s' e1 e2 => wg_wsL_o (by omega), fun s' => wg_wsL_o (by omega), fun s' => wg_wsL_o (by omega)⟩
theorem sm3_mv {w : WR} {k a b d : Nat} (h : ¬ k = 152 ∧ ¬ k = 150 ∧ ¬ k = 80) : sm3 w (wmv w k a b d) :=
  ⟨fun k' s' e1 e2 => wg_wmv_o (by omega), fun s' => wg_wmv_o (by omega), fun s' => wg_wmv_o (by omega)⟩
theorem sm3_tra : ∀ (l : List Int) (w : WR), sm3 w (traR w l) := by
  intro l
  induction l with
  | nil => intro w; exact sm3_r w
  | cons b l ih =>
    intro w
    unfold traR
    refine sm3_t ?_ (ih _)
    split
    · exact sm3_t (sm3_set (by omega)) (sm3_set (by omega))
    · exact sm3_r w
theorem sm3_upd (w : WR) (m : Nat) (k v : List Int) (f : Int) : sm3 w (updR w m k v f).1 := by
  have p : ∀ (u : WR) (c : Nat), sm3 u (putR u m c v) := fun u c => sm3_L (by decide)
  unfold updR
  split
  · exact sm3_r w
  · split
    · split
      · exact sm3_r w
      · exact p _ _
    · split
      · exact sm3_r w
      · split
        · exact sm3_r w
        · split
          · exact sm3_r w
          · split
            · exact sm3_r w
            · exact sm3_t (sm3_t (sm3_t (sm3_t (sm3_set (by omega)) (sm3_L (by decide))) (sm3_set (by omega))) (sm3_set (by omega))) (p _ _)
theorem sm3_rem (w : WR) (m : Nat) (k : List Int) (r : Int) : sm3 w (remR w m k r).1 := by
  unfold remR
  split
  · exact sm3_r w
  · split
    · exact sm3_r w
    · exact sm3_t (sm3_t (sm3_t (sm3_t (sm3_set (by omega)) (sm3_set (by omega))) (sm3_set (by omega))) (sm3_mv (by omega))) (sm3_mv (by omega))
theorem ofI_lt {x : Int} {n : Nat} (h0 : 0 ≤ x) (h1 : x < n) (hn : n ≤ 18446744073709551616) : (BitVec.ofInt 64 x).toNat < n := by
  rw [BitVec.toNat_ofInt]
  omega
theorem byW_lt (x : Int) : (byW x).toNat < 256 := ofI_lt (n := 256) (Int.emod_nonneg _ (by decide)) (Int.emod_lt_of_pos _ (by decide)) (by decide)
theorem RB_ok : okB RB := by
  refine ⟨fun w o b v => ?_, fun w o b => byW_lt _, fun w => Nat.min_le_right _ _⟩
  refine sm3_B ?_
  show sm3 w (if o ≤ 271 then _ else if o = 280 then _ else _)
  split
  · exact sm3_set (by omega)
  · split
    · exact sm3_set (by omega)
    · exact sm3_set (by omega)
theorem RH_ok : okH RB RH := by
  refine ⟨fun w i => ?_, fun w x => sm3_B (sm3_set (by omega)), fun w m k j h => ?_, fun w m k v f => sm3_B (sm3_upd _ _ _ _ _), fun w m k => sm3_B (sm3_rem _ _ _ _), fun w l => sm3_B (sm3_tra _ _), fun w => ⟨⟨rfl, rfl, rfl⟩, ?_⟩, fun w m x v h => ?_, fun w x n => ?_, fun w x => ?_, fun w m n => ?_, fun w i b => ?_⟩
  · exact ofI_lt (n := 4294967296) (Int.emod_nonneg _ (by decide)) (Int.emod_lt_of_pos _ (by decide)) (by decide)
  · have := (Option.filter_eq_some_iff.mp h).2
    simpa using this
  · show (chaX w.2.1 >>> 32).toNat < 4294967296
    have := (chaX w.2.1).isLt
    rw [BitVec.toNat_ushiftRight, Nat.shiftRight_eq_div_pow]
    omega
  · have h : taiR w m.toNat x = some v := h
    unfold taiR at h
    split at h
    · cases h
    · split at h
      · cases h
      · cases h
        exact (sm3_B (sm3_t (sm3_set (by omega)) (sm3_set (by omega)))).2.1
  · show (pktR w x n).1.length = n ∧ ∀ y ∈ (pktR w x n).1, y.toNat < 256
    unfold pktR
    split
    · refine ⟨by rw [List.length_map, List.length_range], fun y hy => ?_⟩
      obtain ⟨i, _, rfl⟩ := List.mem_map.mp hy
      exact byW_lt _
    · refine ⟨List.length_replicate .., fun y hy => ?_⟩
      have : y = 0#64 := List.eq_of_mem_replicate hy
      rw [this]
      decide
  · show RB.2.2.2.1 (triR w x).1 = RB.2.2.2.1 w ∧ RB.2.2.2.2 (triR w x).1 = RB.2.2.2.2 w
    unfold triR
    simp only
    split
    · exact ⟨rfl, rfl⟩
    · exact ⟨rfl, rfl⟩
  · show RB.1 (recR w m n).1 = RB.1 w ∧ ((recR w m n).2 = none → RB.2.2.2.1 (recR w m n).1 = RB.2.2.2.1 w ∧ RB.2.2.2.2 (recR w m n).1 = RB.2.2.2.2 w) ∧ ∀ i, (recR w m n).2 = some i → i < 64 ∧ RB.2.2.2.1 w i = false ∧ (∀ j, j < 64 → (RB.2.2.2.1 (recR w m n).1 j = true ↔ (j = i ∨ RB.2.2.2.1 w j = true))) ∧ RB.2.2.2.2 (recR w m n).1 i = n ∧ ∀ j, ¬ j = i → RB.2.2.2.2 (recR w m n).1 j = RB.2.2.2.2 w j
    unfold recR
    split
    · exact ⟨rfl, fun _ => ⟨rfl, rfl⟩, fun i h => (by cases h)⟩
    · split
      · exact ⟨rfl, fun _ => ⟨rfl, rfl⟩, fun i h => (by cases h)⟩
      · rename_i i hi
        have li := List.mem_range.mp (List.mem_of_find?_eq_some hi)
        have zi : wg w 152 i = 0 := by simpa using List.find?_some hi
        refine ⟨rfl, fun h => (by cases h), fun i' h => ?_⟩
        cases h
        refine ⟨li, ?_, fun j hj => ?_, ?_, fun j hj => ?_⟩
        · show decide (¬ wg w 152 i = 0) = false
          exact decide_eq_false (not_not_intro zi)
        · show decide (¬ wg (wsL (wset (wset (wset w 152 i 1) 151 i m) 150 i n) 149 (64 * i) (List.replicate 64 0)) 152 j = 0) = true ↔ (j = i ∨ decide (¬ wg w 152 j = 0) = true)
          rw [wg_wsL_o (by decide), wg_wset_o (by decide), wg_wset_o (by decide), wg_wset]
          by_cases e : j = i
          · rw [if_pos ⟨rfl, e⟩]
            simp [e]
          · rw [if_neg (fun q => e q.2)]
            simp [e]
        · show wg (wsL (wset (wset (wset w 152 i 1) 151 i m) 150 i n) 149 (64 * i) (List.replicate 64 0)) 150 i = n
          rw [wg_wsL_o (by decide), wg_wset, if_pos ⟨rfl, rfl⟩]
        · show wg (wsL (wset (wset (wset w 152 i 1) 151 i m) 150 i n) 149 (64 * i) (List.replicate 64 0)) 150 j = wg w 150 j
          rw [wg_wsL_o (by decide), wg_wset, if_neg (fun q => hj q.2), wg_wset_o (by decide), wg_wset_o (by decide)]
  · have key : sm3 (wset w 152 i 0) (givR w i b) := by
      unfold givR
      simp only
      split
      · exact sm3_r _
      · exact sm3_t (sm3_t (sm3_set (by omega)) (sm3_L (by omega))) (sm3_set (by omega))
    have kB := sm3_B key
    refine ⟨kB.1.trans rfl, kB.2.2.trans rfl, fun j hj => ?_⟩
    show RB.2.2.2.1 (givR w i b) j = true ↔ _
    rw [kB.2.1]
    show decide (¬ wg (wset w 152 i 0) 152 j = 0) = true ↔ (¬ j = i ∧ decide (¬ wg w 152 j = 0) = true)
    rw [wg_wset]
    by_cases e : j = i
    · rw [if_pos ⟨rfl, e⟩]
      simp [e]
    · rw [if_neg (fun q => e q.2)]
      simp [e]
theorem RT_ok : okT RB RT := fun _ => ⟨rfl, rfl, rfl⟩
