/-! ===== the machine does what the small machine does: tables of classes ===== -/
def tysL (cA : Nat → Nat) : List (ClassId × FieldType) := [(cA 1, .byte), (cA 2, .boolean), (cA 3, .int), (cA 4, .long), (cA 5, .object "FilterHouse$State"), (cA 6, .array .long), (cA 7, .array .int)]
theorem clA : ∀ c, c < 12 → vwCl[c]? = some (clR c, clT c, clN c)
  | 0, _ => rfl
  | 1, _ => rfl
  | 2, _ => rfl
  | 3, _ => rfl
  | 4, _ => rfl
  | 5, _ => rfl
  | 6, _ => rfl
  | 7, _ => rfl
  | 8, _ => rfl
  | 9, _ => rfl
  | 10, _ => rfl
  | 11, _ => rfl
  | _ + 12, h => absurd h (by omega)
def tyT (c : Nat) : Nat → FieldType := match c with
  | 0 => tyX1
  | 1 => tyX2
  | 2 => tyX3
  | 3 => tyX4
  | 4 => tyX5
  | 5 => tyX6
  | 6 => tyX7
  | 7 => tyX8
  | 8 => tyX9
  | 9 => tyX10
  | 10 => tyX11
  | _ => tyX12
theorem tyA : ∀ c, c < 12 → ∀ k, k < clN c → parseFieldDescriptor ((clT c) k).2.2.1 = some (tyT c k)
  | 0, _ => tyX1_ok
  | 1, _ => tyX2_ok
  | 2, _ => tyX3_ok
  | 3, _ => tyX4_ok
  | 4, _ => tyX5_ok
  | 5, _ => tyX6_ok
  | 6, _ => tyX7_ok
  | 7, _ => tyX8_ok
  | 8, _ => tyX9_ok
  | 9, _ => tyX10_ok
  | 10, _ => tyX11_ok
  | 11, _ => tyX12_ok
  | _ + 12, h => absurd h (by omega)
theorem nmA : ∀ c, c < 12 → ∀ a, a < clN c → ∀ b, b < clN c → a ≠ b → ((clT c) a).2.1 ≠ ((clT c) b).2.1
  | 0, _ => nmX1
  | 1, _ => nmX2
  | 2, _ => nmX3
  | 3, _ => nmX4
  | 4, _ => nmX5
  | 5, _ => nmX6
  | 6, _ => nmX7
  | 7, _ => nmX8
  | 8, _ => nmX9
  | 9, _ => nmX10
  | 10, _ => nmX11
  | 11, _ => nmX12
  | _ + 12, h => absurd h (by omega)
def lyM : List (Nat × Nat) := lyT.map (·.2)
theorem ly_all : (List.range 12).all (fun c => (List.range (clN c)).all fun k => decide ((c, k) ∈ lyM)) = true := by decide +kernel
theorem lyA {c : Nat} (hc : c < 12) : ∀ w ∈ u_ws (clR c) (clT c) (clN c), w ∈ tbG := by
  intro w hw
  obtain ⟨k, hk, rfl⟩ := List.mem_map.mp hw
  have h := List.all_eq_true.mp ly_all c (List.mem_range.mpr hc)
  have h := List.all_eq_true.mp h k hk
  obtain ⟨x, hx, e⟩ := List.mem_map.mp (of_decide_eq_true h)
  have h2 := gapW_mem lyW lyT lw_tbl ly_ok x hx
  rw [e] at h2
  refine tbG_in h2 ?_
  show goodWord (u_lay (clR c) (clT c) k) = true
  unfold u_lay
  split <;> rfl
def fkB (c s : Nat) : Bool := match fkK c s, tyT c s, ((clT c) s).2.2.2 with
  | 0, .int, false => true
  | 1, .long, false => true
  | 2, .object _, false => true
  | 3, _, true => true
  | 4, .boolean, false => true
  | 5, .array .byte, false => true
  | 6, .array .int, false => true
  | _, _, _ => false
theorem fk_all : (List.range 12).all (fun c => (List.range (clN c)).all fun s => fkB c s) = true := by decide +kernel
theorem fkA {c s : Nat} (hc : c < 12) (hs : s < clN c) : fkB c s = true := List.all_eq_true.mp (List.all_eq_true.mp fk_all c (List.mem_range.mpr hc)) s (List.mem_range.mpr hs)
theorem fk_put {c s : Nat} (hc : c < 12) (hs : s < clN c) : (fkK c s = 0 → tyT c s = .int ∧ ((clT c) s).2.2.2 = false) ∧ (fkK c s = 1 → tyT c s = .long ∧ ((clT c) s).2.2.2 = false) ∧ (fkK c s = 4 → tyT c s = .boolean ∧ ((clT c) s).2.2.2 = false) ∧ ((fkK c s = 2 ∨ fkK c s = 5 ∨ fkK c s = 6) → ((∃ n, tyT c s = .object n) ∨ ∃ t, tyT c s = .array t) ∧ ((clT c) s).2.2.2 = false) := by
  have h := fkA hc hs
  unfold fkB at h
  split at h <;> simp_all
theorem fn_all : (List.range 12).all (fun c => (List.range (clN c)).all fun s => decide (fkK c s = 3 → if c = 8 then s < 3 else (fnL.getD c []).getD s 0 < fxN)) = true := by decide +kernel
theorem fIn_lt {σ : MS} (h : mOk σ) {c s k : Nat} (hc : c < 12) (hs : s < clN c) (hf : fkK c s = 3) (hk : (kd σ k).1 = 20 + c) : fIn c s k < nC σ := by
  have h1 := of_decide_eq_true (List.all_eq_true.mp (List.all_eq_true.mp fn_all c (List.mem_range.mpr hc)) s (List.mem_range.mpr hs)) hf
  unfold fIn
  split
  · rename_i e
    rw [if_pos e] at h1
    subst e
    have := h.2.2.2.2.2.2.1 k (by omega)
    omega
  · rename_i e
    rw [if_neg e] at h1
    have := h.1
    omega
theorem fk_le {c s : Nat} (hc : c < 12) (hs : s < clN c) : fkK c s ≤ 6 := by
  have h := fkA hc hs
  unfold fkB at h
  split at h <;> simp_all
theorem rF_gF {ad : Nat → Nat} {σ : MS} {c k s : Nat} (hc : c < 12) (hs : s < clN c) : rF ad σ c k s = rV ad (gF σ c s k (fkK c s)) := by
  have h := fk_le hc hs
  unfold rF
  generalize fkK c s = kk at h ⊢
  have : kk = 0 ∨ kk = 1 ∨ kk = 2 ∨ kk = 3 ∨ kk = 4 ∨ kk = 5 ∨ kk = 6 := by omega
  rcases this with rfl | rfl | rfl | rfl | rfl | rfl | rfl <;> rfl
theorem gF_ok {σ : MS} (h : mOk σ) {c s k kk : Nat} (hc : c < 12) (hs : s < clN c) (hf : fkK c s = kk) (hk : (kd σ k).1 = 20 + c) : vOk σ (gF σ c s k kk) := by
  unfold gF
  split
  · exact h.2.2.1 _ _
  · exact True.intro
  · exact fun j e => Or.inl (h.2.2.2.1 _ _ _ e)
  · exact fun j e => Or.inl (by cases e; exact fIn_lt h hc hs hf hk)
  · exact fun j e => Or.inl (h.2.2.2.1 _ _ _ e)
  · exact fun j e => Or.inl (h.2.2.2.1 _ _ _ e)
  · exact absurd hf (by have := fk_le hc hs; omega)
  · exact absurd hf (by have := fk_le hc hs; omega)
  · exact h.2.2.1 _ _
section ALD
variable {p : Program} {l : Launch} {e : Env} {R : Room} {s : State} {m : MethodId} {args : Array Value} {below : List Frame} {meth : Method} {c : Code} {H : Heap} {locs : List Loc} {cells slots : Nat} {Q : State → Prop}
variable {cc : ByteArray} {pc : Nat} {ls : Array Slot} {rest : List Value} {D : va_G} {cl : List vw_C} {A : Nat → Prop} {a : Nat} {tys : List (ClassId × FieldType)} {ws : va_W} {H0 : Heap}
theorem va_aldA (hexec : p.tables.exec = Jvm.exec) (hb : c.code = cc) (hK : va_K D cl tys s) (hP : va_P D cl ws H) (q0 t0 : Nat) {cA : ClassId} {ty : FieldType} {n : Nat} {f : Nat → Option Nat} (ha : ws[q0]? = some (a, .inl (cA, n, .inr (.inr (.inr (.inr f)))))) (ht : tys[t0]? = some (cA, ty)) (hty : ty.isReference = true) {i : Int32} (hin : vp_in i n) (hdg : decode cc pc = .ok (.aaload, 1))
    (kk : W p l e R s m args below meth c H locs cells slots Q (F0 m (pc + 1) ls (va_rf (f i.toNatClampNeg) :: rest))) : W p l e R s m args below meth c H locs cells slots Q (F0 m pc ls (.int i :: .ref a :: rest)) := by
  have hlt : i.toNatClampNeg < n := Nat.not_le.mp fun q => hin (Or.inr q)
  exact W.aald (v := va_rf (f i.toNatClampNeg)) (ty := ty) hexec hb (hP q0 _ ha) ((hK.2 t0 _ ht).1 n (fun j => va_rf (f j))) hty (fun q => by cases q) (by show ¬ (i < 0 ∨ (arrV _ _ _).slots.size ≤ _); rw [arrV_size]; exact hin) (by show (arrV _ _ _).slots[_]? = _; rw [arrV_read _ _ hlt]) rfl rfl hdg kk
theorem va_ldcSw (hexec : p.tables.exec = Jvm.exec) (hb : c.code = cc) {own tx : String} {index q : Nat} (hown : s.vm.findClass own = some m.cls) (hZ : vk_R own index tx q s) (hdg : decode cc pc = .ok (.ldc_w index, 3))
    (k : W p l e R s m args below meth c H locs cells slots Q (F0 m (pc + 3) ls (.ref q :: rest))) : W p l e R s m args below meth c H locs cells slots Q (F0 m pc ls rest) := by
  intro T hT X
  obtain ⟨t, a1, b1⟩ := k T hT X
  exact ⟨t, X.ldcStringW hexec hown (text := tx) (a := q) hZ.1 hZ.2 (g := F0 m pc ls rest) rfl (by rw [hb]; exact hdg) t a1, b1⟩
/-- a row of ints is put into a row of such rows -/
theorem va_ast7 (hexec : p.tables.exec = Jvm.exec) (hb : c.code = cc) (hK : va_K D cl tys s) (hP : va_P D cl ws H) (hD : va_D A ws) (hS : va_S A H0 H locs) (q0 t0 qk : Nat) {c7 c3 : ClassId} {k kI : Class} {n n2 v : Nat} {f : Nat → Option Nat} {g2 : Nat → Int32} (h1 : s.vm.classes[c7]? = some k) (h2 : k.kind = .array c3 (.array .int)) (h3 : s.vm.classes[c3]? = some kI) (h4 : s.vm.assignable c3 c3 = true) (ha : ws[q0]? = some (a, .inl (c7, n, .inr (.inr (.inr (.inr f)))))) (hv : ws[qk]? = some (v, .inl (c3, n2, .inl g2))) {i : Int32} (hin : vp_in i n) (hdg : decode cc pc = .ok (.aastore, 1))
    (kk : ∀ (H1 : Heap) (locs1 : List Loc), va_P D cl (ws.set q0 (a, .inl (c7, n, .inr (.inr (.inr (.inr (va_up f i.toNatClampNeg (some v)))))))) H1 → va_D A (ws.set q0 (a, .inl (c7, n, .inr (.inr (.inr (.inr (va_up f i.toNatClampNeg (some v)))))))) → va_S A H0 H1 locs1 → W p l e R s m args below meth c H1 locs1 cells slots Q (F0 m (pc + 1) ls rest)) : W p l e R s m args below meth c H locs cells slots Q (F0 m pc ls (.ref v :: .int i :: .ref a :: rest)) := by
  have hlt : i.toNatClampNeg < n := Nat.not_le.mp fun q => hin (Or.inr q)
  have h0 : ¬ i < 0 := fun q => hin (Or.inl q)
  refine W.aast hexec hb (hP q0 _ ha) (fun q h => by cases h) (fun h => by cases h) h1 h2 rfl h3 ⟨h0, by show _ < (arrV _ _ _).slots.size; rw [arrV_size]; exact hlt⟩ (hP qk _ hv) (fun q h => by cases h) h3 h4 rfl rfl hdg fun H1 e z oq => ?_
  refine kk H1 _ (hP.set hD ha ?_ oq) (hD.set ha) (hS.put z oq (hD.2 q0 _ ha))
  show H1[a]? = some (vp_cell _ _)
  rw [e]
  show some ((arrV c7 n fun j => va_rf (f j)).setSlot i.toNatClampNeg (.ref v)) = some (arrV c7 n fun j => va_rf (va_up f i.toNatClampNeg (some v) j))
  rw [arrV_store]
  congr 2
  funext q
  by_cases hq : q = i.toNatClampNeg
  · subst hq
    simp [updV, va_up, va_rf]
  · simp [updV, va_up, hq]
theorem va_ast7N (hexec : p.tables.exec = Jvm.exec) (hb : c.code = cc) (hK : va_K D cl tys s) (hP : va_P D cl ws H) (hD : va_D A ws) (hS : va_S A H0 H locs) (q0 t0 : Nat) {c7 : ClassId} {n : Nat} {f : Nat → Option Nat} {ty : FieldType} (hty : ty.isReference = true) (ha : ws[q0]? = some (a, .inl (c7, n, .inr (.inr (.inr (.inr f)))))) (ht : tys[t0]? = some (c7, ty)) {i : Int32} (hin : vp_in i n) (hdg : decode cc pc = .ok (.aastore, 1))
    (kk : ∀ (H1 : Heap) (locs1 : List Loc), va_P D cl (ws.set q0 (a, .inl (c7, n, .inr (.inr (.inr (.inr (va_up f i.toNatClampNeg none))))))) H1 → va_D A (ws.set q0 (a, .inl (c7, n, .inr (.inr (.inr (.inr (va_up f i.toNatClampNeg none))))))) → va_S A H0 H1 locs1 → W p l e R s m args below meth c H1 locs1 cells slots Q (F0 m (pc + 1) ls rest)) : W p l e R s m args below meth c H locs cells slots Q (F0 m pc ls (.null :: .int i :: .ref a :: rest)) := by
  intro T hT X
  have hc : T.heap[a]? = some (arrV c7 n fun j => va_rf (f j)) := by rw [hT]; exact hP q0 _ ha
  obtain ⟨X', st⟩ := X.aastoreNullN hexec hc ((hK.2 t0 _ ht).1 n (fun j => va_rf (f j))) hty (fun h => by cases h) (by rw [arrV_size]; exact hin) (g := F0 m pc ls (.null :: .int i :: .ref a :: rest)) rfl rfl (by rw [hb]; exact hdg)
  have hlt : a < T.heap.size := (Array.getElem?_eq_some_iff.mp hc).1
  have e : (T.setCell a ((arrV c7 n fun j => va_rf (f j)).setSlot i.toNatClampNeg .null)).heap[a]? = some ((arrV c7 n fun j => va_rf (f j)).setSlot i.toNatClampNeg .null) := heapAt_setCell_self _ hlt
  have oq : ∀ q, q ≠ a → (T.setCell a ((arrV c7 n fun j => va_rf (f j)).setSlot i.toNatClampNeg .null)).heap[q]? = H[q]? := fun q hq => by rw [heapAt_setCell_ne _ (Ne.symm hq), hT]
  obtain ⟨t', a1, b1⟩ := kk _ _ (hP.set hD ha (by
    refine Eq.trans e ?_
    show some ((arrV c7 n fun j => va_rf (f j)).setSlot i.toNatClampNeg .null) = some (arrV c7 n fun j => va_rf (va_up f i.toNatClampNeg none j))
    rw [arrV_store]
    congr 2
    funext q
    by_cases hq : q = i.toNatClampNeg
    · subst hq
      simp [updV, va_up, va_rf]
    · simp [updV, va_up, hq]) oq) (hD.set ha) (hS.put (by rw [size_setCell, hT]) oq (hD.2 q0 _ ha)) (T.setCell a ((arrV c7 n fun j => va_rf (f j)).setSlot i.toNatClampNeg .null)) rfl X'
  exact ⟨t', st t' a1, b1⟩
end ALD
theorem u32_int (u : UInt32) : u.toInt32.toInt = ((u.toNat : Nat) : Int).bmod 4294967296 := BitVec.toInt_eq_toNat_bmod u.toBitVec
theorem rI_u32 (x : Int) : (rI x).toUInt32.toNat = (x % 4294967296).toNat := by
  show (BitVec.ofInt 32 x).toNat = _
  rw [BitVec.toNat_ofInt]
  rfl
theorem rI_i2c (x : Int) : ((rI x).toUInt32 % 65536).toInt32 = rI (x % 65536) := Int32.toInt_inj.mp (by
  rw [rI_toInt (by unfold inR; omega), u32_int, UInt32.toNat_mod, rI_u32, show (65536 : UInt32).toNat = 65536 from rfl, Int.bmod_def]
  omega)
theorem rI_chr {x : Int} (h : inR x) (hx : 0 ≤ x ∧ x < 65536) : narrow .char (.int (rI x)) = .int (rI x) := by
  show Value.int (rI x).toUInt32.toUInt16.toUInt32.toInt32 = .int (rI x)
  refine congrArg Value.int (Int32.toInt_inj.mp ?_)
  rw [u32_int, UInt16.toNat_toUInt32, UInt32.toNat_toUInt16, rI_u32, rI_toInt h, Int.bmod_def]
  omega
theorem rI_byt {x : Int} (_ : inR x) (hx : -128 ≤ x ∧ x < 128) : narrow .byte (.int (rI x)) = .int (rI x) := by
  show Value.int (rI x).toInt8.toInt32 = .int (rI x)
  rw [rI_i2b]
  refine congrArg (fun z => Value.int (rI z)) ?_
  unfold w8
  rw [Int.bmod_def]
  omega
/-! ===== what is only read: texts, a switch, the script ===== -/
def stLn : List Nat := stL.map List.length
def stBy : List (List Int32) := stL.map fun l => l.map fun (x : Nat) => rI (x : Int)
theorem stLn_at (j : Nat) : stLn.getD j 0 = (strAt j).length := by
  unfold stLn strAt
  rw [List.getD_eq_getElem?_getD, List.getElem?_map, List.getD_eq_getElem?_getD]
  cases stL[j]? <;> rfl
theorem rI0 : rI 0 = 0 := by decide
theorem rI1 : rI 1 = 1 := by decide
theorem stBy_at (j i : Nat) : (stBy.getD j []).getD i 0 = rI (((strAt j).getD i 0 : Nat) : Int) := by
  unfold stBy strAt
  rw [List.getD_eq_getElem?_getD (l := stL.map _), List.getElem?_map, List.getD_eq_getElem?_getD (l := stL)]
  cases stL[j]? with
  | none => exact rI0.symm
  | some l =>
    show (l.map fun (x : Nat) => rI (x : Int)).getD i 0 = rI ((l.getD i 0 : Nat) : Int)
    rw [List.getD_eq_getElem?_getD, List.getElem?_map, List.getD_eq_getElem?_getD]
    cases l[i]? with
    | none => exact rI0.symm
    | some x => rfl
theorem st_all : stL.all (fun l => l.all fun x => decide (x < 128)) = true := by decide +kernel
theorem st_lt (j i : Nat) : (strAt j).getD i 0 < 128 := by
  unfold strAt
  rw [List.getD_eq_getElem?_getD (l := stL)]
  cases h : stL[j]? with
  | none =>
    show ([] : List Nat).getD i 0 < 128
    rw [List.getD_eq_getElem?_getD, List.getElem?_nil]
    decide
  | some l =>
    show l.getD i 0 < 128
    rw [List.getD_eq_getElem?_getD]
    cases h2 : l[i]? with
    | none => decide
    | some x => exact of_decide_eq_true (List.all_eq_true.mp (List.all_eq_true.mp st_all l (List.mem_of_getElem? h)) x (List.mem_of_getElem? h2))
def sX (ad : Nat → Nat) (scr : Nat × (Nat → Int)) (A : Nat → Prop) (U : State) (H : Heap) : Prop :=
  vk_S stN stLn stBy (fun j => ad (strK + j)) (fun j => ad (strB + j)) A U H ∧ va_Z "java/lang/String" "COMPACT_STRINGS" "Z" (.int 1) A U H ∧ (∀ q ∈ ksM, vk_R (owS q.1) q.2.1 (stT.getD q.2.2 "") (ad (strK + q.2.2)) U) ∧ va_T .int (ad scrK) scr.1 (fun j => .int (rI (scr.2 j))) A U H ∧ (∀ i, inR (scr.2 i)) ∧ va_Zq "jdk/internal/util/Preconditions" "SIOOBE_FORMATTER" "Ljava/util/function/BiFunction;" A U H
theorem sX_ext {ad ad' : Nat → Nat} {scr : Nat × (Nat → Int)} {A : Nat → Prop} {U : State} {H : Heap} (h : ∀ k, scrK ≤ k → ad' k = ad k) (hx : sX ad scr A U H) : sX ad' scr A U H := by
  have e1 : (fun j => ad' (strK + j)) = fun j => ad (strK + j) := funext fun j => h _ (Nat.le_trans (show scrK ≤ strK by decide) (Nat.le_add_right _ _))
  have e2 : (fun j => ad' (strB + j)) = fun j => ad (strB + j) := funext fun j => h _ (Nat.le_trans (show scrK ≤ strB by decide) (Nat.le_add_right _ _))
  unfold sX at hx ⊢
  rw [e1, e2, h scrK (Nat.le_refl _)]
  refine ⟨hx.1, hx.2.1, fun q hq => ?_, hx.2.2.2⟩
  rw [h _ (Nat.le_trans (show scrK ≤ strK by decide) (Nat.le_add_right _ _))]
  exact hx.2.2.1 q hq
theorem sX_moved {ad : Nat → Nat} {scr : Nat × (Nat → Int)} {A : Nat → Prop} {s U : State} {H : Heap} (hW : s.WarmedH U.vm) (h : sX ad scr A s H) : sX ad scr A U H :=
  ⟨vk_S.moved hW.alike h.1, va_Z.moved hW.alike h.2.1, fun q hq => vk_R.warm hW (h.2.2.1 q hq), va_T.moved hW.alike h.2.2.2.1, h.2.2.2.2.1, va_Zq.moved hW.alike h.2.2.2.2.2⟩
theorem sX_same {ad : Nat → Nat} {scr : Nat × (Nat → Int)} {A : Nat → Prop} {s U : State} {H : Heap} (hv : U.vm = s.vm) (h : sX ad scr A s H) : sX ad scr A U H := by
  have ha : s.vm.Alike U.vm := by rw [hv]; exact Vm.Alike.refl _
  exact ⟨vk_S.moved ha h.1, va_Z.moved ha h.2.1, fun q hq => vk_R.same hv (h.2.2.1 q hq), va_T.moved ha h.2.2.2.1, h.2.2.2.2.1, va_Zq.moved ha h.2.2.2.2.2⟩
theorem sX_kept {ad : Nat → Nat} {scr : Nat × (Nat → Int)} {A : Nat → Prop} {U : State} {H H1 : Heap} (h : sX ad scr A U H) (hq : ∀ a : Nat, a < H.size → ¬ A a → H1[a]? = H[a]?) : sX ad scr A U H1 :=
  ⟨vk_S.kept h.1 hq, va_Z.kept h.2.1 hq, h.2.2.1, va_T.kept h.2.2.2.1 hq, h.2.2.2.2.1, va_Zq.kept h.2.2.2.2.2 hq⟩
theorem sX_narrow {ad : Nat → Nat} {scr : Nat × (Nat → Int)} {A B : Nat → Prop} {U : State} {H : Heap} (h : sX ad scr A U H) (hAB : ∀ q, B q → A q) : sX ad scr B U H :=
  ⟨vk_S.narrow h.1 hAB, va_Z.narrow h.2.1 hAB, h.2.2.1, va_T.narrow h.2.2.2.1 hAB, h.2.2.2.2.1, va_Zq.narrow h.2.2.2.2.2 hAB⟩
/-- the class of rows of ints -/
def arX (cA : Nat → Nat) (U : State) : Prop := ∃ (k kI : Class), U.vm.classes[cA 7]? = some k ∧ k.kind = .array (cA 3) (.array .int) ∧ U.vm.classes[cA 3]? = some kI ∧ U.vm.assignable (cA 3) (cA 3) = true
theorem arX_moved {cA : Nat → Nat} {u U : State} (hvm : u.vm.Alike U.vm) (h : arX cA u) : arX cA U := by
  obtain ⟨k, kI, h1, h2, h3, h4⟩ := h
  obtain ⟨k', hk', he⟩ := hvm.2.2 _ _ h1
  obtain ⟨kI', hkI', -⟩ := hvm.2.2 _ _ h3
  exact ⟨k', kI', hk', by rw [he]; exact h2, hkI', by rw [hvm.assignable]; exact h4⟩
/-! ===== the machine does what the small machine does ===== -/
def Cx (p : Program) (s : State) (m : MethodId) (args : Array Value) (c : Code) (R : Room) (A : Nat → Prop) (D : va_G) (cA : Nat → Nat) (M cE sE : Nat) : Prop :=
  p.tables.exec = Jvm.exec ∧ c.code = bN M ∧ c.maxLocals = mX M ∧ s.vm.findClass (owS (owM M)) = some m.cls ∧ (∀ w ∈ tbG, w.before args s = true) ∧ va_K D vwCl (tysL cA) s ∧ (∀ q, s.heap.size ≤ q → A q) ∧ (frM M ≤ R.frames ∧ loM M ≤ R.locals) ∧ cE ≤ R.cells ∧ sE ≤ R.slots ∧ arX cA s
def St (s : State) (A : Nat → Prop) (D : va_G) (cA : Nat → Nat) (n0 : Nat) (ad0 : Nat → Nat) (σ' : MS) (cE sE : Nat) (ad : Nat → Nat) (σ : MS) (H : Heap) (locs : List Loc) (cells slots : Nat) : Prop :=
  va_P D vwCl (mW cA ad σ) H ∧ va_D A (mW cA ad σ) ∧ va_S A s.heap H locs ∧ mOk σ ∧ (n0 ≤ nC σ ∧ ∀ k, (k < n0 ∨ scrK ≤ k) → ad k = ad0 k) ∧ cells + nC σ' = cE + nC σ ∧ slots + tS σ' = sE + tS σ
/-- what stands at a return -/
def rtOk (M pc : Nat) : Option MV → Prop
  | none => decode (bN M) pc = .ok (.return_, 1) ∧ rN M = none
  | some (.inl x) => decode (bN M) pc = .ok (.ireturn, 1) ∧ (rN M = some .int ∨ (rN M = some .boolean ∧ bl x) ∨ (rN M = some .char ∧ 0 ≤ x ∧ x < 65536) ∨ (rN M = some .byte ∧ -128 ≤ x ∧ x < 128))
  | some (.inr (.inl _)) => decode (bN M) pc = .ok (.lreturn, 1) ∧ rN M = some .long
  | some (.inr (.inr _)) => decode (bN M) pc = .ok (.areturn, 1) ∧ ((∃ q, rN M = some (.object q)) ∨ ∃ q, rN M = some (.array q))
def SimN (l : Launch) (n : Nat) : Prop := ∀ (p : Program) (e : Env) (R : Room) (s : State) (m : MethodId) (args : Array Value) (below : List Frame) (meth : Method) (c : Code) (Q : State → Prop) (A : Nat → Prop) (D : va_G) (cA : Nat → Nat) (M : Nat) (r : Option MV) (σ' : MS) (cE sE n0 : Nat) (ad0 : Nat → Nat),
  Cx p s m args c R A D cA M cE sE →
  (∀ b, sq M b (tG M b)) →
  sX ad0 σ'.2.2.2.2.2 A s s.heap → nC σ' < scrK →
  (∀ (ad : Nat → Nat) (H : Heap) (locs : List Loc) (pc : Nat) (LS : Array Slot), St s A D cA n0 ad0 σ' cE sE ad σ' H locs cE sE → rtOk M pc r → (∀ v, r = some v → vOk σ' v) → W p l e R s m args below meth c H locs cE sE Q (F0 m pc LS (r.toList.map (rV ad)))) →
  ∀ (sfx : List Ins) (pc : Nat) (ls : List (Option MV)) (st : List MV) (σ : MS) (ad : Nat → Nat) (H : Heap) (locs : List Loc) (cells slots : Nat) (LS : Array Slot),
    run n (tG M) (sfx, ls, st, σ) = some (r, σ') → St s A D cA n0 ad0 σ' cE sE ad σ H locs cells slots → lv_has LS (mX M) (locL ad ls) → (∀ v ∈ st, vOk σ v) → (∀ v, some v ∈ ls → vOk σ v) → sq M pc sfx →
    W p l e R s m args below meth c H locs cells slots Q (F0 m pc LS (st.map (rV ad)))
theorem ok2 {σ : MS} {v : MV} {st : List MV} (h : vOk σ v) (hs : ∀ w ∈ st, vOk σ w) : ∀ w ∈ v :: st, vOk σ w := List.forall_mem_cons.mpr ⟨h, hs⟩
theorem ok_t {σ : MS} {v : MV} {st : List MV} (h : ∀ w ∈ v :: st, vOk σ w) : ∀ w ∈ st, vOk σ w := (List.forall_mem_cons.mp h).2
theorem ok_h {σ : MS} {v : MV} {st : List MV} (h : ∀ w ∈ v :: st, vOk σ w) : vOk σ v := (List.forall_mem_cons.mp h).1
theorem tgK_ok {pc a : Nat} {o : Int} (h : tgK pc o a = true) : (pc : Int) + o = (a : Int) := of_decide_eq_true h
theorem st_W {ad : Nat → Nat} : ∀ st : List MV, ((st.map (rV ad)).map fun v => v.category).sum = stW st
  | [] => rfl
  | .inl x :: t => by show 1 + ((t.map (rV ad)).map fun v => v.category).sum = 1 + stW t; rw [st_W t]
  | .inr (.inl x) :: t => by show 2 + ((t.map (rV ad)).map fun v => v.category).sum = 2 + stW t; rw [st_W t]
  | .inr (.inr none) :: t => by show 1 + ((t.map (rV ad)).map fun v => v.category).sum = 1 + stW t; rw [st_W t]
  | .inr (.inr (some x)) :: t => by show 1 + ((t.map (rV ad)).map fun v => v.category).sum = 1 + stW t; rw [st_W t]
theorem swK_ok {pc : Nat} {x : Int} {a : Nat} {d : Int} (hd : tgK pc d a = true) : ∀ {t : List (Int × Nat)} {L : List (Int × Int)}, swK pc t L = true → ∃ o, (pc : Int) + o = (rSw x t a : Nat) ∧ Op.lookupswitch.offset L d x = o ∧ ((x, o) ∈ L ∨ (o = d ∧ ∀ o', (x, o') ∉ L))
  | [], [], _ => ⟨d, tgK_ok hd, rfl, Or.inr ⟨rfl, fun _ h => by cases h⟩⟩
  | q :: t, p :: u, h => by
    simp only [swK, Bool.and_eq_true, decide_eq_true_eq] at h
    obtain ⟨⟨h1, h2⟩, h3⟩ := h
    obtain ⟨k1, o1⟩ := p
    have h1 : q.1 = k1 := h1
    rw [Op.lookupswitch.offset_cons]
    unfold rSw
    by_cases e : x = q.1
    · rw [if_pos e, if_pos (by rw [e, ← h1])]
      exact ⟨o1, tgK_ok h2, rfl, Or.inl (by rw [e, h1]; exact List.mem_cons_self)⟩
    · rw [if_neg e, if_neg (fun z => e (by rw [h1]; exact z.symm))]
      obtain ⟨o, g1, g2, g3⟩ := swK_ok hd h3
      refine ⟨o, g1, g2, g3.elim (fun g => Or.inl (List.mem_cons_of_mem _ g)) (fun g => Or.inr ⟨g.1, fun o' ho => ?_⟩)⟩
      rcases List.mem_cons.mp ho with z | z
      · exact e (by rw [h1]; exact congrArg Prod.fst z)
      · exact g.2 o' z
  | [], p :: u, h => by cases h
  | q :: t, [], h => by cases h
