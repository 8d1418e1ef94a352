/-! ===== a new state of the judge ===== -/
abbrev cX9_init : ByteArray := prog_11_method_1_code
def yX9_init : MethodName := ⟨RX9, "<init>", "()V"⟩
theorem dSi_0 : decode cX9_init 0 = .ok (.aload_n 0, 1) := by decide +kernel
theorem dSi_1 : decode cX9_init 1 = .ok (.invokespecial 5, 3) := by decide +kernel
theorem dSi_4 : decode cX9_init 4 = .ok (.aload_n 0, 1) := by decide +kernel
theorem dSi_5 : decode cX9_init 5 = .ok (.sipush 1188, 3) := by decide +kernel
theorem dSi_8 : decode cX9_init 8 = .ok (.newarray .long, 2) := by decide +kernel
theorem dSi_10 : decode cX9_init 10 = .ok (.putfield 11, 3) := by decide +kernel
theorem dSi_13 : decode cX9_init 13 = .ok (.aload_n 0, 1) := by decide +kernel
theorem dSi_14 : decode cX9_init 14 = .ok (.iconst 4, 1) := by decide +kernel
theorem dSi_15 : decode cX9_init 15 = .ok (.newarray .int, 2) := by decide +kernel
theorem dSi_17 : decode cX9_init 17 = .ok (.putfield 15, 3) := by decide +kernel
theorem dSi_20 : decode cX9_init 20 = .ok (.aload_n 0, 1) := by decide +kernel
theorem dSi_21 : decode cX9_init 21 = .ok (.bipush 64, 2) := by decide +kernel
theorem dSi_23 : decode cX9_init 23 = .ok (.newarray .int, 2) := by decide +kernel
theorem dSi_25 : decode cX9_init 25 = .ok (.putfield 19, 3) := by decide +kernel
theorem dSi_28 : decode cX9_init 28 = .ok (.return_, 1) := by decide +kernel
def siT : List (Nat × Jvm.Cond) := [(331, .initialized RX9), (20, .instanceMethod objectInit), (0, .code objectInit ⟨#[0xb1]⟩ 1 none), (49, .arrayClass .long), (0, .arrayClass .int), (133, .classLink RX1 3 RX9), (1, .instantiable RX9 11), (0, .methodLink RX1 52 yX9_init), (0, .instanceMethod yX9_init), (0, .code yX9_init cX9_init 1 none), (0, .methodLink RX9 5 objectInit), (0, .fieldLink RX9 11 "FilterHouse$State" "row" "[J"), (2, .fieldLink RX9 15 "FilterHouse$State" "back" "[I"), (0, .fieldLink RX9 19 "FilterHouse$State" "held" "[I")]
set_option maxRecDepth 100000 in
theorem si_ok : gapW id lw_tbl siT = true := by decide +kernel
theorem siA (i : Nat) {w : Jvm.Cond} (h : (siT.map (·.2))[i]? = some w) (g : goodWord w = true) : w ∈ tbG := by
  obtain ⟨x, hx, rfl⟩ := List.mem_map.mp (List.mem_of_getElem? h)
  exact tbG_in (gapW_mem id siT lw_tbl si_ok x hx) g
theorem siA0 : Jvm.Cond.initialized RX9 ∈ tbG := siA 0 rfl rfl
theorem siA1 : Jvm.Cond.instanceMethod objectInit ∈ tbG := siA 1 rfl rfl
theorem siA2 : Jvm.Cond.code objectInit ⟨#[0xb1]⟩ 1 none ∈ tbG := siA 2 rfl rfl
theorem siA3 : Jvm.Cond.arrayClass .long ∈ tbG := siA 3 rfl rfl
theorem siA4 : Jvm.Cond.arrayClass .int ∈ tbG := siA 4 rfl rfl
theorem siA5 : Jvm.Cond.classLink RX1 3 RX9 ∈ tbG := siA 5 rfl rfl
theorem siA6 : Jvm.Cond.instantiable RX9 11 ∈ tbG := siA 6 rfl rfl
theorem siA7 : Jvm.Cond.methodLink RX1 52 yX9_init ∈ tbG := siA 7 rfl rfl
theorem siA8 : Jvm.Cond.instanceMethod yX9_init ∈ tbG := siA 8 rfl rfl
theorem siA9 : Jvm.Cond.code yX9_init cX9_init 1 none ∈ tbG := siA 9 rfl rfl
theorem siA10 : Jvm.Cond.methodLink RX9 5 objectInit ∈ tbG := siA 10 rfl rfl
theorem siA11 : Jvm.Cond.fieldLink RX9 11 "FilterHouse$State" "row" "[J" ∈ tbG := siA 11 rfl rfl
theorem siA12 : Jvm.Cond.fieldLink RX9 15 "FilterHouse$State" "back" "[I" ∈ tbG := siA 12 rfl rfl
theorem siA13 : Jvm.Cond.fieldLink RX9 19 "FilterHouse$State" "held" "[I" ∈ tbG := siA 13 rfl rfl
theorem zz_ar_long (c : ClassId) (n : Nat) : vp_cell c (n, .inr (.inl (fun _ => 0))) = arrV c n (fun _ => defaultValue .long) := rfl
theorem zz_df9 : ∀ j, j < 11 → defaultValue (tyX9 j) = vp_V [.null, .null, .null, .int 0, .int 0, .int 0, .null, .int 0, .null, .int 0, .int 0] j := by decide +kernel
def wsSi : List Jvm.Cond := .code yX9_init cX9_init 1 none :: tbG
theorem in9 : ∀ w ∈ u_ws RX9 TX9 11, w ∈ tbG := lyA (c := 8) (by decide)
theorem in9s : ∀ w ∈ u_ws RX9 TX9 11, w ∈ wsSi := fun w h => List.mem_cons_of_mem _ (in9 w h)
theorem nd_of : ∀ l : List Nat, l.Nodup → va_nd l = true
  | [], _ => rfl
  | a :: l, h => by
    have h := List.nodup_cons.mp h
    rw [va_nd, decide_eq_true h.1, nd_of l h.2]
    rfl
theorem sz_join {A : Nat → Prop} {D : va_G} {cl : List vw_C} {ws w1 : va_W} {x : Nat × va_E} {H H1 : Heap} (hP : va_P D cl (ws ++ [x]) H) (hD : va_D A (ws ++ [x])) (hk : ∀ q : Nat, q < H.size → ¬ va_A [x] H.size q → H1[q]? = H[q]?) (hF : ∀ q, va_A [x] H.size q → A q) (hP1 : va_P D cl w1 H1) (hD1 : va_D (va_A [x] H.size) w1) : va_P D cl (ws ++ w1) H1 ∧ va_D A (ws ++ w1) := by
  refine va_join (wr := ws) (w1 := w1) (wc := [x]) hP hD [ws.length] (List.range ws.length) (by simp) ?_ (nd_of _ List.nodup_range) (fun i hi h => ?_) hk hF hP1 hD1
  · apply List.ext_getElem?
    intro i
    rw [List.getElem?_map, List.getElem?_map]
    by_cases h : i < ws.length
    · rw [List.getElem?_range h]
      show some ((ws ++ [x])[i]?) = Option.map some ws[i]?
      rw [List.getElem?_append_left h, List.getElem?_eq_getElem h]
      rfl
    · rw [List.getElem?_eq_none (by simpa using h), List.getElem?_eq_none (Nat.not_lt.mp h)]
      rfl
  · have h1 := List.mem_range.mp hi
    have h2 : i = ws.length := by simpa using h
    omega
set_option maxHeartbeats 1000000 in
theorem si_Met (l : Launch) (D : va_G) (cA : Nat → Nat) (h0 sz : Nat) : Met l yX9_init wsSi { frames := 1, cells := 3, slots := 1256, locals := 12 } (va_Pc [.ref h0] (fun U => U.heap.size = sz ∧ va_P D vwCl [(h0, .inr (8, [.null, .null, .null, .int 0, .int 0, .int 0, .null, .int 0, .null, .int 0, .int 0]))] U.heap ∧ va_K D vwCl (tysL cA) U ∧ va_D (fun _ => True) [(h0, .inr (8, [.null, .null, .null, .int 0, .int 0, .int 0, .null, .int 0, .null, .int 0, .int 0]))])) (va_Qv (fun (_ : Nat × Nat × Nat) => True) (fun (⟨q1, q2, q3⟩ : Nat × Nat × Nat) t => va_P D vwCl [(h0, .inr (8, [.ref q1, .ref q2, .ref q3, .int 0, .int 0, .int 0, .null, .int 0, .null, .int 0, .int 0])), (q1, .inl (cA 4, 1188, .inr (.inl (fun _ => 0)))), (q2, .inl (cA 3, 4, .inl (fun _ => 0))), (q3, .inl (cA 3, 64, .inl (fun _ => 0)))] t.heap ∧ va_D (va_A [(h0, .inr (8, [.null, .null, .null, .int 0, .int 0, .int 0, .null, .int 0, .null, .int 0, .int 0]))] sz) [(h0, .inr (8, [.ref q1, .ref q2, .ref q3, .int 0, .int 0, .int 0, .null, .int 0, .null, .int 0, .int 0])), (q1, .inl (cA 4, 1188, .inr (.inl (fun _ => 0)))), (q2, .inl (cA 3, 4, .inl (fun _ => 0))), (q3, .inl (cA 3, 64, .inl (fun _ => 0)))]) (va_A [(h0, .inr (8, [.null, .null, .null, .int 0, .int 0, .int 0, .null, .int 0, .null, .int 0, .int 0]))] sz)) 3 1256 (va_A [(h0, .inr (8, [.null, .null, .null, .int 0, .int 0, .int 0, .null, .int 0, .null, .int 0, .int 0]))] sz) := by
  refine Met.ofW (cc := cX9_init) (maxL := 1) (ret := none) (by decide +kernel) rfl ?_
  intro p e s m args below meth c s₁ B hml hv
  obtain ⟨rfl, hsz, hP, hK, hD0⟩ := hv
  have hx := B.exec
  have hb := B.bytes
  have hr := B.returns
  have hts := atoms_spec (ws := wsSi) B.pre
  have hown : s.vm.findClass RX9 = some m.cls := findClass_of_methodNamed B.named
  have hlocks := B.notSynchronized
  have hin : meth.name = "<init>" := (name_of_methodNamed B.named B.method).1
  subst hsz
  have hD := hD0.self (sz := s.heap.size)
  generalize hAe : va_A [(h0, .inr (8, [.null, .null, .null, .int 0, .int 0, .int 0, .null, .int 0, .null, .int 0, .int 0]))] s.heap.size = A at hD ⊢
  have hA : ∀ q : Nat, s.heap.size ≤ q → A q := fun q h => by rw [← hAe]; exact Or.inr h
  have hS : va_S A s.heap s.heap [] := va_S.rf
  have hP : va_P D vwCl [(h0, .inr (8, [.null, .null, .null, .int 0, .int 0, .int 0, .null, .int 0, .null, .int 0, .int 0]))] s.heap := hP
  have hl := lv_entry ([.ref h0]) (n := 1) (Nat.le_of_ble_eq_true rfl)
  rw [lg_entry_eq]
  generalize (lg_sl ([.ref h0]) ++ List.replicate (1 - (lg_sl ([.ref h0])).length) Slot.unset).toArray = ls at hl ⊢
  have hl : lv_has ls 1 [(0, .ref h0)] := hl
  refine lv_aload_n hx hb dSi_0 rfl (lv_at hl 0 rfl) ?_
  refine W.objInit hx hb hown (hts _ (List.mem_cons_of_mem _ siA10)) (hts _ (List.mem_cons_of_mem _ siA1)) (hts _ (List.mem_cons_of_mem _ siA2)) rfl (by rw [hml]; exact hl.1) rfl dSi_1 (Nat.le_of_ble_eq_true rfl) (Nat.le_of_ble_eq_true rfl) ?_
  refine W.eq (g2 := F0 m 4 ls []) rfl ?_
  refine lv_aload_n hx hb dSi_4 rfl (lv_at hl 0 rfl) ?_
  refine lv_sipush (v := 1188) hx hb dSi_5 (by decide +kernel) ?_
  refine zz_newa (atype := .long) (t0 := 3) (cy := cA 4) (ty := .long) (a0 := (1188, .inr (.inl (fun _ => 0)))) (N' := 1188) hx hb (hts _ (List.mem_cons_of_mem _ siA3)) rfl rfl (fun _ h9 => h9) hK hP hD hS hA (fun _ => zz_ar_long _ _) (by decide +kernel) (by decide +kernel) (Nat.le_of_ble_eq_true rfl) (Nat.le_of_ble_eq_true rfl) (Nat.le_of_ble_eq_true rfl) dSi_8 (fun q1 H hP hD hS => ?_)
  have hP : va_P D vwCl [(h0, .inr (8, [.null, .null, .null, .int 0, .int 0, .int 0, .null, .int 0, .null, .int 0, .int 0])), (q1, .inl (cA 4, 1188, .inr (.inl (fun _ => 0))))] H := hP
  have hD : va_D A [(h0, .inr (8, [.null, .null, .null, .int 0, .int 0, .int 0, .null, .int 0, .null, .int 0, .int 0])), (q1, .inl (cA 4, 1188, .inr (.inl (fun _ => 0))))] := hD
  refine W.widen (k := 1) (n := 1188) (Nat.le_of_ble_eq_true rfl) (Nat.le_of_ble_eq_true rfl) ?_
  refine va_putF (D := D) (ci := 8) (v := .ref q1) (ty := (.array .long)) (C := RX9) (T := TX9) (N := 11) hx hb hts in9s tyX9 tyX9_ok nmX9 hown hK hP hD hS 0 rfl rfl 0 (by decide +kernel) (hts _ (List.mem_cons_of_mem _ siA11)) (fun _ h9 => h9) rfl hin rfl (by decide +kernel) rfl rfl (Nat.le_of_ble_eq_true rfl) dSi_10 (fun H locs hP hD hS => ?_)
  have hP : va_P D vwCl [(h0, .inr (8, [.ref q1, .null, .null, .int 0, .int 0, .int 0, .null, .int 0, .null, .int 0, .int 0])), (q1, .inl (cA 4, 1188, .inr (.inl (fun _ => 0))))] H := hP
  have hD : va_D A [(h0, .inr (8, [.ref q1, .null, .null, .int 0, .int 0, .int 0, .null, .int 0, .null, .int 0, .int 0])), (q1, .inl (cA 4, 1188, .inr (.inl (fun _ => 0))))] := hD
  refine lv_aload_n hx hb dSi_13 rfl (lv_at hl 0 rfl) ?_
  refine lv_iconst (v := 4) hx hb dSi_14 (by decide +kernel) ?_
  refine zz_newa (atype := .int) (t0 := 2) (cy := cA 3) (ty := .int) (a0 := (4, .inl (fun _ => 0))) (N' := 4) hx hb (hts _ (List.mem_cons_of_mem _ siA4)) rfl rfl (fun _ h9 => h9) hK hP hD hS hA (fun _ => zz_ar_int _ _) (by decide +kernel) (by decide +kernel) (Nat.le_of_ble_eq_true rfl) (Nat.le_of_ble_eq_true rfl) (Nat.le_of_ble_eq_true rfl) dSi_15 (fun q2 H hP hD hS => ?_)
  have hP : va_P D vwCl [(h0, .inr (8, [.ref q1, .null, .null, .int 0, .int 0, .int 0, .null, .int 0, .null, .int 0, .int 0])), (q1, .inl (cA 4, 1188, .inr (.inl (fun _ => 0)))), (q2, .inl (cA 3, 4, .inl (fun _ => 0)))] H := hP
  have hD : va_D A [(h0, .inr (8, [.ref q1, .null, .null, .int 0, .int 0, .int 0, .null, .int 0, .null, .int 0, .int 0])), (q1, .inl (cA 4, 1188, .inr (.inl (fun _ => 0)))), (q2, .inl (cA 3, 4, .inl (fun _ => 0)))] := hD
  refine W.widen (k := 2) (n := 1192) (Nat.le_of_ble_eq_true rfl) (Nat.le_of_ble_eq_true rfl) ?_
  refine va_putF (D := D) (ci := 8) (v := .ref q2) (ty := (.array .int)) (C := RX9) (T := TX9) (N := 11) hx hb hts in9s tyX9 tyX9_ok nmX9 hown hK hP hD hS 0 rfl rfl 1 (by decide +kernel) (hts _ (List.mem_cons_of_mem _ siA12)) (fun _ h9 => h9) rfl hin rfl (by decide +kernel) rfl rfl (Nat.le_of_ble_eq_true rfl) dSi_17 (fun H locs hP hD hS => ?_)
  have hP : va_P D vwCl [(h0, .inr (8, [.ref q1, .ref q2, .null, .int 0, .int 0, .int 0, .null, .int 0, .null, .int 0, .int 0])), (q1, .inl (cA 4, 1188, .inr (.inl (fun _ => 0)))), (q2, .inl (cA 3, 4, .inl (fun _ => 0)))] H := hP
  have hD : va_D A [(h0, .inr (8, [.ref q1, .ref q2, .null, .int 0, .int 0, .int 0, .null, .int 0, .null, .int 0, .int 0])), (q1, .inl (cA 4, 1188, .inr (.inl (fun _ => 0)))), (q2, .inl (cA 3, 4, .inl (fun _ => 0)))] := hD
  refine lv_aload_n hx hb dSi_20 rfl (lv_at hl 0 rfl) ?_
  refine lv_bipush (v := 64) hx hb dSi_21 (by decide +kernel) ?_
  refine zz_newa (atype := .int) (t0 := 2) (cy := cA 3) (ty := .int) (a0 := (64, .inl (fun _ => 0))) (N' := 64) hx hb (hts _ (List.mem_cons_of_mem _ siA4)) rfl rfl (fun _ h9 => h9) hK hP hD hS hA (fun _ => zz_ar_int _ _) (by decide +kernel) (by decide +kernel) (Nat.le_of_ble_eq_true rfl) (Nat.le_of_ble_eq_true rfl) (Nat.le_of_ble_eq_true rfl) dSi_23 (fun q3 H hP hD hS => ?_)
  have hP : va_P D vwCl [(h0, .inr (8, [.ref q1, .ref q2, .null, .int 0, .int 0, .int 0, .null, .int 0, .null, .int 0, .int 0])), (q1, .inl (cA 4, 1188, .inr (.inl (fun _ => 0)))), (q2, .inl (cA 3, 4, .inl (fun _ => 0))), (q3, .inl (cA 3, 64, .inl (fun _ => 0)))] H := hP
  have hD : va_D A [(h0, .inr (8, [.ref q1, .ref q2, .null, .int 0, .int 0, .int 0, .null, .int 0, .null, .int 0, .int 0])), (q1, .inl (cA 4, 1188, .inr (.inl (fun _ => 0)))), (q2, .inl (cA 3, 4, .inl (fun _ => 0))), (q3, .inl (cA 3, 64, .inl (fun _ => 0)))] := hD
  refine W.widen (k := 3) (n := 1256) (Nat.le_of_ble_eq_true rfl) (Nat.le_of_ble_eq_true rfl) ?_
  refine va_putF (D := D) (ci := 8) (v := .ref q3) (ty := (.array .int)) (C := RX9) (T := TX9) (N := 11) hx hb hts in9s tyX9 tyX9_ok nmX9 hown hK hP hD hS 0 rfl rfl 2 (by decide +kernel) (hts _ (List.mem_cons_of_mem _ siA13)) (fun _ h9 => h9) rfl hin rfl (by decide +kernel) rfl rfl (Nat.le_of_ble_eq_true rfl) dSi_25 (fun H locs hP hD hS => ?_)
  have hP : va_P D vwCl [(h0, .inr (8, [.ref q1, .ref q2, .ref q3, .int 0, .int 0, .int 0, .null, .int 0, .null, .int 0, .int 0])), (q1, .inl (cA 4, 1188, .inr (.inl (fun _ => 0)))), (q2, .inl (cA 3, 4, .inl (fun _ => 0))), (q3, .inl (cA 3, 64, .inl (fun _ => 0)))] H := hP
  have hD : va_D A [(h0, .inr (8, [.ref q1, .ref q2, .ref q3, .int 0, .int 0, .int 0, .null, .int 0, .null, .int 0, .int 0])), (q1, .inl (cA 4, 1188, .inr (.inl (fun _ => 0)))), (q2, .inl (cA 3, 4, .inl (fun _ => 0))), (q3, .inl (cA 3, 64, .inl (fun _ => 0)))] := hD
  refine W.widen (k := 3) (n := 1256) (Nat.le_of_ble_eq_true rfl) (Nat.le_of_ble_eq_true rfl) ?_
  exact W.vret hx hb hr (fun t ht hW => ⟨⟨(q1, q2, q3), rfl, trivial, by rw [ht]; exact hP, hD⟩, hS.F ht⟩) hS.2.2 dSi_28
theorem rS {ad : Nat → Nat} {σ : MS} {k : Nat} (hI : ∀ s, gI σ k s = 0) (hR : ∀ s, gR σ k s = none) : (List.range (clN 8)).map (rF ad σ 8 k) = [.ref (ad (k + 1)), .ref (ad (k + 2)), .ref (ad (k + 3)), .int 0, .int 0, .int 0, .null, .int 0, .null, .int 0, .int 0] := by
  have e : (List.range (clN 8)).map (rF ad σ 8 k) = [rF ad σ 8 k 0, rF ad σ 8 k 1, rF ad σ 8 k 2, rF ad σ 8 k 3, rF ad σ 8 k 4, rF ad σ 8 k 5, rF ad σ 8 k 6, rF ad σ 8 k 7, rF ad σ 8 k 8, rF ad σ 8 k 9, rF ad σ 8 k 10] := rfl
  have h3 : ∀ s, Value.int (rI (gI σ k s)) = .int 0 := fun s => by rw [hI, rI0]
  have h6 : ∀ s, va_rf ((gR σ k s).map ad) = .null := fun s => by rw [hR]; rfl
  rw [e, show rF ad σ 8 k 0 = .ref (ad (k + 1)) from rfl, show rF ad σ 8 k 1 = .ref (ad (k + 2)) from rfl, show rF ad σ 8 k 2 = .ref (ad (k + 3)) from rfl, show rF ad σ 8 k 3 = .int 0 from h3 3, show rF ad σ 8 k 4 = .int 0 from h3 4, show rF ad σ 8 k 5 = .int 0 from h3 5, show rF ad σ 8 k 6 = .null from h6 6, show rF ad σ 8 k 7 = .int 0 from h3 7, show rF ad σ 8 k 8 = .null from h6 8, show rF ad σ 8 k 9 = .int 0 from h3 9, show rF ad σ 8 k 10 = .int 0 from h3 10]
def adS (ad : Nat → Nat) (n q q1 q2 q3 : Nat) : Nat → Nat := fun k => if k = n then q else if k = n + 1 then q1 else if k = n + 2 then q2 else if k = n + 3 then q3 else ad k
theorem adS0 {ad : Nat → Nat} {n q q1 q2 q3 : Nat} : adS ad n q q1 q2 q3 n = q := if_pos rfl
theorem adS1 {ad : Nat → Nat} {n q q1 q2 q3 : Nat} : adS ad n q q1 q2 q3 (n + 1) = q1 := by unfold adS; rw [if_neg (by omega), if_pos rfl]
theorem adS2 {ad : Nat → Nat} {n q q1 q2 q3 : Nat} : adS ad n q q1 q2 q3 (n + 2) = q2 := by unfold adS; rw [if_neg (by omega), if_neg (by omega), if_pos rfl]
theorem adS3 {ad : Nat → Nat} {n q q1 q2 q3 : Nat} : adS ad n q q1 q2 q3 (n + 3) = q3 := by unfold adS; rw [if_neg (by omega), if_neg (by omega), if_neg (by omega), if_pos rfl]
theorem adS_o {ad : Nat → Nat} {n q q1 q2 q3 k : Nat} (h : k < n ∨ n + 4 ≤ k) : adS ad n q q1 q2 q3 k = ad k := by unfold adS; rw [if_neg (by omega), if_neg (by omega), if_neg (by omega), if_neg (by omega)]
theorem alS_k (σ : MS) : (alS σ).2.2.2.2.1 (nC σ) = (28, 0) ∧ (alS σ).2.2.2.2.1 (nC σ + 1) = (4, 1188) ∧ (alS σ).2.2.2.2.1 (nC σ + 2) = (3, 4) ∧ (alS σ).2.2.2.2.1 (nC σ + 3) = (3, 64) := by
  refine ⟨?_, ?_, ?_, ?_⟩
  · show (if nC σ = nC σ then _ else _) = _
    rw [if_pos rfl]
  · show (if nC σ + 1 = nC σ then _ else if nC σ + 1 = nC σ + 1 then _ else _) = _
    rw [if_neg (by omega), if_pos rfl]
  · show (if nC σ + 2 = nC σ then _ else if nC σ + 2 = nC σ + 1 then _ else if nC σ + 2 = nC σ + 2 then _ else _) = _
    rw [if_neg (by omega), if_neg (by omega), if_pos rfl]
  · show (if nC σ + 3 = nC σ then _ else if nC σ + 3 = nC σ + 1 then _ else if nC σ + 3 = nC σ + 2 then _ else if nC σ + 3 = nC σ + 3 then _ else _) = _
    rw [if_neg (by omega), if_neg (by omega), if_neg (by omega), if_pos rfl]
theorem ok_S {σ : MS} (hO : mOk σ) (hlim : nC (alS σ) < scrK) : mOk (alS σ) := grown_ok hO (grown_S σ) hlim fun k a b => by
  obtain ⟨e0, e1, e2, e3⟩ := alS_k σ
  have : k = nC σ ∨ k = nC σ + 1 ∨ k = nC σ + 2 ∨ k = nC σ + 3 := by omega
  rcases this with rfl | rfl | rfl | rfl
  · rw [e0]; exact ⟨by omega, ⟨by omega, by omega, by omega⟩, fun _ => by omega⟩
  · rw [e1]; exact ⟨by omega, ⟨by omega, by omega, by omega⟩, fun h => absurd (show (4 : Nat) = 28 from h) (by decide)⟩
  · rw [e2]; exact ⟨by omega, ⟨by omega, by omega, by omega⟩, fun h => absurd (show (3 : Nat) = 28 from h) (by decide)⟩
  · rw [e3]; exact ⟨by omega, ⟨by omega, by omega, by omega⟩, fun h => absurd (show (3 : Nat) = 28 from h) (by decide)⟩
theorem mW_S {cA ad : Nat → Nat} {σ : MS} {q q1 q2 q3 : Nat} (hO : mOk σ) (hlim : nC (alS σ) < scrK) : mW cA (adS ad (nC σ) q q1 q2 q3) (alS σ) = mW cA ad σ ++ [(q, .inr (8, [.ref q1, .ref q2, .ref q3, .int 0, .int 0, .int 0, .null, .int 0, .null, .int 0, .int 0])), (q1, .inl (cA 4, 1188, .inr (.inl (fun _ => 0)))), (q2, .inl (cA 3, 4, .inl (fun _ => 0))), (q3, .inl (cA 3, 64, .inl (fun _ => 0)))] := by
  rw [grown_mW hO (grown_S σ) (ad := ad) (fun k hk => adS_o (Or.inl hk))]
  congr 1
  obtain ⟨e0, e1, e2, e3⟩ := alS_k σ
  have k0 : kd (alS σ) (nC σ) = (28, 0) := (grown_kN hO (grown_S σ) hlim (Nat.le_refl _) (by omega)).trans e0
  have k1 : kd (alS σ) (nC σ + 1) = (4, 1188) := (grown_kN hO (grown_S σ) hlim (by omega) (by omega)).trans e1
  have k2 : kd (alS σ) (nC σ + 2) = (3, 4) := (grown_kN hO (grown_S σ) hlim (by omega) (by omega)).trans e2
  have k3 : kd (alS σ) (nC σ + 3) = (3, 64) := (grown_kN hO (grown_S σ) hlim (by omega) (by omega)).trans e3
  have zI : ∀ i s, i < 4 → gI (alS σ) (nC σ + i) s = 0 := fun i s h => zr_in (show nC σ ≤ nC σ + i ∧ nC σ + i < nC σ + 4 by omega)
  have zL : ∀ i s, i < 4 → gL (alS σ) (nC σ + i) s = 0 := fun i s h => zr_in (show nC σ ≤ nC σ + i ∧ nC σ + i < nC σ + 4 by omega)
  have zR : ∀ i s, i < 4 → gR (alS σ) (nC σ + i) s = none := fun i s h => zr_in (show nC σ ≤ nC σ + i ∧ nC σ + i < nC σ + 4 by omega)
  show [(adS ad (nC σ) q q1 q2 q3 (nC σ), mE cA (adS ad (nC σ) q q1 q2 q3) (alS σ) (nC σ)), (adS ad (nC σ) q q1 q2 q3 (nC σ + 1), mE cA (adS ad (nC σ) q q1 q2 q3) (alS σ) (nC σ + 1)), (adS ad (nC σ) q q1 q2 q3 (nC σ + 2), mE cA (adS ad (nC σ) q q1 q2 q3) (alS σ) (nC σ + 2)), (adS ad (nC σ) q q1 q2 q3 (nC σ + 3), mE cA (adS ad (nC σ) q q1 q2 q3) (alS σ) (nC σ + 3))] = _
  rw [mE_obj (c := 8) (by rw [k0]), mE_longs (by rw [k1]), mE_ints (ty := 3) (by rw [k2]) (by omega), mE_ints (ty := 3) (by rw [k3]) (by omega), rS (k := nC σ) (fun s => zI 0 s (by omega)) (fun s => zR 0 s (by omega)), k1, k2, k3, adS0, adS1, adS2, adS3]
  have fL : (fun i => rJ (gL (alS σ) (nC σ + 1) i)) = fun _ => 0 := funext fun i => by rw [zL 1 i (by omega)]; rfl
  have fI2 : (fun i => rI (gI (alS σ) (nC σ + 2) i)) = fun _ => 0 := funext fun i => by rw [zI 2 i (by omega)]; exact rI0
  have fI3 : (fun i => rI (gI (alS σ) (nC σ + 3) i)) = fun _ => 0 := funext fun i => by rw [zI 3 i (by omega)]; exact rI0
  rw [fL, fI2, fI3]
section NEWS
variable {p : Program} {l : Launch} {e : Env} {R : Room} {s : State} {m : MethodId} {args : Array Value} {below : List Frame} {meth : Method} {c : Code} {H : Heap} {locs : List Loc} {cells slots : Nat} {Q : State → Prop}
variable {cc : ByteArray} {pc nL : Nat} {ls : Array Slot} {lc : List (Nat × Value)} {rest : List Value} {D : va_G} {A : Nat → Prop} {ws : va_W} {cA : Nat → Nat}
set_option maxHeartbeats 1000000 in
theorem va_newS (hx : p.tables.exec = Jvm.exec) (hb : c.code = cc) (hml : c.maxLocals = nL) (hown : s.vm.findClass RX1 = some m.cls) (hts : ∀ w ∈ tbG, w.before args s = true) (hl : lv_has ls nL lc) (hK : va_K D vwCl (tysL cA) s) (hP : va_P D vwCl ws H) (hD : va_D A ws) (hS : va_S A s.heap H locs) (hA : ∀ q, s.heap.size ≤ q → A q) (hR : 2 ≤ R.frames ∧ 32 ≤ R.locals) (hc : cells + 4 ≤ R.cells) (hs : slots + 1267 ≤ R.slots) (hw : (rest.map fun v => v.category).sum ≤ 7) (d0 : decode cc pc = .ok (.new 3, 3)) (d1 : decode cc (pc + 3) = .ok (.dup, 1)) (d2 : decode cc (pc + 3 + 1) = .ok (.invokespecial 52, 3))
    (kk : ∀ (q q1 q2 q3 : Nat) (H1 : Heap) (locs1 : List Loc), va_P D vwCl (ws ++ [(q, .inr (8, [.ref q1, .ref q2, .ref q3, .int 0, .int 0, .int 0, .null, .int 0, .null, .int 0, .int 0])), (q1, .inl (cA 4, 1188, .inr (.inl (fun _ => 0)))), (q2, .inl (cA 3, 4, .inl (fun _ => 0))), (q3, .inl (cA 3, 64, .inl (fun _ => 0)))]) H1 → va_D A (ws ++ [(q, .inr (8, [.ref q1, .ref q2, .ref q3, .int 0, .int 0, .int 0, .null, .int 0, .null, .int 0, .int 0])), (q1, .inl (cA 4, 1188, .inr (.inl (fun _ => 0)))), (q2, .inl (cA 3, 4, .inl (fun _ => 0))), (q3, .inl (cA 3, 64, .inl (fun _ => 0)))]) → va_S A s.heap H1 locs1 → W p l e R s m args below meth c H1 locs1 (cells + 4) (slots + 1267) Q (F0 m (pc + 3 + 1 + 3) ls (.ref q :: rest))) : W p l e R s m args below meth c H locs cells slots Q (F0 m pc ls rest) := by
  refine va_new (ci := 8) (fs := [.null, .null, .null, .int 0, .int 0, .int 0, .null, .int 0, .null, .int 0, .int 0]) (C := RX9) (T := TX9) (N := 11) hx hb hts in9 tyX9 tyX9_ok hown (hts _ siA5) (hts _ siA6) (hts _ siA0) hK hP hD hS hA rfl zz_df9 (by omega) (by omega) d0 (fun q H hP hD hS => ?_)
  refine lv_dup hx hb d1 rfl ?_
  have hPc : va_P D vwCl [(q, .inr (8, [.null, .null, .null, .int 0, .int 0, .int 0, .null, .int 0, .null, .int 0, .int 0]))] H := fun k x hk => by
    have : k = 0 := by
      have := (List.getElem?_eq_some_iff.mp hk).1
      simpa using this
    subst this
    exact hP ws.length x (by rw [List.getElem?_append_right (Nat.le_refl _), Nat.sub_self]; exact hk)
  have hDc : va_D (fun _ => True) [(q, (.inr (8, [.null, .null, .null, .int 0, .int 0, .int 0, .null, .int 0, .null, .int 0, .int 0]) : va_E))] := ⟨fun i j a b hi hj _ => by
    have h1 := (List.getElem?_eq_some_iff.mp hi).1
    have h2 := (List.getElem?_eq_some_iff.mp hj).1
    simp at h1 h2
    omega, fun _ _ _ => trivial⟩
  have hFc : ∀ q9, va_A [(q, (.inr (8, [.null, .null, .null, .int 0, .int 0, .int 0, .null, .int 0, .null, .int 0, .int 0]) : va_E))] H.size q9 → A q9 := va_free hD hS hA [ws.length] (by simp)
  refine va_callv (va_runI (As := []) (rest := .ref q :: rest) ⟨hx, hb, hml, hown, hts⟩ (si_Met l D cA q H.size) ⟨⟨rfl, rfl, ?_, ?_, pay_in hts (fun w hw => ?_), List.mem_cons_self, hts _ siA9, hts _ siA0, ⟨by decide, by decide⟩, fun sig hsig => ?_, hts _ siA7⟩, rfl, hts _ siA8⟩ ⟨fun a U g mk z => by obtain ⟨z0, z1, zP, zK, zD⟩ := z; exact ⟨z0, z1, zP, va_K.moved (u := U) (U := U.calling g mk a) (Vm.Alike.refl U.vm) zK, zD⟩, fun U hU hW => ⟨rfl, by rw [hU], by rw [hU]; exact hPc, va_K.moved hW.alike hK, hDc⟩⟩ rfl rfl hl.1 rfl (lv_room ?_) d2 ⟨by omega, by omega⟩) hS (fun z _ h => hFc z h) hFc (fun u t H1 locs ht hvm hw9 hB hz1 hk1 hS => ?_)
  · show 1 + 1 ≤ R.frames
    omega
  · show 8 + (1 + 11) + 12 ≤ R.locals
    omega
  · rcases List.mem_cons.mp hw with e | h
    · rw [e]; exact ⟨siA9, good_of_word (tbG_good siA9)⟩
    · exact ⟨h, good_of_word (tbG_good h)⟩
  · have e : (parseMethodDescriptor yX9_init.desc).map (fun d => d.parameters.length) = some 0 := by decide +kernel
    rw [hsig] at e
    exact (Option.some.inj e).symm
  · show 1 + (rest.map fun v => v.category).sum ≤ 8
    omega
  obtain ⟨q1, q2, q3⟩ := u
  obtain ⟨hP1, hD1⟩ := hB
  rw [ht] at hP1
  obtain ⟨hP2, hD2⟩ := sz_join hP hD hk1 hFc hP1 hD1
  exact kk q q1 q2 q3 H1 locs hP2 hD2 hS
end NEWS
