/-! ===== an index that is looked at ===== -/
def yCk : MethodName := ⟨"java/lang/String", "checkIndex", "(II)V"⟩
def yPc : MethodName := ⟨"jdk/internal/util/Preconditions", "checkIndex", "(IILjava/util/function/BiFunction;)I"⟩
def ckT : List (Nat × Jvm.Cond) := [(340, .initialized "jdk/internal/util/Preconditions"), (622, .methodLink "java/lang/StringLatin1" 9 yCk), (0, .static yCk), (0, .code yCk prog_17_method_155_code 2 none), (0, .fieldLink "java/lang/String" 1053 "jdk/internal/util/Preconditions" "SIOOBE_FORMATTER" "Ljava/util/function/BiFunction;"), (1, .methodLink "java/lang/String" 1059 yPc), (0, .static yPc), (0, .code yPc prog_22_method_11_code 3 (some .int))]
set_option maxRecDepth 100000 in
theorem ck_ok : gapW id lw_tbl ckT = true := by decide +kernel
theorem ckA {w : Jvm.Cond} (h : w ∈ ckT.map (·.2)) (g : goodWord w = true) : w ∈ tbG := by
  obtain ⟨x, hx, rfl⟩ := List.mem_map.mp h
  exact tbG_in (gapW_mem id ckT lw_tbl ck_ok x hx) g
theorem ckA0 : Jvm.Cond.initialized "jdk/internal/util/Preconditions" ∈ tbG := ckA (List.mem_of_getElem? (i := 0) rfl) rfl
theorem ckA1 : Jvm.Cond.methodLink "java/lang/StringLatin1" 9 yCk ∈ tbG := ckA (List.mem_of_getElem? (i := 1) rfl) rfl
theorem ckA2 : Jvm.Cond.static yCk ∈ tbG := ckA (List.mem_of_getElem? (i := 2) rfl) rfl
theorem ckA3 : Jvm.Cond.code yCk prog_17_method_155_code 2 none ∈ tbG := ckA (List.mem_of_getElem? (i := 3) rfl) rfl
theorem ckA4 : Jvm.Cond.fieldLink "java/lang/String" 1053 "jdk/internal/util/Preconditions" "SIOOBE_FORMATTER" "Ljava/util/function/BiFunction;" ∈ tbG := ckA (List.mem_of_getElem? (i := 4) rfl) rfl
theorem ckA5 : Jvm.Cond.methodLink "java/lang/String" 1059 yPc ∈ tbG := ckA (List.mem_of_getElem? (i := 5) rfl) rfl
theorem ckA6 : Jvm.Cond.static yPc ∈ tbG := ckA (List.mem_of_getElem? (i := 6) rfl) rfl
theorem ckA7 : Jvm.Cond.code yPc prog_22_method_11_code 3 (some .int) ∈ tbG := ckA (List.mem_of_getElem? (i := 7) rfl) rfl
theorem dPc0 : decode prog_22_method_11_code 0 = .ok (.iload_n 0, 1) := by decide +kernel
theorem dPc1 : decode prog_22_method_11_code 1 = .ok (.ifCond .lt 8, 3) := by decide +kernel
theorem dPc4 : decode prog_22_method_11_code 4 = .ok (.iload_n 0, 1) := by decide +kernel
theorem dPc5 : decode prog_22_method_11_code 5 = .ok (.iload_n 1, 1) := by decide +kernel
theorem dPc6 : decode prog_22_method_11_code 6 = .ok (.if_icmp .lt 10, 3) := by decide +kernel
theorem dPc16 : decode prog_22_method_11_code 16 = .ok (.iload_n 0, 1) := by decide +kernel
theorem dPc17 : decode prog_22_method_11_code 17 = .ok (.ireturn, 1) := by decide +kernel
theorem dCk0 : decode prog_17_method_155_code 0 = .ok (.iload_n 0, 1) := by decide +kernel
theorem dCk1 : decode prog_17_method_155_code 1 = .ok (.iload_n 1, 1) := by decide +kernel
theorem dCk2 : decode prog_17_method_155_code 2 = .ok (.getstatic 1053, 3) := by decide +kernel
theorem dCk5 : decode prog_17_method_155_code 5 = .ok (.invokestatic 1059, 3) := by decide +kernel
theorem dCk8 : decode prog_17_method_155_code 8 = .ok (.pop, 1) := by decide +kernel
theorem dCk9 : decode prog_17_method_155_code 9 = .ok (.return_, 1) := by decide +kernel
def wsPc : List Jvm.Cond := [.code yPc prog_22_method_11_code 3 (some .int)]
def PcV (D : va_G) (cA ad : Nat → Nat) (σ : MS) (sz : Nat) (vs : List Value) : Array Value → State → Prop := va_Pc vs (fun U => U.heap.size = sz ∧ va_P D vwCl (mW cA ad σ) U.heap ∧ va_K D vwCl (tysL cA) U ∧ va_D (fun _ => True) (mW cA ad σ))
theorem pc_Met {l : Launch} {D : va_G} {cA ad : Nat → Nat} {σ : MS} {sz : Nat} (hO : mOk σ) {x n : Int} {v3 : Value} (hx : inR x) (hn : inR n) (h : 0 ≤ x ∧ x < n) (hv3 : v3.category = 1) :
    Met l yPc wsPc { frames := 0, cells := 0, slots := 0, locals := 0 } (PcV D cA ad σ sz [.int (rI x), .int (rI n), v3]) (QcM D cA ad σ sz (some (mI x)) σ) 0 0 (va_A (mW cA ad σ) sz) := by
  refine Met_ofWF (cc := prog_22_method_11_code) (maxL := 3) (ret := some .int) (ws' := []) (plainFor_of_name (by decide +kernel)) rfl ?_
  intro p e s m args below meth c s₁ B hml hv0
  obtain ⟨rfl, hsz, hP, hK, hD0⟩ := hv0
  subst hsz
  have hl := lv_entry [.int (rI x), .int (rI n), v3] (n := 3) (by
    show ([_] ++ ([_] ++ ((lg_sl [v3]) : List _))).length ≤ 3
    cases v3 <;> first | exact Nat.le_refl 3 | exact absurd (show (2 : Nat) = 1 from hv3) (by decide))
  rw [lg_entry_eq]
  generalize (lg_sl [Value.int (rI x), .int (rI n), v3] ++ List.replicate (3 - (lg_sl [Value.int (rI x), .int (rI n), v3]).length) Slot.unset).toArray = LS at hl ⊢
  have l0 : LS[0]? = some (.val (.int (rI x))) := hl.2.2 (0, _) (List.mem_cons_self)
  have l1 : LS[1]? = some (.val (.int (rI n))) := hl.2.2 (1, _) (List.mem_cons_of_mem _ List.mem_cons_self)
  have h00 : inR 0 := by unfold inR; omega
  refine lv_iload_n B.exec B.bytes dPc0 rfl l0 ?_
  refine lv_if_lt B.exec B.bytes dPc1 (tgt := 9) rfl (fun z => ?_) (fun _ => ?_)
  · have := (rI_lt hx h00).mp z
    omega
  refine lv_iload_n B.exec B.bytes dPc4 rfl l0 ?_
  refine lv_iload_n B.exec B.bytes dPc5 rfl l1 ?_
  refine lv_icmp_lt B.exec B.bytes dPc6 (tgt := 16) rfl (fun _ => ?_) (fun z => ?_)
  · refine lv_iload_n B.exec B.bytes dPc16 rfl l0 ?_
    exact W.iret (v := rI x) B.exec B.bytes (by rw [B.returns]) (fun t ht hW => ⟨⟨ad, fun _ _ => rfl, rfl, by rw [ht]; exact hP, va_K.moved hW.alike hK, hD0.self (sz := s.heap.size), hO, fun v h => by cases h; exact hx⟩, (va_S.rf (A := va_A (mW cA ad σ) s.heap.size)).F ht⟩) (fun _ h => by cases h) dPc17
  · exact absurd ((rI_lt hx hn).mpr h.2) z
def wsCk : List Jvm.Cond := .code yCk prog_17_method_155_code 2 none :: tbG
def PcK (D : va_G) (cA ad : Nat → Nat) (σ : MS) (sz : Nat) (vs : List Value) : Array Value → State → Prop := va_Pc vs (fun U => U.heap.size = sz ∧ va_P D vwCl (mW cA ad σ) U.heap ∧ va_K D vwCl (tysL cA) U ∧ va_D (fun _ => True) (mW cA ad σ) ∧ va_Zq "jdk/internal/util/Preconditions" "SIOOBE_FORMATTER" "Ljava/util/function/BiFunction;" (va_A (mW cA ad σ) sz) U U.heap)
theorem pcV_blind {D : va_G} {cA ad : Nat → Nat} {σ : MS} {sz : Nat} {vs : List Value} : FrameBlind (PcV D cA ad σ sz vs) := fun a U g mk q => by
  obtain ⟨q0, q1, qP, qK, qD⟩ := q
  exact ⟨q0, q1, qP, va_K.moved (u := U) (U := U.calling g mk a) (Vm.Alike.refl U.vm) qK, qD⟩
theorem pcK_blind {D : va_G} {cA ad : Nat → Nat} {σ : MS} {sz : Nat} {vs : List Value} : FrameBlind (PcK D cA ad σ sz vs) := fun a U g mk q => by
  obtain ⟨q0, q1, qP, qK, qD, qZ⟩ := q
  exact ⟨q0, q1, qP, va_K.moved (u := U) (U := U.calling g mk a) (Vm.Alike.refl U.vm) qK, qD, va_Zq.moved (u := U) (U := U.calling g mk a) (Vm.Alike.refl U.vm) qZ⟩
theorem ck_Met {l : Launch} {D : va_G} {cA ad : Nat → Nat} {σ : MS} {sz : Nat} (hO : mOk σ) {x n : Int} (hx : inR x) (hn : inR n) (h : 0 ≤ x ∧ x < n) :
    Met l yCk wsCk { frames := 1, cells := 0, slots := 0, locals := 22 } (PcK D cA ad σ sz [.int (rI x), .int (rI n)]) (QcM D cA ad σ sz none σ) 0 0 (va_A (mW cA ad σ) sz) := by
  refine Met_ofWF (cc := prog_17_method_155_code) (maxL := 2) (ret := none) (ws' := tbG) (plainFor_of_name (by decide +kernel)) rfl ?_
  intro p e s m args below meth c s₁ B hml hv0
  obtain ⟨rfl, hsz, hP, hK, hD0, hZ⟩ := hv0
  subst hsz
  have hts : ∀ w ∈ wsCk, w.before _ s = true := atoms_spec (ws := wsCk) B.pre
  have hts1 : ∀ w ∈ tbG, w.before _ s = true := fun w hw => hts w (List.mem_cons_of_mem _ hw)
  have hown : s.vm.findClass "java/lang/String" = some m.cls := findClass_of_methodNamed B.named
  have hD := hD0.self (sz := s.heap.size)
  have hl := lv_entry [.int (rI x), .int (rI n)] (n := 2) (Nat.le_refl 2)
  rw [lg_entry_eq]
  generalize (lg_sl [Value.int (rI x), .int (rI n)] ++ List.replicate (2 - (lg_sl [Value.int (rI x), .int (rI n)]).length) Slot.unset).toArray = LS at hl ⊢
  have l0 : LS[0]? = some (.val (.int (rI x))) := hl.2.2 (0, _) (List.mem_cons_self)
  have l1 : LS[1]? = some (.val (.int (rI n))) := hl.2.2 (1, _) (List.mem_cons_of_mem _ List.mem_cons_self)
  refine lv_iload_n B.exec B.bytes dCk0 rfl l0 ?_
  refine lv_iload_n B.exec B.bytes dCk1 rfl l1 ?_
  have key : ∀ v3 : Value, v3.category = 1 → W p l e (headSpec wsCk { frames := 1, cells := 0, slots := 0, locals := 22 }).room s m (#[.int (rI x), .int (rI n)] : Array Value) below meth c s.heap [] 0 0 (MQ below (QcM D cA ad σ s.heap.size none σ) #[.int (rI x), .int (rI n)] s 0 0 (va_A (mW cA ad σ) s.heap.size)) (F0 m 5 LS (v3 :: .int (rI n) :: .int (rI x) :: [])) := by
    intro v3 h3
    refine va_callG (σ' := σ) (r := some (mI x)) (A0 := va_A (mW cA ad σ) s.heap.size) (H0 := s.heap) (va_runS (y := yPc) (own := "java/lang/String") (index := 1059) (As := [.int (rI x), .int (rI n), v3]) (rest := []) (nL := 2) (n := 3) ⟨B.exec, B.bytes, hml, hown, hts1⟩ (pc_Met hO hx hn h h3) ⟨⟨rfl, rfl, Nat.le_refl _, Nat.le_refl _, pay_in hts1 (fun w hw => ?_), List.mem_cons_self, hts1 _ ckA7, hts1 _ ckA0, ⟨by decide, by decide⟩, fun sig hsig => ?_, hts1 _ ckA5⟩, hts1 _ ckA6⟩ ⟨pcV_blind, fun U hU hW => ⟨rfl, by rw [hU], by rw [hU]; exact hP, va_K.moved hW.alike hK, hD0⟩⟩ rfl rfl hl.1 rfl (lv_room (by decide)) dCk5 ⟨Nat.le_refl _, Nat.le_refl _⟩) hD va_S.rf (fun q h => Or.inr h) (fun q h => h) (fun ad' H1 locs1 hext hP1 hD1 hO1 hvo hS1 => ?_)
    · rw [List.mem_singleton.mp hw]
      exact ⟨ckA7, good_of_word (tbG_good ckA7)⟩
    · have e : (parseMethodDescriptor yPc.desc).map (fun d => d.parameters.length) = some 3 := by decide +kernel
      rw [hsig] at e
      exact (Option.some.inj e).symm
    · refine lv_pop B.exec B.bytes dCk8 rfl ?_
      exact W.vret B.exec B.bytes (by rw [B.returns]) (fun t ht hW => ⟨⟨ad', hext, rfl, by rw [ht]; exact hP1, va_K.moved hW.alike hK, hD1, hO1, fun v h => by cases h⟩, hS1.F ht⟩) hS1.2.2 dCk9
  rcases hZ with hZ | ⟨t, hZ⟩
  · exact va_gets B.exec B.bytes hZ va_S.rf hown (hts1 _ ckA4) (fun _ h => h) dCk2 (key .null rfl)
  · exact va_gets B.exec B.bytes hZ va_S.rf hown (hts1 _ ckA4) (fun _ h => h) dCk2 (key (.ref t) rfl)
