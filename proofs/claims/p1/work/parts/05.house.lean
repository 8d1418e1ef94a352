def zw_zm_isSlot : List Cond := .code yX8_isSlot cX8_isSlot 1 (some .boolean) :: ([] ++ [])
set_option maxHeartbeats 1000000 in
set_option maxRecDepth 100000 in
/-- zm_isSlot -/
theorem zm_isSlot (l : Launch) (dC : Nat → ClassId) (dI : Nat → Nat → Nat) (cB cI cJ cZ : ClassId) (sz : Nat) (p0 : Int32) : Met l yX8_isSlot zw_zm_isSlot ({ frames := 0, cells := 0, slots := 0, locals := 0 }) (va_Pc [.int p0] (fun U => U.heap.size = sz ∧ va_P (dC, dI) zz_cl [] U.heap ∧ va_K (dC, dI) zz_cl [(cB, .byte), (cI, .int), (cJ, .long), (cZ, .boolean)] U ∧ va_D (fun _ => True) [])) (va_Qi (fun (r : Int32) (_ : Unit) => (r = 1 ∧ (0 ≤ p0.toInt ∧ p0.toInt < 8)) ∨ (r = 0 ∧ ¬ (0 ≤ p0.toInt ∧ p0.toInt < 8))) (fun (_ : Unit) _ => True) (va_A [] sz)) 0 0 (va_A [] sz) := by
  refine Met.ofW (cc := cX8_isSlot) (maxL := 1) (ret := (some .boolean)) (by decide +kernel) rfl ?_
  intro p e s m args below meth c s₁ B hml hv
  obtain ⟨rfl, hsz, hP, hK, hD0⟩ := hv
  have hx := B.exec
  have hb := B.bytes
  have hr := B.returns
  have hts := atoms_spec (ws := zw_zm_isSlot) B.pre
  have hown : s.vm.findClass RX8 = some m.cls := findClass_of_methodNamed B.named
  have hlocks := B.notSynchronized
  subst hsz
  have hD := hD0.self (sz := s.heap.size)
  generalize hAe : va_A [] s.heap.size = A at hD ⊢
  have hA : ∀ q : Nat, s.heap.size ≤ q → A q := fun q h => by rw [← hAe]; exact Or.inr h
  have hS : va_S A s.heap s.heap [] := va_S.rf
  have hP : va_P (dC, dI) zz_cl [] s.heap := hP
  have hl := lv_entry ([.int p0]) (n := 1) (Nat.le_of_ble_eq_true rfl)
  rw [lg_entry_eq]
  generalize (lg_sl ([.int p0]) ++ List.replicate (1 - (lg_sl ([.int p0])).length) Slot.unset).toArray = ls at hl ⊢
  have hl : lv_has ls 1 [(0, .int p0)] := hl
  refine lv_iload_n hx hb dX8_isSlot_0 rfl (lv_at hl 0 rfl) ?_
  refine lv_if_lt (tgt := 14) hx hb dX8_isSlot_1 (by decide +kernel) (fun c_1 => ?_) (fun c_1 => ?_)
  · refine lv_iconst (v := 0) hx hb dX8_isSlot_14 (by decide +kernel) ?_
    exact W.zret (v := 0) (ty := .boolean) hx hb hr rfl (fun t ht hW => ⟨⟨0, (), rfl, Or.inr ⟨rfl, by have qc_1 := (fa_lt _ _).mp c_1; have k0 : (0 : Int32).toInt = 0 := rfl; omega⟩, trivial⟩, hS.F ht⟩) hS.2.2 dX8_isSlot_15
  · refine lv_iload_n hx hb dX8_isSlot_4 rfl (lv_at hl 0 rfl) ?_
    refine lv_bipush (v := 8) hx hb dX8_isSlot_5 (by decide +kernel) ?_
    refine lv_icmp_ge (tgt := 14) hx hb dX8_isSlot_7 (by decide +kernel) (fun c_2 => ?_) (fun c_2 => ?_)
    · refine lv_iconst (v := 0) hx hb dX8_isSlot_14 (by decide +kernel) ?_
      exact W.zret (v := 0) (ty := .boolean) hx hb hr rfl (fun t ht hW => ⟨⟨0, (), rfl, Or.inr ⟨rfl, by have qc_1 := mt (fa_lt _ _).mpr c_1; have qc_2 := (fa_le _ _).mp c_2; have k0 : (0 : Int32).toInt = 0 := rfl; have k8 : (8 : Int32).toInt = 8 := rfl; omega⟩, trivial⟩, hS.F ht⟩) hS.2.2 dX8_isSlot_15
    · refine lv_iconst (v := 1) hx hb dX8_isSlot_10 (by decide +kernel) ?_
      refine lv_goto (tgt := 15) hx hb dX8_isSlot_11 (by decide +kernel) ?_
      exact W.zret (v := 1) (ty := .boolean) hx hb hr rfl (fun t ht hW => ⟨⟨1, (), rfl, Or.inl ⟨rfl, by have qc_1 := mt (fa_lt _ _).mpr c_1; have qc_2 := mt (fa_le _ _).mpr c_2; have k0 : (0 : Int32).toInt = 0 := rfl; have k8 : (8 : Int32).toInt = 8 := rfl; omega⟩, trivial⟩, hS.F ht⟩) hS.2.2 dX8_isSlot_15
def zw_zm_useTape : List Cond := .code yX11_useTape cX11_useTape 2 (some .int) :: ([.fieldLink RX11 13 "FilterHouse" "tapeSize" "I"] ++ (wsX110 ++ []))
theorem zz_in_zm_useTape_X11 : ∀ w ∈ wsX110, w ∈ zw_zm_useTape := fun w h => List.mem_cons_of_mem _ (List.mem_append_right _ (List.mem_append_left _ h))
set_option maxHeartbeats 1000000 in
set_option maxRecDepth 100000 in
/-- zm_useTape -/
theorem zm_useTape (l : Launch) (dC : Nat → ClassId) (dI : Nat → Nat → Nat) (cB cI cJ cZ : ClassId) (h0 h1 h2 h3 h4 h5 h6 h7 : Nat) (sz : Nat) : Met l yX11_useTape zw_zm_useTape ({ frames := 0, cells := 0, slots := 0, locals := 0 }) (va_Pc [.ref h0] (fun U => U.heap.size = sz ∧ va_P (dC, dI) zz_cl [(h0, .inr (10, [.ref h1, .int 0, .ref h2, .ref h3, .ref h4, .ref h5, .ref h6, .ref h7]))] U.heap ∧ va_K (dC, dI) zz_cl [(cB, .byte), (cI, .int), (cJ, .long), (cZ, .boolean)] U ∧ va_D (fun _ => True) [(h0, .inr (10, [.ref h1, .int 0, .ref h2, .ref h3, .ref h4, .ref h5, .ref h6, .ref h7]))])) (va_Qi (fun (r : Int32) (_ : Unit) => r = 0) (fun (_ : Unit) t => va_P (dC, dI) zz_cl [(h0, .inr (10, [.ref h1, .int 0, .ref h2, .ref h3, .ref h4, .ref h5, .ref h6, .ref h7]))] t.heap ∧ va_D (va_A [(h0, .inr (10, [.ref h1, .int 0, .ref h2, .ref h3, .ref h4, .ref h5, .ref h6, .ref h7]))] sz) [(h0, .inr (10, [.ref h1, .int 0, .ref h2, .ref h3, .ref h4, .ref h5, .ref h6, .ref h7]))]) (va_A [(h0, .inr (10, [.ref h1, .int 0, .ref h2, .ref h3, .ref h4, .ref h5, .ref h6, .ref h7]))] sz)) 0 0 (va_A [(h0, .inr (10, [.ref h1, .int 0, .ref h2, .ref h3, .ref h4, .ref h5, .ref h6, .ref h7]))] sz) := by
  refine Met.ofW (cc := cX11_useTape) (maxL := 2) (ret := (some .int)) (by decide +kernel) rfl ?_
  intro p e s m args below meth c s₁ B hml hv
  obtain ⟨rfl, hsz, hP, hK, hD0⟩ := hv
  have hx := B.exec
  have hb := B.bytes
  have hr := B.returns
  have hts := atoms_spec (ws := zw_zm_useTape) B.pre
  have hown : s.vm.findClass RX11 = some m.cls := findClass_of_methodNamed B.named
  have hlocks := B.notSynchronized
  subst hsz
  have hD := hD0.self (sz := s.heap.size)
  generalize hAe : va_A [(h0, .inr (10, [.ref h1, .int 0, .ref h2, .ref h3, .ref h4, .ref h5, .ref h6, .ref h7]))] s.heap.size = A at hD ⊢
  have hA : ∀ q : Nat, s.heap.size ≤ q → A q := fun q h => by rw [← hAe]; exact Or.inr h
  have hS : va_S A s.heap s.heap [] := va_S.rf
  have hP : va_P (dC, dI) zz_cl [(h0, .inr (10, [.ref h1, .int 0, .ref h2, .ref h3, .ref h4, .ref h5, .ref h6, .ref h7]))] s.heap := hP
  have hl := lv_entry ([.ref h0]) (n := 2) (Nat.le_of_ble_eq_true rfl)
  rw [lg_entry_eq]
  generalize (lg_sl ([.ref h0]) ++ List.replicate (2 - (lg_sl ([.ref h0])).length) Slot.unset).toArray = ls at hl ⊢
  have hl : lv_has ls 2 [(0, .ref h0)] := hl
  refine lv_aload_n hx hb dX11_useTape_0 rfl (lv_at hl 0 rfl) ?_
  refine va_get (D := (dC, dI)) (ci := 10) (v := .int 0) (C := RX11) (T := TX11) (N := 8) hx hb hts zz_in_zm_useTape_X11 hown hK hP 0 rfl rfl 1 (by decide +kernel) (hts (.fieldLink RX11 13 "FilterHouse" "tapeSize" "I") (List.mem_of_getElem? (i := 1) rfl)) (fun _ h9 => h9) rfl dX11_useTape_1 ?_
  refine lv_istore_n (lv' := [(1, .int 0), (0, .ref h0)]) hx hb dX11_useTape_4 rfl hl (by decide +kernel) rfl (fun ls hl => ?_)
  refine lv_aload_n hx hb dX11_useTape_5 rfl (lv_at hl 1 rfl) ?_
  refine lv_iconst (v := 0) hx hb dX11_useTape_6 (by decide +kernel) ?_
  refine va_put (D := (dC, dI)) (ci := 10) (v := .int 0) (ty := .int) (C := RX11) (T := TX11) (N := 8) hx hb hts zz_in_zm_useTape_X11 tyX11 tyX11_ok nmX11 hown hK hP hD hS 0 rfl rfl 1 (by decide +kernel) (hts (.fieldLink RX11 13 "FilterHouse" "tapeSize" "I") (List.mem_of_getElem? (i := 1) rfl)) (fun _ h9 => h9) rfl (by decide +kernel) rfl rfl (Nat.le_of_ble_eq_true rfl) dX11_useTape_7 (fun H locs hP hD hS => ?_)
  have hP : va_P (dC, dI) zz_cl [(h0, .inr (10, [.ref h1, .int 0, .ref h2, .ref h3, .ref h4, .ref h5, .ref h6, .ref h7]))] H := hP
  have hD : va_D A [(h0, .inr (10, [.ref h1, .int 0, .ref h2, .ref h3, .ref h4, .ref h5, .ref h6, .ref h7]))] := hD
  refine lv_iload_n hx hb dX11_useTape_10 rfl (lv_at hl 0 rfl) ?_
  have hP9 := hP.sub (ws' := [(h0, .inr (10, [.ref h1, .int 0, .ref h2, .ref h3, .ref h4, .ref h5, .ref h6, .ref h7]))]) [0] rfl
  have hD9 := hD.sub (ws' := [(h0, .inr (10, [.ref h1, .int 0, .ref h2, .ref h3, .ref h4, .ref h5, .ref h6, .ref h7]))]) [0] (by decide +kernel) rfl
  exact W.iret (v := 0) hx hb hr (fun t ht hW => ⟨⟨0, (), rfl, rfl, by rw [ht]; exact hP9, hD9⟩, hS.F ht⟩) hS.2.2 dX11_useTape_11
def zw_zm_feedNumber0 : List Cond := .code yX11_feedNumber cX11_feedNumber 3 none :: ([.fieldLink RX11 9 "FilterHouse" "tape" "[B", .fieldLink RX11 13 "FilterHouse" "tapeSize" "I"] ++ (wsX110 ++ []))
theorem zz_in_zm_feedNumber0_X11 : ∀ w ∈ wsX110, w ∈ zw_zm_feedNumber0 := fun w h => List.mem_cons_of_mem _ (List.mem_append_right _ (List.mem_append_left _ h))
set_option maxHeartbeats 1000000 in
set_option maxRecDepth 100000 in
/-- zm_feedNumber0 -/
theorem zm_feedNumber0 (l : Launch) (dC : Nat → ClassId) (dI : Nat → Nat → Nat) (cB cI cJ cZ : ClassId) (h0 h1 h2 h3 h4 h5 h6 h7 : Nat) (sz : Nat) (g : Nat → Int32) (p0 : Int32) : Met l yX11_feedNumber zw_zm_feedNumber0 ({ frames := 0, cells := 0, slots := 0, locals := 0 }) (va_Pc [.ref h0, .int p0] (fun U => U.heap.size = sz ∧ va_P (dC, dI) zz_cl [(h0, .inr (10, [.ref h1, .int 0, .ref h2, .ref h3, .ref h4, .ref h5, .ref h6, .ref h7])), (h1, .inl (cB, 4000, .inl g))] U.heap ∧ va_K (dC, dI) zz_cl [(cB, .byte), (cI, .int), (cJ, .long), (cZ, .boolean)] U ∧ va_D (fun _ => True) [(h0, .inr (10, [.ref h1, .int 0, .ref h2, .ref h3, .ref h4, .ref h5, .ref h6, .ref h7])), (h1, .inl (cB, 4000, .inl g))])) (va_Qv (fun (_ : Nat → Int32) => True) (fun (g9 : Nat → Int32) t => va_P (dC, dI) zz_cl [(h0, .inr (10, [.ref h1, .int 4, .ref h2, .ref h3, .ref h4, .ref h5, .ref h6, .ref h7])), (h1, .inl (cB, 4000, .inl g9))] t.heap ∧ va_D (va_A [(h0, .inr (10, [.ref h1, .int 0, .ref h2, .ref h3, .ref h4, .ref h5, .ref h6, .ref h7])), (h1, .inl (cB, 4000, .inl g))] sz) [(h0, .inr (10, [.ref h1, .int 4, .ref h2, .ref h3, .ref h4, .ref h5, .ref h6, .ref h7])), (h1, .inl (cB, 4000, .inl g9))]) (va_A [(h0, .inr (10, [.ref h1, .int 0, .ref h2, .ref h3, .ref h4, .ref h5, .ref h6, .ref h7])), (h1, .inl (cB, 4000, .inl g))] sz)) 0 0 (va_A [(h0, .inr (10, [.ref h1, .int 0, .ref h2, .ref h3, .ref h4, .ref h5, .ref h6, .ref h7])), (h1, .inl (cB, 4000, .inl g))] sz) := by
  refine Met.ofW (cc := cX11_feedNumber) (maxL := 3) (ret := none) (by decide +kernel) rfl ?_
  intro p e s m args below meth c s₁ B hml hv
  obtain ⟨rfl, hsz, hP, hK, hD0⟩ := hv
  have hx := B.exec
  have hb := B.bytes
  have hr := B.returns
  have hts := atoms_spec (ws := zw_zm_feedNumber0) B.pre
  have hown : s.vm.findClass RX11 = some m.cls := findClass_of_methodNamed B.named
  have hlocks := B.notSynchronized
  subst hsz
  have hD := hD0.self (sz := s.heap.size)
  generalize hAe : va_A [(h0, .inr (10, [.ref h1, .int 0, .ref h2, .ref h3, .ref h4, .ref h5, .ref h6, .ref h7])), (h1, .inl (cB, 4000, .inl g))] s.heap.size = A at hD ⊢
  have hA : ∀ q : Nat, s.heap.size ≤ q → A q := fun q h => by rw [← hAe]; exact Or.inr h
  have hS : va_S A s.heap s.heap [] := va_S.rf
  have hP : va_P (dC, dI) zz_cl [(h0, .inr (10, [.ref h1, .int 0, .ref h2, .ref h3, .ref h4, .ref h5, .ref h6, .ref h7])), (h1, .inl (cB, 4000, .inl g))] s.heap := hP
  have hl := lv_entry ([.ref h0, .int p0]) (n := 3) (Nat.le_of_ble_eq_true rfl)
  rw [lg_entry_eq]
  generalize (lg_sl ([.ref h0, .int p0]) ++ List.replicate (3 - (lg_sl ([.ref h0, .int p0])).length) Slot.unset).toArray = ls at hl ⊢
  have hl : lv_has ls 3 [(0, .ref h0), (1, .int p0)] := hl
  refine lv_bipush (v := 24) hx hb dX11_feedNumber_0 (by decide +kernel) ?_
  refine lv_istore_n (lv' := [(2, .int 24), (0, .ref h0), (1, .int p0)]) hx hb dX11_feedNumber_2 rfl hl (by decide +kernel) rfl (fun ls hl => ?_)
  refine lv_iload_n hx hb dX11_feedNumber_3 rfl (lv_at hl 0 rfl) ?_
  refine lv_if_lt (tgt := 36) hx hb dX11_feedNumber_4 (by decide +kernel) (fun c_1 => ?_) (fun c_1 => ?_)
  · exact absurd c_1 (by decide +kernel)
  · refine lv_aload_n hx hb dX11_feedNumber_7 rfl (lv_at hl 1 rfl) ?_
    refine va_get (D := (dC, dI)) (ci := 10) (v := .ref h1) (C := RX11) (T := TX11) (N := 8) hx hb hts zz_in_zm_feedNumber0_X11 hown hK hP 0 rfl rfl 0 (by decide +kernel) (hts (.fieldLink RX11 9 "FilterHouse" "tape" "[B") (List.mem_of_getElem? (i := 1) rfl)) (fun _ h9 => h9) rfl dX11_feedNumber_8 ?_
    refine lv_aload_n hx hb dX11_feedNumber_11 rfl (lv_at hl 1 rfl) ?_
    refine va_get (D := (dC, dI)) (ci := 10) (v := .int 0) (C := RX11) (T := TX11) (N := 8) hx hb hts zz_in_zm_feedNumber0_X11 hown hK hP 0 rfl rfl 1 (by decide +kernel) (hts (.fieldLink RX11 13 "FilterHouse" "tapeSize" "I") (List.mem_of_getElem? (i := 2) rfl)) (fun _ h9 => h9) rfl dX11_feedNumber_12 ?_
    refine lv_iload_n hx hb dX11_feedNumber_15 rfl (lv_at hl 2 rfl) ?_
    refine lv_iload_n hx hb dX11_feedNumber_16 rfl (lv_at hl 0 rfl) ?_
    refine lv_ishr hx hb dX11_feedNumber_17 ?_
    refine lv_topi (fun f_2 ef_2 => ?_)
    refine lv_i2b hx hb dX11_feedNumber_18 rfl ?_
    refine lv_topi (fun f_3 ef_3 => ?_)
    refine va_bast hx hb hK hP hD hS 1 0 rfl rfl (show ¬ ((0 : Int32) < 0 ∨ 4000 ≤ (0 : Int32).toNatClampNeg) by decide +kernel) dX11_feedNumber_19 (fun H locs hP hD hS => ?_)
    have hP : va_P (dC, dI) zz_cl [(h0, .inr (10, [.ref h1, .int 0, .ref h2, .ref h3, .ref h4, .ref h5, .ref h6, .ref h7])), (h1, .inl (cB, 4000, .inl (upd g (0 : Int32).toNatClampNeg (vp_nar .byte f_3))))] H := hP
    have hD : va_D A [(h0, .inr (10, [.ref h1, .int 0, .ref h2, .ref h3, .ref h4, .ref h5, .ref h6, .ref h7])), (h1, .inl (cB, 4000, .inl (upd g (0 : Int32).toNatClampNeg (vp_nar .byte f_3))))] := hD
    generalize upd g (0 : Int32).toNatClampNeg (vp_nar .byte f_3) = g_4 at hP hD
    refine lv_aload_n hx hb dX11_feedNumber_20 rfl (lv_at hl 1 rfl) ?_
    refine lv_dup hx hb dX11_feedNumber_21 rfl ?_
    refine va_get (D := (dC, dI)) (ci := 10) (v := .int 0) (C := RX11) (T := TX11) (N := 8) hx hb hts zz_in_zm_feedNumber0_X11 hown hK hP 0 rfl rfl 1 (by decide +kernel) (hts (.fieldLink RX11 13 "FilterHouse" "tapeSize" "I") (List.mem_of_getElem? (i := 2) rfl)) (fun _ h9 => h9) rfl dX11_feedNumber_22 ?_
    refine lv_iconst (v := 1) hx hb dX11_feedNumber_25 (by decide +kernel) ?_
    refine lv_iadd hx hb dX11_feedNumber_26 ?_
    refine lv_topi (fun f_5 ef_5 => ?_)
    obtain rfl : f_5 = (1 : Int32) := ef_5.trans (by decide +kernel)
    refine va_put (D := (dC, dI)) (ci := 10) (v := .int 1) (ty := .int) (C := RX11) (T := TX11) (N := 8) hx hb hts zz_in_zm_feedNumber0_X11 tyX11 tyX11_ok nmX11 hown hK hP hD hS 0 rfl rfl 1 (by decide +kernel) (hts (.fieldLink RX11 13 "FilterHouse" "tapeSize" "I") (List.mem_of_getElem? (i := 2) rfl)) (fun _ h9 => h9) rfl (by decide +kernel) rfl rfl (Nat.le_of_ble_eq_true rfl) dX11_feedNumber_27 (fun H locs hP hD hS => ?_)
    have hP : va_P (dC, dI) zz_cl [(h0, .inr (10, [.ref h1, .int 1, .ref h2, .ref h3, .ref h4, .ref h5, .ref h6, .ref h7])), (h1, .inl (cB, 4000, .inl g_4))] H := hP
    have hD : va_D A [(h0, .inr (10, [.ref h1, .int 1, .ref h2, .ref h3, .ref h4, .ref h5, .ref h6, .ref h7])), (h1, .inl (cB, 4000, .inl g_4))] := hD
    refine lv_iinc (v := 16) (lv' := [(2, .int 16), (0, .ref h0), (1, .int p0)]) hx hb dX11_feedNumber_30 hl (k := 0) rfl (by decide +kernel) (by decide +kernel) rfl (fun ls hl => ?_)
    refine lv_goto (tgt := 3) hx hb dX11_feedNumber_33 (by decide +kernel) ?_
    refine lv_iload_n hx hb dX11_feedNumber_3 rfl (lv_at hl 0 rfl) ?_
    refine lv_if_lt (tgt := 36) hx hb dX11_feedNumber_4 (by decide +kernel) (fun c_6 => ?_) (fun c_6 => ?_)
    · exact absurd c_6 (by decide +kernel)
    · refine lv_aload_n hx hb dX11_feedNumber_7 rfl (lv_at hl 1 rfl) ?_
      refine va_get (D := (dC, dI)) (ci := 10) (v := .ref h1) (C := RX11) (T := TX11) (N := 8) hx hb hts zz_in_zm_feedNumber0_X11 hown hK hP 0 rfl rfl 0 (by decide +kernel) (hts (.fieldLink RX11 9 "FilterHouse" "tape" "[B") (List.mem_of_getElem? (i := 1) rfl)) (fun _ h9 => h9) rfl dX11_feedNumber_8 ?_
      refine lv_aload_n hx hb dX11_feedNumber_11 rfl (lv_at hl 1 rfl) ?_
      refine va_get (D := (dC, dI)) (ci := 10) (v := .int 1) (C := RX11) (T := TX11) (N := 8) hx hb hts zz_in_zm_feedNumber0_X11 hown hK hP 0 rfl rfl 1 (by decide +kernel) (hts (.fieldLink RX11 13 "FilterHouse" "tapeSize" "I") (List.mem_of_getElem? (i := 2) rfl)) (fun _ h9 => h9) rfl dX11_feedNumber_12 ?_
      refine lv_iload_n hx hb dX11_feedNumber_15 rfl (lv_at hl 2 rfl) ?_
      refine lv_iload_n hx hb dX11_feedNumber_16 rfl (lv_at hl 0 rfl) ?_
      refine lv_ishr hx hb dX11_feedNumber_17 ?_
      refine lv_topi (fun f_7 ef_7 => ?_)
      refine lv_i2b hx hb dX11_feedNumber_18 rfl ?_
      refine lv_topi (fun f_8 ef_8 => ?_)
      refine va_bast hx hb hK hP hD hS 1 0 rfl rfl (show ¬ ((1 : Int32) < 0 ∨ 4000 ≤ (1 : Int32).toNatClampNeg) by decide +kernel) dX11_feedNumber_19 (fun H locs hP hD hS => ?_)
      have hP : va_P (dC, dI) zz_cl [(h0, .inr (10, [.ref h1, .int 1, .ref h2, .ref h3, .ref h4, .ref h5, .ref h6, .ref h7])), (h1, .inl (cB, 4000, .inl (upd g_4 (1 : Int32).toNatClampNeg (vp_nar .byte f_8))))] H := hP
      have hD : va_D A [(h0, .inr (10, [.ref h1, .int 1, .ref h2, .ref h3, .ref h4, .ref h5, .ref h6, .ref h7])), (h1, .inl (cB, 4000, .inl (upd g_4 (1 : Int32).toNatClampNeg (vp_nar .byte f_8))))] := hD
      generalize upd g_4 (1 : Int32).toNatClampNeg (vp_nar .byte f_8) = g_9 at hP hD
      refine lv_aload_n hx hb dX11_feedNumber_20 rfl (lv_at hl 1 rfl) ?_
      refine lv_dup hx hb dX11_feedNumber_21 rfl ?_
      refine va_get (D := (dC, dI)) (ci := 10) (v := .int 1) (C := RX11) (T := TX11) (N := 8) hx hb hts zz_in_zm_feedNumber0_X11 hown hK hP 0 rfl rfl 1 (by decide +kernel) (hts (.fieldLink RX11 13 "FilterHouse" "tapeSize" "I") (List.mem_of_getElem? (i := 2) rfl)) (fun _ h9 => h9) rfl dX11_feedNumber_22 ?_
      refine lv_iconst (v := 1) hx hb dX11_feedNumber_25 (by decide +kernel) ?_
      refine lv_iadd hx hb dX11_feedNumber_26 ?_
      refine lv_topi (fun f_10 ef_10 => ?_)
      obtain rfl : f_10 = (2 : Int32) := ef_10.trans (by decide +kernel)
      refine va_put (D := (dC, dI)) (ci := 10) (v := .int 2) (ty := .int) (C := RX11) (T := TX11) (N := 8) hx hb hts zz_in_zm_feedNumber0_X11 tyX11 tyX11_ok nmX11 hown hK hP hD hS 0 rfl rfl 1 (by decide +kernel) (hts (.fieldLink RX11 13 "FilterHouse" "tapeSize" "I") (List.mem_of_getElem? (i := 2) rfl)) (fun _ h9 => h9) rfl (by decide +kernel) rfl rfl (Nat.le_of_ble_eq_true rfl) dX11_feedNumber_27 (fun H locs hP hD hS => ?_)
      have hP : va_P (dC, dI) zz_cl [(h0, .inr (10, [.ref h1, .int 2, .ref h2, .ref h3, .ref h4, .ref h5, .ref h6, .ref h7])), (h1, .inl (cB, 4000, .inl g_9))] H := hP
      have hD : va_D A [(h0, .inr (10, [.ref h1, .int 2, .ref h2, .ref h3, .ref h4, .ref h5, .ref h6, .ref h7])), (h1, .inl (cB, 4000, .inl g_9))] := hD
      refine lv_iinc (v := 8) (lv' := [(2, .int 8), (0, .ref h0), (1, .int p0)]) hx hb dX11_feedNumber_30 hl (k := 0) rfl (by decide +kernel) (by decide +kernel) rfl (fun ls hl => ?_)
      refine lv_goto (tgt := 3) hx hb dX11_feedNumber_33 (by decide +kernel) ?_
      refine lv_iload_n hx hb dX11_feedNumber_3 rfl (lv_at hl 0 rfl) ?_
      refine lv_if_lt (tgt := 36) hx hb dX11_feedNumber_4 (by decide +kernel) (fun c_11 => ?_) (fun c_11 => ?_)
      · exact absurd c_11 (by decide +kernel)
      · refine lv_aload_n hx hb dX11_feedNumber_7 rfl (lv_at hl 1 rfl) ?_
        refine va_get (D := (dC, dI)) (ci := 10) (v := .ref h1) (C := RX11) (T := TX11) (N := 8) hx hb hts zz_in_zm_feedNumber0_X11 hown hK hP 0 rfl rfl 0 (by decide +kernel) (hts (.fieldLink RX11 9 "FilterHouse" "tape" "[B") (List.mem_of_getElem? (i := 1) rfl)) (fun _ h9 => h9) rfl dX11_feedNumber_8 ?_
        refine lv_aload_n hx hb dX11_feedNumber_11 rfl (lv_at hl 1 rfl) ?_
        refine va_get (D := (dC, dI)) (ci := 10) (v := .int 2) (C := RX11) (T := TX11) (N := 8) hx hb hts zz_in_zm_feedNumber0_X11 hown hK hP 0 rfl rfl 1 (by decide +kernel) (hts (.fieldLink RX11 13 "FilterHouse" "tapeSize" "I") (List.mem_of_getElem? (i := 2) rfl)) (fun _ h9 => h9) rfl dX11_feedNumber_12 ?_
        refine lv_iload_n hx hb dX11_feedNumber_15 rfl (lv_at hl 2 rfl) ?_
        refine lv_iload_n hx hb dX11_feedNumber_16 rfl (lv_at hl 0 rfl) ?_
        refine lv_ishr hx hb dX11_feedNumber_17 ?_
        refine lv_topi (fun f_12 ef_12 => ?_)
        refine lv_i2b hx hb dX11_feedNumber_18 rfl ?_
        refine lv_topi (fun f_13 ef_13 => ?_)
        refine va_bast hx hb hK hP hD hS 1 0 rfl rfl (show ¬ ((2 : Int32) < 0 ∨ 4000 ≤ (2 : Int32).toNatClampNeg) by decide +kernel) dX11_feedNumber_19 (fun H locs hP hD hS => ?_)
        have hP : va_P (dC, dI) zz_cl [(h0, .inr (10, [.ref h1, .int 2, .ref h2, .ref h3, .ref h4, .ref h5, .ref h6, .ref h7])), (h1, .inl (cB, 4000, .inl (upd g_9 (2 : Int32).toNatClampNeg (vp_nar .byte f_13))))] H := hP
        have hD : va_D A [(h0, .inr (10, [.ref h1, .int 2, .ref h2, .ref h3, .ref h4, .ref h5, .ref h6, .ref h7])), (h1, .inl (cB, 4000, .inl (upd g_9 (2 : Int32).toNatClampNeg (vp_nar .byte f_13))))] := hD
        generalize upd g_9 (2 : Int32).toNatClampNeg (vp_nar .byte f_13) = g_14 at hP hD
        refine lv_aload_n hx hb dX11_feedNumber_20 rfl (lv_at hl 1 rfl) ?_
        refine lv_dup hx hb dX11_feedNumber_21 rfl ?_
        refine va_get (D := (dC, dI)) (ci := 10) (v := .int 2) (C := RX11) (T := TX11) (N := 8) hx hb hts zz_in_zm_feedNumber0_X11 hown hK hP 0 rfl rfl 1 (by decide +kernel) (hts (.fieldLink RX11 13 "FilterHouse" "tapeSize" "I") (List.mem_of_getElem? (i := 2) rfl)) (fun _ h9 => h9) rfl dX11_feedNumber_22 ?_
        refine lv_iconst (v := 1) hx hb dX11_feedNumber_25 (by decide +kernel) ?_
        refine lv_iadd hx hb dX11_feedNumber_26 ?_
        refine lv_topi (fun f_15 ef_15 => ?_)
        obtain rfl : f_15 = (3 : Int32) := ef_15.trans (by decide +kernel)
        refine va_put (D := (dC, dI)) (ci := 10) (v := .int 3) (ty := .int) (C := RX11) (T := TX11) (N := 8) hx hb hts zz_in_zm_feedNumber0_X11 tyX11 tyX11_ok nmX11 hown hK hP hD hS 0 rfl rfl 1 (by decide +kernel) (hts (.fieldLink RX11 13 "FilterHouse" "tapeSize" "I") (List.mem_of_getElem? (i := 2) rfl)) (fun _ h9 => h9) rfl (by decide +kernel) rfl rfl (Nat.le_of_ble_eq_true rfl) dX11_feedNumber_27 (fun H locs hP hD hS => ?_)
        have hP : va_P (dC, dI) zz_cl [(h0, .inr (10, [.ref h1, .int 3, .ref h2, .ref h3, .ref h4, .ref h5, .ref h6, .ref h7])), (h1, .inl (cB, 4000, .inl g_14))] H := hP
        have hD : va_D A [(h0, .inr (10, [.ref h1, .int 3, .ref h2, .ref h3, .ref h4, .ref h5, .ref h6, .ref h7])), (h1, .inl (cB, 4000, .inl g_14))] := hD
        refine lv_iinc (v := 0) (lv' := [(2, .int 0), (0, .ref h0), (1, .int p0)]) hx hb dX11_feedNumber_30 hl (k := 0) rfl (by decide +kernel) (by decide +kernel) rfl (fun ls hl => ?_)
        refine lv_goto (tgt := 3) hx hb dX11_feedNumber_33 (by decide +kernel) ?_
        refine lv_iload_n hx hb dX11_feedNumber_3 rfl (lv_at hl 0 rfl) ?_
        refine lv_if_lt (tgt := 36) hx hb dX11_feedNumber_4 (by decide +kernel) (fun c_16 => ?_) (fun c_16 => ?_)
        · exact absurd c_16 (by decide +kernel)
        · refine lv_aload_n hx hb dX11_feedNumber_7 rfl (lv_at hl 1 rfl) ?_
          refine va_get (D := (dC, dI)) (ci := 10) (v := .ref h1) (C := RX11) (T := TX11) (N := 8) hx hb hts zz_in_zm_feedNumber0_X11 hown hK hP 0 rfl rfl 0 (by decide +kernel) (hts (.fieldLink RX11 9 "FilterHouse" "tape" "[B") (List.mem_of_getElem? (i := 1) rfl)) (fun _ h9 => h9) rfl dX11_feedNumber_8 ?_
          refine lv_aload_n hx hb dX11_feedNumber_11 rfl (lv_at hl 1 rfl) ?_
          refine va_get (D := (dC, dI)) (ci := 10) (v := .int 3) (C := RX11) (T := TX11) (N := 8) hx hb hts zz_in_zm_feedNumber0_X11 hown hK hP 0 rfl rfl 1 (by decide +kernel) (hts (.fieldLink RX11 13 "FilterHouse" "tapeSize" "I") (List.mem_of_getElem? (i := 2) rfl)) (fun _ h9 => h9) rfl dX11_feedNumber_12 ?_
          refine lv_iload_n hx hb dX11_feedNumber_15 rfl (lv_at hl 2 rfl) ?_
          refine lv_iload_n hx hb dX11_feedNumber_16 rfl (lv_at hl 0 rfl) ?_
          refine lv_ishr hx hb dX11_feedNumber_17 ?_
          refine lv_topi (fun f_17 ef_17 => ?_)
          refine lv_i2b hx hb dX11_feedNumber_18 rfl ?_
          refine lv_topi (fun f_18 ef_18 => ?_)
          refine va_bast hx hb hK hP hD hS 1 0 rfl rfl (show ¬ ((3 : Int32) < 0 ∨ 4000 ≤ (3 : Int32).toNatClampNeg) by decide +kernel) dX11_feedNumber_19 (fun H locs hP hD hS => ?_)
          have hP : va_P (dC, dI) zz_cl [(h0, .inr (10, [.ref h1, .int 3, .ref h2, .ref h3, .ref h4, .ref h5, .ref h6, .ref h7])), (h1, .inl (cB, 4000, .inl (upd g_14 (3 : Int32).toNatClampNeg (vp_nar .byte f_18))))] H := hP
          have hD : va_D A [(h0, .inr (10, [.ref h1, .int 3, .ref h2, .ref h3, .ref h4, .ref h5, .ref h6, .ref h7])), (h1, .inl (cB, 4000, .inl (upd g_14 (3 : Int32).toNatClampNeg (vp_nar .byte f_18))))] := hD
          generalize upd g_14 (3 : Int32).toNatClampNeg (vp_nar .byte f_18) = g_19 at hP hD
          refine lv_aload_n hx hb dX11_feedNumber_20 rfl (lv_at hl 1 rfl) ?_
          refine lv_dup hx hb dX11_feedNumber_21 rfl ?_
          refine va_get (D := (dC, dI)) (ci := 10) (v := .int 3) (C := RX11) (T := TX11) (N := 8) hx hb hts zz_in_zm_feedNumber0_X11 hown hK hP 0 rfl rfl 1 (by decide +kernel) (hts (.fieldLink RX11 13 "FilterHouse" "tapeSize" "I") (List.mem_of_getElem? (i := 2) rfl)) (fun _ h9 => h9) rfl dX11_feedNumber_22 ?_
          refine lv_iconst (v := 1) hx hb dX11_feedNumber_25 (by decide +kernel) ?_
          refine lv_iadd hx hb dX11_feedNumber_26 ?_
          refine lv_topi (fun f_20 ef_20 => ?_)
          obtain rfl : f_20 = (4 : Int32) := ef_20.trans (by decide +kernel)
          refine va_put (D := (dC, dI)) (ci := 10) (v := .int 4) (ty := .int) (C := RX11) (T := TX11) (N := 8) hx hb hts zz_in_zm_feedNumber0_X11 tyX11 tyX11_ok nmX11 hown hK hP hD hS 0 rfl rfl 1 (by decide +kernel) (hts (.fieldLink RX11 13 "FilterHouse" "tapeSize" "I") (List.mem_of_getElem? (i := 2) rfl)) (fun _ h9 => h9) rfl (by decide +kernel) rfl rfl (Nat.le_of_ble_eq_true rfl) dX11_feedNumber_27 (fun H locs hP hD hS => ?_)
          have hP : va_P (dC, dI) zz_cl [(h0, .inr (10, [.ref h1, .int 4, .ref h2, .ref h3, .ref h4, .ref h5, .ref h6, .ref h7])), (h1, .inl (cB, 4000, .inl g_19))] H := hP
          have hD : va_D A [(h0, .inr (10, [.ref h1, .int 4, .ref h2, .ref h3, .ref h4, .ref h5, .ref h6, .ref h7])), (h1, .inl (cB, 4000, .inl g_19))] := hD
          refine lv_iinc (v := (-8)) (lv' := [(2, .int (-8)), (0, .ref h0), (1, .int p0)]) hx hb dX11_feedNumber_30 hl (k := 0) rfl (by decide +kernel) (by decide +kernel) rfl (fun ls hl => ?_)
          refine lv_goto (tgt := 3) hx hb dX11_feedNumber_33 (by decide +kernel) ?_
          refine lv_iload_n hx hb dX11_feedNumber_3 rfl (lv_at hl 0 rfl) ?_
          refine lv_if_lt (tgt := 36) hx hb dX11_feedNumber_4 (by decide +kernel) (fun c_21 => ?_) (fun c_21 => ?_)
          · have hP9 := hP.sub (ws' := [(h0, .inr (10, [.ref h1, .int 4, .ref h2, .ref h3, .ref h4, .ref h5, .ref h6, .ref h7])), (h1, .inl (cB, 4000, .inl g_19))]) [0, 1] rfl
            have hD9 := hD.sub (ws' := [(h0, .inr (10, [.ref h1, .int 4, .ref h2, .ref h3, .ref h4, .ref h5, .ref h6, .ref h7])), (h1, .inl (cB, 4000, .inl g_19))]) [0, 1] (by decide +kernel) rfl
            exact W.vret hx hb hr (fun t ht hW => ⟨⟨g_19, rfl, trivial, by rw [ht]; exact hP9, hD9⟩, hS.F ht⟩) hS.2.2 dX11_feedNumber_36
          · exact absurd c_21 (by decide +kernel)
def zw_zm_feedNumber4 : List Cond := .code yX11_feedNumber cX11_feedNumber 3 none :: ([.fieldLink RX11 9 "FilterHouse" "tape" "[B", .fieldLink RX11 13 "FilterHouse" "tapeSize" "I"] ++ (wsX110 ++ []))
theorem zz_in_zm_feedNumber4_X11 : ∀ w ∈ wsX110, w ∈ zw_zm_feedNumber4 := fun w h => List.mem_cons_of_mem _ (List.mem_append_right _ (List.mem_append_left _ h))
set_option maxHeartbeats 1000000 in
set_option maxRecDepth 100000 in
/-- zm_feedNumber4 -/
theorem zm_feedNumber4 (l : Launch) (dC : Nat → ClassId) (dI : Nat → Nat → Nat) (cB cI cJ cZ : ClassId) (h0 h1 h2 h3 h4 h5 h6 h7 : Nat) (sz : Nat) (g : Nat → Int32) (p0 : Int32) : Met l yX11_feedNumber zw_zm_feedNumber4 ({ frames := 0, cells := 0, slots := 0, locals := 0 }) (va_Pc [.ref h0, .int p0] (fun U => U.heap.size = sz ∧ va_P (dC, dI) zz_cl [(h0, .inr (10, [.ref h1, .int 4, .ref h2, .ref h3, .ref h4, .ref h5, .ref h6, .ref h7])), (h1, .inl (cB, 4000, .inl g))] U.heap ∧ va_K (dC, dI) zz_cl [(cB, .byte), (cI, .int), (cJ, .long), (cZ, .boolean)] U ∧ va_D (fun _ => True) [(h0, .inr (10, [.ref h1, .int 4, .ref h2, .ref h3, .ref h4, .ref h5, .ref h6, .ref h7])), (h1, .inl (cB, 4000, .inl g))])) (va_Qv (fun (_ : Nat → Int32) => True) (fun (g9 : Nat → Int32) t => va_P (dC, dI) zz_cl [(h0, .inr (10, [.ref h1, .int 8, .ref h2, .ref h3, .ref h4, .ref h5, .ref h6, .ref h7])), (h1, .inl (cB, 4000, .inl g9))] t.heap ∧ va_D (va_A [(h0, .inr (10, [.ref h1, .int 4, .ref h2, .ref h3, .ref h4, .ref h5, .ref h6, .ref h7])), (h1, .inl (cB, 4000, .inl g))] sz) [(h0, .inr (10, [.ref h1, .int 8, .ref h2, .ref h3, .ref h4, .ref h5, .ref h6, .ref h7])), (h1, .inl (cB, 4000, .inl g9))]) (va_A [(h0, .inr (10, [.ref h1, .int 4, .ref h2, .ref h3, .ref h4, .ref h5, .ref h6, .ref h7])), (h1, .inl (cB, 4000, .inl g))] sz)) 0 0 (va_A [(h0, .inr (10, [.ref h1, .int 4, .ref h2, .ref h3, .ref h4, .ref h5, .ref h6, .ref h7])), (h1, .inl (cB, 4000, .inl g))] sz) := by
  refine Met.ofW (cc := cX11_feedNumber) (maxL := 3) (ret := none) (by decide +kernel) rfl ?_
  intro p e s m args below meth c s₁ B hml hv
  obtain ⟨rfl, hsz, hP, hK, hD0⟩ := hv
  have hx := B.exec
  have hb := B.bytes
  have hr := B.returns
  have hts := atoms_spec (ws := zw_zm_feedNumber4) B.pre
  have hown : s.vm.findClass RX11 = some m.cls := findClass_of_methodNamed B.named
  have hlocks := B.notSynchronized
  subst hsz
  have hD := hD0.self (sz := s.heap.size)
  generalize hAe : va_A [(h0, .inr (10, [.ref h1, .int 4, .ref h2, .ref h3, .ref h4, .ref h5, .ref h6, .ref h7])), (h1, .inl (cB, 4000, .inl g))] s.heap.size = A at hD ⊢
  have hA : ∀ q : Nat, s.heap.size ≤ q → A q := fun q h => by rw [← hAe]; exact Or.inr h
  have hS : va_S A s.heap s.heap [] := va_S.rf
  have hP : va_P (dC, dI) zz_cl [(h0, .inr (10, [.ref h1, .int 4, .ref h2, .ref h3, .ref h4, .ref h5, .ref h6, .ref h7])), (h1, .inl (cB, 4000, .inl g))] s.heap := hP
  have hl := lv_entry ([.ref h0, .int p0]) (n := 3) (Nat.le_of_ble_eq_true rfl)
  rw [lg_entry_eq]
  generalize (lg_sl ([.ref h0, .int p0]) ++ List.replicate (3 - (lg_sl ([.ref h0, .int p0])).length) Slot.unset).toArray = ls at hl ⊢
  have hl : lv_has ls 3 [(0, .ref h0), (1, .int p0)] := hl
  refine lv_bipush (v := 24) hx hb dX11_feedNumber_0 (by decide +kernel) ?_
  refine lv_istore_n (lv' := [(2, .int 24), (0, .ref h0), (1, .int p0)]) hx hb dX11_feedNumber_2 rfl hl (by decide +kernel) rfl (fun ls hl => ?_)
  refine lv_iload_n hx hb dX11_feedNumber_3 rfl (lv_at hl 0 rfl) ?_
  refine lv_if_lt (tgt := 36) hx hb dX11_feedNumber_4 (by decide +kernel) (fun c_1 => ?_) (fun c_1 => ?_)
  · exact absurd c_1 (by decide +kernel)
  · refine lv_aload_n hx hb dX11_feedNumber_7 rfl (lv_at hl 1 rfl) ?_
    refine va_get (D := (dC, dI)) (ci := 10) (v := .ref h1) (C := RX11) (T := TX11) (N := 8) hx hb hts zz_in_zm_feedNumber4_X11 hown hK hP 0 rfl rfl 0 (by decide +kernel) (hts (.fieldLink RX11 9 "FilterHouse" "tape" "[B") (List.mem_of_getElem? (i := 1) rfl)) (fun _ h9 => h9) rfl dX11_feedNumber_8 ?_
    refine lv_aload_n hx hb dX11_feedNumber_11 rfl (lv_at hl 1 rfl) ?_
    refine va_get (D := (dC, dI)) (ci := 10) (v := .int 4) (C := RX11) (T := TX11) (N := 8) hx hb hts zz_in_zm_feedNumber4_X11 hown hK hP 0 rfl rfl 1 (by decide +kernel) (hts (.fieldLink RX11 13 "FilterHouse" "tapeSize" "I") (List.mem_of_getElem? (i := 2) rfl)) (fun _ h9 => h9) rfl dX11_feedNumber_12 ?_
    refine lv_iload_n hx hb dX11_feedNumber_15 rfl (lv_at hl 2 rfl) ?_
    refine lv_iload_n hx hb dX11_feedNumber_16 rfl (lv_at hl 0 rfl) ?_
    refine lv_ishr hx hb dX11_feedNumber_17 ?_
    refine lv_topi (fun f_2 ef_2 => ?_)
    refine lv_i2b hx hb dX11_feedNumber_18 rfl ?_
    refine lv_topi (fun f_3 ef_3 => ?_)
    refine va_bast hx hb hK hP hD hS 1 0 rfl rfl (show ¬ ((4 : Int32) < 0 ∨ 4000 ≤ (4 : Int32).toNatClampNeg) by decide +kernel) dX11_feedNumber_19 (fun H locs hP hD hS => ?_)
    have hP : va_P (dC, dI) zz_cl [(h0, .inr (10, [.ref h1, .int 4, .ref h2, .ref h3, .ref h4, .ref h5, .ref h6, .ref h7])), (h1, .inl (cB, 4000, .inl (upd g (4 : Int32).toNatClampNeg (vp_nar .byte f_3))))] H := hP
    have hD : va_D A [(h0, .inr (10, [.ref h1, .int 4, .ref h2, .ref h3, .ref h4, .ref h5, .ref h6, .ref h7])), (h1, .inl (cB, 4000, .inl (upd g (4 : Int32).toNatClampNeg (vp_nar .byte f_3))))] := hD
    generalize upd g (4 : Int32).toNatClampNeg (vp_nar .byte f_3) = g_4 at hP hD
    refine lv_aload_n hx hb dX11_feedNumber_20 rfl (lv_at hl 1 rfl) ?_
    refine lv_dup hx hb dX11_feedNumber_21 rfl ?_
    refine va_get (D := (dC, dI)) (ci := 10) (v := .int 4) (C := RX11) (T := TX11) (N := 8) hx hb hts zz_in_zm_feedNumber4_X11 hown hK hP 0 rfl rfl 1 (by decide +kernel) (hts (.fieldLink RX11 13 "FilterHouse" "tapeSize" "I") (List.mem_of_getElem? (i := 2) rfl)) (fun _ h9 => h9) rfl dX11_feedNumber_22 ?_
    refine lv_iconst (v := 1) hx hb dX11_feedNumber_25 (by decide +kernel) ?_
    refine lv_iadd hx hb dX11_feedNumber_26 ?_
    refine lv_topi (fun f_5 ef_5 => ?_)
    obtain rfl : f_5 = (5 : Int32) := ef_5.trans (by decide +kernel)
    refine va_put (D := (dC, dI)) (ci := 10) (v := .int 5) (ty := .int) (C := RX11) (T := TX11) (N := 8) hx hb hts zz_in_zm_feedNumber4_X11 tyX11 tyX11_ok nmX11 hown hK hP hD hS 0 rfl rfl 1 (by decide +kernel) (hts (.fieldLink RX11 13 "FilterHouse" "tapeSize" "I") (List.mem_of_getElem? (i := 2) rfl)) (fun _ h9 => h9) rfl (by decide +kernel) rfl rfl (Nat.le_of_ble_eq_true rfl) dX11_feedNumber_27 (fun H locs hP hD hS => ?_)
    have hP : va_P (dC, dI) zz_cl [(h0, .inr (10, [.ref h1, .int 5, .ref h2, .ref h3, .ref h4, .ref h5, .ref h6, .ref h7])), (h1, .inl (cB, 4000, .inl g_4))] H := hP
    have hD : va_D A [(h0, .inr (10, [.ref h1, .int 5, .ref h2, .ref h3, .ref h4, .ref h5, .ref h6, .ref h7])), (h1, .inl (cB, 4000, .inl g_4))] := hD
    refine lv_iinc (v := 16) (lv' := [(2, .int 16), (0, .ref h0), (1, .int p0)]) hx hb dX11_feedNumber_30 hl (k := 0) rfl (by decide +kernel) (by decide +kernel) rfl (fun ls hl => ?_)
    refine lv_goto (tgt := 3) hx hb dX11_feedNumber_33 (by decide +kernel) ?_
    refine lv_iload_n hx hb dX11_feedNumber_3 rfl (lv_at hl 0 rfl) ?_
    refine lv_if_lt (tgt := 36) hx hb dX11_feedNumber_4 (by decide +kernel) (fun c_6 => ?_) (fun c_6 => ?_)
    · exact absurd c_6 (by decide +kernel)
    · refine lv_aload_n hx hb dX11_feedNumber_7 rfl (lv_at hl 1 rfl) ?_
      refine va_get (D := (dC, dI)) (ci := 10) (v := .ref h1) (C := RX11) (T := TX11) (N := 8) hx hb hts zz_in_zm_feedNumber4_X11 hown hK hP 0 rfl rfl 0 (by decide +kernel) (hts (.fieldLink RX11 9 "FilterHouse" "tape" "[B") (List.mem_of_getElem? (i := 1) rfl)) (fun _ h9 => h9) rfl dX11_feedNumber_8 ?_
      refine lv_aload_n hx hb dX11_feedNumber_11 rfl (lv_at hl 1 rfl) ?_
      refine va_get (D := (dC, dI)) (ci := 10) (v := .int 5) (C := RX11) (T := TX11) (N := 8) hx hb hts zz_in_zm_feedNumber4_X11 hown hK hP 0 rfl rfl 1 (by decide +kernel) (hts (.fieldLink RX11 13 "FilterHouse" "tapeSize" "I") (List.mem_of_getElem? (i := 2) rfl)) (fun _ h9 => h9) rfl dX11_feedNumber_12 ?_
      refine lv_iload_n hx hb dX11_feedNumber_15 rfl (lv_at hl 2 rfl) ?_
      refine lv_iload_n hx hb dX11_feedNumber_16 rfl (lv_at hl 0 rfl) ?_
      refine lv_ishr hx hb dX11_feedNumber_17 ?_
      refine lv_topi (fun f_7 ef_7 => ?_)
      refine lv_i2b hx hb dX11_feedNumber_18 rfl ?_
      refine lv_topi (fun f_8 ef_8 => ?_)
      refine va_bast hx hb hK hP hD hS 1 0 rfl rfl (show ¬ ((5 : Int32) < 0 ∨ 4000 ≤ (5 : Int32).toNatClampNeg) by decide +kernel) dX11_feedNumber_19 (fun H locs hP hD hS => ?_)
      have hP : va_P (dC, dI) zz_cl [(h0, .inr (10, [.ref h1, .int 5, .ref h2, .ref h3, .ref h4, .ref h5, .ref h6, .ref h7])), (h1, .inl (cB, 4000, .inl (upd g_4 (5 : Int32).toNatClampNeg (vp_nar .byte f_8))))] H := hP
      have hD : va_D A [(h0, .inr (10, [.ref h1, .int 5, .ref h2, .ref h3, .ref h4, .ref h5, .ref h6, .ref h7])), (h1, .inl (cB, 4000, .inl (upd g_4 (5 : Int32).toNatClampNeg (vp_nar .byte f_8))))] := hD
      generalize upd g_4 (5 : Int32).toNatClampNeg (vp_nar .byte f_8) = g_9 at hP hD
      refine lv_aload_n hx hb dX11_feedNumber_20 rfl (lv_at hl 1 rfl) ?_
      refine lv_dup hx hb dX11_feedNumber_21 rfl ?_
      refine va_get (D := (dC, dI)) (ci := 10) (v := .int 5) (C := RX11) (T := TX11) (N := 8) hx hb hts zz_in_zm_feedNumber4_X11 hown hK hP 0 rfl rfl 1 (by decide +kernel) (hts (.fieldLink RX11 13 "FilterHouse" "tapeSize" "I") (List.mem_of_getElem? (i := 2) rfl)) (fun _ h9 => h9) rfl dX11_feedNumber_22 ?_
      refine lv_iconst (v := 1) hx hb dX11_feedNumber_25 (by decide +kernel) ?_
      refine lv_iadd hx hb dX11_feedNumber_26 ?_
      refine lv_topi (fun f_10 ef_10 => ?_)
      obtain rfl : f_10 = (6 : Int32) := ef_10.trans (by decide +kernel)
      refine va_put (D := (dC, dI)) (ci := 10) (v := .int 6) (ty := .int) (C := RX11) (T := TX11) (N := 8) hx hb hts zz_in_zm_feedNumber4_X11 tyX11 tyX11_ok nmX11 hown hK hP hD hS 0 rfl rfl 1 (by decide +kernel) (hts (.fieldLink RX11 13 "FilterHouse" "tapeSize" "I") (List.mem_of_getElem? (i := 2) rfl)) (fun _ h9 => h9) rfl (by decide +kernel) rfl rfl (Nat.le_of_ble_eq_true rfl) dX11_feedNumber_27 (fun H locs hP hD hS => ?_)
      have hP : va_P (dC, dI) zz_cl [(h0, .inr (10, [.ref h1, .int 6, .ref h2, .ref h3, .ref h4, .ref h5, .ref h6, .ref h7])), (h1, .inl (cB, 4000, .inl g_9))] H := hP
      have hD : va_D A [(h0, .inr (10, [.ref h1, .int 6, .ref h2, .ref h3, .ref h4, .ref h5, .ref h6, .ref h7])), (h1, .inl (cB, 4000, .inl g_9))] := hD
      refine lv_iinc (v := 8) (lv' := [(2, .int 8), (0, .ref h0), (1, .int p0)]) hx hb dX11_feedNumber_30 hl (k := 0) rfl (by decide +kernel) (by decide +kernel) rfl (fun ls hl => ?_)
      refine lv_goto (tgt := 3) hx hb dX11_feedNumber_33 (by decide +kernel) ?_
      refine lv_iload_n hx hb dX11_feedNumber_3 rfl (lv_at hl 0 rfl) ?_
      refine lv_if_lt (tgt := 36) hx hb dX11_feedNumber_4 (by decide +kernel) (fun c_11 => ?_) (fun c_11 => ?_)
      · exact absurd c_11 (by decide +kernel)
      · refine lv_aload_n hx hb dX11_feedNumber_7 rfl (lv_at hl 1 rfl) ?_
        refine va_get (D := (dC, dI)) (ci := 10) (v := .ref h1) (C := RX11) (T := TX11) (N := 8) hx hb hts zz_in_zm_feedNumber4_X11 hown hK hP 0 rfl rfl 0 (by decide +kernel) (hts (.fieldLink RX11 9 "FilterHouse" "tape" "[B") (List.mem_of_getElem? (i := 1) rfl)) (fun _ h9 => h9) rfl dX11_feedNumber_8 ?_
        refine lv_aload_n hx hb dX11_feedNumber_11 rfl (lv_at hl 1 rfl) ?_
        refine va_get (D := (dC, dI)) (ci := 10) (v := .int 6) (C := RX11) (T := TX11) (N := 8) hx hb hts zz_in_zm_feedNumber4_X11 hown hK hP 0 rfl rfl 1 (by decide +kernel) (hts (.fieldLink RX11 13 "FilterHouse" "tapeSize" "I") (List.mem_of_getElem? (i := 2) rfl)) (fun _ h9 => h9) rfl dX11_feedNumber_12 ?_
        refine lv_iload_n hx hb dX11_feedNumber_15 rfl (lv_at hl 2 rfl) ?_
        refine lv_iload_n hx hb dX11_feedNumber_16 rfl (lv_at hl 0 rfl) ?_
        refine lv_ishr hx hb dX11_feedNumber_17 ?_
        refine lv_topi (fun f_12 ef_12 => ?_)
        refine lv_i2b hx hb dX11_feedNumber_18 rfl ?_
        refine lv_topi (fun f_13 ef_13 => ?_)
        refine va_bast hx hb hK hP hD hS 1 0 rfl rfl (show ¬ ((6 : Int32) < 0 ∨ 4000 ≤ (6 : Int32).toNatClampNeg) by decide +kernel) dX11_feedNumber_19 (fun H locs hP hD hS => ?_)
        have hP : va_P (dC, dI) zz_cl [(h0, .inr (10, [.ref h1, .int 6, .ref h2, .ref h3, .ref h4, .ref h5, .ref h6, .ref h7])), (h1, .inl (cB, 4000, .inl (upd g_9 (6 : Int32).toNatClampNeg (vp_nar .byte f_13))))] H := hP
        have hD : va_D A [(h0, .inr (10, [.ref h1, .int 6, .ref h2, .ref h3, .ref h4, .ref h5, .ref h6, .ref h7])), (h1, .inl (cB, 4000, .inl (upd g_9 (6 : Int32).toNatClampNeg (vp_nar .byte f_13))))] := hD
        generalize upd g_9 (6 : Int32).toNatClampNeg (vp_nar .byte f_13) = g_14 at hP hD
        refine lv_aload_n hx hb dX11_feedNumber_20 rfl (lv_at hl 1 rfl) ?_
        refine lv_dup hx hb dX11_feedNumber_21 rfl ?_
        refine va_get (D := (dC, dI)) (ci := 10) (v := .int 6) (C := RX11) (T := TX11) (N := 8) hx hb hts zz_in_zm_feedNumber4_X11 hown hK hP 0 rfl rfl 1 (by decide +kernel) (hts (.fieldLink RX11 13 "FilterHouse" "tapeSize" "I") (List.mem_of_getElem? (i := 2) rfl)) (fun _ h9 => h9) rfl dX11_feedNumber_22 ?_
        refine lv_iconst (v := 1) hx hb dX11_feedNumber_25 (by decide +kernel) ?_
        refine lv_iadd hx hb dX11_feedNumber_26 ?_
        refine lv_topi (fun f_15 ef_15 => ?_)
        obtain rfl : f_15 = (7 : Int32) := ef_15.trans (by decide +kernel)
        refine va_put (D := (dC, dI)) (ci := 10) (v := .int 7) (ty := .int) (C := RX11) (T := TX11) (N := 8) hx hb hts zz_in_zm_feedNumber4_X11 tyX11 tyX11_ok nmX11 hown hK hP hD hS 0 rfl rfl 1 (by decide +kernel) (hts (.fieldLink RX11 13 "FilterHouse" "tapeSize" "I") (List.mem_of_getElem? (i := 2) rfl)) (fun _ h9 => h9) rfl (by decide +kernel) rfl rfl (Nat.le_of_ble_eq_true rfl) dX11_feedNumber_27 (fun H locs hP hD hS => ?_)
        have hP : va_P (dC, dI) zz_cl [(h0, .inr (10, [.ref h1, .int 7, .ref h2, .ref h3, .ref h4, .ref h5, .ref h6, .ref h7])), (h1, .inl (cB, 4000, .inl g_14))] H := hP
        have hD : va_D A [(h0, .inr (10, [.ref h1, .int 7, .ref h2, .ref h3, .ref h4, .ref h5, .ref h6, .ref h7])), (h1, .inl (cB, 4000, .inl g_14))] := hD
        refine lv_iinc (v := 0) (lv' := [(2, .int 0), (0, .ref h0), (1, .int p0)]) hx hb dX11_feedNumber_30 hl (k := 0) rfl (by decide +kernel) (by decide +kernel) rfl (fun ls hl => ?_)
        refine lv_goto (tgt := 3) hx hb dX11_feedNumber_33 (by decide +kernel) ?_
        refine lv_iload_n hx hb dX11_feedNumber_3 rfl (lv_at hl 0 rfl) ?_
        refine lv_if_lt (tgt := 36) hx hb dX11_feedNumber_4 (by decide +kernel) (fun c_16 => ?_) (fun c_16 => ?_)
        · exact absurd c_16 (by decide +kernel)
        · refine lv_aload_n hx hb dX11_feedNumber_7 rfl (lv_at hl 1 rfl) ?_
          refine va_get (D := (dC, dI)) (ci := 10) (v := .ref h1) (C := RX11) (T := TX11) (N := 8) hx hb hts zz_in_zm_feedNumber4_X11 hown hK hP 0 rfl rfl 0 (by decide +kernel) (hts (.fieldLink RX11 9 "FilterHouse" "tape" "[B") (List.mem_of_getElem? (i := 1) rfl)) (fun _ h9 => h9) rfl dX11_feedNumber_8 ?_
          refine lv_aload_n hx hb dX11_feedNumber_11 rfl (lv_at hl 1 rfl) ?_
          refine va_get (D := (dC, dI)) (ci := 10) (v := .int 7) (C := RX11) (T := TX11) (N := 8) hx hb hts zz_in_zm_feedNumber4_X11 hown hK hP 0 rfl rfl 1 (by decide +kernel) (hts (.fieldLink RX11 13 "FilterHouse" "tapeSize" "I") (List.mem_of_getElem? (i := 2) rfl)) (fun _ h9 => h9) rfl dX11_feedNumber_12 ?_
          refine lv_iload_n hx hb dX11_feedNumber_15 rfl (lv_at hl 2 rfl) ?_
          refine lv_iload_n hx hb dX11_feedNumber_16 rfl (lv_at hl 0 rfl) ?_
          refine lv_ishr hx hb dX11_feedNumber_17 ?_
          refine lv_topi (fun f_17 ef_17 => ?_)
          refine lv_i2b hx hb dX11_feedNumber_18 rfl ?_
          refine lv_topi (fun f_18 ef_18 => ?_)
          refine va_bast hx hb hK hP hD hS 1 0 rfl rfl (show ¬ ((7 : Int32) < 0 ∨ 4000 ≤ (7 : Int32).toNatClampNeg) by decide +kernel) dX11_feedNumber_19 (fun H locs hP hD hS => ?_)
          have hP : va_P (dC, dI) zz_cl [(h0, .inr (10, [.ref h1, .int 7, .ref h2, .ref h3, .ref h4, .ref h5, .ref h6, .ref h7])), (h1, .inl (cB, 4000, .inl (upd g_14 (7 : Int32).toNatClampNeg (vp_nar .byte f_18))))] H := hP
          have hD : va_D A [(h0, .inr (10, [.ref h1, .int 7, .ref h2, .ref h3, .ref h4, .ref h5, .ref h6, .ref h7])), (h1, .inl (cB, 4000, .inl (upd g_14 (7 : Int32).toNatClampNeg (vp_nar .byte f_18))))] := hD
          generalize upd g_14 (7 : Int32).toNatClampNeg (vp_nar .byte f_18) = g_19 at hP hD
          refine lv_aload_n hx hb dX11_feedNumber_20 rfl (lv_at hl 1 rfl) ?_
          refine lv_dup hx hb dX11_feedNumber_21 rfl ?_
          refine va_get (D := (dC, dI)) (ci := 10) (v := .int 7) (C := RX11) (T := TX11) (N := 8) hx hb hts zz_in_zm_feedNumber4_X11 hown hK hP 0 rfl rfl 1 (by decide +kernel) (hts (.fieldLink RX11 13 "FilterHouse" "tapeSize" "I") (List.mem_of_getElem? (i := 2) rfl)) (fun _ h9 => h9) rfl dX11_feedNumber_22 ?_
          refine lv_iconst (v := 1) hx hb dX11_feedNumber_25 (by decide +kernel) ?_
          refine lv_iadd hx hb dX11_feedNumber_26 ?_
          refine lv_topi (fun f_20 ef_20 => ?_)
          obtain rfl : f_20 = (8 : Int32) := ef_20.trans (by decide +kernel)
          refine va_put (D := (dC, dI)) (ci := 10) (v := .int 8) (ty := .int) (C := RX11) (T := TX11) (N := 8) hx hb hts zz_in_zm_feedNumber4_X11 tyX11 tyX11_ok nmX11 hown hK hP hD hS 0 rfl rfl 1 (by decide +kernel) (hts (.fieldLink RX11 13 "FilterHouse" "tapeSize" "I") (List.mem_of_getElem? (i := 2) rfl)) (fun _ h9 => h9) rfl (by decide +kernel) rfl rfl (Nat.le_of_ble_eq_true rfl) dX11_feedNumber_27 (fun H locs hP hD hS => ?_)
          have hP : va_P (dC, dI) zz_cl [(h0, .inr (10, [.ref h1, .int 8, .ref h2, .ref h3, .ref h4, .ref h5, .ref h6, .ref h7])), (h1, .inl (cB, 4000, .inl g_19))] H := hP
          have hD : va_D A [(h0, .inr (10, [.ref h1, .int 8, .ref h2, .ref h3, .ref h4, .ref h5, .ref h6, .ref h7])), (h1, .inl (cB, 4000, .inl g_19))] := hD
          refine lv_iinc (v := (-8)) (lv' := [(2, .int (-8)), (0, .ref h0), (1, .int p0)]) hx hb dX11_feedNumber_30 hl (k := 0) rfl (by decide +kernel) (by decide +kernel) rfl (fun ls hl => ?_)
          refine lv_goto (tgt := 3) hx hb dX11_feedNumber_33 (by decide +kernel) ?_
          refine lv_iload_n hx hb dX11_feedNumber_3 rfl (lv_at hl 0 rfl) ?_
          refine lv_if_lt (tgt := 36) hx hb dX11_feedNumber_4 (by decide +kernel) (fun c_21 => ?_) (fun c_21 => ?_)
          · have hP9 := hP.sub (ws' := [(h0, .inr (10, [.ref h1, .int 8, .ref h2, .ref h3, .ref h4, .ref h5, .ref h6, .ref h7])), (h1, .inl (cB, 4000, .inl g_19))]) [0, 1] rfl
            have hD9 := hD.sub (ws' := [(h0, .inr (10, [.ref h1, .int 8, .ref h2, .ref h3, .ref h4, .ref h5, .ref h6, .ref h7])), (h1, .inl (cB, 4000, .inl g_19))]) [0, 1] (by decide +kernel) rfl
            exact W.vret hx hb hr (fun t ht hW => ⟨⟨g_19, rfl, trivial, by rw [ht]; exact hP9, hD9⟩, hS.F ht⟩) hS.2.2 dX11_feedNumber_36
          · exact absurd c_21 (by decide +kernel)
def zw_zm_feedNumber8 : List Cond := .code yX11_feedNumber cX11_feedNumber 3 none :: ([.fieldLink RX11 9 "FilterHouse" "tape" "[B", .fieldLink RX11 13 "FilterHouse" "tapeSize" "I"] ++ (wsX110 ++ []))
theorem zz_in_zm_feedNumber8_X11 : ∀ w ∈ wsX110, w ∈ zw_zm_feedNumber8 := fun w h => List.mem_cons_of_mem _ (List.mem_append_right _ (List.mem_append_left _ h))
set_option maxHeartbeats 1000000 in
set_option maxRecDepth 100000 in
/-- zm_feedNumber8 -/
theorem zm_feedNumber8 (l : Launch) (dC : Nat → ClassId) (dI : Nat → Nat → Nat) (cB cI cJ cZ : ClassId) (h0 h1 h2 h3 h4 h5 h6 h7 : Nat) (sz : Nat) (g : Nat → Int32) (p0 : Int32) : Met l yX11_feedNumber zw_zm_feedNumber8 ({ frames := 0, cells := 0, slots := 0, locals := 0 }) (va_Pc [.ref h0, .int p0] (fun U => U.heap.size = sz ∧ va_P (dC, dI) zz_cl [(h0, .inr (10, [.ref h1, .int 8, .ref h2, .ref h3, .ref h4, .ref h5, .ref h6, .ref h7])), (h1, .inl (cB, 4000, .inl g))] U.heap ∧ va_K (dC, dI) zz_cl [(cB, .byte), (cI, .int), (cJ, .long), (cZ, .boolean)] U ∧ va_D (fun _ => True) [(h0, .inr (10, [.ref h1, .int 8, .ref h2, .ref h3, .ref h4, .ref h5, .ref h6, .ref h7])), (h1, .inl (cB, 4000, .inl g))])) (va_Qv (fun (_ : Nat → Int32) => True) (fun (g9 : Nat → Int32) t => va_P (dC, dI) zz_cl [(h0, .inr (10, [.ref h1, .int 12, .ref h2, .ref h3, .ref h4, .ref h5, .ref h6, .ref h7])), (h1, .inl (cB, 4000, .inl g9))] t.heap ∧ va_D (va_A [(h0, .inr (10, [.ref h1, .int 8, .ref h2, .ref h3, .ref h4, .ref h5, .ref h6, .ref h7])), (h1, .inl (cB, 4000, .inl g))] sz) [(h0, .inr (10, [.ref h1, .int 12, .ref h2, .ref h3, .ref h4, .ref h5, .ref h6, .ref h7])), (h1, .inl (cB, 4000, .inl g9))]) (va_A [(h0, .inr (10, [.ref h1, .int 8, .ref h2, .ref h3, .ref h4, .ref h5, .ref h6, .ref h7])), (h1, .inl (cB, 4000, .inl g))] sz)) 0 0 (va_A [(h0, .inr (10, [.ref h1, .int 8, .ref h2, .ref h3, .ref h4, .ref h5, .ref h6, .ref h7])), (h1, .inl (cB, 4000, .inl g))] sz) := by
  refine Met.ofW (cc := cX11_feedNumber) (maxL := 3) (ret := none) (by decide +kernel) rfl ?_
  intro p e s m args below meth c s₁ B hml hv
  obtain ⟨rfl, hsz, hP, hK, hD0⟩ := hv
  have hx := B.exec
  have hb := B.bytes
  have hr := B.returns
  have hts := atoms_spec (ws := zw_zm_feedNumber8) B.pre
  have hown : s.vm.findClass RX11 = some m.cls := findClass_of_methodNamed B.named
  have hlocks := B.notSynchronized
  subst hsz
  have hD := hD0.self (sz := s.heap.size)
  generalize hAe : va_A [(h0, .inr (10, [.ref h1, .int 8, .ref h2, .ref h3, .ref h4, .ref h5, .ref h6, .ref h7])), (h1, .inl (cB, 4000, .inl g))] s.heap.size = A at hD ⊢
  have hA : ∀ q : Nat, s.heap.size ≤ q → A q := fun q h => by rw [← hAe]; exact Or.inr h
  have hS : va_S A s.heap s.heap [] := va_S.rf
  have hP : va_P (dC, dI) zz_cl [(h0, .inr (10, [.ref h1, .int 8, .ref h2, .ref h3, .ref h4, .ref h5, .ref h6, .ref h7])), (h1, .inl (cB, 4000, .inl g))] s.heap := hP
  have hl := lv_entry ([.ref h0, .int p0]) (n := 3) (Nat.le_of_ble_eq_true rfl)
  rw [lg_entry_eq]
  generalize (lg_sl ([.ref h0, .int p0]) ++ List.replicate (3 - (lg_sl ([.ref h0, .int p0])).length) Slot.unset).toArray = ls at hl ⊢
  have hl : lv_has ls 3 [(0, .ref h0), (1, .int p0)] := hl
  refine lv_bipush (v := 24) hx hb dX11_feedNumber_0 (by decide +kernel) ?_
  refine lv_istore_n (lv' := [(2, .int 24), (0, .ref h0), (1, .int p0)]) hx hb dX11_feedNumber_2 rfl hl (by decide +kernel) rfl (fun ls hl => ?_)
  refine lv_iload_n hx hb dX11_feedNumber_3 rfl (lv_at hl 0 rfl) ?_
  refine lv_if_lt (tgt := 36) hx hb dX11_feedNumber_4 (by decide +kernel) (fun c_1 => ?_) (fun c_1 => ?_)
  · exact absurd c_1 (by decide +kernel)
  · refine lv_aload_n hx hb dX11_feedNumber_7 rfl (lv_at hl 1 rfl) ?_
    refine va_get (D := (dC, dI)) (ci := 10) (v := .ref h1) (C := RX11) (T := TX11) (N := 8) hx hb hts zz_in_zm_feedNumber8_X11 hown hK hP 0 rfl rfl 0 (by decide +kernel) (hts (.fieldLink RX11 9 "FilterHouse" "tape" "[B") (List.mem_of_getElem? (i := 1) rfl)) (fun _ h9 => h9) rfl dX11_feedNumber_8 ?_
    refine lv_aload_n hx hb dX11_feedNumber_11 rfl (lv_at hl 1 rfl) ?_
    refine va_get (D := (dC, dI)) (ci := 10) (v := .int 8) (C := RX11) (T := TX11) (N := 8) hx hb hts zz_in_zm_feedNumber8_X11 hown hK hP 0 rfl rfl 1 (by decide +kernel) (hts (.fieldLink RX11 13 "FilterHouse" "tapeSize" "I") (List.mem_of_getElem? (i := 2) rfl)) (fun _ h9 => h9) rfl dX11_feedNumber_12 ?_
    refine lv_iload_n hx hb dX11_feedNumber_15 rfl (lv_at hl 2 rfl) ?_
    refine lv_iload_n hx hb dX11_feedNumber_16 rfl (lv_at hl 0 rfl) ?_
    refine lv_ishr hx hb dX11_feedNumber_17 ?_
    refine lv_topi (fun f_2 ef_2 => ?_)
    refine lv_i2b hx hb dX11_feedNumber_18 rfl ?_
    refine lv_topi (fun f_3 ef_3 => ?_)
    refine va_bast hx hb hK hP hD hS 1 0 rfl rfl (show ¬ ((8 : Int32) < 0 ∨ 4000 ≤ (8 : Int32).toNatClampNeg) by decide +kernel) dX11_feedNumber_19 (fun H locs hP hD hS => ?_)
    have hP : va_P (dC, dI) zz_cl [(h0, .inr (10, [.ref h1, .int 8, .ref h2, .ref h3, .ref h4, .ref h5, .ref h6, .ref h7])), (h1, .inl (cB, 4000, .inl (upd g (8 : Int32).toNatClampNeg (vp_nar .byte f_3))))] H := hP
    have hD : va_D A [(h0, .inr (10, [.ref h1, .int 8, .ref h2, .ref h3, .ref h4, .ref h5, .ref h6, .ref h7])), (h1, .inl (cB, 4000, .inl (upd g (8 : Int32).toNatClampNeg (vp_nar .byte f_3))))] := hD
    generalize upd g (8 : Int32).toNatClampNeg (vp_nar .byte f_3) = g_4 at hP hD
    refine lv_aload_n hx hb dX11_feedNumber_20 rfl (lv_at hl 1 rfl) ?_
    refine lv_dup hx hb dX11_feedNumber_21 rfl ?_
    refine va_get (D := (dC, dI)) (ci := 10) (v := .int 8) (C := RX11) (T := TX11) (N := 8) hx hb hts zz_in_zm_feedNumber8_X11 hown hK hP 0 rfl rfl 1 (by decide +kernel) (hts (.fieldLink RX11 13 "FilterHouse" "tapeSize" "I") (List.mem_of_getElem? (i := 2) rfl)) (fun _ h9 => h9) rfl dX11_feedNumber_22 ?_
    refine lv_iconst (v := 1) hx hb dX11_feedNumber_25 (by decide +kernel) ?_
    refine lv_iadd hx hb dX11_feedNumber_26 ?_
    refine lv_topi (fun f_5 ef_5 => ?_)
    obtain rfl : f_5 = (9 : Int32) := ef_5.trans (by decide +kernel)
    refine va_put (D := (dC, dI)) (ci := 10) (v := .int 9) (ty := .int) (C := RX11) (T := TX11) (N := 8) hx hb hts zz_in_zm_feedNumber8_X11 tyX11 tyX11_ok nmX11 hown hK hP hD hS 0 rfl rfl 1 (by decide +kernel) (hts (.fieldLink RX11 13 "FilterHouse" "tapeSize" "I") (List.mem_of_getElem? (i := 2) rfl)) (fun _ h9 => h9) rfl (by decide +kernel) rfl rfl (Nat.le_of_ble_eq_true rfl) dX11_feedNumber_27 (fun H locs hP hD hS => ?_)
    have hP : va_P (dC, dI) zz_cl [(h0, .inr (10, [.ref h1, .int 9, .ref h2, .ref h3, .ref h4, .ref h5, .ref h6, .ref h7])), (h1, .inl (cB, 4000, .inl g_4))] H := hP
    have hD : va_D A [(h0, .inr (10, [.ref h1, .int 9, .ref h2, .ref h3, .ref h4, .ref h5, .ref h6, .ref h7])), (h1, .inl (cB, 4000, .inl g_4))] := hD
    refine lv_iinc (v := 16) (lv' := [(2, .int 16), (0, .ref h0), (1, .int p0)]) hx hb dX11_feedNumber_30 hl (k := 0) rfl (by decide +kernel) (by decide +kernel) rfl (fun ls hl => ?_)
    refine lv_goto (tgt := 3) hx hb dX11_feedNumber_33 (by decide +kernel) ?_
    refine lv_iload_n hx hb dX11_feedNumber_3 rfl (lv_at hl 0 rfl) ?_
    refine lv_if_lt (tgt := 36) hx hb dX11_feedNumber_4 (by decide +kernel) (fun c_6 => ?_) (fun c_6 => ?_)
    · exact absurd c_6 (by decide +kernel)
    · refine lv_aload_n hx hb dX11_feedNumber_7 rfl (lv_at hl 1 rfl) ?_
      refine va_get (D := (dC, dI)) (ci := 10) (v := .ref h1) (C := RX11) (T := TX11) (N := 8) hx hb hts zz_in_zm_feedNumber8_X11 hown hK hP 0 rfl rfl 0 (by decide +kernel) (hts (.fieldLink RX11 9 "FilterHouse" "tape" "[B") (List.mem_of_getElem? (i := 1) rfl)) (fun _ h9 => h9) rfl dX11_feedNumber_8 ?_
      refine lv_aload_n hx hb dX11_feedNumber_11 rfl (lv_at hl 1 rfl) ?_
      refine va_get (D := (dC, dI)) (ci := 10) (v := .int 9) (C := RX11) (T := TX11) (N := 8) hx hb hts zz_in_zm_feedNumber8_X11 hown hK hP 0 rfl rfl 1 (by decide +kernel) (hts (.fieldLink RX11 13 "FilterHouse" "tapeSize" "I") (List.mem_of_getElem? (i := 2) rfl)) (fun _ h9 => h9) rfl dX11_feedNumber_12 ?_
      refine lv_iload_n hx hb dX11_feedNumber_15 rfl (lv_at hl 2 rfl) ?_
      refine lv_iload_n hx hb dX11_feedNumber_16 rfl (lv_at hl 0 rfl) ?_
      refine lv_ishr hx hb dX11_feedNumber_17 ?_
      refine lv_topi (fun f_7 ef_7 => ?_)
      refine lv_i2b hx hb dX11_feedNumber_18 rfl ?_
      refine lv_topi (fun f_8 ef_8 => ?_)
      refine va_bast hx hb hK hP hD hS 1 0 rfl rfl (show ¬ ((9 : Int32) < 0 ∨ 4000 ≤ (9 : Int32).toNatClampNeg) by decide +kernel) dX11_feedNumber_19 (fun H locs hP hD hS => ?_)
      have hP : va_P (dC, dI) zz_cl [(h0, .inr (10, [.ref h1, .int 9, .ref h2, .ref h3, .ref h4, .ref h5, .ref h6, .ref h7])), (h1, .inl (cB, 4000, .inl (upd g_4 (9 : Int32).toNatClampNeg (vp_nar .byte f_8))))] H := hP
      have hD : va_D A [(h0, .inr (10, [.ref h1, .int 9, .ref h2, .ref h3, .ref h4, .ref h5, .ref h6, .ref h7])), (h1, .inl (cB, 4000, .inl (upd g_4 (9 : Int32).toNatClampNeg (vp_nar .byte f_8))))] := hD
      generalize upd g_4 (9 : Int32).toNatClampNeg (vp_nar .byte f_8) = g_9 at hP hD
      refine lv_aload_n hx hb dX11_feedNumber_20 rfl (lv_at hl 1 rfl) ?_
      refine lv_dup hx hb dX11_feedNumber_21 rfl ?_
      refine va_get (D := (dC, dI)) (ci := 10) (v := .int 9) (C := RX11) (T := TX11) (N := 8) hx hb hts zz_in_zm_feedNumber8_X11 hown hK hP 0 rfl rfl 1 (by decide +kernel) (hts (.fieldLink RX11 13 "FilterHouse" "tapeSize" "I") (List.mem_of_getElem? (i := 2) rfl)) (fun _ h9 => h9) rfl dX11_feedNumber_22 ?_
      refine lv_iconst (v := 1) hx hb dX11_feedNumber_25 (by decide +kernel) ?_
      refine lv_iadd hx hb dX11_feedNumber_26 ?_
      refine lv_topi (fun f_10 ef_10 => ?_)
      obtain rfl : f_10 = (10 : Int32) := ef_10.trans (by decide +kernel)
      refine va_put (D := (dC, dI)) (ci := 10) (v := .int 10) (ty := .int) (C := RX11) (T := TX11) (N := 8) hx hb hts zz_in_zm_feedNumber8_X11 tyX11 tyX11_ok nmX11 hown hK hP hD hS 0 rfl rfl 1 (by decide +kernel) (hts (.fieldLink RX11 13 "FilterHouse" "tapeSize" "I") (List.mem_of_getElem? (i := 2) rfl)) (fun _ h9 => h9) rfl (by decide +kernel) rfl rfl (Nat.le_of_ble_eq_true rfl) dX11_feedNumber_27 (fun H locs hP hD hS => ?_)
      have hP : va_P (dC, dI) zz_cl [(h0, .inr (10, [.ref h1, .int 10, .ref h2, .ref h3, .ref h4, .ref h5, .ref h6, .ref h7])), (h1, .inl (cB, 4000, .inl g_9))] H := hP
      have hD : va_D A [(h0, .inr (10, [.ref h1, .int 10, .ref h2, .ref h3, .ref h4, .ref h5, .ref h6, .ref h7])), (h1, .inl (cB, 4000, .inl g_9))] := hD
      refine lv_iinc (v := 8) (lv' := [(2, .int 8), (0, .ref h0), (1, .int p0)]) hx hb dX11_feedNumber_30 hl (k := 0) rfl (by decide +kernel) (by decide +kernel) rfl (fun ls hl => ?_)
      refine lv_goto (tgt := 3) hx hb dX11_feedNumber_33 (by decide +kernel) ?_
      refine lv_iload_n hx hb dX11_feedNumber_3 rfl (lv_at hl 0 rfl) ?_
      refine lv_if_lt (tgt := 36) hx hb dX11_feedNumber_4 (by decide +kernel) (fun c_11 => ?_) (fun c_11 => ?_)
      · exact absurd c_11 (by decide +kernel)
      · refine lv_aload_n hx hb dX11_feedNumber_7 rfl (lv_at hl 1 rfl) ?_
        refine va_get (D := (dC, dI)) (ci := 10) (v := .ref h1) (C := RX11) (T := TX11) (N := 8) hx hb hts zz_in_zm_feedNumber8_X11 hown hK hP 0 rfl rfl 0 (by decide +kernel) (hts (.fieldLink RX11 9 "FilterHouse" "tape" "[B") (List.mem_of_getElem? (i := 1) rfl)) (fun _ h9 => h9) rfl dX11_feedNumber_8 ?_
        refine lv_aload_n hx hb dX11_feedNumber_11 rfl (lv_at hl 1 rfl) ?_
        refine va_get (D := (dC, dI)) (ci := 10) (v := .int 10) (C := RX11) (T := TX11) (N := 8) hx hb hts zz_in_zm_feedNumber8_X11 hown hK hP 0 rfl rfl 1 (by decide +kernel) (hts (.fieldLink RX11 13 "FilterHouse" "tapeSize" "I") (List.mem_of_getElem? (i := 2) rfl)) (fun _ h9 => h9) rfl dX11_feedNumber_12 ?_
        refine lv_iload_n hx hb dX11_feedNumber_15 rfl (lv_at hl 2 rfl) ?_
        refine lv_iload_n hx hb dX11_feedNumber_16 rfl (lv_at hl 0 rfl) ?_
        refine lv_ishr hx hb dX11_feedNumber_17 ?_
        refine lv_topi (fun f_12 ef_12 => ?_)
        refine lv_i2b hx hb dX11_feedNumber_18 rfl ?_
        refine lv_topi (fun f_13 ef_13 => ?_)
        refine va_bast hx hb hK hP hD hS 1 0 rfl rfl (show ¬ ((10 : Int32) < 0 ∨ 4000 ≤ (10 : Int32).toNatClampNeg) by decide +kernel) dX11_feedNumber_19 (fun H locs hP hD hS => ?_)
        have hP : va_P (dC, dI) zz_cl [(h0, .inr (10, [.ref h1, .int 10, .ref h2, .ref h3, .ref h4, .ref h5, .ref h6, .ref h7])), (h1, .inl (cB, 4000, .inl (upd g_9 (10 : Int32).toNatClampNeg (vp_nar .byte f_13))))] H := hP
        have hD : va_D A [(h0, .inr (10, [.ref h1, .int 10, .ref h2, .ref h3, .ref h4, .ref h5, .ref h6, .ref h7])), (h1, .inl (cB, 4000, .inl (upd g_9 (10 : Int32).toNatClampNeg (vp_nar .byte f_13))))] := hD
        generalize upd g_9 (10 : Int32).toNatClampNeg (vp_nar .byte f_13) = g_14 at hP hD
        refine lv_aload_n hx hb dX11_feedNumber_20 rfl (lv_at hl 1 rfl) ?_
        refine lv_dup hx hb dX11_feedNumber_21 rfl ?_
        refine va_get (D := (dC, dI)) (ci := 10) (v := .int 10) (C := RX11) (T := TX11) (N := 8) hx hb hts zz_in_zm_feedNumber8_X11 hown hK hP 0 rfl rfl 1 (by decide +kernel) (hts (.fieldLink RX11 13 "FilterHouse" "tapeSize" "I") (List.mem_of_getElem? (i := 2) rfl)) (fun _ h9 => h9) rfl dX11_feedNumber_22 ?_
        refine lv_iconst (v := 1) hx hb dX11_feedNumber_25 (by decide +kernel) ?_
        refine lv_iadd hx hb dX11_feedNumber_26 ?_
        refine lv_topi (fun f_15 ef_15 => ?_)
        obtain rfl : f_15 = (11 : Int32) := ef_15.trans (by decide +kernel)
        refine va_put (D := (dC, dI)) (ci := 10) (v := .int 11) (ty := .int) (C := RX11) (T := TX11) (N := 8) hx hb hts zz_in_zm_feedNumber8_X11 tyX11 tyX11_ok nmX11 hown hK hP hD hS 0 rfl rfl 1 (by decide +kernel) (hts (.fieldLink RX11 13 "FilterHouse" "tapeSize" "I") (List.mem_of_getElem? (i := 2) rfl)) (fun _ h9 => h9) rfl (by decide +kernel) rfl rfl (Nat.le_of_ble_eq_true rfl) dX11_feedNumber_27 (fun H locs hP hD hS => ?_)
        have hP : va_P (dC, dI) zz_cl [(h0, .inr (10, [.ref h1, .int 11, .ref h2, .ref h3, .ref h4, .ref h5, .ref h6, .ref h7])), (h1, .inl (cB, 4000, .inl g_14))] H := hP
        have hD : va_D A [(h0, .inr (10, [.ref h1, .int 11, .ref h2, .ref h3, .ref h4, .ref h5, .ref h6, .ref h7])), (h1, .inl (cB, 4000, .inl g_14))] := hD
        refine lv_iinc (v := 0) (lv' := [(2, .int 0), (0, .ref h0), (1, .int p0)]) hx hb dX11_feedNumber_30 hl (k := 0) rfl (by decide +kernel) (by decide +kernel) rfl (fun ls hl => ?_)
        refine lv_goto (tgt := 3) hx hb dX11_feedNumber_33 (by decide +kernel) ?_
        refine lv_iload_n hx hb dX11_feedNumber_3 rfl (lv_at hl 0 rfl) ?_
        refine lv_if_lt (tgt := 36) hx hb dX11_feedNumber_4 (by decide +kernel) (fun c_16 => ?_) (fun c_16 => ?_)
        · exact absurd c_16 (by decide +kernel)
        · refine lv_aload_n hx hb dX11_feedNumber_7 rfl (lv_at hl 1 rfl) ?_
          refine va_get (D := (dC, dI)) (ci := 10) (v := .ref h1) (C := RX11) (T := TX11) (N := 8) hx hb hts zz_in_zm_feedNumber8_X11 hown hK hP 0 rfl rfl 0 (by decide +kernel) (hts (.fieldLink RX11 9 "FilterHouse" "tape" "[B") (List.mem_of_getElem? (i := 1) rfl)) (fun _ h9 => h9) rfl dX11_feedNumber_8 ?_
          refine lv_aload_n hx hb dX11_feedNumber_11 rfl (lv_at hl 1 rfl) ?_
          refine va_get (D := (dC, dI)) (ci := 10) (v := .int 11) (C := RX11) (T := TX11) (N := 8) hx hb hts zz_in_zm_feedNumber8_X11 hown hK hP 0 rfl rfl 1 (by decide +kernel) (hts (.fieldLink RX11 13 "FilterHouse" "tapeSize" "I") (List.mem_of_getElem? (i := 2) rfl)) (fun _ h9 => h9) rfl dX11_feedNumber_12 ?_
          refine lv_iload_n hx hb dX11_feedNumber_15 rfl (lv_at hl 2 rfl) ?_
          refine lv_iload_n hx hb dX11_feedNumber_16 rfl (lv_at hl 0 rfl) ?_
          refine lv_ishr hx hb dX11_feedNumber_17 ?_
          refine lv_topi (fun f_17 ef_17 => ?_)
          refine lv_i2b hx hb dX11_feedNumber_18 rfl ?_
          refine lv_topi (fun f_18 ef_18 => ?_)
          refine va_bast hx hb hK hP hD hS 1 0 rfl rfl (show ¬ ((11 : Int32) < 0 ∨ 4000 ≤ (11 : Int32).toNatClampNeg) by decide +kernel) dX11_feedNumber_19 (fun H locs hP hD hS => ?_)
          have hP : va_P (dC, dI) zz_cl [(h0, .inr (10, [.ref h1, .int 11, .ref h2, .ref h3, .ref h4, .ref h5, .ref h6, .ref h7])), (h1, .inl (cB, 4000, .inl (upd g_14 (11 : Int32).toNatClampNeg (vp_nar .byte f_18))))] H := hP
          have hD : va_D A [(h0, .inr (10, [.ref h1, .int 11, .ref h2, .ref h3, .ref h4, .ref h5, .ref h6, .ref h7])), (h1, .inl (cB, 4000, .inl (upd g_14 (11 : Int32).toNatClampNeg (vp_nar .byte f_18))))] := hD
          generalize upd g_14 (11 : Int32).toNatClampNeg (vp_nar .byte f_18) = g_19 at hP hD
          refine lv_aload_n hx hb dX11_feedNumber_20 rfl (lv_at hl 1 rfl) ?_
          refine lv_dup hx hb dX11_feedNumber_21 rfl ?_
          refine va_get (D := (dC, dI)) (ci := 10) (v := .int 11) (C := RX11) (T := TX11) (N := 8) hx hb hts zz_in_zm_feedNumber8_X11 hown hK hP 0 rfl rfl 1 (by decide +kernel) (hts (.fieldLink RX11 13 "FilterHouse" "tapeSize" "I") (List.mem_of_getElem? (i := 2) rfl)) (fun _ h9 => h9) rfl dX11_feedNumber_22 ?_
          refine lv_iconst (v := 1) hx hb dX11_feedNumber_25 (by decide +kernel) ?_
          refine lv_iadd hx hb dX11_feedNumber_26 ?_
          refine lv_topi (fun f_20 ef_20 => ?_)
          obtain rfl : f_20 = (12 : Int32) := ef_20.trans (by decide +kernel)
          refine va_put (D := (dC, dI)) (ci := 10) (v := .int 12) (ty := .int) (C := RX11) (T := TX11) (N := 8) hx hb hts zz_in_zm_feedNumber8_X11 tyX11 tyX11_ok nmX11 hown hK hP hD hS 0 rfl rfl 1 (by decide +kernel) (hts (.fieldLink RX11 13 "FilterHouse" "tapeSize" "I") (List.mem_of_getElem? (i := 2) rfl)) (fun _ h9 => h9) rfl (by decide +kernel) rfl rfl (Nat.le_of_ble_eq_true rfl) dX11_feedNumber_27 (fun H locs hP hD hS => ?_)
          have hP : va_P (dC, dI) zz_cl [(h0, .inr (10, [.ref h1, .int 12, .ref h2, .ref h3, .ref h4, .ref h5, .ref h6, .ref h7])), (h1, .inl (cB, 4000, .inl g_19))] H := hP
          have hD : va_D A [(h0, .inr (10, [.ref h1, .int 12, .ref h2, .ref h3, .ref h4, .ref h5, .ref h6, .ref h7])), (h1, .inl (cB, 4000, .inl g_19))] := hD
          refine lv_iinc (v := (-8)) (lv' := [(2, .int (-8)), (0, .ref h0), (1, .int p0)]) hx hb dX11_feedNumber_30 hl (k := 0) rfl (by decide +kernel) (by decide +kernel) rfl (fun ls hl => ?_)
          refine lv_goto (tgt := 3) hx hb dX11_feedNumber_33 (by decide +kernel) ?_
          refine lv_iload_n hx hb dX11_feedNumber_3 rfl (lv_at hl 0 rfl) ?_
          refine lv_if_lt (tgt := 36) hx hb dX11_feedNumber_4 (by decide +kernel) (fun c_21 => ?_) (fun c_21 => ?_)
          · have hP9 := hP.sub (ws' := [(h0, .inr (10, [.ref h1, .int 12, .ref h2, .ref h3, .ref h4, .ref h5, .ref h6, .ref h7])), (h1, .inl (cB, 4000, .inl g_19))]) [0, 1] rfl
            have hD9 := hD.sub (ws' := [(h0, .inr (10, [.ref h1, .int 12, .ref h2, .ref h3, .ref h4, .ref h5, .ref h6, .ref h7])), (h1, .inl (cB, 4000, .inl g_19))]) [0, 1] (by decide +kernel) rfl
            exact W.vret hx hb hr (fun t ht hW => ⟨⟨g_19, rfl, trivial, by rw [ht]; exact hP9, hD9⟩, hS.F ht⟩) hS.2.2 dX11_feedNumber_36
          · exact absurd c_21 (by decide +kernel)
def zw_zm_feedNumber12 : List Cond := .code yX11_feedNumber cX11_feedNumber 3 none :: ([.fieldLink RX11 9 "FilterHouse" "tape" "[B", .fieldLink RX11 13 "FilterHouse" "tapeSize" "I"] ++ (wsX110 ++ []))
theorem zz_in_zm_feedNumber12_X11 : ∀ w ∈ wsX110, w ∈ zw_zm_feedNumber12 := fun w h => List.mem_cons_of_mem _ (List.mem_append_right _ (List.mem_append_left _ h))
set_option maxHeartbeats 1000000 in
set_option maxRecDepth 100000 in
/-- zm_feedNumber12 -/
theorem zm_feedNumber12 (l : Launch) (dC : Nat → ClassId) (dI : Nat → Nat → Nat) (cB cI cJ cZ : ClassId) (h0 h1 h2 h3 h4 h5 h6 h7 : Nat) (sz : Nat) (g : Nat → Int32) (p0 : Int32) : Met l yX11_feedNumber zw_zm_feedNumber12 ({ frames := 0, cells := 0, slots := 0, locals := 0 }) (va_Pc [.ref h0, .int p0] (fun U => U.heap.size = sz ∧ va_P (dC, dI) zz_cl [(h0, .inr (10, [.ref h1, .int 12, .ref h2, .ref h3, .ref h4, .ref h5, .ref h6, .ref h7])), (h1, .inl (cB, 4000, .inl g))] U.heap ∧ va_K (dC, dI) zz_cl [(cB, .byte), (cI, .int), (cJ, .long), (cZ, .boolean)] U ∧ va_D (fun _ => True) [(h0, .inr (10, [.ref h1, .int 12, .ref h2, .ref h3, .ref h4, .ref h5, .ref h6, .ref h7])), (h1, .inl (cB, 4000, .inl g))])) (va_Qv (fun (_ : Nat → Int32) => True) (fun (g9 : Nat → Int32) t => va_P (dC, dI) zz_cl [(h0, .inr (10, [.ref h1, .int 16, .ref h2, .ref h3, .ref h4, .ref h5, .ref h6, .ref h7])), (h1, .inl (cB, 4000, .inl g9))] t.heap ∧ va_D (va_A [(h0, .inr (10, [.ref h1, .int 12, .ref h2, .ref h3, .ref h4, .ref h5, .ref h6, .ref h7])), (h1, .inl (cB, 4000, .inl g))] sz) [(h0, .inr (10, [.ref h1, .int 16, .ref h2, .ref h3, .ref h4, .ref h5, .ref h6, .ref h7])), (h1, .inl (cB, 4000, .inl g9))]) (va_A [(h0, .inr (10, [.ref h1, .int 12, .ref h2, .ref h3, .ref h4, .ref h5, .ref h6, .ref h7])), (h1, .inl (cB, 4000, .inl g))] sz)) 0 0 (va_A [(h0, .inr (10, [.ref h1, .int 12, .ref h2, .ref h3, .ref h4, .ref h5, .ref h6, .ref h7])), (h1, .inl (cB, 4000, .inl g))] sz) := by
  refine Met.ofW (cc := cX11_feedNumber) (maxL := 3) (ret := none) (by decide +kernel) rfl ?_
  intro p e s m args below meth c s₁ B hml hv
  obtain ⟨rfl, hsz, hP, hK, hD0⟩ := hv
  have hx := B.exec
  have hb := B.bytes
  have hr := B.returns
  have hts := atoms_spec (ws := zw_zm_feedNumber12) B.pre
  have hown : s.vm.findClass RX11 = some m.cls := findClass_of_methodNamed B.named
  have hlocks := B.notSynchronized
  subst hsz
  have hD := hD0.self (sz := s.heap.size)
  generalize hAe : va_A [(h0, .inr (10, [.ref h1, .int 12, .ref h2, .ref h3, .ref h4, .ref h5, .ref h6, .ref h7])), (h1, .inl (cB, 4000, .inl g))] s.heap.size = A at hD ⊢
  have hA : ∀ q : Nat, s.heap.size ≤ q → A q := fun q h => by rw [← hAe]; exact Or.inr h
  have hS : va_S A s.heap s.heap [] := va_S.rf
  have hP : va_P (dC, dI) zz_cl [(h0, .inr (10, [.ref h1, .int 12, .ref h2, .ref h3, .ref h4, .ref h5, .ref h6, .ref h7])), (h1, .inl (cB, 4000, .inl g))] s.heap := hP
  have hl := lv_entry ([.ref h0, .int p0]) (n := 3) (Nat.le_of_ble_eq_true rfl)
  rw [lg_entry_eq]
  generalize (lg_sl ([.ref h0, .int p0]) ++ List.replicate (3 - (lg_sl ([.ref h0, .int p0])).length) Slot.unset).toArray = ls at hl ⊢
  have hl : lv_has ls 3 [(0, .ref h0), (1, .int p0)] := hl
  refine lv_bipush (v := 24) hx hb dX11_feedNumber_0 (by decide +kernel) ?_
  refine lv_istore_n (lv' := [(2, .int 24), (0, .ref h0), (1, .int p0)]) hx hb dX11_feedNumber_2 rfl hl (by decide +kernel) rfl (fun ls hl => ?_)
  refine lv_iload_n hx hb dX11_feedNumber_3 rfl (lv_at hl 0 rfl) ?_
  refine lv_if_lt (tgt := 36) hx hb dX11_feedNumber_4 (by decide +kernel) (fun c_1 => ?_) (fun c_1 => ?_)
  · exact absurd c_1 (by decide +kernel)
  · refine lv_aload_n hx hb dX11_feedNumber_7 rfl (lv_at hl 1 rfl) ?_
    refine va_get (D := (dC, dI)) (ci := 10) (v := .ref h1) (C := RX11) (T := TX11) (N := 8) hx hb hts zz_in_zm_feedNumber12_X11 hown hK hP 0 rfl rfl 0 (by decide +kernel) (hts (.fieldLink RX11 9 "FilterHouse" "tape" "[B") (List.mem_of_getElem? (i := 1) rfl)) (fun _ h9 => h9) rfl dX11_feedNumber_8 ?_
    refine lv_aload_n hx hb dX11_feedNumber_11 rfl (lv_at hl 1 rfl) ?_
    refine va_get (D := (dC, dI)) (ci := 10) (v := .int 12) (C := RX11) (T := TX11) (N := 8) hx hb hts zz_in_zm_feedNumber12_X11 hown hK hP 0 rfl rfl 1 (by decide +kernel) (hts (.fieldLink RX11 13 "FilterHouse" "tapeSize" "I") (List.mem_of_getElem? (i := 2) rfl)) (fun _ h9 => h9) rfl dX11_feedNumber_12 ?_
    refine lv_iload_n hx hb dX11_feedNumber_15 rfl (lv_at hl 2 rfl) ?_
    refine lv_iload_n hx hb dX11_feedNumber_16 rfl (lv_at hl 0 rfl) ?_
    refine lv_ishr hx hb dX11_feedNumber_17 ?_
    refine lv_topi (fun f_2 ef_2 => ?_)
    refine lv_i2b hx hb dX11_feedNumber_18 rfl ?_
    refine lv_topi (fun f_3 ef_3 => ?_)
    refine va_bast hx hb hK hP hD hS 1 0 rfl rfl (show ¬ ((12 : Int32) < 0 ∨ 4000 ≤ (12 : Int32).toNatClampNeg) by decide +kernel) dX11_feedNumber_19 (fun H locs hP hD hS => ?_)
    have hP : va_P (dC, dI) zz_cl [(h0, .inr (10, [.ref h1, .int 12, .ref h2, .ref h3, .ref h4, .ref h5, .ref h6, .ref h7])), (h1, .inl (cB, 4000, .inl (upd g (12 : Int32).toNatClampNeg (vp_nar .byte f_3))))] H := hP
    have hD : va_D A [(h0, .inr (10, [.ref h1, .int 12, .ref h2, .ref h3, .ref h4, .ref h5, .ref h6, .ref h7])), (h1, .inl (cB, 4000, .inl (upd g (12 : Int32).toNatClampNeg (vp_nar .byte f_3))))] := hD
    generalize upd g (12 : Int32).toNatClampNeg (vp_nar .byte f_3) = g_4 at hP hD
    refine lv_aload_n hx hb dX11_feedNumber_20 rfl (lv_at hl 1 rfl) ?_
    refine lv_dup hx hb dX11_feedNumber_21 rfl ?_
    refine va_get (D := (dC, dI)) (ci := 10) (v := .int 12) (C := RX11) (T := TX11) (N := 8) hx hb hts zz_in_zm_feedNumber12_X11 hown hK hP 0 rfl rfl 1 (by decide +kernel) (hts (.fieldLink RX11 13 "FilterHouse" "tapeSize" "I") (List.mem_of_getElem? (i := 2) rfl)) (fun _ h9 => h9) rfl dX11_feedNumber_22 ?_
    refine lv_iconst (v := 1) hx hb dX11_feedNumber_25 (by decide +kernel) ?_
    refine lv_iadd hx hb dX11_feedNumber_26 ?_
    refine lv_topi (fun f_5 ef_5 => ?_)
    obtain rfl : f_5 = (13 : Int32) := ef_5.trans (by decide +kernel)
    refine va_put (D := (dC, dI)) (ci := 10) (v := .int 13) (ty := .int) (C := RX11) (T := TX11) (N := 8) hx hb hts zz_in_zm_feedNumber12_X11 tyX11 tyX11_ok nmX11 hown hK hP hD hS 0 rfl rfl 1 (by decide +kernel) (hts (.fieldLink RX11 13 "FilterHouse" "tapeSize" "I") (List.mem_of_getElem? (i := 2) rfl)) (fun _ h9 => h9) rfl (by decide +kernel) rfl rfl (Nat.le_of_ble_eq_true rfl) dX11_feedNumber_27 (fun H locs hP hD hS => ?_)
    have hP : va_P (dC, dI) zz_cl [(h0, .inr (10, [.ref h1, .int 13, .ref h2, .ref h3, .ref h4, .ref h5, .ref h6, .ref h7])), (h1, .inl (cB, 4000, .inl g_4))] H := hP
    have hD : va_D A [(h0, .inr (10, [.ref h1, .int 13, .ref h2, .ref h3, .ref h4, .ref h5, .ref h6, .ref h7])), (h1, .inl (cB, 4000, .inl g_4))] := hD
    refine lv_iinc (v := 16) (lv' := [(2, .int 16), (0, .ref h0), (1, .int p0)]) hx hb dX11_feedNumber_30 hl (k := 0) rfl (by decide +kernel) (by decide +kernel) rfl (fun ls hl => ?_)
    refine lv_goto (tgt := 3) hx hb dX11_feedNumber_33 (by decide +kernel) ?_
    refine lv_iload_n hx hb dX11_feedNumber_3 rfl (lv_at hl 0 rfl) ?_
    refine lv_if_lt (tgt := 36) hx hb dX11_feedNumber_4 (by decide +kernel) (fun c_6 => ?_) (fun c_6 => ?_)
    · exact absurd c_6 (by decide +kernel)
    · refine lv_aload_n hx hb dX11_feedNumber_7 rfl (lv_at hl 1 rfl) ?_
      refine va_get (D := (dC, dI)) (ci := 10) (v := .ref h1) (C := RX11) (T := TX11) (N := 8) hx hb hts zz_in_zm_feedNumber12_X11 hown hK hP 0 rfl rfl 0 (by decide +kernel) (hts (.fieldLink RX11 9 "FilterHouse" "tape" "[B") (List.mem_of_getElem? (i := 1) rfl)) (fun _ h9 => h9) rfl dX11_feedNumber_8 ?_
      refine lv_aload_n hx hb dX11_feedNumber_11 rfl (lv_at hl 1 rfl) ?_
      refine va_get (D := (dC, dI)) (ci := 10) (v := .int 13) (C := RX11) (T := TX11) (N := 8) hx hb hts zz_in_zm_feedNumber12_X11 hown hK hP 0 rfl rfl 1 (by decide +kernel) (hts (.fieldLink RX11 13 "FilterHouse" "tapeSize" "I") (List.mem_of_getElem? (i := 2) rfl)) (fun _ h9 => h9) rfl dX11_feedNumber_12 ?_
      refine lv_iload_n hx hb dX11_feedNumber_15 rfl (lv_at hl 2 rfl) ?_
      refine lv_iload_n hx hb dX11_feedNumber_16 rfl (lv_at hl 0 rfl) ?_
      refine lv_ishr hx hb dX11_feedNumber_17 ?_
      refine lv_topi (fun f_7 ef_7 => ?_)
      refine lv_i2b hx hb dX11_feedNumber_18 rfl ?_
      refine lv_topi (fun f_8 ef_8 => ?_)
      refine va_bast hx hb hK hP hD hS 1 0 rfl rfl (show ¬ ((13 : Int32) < 0 ∨ 4000 ≤ (13 : Int32).toNatClampNeg) by decide +kernel) dX11_feedNumber_19 (fun H locs hP hD hS => ?_)
      have hP : va_P (dC, dI) zz_cl [(h0, .inr (10, [.ref h1, .int 13, .ref h2, .ref h3, .ref h4, .ref h5, .ref h6, .ref h7])), (h1, .inl (cB, 4000, .inl (upd g_4 (13 : Int32).toNatClampNeg (vp_nar .byte f_8))))] H := hP
      have hD : va_D A [(h0, .inr (10, [.ref h1, .int 13, .ref h2, .ref h3, .ref h4, .ref h5, .ref h6, .ref h7])), (h1, .inl (cB, 4000, .inl (upd g_4 (13 : Int32).toNatClampNeg (vp_nar .byte f_8))))] := hD
      generalize upd g_4 (13 : Int32).toNatClampNeg (vp_nar .byte f_8) = g_9 at hP hD
      refine lv_aload_n hx hb dX11_feedNumber_20 rfl (lv_at hl 1 rfl) ?_
      refine lv_dup hx hb dX11_feedNumber_21 rfl ?_
      refine va_get (D := (dC, dI)) (ci := 10) (v := .int 13) (C := RX11) (T := TX11) (N := 8) hx hb hts zz_in_zm_feedNumber12_X11 hown hK hP 0 rfl rfl 1 (by decide +kernel) (hts (.fieldLink RX11 13 "FilterHouse" "tapeSize" "I") (List.mem_of_getElem? (i := 2) rfl)) (fun _ h9 => h9) rfl dX11_feedNumber_22 ?_
      refine lv_iconst (v := 1) hx hb dX11_feedNumber_25 (by decide +kernel) ?_
      refine lv_iadd hx hb dX11_feedNumber_26 ?_
      refine lv_topi (fun f_10 ef_10 => ?_)
      obtain rfl : f_10 = (14 : Int32) := ef_10.trans (by decide +kernel)
      refine va_put (D := (dC, dI)) (ci := 10) (v := .int 14) (ty := .int) (C := RX11) (T := TX11) (N := 8) hx hb hts zz_in_zm_feedNumber12_X11 tyX11 tyX11_ok nmX11 hown hK hP hD hS 0 rfl rfl 1 (by decide +kernel) (hts (.fieldLink RX11 13 "FilterHouse" "tapeSize" "I") (List.mem_of_getElem? (i := 2) rfl)) (fun _ h9 => h9) rfl (by decide +kernel) rfl rfl (Nat.le_of_ble_eq_true rfl) dX11_feedNumber_27 (fun H locs hP hD hS => ?_)
      have hP : va_P (dC, dI) zz_cl [(h0, .inr (10, [.ref h1, .int 14, .ref h2, .ref h3, .ref h4, .ref h5, .ref h6, .ref h7])), (h1, .inl (cB, 4000, .inl g_9))] H := hP
      have hD : va_D A [(h0, .inr (10, [.ref h1, .int 14, .ref h2, .ref h3, .ref h4, .ref h5, .ref h6, .ref h7])), (h1, .inl (cB, 4000, .inl g_9))] := hD
      refine lv_iinc (v := 8) (lv' := [(2, .int 8), (0, .ref h0), (1, .int p0)]) hx hb dX11_feedNumber_30 hl (k := 0) rfl (by decide +kernel) (by decide +kernel) rfl (fun ls hl => ?_)
      refine lv_goto (tgt := 3) hx hb dX11_feedNumber_33 (by decide +kernel) ?_
      refine lv_iload_n hx hb dX11_feedNumber_3 rfl (lv_at hl 0 rfl) ?_
      refine lv_if_lt (tgt := 36) hx hb dX11_feedNumber_4 (by decide +kernel) (fun c_11 => ?_) (fun c_11 => ?_)
      · exact absurd c_11 (by decide +kernel)
      · refine lv_aload_n hx hb dX11_feedNumber_7 rfl (lv_at hl 1 rfl) ?_
        refine va_get (D := (dC, dI)) (ci := 10) (v := .ref h1) (C := RX11) (T := TX11) (N := 8) hx hb hts zz_in_zm_feedNumber12_X11 hown hK hP 0 rfl rfl 0 (by decide +kernel) (hts (.fieldLink RX11 9 "FilterHouse" "tape" "[B") (List.mem_of_getElem? (i := 1) rfl)) (fun _ h9 => h9) rfl dX11_feedNumber_8 ?_
        refine lv_aload_n hx hb dX11_feedNumber_11 rfl (lv_at hl 1 rfl) ?_
        refine va_get (D := (dC, dI)) (ci := 10) (v := .int 14) (C := RX11) (T := TX11) (N := 8) hx hb hts zz_in_zm_feedNumber12_X11 hown hK hP 0 rfl rfl 1 (by decide +kernel) (hts (.fieldLink RX11 13 "FilterHouse" "tapeSize" "I") (List.mem_of_getElem? (i := 2) rfl)) (fun _ h9 => h9) rfl dX11_feedNumber_12 ?_
        refine lv_iload_n hx hb dX11_feedNumber_15 rfl (lv_at hl 2 rfl) ?_
        refine lv_iload_n hx hb dX11_feedNumber_16 rfl (lv_at hl 0 rfl) ?_
        refine lv_ishr hx hb dX11_feedNumber_17 ?_
        refine lv_topi (fun f_12 ef_12 => ?_)
        refine lv_i2b hx hb dX11_feedNumber_18 rfl ?_
        refine lv_topi (fun f_13 ef_13 => ?_)
        refine va_bast hx hb hK hP hD hS 1 0 rfl rfl (show ¬ ((14 : Int32) < 0 ∨ 4000 ≤ (14 : Int32).toNatClampNeg) by decide +kernel) dX11_feedNumber_19 (fun H locs hP hD hS => ?_)
        have hP : va_P (dC, dI) zz_cl [(h0, .inr (10, [.ref h1, .int 14, .ref h2, .ref h3, .ref h4, .ref h5, .ref h6, .ref h7])), (h1, .inl (cB, 4000, .inl (upd g_9 (14 : Int32).toNatClampNeg (vp_nar .byte f_13))))] H := hP
        have hD : va_D A [(h0, .inr (10, [.ref h1, .int 14, .ref h2, .ref h3, .ref h4, .ref h5, .ref h6, .ref h7])), (h1, .inl (cB, 4000, .inl (upd g_9 (14 : Int32).toNatClampNeg (vp_nar .byte f_13))))] := hD
        generalize upd g_9 (14 : Int32).toNatClampNeg (vp_nar .byte f_13) = g_14 at hP hD
        refine lv_aload_n hx hb dX11_feedNumber_20 rfl (lv_at hl 1 rfl) ?_
        refine lv_dup hx hb dX11_feedNumber_21 rfl ?_
        refine va_get (D := (dC, dI)) (ci := 10) (v := .int 14) (C := RX11) (T := TX11) (N := 8) hx hb hts zz_in_zm_feedNumber12_X11 hown hK hP 0 rfl rfl 1 (by decide +kernel) (hts (.fieldLink RX11 13 "FilterHouse" "tapeSize" "I") (List.mem_of_getElem? (i := 2) rfl)) (fun _ h9 => h9) rfl dX11_feedNumber_22 ?_
        refine lv_iconst (v := 1) hx hb dX11_feedNumber_25 (by decide +kernel) ?_
        refine lv_iadd hx hb dX11_feedNumber_26 ?_
        refine lv_topi (fun f_15 ef_15 => ?_)
        obtain rfl : f_15 = (15 : Int32) := ef_15.trans (by decide +kernel)
        refine va_put (D := (dC, dI)) (ci := 10) (v := .int 15) (ty := .int) (C := RX11) (T := TX11) (N := 8) hx hb hts zz_in_zm_feedNumber12_X11 tyX11 tyX11_ok nmX11 hown hK hP hD hS 0 rfl rfl 1 (by decide +kernel) (hts (.fieldLink RX11 13 "FilterHouse" "tapeSize" "I") (List.mem_of_getElem? (i := 2) rfl)) (fun _ h9 => h9) rfl (by decide +kernel) rfl rfl (Nat.le_of_ble_eq_true rfl) dX11_feedNumber_27 (fun H locs hP hD hS => ?_)
        have hP : va_P (dC, dI) zz_cl [(h0, .inr (10, [.ref h1, .int 15, .ref h2, .ref h3, .ref h4, .ref h5, .ref h6, .ref h7])), (h1, .inl (cB, 4000, .inl g_14))] H := hP
        have hD : va_D A [(h0, .inr (10, [.ref h1, .int 15, .ref h2, .ref h3, .ref h4, .ref h5, .ref h6, .ref h7])), (h1, .inl (cB, 4000, .inl g_14))] := hD
        refine lv_iinc (v := 0) (lv' := [(2, .int 0), (0, .ref h0), (1, .int p0)]) hx hb dX11_feedNumber_30 hl (k := 0) rfl (by decide +kernel) (by decide +kernel) rfl (fun ls hl => ?_)
        refine lv_goto (tgt := 3) hx hb dX11_feedNumber_33 (by decide +kernel) ?_
        refine lv_iload_n hx hb dX11_feedNumber_3 rfl (lv_at hl 0 rfl) ?_
        refine lv_if_lt (tgt := 36) hx hb dX11_feedNumber_4 (by decide +kernel) (fun c_16 => ?_) (fun c_16 => ?_)
        · exact absurd c_16 (by decide +kernel)
        · refine lv_aload_n hx hb dX11_feedNumber_7 rfl (lv_at hl 1 rfl) ?_
          refine va_get (D := (dC, dI)) (ci := 10) (v := .ref h1) (C := RX11) (T := TX11) (N := 8) hx hb hts zz_in_zm_feedNumber12_X11 hown hK hP 0 rfl rfl 0 (by decide +kernel) (hts (.fieldLink RX11 9 "FilterHouse" "tape" "[B") (List.mem_of_getElem? (i := 1) rfl)) (fun _ h9 => h9) rfl dX11_feedNumber_8 ?_
          refine lv_aload_n hx hb dX11_feedNumber_11 rfl (lv_at hl 1 rfl) ?_
          refine va_get (D := (dC, dI)) (ci := 10) (v := .int 15) (C := RX11) (T := TX11) (N := 8) hx hb hts zz_in_zm_feedNumber12_X11 hown hK hP 0 rfl rfl 1 (by decide +kernel) (hts (.fieldLink RX11 13 "FilterHouse" "tapeSize" "I") (List.mem_of_getElem? (i := 2) rfl)) (fun _ h9 => h9) rfl dX11_feedNumber_12 ?_
          refine lv_iload_n hx hb dX11_feedNumber_15 rfl (lv_at hl 2 rfl) ?_
          refine lv_iload_n hx hb dX11_feedNumber_16 rfl (lv_at hl 0 rfl) ?_
          refine lv_ishr hx hb dX11_feedNumber_17 ?_
          refine lv_topi (fun f_17 ef_17 => ?_)
          refine lv_i2b hx hb dX11_feedNumber_18 rfl ?_
          refine lv_topi (fun f_18 ef_18 => ?_)
          refine va_bast hx hb hK hP hD hS 1 0 rfl rfl (show ¬ ((15 : Int32) < 0 ∨ 4000 ≤ (15 : Int32).toNatClampNeg) by decide +kernel) dX11_feedNumber_19 (fun H locs hP hD hS => ?_)
          have hP : va_P (dC, dI) zz_cl [(h0, .inr (10, [.ref h1, .int 15, .ref h2, .ref h3, .ref h4, .ref h5, .ref h6, .ref h7])), (h1, .inl (cB, 4000, .inl (upd g_14 (15 : Int32).toNatClampNeg (vp_nar .byte f_18))))] H := hP
          have hD : va_D A [(h0, .inr (10, [.ref h1, .int 15, .ref h2, .ref h3, .ref h4, .ref h5, .ref h6, .ref h7])), (h1, .inl (cB, 4000, .inl (upd g_14 (15 : Int32).toNatClampNeg (vp_nar .byte f_18))))] := hD
          generalize upd g_14 (15 : Int32).toNatClampNeg (vp_nar .byte f_18) = g_19 at hP hD
          refine lv_aload_n hx hb dX11_feedNumber_20 rfl (lv_at hl 1 rfl) ?_
          refine lv_dup hx hb dX11_feedNumber_21 rfl ?_
          refine va_get (D := (dC, dI)) (ci := 10) (v := .int 15) (C := RX11) (T := TX11) (N := 8) hx hb hts zz_in_zm_feedNumber12_X11 hown hK hP 0 rfl rfl 1 (by decide +kernel) (hts (.fieldLink RX11 13 "FilterHouse" "tapeSize" "I") (List.mem_of_getElem? (i := 2) rfl)) (fun _ h9 => h9) rfl dX11_feedNumber_22 ?_
          refine lv_iconst (v := 1) hx hb dX11_feedNumber_25 (by decide +kernel) ?_
          refine lv_iadd hx hb dX11_feedNumber_26 ?_
          refine lv_topi (fun f_20 ef_20 => ?_)
          obtain rfl : f_20 = (16 : Int32) := ef_20.trans (by decide +kernel)
          refine va_put (D := (dC, dI)) (ci := 10) (v := .int 16) (ty := .int) (C := RX11) (T := TX11) (N := 8) hx hb hts zz_in_zm_feedNumber12_X11 tyX11 tyX11_ok nmX11 hown hK hP hD hS 0 rfl rfl 1 (by decide +kernel) (hts (.fieldLink RX11 13 "FilterHouse" "tapeSize" "I") (List.mem_of_getElem? (i := 2) rfl)) (fun _ h9 => h9) rfl (by decide +kernel) rfl rfl (Nat.le_of_ble_eq_true rfl) dX11_feedNumber_27 (fun H locs hP hD hS => ?_)
          have hP : va_P (dC, dI) zz_cl [(h0, .inr (10, [.ref h1, .int 16, .ref h2, .ref h3, .ref h4, .ref h5, .ref h6, .ref h7])), (h1, .inl (cB, 4000, .inl g_19))] H := hP
          have hD : va_D A [(h0, .inr (10, [.ref h1, .int 16, .ref h2, .ref h3, .ref h4, .ref h5, .ref h6, .ref h7])), (h1, .inl (cB, 4000, .inl g_19))] := hD
          refine lv_iinc (v := (-8)) (lv' := [(2, .int (-8)), (0, .ref h0), (1, .int p0)]) hx hb dX11_feedNumber_30 hl (k := 0) rfl (by decide +kernel) (by decide +kernel) rfl (fun ls hl => ?_)
          refine lv_goto (tgt := 3) hx hb dX11_feedNumber_33 (by decide +kernel) ?_
          refine lv_iload_n hx hb dX11_feedNumber_3 rfl (lv_at hl 0 rfl) ?_
          refine lv_if_lt (tgt := 36) hx hb dX11_feedNumber_4 (by decide +kernel) (fun c_21 => ?_) (fun c_21 => ?_)
          · have hP9 := hP.sub (ws' := [(h0, .inr (10, [.ref h1, .int 16, .ref h2, .ref h3, .ref h4, .ref h5, .ref h6, .ref h7])), (h1, .inl (cB, 4000, .inl g_19))]) [0, 1] rfl
            have hD9 := hD.sub (ws' := [(h0, .inr (10, [.ref h1, .int 16, .ref h2, .ref h3, .ref h4, .ref h5, .ref h6, .ref h7])), (h1, .inl (cB, 4000, .inl g_19))]) [0, 1] (by decide +kernel) rfl
            exact W.vret hx hb hr (fun t ht hW => ⟨⟨g_19, rfl, trivial, by rw [ht]; exact hP9, hD9⟩, hS.F ht⟩) hS.2.2 dX11_feedNumber_36
          · exact absurd c_21 (by decide +kernel)
def zw_zm_feedNumber16 : List Cond := .code yX11_feedNumber cX11_feedNumber 3 none :: ([.fieldLink RX11 9 "FilterHouse" "tape" "[B", .fieldLink RX11 13 "FilterHouse" "tapeSize" "I"] ++ (wsX110 ++ []))
theorem zz_in_zm_feedNumber16_X11 : ∀ w ∈ wsX110, w ∈ zw_zm_feedNumber16 := fun w h => List.mem_cons_of_mem _ (List.mem_append_right _ (List.mem_append_left _ h))
set_option maxHeartbeats 1000000 in
set_option maxRecDepth 100000 in
/-- zm_feedNumber16 -/
theorem zm_feedNumber16 (l : Launch) (dC : Nat → ClassId) (dI : Nat → Nat → Nat) (cB cI cJ cZ : ClassId) (h0 h1 h2 h3 h4 h5 h6 h7 : Nat) (sz : Nat) (g : Nat → Int32) (p0 : Int32) : Met l yX11_feedNumber zw_zm_feedNumber16 ({ frames := 0, cells := 0, slots := 0, locals := 0 }) (va_Pc [.ref h0, .int p0] (fun U => U.heap.size = sz ∧ va_P (dC, dI) zz_cl [(h0, .inr (10, [.ref h1, .int 16, .ref h2, .ref h3, .ref h4, .ref h5, .ref h6, .ref h7])), (h1, .inl (cB, 4000, .inl g))] U.heap ∧ va_K (dC, dI) zz_cl [(cB, .byte), (cI, .int), (cJ, .long), (cZ, .boolean)] U ∧ va_D (fun _ => True) [(h0, .inr (10, [.ref h1, .int 16, .ref h2, .ref h3, .ref h4, .ref h5, .ref h6, .ref h7])), (h1, .inl (cB, 4000, .inl g))])) (va_Qv (fun (_ : Nat → Int32) => True) (fun (g9 : Nat → Int32) t => va_P (dC, dI) zz_cl [(h0, .inr (10, [.ref h1, .int 20, .ref h2, .ref h3, .ref h4, .ref h5, .ref h6, .ref h7])), (h1, .inl (cB, 4000, .inl g9))] t.heap ∧ va_D (va_A [(h0, .inr (10, [.ref h1, .int 16, .ref h2, .ref h3, .ref h4, .ref h5, .ref h6, .ref h7])), (h1, .inl (cB, 4000, .inl g))] sz) [(h0, .inr (10, [.ref h1, .int 20, .ref h2, .ref h3, .ref h4, .ref h5, .ref h6, .ref h7])), (h1, .inl (cB, 4000, .inl g9))]) (va_A [(h0, .inr (10, [.ref h1, .int 16, .ref h2, .ref h3, .ref h4, .ref h5, .ref h6, .ref h7])), (h1, .inl (cB, 4000, .inl g))] sz)) 0 0 (va_A [(h0, .inr (10, [.ref h1, .int 16, .ref h2, .ref h3, .ref h4, .ref h5, .ref h6, .ref h7])), (h1, .inl (cB, 4000, .inl g))] sz) := by
  refine Met.ofW (cc := cX11_feedNumber) (maxL := 3) (ret := none) (by decide +kernel) rfl ?_
  intro p e s m args below meth c s₁ B hml hv
  obtain ⟨rfl, hsz, hP, hK, hD0⟩ := hv
  have hx := B.exec
  have hb := B.bytes
  have hr := B.returns
  have hts := atoms_spec (ws := zw_zm_feedNumber16) B.pre
  have hown : s.vm.findClass RX11 = some m.cls := findClass_of_methodNamed B.named
  have hlocks := B.notSynchronized
  subst hsz
  have hD := hD0.self (sz := s.heap.size)
  generalize hAe : va_A [(h0, .inr (10, [.ref h1, .int 16, .ref h2, .ref h3, .ref h4, .ref h5, .ref h6, .ref h7])), (h1, .inl (cB, 4000, .inl g))] s.heap.size = A at hD ⊢
  have hA : ∀ q : Nat, s.heap.size ≤ q → A q := fun q h => by rw [← hAe]; exact Or.inr h
  have hS : va_S A s.heap s.heap [] := va_S.rf
  have hP : va_P (dC, dI) zz_cl [(h0, .inr (10, [.ref h1, .int 16, .ref h2, .ref h3, .ref h4, .ref h5, .ref h6, .ref h7])), (h1, .inl (cB, 4000, .inl g))] s.heap := hP
  have hl := lv_entry ([.ref h0, .int p0]) (n := 3) (Nat.le_of_ble_eq_true rfl)
  rw [lg_entry_eq]
  generalize (lg_sl ([.ref h0, .int p0]) ++ List.replicate (3 - (lg_sl ([.ref h0, .int p0])).length) Slot.unset).toArray = ls at hl ⊢
  have hl : lv_has ls 3 [(0, .ref h0), (1, .int p0)] := hl
  refine lv_bipush (v := 24) hx hb dX11_feedNumber_0 (by decide +kernel) ?_
  refine lv_istore_n (lv' := [(2, .int 24), (0, .ref h0), (1, .int p0)]) hx hb dX11_feedNumber_2 rfl hl (by decide +kernel) rfl (fun ls hl => ?_)
  refine lv_iload_n hx hb dX11_feedNumber_3 rfl (lv_at hl 0 rfl) ?_
  refine lv_if_lt (tgt := 36) hx hb dX11_feedNumber_4 (by decide +kernel) (fun c_1 => ?_) (fun c_1 => ?_)
  · exact absurd c_1 (by decide +kernel)
  · refine lv_aload_n hx hb dX11_feedNumber_7 rfl (lv_at hl 1 rfl) ?_
    refine va_get (D := (dC, dI)) (ci := 10) (v := .ref h1) (C := RX11) (T := TX11) (N := 8) hx hb hts zz_in_zm_feedNumber16_X11 hown hK hP 0 rfl rfl 0 (by decide +kernel) (hts (.fieldLink RX11 9 "FilterHouse" "tape" "[B") (List.mem_of_getElem? (i := 1) rfl)) (fun _ h9 => h9) rfl dX11_feedNumber_8 ?_
    refine lv_aload_n hx hb dX11_feedNumber_11 rfl (lv_at hl 1 rfl) ?_
    refine va_get (D := (dC, dI)) (ci := 10) (v := .int 16) (C := RX11) (T := TX11) (N := 8) hx hb hts zz_in_zm_feedNumber16_X11 hown hK hP 0 rfl rfl 1 (by decide +kernel) (hts (.fieldLink RX11 13 "FilterHouse" "tapeSize" "I") (List.mem_of_getElem? (i := 2) rfl)) (fun _ h9 => h9) rfl dX11_feedNumber_12 ?_
    refine lv_iload_n hx hb dX11_feedNumber_15 rfl (lv_at hl 2 rfl) ?_
    refine lv_iload_n hx hb dX11_feedNumber_16 rfl (lv_at hl 0 rfl) ?_
    refine lv_ishr hx hb dX11_feedNumber_17 ?_
    refine lv_topi (fun f_2 ef_2 => ?_)
    refine lv_i2b hx hb dX11_feedNumber_18 rfl ?_
    refine lv_topi (fun f_3 ef_3 => ?_)
    refine va_bast hx hb hK hP hD hS 1 0 rfl rfl (show ¬ ((16 : Int32) < 0 ∨ 4000 ≤ (16 : Int32).toNatClampNeg) by decide +kernel) dX11_feedNumber_19 (fun H locs hP hD hS => ?_)
    have hP : va_P (dC, dI) zz_cl [(h0, .inr (10, [.ref h1, .int 16, .ref h2, .ref h3, .ref h4, .ref h5, .ref h6, .ref h7])), (h1, .inl (cB, 4000, .inl (upd g (16 : Int32).toNatClampNeg (vp_nar .byte f_3))))] H := hP
    have hD : va_D A [(h0, .inr (10, [.ref h1, .int 16, .ref h2, .ref h3, .ref h4, .ref h5, .ref h6, .ref h7])), (h1, .inl (cB, 4000, .inl (upd g (16 : Int32).toNatClampNeg (vp_nar .byte f_3))))] := hD
    generalize upd g (16 : Int32).toNatClampNeg (vp_nar .byte f_3) = g_4 at hP hD
    refine lv_aload_n hx hb dX11_feedNumber_20 rfl (lv_at hl 1 rfl) ?_
    refine lv_dup hx hb dX11_feedNumber_21 rfl ?_
    refine va_get (D := (dC, dI)) (ci := 10) (v := .int 16) (C := RX11) (T := TX11) (N := 8) hx hb hts zz_in_zm_feedNumber16_X11 hown hK hP 0 rfl rfl 1 (by decide +kernel) (hts (.fieldLink RX11 13 "FilterHouse" "tapeSize" "I") (List.mem_of_getElem? (i := 2) rfl)) (fun _ h9 => h9) rfl dX11_feedNumber_22 ?_
    refine lv_iconst (v := 1) hx hb dX11_feedNumber_25 (by decide +kernel) ?_
    refine lv_iadd hx hb dX11_feedNumber_26 ?_
    refine lv_topi (fun f_5 ef_5 => ?_)
    obtain rfl : f_5 = (17 : Int32) := ef_5.trans (by decide +kernel)
    refine va_put (D := (dC, dI)) (ci := 10) (v := .int 17) (ty := .int) (C := RX11) (T := TX11) (N := 8) hx hb hts zz_in_zm_feedNumber16_X11 tyX11 tyX11_ok nmX11 hown hK hP hD hS 0 rfl rfl 1 (by decide +kernel) (hts (.fieldLink RX11 13 "FilterHouse" "tapeSize" "I") (List.mem_of_getElem? (i := 2) rfl)) (fun _ h9 => h9) rfl (by decide +kernel) rfl rfl (Nat.le_of_ble_eq_true rfl) dX11_feedNumber_27 (fun H locs hP hD hS => ?_)
    have hP : va_P (dC, dI) zz_cl [(h0, .inr (10, [.ref h1, .int 17, .ref h2, .ref h3, .ref h4, .ref h5, .ref h6, .ref h7])), (h1, .inl (cB, 4000, .inl g_4))] H := hP
    have hD : va_D A [(h0, .inr (10, [.ref h1, .int 17, .ref h2, .ref h3, .ref h4, .ref h5, .ref h6, .ref h7])), (h1, .inl (cB, 4000, .inl g_4))] := hD
    refine lv_iinc (v := 16) (lv' := [(2, .int 16), (0, .ref h0), (1, .int p0)]) hx hb dX11_feedNumber_30 hl (k := 0) rfl (by decide +kernel) (by decide +kernel) rfl (fun ls hl => ?_)
    refine lv_goto (tgt := 3) hx hb dX11_feedNumber_33 (by decide +kernel) ?_
    refine lv_iload_n hx hb dX11_feedNumber_3 rfl (lv_at hl 0 rfl) ?_
    refine lv_if_lt (tgt := 36) hx hb dX11_feedNumber_4 (by decide +kernel) (fun c_6 => ?_) (fun c_6 => ?_)
    · exact absurd c_6 (by decide +kernel)
    · refine lv_aload_n hx hb dX11_feedNumber_7 rfl (lv_at hl 1 rfl) ?_
      refine va_get (D := (dC, dI)) (ci := 10) (v := .ref h1) (C := RX11) (T := TX11) (N := 8) hx hb hts zz_in_zm_feedNumber16_X11 hown hK hP 0 rfl rfl 0 (by decide +kernel) (hts (.fieldLink RX11 9 "FilterHouse" "tape" "[B") (List.mem_of_getElem? (i := 1) rfl)) (fun _ h9 => h9) rfl dX11_feedNumber_8 ?_
      refine lv_aload_n hx hb dX11_feedNumber_11 rfl (lv_at hl 1 rfl) ?_
      refine va_get (D := (dC, dI)) (ci := 10) (v := .int 17) (C := RX11) (T := TX11) (N := 8) hx hb hts zz_in_zm_feedNumber16_X11 hown hK hP 0 rfl rfl 1 (by decide +kernel) (hts (.fieldLink RX11 13 "FilterHouse" "tapeSize" "I") (List.mem_of_getElem? (i := 2) rfl)) (fun _ h9 => h9) rfl dX11_feedNumber_12 ?_
      refine lv_iload_n hx hb dX11_feedNumber_15 rfl (lv_at hl 2 rfl) ?_
      refine lv_iload_n hx hb dX11_feedNumber_16 rfl (lv_at hl 0 rfl) ?_
      refine lv_ishr hx hb dX11_feedNumber_17 ?_
      refine lv_topi (fun f_7 ef_7 => ?_)
      refine lv_i2b hx hb dX11_feedNumber_18 rfl ?_
      refine lv_topi (fun f_8 ef_8 => ?_)
      refine va_bast hx hb hK hP hD hS 1 0 rfl rfl (show ¬ ((17 : Int32) < 0 ∨ 4000 ≤ (17 : Int32).toNatClampNeg) by decide +kernel) dX11_feedNumber_19 (fun H locs hP hD hS => ?_)
      have hP : va_P (dC, dI) zz_cl [(h0, .inr (10, [.ref h1, .int 17, .ref h2, .ref h3, .ref h4, .ref h5, .ref h6, .ref h7])), (h1, .inl (cB, 4000, .inl (upd g_4 (17 : Int32).toNatClampNeg (vp_nar .byte f_8))))] H := hP
      have hD : va_D A [(h0, .inr (10, [.ref h1, .int 17, .ref h2, .ref h3, .ref h4, .ref h5, .ref h6, .ref h7])), (h1, .inl (cB, 4000, .inl (upd g_4 (17 : Int32).toNatClampNeg (vp_nar .byte f_8))))] := hD
      generalize upd g_4 (17 : Int32).toNatClampNeg (vp_nar .byte f_8) = g_9 at hP hD
      refine lv_aload_n hx hb dX11_feedNumber_20 rfl (lv_at hl 1 rfl) ?_
      refine lv_dup hx hb dX11_feedNumber_21 rfl ?_
      refine va_get (D := (dC, dI)) (ci := 10) (v := .int 17) (C := RX11) (T := TX11) (N := 8) hx hb hts zz_in_zm_feedNumber16_X11 hown hK hP 0 rfl rfl 1 (by decide +kernel) (hts (.fieldLink RX11 13 "FilterHouse" "tapeSize" "I") (List.mem_of_getElem? (i := 2) rfl)) (fun _ h9 => h9) rfl dX11_feedNumber_22 ?_
      refine lv_iconst (v := 1) hx hb dX11_feedNumber_25 (by decide +kernel) ?_
      refine lv_iadd hx hb dX11_feedNumber_26 ?_
      refine lv_topi (fun f_10 ef_10 => ?_)
      obtain rfl : f_10 = (18 : Int32) := ef_10.trans (by decide +kernel)
      refine va_put (D := (dC, dI)) (ci := 10) (v := .int 18) (ty := .int) (C := RX11) (T := TX11) (N := 8) hx hb hts zz_in_zm_feedNumber16_X11 tyX11 tyX11_ok nmX11 hown hK hP hD hS 0 rfl rfl 1 (by decide +kernel) (hts (.fieldLink RX11 13 "FilterHouse" "tapeSize" "I") (List.mem_of_getElem? (i := 2) rfl)) (fun _ h9 => h9) rfl (by decide +kernel) rfl rfl (Nat.le_of_ble_eq_true rfl) dX11_feedNumber_27 (fun H locs hP hD hS => ?_)
      have hP : va_P (dC, dI) zz_cl [(h0, .inr (10, [.ref h1, .int 18, .ref h2, .ref h3, .ref h4, .ref h5, .ref h6, .ref h7])), (h1, .inl (cB, 4000, .inl g_9))] H := hP
      have hD : va_D A [(h0, .inr (10, [.ref h1, .int 18, .ref h2, .ref h3, .ref h4, .ref h5, .ref h6, .ref h7])), (h1, .inl (cB, 4000, .inl g_9))] := hD
      refine lv_iinc (v := 8) (lv' := [(2, .int 8), (0, .ref h0), (1, .int p0)]) hx hb dX11_feedNumber_30 hl (k := 0) rfl (by decide +kernel) (by decide +kernel) rfl (fun ls hl => ?_)
      refine lv_goto (tgt := 3) hx hb dX11_feedNumber_33 (by decide +kernel) ?_
      refine lv_iload_n hx hb dX11_feedNumber_3 rfl (lv_at hl 0 rfl) ?_
      refine lv_if_lt (tgt := 36) hx hb dX11_feedNumber_4 (by decide +kernel) (fun c_11 => ?_) (fun c_11 => ?_)
      · exact absurd c_11 (by decide +kernel)
      · refine lv_aload_n hx hb dX11_feedNumber_7 rfl (lv_at hl 1 rfl) ?_
        refine va_get (D := (dC, dI)) (ci := 10) (v := .ref h1) (C := RX11) (T := TX11) (N := 8) hx hb hts zz_in_zm_feedNumber16_X11 hown hK hP 0 rfl rfl 0 (by decide +kernel) (hts (.fieldLink RX11 9 "FilterHouse" "tape" "[B") (List.mem_of_getElem? (i := 1) rfl)) (fun _ h9 => h9) rfl dX11_feedNumber_8 ?_
        refine lv_aload_n hx hb dX11_feedNumber_11 rfl (lv_at hl 1 rfl) ?_
        refine va_get (D := (dC, dI)) (ci := 10) (v := .int 18) (C := RX11) (T := TX11) (N := 8) hx hb hts zz_in_zm_feedNumber16_X11 hown hK hP 0 rfl rfl 1 (by decide +kernel) (hts (.fieldLink RX11 13 "FilterHouse" "tapeSize" "I") (List.mem_of_getElem? (i := 2) rfl)) (fun _ h9 => h9) rfl dX11_feedNumber_12 ?_
        refine lv_iload_n hx hb dX11_feedNumber_15 rfl (lv_at hl 2 rfl) ?_
        refine lv_iload_n hx hb dX11_feedNumber_16 rfl (lv_at hl 0 rfl) ?_
        refine lv_ishr hx hb dX11_feedNumber_17 ?_
        refine lv_topi (fun f_12 ef_12 => ?_)
        refine lv_i2b hx hb dX11_feedNumber_18 rfl ?_
        refine lv_topi (fun f_13 ef_13 => ?_)
        refine va_bast hx hb hK hP hD hS 1 0 rfl rfl (show ¬ ((18 : Int32) < 0 ∨ 4000 ≤ (18 : Int32).toNatClampNeg) by decide +kernel) dX11_feedNumber_19 (fun H locs hP hD hS => ?_)
        have hP : va_P (dC, dI) zz_cl [(h0, .inr (10, [.ref h1, .int 18, .ref h2, .ref h3, .ref h4, .ref h5, .ref h6, .ref h7])), (h1, .inl (cB, 4000, .inl (upd g_9 (18 : Int32).toNatClampNeg (vp_nar .byte f_13))))] H := hP
        have hD : va_D A [(h0, .inr (10, [.ref h1, .int 18, .ref h2, .ref h3, .ref h4, .ref h5, .ref h6, .ref h7])), (h1, .inl (cB, 4000, .inl (upd g_9 (18 : Int32).toNatClampNeg (vp_nar .byte f_13))))] := hD
        generalize upd g_9 (18 : Int32).toNatClampNeg (vp_nar .byte f_13) = g_14 at hP hD
        refine lv_aload_n hx hb dX11_feedNumber_20 rfl (lv_at hl 1 rfl) ?_
        refine lv_dup hx hb dX11_feedNumber_21 rfl ?_
        refine va_get (D := (dC, dI)) (ci := 10) (v := .int 18) (C := RX11) (T := TX11) (N := 8) hx hb hts zz_in_zm_feedNumber16_X11 hown hK hP 0 rfl rfl 1 (by decide +kernel) (hts (.fieldLink RX11 13 "FilterHouse" "tapeSize" "I") (List.mem_of_getElem? (i := 2) rfl)) (fun _ h9 => h9) rfl dX11_feedNumber_22 ?_
        refine lv_iconst (v := 1) hx hb dX11_feedNumber_25 (by decide +kernel) ?_
        refine lv_iadd hx hb dX11_feedNumber_26 ?_
        refine lv_topi (fun f_15 ef_15 => ?_)
        obtain rfl : f_15 = (19 : Int32) := ef_15.trans (by decide +kernel)
        refine va_put (D := (dC, dI)) (ci := 10) (v := .int 19) (ty := .int) (C := RX11) (T := TX11) (N := 8) hx hb hts zz_in_zm_feedNumber16_X11 tyX11 tyX11_ok nmX11 hown hK hP hD hS 0 rfl rfl 1 (by decide +kernel) (hts (.fieldLink RX11 13 "FilterHouse" "tapeSize" "I") (List.mem_of_getElem? (i := 2) rfl)) (fun _ h9 => h9) rfl (by decide +kernel) rfl rfl (Nat.le_of_ble_eq_true rfl) dX11_feedNumber_27 (fun H locs hP hD hS => ?_)
        have hP : va_P (dC, dI) zz_cl [(h0, .inr (10, [.ref h1, .int 19, .ref h2, .ref h3, .ref h4, .ref h5, .ref h6, .ref h7])), (h1, .inl (cB, 4000, .inl g_14))] H := hP
        have hD : va_D A [(h0, .inr (10, [.ref h1, .int 19, .ref h2, .ref h3, .ref h4, .ref h5, .ref h6, .ref h7])), (h1, .inl (cB, 4000, .inl g_14))] := hD
        refine lv_iinc (v := 0) (lv' := [(2, .int 0), (0, .ref h0), (1, .int p0)]) hx hb dX11_feedNumber_30 hl (k := 0) rfl (by decide +kernel) (by decide +kernel) rfl (fun ls hl => ?_)
        refine lv_goto (tgt := 3) hx hb dX11_feedNumber_33 (by decide +kernel) ?_
        refine lv_iload_n hx hb dX11_feedNumber_3 rfl (lv_at hl 0 rfl) ?_
        refine lv_if_lt (tgt := 36) hx hb dX11_feedNumber_4 (by decide +kernel) (fun c_16 => ?_) (fun c_16 => ?_)
        · exact absurd c_16 (by decide +kernel)
        · refine lv_aload_n hx hb dX11_feedNumber_7 rfl (lv_at hl 1 rfl) ?_
          refine va_get (D := (dC, dI)) (ci := 10) (v := .ref h1) (C := RX11) (T := TX11) (N := 8) hx hb hts zz_in_zm_feedNumber16_X11 hown hK hP 0 rfl rfl 0 (by decide +kernel) (hts (.fieldLink RX11 9 "FilterHouse" "tape" "[B") (List.mem_of_getElem? (i := 1) rfl)) (fun _ h9 => h9) rfl dX11_feedNumber_8 ?_
          refine lv_aload_n hx hb dX11_feedNumber_11 rfl (lv_at hl 1 rfl) ?_
          refine va_get (D := (dC, dI)) (ci := 10) (v := .int 19) (C := RX11) (T := TX11) (N := 8) hx hb hts zz_in_zm_feedNumber16_X11 hown hK hP 0 rfl rfl 1 (by decide +kernel) (hts (.fieldLink RX11 13 "FilterHouse" "tapeSize" "I") (List.mem_of_getElem? (i := 2) rfl)) (fun _ h9 => h9) rfl dX11_feedNumber_12 ?_
          refine lv_iload_n hx hb dX11_feedNumber_15 rfl (lv_at hl 2 rfl) ?_
          refine lv_iload_n hx hb dX11_feedNumber_16 rfl (lv_at hl 0 rfl) ?_
          refine lv_ishr hx hb dX11_feedNumber_17 ?_
          refine lv_topi (fun f_17 ef_17 => ?_)
          refine lv_i2b hx hb dX11_feedNumber_18 rfl ?_
          refine lv_topi (fun f_18 ef_18 => ?_)
          refine va_bast hx hb hK hP hD hS 1 0 rfl rfl (show ¬ ((19 : Int32) < 0 ∨ 4000 ≤ (19 : Int32).toNatClampNeg) by decide +kernel) dX11_feedNumber_19 (fun H locs hP hD hS => ?_)
          have hP : va_P (dC, dI) zz_cl [(h0, .inr (10, [.ref h1, .int 19, .ref h2, .ref h3, .ref h4, .ref h5, .ref h6, .ref h7])), (h1, .inl (cB, 4000, .inl (upd g_14 (19 : Int32).toNatClampNeg (vp_nar .byte f_18))))] H := hP
          have hD : va_D A [(h0, .inr (10, [.ref h1, .int 19, .ref h2, .ref h3, .ref h4, .ref h5, .ref h6, .ref h7])), (h1, .inl (cB, 4000, .inl (upd g_14 (19 : Int32).toNatClampNeg (vp_nar .byte f_18))))] := hD
          generalize upd g_14 (19 : Int32).toNatClampNeg (vp_nar .byte f_18) = g_19 at hP hD
          refine lv_aload_n hx hb dX11_feedNumber_20 rfl (lv_at hl 1 rfl) ?_
          refine lv_dup hx hb dX11_feedNumber_21 rfl ?_
          refine va_get (D := (dC, dI)) (ci := 10) (v := .int 19) (C := RX11) (T := TX11) (N := 8) hx hb hts zz_in_zm_feedNumber16_X11 hown hK hP 0 rfl rfl 1 (by decide +kernel) (hts (.fieldLink RX11 13 "FilterHouse" "tapeSize" "I") (List.mem_of_getElem? (i := 2) rfl)) (fun _ h9 => h9) rfl dX11_feedNumber_22 ?_
          refine lv_iconst (v := 1) hx hb dX11_feedNumber_25 (by decide +kernel) ?_
          refine lv_iadd hx hb dX11_feedNumber_26 ?_
          refine lv_topi (fun f_20 ef_20 => ?_)
          obtain rfl : f_20 = (20 : Int32) := ef_20.trans (by decide +kernel)
          refine va_put (D := (dC, dI)) (ci := 10) (v := .int 20) (ty := .int) (C := RX11) (T := TX11) (N := 8) hx hb hts zz_in_zm_feedNumber16_X11 tyX11 tyX11_ok nmX11 hown hK hP hD hS 0 rfl rfl 1 (by decide +kernel) (hts (.fieldLink RX11 13 "FilterHouse" "tapeSize" "I") (List.mem_of_getElem? (i := 2) rfl)) (fun _ h9 => h9) rfl (by decide +kernel) rfl rfl (Nat.le_of_ble_eq_true rfl) dX11_feedNumber_27 (fun H locs hP hD hS => ?_)
          have hP : va_P (dC, dI) zz_cl [(h0, .inr (10, [.ref h1, .int 20, .ref h2, .ref h3, .ref h4, .ref h5, .ref h6, .ref h7])), (h1, .inl (cB, 4000, .inl g_19))] H := hP
          have hD : va_D A [(h0, .inr (10, [.ref h1, .int 20, .ref h2, .ref h3, .ref h4, .ref h5, .ref h6, .ref h7])), (h1, .inl (cB, 4000, .inl g_19))] := hD
          refine lv_iinc (v := (-8)) (lv' := [(2, .int (-8)), (0, .ref h0), (1, .int p0)]) hx hb dX11_feedNumber_30 hl (k := 0) rfl (by decide +kernel) (by decide +kernel) rfl (fun ls hl => ?_)
          refine lv_goto (tgt := 3) hx hb dX11_feedNumber_33 (by decide +kernel) ?_
          refine lv_iload_n hx hb dX11_feedNumber_3 rfl (lv_at hl 0 rfl) ?_
          refine lv_if_lt (tgt := 36) hx hb dX11_feedNumber_4 (by decide +kernel) (fun c_21 => ?_) (fun c_21 => ?_)
          · have hP9 := hP.sub (ws' := [(h0, .inr (10, [.ref h1, .int 20, .ref h2, .ref h3, .ref h4, .ref h5, .ref h6, .ref h7])), (h1, .inl (cB, 4000, .inl g_19))]) [0, 1] rfl
            have hD9 := hD.sub (ws' := [(h0, .inr (10, [.ref h1, .int 20, .ref h2, .ref h3, .ref h4, .ref h5, .ref h6, .ref h7])), (h1, .inl (cB, 4000, .inl g_19))]) [0, 1] (by decide +kernel) rfl
            exact W.vret hx hb hr (fun t ht hW => ⟨⟨g_19, rfl, trivial, by rw [ht]; exact hP9, hD9⟩, hS.F ht⟩) hS.2.2 dX11_feedNumber_36
          · exact absurd c_21 (by decide +kernel)
def zw_zm_feed : List Cond := .code yX11_feed cX11_feed 6 (some .int) :: ([.fieldLink RX11 13 "FilterHouse" "tapeSize" "I", .fieldLink RX11 9 "FilterHouse" "tape" "[B", .code yX11_feedNumber cX11_feedNumber 3 none, .methodLink RX11 63 yX11_feedNumber, .instanceMethod yX11_feedNumber, .selects RX11 yX11_feedNumber yX11_feedNumber, .initialized RX11] ++ (wsX110 ++ []))
theorem zz_in_zm_feed_X11 : ∀ w ∈ wsX110, w ∈ zw_zm_feed := fun w h => List.mem_cons_of_mem _ (List.mem_append_right _ (List.mem_append_left _ h))
set_option maxRecDepth 20000 in
theorem zz_g_zm_feed_zm_feedNumber0 : GoodIn zw_zm_feed zw_zm_feedNumber0 := goodIn_ca (goodIn_r ([.code yX11_feedNumber cX11_feedNumber 3 none, .fieldLink RX11 9 "FilterHouse" "tape" "[B", .fieldLink RX11 13 "FilterHouse" "tapeSize" "I"]) [3, 2, 1] rfl (by decide +kernel)) (goodIn_app (goodIn_sub zz_in_zm_feed_X11 zz_gw_X11) (goodIn_sub (fun _ h => absurd h List.not_mem_nil) rfl))
set_option maxRecDepth 20000 in
theorem zz_g_zm_feed_zm_feedNumber4 : GoodIn zw_zm_feed zw_zm_feedNumber4 := goodIn_ca (goodIn_r ([.code yX11_feedNumber cX11_feedNumber 3 none, .fieldLink RX11 9 "FilterHouse" "tape" "[B", .fieldLink RX11 13 "FilterHouse" "tapeSize" "I"]) [3, 2, 1] rfl (by decide +kernel)) (goodIn_app (goodIn_sub zz_in_zm_feed_X11 zz_gw_X11) (goodIn_sub (fun _ h => absurd h List.not_mem_nil) rfl))
set_option maxRecDepth 20000 in
theorem zz_g_zm_feed_zm_feedNumber8 : GoodIn zw_zm_feed zw_zm_feedNumber8 := goodIn_ca (goodIn_r ([.code yX11_feedNumber cX11_feedNumber 3 none, .fieldLink RX11 9 "FilterHouse" "tape" "[B", .fieldLink RX11 13 "FilterHouse" "tapeSize" "I"]) [3, 2, 1] rfl (by decide +kernel)) (goodIn_app (goodIn_sub zz_in_zm_feed_X11 zz_gw_X11) (goodIn_sub (fun _ h => absurd h List.not_mem_nil) rfl))
set_option maxRecDepth 20000 in
theorem zz_g_zm_feed_zm_feedNumber12 : GoodIn zw_zm_feed zw_zm_feedNumber12 := goodIn_ca (goodIn_r ([.code yX11_feedNumber cX11_feedNumber 3 none, .fieldLink RX11 9 "FilterHouse" "tape" "[B", .fieldLink RX11 13 "FilterHouse" "tapeSize" "I"]) [3, 2, 1] rfl (by decide +kernel)) (goodIn_app (goodIn_sub zz_in_zm_feed_X11 zz_gw_X11) (goodIn_sub (fun _ h => absurd h List.not_mem_nil) rfl))
set_option maxRecDepth 20000 in
theorem zz_g_zm_feed_zm_feedNumber16 : GoodIn zw_zm_feed zw_zm_feedNumber16 := goodIn_ca (goodIn_r ([.code yX11_feedNumber cX11_feedNumber 3 none, .fieldLink RX11 9 "FilterHouse" "tape" "[B", .fieldLink RX11 13 "FilterHouse" "tapeSize" "I"]) [3, 2, 1] rfl (by decide +kernel)) (goodIn_app (goodIn_sub zz_in_zm_feed_X11 zz_gw_X11) (goodIn_sub (fun _ h => absurd h List.not_mem_nil) rfl))
set_option maxHeartbeats 1000000 in
set_option maxRecDepth 100000 in
/-- zm_feed -/
theorem zm_feed (l : Launch) (dC : Nat → ClassId) (dI : Nat → Nat → Nat) (cB cI cJ cZ : ClassId) (h0 h1 h2 h3 h4 h5 h6 h7 : Nat) (sz : Nat) (p0 : Int32) (p1 : Int32) (p2 : Int32) (p3 : Int32) (p4 : Int32) : Met l yX11_feed zw_zm_feed ({ frames := 1, cells := 0, slots := 0, locals := 22 }) (va_Pc [.ref h0, .int p0, .int p1, .int p2, .int p3, .int p4] (fun U => U.heap.size = sz ∧ va_P (dC, dI) zz_cl [(h0, .inr (10, [.ref h1, .int 0, .ref h2, .ref h3, .ref h4, .ref h5, .ref h6, .ref h7])), (h1, .inl (cB, 4000, .inl (fun _ => 0)))] U.heap ∧ va_K (dC, dI) zz_cl [(cB, .byte), (cI, .int), (cJ, .long), (cZ, .boolean)] U ∧ va_D (fun _ => True) [(h0, .inr (10, [.ref h1, .int 0, .ref h2, .ref h3, .ref h4, .ref h5, .ref h6, .ref h7])), (h1, .inl (cB, 4000, .inl (fun _ => 0)))])) (va_Qi (fun (r : Int32) (_ : Unit) => r = 20) (fun (_ : Unit) _ => True) (va_A [(h0, .inr (10, [.ref h1, .int 0, .ref h2, .ref h3, .ref h4, .ref h5, .ref h6, .ref h7])), (h1, .inl (cB, 4000, .inl (fun _ => 0)))] sz)) 0 0 (va_A [(h0, .inr (10, [.ref h1, .int 0, .ref h2, .ref h3, .ref h4, .ref h5, .ref h6, .ref h7])), (h1, .inl (cB, 4000, .inl (fun _ => 0)))] sz) := by
  refine Met.ofW (cc := cX11_feed) (maxL := 6) (ret := (some .int)) (by decide +kernel) rfl ?_
  intro p e s m args below meth c s₁ B hml hv
  obtain ⟨rfl, hsz, hP, hK, hD0⟩ := hv
  have hx := B.exec
  have hb := B.bytes
  have hr := B.returns
  have hts := atoms_spec (ws := zw_zm_feed) B.pre
  have hown : s.vm.findClass RX11 = some m.cls := findClass_of_methodNamed B.named
  have hlocks := B.notSynchronized
  subst hsz
  have hD := hD0.self (sz := s.heap.size)
  generalize hAe : va_A [(h0, .inr (10, [.ref h1, .int 0, .ref h2, .ref h3, .ref h4, .ref h5, .ref h6, .ref h7])), (h1, .inl (cB, 4000, .inl (fun _ => 0)))] s.heap.size = A at hD ⊢
  have hA : ∀ q : Nat, s.heap.size ≤ q → A q := fun q h => by rw [← hAe]; exact Or.inr h
  have hS : va_S A s.heap s.heap [] := va_S.rf
  have hP : va_P (dC, dI) zz_cl [(h0, .inr (10, [.ref h1, .int 0, .ref h2, .ref h3, .ref h4, .ref h5, .ref h6, .ref h7])), (h1, .inl (cB, 4000, .inl (fun _ => 0)))] s.heap := hP
  have hl := lv_entry ([.ref h0, .int p0, .int p1, .int p2, .int p3, .int p4]) (n := 6) (Nat.le_of_ble_eq_true rfl)
  rw [lg_entry_eq]
  generalize (lg_sl ([.ref h0, .int p0, .int p1, .int p2, .int p3, .int p4]) ++ List.replicate (6 - (lg_sl ([.ref h0, .int p0, .int p1, .int p2, .int p3, .int p4])).length) Slot.unset).toArray = ls at hl ⊢
  have hl : lv_has ls 6 [(0, .ref h0), (1, .int p0), (2, .int p1), (3, .int p2), (4, .int p3), (5, .int p4)] := hl
  refine lv_aload_n hx hb dX11_feed_0 rfl (lv_at hl 0 rfl) ?_
  refine va_get (D := (dC, dI)) (ci := 10) (v := .int 0) (C := RX11) (T := TX11) (N := 8) hx hb hts zz_in_zm_feed_X11 hown hK hP 0 rfl rfl 1 (by decide +kernel) (hts (.fieldLink RX11 13 "FilterHouse" "tapeSize" "I") (List.mem_of_getElem? (i := 1) rfl)) (fun _ h9 => h9) rfl dX11_feed_1 ?_
  refine lv_bipush (v := 20) hx hb dX11_feed_4 (by decide +kernel) ?_
  refine lv_iadd hx hb dX11_feed_6 ?_
  refine lv_topi (fun f_1 ef_1 => ?_)
  obtain rfl : f_1 = (20 : Int32) := ef_1.trans (by decide +kernel)
  refine lv_sipush (v := 4000) hx hb dX11_feed_7 (by decide +kernel) ?_
  refine lv_icmp_le (tgt := 15) hx hb dX11_feed_10 (by decide +kernel) (fun c_2 => ?_) (fun c_2 => ?_)
  · refine lv_aload_n hx hb dX11_feed_15 rfl (lv_at hl 0 rfl) ?_
    refine lv_iload_n hx hb dX11_feed_16 rfl (lv_at hl 1 rfl) ?_
    have hPc := hP.sub (ws' := [(h0, .inr (10, [.ref h1, .int 0, .ref h2, .ref h3, .ref h4, .ref h5, .ref h6, .ref h7])), (h1, .inl (cB, 4000, .inl (fun _ => 0)))]) [0, 1] rfl
    have hDc := hD.sub (ws' := [(h0, .inr (10, [.ref h1, .int 0, .ref h2, .ref h3, .ref h4, .ref h5, .ref h6, .ref h7])), (h1, .inl (cB, 4000, .inl (fun _ => 0)))]) [0, 1] (by decide +kernel) rfl
    have hFc := va_free (wc := [(h0, .inr (10, [.ref h1, .int 0, .ref h2, .ref h3, .ref h4, .ref h5, .ref h6, .ref h7])), (h1, .inl (cB, 4000, .inl (fun _ => 0)))]) hD hS hA [0, 1] rfl
    refine va_callv (va_runV (As := [.int p0]) (rest := []) ⟨hx, hb, hml, hown, hts⟩ (zm_feedNumber0 l dC dI cB cI cJ cZ h0 h1 h2 h3 h4 h5 h6 h7 s.heap.size (fun _ => 0) p0) (cwV 1 hts (goodIn_app (goodIn_r [.methodLink RX11 63 yX11_feedNumber, .instanceMethod yX11_feedNumber, .selects RX11 yX11_feedNumber yX11_feedNumber, .initialized RX11] [4, 5, 6, 7] rfl (by decide +kernel)) zz_g_zm_feed_zm_feedNumber0) rfl rfl rfl (by decide +kernel) ⟨Nat.le_of_ble_eq_true rfl, Nat.le_of_ble_eq_true rfl⟩) ⟨fun a U g mk q => by obtain ⟨q0, q1, qP, qK, qD⟩ := q; exact ⟨q0, q1, qP, va_K.moved (u := U) (U := U.calling g mk a) (Vm.Alike.refl U.vm) qK, qD⟩, va_recv hK hPc (ci := 10) (q0 := 0) rfl rfl, fun U hU hW => ⟨rfl, by rw [hU], by rw [hU]; exact hPc, va_K.moved hW.alike hK, hDc.weaken (fun _ _ _ _ => trivial)⟩⟩ rfl rfl hl.1 rfl (lv_room (Nat.le_of_ble_eq_true rfl)) dX11_feed_17 ⟨Nat.le_of_ble_eq_true rfl, Nat.le_of_ble_eq_true rfl⟩) hS (fun q _ h => hFc q h) hFc (fun u_5 t H1 locs ht hvm hw_4 hB hz1 hk1 hS => ?_)
    obtain ⟨g9_6, rfl⟩ : ∃ z, z = u_5 := ⟨_, rfl⟩
    obtain ⟨hP1, hD1⟩ := hB
    rw [ht] at hP1
    obtain ⟨hP, hD⟩ := va_join (wr := []) (w1 := [(h0, .inr (10, [.ref h1, .int 4, .ref h2, .ref h3, .ref h4, .ref h5, .ref h6, .ref h7])), (h1, .inl (cB, 4000, .inl g9_6))]) hP hD [0, 1] [] rfl rfl (by decide +kernel) (by decide +kernel) hk1 hFc hP1 hD1
    generalize H1 = H at hP hS ⊢
    have hP : va_P (dC, dI) zz_cl [(h0, .inr (10, [.ref h1, .int 4, .ref h2, .ref h3, .ref h4, .ref h5, .ref h6, .ref h7])), (h1, .inl (cB, 4000, .inl g9_6))] H := hP
    have hD : va_D A [(h0, .inr (10, [.ref h1, .int 4, .ref h2, .ref h3, .ref h4, .ref h5, .ref h6, .ref h7])), (h1, .inl (cB, 4000, .inl g9_6))] := hD
    refine lv_aload_n hx hb dX11_feed_20 rfl (lv_at hl 0 rfl) ?_
    refine lv_iload_n hx hb dX11_feed_21 rfl (lv_at hl 2 rfl) ?_
    have hPc := hP.sub (ws' := [(h0, .inr (10, [.ref h1, .int 4, .ref h2, .ref h3, .ref h4, .ref h5, .ref h6, .ref h7])), (h1, .inl (cB, 4000, .inl g9_6))]) [0, 1] rfl
    have hDc := hD.sub (ws' := [(h0, .inr (10, [.ref h1, .int 4, .ref h2, .ref h3, .ref h4, .ref h5, .ref h6, .ref h7])), (h1, .inl (cB, 4000, .inl g9_6))]) [0, 1] (by decide +kernel) rfl
    have hFc := va_free (wc := [(h0, .inr (10, [.ref h1, .int 4, .ref h2, .ref h3, .ref h4, .ref h5, .ref h6, .ref h7])), (h1, .inl (cB, 4000, .inl g9_6))]) hD hS hA [0, 1] rfl
    refine va_callv (va_runV (As := [.int p1]) (rest := []) ⟨hx, hb, hml, hown, hts⟩ (zm_feedNumber4 l dC dI cB cI cJ cZ h0 h1 h2 h3 h4 h5 h6 h7 H.size g9_6 p1) (cwV 1 hts (goodIn_app (goodIn_r [.methodLink RX11 63 yX11_feedNumber, .instanceMethod yX11_feedNumber, .selects RX11 yX11_feedNumber yX11_feedNumber, .initialized RX11] [4, 5, 6, 7] rfl (by decide +kernel)) zz_g_zm_feed_zm_feedNumber4) rfl rfl rfl (by decide +kernel) ⟨Nat.le_of_ble_eq_true rfl, Nat.le_of_ble_eq_true rfl⟩) ⟨fun a U g mk q => by obtain ⟨q0, q1, qP, qK, qD⟩ := q; exact ⟨q0, q1, qP, va_K.moved (u := U) (U := U.calling g mk a) (Vm.Alike.refl U.vm) qK, qD⟩, va_recv hK hPc (ci := 10) (q0 := 0) rfl rfl, fun U hU hW => ⟨rfl, by rw [hU], by rw [hU]; exact hPc, va_K.moved hW.alike hK, hDc.weaken (fun _ _ _ _ => trivial)⟩⟩ rfl rfl hl.1 rfl (lv_room (Nat.le_of_ble_eq_true rfl)) dX11_feed_22 ⟨Nat.le_of_ble_eq_true rfl, Nat.le_of_ble_eq_true rfl⟩) hS (fun q _ h => hFc q h) hFc (fun u_9 t H1 locs ht hvm hw_8 hB hz1 hk1 hS => ?_)
    obtain ⟨g9_10, rfl⟩ : ∃ z, z = u_9 := ⟨_, rfl⟩
    obtain ⟨hP1, hD1⟩ := hB
    rw [ht] at hP1
    obtain ⟨hP, hD⟩ := va_join (wr := []) (w1 := [(h0, .inr (10, [.ref h1, .int 8, .ref h2, .ref h3, .ref h4, .ref h5, .ref h6, .ref h7])), (h1, .inl (cB, 4000, .inl g9_10))]) hP hD [0, 1] [] rfl rfl (by decide +kernel) (by decide +kernel) hk1 hFc hP1 hD1
    generalize H1 = H at hP hS ⊢
    have hP : va_P (dC, dI) zz_cl [(h0, .inr (10, [.ref h1, .int 8, .ref h2, .ref h3, .ref h4, .ref h5, .ref h6, .ref h7])), (h1, .inl (cB, 4000, .inl g9_10))] H := hP
    have hD : va_D A [(h0, .inr (10, [.ref h1, .int 8, .ref h2, .ref h3, .ref h4, .ref h5, .ref h6, .ref h7])), (h1, .inl (cB, 4000, .inl g9_10))] := hD
    refine lv_aload_n hx hb dX11_feed_25 rfl (lv_at hl 0 rfl) ?_
    refine lv_iload_n hx hb dX11_feed_26 rfl (lv_at hl 3 rfl) ?_
    have hPc := hP.sub (ws' := [(h0, .inr (10, [.ref h1, .int 8, .ref h2, .ref h3, .ref h4, .ref h5, .ref h6, .ref h7])), (h1, .inl (cB, 4000, .inl g9_10))]) [0, 1] rfl
    have hDc := hD.sub (ws' := [(h0, .inr (10, [.ref h1, .int 8, .ref h2, .ref h3, .ref h4, .ref h5, .ref h6, .ref h7])), (h1, .inl (cB, 4000, .inl g9_10))]) [0, 1] (by decide +kernel) rfl
    have hFc := va_free (wc := [(h0, .inr (10, [.ref h1, .int 8, .ref h2, .ref h3, .ref h4, .ref h5, .ref h6, .ref h7])), (h1, .inl (cB, 4000, .inl g9_10))]) hD hS hA [0, 1] rfl
    refine va_callv (va_runV (As := [.int p2]) (rest := []) ⟨hx, hb, hml, hown, hts⟩ (zm_feedNumber8 l dC dI cB cI cJ cZ h0 h1 h2 h3 h4 h5 h6 h7 H.size g9_10 p2) (cwV 1 hts (goodIn_app (goodIn_r [.methodLink RX11 63 yX11_feedNumber, .instanceMethod yX11_feedNumber, .selects RX11 yX11_feedNumber yX11_feedNumber, .initialized RX11] [4, 5, 6, 7] rfl (by decide +kernel)) zz_g_zm_feed_zm_feedNumber8) rfl rfl rfl (by decide +kernel) ⟨Nat.le_of_ble_eq_true rfl, Nat.le_of_ble_eq_true rfl⟩) ⟨fun a U g mk q => by obtain ⟨q0, q1, qP, qK, qD⟩ := q; exact ⟨q0, q1, qP, va_K.moved (u := U) (U := U.calling g mk a) (Vm.Alike.refl U.vm) qK, qD⟩, va_recv hK hPc (ci := 10) (q0 := 0) rfl rfl, fun U hU hW => ⟨rfl, by rw [hU], by rw [hU]; exact hPc, va_K.moved hW.alike hK, hDc.weaken (fun _ _ _ _ => trivial)⟩⟩ rfl rfl hl.1 rfl (lv_room (Nat.le_of_ble_eq_true rfl)) dX11_feed_27 ⟨Nat.le_of_ble_eq_true rfl, Nat.le_of_ble_eq_true rfl⟩) hS (fun q _ h => hFc q h) hFc (fun u_13 t H1 locs ht hvm hw_12 hB hz1 hk1 hS => ?_)
    obtain ⟨g9_14, rfl⟩ : ∃ z, z = u_13 := ⟨_, rfl⟩
    obtain ⟨hP1, hD1⟩ := hB
    rw [ht] at hP1
    obtain ⟨hP, hD⟩ := va_join (wr := []) (w1 := [(h0, .inr (10, [.ref h1, .int 12, .ref h2, .ref h3, .ref h4, .ref h5, .ref h6, .ref h7])), (h1, .inl (cB, 4000, .inl g9_14))]) hP hD [0, 1] [] rfl rfl (by decide +kernel) (by decide +kernel) hk1 hFc hP1 hD1
    generalize H1 = H at hP hS ⊢
    have hP : va_P (dC, dI) zz_cl [(h0, .inr (10, [.ref h1, .int 12, .ref h2, .ref h3, .ref h4, .ref h5, .ref h6, .ref h7])), (h1, .inl (cB, 4000, .inl g9_14))] H := hP
    have hD : va_D A [(h0, .inr (10, [.ref h1, .int 12, .ref h2, .ref h3, .ref h4, .ref h5, .ref h6, .ref h7])), (h1, .inl (cB, 4000, .inl g9_14))] := hD
    refine lv_aload_n hx hb dX11_feed_30 rfl (lv_at hl 0 rfl) ?_
    refine lv_iload hx hb dX11_feed_31 (lv_at hl 4 rfl) ?_
    have hPc := hP.sub (ws' := [(h0, .inr (10, [.ref h1, .int 12, .ref h2, .ref h3, .ref h4, .ref h5, .ref h6, .ref h7])), (h1, .inl (cB, 4000, .inl g9_14))]) [0, 1] rfl
    have hDc := hD.sub (ws' := [(h0, .inr (10, [.ref h1, .int 12, .ref h2, .ref h3, .ref h4, .ref h5, .ref h6, .ref h7])), (h1, .inl (cB, 4000, .inl g9_14))]) [0, 1] (by decide +kernel) rfl
    have hFc := va_free (wc := [(h0, .inr (10, [.ref h1, .int 12, .ref h2, .ref h3, .ref h4, .ref h5, .ref h6, .ref h7])), (h1, .inl (cB, 4000, .inl g9_14))]) hD hS hA [0, 1] rfl
    refine va_callv (va_runV (As := [.int p3]) (rest := []) ⟨hx, hb, hml, hown, hts⟩ (zm_feedNumber12 l dC dI cB cI cJ cZ h0 h1 h2 h3 h4 h5 h6 h7 H.size g9_14 p3) (cwV 1 hts (goodIn_app (goodIn_r [.methodLink RX11 63 yX11_feedNumber, .instanceMethod yX11_feedNumber, .selects RX11 yX11_feedNumber yX11_feedNumber, .initialized RX11] [4, 5, 6, 7] rfl (by decide +kernel)) zz_g_zm_feed_zm_feedNumber12) rfl rfl rfl (by decide +kernel) ⟨Nat.le_of_ble_eq_true rfl, Nat.le_of_ble_eq_true rfl⟩) ⟨fun a U g mk q => by obtain ⟨q0, q1, qP, qK, qD⟩ := q; exact ⟨q0, q1, qP, va_K.moved (u := U) (U := U.calling g mk a) (Vm.Alike.refl U.vm) qK, qD⟩, va_recv hK hPc (ci := 10) (q0 := 0) rfl rfl, fun U hU hW => ⟨rfl, by rw [hU], by rw [hU]; exact hPc, va_K.moved hW.alike hK, hDc.weaken (fun _ _ _ _ => trivial)⟩⟩ rfl rfl hl.1 rfl (lv_room (Nat.le_of_ble_eq_true rfl)) dX11_feed_33 ⟨Nat.le_of_ble_eq_true rfl, Nat.le_of_ble_eq_true rfl⟩) hS (fun q _ h => hFc q h) hFc (fun u_17 t H1 locs ht hvm hw_16 hB hz1 hk1 hS => ?_)
    obtain ⟨g9_18, rfl⟩ : ∃ z, z = u_17 := ⟨_, rfl⟩
    obtain ⟨hP1, hD1⟩ := hB
    rw [ht] at hP1
    obtain ⟨hP, hD⟩ := va_join (wr := []) (w1 := [(h0, .inr (10, [.ref h1, .int 16, .ref h2, .ref h3, .ref h4, .ref h5, .ref h6, .ref h7])), (h1, .inl (cB, 4000, .inl g9_18))]) hP hD [0, 1] [] rfl rfl (by decide +kernel) (by decide +kernel) hk1 hFc hP1 hD1
    generalize H1 = H at hP hS ⊢
    have hP : va_P (dC, dI) zz_cl [(h0, .inr (10, [.ref h1, .int 16, .ref h2, .ref h3, .ref h4, .ref h5, .ref h6, .ref h7])), (h1, .inl (cB, 4000, .inl g9_18))] H := hP
    have hD : va_D A [(h0, .inr (10, [.ref h1, .int 16, .ref h2, .ref h3, .ref h4, .ref h5, .ref h6, .ref h7])), (h1, .inl (cB, 4000, .inl g9_18))] := hD
    refine lv_aload_n hx hb dX11_feed_36 rfl (lv_at hl 0 rfl) ?_
    refine lv_iload hx hb dX11_feed_37 (lv_at hl 5 rfl) ?_
    have hPc := hP.sub (ws' := [(h0, .inr (10, [.ref h1, .int 16, .ref h2, .ref h3, .ref h4, .ref h5, .ref h6, .ref h7])), (h1, .inl (cB, 4000, .inl g9_18))]) [0, 1] rfl
    have hDc := hD.sub (ws' := [(h0, .inr (10, [.ref h1, .int 16, .ref h2, .ref h3, .ref h4, .ref h5, .ref h6, .ref h7])), (h1, .inl (cB, 4000, .inl g9_18))]) [0, 1] (by decide +kernel) rfl
    have hFc := va_free (wc := [(h0, .inr (10, [.ref h1, .int 16, .ref h2, .ref h3, .ref h4, .ref h5, .ref h6, .ref h7])), (h1, .inl (cB, 4000, .inl g9_18))]) hD hS hA [0, 1] rfl
    refine va_callv (va_runV (As := [.int p4]) (rest := []) ⟨hx, hb, hml, hown, hts⟩ (zm_feedNumber16 l dC dI cB cI cJ cZ h0 h1 h2 h3 h4 h5 h6 h7 H.size g9_18 p4) (cwV 1 hts (goodIn_app (goodIn_r [.methodLink RX11 63 yX11_feedNumber, .instanceMethod yX11_feedNumber, .selects RX11 yX11_feedNumber yX11_feedNumber, .initialized RX11] [4, 5, 6, 7] rfl (by decide +kernel)) zz_g_zm_feed_zm_feedNumber16) rfl rfl rfl (by decide +kernel) ⟨Nat.le_of_ble_eq_true rfl, Nat.le_of_ble_eq_true rfl⟩) ⟨fun a U g mk q => by obtain ⟨q0, q1, qP, qK, qD⟩ := q; exact ⟨q0, q1, qP, va_K.moved (u := U) (U := U.calling g mk a) (Vm.Alike.refl U.vm) qK, qD⟩, va_recv hK hPc (ci := 10) (q0 := 0) rfl rfl, fun U hU hW => ⟨rfl, by rw [hU], by rw [hU]; exact hPc, va_K.moved hW.alike hK, hDc.weaken (fun _ _ _ _ => trivial)⟩⟩ rfl rfl hl.1 rfl (lv_room (Nat.le_of_ble_eq_true rfl)) dX11_feed_39 ⟨Nat.le_of_ble_eq_true rfl, Nat.le_of_ble_eq_true rfl⟩) hS (fun q _ h => hFc q h) hFc (fun u_21 t H1 locs ht hvm hw_20 hB hz1 hk1 hS => ?_)
    obtain ⟨g9_22, rfl⟩ : ∃ z, z = u_21 := ⟨_, rfl⟩
    obtain ⟨hP1, hD1⟩ := hB
    rw [ht] at hP1
    obtain ⟨hP, hD⟩ := va_join (wr := []) (w1 := [(h0, .inr (10, [.ref h1, .int 20, .ref h2, .ref h3, .ref h4, .ref h5, .ref h6, .ref h7])), (h1, .inl (cB, 4000, .inl g9_22))]) hP hD [0, 1] [] rfl rfl (by decide +kernel) (by decide +kernel) hk1 hFc hP1 hD1
    generalize H1 = H at hP hS ⊢
    have hP : va_P (dC, dI) zz_cl [(h0, .inr (10, [.ref h1, .int 20, .ref h2, .ref h3, .ref h4, .ref h5, .ref h6, .ref h7])), (h1, .inl (cB, 4000, .inl g9_22))] H := hP
    have hD : va_D A [(h0, .inr (10, [.ref h1, .int 20, .ref h2, .ref h3, .ref h4, .ref h5, .ref h6, .ref h7])), (h1, .inl (cB, 4000, .inl g9_22))] := hD
    refine lv_aload_n hx hb dX11_feed_42 rfl (lv_at hl 0 rfl) ?_
    refine va_get (D := (dC, dI)) (ci := 10) (v := .int 20) (C := RX11) (T := TX11) (N := 8) hx hb hts zz_in_zm_feed_X11 hown hK hP 0 rfl rfl 1 (by decide +kernel) (hts (.fieldLink RX11 13 "FilterHouse" "tapeSize" "I") (List.mem_of_getElem? (i := 1) rfl)) (fun _ h9 => h9) rfl dX11_feed_43 ?_
    exact W.iret (v := 20) hx hb hr (fun t ht hW => ⟨⟨20, (), rfl, rfl, trivial⟩, hS.F ht⟩) hS.2.2 dX11_feed_46
  · exact absurd c_2 (by decide +kernel)
def zw_zm_cut : List Cond := .code yX11_cut cX11_cut 3 (some .int) :: ([.fieldLink RX11 13 "FilterHouse" "tapeSize" "I"] ++ (wsX110 ++ []))
theorem zz_in_zm_cut_X11 : ∀ w ∈ wsX110, w ∈ zw_zm_cut := fun w h => List.mem_cons_of_mem _ (List.mem_append_right _ (List.mem_append_left _ h))
set_option maxHeartbeats 1000000 in
set_option maxRecDepth 100000 in
/-- zm_cut -/
theorem zm_cut (l : Launch) (dC : Nat → ClassId) (dI : Nat → Nat → Nat) (cB cI cJ cZ : ClassId) (h0 h1 h2 h3 h4 h5 h6 h7 : Nat) (sz : Nat) (p0 : Int32) : Met l yX11_cut zw_zm_cut ({ frames := 0, cells := 0, slots := 0, locals := 0 }) (va_Pc [.ref h0, .int p0] (fun U => U.heap.size = sz ∧ va_P (dC, dI) zz_cl [(h0, .inr (10, [.ref h1, .int 0, .ref h2, .ref h3, .ref h4, .ref h5, .ref h6, .ref h7]))] U.heap ∧ va_K (dC, dI) zz_cl [(cB, .byte), (cI, .int), (cJ, .long), (cZ, .boolean)] U ∧ va_D (fun _ => True) [(h0, .inr (10, [.ref h1, .int 0, .ref h2, .ref h3, .ref h4, .ref h5, .ref h6, .ref h7]))])) (va_Qi (fun (r : Int32) (_ : Unit) => (r = 0 ∧ (p0.toInt = 0)) ∨ (r = (-1) ∧ ¬ (p0.toInt = 0))) (fun (_ : Unit) _ => True) (va_A [(h0, .inr (10, [.ref h1, .int 0, .ref h2, .ref h3, .ref h4, .ref h5, .ref h6, .ref h7]))] sz)) 0 0 (va_A [(h0, .inr (10, [.ref h1, .int 0, .ref h2, .ref h3, .ref h4, .ref h5, .ref h6, .ref h7]))] sz) := by
  refine Met.ofW (cc := cX11_cut) (maxL := 3) (ret := (some .int)) (by decide +kernel) rfl ?_
  intro p e s m args below meth c s₁ B hml hv
  obtain ⟨rfl, hsz, hP, hK, hD0⟩ := hv
  have hx := B.exec
  have hb := B.bytes
  have hr := B.returns
  have hts := atoms_spec (ws := zw_zm_cut) B.pre
  have hown : s.vm.findClass RX11 = some m.cls := findClass_of_methodNamed B.named
  have hlocks := B.notSynchronized
  subst hsz
  have hD := hD0.self (sz := s.heap.size)
  generalize hAe : va_A [(h0, .inr (10, [.ref h1, .int 0, .ref h2, .ref h3, .ref h4, .ref h5, .ref h6, .ref h7]))] s.heap.size = A at hD ⊢
  have hA : ∀ q : Nat, s.heap.size ≤ q → A q := fun q h => by rw [← hAe]; exact Or.inr h
  have hS : va_S A s.heap s.heap [] := va_S.rf
  have hP : va_P (dC, dI) zz_cl [(h0, .inr (10, [.ref h1, .int 0, .ref h2, .ref h3, .ref h4, .ref h5, .ref h6, .ref h7]))] s.heap := hP
  have hl := lv_entry ([.ref h0, .int p0]) (n := 3) (Nat.le_of_ble_eq_true rfl)
  rw [lg_entry_eq]
  generalize (lg_sl ([.ref h0, .int p0]) ++ List.replicate (3 - (lg_sl ([.ref h0, .int p0])).length) Slot.unset).toArray = ls at hl ⊢
  have hl : lv_has ls 3 [(0, .ref h0), (1, .int p0)] := hl
  refine lv_iload_n hx hb dX11_cut_0 rfl (lv_at hl 1 rfl) ?_
  refine lv_if_lt (tgt := 12) hx hb dX11_cut_1 (by decide +kernel) (fun c_1 => ?_) (fun c_1 => ?_)
  · refine lv_iconst (v := (-1)) hx hb dX11_cut_12 (by decide +kernel) ?_
    exact W.iret (v := (-1)) hx hb hr (fun t ht hW => ⟨⟨(-1), (), rfl, Or.inr ⟨rfl, by have qc_1 := (fa_lt _ _).mp c_1; have k0 : (0 : Int32).toInt = 0 := rfl; omega⟩, trivial⟩, hS.F ht⟩) hS.2.2 dX11_cut_13
  · refine lv_iload_n hx hb dX11_cut_4 rfl (lv_at hl 1 rfl) ?_
    refine lv_aload_n hx hb dX11_cut_5 rfl (lv_at hl 0 rfl) ?_
    refine va_get (D := (dC, dI)) (ci := 10) (v := .int 0) (C := RX11) (T := TX11) (N := 8) hx hb hts zz_in_zm_cut_X11 hown hK hP 0 rfl rfl 1 (by decide +kernel) (hts (.fieldLink RX11 13 "FilterHouse" "tapeSize" "I") (List.mem_of_getElem? (i := 1) rfl)) (fun _ h9 => h9) rfl dX11_cut_6 ?_
    refine lv_icmp_le (tgt := 14) hx hb dX11_cut_9 (by decide +kernel) (fun c_2 => ?_) (fun c_2 => ?_)
    · obtain rfl : p0 = 0 := (fa_eq _ _).mpr (by have qc_1 := mt (fa_lt _ _).mpr c_1; have qc_2 := (fa_le _ _).mp c_2; have k0 : (0 : Int32).toInt = 0 := rfl; omega)
      refine lv_aload_n hx hb dX11_cut_14 rfl (lv_at hl 0 rfl) ?_
      refine va_get (D := (dC, dI)) (ci := 10) (v := .int 0) (C := RX11) (T := TX11) (N := 8) hx hb hts zz_in_zm_cut_X11 hown hK hP 0 rfl rfl 1 (by decide +kernel) (hts (.fieldLink RX11 13 "FilterHouse" "tapeSize" "I") (List.mem_of_getElem? (i := 1) rfl)) (fun _ h9 => h9) rfl dX11_cut_15 ?_
      refine lv_iload_n hx hb dX11_cut_18 rfl (lv_at hl 1 rfl) ?_
      refine lv_isub hx hb dX11_cut_19 ?_
      refine lv_topi (fun f_3 ef_3 => ?_)
      obtain rfl : f_3 = (0 : Int32) := ef_3.trans (by decide +kernel)
      refine lv_istore_n (lv' := [(2, .int 0), (0, .ref h0), (1, .int 0)]) hx hb dX11_cut_20 rfl hl (by decide +kernel) rfl (fun ls hl => ?_)
      refine lv_aload_n hx hb dX11_cut_21 rfl (lv_at hl 1 rfl) ?_
      refine lv_iload_n hx hb dX11_cut_22 rfl (lv_at hl 2 rfl) ?_
      refine va_put (D := (dC, dI)) (ci := 10) (v := .int 0) (ty := .int) (C := RX11) (T := TX11) (N := 8) hx hb hts zz_in_zm_cut_X11 tyX11 tyX11_ok nmX11 hown hK hP hD hS 0 rfl rfl 1 (by decide +kernel) (hts (.fieldLink RX11 13 "FilterHouse" "tapeSize" "I") (List.mem_of_getElem? (i := 1) rfl)) (fun _ h9 => h9) rfl (by decide +kernel) rfl rfl (Nat.le_of_ble_eq_true rfl) dX11_cut_23 (fun H locs hP hD hS => ?_)
      have hP : va_P (dC, dI) zz_cl [(h0, .inr (10, [.ref h1, .int 0, .ref h2, .ref h3, .ref h4, .ref h5, .ref h6, .ref h7]))] H := hP
      have hD : va_D A [(h0, .inr (10, [.ref h1, .int 0, .ref h2, .ref h3, .ref h4, .ref h5, .ref h6, .ref h7]))] := hD
      refine lv_iload_n hx hb dX11_cut_26 rfl (lv_at hl 0 rfl) ?_
      exact W.iret (v := 0) hx hb hr (fun t ht hW => ⟨⟨0, (), rfl, Or.inl ⟨rfl, by have qc_1 := mt (fa_lt _ _).mpr c_1; have qc_2 := (fa_le _ _).mp c_2; have k0 : (0 : Int32).toInt = 0 := rfl; omega⟩, trivial⟩, hS.F ht⟩) hS.2.2 dX11_cut_27
    · refine lv_iconst (v := (-1)) hx hb dX11_cut_12 (by decide +kernel) ?_
      exact W.iret (v := (-1)) hx hb hr (fun t ht hW => ⟨⟨(-1), (), rfl, Or.inr ⟨rfl, by have qc_1 := mt (fa_lt _ _).mpr c_1; have qc_2 := mt (fa_le _ _).mpr c_2; have k0 : (0 : Int32).toInt = 0 := rfl; omega⟩, trivial⟩, hS.F ht⟩) hS.2.2 dX11_cut_13
def zw_zm_words : List Cond := .code yX11_words cX11_words 2 (some .int) :: ([.code yX8_isSlot cX8_isSlot 1 (some .boolean), .methodLink RX11 71 yX8_isSlot, .static yX8_isSlot, .initialized RX8, .fieldLink RX11 27 "FilterHouse" "slots" "LFilterHouse$Slots;", .fieldLink RX11 91 "FilterHouse$Slots" "count" "[I"] ++ (wsX110 ++ (wsX80 ++ [])))
theorem zz_in_zm_words_X11 : ∀ w ∈ wsX110, w ∈ zw_zm_words := fun w h => List.mem_cons_of_mem _ (List.mem_append_right _ (List.mem_append_left _ h))
theorem zz_in_zm_words_X8 : ∀ w ∈ wsX80, w ∈ zw_zm_words := fun w h => List.mem_cons_of_mem _ (List.mem_append_right _ (List.mem_append_right _ (List.mem_append_left _ h)))
set_option maxRecDepth 20000 in
theorem zz_g_zm_words_zm_isSlot : GoodIn zw_zm_words zw_zm_isSlot := goodIn_ca (goodIn_r ([.code yX8_isSlot cX8_isSlot 1 (some .boolean)]) [1] rfl (by decide +kernel)) (goodIn_sub (fun _ h => absurd h List.not_mem_nil) rfl)
set_option maxHeartbeats 1000000 in
set_option maxRecDepth 100000 in
/-- zm_words -/
theorem zm_words (l : Launch) (dC : Nat → ClassId) (dI : Nat → Nat → Nat) (cB cI cJ cZ : ClassId) (h0 h3 h9 h1 h2 h4 h5 h6 h7 h8 h10 h11 : Nat) (sz : Nat) (p0 : Int32) : Met l yX11_words zw_zm_words ({ frames := 1, cells := 0, slots := 0, locals := 20 }) (va_Pc [.ref h0, .int p0] (fun U => U.heap.size = sz ∧ va_P (dC, dI) zz_cl [(h0, .inr (10, [.ref h1, .int 0, .ref h2, .ref h3, .ref h4, .ref h5, .ref h6, .ref h7])), (h3, .inr (7, [.ref h8, .ref h9, .ref h10, .ref h11])), (h9, .inl (cI, 8, .inl (fun _ => 0)))] U.heap ∧ va_K (dC, dI) zz_cl [(cB, .byte), (cI, .int), (cJ, .long), (cZ, .boolean)] U ∧ va_D (fun _ => True) [(h0, .inr (10, [.ref h1, .int 0, .ref h2, .ref h3, .ref h4, .ref h5, .ref h6, .ref h7])), (h3, .inr (7, [.ref h8, .ref h9, .ref h10, .ref h11])), (h9, .inl (cI, 8, .inl (fun _ => 0)))])) (va_Qi (fun (r : Int32) (_ : Unit) => r = 0) (fun (_ : Unit) _ => True) (va_A [(h0, .inr (10, [.ref h1, .int 0, .ref h2, .ref h3, .ref h4, .ref h5, .ref h6, .ref h7])), (h3, .inr (7, [.ref h8, .ref h9, .ref h10, .ref h11])), (h9, .inl (cI, 8, .inl (fun _ => 0)))] sz)) 0 0 (va_A [(h0, .inr (10, [.ref h1, .int 0, .ref h2, .ref h3, .ref h4, .ref h5, .ref h6, .ref h7])), (h3, .inr (7, [.ref h8, .ref h9, .ref h10, .ref h11])), (h9, .inl (cI, 8, .inl (fun _ => 0)))] sz) := by
  refine Met.ofW (cc := cX11_words) (maxL := 2) (ret := (some .int)) (by decide +kernel) rfl ?_
  intro p e s m args below meth c s₁ B hml hv
  obtain ⟨rfl, hsz, hP, hK, hD0⟩ := hv
  have hx := B.exec
  have hb := B.bytes
  have hr := B.returns
  have hts := atoms_spec (ws := zw_zm_words) B.pre
  have hown : s.vm.findClass RX11 = some m.cls := findClass_of_methodNamed B.named
  have hlocks := B.notSynchronized
  subst hsz
  have hD := hD0.self (sz := s.heap.size)
  generalize hAe : va_A [(h0, .inr (10, [.ref h1, .int 0, .ref h2, .ref h3, .ref h4, .ref h5, .ref h6, .ref h7])), (h3, .inr (7, [.ref h8, .ref h9, .ref h10, .ref h11])), (h9, .inl (cI, 8, .inl (fun _ => 0)))] s.heap.size = A at hD ⊢
  have hA : ∀ q : Nat, s.heap.size ≤ q → A q := fun q h => by rw [← hAe]; exact Or.inr h
  have hS : va_S A s.heap s.heap [] := va_S.rf
  have hP : va_P (dC, dI) zz_cl [(h0, .inr (10, [.ref h1, .int 0, .ref h2, .ref h3, .ref h4, .ref h5, .ref h6, .ref h7])), (h3, .inr (7, [.ref h8, .ref h9, .ref h10, .ref h11])), (h9, .inl (cI, 8, .inl (fun _ => 0)))] s.heap := hP
  have hl := lv_entry ([.ref h0, .int p0]) (n := 2) (Nat.le_of_ble_eq_true rfl)
  rw [lg_entry_eq]
  generalize (lg_sl ([.ref h0, .int p0]) ++ List.replicate (2 - (lg_sl ([.ref h0, .int p0])).length) Slot.unset).toArray = ls at hl ⊢
  have hl : lv_has ls 2 [(0, .ref h0), (1, .int p0)] := hl
  refine lv_iload_n hx hb dX11_words_0 rfl (lv_at hl 1 rfl) ?_
  have hPc := hP.sub (ws' := []) [] rfl
  have hDc := hD.sub (ws' := []) [] (by decide +kernel) rfl
  have hFc := va_free (wc := []) hD hS hA [] rfl
  refine va_calli (va_runS (As := [.int p0]) (rest := []) ⟨hx, hb, hml, hown, hts⟩ (zm_isSlot l dC dI cB cI cJ cZ  s.heap.size p0) (va_cwS 1 hts (goodIn_app (goodIn_r [.methodLink RX11 71 yX8_isSlot, .static yX8_isSlot, .initialized RX8] [2, 3, 4] rfl (by decide +kernel)) zz_g_zm_words_zm_isSlot) rfl rfl rfl (by decide +kernel) ⟨Nat.le_of_ble_eq_true rfl, Nat.le_of_ble_eq_true rfl⟩) ⟨fun a U g mk q => by obtain ⟨q0, q1, qP, qK, qD⟩ := q; exact ⟨q0, q1, qP, va_K.moved (u := U) (U := U.calling g mk a) (Vm.Alike.refl U.vm) qK, qD⟩, fun U hU hW => ⟨rfl, by rw [hU], by rw [hU]; exact hPc, va_K.moved hW.alike hK, hDc.weaken (fun _ _ _ _ => trivial)⟩⟩ rfl rfl hl.1 rfl (lv_room (Nat.le_of_ble_eq_true rfl)) dX11_words_1 ⟨Nat.le_of_ble_eq_true rfl, Nat.le_of_ble_eq_true rfl⟩) hS (fun q _ h => hFc q h) hFc (fun r_1 u_3 t H1 locs ht hvm hw_2 hB hz1 hk1 hS => ?_)
  obtain ⟨hP, hD⟩ := va_join (wr := [(h0, .inr (10, [.ref h1, .int 0, .ref h2, .ref h3, .ref h4, .ref h5, .ref h6, .ref h7])), (h3, .inr (7, [.ref h8, .ref h9, .ref h10, .ref h11])), (h9, .inl (cI, 8, .inl (fun _ => 0)))]) (w1 := []) hP hD [] [0, 1, 2] rfl rfl (by decide +kernel) (by decide +kernel) hk1 hFc zz_P0 zz_D0
  generalize H1 = H at hP hS ⊢
  have hP : va_P (dC, dI) zz_cl [(h0, .inr (10, [.ref h1, .int 0, .ref h2, .ref h3, .ref h4, .ref h5, .ref h6, .ref h7])), (h3, .inr (7, [.ref h8, .ref h9, .ref h10, .ref h11])), (h9, .inl (cI, 8, .inl (fun _ => 0)))] H := hP
  have hD : va_D A [(h0, .inr (10, [.ref h1, .int 0, .ref h2, .ref h3, .ref h4, .ref h5, .ref h6, .ref h7])), (h3, .inr (7, [.ref h8, .ref h9, .ref h10, .ref h11])), (h9, .inl (cI, 8, .inl (fun _ => 0)))] := hD
  try dsimp only at hw_2
  rcases hw_2 with ⟨rfl, h_4⟩ | ⟨rfl, h_4⟩
  · refine lv_if_eq (tgt := 19) hx hb dX11_words_4 (by decide +kernel) (fun c_5 => ?_) (fun c_5 => ?_)
    · exact absurd c_5 (by decide +kernel)
    · refine lv_aload_n hx hb dX11_words_7 rfl (lv_at hl 0 rfl) ?_
      refine va_get (D := (dC, dI)) (ci := 10) (v := .ref h3) (C := RX11) (T := TX11) (N := 8) hx hb hts zz_in_zm_words_X11 hown hK hP 0 rfl rfl 3 (by decide +kernel) (hts (.fieldLink RX11 27 "FilterHouse" "slots" "LFilterHouse$Slots;") (List.mem_of_getElem? (i := 5) rfl)) (fun _ h9 => h9) rfl dX11_words_8 ?_
      refine va_get (D := (dC, dI)) (ci := 7) (v := .ref h9) (C := RX8) (T := TX8) (N := 4) hx hb hts zz_in_zm_words_X8 hown hK hP 1 rfl rfl 1 (by decide +kernel) (hts (.fieldLink RX11 91 "FilterHouse$Slots" "count" "[I") (List.mem_of_getElem? (i := 6) rfl)) (fun _ h9 => h9) rfl dX11_words_11 ?_
      refine lv_iload_n hx hb dX11_words_14 rfl (lv_at hl 1 rfl) ?_
      refine va_iald hx hb hK hP 2 1 rfl rfl (vp_in_iff.mpr (by have qc_5 := mt (fa_eq _ _).mpr c_5; have k0 : (0 : Int32).toInt = 0 := rfl; have k1 : (1 : Int32).toInt = 1 := rfl; omega)) dX11_words_15 ?_
      refine lv_topi (fun f_6 ef_6 => ?_)
      obtain rfl : f_6 = 0 := ef_6
      refine lv_goto (tgt := 20) hx hb dX11_words_16 (by decide +kernel) ?_
      exact W.iret (v := 0) hx hb hr (fun t ht hW => ⟨⟨0, (), rfl, rfl, trivial⟩, hS.F ht⟩) hS.2.2 dX11_words_20
  · refine lv_if_eq (tgt := 19) hx hb dX11_words_4 (by decide +kernel) (fun c_7 => ?_) (fun c_7 => ?_)
    · refine lv_iconst (v := 0) hx hb dX11_words_19 (by decide +kernel) ?_
      exact W.iret (v := 0) hx hb hr (fun t ht hW => ⟨⟨0, (), rfl, rfl, trivial⟩, hS.F ht⟩) hS.2.2 dX11_words_20
    · exact absurd c_7 (by decide +kernel)
def zw_zm_word : List Cond := .code yX11_word cX11_word 3 (some .long) :: ([.code yX8_isSlot cX8_isSlot 1 (some .boolean), .methodLink RX11 71 yX8_isSlot, .static yX8_isSlot, .initialized RX8, .fieldLink RX11 27 "FilterHouse" "slots" "LFilterHouse$Slots;", .fieldLink RX11 91 "FilterHouse$Slots" "count" "[I", .code yX11_words cX11_words 2 (some .int), .methodLink RX11 95 yX11_words, .instanceMethod yX11_words, .selects RX11 yX11_words yX11_words, .initialized RX11] ++ (wsX110 ++ (wsX80 ++ [])))
theorem zz_in_zm_word_X11 : ∀ w ∈ wsX110, w ∈ zw_zm_word := fun w h => List.mem_cons_of_mem _ (List.mem_append_right _ (List.mem_append_left _ h))
theorem zz_in_zm_word_X8 : ∀ w ∈ wsX80, w ∈ zw_zm_word := fun w h => List.mem_cons_of_mem _ (List.mem_append_right _ (List.mem_append_right _ (List.mem_append_left _ h)))
set_option maxRecDepth 20000 in
theorem zz_g_zm_word_zm_words : GoodIn zw_zm_word zw_zm_words := goodIn_ca (goodIn_r ([.code yX11_words cX11_words 2 (some .int), .code yX8_isSlot cX8_isSlot 1 (some .boolean), .methodLink RX11 71 yX8_isSlot, .static yX8_isSlot, .initialized RX8, .fieldLink RX11 27 "FilterHouse" "slots" "LFilterHouse$Slots;", .fieldLink RX11 91 "FilterHouse$Slots" "count" "[I"]) [7, 1, 2, 3, 4, 5, 6] rfl (by decide +kernel)) (goodIn_app (goodIn_sub zz_in_zm_word_X11 zz_gw_X11) (goodIn_app (goodIn_sub zz_in_zm_word_X8 zz_gw_X8) (goodIn_sub (fun _ h => absurd h List.not_mem_nil) rfl)))
set_option maxHeartbeats 1000000 in
set_option maxRecDepth 100000 in
/-- zm_word -/
theorem zm_word (l : Launch) (dC : Nat → ClassId) (dI : Nat → Nat → Nat) (cB cI cJ cZ : ClassId) (h0 h3 h9 h1 h2 h4 h5 h6 h7 h8 h10 h11 : Nat) (sz : Nat) (p0 : Int32) (p1 : Int32) : Met l yX11_word zw_zm_word ({ frames := 2, cells := 0, slots := 0, locals := 41 }) (va_Pc [.ref h0, .int p0, .int p1] (fun U => U.heap.size = sz ∧ va_P (dC, dI) zz_cl [(h0, .inr (10, [.ref h1, .int 0, .ref h2, .ref h3, .ref h4, .ref h5, .ref h6, .ref h7])), (h3, .inr (7, [.ref h8, .ref h9, .ref h10, .ref h11])), (h9, .inl (cI, 8, .inl (fun _ => 0)))] U.heap ∧ va_K (dC, dI) zz_cl [(cB, .byte), (cI, .int), (cJ, .long), (cZ, .boolean)] U ∧ va_D (fun _ => True) [(h0, .inr (10, [.ref h1, .int 0, .ref h2, .ref h3, .ref h4, .ref h5, .ref h6, .ref h7])), (h3, .inr (7, [.ref h8, .ref h9, .ref h10, .ref h11])), (h9, .inl (cI, 8, .inl (fun _ => 0)))])) (va_Ql (fun (r : Int64) (_ : Unit) => r = 0) (fun (_ : Unit) _ => True) (va_A [(h0, .inr (10, [.ref h1, .int 0, .ref h2, .ref h3, .ref h4, .ref h5, .ref h6, .ref h7])), (h3, .inr (7, [.ref h8, .ref h9, .ref h10, .ref h11])), (h9, .inl (cI, 8, .inl (fun _ => 0)))] sz)) 0 0 (va_A [(h0, .inr (10, [.ref h1, .int 0, .ref h2, .ref h3, .ref h4, .ref h5, .ref h6, .ref h7])), (h3, .inr (7, [.ref h8, .ref h9, .ref h10, .ref h11])), (h9, .inl (cI, 8, .inl (fun _ => 0)))] sz) := by
  refine Met.ofW (cc := cX11_word) (maxL := 3) (ret := (some .long)) (by decide +kernel) rfl ?_
  intro p e s m args below meth c s₁ B hml hv
  obtain ⟨rfl, hsz, hP, hK, hD0⟩ := hv
  have hx := B.exec
  have hb := B.bytes
  have hr := B.returns
  have hts := atoms_spec (ws := zw_zm_word) B.pre
  have hown : s.vm.findClass RX11 = some m.cls := findClass_of_methodNamed B.named
  have hlocks := B.notSynchronized
  subst hsz
  have hD := hD0.self (sz := s.heap.size)
  generalize hAe : va_A [(h0, .inr (10, [.ref h1, .int 0, .ref h2, .ref h3, .ref h4, .ref h5, .ref h6, .ref h7])), (h3, .inr (7, [.ref h8, .ref h9, .ref h10, .ref h11])), (h9, .inl (cI, 8, .inl (fun _ => 0)))] s.heap.size = A at hD ⊢
  have hA : ∀ q : Nat, s.heap.size ≤ q → A q := fun q h => by rw [← hAe]; exact Or.inr h
  have hS : va_S A s.heap s.heap [] := va_S.rf
  have hP : va_P (dC, dI) zz_cl [(h0, .inr (10, [.ref h1, .int 0, .ref h2, .ref h3, .ref h4, .ref h5, .ref h6, .ref h7])), (h3, .inr (7, [.ref h8, .ref h9, .ref h10, .ref h11])), (h9, .inl (cI, 8, .inl (fun _ => 0)))] s.heap := hP
  have hl := lv_entry ([.ref h0, .int p0, .int p1]) (n := 3) (Nat.le_of_ble_eq_true rfl)
  rw [lg_entry_eq]
  generalize (lg_sl ([.ref h0, .int p0, .int p1]) ++ List.replicate (3 - (lg_sl ([.ref h0, .int p0, .int p1])).length) Slot.unset).toArray = ls at hl ⊢
  have hl : lv_has ls 3 [(0, .ref h0), (1, .int p0), (2, .int p1)] := hl
  refine lv_iload_n hx hb dX11_word_0 rfl (lv_at hl 2 rfl) ?_
  refine lv_if_lt (tgt := 13) hx hb dX11_word_1 (by decide +kernel) (fun c_1 => ?_) (fun c_1 => ?_)
  · refine lv_lconst (v := 0) hx hb dX11_word_13 rfl ?_
    exact W.lret (v := 0) hx hb hr (fun t ht hW => ⟨⟨0, (), rfl, rfl, trivial⟩, hS.F ht⟩) hS.2.2 dX11_word_14
  · refine lv_iload_n hx hb dX11_word_4 rfl (lv_at hl 2 rfl) ?_
    refine lv_aload_n hx hb dX11_word_5 rfl (lv_at hl 0 rfl) ?_
    refine lv_iload_n hx hb dX11_word_6 rfl (lv_at hl 1 rfl) ?_
    have hPc := hP.sub (ws' := [(h0, .inr (10, [.ref h1, .int 0, .ref h2, .ref h3, .ref h4, .ref h5, .ref h6, .ref h7])), (h3, .inr (7, [.ref h8, .ref h9, .ref h10, .ref h11])), (h9, .inl (cI, 8, .inl (fun _ => 0)))]) [0, 1, 2] rfl
    have hDc := hD.sub (ws' := [(h0, .inr (10, [.ref h1, .int 0, .ref h2, .ref h3, .ref h4, .ref h5, .ref h6, .ref h7])), (h3, .inr (7, [.ref h8, .ref h9, .ref h10, .ref h11])), (h9, .inl (cI, 8, .inl (fun _ => 0)))]) [0, 1, 2] (by decide +kernel) rfl
    have hFc := va_free (wc := [(h0, .inr (10, [.ref h1, .int 0, .ref h2, .ref h3, .ref h4, .ref h5, .ref h6, .ref h7])), (h3, .inr (7, [.ref h8, .ref h9, .ref h10, .ref h11])), (h9, .inl (cI, 8, .inl (fun _ => 0)))]) hD hS hA [0, 1, 2] rfl
    refine va_calli (va_runV (As := [.int p0]) (rest := [.int p1]) ⟨hx, hb, hml, hown, hts⟩ (zm_words l dC dI cB cI cJ cZ h0 h3 h9 h1 h2 h4 h5 h6 h7 h8 h10 h11 s.heap.size p0) (cwV 1 hts (goodIn_app (goodIn_r [.methodLink RX11 95 yX11_words, .instanceMethod yX11_words, .selects RX11 yX11_words yX11_words, .initialized RX11] [8, 9, 10, 11] rfl (by decide +kernel)) zz_g_zm_word_zm_words) rfl rfl rfl (by decide +kernel) ⟨Nat.le_of_ble_eq_true rfl, Nat.le_of_ble_eq_true rfl⟩) ⟨fun a U g mk q => by obtain ⟨q0, q1, qP, qK, qD⟩ := q; exact ⟨q0, q1, qP, va_K.moved (u := U) (U := U.calling g mk a) (Vm.Alike.refl U.vm) qK, qD⟩, va_recv hK hPc (ci := 10) (q0 := 0) rfl rfl, fun U hU hW => ⟨rfl, by rw [hU], by rw [hU]; exact hPc, va_K.moved hW.alike hK, hDc.weaken (fun _ _ _ _ => trivial)⟩⟩ rfl rfl hl.1 rfl (lv_room (Nat.le_of_ble_eq_true rfl)) dX11_word_7 ⟨Nat.le_of_ble_eq_true rfl, Nat.le_of_ble_eq_true rfl⟩) hS (fun q _ h => hFc q h) hFc (fun r_2 u_4 t H1 locs ht hvm hw_3 hB hz1 hk1 hS => ?_)
    obtain ⟨hP, hD⟩ := va_join (wr := []) (w1 := []) hP hD [0, 1, 2] [] rfl rfl (by decide +kernel) (by decide +kernel) hk1 hFc zz_P0 zz_D0
    generalize H1 = H at hP hS ⊢
    have hP : va_P (dC, dI) zz_cl [] H := hP
    have hD : va_D A [] := hD
    try dsimp only at hw_3
    obtain rfl : r_2 = (0 : Int32) := hw_3
    refine lv_icmp_lt (tgt := 15) hx hb dX11_word_10 (by decide +kernel) (fun c_5 => ?_) (fun c_5 => ?_)
    · exact absurd trivial (by have qc_1 := mt (fa_lt _ _).mpr c_1; have qc_5 := (fa_lt _ _).mp c_5; have k0 : (0 : Int32).toInt = 0 := rfl; omega)
    · refine lv_lconst (v := 0) hx hb dX11_word_13 rfl ?_
      exact W.lret (v := 0) hx hb hr (fun t ht hW => ⟨⟨0, (), rfl, rfl, trivial⟩, hS.F ht⟩) hS.2.2 dX11_word_14
def zw_zm_print : List Cond := .code yX11_print cX11_print 3 (some .int) :: ([.code yX8_isSlot cX8_isSlot 1 (some .boolean), .methodLink RX11 71 yX8_isSlot, .static yX8_isSlot, .initialized RX8, .fieldLink RX11 27 "FilterHouse" "slots" "LFilterHouse$Slots;", .fieldLink RX11 91 "FilterHouse$Slots" "count" "[I", .code yX11_words cX11_words 2 (some .int), .methodLink RX11 95 yX11_words, .instanceMethod yX11_words, .selects RX11 yX11_words yX11_words, .initialized RX11] ++ (wsX110 ++ (wsX80 ++ [])))
theorem zz_in_zm_print_X11 : ∀ w ∈ wsX110, w ∈ zw_zm_print := fun w h => List.mem_cons_of_mem _ (List.mem_append_right _ (List.mem_append_left _ h))
theorem zz_in_zm_print_X8 : ∀ w ∈ wsX80, w ∈ zw_zm_print := fun w h => List.mem_cons_of_mem _ (List.mem_append_right _ (List.mem_append_right _ (List.mem_append_left _ h)))
set_option maxRecDepth 20000 in
theorem zz_g_zm_print_zm_words : GoodIn zw_zm_print zw_zm_words := goodIn_ca (goodIn_r ([.code yX11_words cX11_words 2 (some .int), .code yX8_isSlot cX8_isSlot 1 (some .boolean), .methodLink RX11 71 yX8_isSlot, .static yX8_isSlot, .initialized RX8, .fieldLink RX11 27 "FilterHouse" "slots" "LFilterHouse$Slots;", .fieldLink RX11 91 "FilterHouse$Slots" "count" "[I"]) [7, 1, 2, 3, 4, 5, 6] rfl (by decide +kernel)) (goodIn_app (goodIn_sub zz_in_zm_print_X11 zz_gw_X11) (goodIn_app (goodIn_sub zz_in_zm_print_X8 zz_gw_X8) (goodIn_sub (fun _ h => absurd h List.not_mem_nil) rfl)))
set_option maxHeartbeats 1000000 in
set_option maxRecDepth 100000 in
/-- zm_print -/
theorem zm_print (l : Launch) (dC : Nat → ClassId) (dI : Nat → Nat → Nat) (cB cI cJ cZ : ClassId) (h0 h3 h9 h1 h2 h4 h5 h6 h7 h8 h10 h11 : Nat) (sz : Nat) (p0 : Int32) : Met l yX11_print zw_zm_print ({ frames := 2, cells := 0, slots := 0, locals := 41 }) (va_Pc [.ref h0, .int p0] (fun U => U.heap.size = sz ∧ va_P (dC, dI) zz_cl [(h0, .inr (10, [.ref h1, .int 0, .ref h2, .ref h3, .ref h4, .ref h5, .ref h6, .ref h7])), (h3, .inr (7, [.ref h8, .ref h9, .ref h10, .ref h11])), (h9, .inl (cI, 8, .inl (fun _ => 0)))] U.heap ∧ va_K (dC, dI) zz_cl [(cB, .byte), (cI, .int), (cJ, .long), (cZ, .boolean)] U ∧ va_D (fun _ => True) [(h0, .inr (10, [.ref h1, .int 0, .ref h2, .ref h3, .ref h4, .ref h5, .ref h6, .ref h7])), (h3, .inr (7, [.ref h8, .ref h9, .ref h10, .ref h11])), (h9, .inl (cI, 8, .inl (fun _ => 0)))])) (va_Qi (fun (r : Int32) (_ : Unit) => r = (-1)) (fun (_ : Unit) _ => True) (va_A [(h0, .inr (10, [.ref h1, .int 0, .ref h2, .ref h3, .ref h4, .ref h5, .ref h6, .ref h7])), (h3, .inr (7, [.ref h8, .ref h9, .ref h10, .ref h11])), (h9, .inl (cI, 8, .inl (fun _ => 0)))] sz)) 0 0 (va_A [(h0, .inr (10, [.ref h1, .int 0, .ref h2, .ref h3, .ref h4, .ref h5, .ref h6, .ref h7])), (h3, .inr (7, [.ref h8, .ref h9, .ref h10, .ref h11])), (h9, .inl (cI, 8, .inl (fun _ => 0)))] sz) := by
  refine Met.ofW (cc := cX11_print) (maxL := 3) (ret := (some .int)) (by decide +kernel) rfl ?_
  intro p e s m args below meth c s₁ B hml hv
  obtain ⟨rfl, hsz, hP, hK, hD0⟩ := hv
  have hx := B.exec
  have hb := B.bytes
  have hr := B.returns
  have hts := atoms_spec (ws := zw_zm_print) B.pre
  have hown : s.vm.findClass RX11 = some m.cls := findClass_of_methodNamed B.named
  have hlocks := B.notSynchronized
  subst hsz
  have hD := hD0.self (sz := s.heap.size)
  generalize hAe : va_A [(h0, .inr (10, [.ref h1, .int 0, .ref h2, .ref h3, .ref h4, .ref h5, .ref h6, .ref h7])), (h3, .inr (7, [.ref h8, .ref h9, .ref h10, .ref h11])), (h9, .inl (cI, 8, .inl (fun _ => 0)))] s.heap.size = A at hD ⊢
  have hA : ∀ q : Nat, s.heap.size ≤ q → A q := fun q h => by rw [← hAe]; exact Or.inr h
  have hS : va_S A s.heap s.heap [] := va_S.rf
  have hP : va_P (dC, dI) zz_cl [(h0, .inr (10, [.ref h1, .int 0, .ref h2, .ref h3, .ref h4, .ref h5, .ref h6, .ref h7])), (h3, .inr (7, [.ref h8, .ref h9, .ref h10, .ref h11])), (h9, .inl (cI, 8, .inl (fun _ => 0)))] s.heap := hP
  have hl := lv_entry ([.ref h0, .int p0]) (n := 3) (Nat.le_of_ble_eq_true rfl)
  rw [lg_entry_eq]
  generalize (lg_sl ([.ref h0, .int p0]) ++ List.replicate (3 - (lg_sl ([.ref h0, .int p0])).length) Slot.unset).toArray = ls at hl ⊢
  have hl : lv_has ls 3 [(0, .ref h0), (1, .int p0)] := hl
  refine lv_aload_n hx hb dX11_print_0 rfl (lv_at hl 0 rfl) ?_
  refine lv_iload_n hx hb dX11_print_1 rfl (lv_at hl 1 rfl) ?_
  have hPc := hP.sub (ws' := [(h0, .inr (10, [.ref h1, .int 0, .ref h2, .ref h3, .ref h4, .ref h5, .ref h6, .ref h7])), (h3, .inr (7, [.ref h8, .ref h9, .ref h10, .ref h11])), (h9, .inl (cI, 8, .inl (fun _ => 0)))]) [0, 1, 2] rfl
  have hDc := hD.sub (ws' := [(h0, .inr (10, [.ref h1, .int 0, .ref h2, .ref h3, .ref h4, .ref h5, .ref h6, .ref h7])), (h3, .inr (7, [.ref h8, .ref h9, .ref h10, .ref h11])), (h9, .inl (cI, 8, .inl (fun _ => 0)))]) [0, 1, 2] (by decide +kernel) rfl
  have hFc := va_free (wc := [(h0, .inr (10, [.ref h1, .int 0, .ref h2, .ref h3, .ref h4, .ref h5, .ref h6, .ref h7])), (h3, .inr (7, [.ref h8, .ref h9, .ref h10, .ref h11])), (h9, .inl (cI, 8, .inl (fun _ => 0)))]) hD hS hA [0, 1, 2] rfl
  refine va_calli (va_runV (As := [.int p0]) (rest := []) ⟨hx, hb, hml, hown, hts⟩ (zm_words l dC dI cB cI cJ cZ h0 h3 h9 h1 h2 h4 h5 h6 h7 h8 h10 h11 s.heap.size p0) (cwV 1 hts (goodIn_app (goodIn_r [.methodLink RX11 95 yX11_words, .instanceMethod yX11_words, .selects RX11 yX11_words yX11_words, .initialized RX11] [8, 9, 10, 11] rfl (by decide +kernel)) zz_g_zm_print_zm_words) rfl rfl rfl (by decide +kernel) ⟨Nat.le_of_ble_eq_true rfl, Nat.le_of_ble_eq_true rfl⟩) ⟨fun a U g mk q => by obtain ⟨q0, q1, qP, qK, qD⟩ := q; exact ⟨q0, q1, qP, va_K.moved (u := U) (U := U.calling g mk a) (Vm.Alike.refl U.vm) qK, qD⟩, va_recv hK hPc (ci := 10) (q0 := 0) rfl rfl, fun U hU hW => ⟨rfl, by rw [hU], by rw [hU]; exact hPc, va_K.moved hW.alike hK, hDc.weaken (fun _ _ _ _ => trivial)⟩⟩ rfl rfl hl.1 rfl (lv_room (Nat.le_of_ble_eq_true rfl)) dX11_print_2 ⟨Nat.le_of_ble_eq_true rfl, Nat.le_of_ble_eq_true rfl⟩) hS (fun q _ h => hFc q h) hFc (fun r_1 u_3 t H1 locs ht hvm hw_2 hB hz1 hk1 hS => ?_)
  obtain ⟨hP, hD⟩ := va_join (wr := []) (w1 := []) hP hD [0, 1, 2] [] rfl rfl (by decide +kernel) (by decide +kernel) hk1 hFc zz_P0 zz_D0
  generalize H1 = H at hP hS ⊢
  have hP : va_P (dC, dI) zz_cl [] H := hP
  have hD : va_D A [] := hD
  try dsimp only at hw_2
  obtain rfl : r_1 = (0 : Int32) := hw_2
  refine lv_istore_n (lv' := [(2, .int 0), (0, .ref h0), (1, .int p0)]) hx hb dX11_print_5 rfl hl (by decide +kernel) rfl (fun ls hl => ?_)
  refine lv_iload_n hx hb dX11_print_6 rfl (lv_at hl 0 rfl) ?_
  refine lv_if_ne (tgt := 12) hx hb dX11_print_7 (by decide +kernel) (fun c_4 => ?_) (fun c_4 => ?_)
  · exact absurd c_4 (by decide +kernel)
  · refine lv_iconst (v := (-1)) hx hb dX11_print_10 (by decide +kernel) ?_
    exact W.iret (v := (-1)) hx hb hr (fun t ht hW => ⟨⟨(-1), (), rfl, rfl, trivial⟩, hS.F ht⟩) hS.2.2 dX11_print_11
def zw_zm_judge : List Cond := .code yX11_judge cX11_judge 5 (some .int) :: ([.code yX8_isSlot cX8_isSlot 1 (some .boolean), .methodLink RX11 71 yX8_isSlot, .static yX8_isSlot, .initialized RX8, .fieldLink RX11 27 "FilterHouse" "slots" "LFilterHouse$Slots;", .fieldLink RX11 91 "FilterHouse$Slots" "count" "[I", .code yX11_words cX11_words 2 (some .int), .methodLink RX11 95 yX11_words, .instanceMethod yX11_words, .selects RX11 yX11_words yX11_words, .initialized RX11] ++ (wsX110 ++ (wsX80 ++ [])))
theorem zz_in_zm_judge_X11 : ∀ w ∈ wsX110, w ∈ zw_zm_judge := fun w h => List.mem_cons_of_mem _ (List.mem_append_right _ (List.mem_append_left _ h))
theorem zz_in_zm_judge_X8 : ∀ w ∈ wsX80, w ∈ zw_zm_judge := fun w h => List.mem_cons_of_mem _ (List.mem_append_right _ (List.mem_append_right _ (List.mem_append_left _ h)))
set_option maxRecDepth 20000 in
theorem zz_g_zm_judge_zm_words : GoodIn zw_zm_judge zw_zm_words := goodIn_ca (goodIn_r ([.code yX11_words cX11_words 2 (some .int), .code yX8_isSlot cX8_isSlot 1 (some .boolean), .methodLink RX11 71 yX8_isSlot, .static yX8_isSlot, .initialized RX8, .fieldLink RX11 27 "FilterHouse" "slots" "LFilterHouse$Slots;", .fieldLink RX11 91 "FilterHouse$Slots" "count" "[I"]) [7, 1, 2, 3, 4, 5, 6] rfl (by decide +kernel)) (goodIn_app (goodIn_sub zz_in_zm_judge_X11 zz_gw_X11) (goodIn_app (goodIn_sub zz_in_zm_judge_X8 zz_gw_X8) (goodIn_sub (fun _ h => absurd h List.not_mem_nil) rfl)))
set_option maxHeartbeats 1000000 in
set_option maxRecDepth 100000 in
/-- zm_judge -/
theorem zm_judge (l : Launch) (dC : Nat → ClassId) (dI : Nat → Nat → Nat) (cB cI cJ cZ : ClassId) (h0 h3 h9 h1 h2 h4 h5 h6 h7 h8 h10 h11 : Nat) (sz : Nat) (p0 : Int32) : Met l yX11_judge zw_zm_judge ({ frames := 2, cells := 0, slots := 0, locals := 41 }) (va_Pc [.ref h0, .int p0] (fun U => U.heap.size = sz ∧ va_P (dC, dI) zz_cl [(h0, .inr (10, [.ref h1, .int 0, .ref h2, .ref h3, .ref h4, .ref h5, .ref h6, .ref h7])), (h3, .inr (7, [.ref h8, .ref h9, .ref h10, .ref h11])), (h9, .inl (cI, 8, .inl (fun _ => 0)))] U.heap ∧ va_K (dC, dI) zz_cl [(cB, .byte), (cI, .int), (cJ, .long), (cZ, .boolean)] U ∧ va_D (fun _ => True) [(h0, .inr (10, [.ref h1, .int 0, .ref h2, .ref h3, .ref h4, .ref h5, .ref h6, .ref h7])), (h3, .inr (7, [.ref h8, .ref h9, .ref h10, .ref h11])), (h9, .inl (cI, 8, .inl (fun _ => 0)))])) (va_Qi (fun (r : Int32) (_ : Unit) => r = (-1)) (fun (_ : Unit) _ => True) (va_A [(h0, .inr (10, [.ref h1, .int 0, .ref h2, .ref h3, .ref h4, .ref h5, .ref h6, .ref h7])), (h3, .inr (7, [.ref h8, .ref h9, .ref h10, .ref h11])), (h9, .inl (cI, 8, .inl (fun _ => 0)))] sz)) 0 0 (va_A [(h0, .inr (10, [.ref h1, .int 0, .ref h2, .ref h3, .ref h4, .ref h5, .ref h6, .ref h7])), (h3, .inr (7, [.ref h8, .ref h9, .ref h10, .ref h11])), (h9, .inl (cI, 8, .inl (fun _ => 0)))] sz) := by
  refine Met.ofW (cc := cX11_judge) (maxL := 5) (ret := (some .int)) (by decide +kernel) rfl ?_
  intro p e s m args below meth c s₁ B hml hv
  obtain ⟨rfl, hsz, hP, hK, hD0⟩ := hv
  have hx := B.exec
  have hb := B.bytes
  have hr := B.returns
  have hts := atoms_spec (ws := zw_zm_judge) B.pre
  have hown : s.vm.findClass RX11 = some m.cls := findClass_of_methodNamed B.named
  have hlocks := B.notSynchronized
  subst hsz
  have hD := hD0.self (sz := s.heap.size)
  generalize hAe : va_A [(h0, .inr (10, [.ref h1, .int 0, .ref h2, .ref h3, .ref h4, .ref h5, .ref h6, .ref h7])), (h3, .inr (7, [.ref h8, .ref h9, .ref h10, .ref h11])), (h9, .inl (cI, 8, .inl (fun _ => 0)))] s.heap.size = A at hD ⊢
  have hA : ∀ q : Nat, s.heap.size ≤ q → A q := fun q h => by rw [← hAe]; exact Or.inr h
  have hS : va_S A s.heap s.heap [] := va_S.rf
  have hP : va_P (dC, dI) zz_cl [(h0, .inr (10, [.ref h1, .int 0, .ref h2, .ref h3, .ref h4, .ref h5, .ref h6, .ref h7])), (h3, .inr (7, [.ref h8, .ref h9, .ref h10, .ref h11])), (h9, .inl (cI, 8, .inl (fun _ => 0)))] s.heap := hP
  have hl := lv_entry ([.ref h0, .int p0]) (n := 5) (Nat.le_of_ble_eq_true rfl)
  rw [lg_entry_eq]
  generalize (lg_sl ([.ref h0, .int p0]) ++ List.replicate (5 - (lg_sl ([.ref h0, .int p0])).length) Slot.unset).toArray = ls at hl ⊢
  have hl : lv_has ls 5 [(0, .ref h0), (1, .int p0)] := hl
  refine lv_aload_n hx hb dX11_judge_0 rfl (lv_at hl 0 rfl) ?_
  refine lv_iload_n hx hb dX11_judge_1 rfl (lv_at hl 1 rfl) ?_
  have hPc := hP.sub (ws' := [(h0, .inr (10, [.ref h1, .int 0, .ref h2, .ref h3, .ref h4, .ref h5, .ref h6, .ref h7])), (h3, .inr (7, [.ref h8, .ref h9, .ref h10, .ref h11])), (h9, .inl (cI, 8, .inl (fun _ => 0)))]) [0, 1, 2] rfl
  have hDc := hD.sub (ws' := [(h0, .inr (10, [.ref h1, .int 0, .ref h2, .ref h3, .ref h4, .ref h5, .ref h6, .ref h7])), (h3, .inr (7, [.ref h8, .ref h9, .ref h10, .ref h11])), (h9, .inl (cI, 8, .inl (fun _ => 0)))]) [0, 1, 2] (by decide +kernel) rfl
  have hFc := va_free (wc := [(h0, .inr (10, [.ref h1, .int 0, .ref h2, .ref h3, .ref h4, .ref h5, .ref h6, .ref h7])), (h3, .inr (7, [.ref h8, .ref h9, .ref h10, .ref h11])), (h9, .inl (cI, 8, .inl (fun _ => 0)))]) hD hS hA [0, 1, 2] rfl
  refine va_calli (va_runV (As := [.int p0]) (rest := []) ⟨hx, hb, hml, hown, hts⟩ (zm_words l dC dI cB cI cJ cZ h0 h3 h9 h1 h2 h4 h5 h6 h7 h8 h10 h11 s.heap.size p0) (cwV 1 hts (goodIn_app (goodIn_r [.methodLink RX11 95 yX11_words, .instanceMethod yX11_words, .selects RX11 yX11_words yX11_words, .initialized RX11] [8, 9, 10, 11] rfl (by decide +kernel)) zz_g_zm_judge_zm_words) rfl rfl rfl (by decide +kernel) ⟨Nat.le_of_ble_eq_true rfl, Nat.le_of_ble_eq_true rfl⟩) ⟨fun a U g mk q => by obtain ⟨q0, q1, qP, qK, qD⟩ := q; exact ⟨q0, q1, qP, va_K.moved (u := U) (U := U.calling g mk a) (Vm.Alike.refl U.vm) qK, qD⟩, va_recv hK hPc (ci := 10) (q0 := 0) rfl rfl, fun U hU hW => ⟨rfl, by rw [hU], by rw [hU]; exact hPc, va_K.moved hW.alike hK, hDc.weaken (fun _ _ _ _ => trivial)⟩⟩ rfl rfl hl.1 rfl (lv_room (Nat.le_of_ble_eq_true rfl)) dX11_judge_2 ⟨Nat.le_of_ble_eq_true rfl, Nat.le_of_ble_eq_true rfl⟩) hS (fun q _ h => hFc q h) hFc (fun r_1 u_3 t H1 locs ht hvm hw_2 hB hz1 hk1 hS => ?_)
  obtain ⟨hP, hD⟩ := va_join (wr := []) (w1 := []) hP hD [0, 1, 2] [] rfl rfl (by decide +kernel) (by decide +kernel) hk1 hFc zz_P0 zz_D0
  generalize H1 = H at hP hS ⊢
  have hP : va_P (dC, dI) zz_cl [] H := hP
  have hD : va_D A [] := hD
  try dsimp only at hw_2
  obtain rfl : r_1 = (0 : Int32) := hw_2
  refine lv_istore_n (lv' := [(2, .int 0), (0, .ref h0), (1, .int p0)]) hx hb dX11_judge_5 rfl hl (by decide +kernel) rfl (fun ls hl => ?_)
  refine lv_iload_n hx hb dX11_judge_6 rfl (lv_at hl 0 rfl) ?_
  refine lv_if_ne (tgt := 12) hx hb dX11_judge_7 (by decide +kernel) (fun c_4 => ?_) (fun c_4 => ?_)
  · exact absurd c_4 (by decide +kernel)
  · refine lv_iconst (v := (-1)) hx hb dX11_judge_10 (by decide +kernel) ?_
    exact W.iret (v := (-1)) hx hb hr (fun t ht hW => ⟨⟨(-1), (), rfl, rfl, trivial⟩, hS.F ht⟩) hS.2.2 dX11_judge_11
def zw_zm_taken : List Cond := .code yX11_taken cX11_taken 2 (some .boolean) :: ([.code yX8_isSlot cX8_isSlot 1 (some .boolean), .methodLink RX11 71 yX8_isSlot, .static yX8_isSlot, .initialized RX8, .fieldLink RX11 27 "FilterHouse" "slots" "LFilterHouse$Slots;", .fieldLink RX11 126 "FilterHouse$Slots" "good" "[Z"] ++ (wsX110 ++ (wsX80 ++ [])))
theorem zz_in_zm_taken_X11 : ∀ w ∈ wsX110, w ∈ zw_zm_taken := fun w h => List.mem_cons_of_mem _ (List.mem_append_right _ (List.mem_append_left _ h))
theorem zz_in_zm_taken_X8 : ∀ w ∈ wsX80, w ∈ zw_zm_taken := fun w h => List.mem_cons_of_mem _ (List.mem_append_right _ (List.mem_append_right _ (List.mem_append_left _ h)))
set_option maxRecDepth 20000 in
theorem zz_g_zm_taken_zm_isSlot : GoodIn zw_zm_taken zw_zm_isSlot := goodIn_ca (goodIn_r ([.code yX8_isSlot cX8_isSlot 1 (some .boolean)]) [1] rfl (by decide +kernel)) (goodIn_sub (fun _ h => absurd h List.not_mem_nil) rfl)
set_option maxHeartbeats 1000000 in
set_option maxRecDepth 100000 in
/-- zm_taken -/
theorem zm_taken (l : Launch) (dC : Nat → ClassId) (dI : Nat → Nat → Nat) (cB cI cJ cZ : ClassId) (h0 h3 h10 h1 h2 h4 h5 h6 h7 h8 h9 h11 : Nat) (sz : Nat) (p0 : Int32) : Met l yX11_taken zw_zm_taken ({ frames := 1, cells := 0, slots := 0, locals := 20 }) (va_Pc [.ref h0, .int p0] (fun U => U.heap.size = sz ∧ va_P (dC, dI) zz_cl [(h0, .inr (10, [.ref h1, .int 0, .ref h2, .ref h3, .ref h4, .ref h5, .ref h6, .ref h7])), (h3, .inr (7, [.ref h8, .ref h9, .ref h10, .ref h11])), (h10, .inl (cZ, 8, .inl (fun _ => 0)))] U.heap ∧ va_K (dC, dI) zz_cl [(cB, .byte), (cI, .int), (cJ, .long), (cZ, .boolean)] U ∧ va_D (fun _ => True) [(h0, .inr (10, [.ref h1, .int 0, .ref h2, .ref h3, .ref h4, .ref h5, .ref h6, .ref h7])), (h3, .inr (7, [.ref h8, .ref h9, .ref h10, .ref h11])), (h10, .inl (cZ, 8, .inl (fun _ => 0)))])) (va_Qi (fun (r : Int32) (_ : Unit) => r = 0) (fun (_ : Unit) _ => True) (va_A [(h0, .inr (10, [.ref h1, .int 0, .ref h2, .ref h3, .ref h4, .ref h5, .ref h6, .ref h7])), (h3, .inr (7, [.ref h8, .ref h9, .ref h10, .ref h11])), (h10, .inl (cZ, 8, .inl (fun _ => 0)))] sz)) 0 0 (va_A [(h0, .inr (10, [.ref h1, .int 0, .ref h2, .ref h3, .ref h4, .ref h5, .ref h6, .ref h7])), (h3, .inr (7, [.ref h8, .ref h9, .ref h10, .ref h11])), (h10, .inl (cZ, 8, .inl (fun _ => 0)))] sz) := by
  refine Met.ofW (cc := cX11_taken) (maxL := 2) (ret := (some .boolean)) (by decide +kernel) rfl ?_
  intro p e s m args below meth c s₁ B hml hv
  obtain ⟨rfl, hsz, hP, hK, hD0⟩ := hv
  have hx := B.exec
  have hb := B.bytes
  have hr := B.returns
  have hts := atoms_spec (ws := zw_zm_taken) B.pre
  have hown : s.vm.findClass RX11 = some m.cls := findClass_of_methodNamed B.named
  have hlocks := B.notSynchronized
  subst hsz
  have hD := hD0.self (sz := s.heap.size)
  generalize hAe : va_A [(h0, .inr (10, [.ref h1, .int 0, .ref h2, .ref h3, .ref h4, .ref h5, .ref h6, .ref h7])), (h3, .inr (7, [.ref h8, .ref h9, .ref h10, .ref h11])), (h10, .inl (cZ, 8, .inl (fun _ => 0)))] s.heap.size = A at hD ⊢
  have hA : ∀ q : Nat, s.heap.size ≤ q → A q := fun q h => by rw [← hAe]; exact Or.inr h
  have hS : va_S A s.heap s.heap [] := va_S.rf
  have hP : va_P (dC, dI) zz_cl [(h0, .inr (10, [.ref h1, .int 0, .ref h2, .ref h3, .ref h4, .ref h5, .ref h6, .ref h7])), (h3, .inr (7, [.ref h8, .ref h9, .ref h10, .ref h11])), (h10, .inl (cZ, 8, .inl (fun _ => 0)))] s.heap := hP
  have hl := lv_entry ([.ref h0, .int p0]) (n := 2) (Nat.le_of_ble_eq_true rfl)
  rw [lg_entry_eq]
  generalize (lg_sl ([.ref h0, .int p0]) ++ List.replicate (2 - (lg_sl ([.ref h0, .int p0])).length) Slot.unset).toArray = ls at hl ⊢
  have hl : lv_has ls 2 [(0, .ref h0), (1, .int p0)] := hl
  refine lv_iload_n hx hb dX11_taken_0 rfl (lv_at hl 1 rfl) ?_
  have hPc := hP.sub (ws' := []) [] rfl
  have hDc := hD.sub (ws' := []) [] (by decide +kernel) rfl
  have hFc := va_free (wc := []) hD hS hA [] rfl
  refine va_calli (va_runS (As := [.int p0]) (rest := []) ⟨hx, hb, hml, hown, hts⟩ (zm_isSlot l dC dI cB cI cJ cZ  s.heap.size p0) (va_cwS 1 hts (goodIn_app (goodIn_r [.methodLink RX11 71 yX8_isSlot, .static yX8_isSlot, .initialized RX8] [2, 3, 4] rfl (by decide +kernel)) zz_g_zm_taken_zm_isSlot) rfl rfl rfl (by decide +kernel) ⟨Nat.le_of_ble_eq_true rfl, Nat.le_of_ble_eq_true rfl⟩) ⟨fun a U g mk q => by obtain ⟨q0, q1, qP, qK, qD⟩ := q; exact ⟨q0, q1, qP, va_K.moved (u := U) (U := U.calling g mk a) (Vm.Alike.refl U.vm) qK, qD⟩, fun U hU hW => ⟨rfl, by rw [hU], by rw [hU]; exact hPc, va_K.moved hW.alike hK, hDc.weaken (fun _ _ _ _ => trivial)⟩⟩ rfl rfl hl.1 rfl (lv_room (Nat.le_of_ble_eq_true rfl)) dX11_taken_1 ⟨Nat.le_of_ble_eq_true rfl, Nat.le_of_ble_eq_true rfl⟩) hS (fun q _ h => hFc q h) hFc (fun r_1 u_3 t H1 locs ht hvm hw_2 hB hz1 hk1 hS => ?_)
  obtain ⟨hP, hD⟩ := va_join (wr := [(h0, .inr (10, [.ref h1, .int 0, .ref h2, .ref h3, .ref h4, .ref h5, .ref h6, .ref h7])), (h3, .inr (7, [.ref h8, .ref h9, .ref h10, .ref h11])), (h10, .inl (cZ, 8, .inl (fun _ => 0)))]) (w1 := []) hP hD [] [0, 1, 2] rfl rfl (by decide +kernel) (by decide +kernel) hk1 hFc zz_P0 zz_D0
  generalize H1 = H at hP hS ⊢
  have hP : va_P (dC, dI) zz_cl [(h0, .inr (10, [.ref h1, .int 0, .ref h2, .ref h3, .ref h4, .ref h5, .ref h6, .ref h7])), (h3, .inr (7, [.ref h8, .ref h9, .ref h10, .ref h11])), (h10, .inl (cZ, 8, .inl (fun _ => 0)))] H := hP
  have hD : va_D A [(h0, .inr (10, [.ref h1, .int 0, .ref h2, .ref h3, .ref h4, .ref h5, .ref h6, .ref h7])), (h3, .inr (7, [.ref h8, .ref h9, .ref h10, .ref h11])), (h10, .inl (cZ, 8, .inl (fun _ => 0)))] := hD
  try dsimp only at hw_2
  rcases hw_2 with ⟨rfl, h_4⟩ | ⟨rfl, h_4⟩
  · refine lv_if_eq (tgt := 23) hx hb dX11_taken_4 (by decide +kernel) (fun c_5 => ?_) (fun c_5 => ?_)
    · exact absurd c_5 (by decide +kernel)
    · refine lv_aload_n hx hb dX11_taken_7 rfl (lv_at hl 0 rfl) ?_
      refine va_get (D := (dC, dI)) (ci := 10) (v := .ref h3) (C := RX11) (T := TX11) (N := 8) hx hb hts zz_in_zm_taken_X11 hown hK hP 0 rfl rfl 3 (by decide +kernel) (hts (.fieldLink RX11 27 "FilterHouse" "slots" "LFilterHouse$Slots;") (List.mem_of_getElem? (i := 5) rfl)) (fun _ h9 => h9) rfl dX11_taken_8 ?_
      refine va_get (D := (dC, dI)) (ci := 7) (v := .ref h10) (C := RX8) (T := TX8) (N := 4) hx hb hts zz_in_zm_taken_X8 hown hK hP 1 rfl rfl 2 (by decide +kernel) (hts (.fieldLink RX11 126 "FilterHouse$Slots" "good" "[Z") (List.mem_of_getElem? (i := 6) rfl)) (fun _ h9 => h9) rfl dX11_taken_11 ?_
      refine lv_iload_n hx hb dX11_taken_14 rfl (lv_at hl 1 rfl) ?_
      refine va_zald hx hb hK hP 2 3 rfl rfl (vp_in_iff.mpr (by have qc_5 := mt (fa_eq _ _).mpr c_5; have k0 : (0 : Int32).toInt = 0 := rfl; have k1 : (1 : Int32).toInt = 1 := rfl; omega)) dX11_taken_15 ?_
      refine lv_topi (fun f_6 ef_6 => ?_)
      obtain rfl : f_6 = 0 := ef_6
      refine lv_if_eq (tgt := 23) hx hb dX11_taken_16 (by decide +kernel) (fun c_7 => ?_) (fun c_7 => ?_)
      · refine lv_iconst (v := 0) hx hb dX11_taken_23 (by decide +kernel) ?_
        exact W.zret (v := 0) (ty := .boolean) hx hb hr rfl (fun t ht hW => ⟨⟨0, (), rfl, rfl, trivial⟩, hS.F ht⟩) hS.2.2 dX11_taken_24
      · exact absurd c_7 (by decide +kernel)
  · refine lv_if_eq (tgt := 23) hx hb dX11_taken_4 (by decide +kernel) (fun c_8 => ?_) (fun c_8 => ?_)
    · refine lv_iconst (v := 0) hx hb dX11_taken_23 (by decide +kernel) ?_
      exact W.zret (v := 0) (ty := .boolean) hx hb hr rfl (fun t ht hW => ⟨⟨0, (), rfl, rfl, trivial⟩, hS.F ht⟩) hS.2.2 dX11_taken_24
    · exact absurd c_8 (by decide +kernel)
def zw_zm_run : List Cond := .code yX11_run cX11_run 3 (some .int) :: ([.code yX8_isSlot cX8_isSlot 1 (some .boolean), .methodLink RX11 71 yX8_isSlot, .static yX8_isSlot, .initialized RX8, .fieldLink RX11 27 "FilterHouse" "slots" "LFilterHouse$Slots;", .fieldLink RX11 126 "FilterHouse$Slots" "good" "[Z", .code yX11_taken cX11_taken 2 (some .boolean), .methodLink RX11 229 yX11_taken, .instanceMethod yX11_taken, .selects RX11 yX11_taken yX11_taken, .initialized RX11] ++ (wsX110 ++ (wsX80 ++ [])))
theorem zz_in_zm_run_X11 : ∀ w ∈ wsX110, w ∈ zw_zm_run := fun w h => List.mem_cons_of_mem _ (List.mem_append_right _ (List.mem_append_left _ h))
theorem zz_in_zm_run_X8 : ∀ w ∈ wsX80, w ∈ zw_zm_run := fun w h => List.mem_cons_of_mem _ (List.mem_append_right _ (List.mem_append_right _ (List.mem_append_left _ h)))
set_option maxRecDepth 20000 in
theorem zz_g_zm_run_zm_taken : GoodIn zw_zm_run zw_zm_taken := goodIn_ca (goodIn_r ([.code yX11_taken cX11_taken 2 (some .boolean), .code yX8_isSlot cX8_isSlot 1 (some .boolean), .methodLink RX11 71 yX8_isSlot, .static yX8_isSlot, .initialized RX8, .fieldLink RX11 27 "FilterHouse" "slots" "LFilterHouse$Slots;", .fieldLink RX11 126 "FilterHouse$Slots" "good" "[Z"]) [7, 1, 2, 3, 4, 5, 6] rfl (by decide +kernel)) (goodIn_app (goodIn_sub zz_in_zm_run_X11 zz_gw_X11) (goodIn_app (goodIn_sub zz_in_zm_run_X8 zz_gw_X8) (goodIn_sub (fun _ h => absurd h List.not_mem_nil) rfl)))
set_option maxHeartbeats 1000000 in
set_option maxRecDepth 100000 in
/-- zm_run -/
theorem zm_run (l : Launch) (dC : Nat → ClassId) (dI : Nat → Nat → Nat) (cB cI cJ cZ : ClassId) (h0 h3 h10 h1 h2 h4 h5 h6 h7 h8 h9 h11 : Nat) (sz : Nat) (p0 : Int32) (p1 : Int32) : Met l yX11_run zw_zm_run ({ frames := 2, cells := 0, slots := 0, locals := 41 }) (va_Pc [.ref h0, .int p0, .int p1] (fun U => U.heap.size = sz ∧ va_P (dC, dI) zz_cl [(h0, .inr (10, [.ref h1, .int 0, .ref h2, .ref h3, .ref h4, .ref h5, .ref h6, .ref h7])), (h3, .inr (7, [.ref h8, .ref h9, .ref h10, .ref h11])), (h10, .inl (cZ, 8, .inl (fun _ => 0)))] U.heap ∧ va_K (dC, dI) zz_cl [(cB, .byte), (cI, .int), (cJ, .long), (cZ, .boolean)] U ∧ va_D (fun _ => True) [(h0, .inr (10, [.ref h1, .int 0, .ref h2, .ref h3, .ref h4, .ref h5, .ref h6, .ref h7])), (h3, .inr (7, [.ref h8, .ref h9, .ref h10, .ref h11])), (h10, .inl (cZ, 8, .inl (fun _ => 0)))])) (va_Qi (fun (r : Int32) (_ : Unit) => r = (-1)) (fun (_ : Unit) _ => True) (va_A [(h0, .inr (10, [.ref h1, .int 0, .ref h2, .ref h3, .ref h4, .ref h5, .ref h6, .ref h7])), (h3, .inr (7, [.ref h8, .ref h9, .ref h10, .ref h11])), (h10, .inl (cZ, 8, .inl (fun _ => 0)))] sz)) 0 0 (va_A [(h0, .inr (10, [.ref h1, .int 0, .ref h2, .ref h3, .ref h4, .ref h5, .ref h6, .ref h7])), (h3, .inr (7, [.ref h8, .ref h9, .ref h10, .ref h11])), (h10, .inl (cZ, 8, .inl (fun _ => 0)))] sz) := by
  refine Met.ofW (cc := cX11_run) (maxL := 3) (ret := (some .int)) (by decide +kernel) rfl ?_
  intro p e s m args below meth c s₁ B hml hv
  obtain ⟨rfl, hsz, hP, hK, hD0⟩ := hv
  have hx := B.exec
  have hb := B.bytes
  have hr := B.returns
  have hts := atoms_spec (ws := zw_zm_run) B.pre
  have hown : s.vm.findClass RX11 = some m.cls := findClass_of_methodNamed B.named
  have hlocks := B.notSynchronized
  subst hsz
  have hD := hD0.self (sz := s.heap.size)
  generalize hAe : va_A [(h0, .inr (10, [.ref h1, .int 0, .ref h2, .ref h3, .ref h4, .ref h5, .ref h6, .ref h7])), (h3, .inr (7, [.ref h8, .ref h9, .ref h10, .ref h11])), (h10, .inl (cZ, 8, .inl (fun _ => 0)))] s.heap.size = A at hD ⊢
  have hA : ∀ q : Nat, s.heap.size ≤ q → A q := fun q h => by rw [← hAe]; exact Or.inr h
  have hS : va_S A s.heap s.heap [] := va_S.rf
  have hP : va_P (dC, dI) zz_cl [(h0, .inr (10, [.ref h1, .int 0, .ref h2, .ref h3, .ref h4, .ref h5, .ref h6, .ref h7])), (h3, .inr (7, [.ref h8, .ref h9, .ref h10, .ref h11])), (h10, .inl (cZ, 8, .inl (fun _ => 0)))] s.heap := hP
  have hl := lv_entry ([.ref h0, .int p0, .int p1]) (n := 3) (Nat.le_of_ble_eq_true rfl)
  rw [lg_entry_eq]
  generalize (lg_sl ([.ref h0, .int p0, .int p1]) ++ List.replicate (3 - (lg_sl ([.ref h0, .int p0, .int p1])).length) Slot.unset).toArray = ls at hl ⊢
  have hl : lv_has ls 3 [(0, .ref h0), (1, .int p0), (2, .int p1)] := hl
  refine lv_aload_n hx hb dX11_run_0 rfl (lv_at hl 0 rfl) ?_
  refine lv_iload_n hx hb dX11_run_1 rfl (lv_at hl 1 rfl) ?_
  have hPc := hP.sub (ws' := [(h0, .inr (10, [.ref h1, .int 0, .ref h2, .ref h3, .ref h4, .ref h5, .ref h6, .ref h7])), (h3, .inr (7, [.ref h8, .ref h9, .ref h10, .ref h11])), (h10, .inl (cZ, 8, .inl (fun _ => 0)))]) [0, 1, 2] rfl
  have hDc := hD.sub (ws' := [(h0, .inr (10, [.ref h1, .int 0, .ref h2, .ref h3, .ref h4, .ref h5, .ref h6, .ref h7])), (h3, .inr (7, [.ref h8, .ref h9, .ref h10, .ref h11])), (h10, .inl (cZ, 8, .inl (fun _ => 0)))]) [0, 1, 2] (by decide +kernel) rfl
  have hFc := va_free (wc := [(h0, .inr (10, [.ref h1, .int 0, .ref h2, .ref h3, .ref h4, .ref h5, .ref h6, .ref h7])), (h3, .inr (7, [.ref h8, .ref h9, .ref h10, .ref h11])), (h10, .inl (cZ, 8, .inl (fun _ => 0)))]) hD hS hA [0, 1, 2] rfl
  refine va_calli (va_runV (As := [.int p0]) (rest := []) ⟨hx, hb, hml, hown, hts⟩ (zm_taken l dC dI cB cI cJ cZ h0 h3 h10 h1 h2 h4 h5 h6 h7 h8 h9 h11 s.heap.size p0) (cwV 1 hts (goodIn_app (goodIn_r [.methodLink RX11 229 yX11_taken, .instanceMethod yX11_taken, .selects RX11 yX11_taken yX11_taken, .initialized RX11] [8, 9, 10, 11] rfl (by decide +kernel)) zz_g_zm_run_zm_taken) rfl rfl rfl (by decide +kernel) ⟨Nat.le_of_ble_eq_true rfl, Nat.le_of_ble_eq_true rfl⟩) ⟨fun a U g mk q => by obtain ⟨q0, q1, qP, qK, qD⟩ := q; exact ⟨q0, q1, qP, va_K.moved (u := U) (U := U.calling g mk a) (Vm.Alike.refl U.vm) qK, qD⟩, va_recv hK hPc (ci := 10) (q0 := 0) rfl rfl, fun U hU hW => ⟨rfl, by rw [hU], by rw [hU]; exact hPc, va_K.moved hW.alike hK, hDc.weaken (fun _ _ _ _ => trivial)⟩⟩ rfl rfl hl.1 rfl (lv_room (Nat.le_of_ble_eq_true rfl)) dX11_run_2 ⟨Nat.le_of_ble_eq_true rfl, Nat.le_of_ble_eq_true rfl⟩) hS (fun q _ h => hFc q h) hFc (fun r_1 u_3 t H1 locs ht hvm hw_2 hB hz1 hk1 hS => ?_)
  obtain ⟨hP, hD⟩ := va_join (wr := []) (w1 := []) hP hD [0, 1, 2] [] rfl rfl (by decide +kernel) (by decide +kernel) hk1 hFc zz_P0 zz_D0
  generalize H1 = H at hP hS ⊢
  have hP : va_P (dC, dI) zz_cl [] H := hP
  have hD : va_D A [] := hD
  try dsimp only at hw_2
  obtain rfl : r_1 = (0 : Int32) := hw_2
  refine lv_if_eq (tgt := 17) hx hb dX11_run_5 (by decide +kernel) (fun c_4 => ?_) (fun c_4 => ?_)
  · refine lv_iconst (v := (-1)) hx hb dX11_run_17 (by decide +kernel) ?_
    exact W.iret (v := (-1)) hx hb hr (fun t ht hW => ⟨⟨(-1), (), rfl, rfl, trivial⟩, hS.F ht⟩) hS.2.2 dX11_run_18
  · exact absurd c_4 (by decide +kernel)
def zw_zm_load : List Cond := .code yX11_load cX11_load 3 (some .int) :: ([.fieldLink RX11 13 "FilterHouse" "tapeSize" "I", .code yX11_useTape cX11_useTape 2 (some .int), .methodLink RX11 67 yX11_useTape, .instanceMethod yX11_useTape, .selects RX11 yX11_useTape yX11_useTape, .initialized RX11, .code yX8_isSlot cX8_isSlot 1 (some .boolean), .methodLink RX11 71 yX8_isSlot, .static yX8_isSlot, .initialized RX8] ++ (wsX110 ++ []))
theorem zz_in_zm_load_X11 : ∀ w ∈ wsX110, w ∈ zw_zm_load := fun w h => List.mem_cons_of_mem _ (List.mem_append_right _ (List.mem_append_left _ h))
set_option maxRecDepth 20000 in
theorem zz_g_zm_load_zm_useTape : GoodIn zw_zm_load zw_zm_useTape := goodIn_ca (goodIn_r ([.code yX11_useTape cX11_useTape 2 (some .int), .fieldLink RX11 13 "FilterHouse" "tapeSize" "I"]) [2, 1] rfl (by decide +kernel)) (goodIn_app (goodIn_sub zz_in_zm_load_X11 zz_gw_X11) (goodIn_sub (fun _ h => absurd h List.not_mem_nil) rfl))
set_option maxRecDepth 20000 in
theorem zz_g_zm_load_zm_isSlot : GoodIn zw_zm_load zw_zm_isSlot := goodIn_ca (goodIn_r ([.code yX8_isSlot cX8_isSlot 1 (some .boolean)]) [7] rfl (by decide +kernel)) (goodIn_sub (fun _ h => absurd h List.not_mem_nil) rfl)
set_option maxHeartbeats 1000000 in
set_option maxRecDepth 100000 in
/-- zm_load -/
theorem zm_load (l : Launch) (dC : Nat → ClassId) (dI : Nat → Nat → Nat) (cB cI cJ cZ : ClassId) (h0 h1 h2 h3 h4 h5 h6 h7 : Nat) (sz : Nat) (p0 : Int32) : Met l yX11_load zw_zm_load ({ frames := 1, cells := 0, slots := 0, locals := 21 }) (va_Pc [.ref h0, .int p0] (fun U => U.heap.size = sz ∧ va_P (dC, dI) zz_cl [(h0, .inr (10, [.ref h1, .int 0, .ref h2, .ref h3, .ref h4, .ref h5, .ref h6, .ref h7]))] U.heap ∧ va_K (dC, dI) zz_cl [(cB, .byte), (cI, .int), (cJ, .long), (cZ, .boolean)] U ∧ va_D (fun _ => True) [(h0, .inr (10, [.ref h1, .int 0, .ref h2, .ref h3, .ref h4, .ref h5, .ref h6, .ref h7]))])) (va_Qi (fun (r : Int32) (_ : Unit) => r = (-1)) (fun (_ : Unit) _ => True) (va_A [(h0, .inr (10, [.ref h1, .int 0, .ref h2, .ref h3, .ref h4, .ref h5, .ref h6, .ref h7]))] sz)) 0 0 (va_A [(h0, .inr (10, [.ref h1, .int 0, .ref h2, .ref h3, .ref h4, .ref h5, .ref h6, .ref h7]))] sz) := by
  refine Met.ofW (cc := cX11_load) (maxL := 3) (ret := (some .int)) (by decide +kernel) rfl ?_
  intro p e s m args below meth c s₁ B hml hv
  obtain ⟨rfl, hsz, hP, hK, hD0⟩ := hv
  have hx := B.exec
  have hb := B.bytes
  have hr := B.returns
  have hts := atoms_spec (ws := zw_zm_load) B.pre
  have hown : s.vm.findClass RX11 = some m.cls := findClass_of_methodNamed B.named
  have hlocks := B.notSynchronized
  subst hsz
  have hD := hD0.self (sz := s.heap.size)
  generalize hAe : va_A [(h0, .inr (10, [.ref h1, .int 0, .ref h2, .ref h3, .ref h4, .ref h5, .ref h6, .ref h7]))] s.heap.size = A at hD ⊢
  have hA : ∀ q : Nat, s.heap.size ≤ q → A q := fun q h => by rw [← hAe]; exact Or.inr h
  have hS : va_S A s.heap s.heap [] := va_S.rf
  have hP : va_P (dC, dI) zz_cl [(h0, .inr (10, [.ref h1, .int 0, .ref h2, .ref h3, .ref h4, .ref h5, .ref h6, .ref h7]))] s.heap := hP
  have hl := lv_entry ([.ref h0, .int p0]) (n := 3) (Nat.le_of_ble_eq_true rfl)
  rw [lg_entry_eq]
  generalize (lg_sl ([.ref h0, .int p0]) ++ List.replicate (3 - (lg_sl ([.ref h0, .int p0])).length) Slot.unset).toArray = ls at hl ⊢
  have hl : lv_has ls 3 [(0, .ref h0), (1, .int p0)] := hl
  refine lv_aload_n hx hb dX11_load_0 rfl (lv_at hl 0 rfl) ?_
  have hPc := hP.sub (ws' := [(h0, .inr (10, [.ref h1, .int 0, .ref h2, .ref h3, .ref h4, .ref h5, .ref h6, .ref h7]))]) [0] rfl
  have hDc := hD.sub (ws' := [(h0, .inr (10, [.ref h1, .int 0, .ref h2, .ref h3, .ref h4, .ref h5, .ref h6, .ref h7]))]) [0] (by decide +kernel) rfl
  have hFc := va_free (wc := [(h0, .inr (10, [.ref h1, .int 0, .ref h2, .ref h3, .ref h4, .ref h5, .ref h6, .ref h7]))]) hD hS hA [0] rfl
  refine va_calli (va_runV (As := []) (rest := []) ⟨hx, hb, hml, hown, hts⟩ (zm_useTape l dC dI cB cI cJ cZ h0 h1 h2 h3 h4 h5 h6 h7 s.heap.size) (cwV 0 hts (goodIn_app (goodIn_r [.methodLink RX11 67 yX11_useTape, .instanceMethod yX11_useTape, .selects RX11 yX11_useTape yX11_useTape, .initialized RX11] [3, 4, 5, 6] rfl (by decide +kernel)) zz_g_zm_load_zm_useTape) rfl rfl rfl (by decide +kernel) ⟨Nat.le_of_ble_eq_true rfl, Nat.le_of_ble_eq_true rfl⟩) ⟨fun a U g mk q => by obtain ⟨q0, q1, qP, qK, qD⟩ := q; exact ⟨q0, q1, qP, va_K.moved (u := U) (U := U.calling g mk a) (Vm.Alike.refl U.vm) qK, qD⟩, va_recv hK hPc (ci := 10) (q0 := 0) rfl rfl, fun U hU hW => ⟨rfl, by rw [hU], by rw [hU]; exact hPc, va_K.moved hW.alike hK, hDc.weaken (fun _ _ _ _ => trivial)⟩⟩ rfl rfl hl.1 rfl (lv_room (Nat.le_of_ble_eq_true rfl)) dX11_load_1 ⟨Nat.le_of_ble_eq_true rfl, Nat.le_of_ble_eq_true rfl⟩) hS (fun q _ h => hFc q h) hFc (fun r_1 u_3 t H1 locs ht hvm hw_2 hB hz1 hk1 hS => ?_)
  obtain ⟨hP1, hD1⟩ := hB
  rw [ht] at hP1
  obtain ⟨hP, hD⟩ := va_join (wr := []) (w1 := [(h0, .inr (10, [.ref h1, .int 0, .ref h2, .ref h3, .ref h4, .ref h5, .ref h6, .ref h7]))]) hP hD [0] [] rfl rfl (by decide +kernel) (by decide +kernel) hk1 hFc hP1 hD1
  generalize H1 = H at hP hS ⊢
  have hP : va_P (dC, dI) zz_cl [(h0, .inr (10, [.ref h1, .int 0, .ref h2, .ref h3, .ref h4, .ref h5, .ref h6, .ref h7]))] H := hP
  have hD : va_D A [(h0, .inr (10, [.ref h1, .int 0, .ref h2, .ref h3, .ref h4, .ref h5, .ref h6, .ref h7]))] := hD
  try dsimp only at hw_2
  obtain rfl : r_1 = (0 : Int32) := hw_2
  refine lv_istore_n (lv' := [(2, .int 0), (0, .ref h0), (1, .int p0)]) hx hb dX11_load_4 rfl hl (by decide +kernel) rfl (fun ls hl => ?_)
  refine lv_iload_n hx hb dX11_load_5 rfl (lv_at hl 2 rfl) ?_
  have hPc := hP.sub (ws' := []) [] rfl
  have hDc := hD.sub (ws' := []) [] (by decide +kernel) rfl
  have hFc := va_free (wc := []) hD hS hA [] rfl
  refine va_calli (va_runS (As := [.int p0]) (rest := []) ⟨hx, hb, hml, hown, hts⟩ (zm_isSlot l dC dI cB cI cJ cZ  H.size p0) (va_cwS 1 hts (goodIn_app (goodIn_r [.methodLink RX11 71 yX8_isSlot, .static yX8_isSlot, .initialized RX8] [8, 9, 10] rfl (by decide +kernel)) zz_g_zm_load_zm_isSlot) rfl rfl rfl (by decide +kernel) ⟨Nat.le_of_ble_eq_true rfl, Nat.le_of_ble_eq_true rfl⟩) ⟨fun a U g mk q => by obtain ⟨q0, q1, qP, qK, qD⟩ := q; exact ⟨q0, q1, qP, va_K.moved (u := U) (U := U.calling g mk a) (Vm.Alike.refl U.vm) qK, qD⟩, fun U hU hW => ⟨rfl, by rw [hU], by rw [hU]; exact hPc, va_K.moved hW.alike hK, hDc.weaken (fun _ _ _ _ => trivial)⟩⟩ rfl rfl hl.1 rfl (lv_room (Nat.le_of_ble_eq_true rfl)) dX11_load_6 ⟨Nat.le_of_ble_eq_true rfl, Nat.le_of_ble_eq_true rfl⟩) hS (fun q _ h => hFc q h) hFc (fun r_4 u_6 t H1 locs ht hvm hw_5 hB hz1 hk1 hS => ?_)
  obtain ⟨hP, hD⟩ := va_join (wr := [(h0, .inr (10, [.ref h1, .int 0, .ref h2, .ref h3, .ref h4, .ref h5, .ref h6, .ref h7]))]) (w1 := []) hP hD [] [0] rfl rfl (by decide +kernel) (by decide +kernel) hk1 hFc zz_P0 zz_D0
  generalize H1 = H at hP hS ⊢
  have hP : va_P (dC, dI) zz_cl [(h0, .inr (10, [.ref h1, .int 0, .ref h2, .ref h3, .ref h4, .ref h5, .ref h6, .ref h7]))] H := hP
  have hD : va_D A [(h0, .inr (10, [.ref h1, .int 0, .ref h2, .ref h3, .ref h4, .ref h5, .ref h6, .ref h7]))] := hD
  try dsimp only at hw_5
  rcases hw_5 with ⟨rfl, h_7⟩ | ⟨rfl, h_7⟩
  · refine lv_if_eq (tgt := 32) hx hb dX11_load_9 (by decide +kernel) (fun c_8 => ?_) (fun c_8 => ?_)
    · exact absurd c_8 (by decide +kernel)
    · refine lv_iload_n hx hb dX11_load_12 rfl (lv_at hl 0 rfl) ?_
      refine lv_bipush (v := 8) hx hb dX11_load_13 (by decide +kernel) ?_
      refine lv_icmp_lt (tgt := 32) hx hb dX11_load_15 (by decide +kernel) (fun c_9 => ?_) (fun c_9 => ?_)
      · refine lv_iconst (v := (-1)) hx hb dX11_load_32 (by decide +kernel) ?_
        exact W.iret (v := (-1)) hx hb hr (fun t ht hW => ⟨⟨(-1), (), rfl, rfl, trivial⟩, hS.F ht⟩) hS.2.2 dX11_load_33
      · exact absurd c_9 (by decide +kernel)
  · refine lv_if_eq (tgt := 32) hx hb dX11_load_9 (by decide +kernel) (fun c_10 => ?_) (fun c_10 => ?_)
    · refine lv_iconst (v := (-1)) hx hb dX11_load_32 (by decide +kernel) ?_
      exact W.iret (v := (-1)) hx hb hr (fun t ht hW => ⟨⟨(-1), (), rfl, rfl, trivial⟩, hS.F ht⟩) hS.2.2 dX11_load_33
    · exact absurd c_10 (by decide +kernel)
def zw_zm_outs : List Cond := .code yX11_outs cX11_outs 1 (some .int) :: ([.fieldLink RX11 20 "FilterHouse" "output" "LFilterHouse$Out;", .fieldLink RX11 107 "FilterHouse$Out" "size" "I"] ++ (wsX110 ++ (wsX40 ++ [])))
theorem zz_in_zm_outs_X11 : ∀ w ∈ wsX110, w ∈ zw_zm_outs := fun w h => List.mem_cons_of_mem _ (List.mem_append_right _ (List.mem_append_left _ h))
theorem zz_in_zm_outs_X4 : ∀ w ∈ wsX40, w ∈ zw_zm_outs := fun w h => List.mem_cons_of_mem _ (List.mem_append_right _ (List.mem_append_right _ (List.mem_append_left _ h)))
set_option maxHeartbeats 1000000 in
set_option maxRecDepth 100000 in
/-- zm_outs -/
theorem zm_outs (l : Launch) (dC : Nat → ClassId) (dI : Nat → Nat → Nat) (cB cI cJ cZ : ClassId) (h0 h2 h1 h3 h4 h5 h6 h7 h12 h13 : Nat) (sz : Nat) : Met l yX11_outs zw_zm_outs ({ frames := 0, cells := 0, slots := 0, locals := 0 }) (va_Pc [.ref h0] (fun U => U.heap.size = sz ∧ va_P (dC, dI) zz_cl [(h0, .inr (10, [.ref h1, .int 0, .ref h2, .ref h3, .ref h4, .ref h5, .ref h6, .ref h7])), (h2, .inr (3, [.ref h12, .int 0, .ref h13]))] U.heap ∧ va_K (dC, dI) zz_cl [(cB, .byte), (cI, .int), (cJ, .long), (cZ, .boolean)] U ∧ va_D (fun _ => True) [(h0, .inr (10, [.ref h1, .int 0, .ref h2, .ref h3, .ref h4, .ref h5, .ref h6, .ref h7])), (h2, .inr (3, [.ref h12, .int 0, .ref h13]))])) (va_Qi (fun (r : Int32) (_ : Unit) => r = 0) (fun (_ : Unit) _ => True) (va_A [(h0, .inr (10, [.ref h1, .int 0, .ref h2, .ref h3, .ref h4, .ref h5, .ref h6, .ref h7])), (h2, .inr (3, [.ref h12, .int 0, .ref h13]))] sz)) 0 0 (va_A [(h0, .inr (10, [.ref h1, .int 0, .ref h2, .ref h3, .ref h4, .ref h5, .ref h6, .ref h7])), (h2, .inr (3, [.ref h12, .int 0, .ref h13]))] sz) := by
  refine Met.ofW (cc := cX11_outs) (maxL := 1) (ret := (some .int)) (by decide +kernel) rfl ?_
  intro p e s m args below meth c s₁ B hml hv
  obtain ⟨rfl, hsz, hP, hK, hD0⟩ := hv
  have hx := B.exec
  have hb := B.bytes
  have hr := B.returns
  have hts := atoms_spec (ws := zw_zm_outs) B.pre
  have hown : s.vm.findClass RX11 = some m.cls := findClass_of_methodNamed B.named
  have hlocks := B.notSynchronized
  subst hsz
  have hD := hD0.self (sz := s.heap.size)
  generalize hAe : va_A [(h0, .inr (10, [.ref h1, .int 0, .ref h2, .ref h3, .ref h4, .ref h5, .ref h6, .ref h7])), (h2, .inr (3, [.ref h12, .int 0, .ref h13]))] s.heap.size = A at hD ⊢
  have hA : ∀ q : Nat, s.heap.size ≤ q → A q := fun q h => by rw [← hAe]; exact Or.inr h
  have hS : va_S A s.heap s.heap [] := va_S.rf
  have hP : va_P (dC, dI) zz_cl [(h0, .inr (10, [.ref h1, .int 0, .ref h2, .ref h3, .ref h4, .ref h5, .ref h6, .ref h7])), (h2, .inr (3, [.ref h12, .int 0, .ref h13]))] s.heap := hP
  have hl := lv_entry ([.ref h0]) (n := 1) (Nat.le_of_ble_eq_true rfl)
  rw [lg_entry_eq]
  generalize (lg_sl ([.ref h0]) ++ List.replicate (1 - (lg_sl ([.ref h0])).length) Slot.unset).toArray = ls at hl ⊢
  have hl : lv_has ls 1 [(0, .ref h0)] := hl
  refine lv_aload_n hx hb dX11_outs_0 rfl (lv_at hl 0 rfl) ?_
  refine va_get (D := (dC, dI)) (ci := 10) (v := .ref h2) (C := RX11) (T := TX11) (N := 8) hx hb hts zz_in_zm_outs_X11 hown hK hP 0 rfl rfl 2 (by decide +kernel) (hts (.fieldLink RX11 20 "FilterHouse" "output" "LFilterHouse$Out;") (List.mem_of_getElem? (i := 1) rfl)) (fun _ h9 => h9) rfl dX11_outs_1 ?_
  refine va_get (D := (dC, dI)) (ci := 3) (v := .int 0) (C := RX4) (T := TX4) (N := 3) hx hb hts zz_in_zm_outs_X4 hown hK hP 1 rfl rfl 1 (by decide +kernel) (hts (.fieldLink RX11 107 "FilterHouse$Out" "size" "I") (List.mem_of_getElem? (i := 2) rfl)) (fun _ h9 => h9) rfl dX11_outs_4 ?_
  exact W.iret (v := 0) hx hb hr (fun t ht hW => ⟨⟨0, (), rfl, rfl, trivial⟩, hS.F ht⟩) hS.2.2 dX11_outs_7
def zw_zm_out : List Cond := .code yX11_out cX11_out 2 (some .int) :: ([.fieldLink RX11 20 "FilterHouse" "output" "LFilterHouse$Out;", .fieldLink RX11 107 "FilterHouse$Out" "size" "I"] ++ (wsX110 ++ (wsX40 ++ [])))
theorem zz_in_zm_out_X11 : ∀ w ∈ wsX110, w ∈ zw_zm_out := fun w h => List.mem_cons_of_mem _ (List.mem_append_right _ (List.mem_append_left _ h))
theorem zz_in_zm_out_X4 : ∀ w ∈ wsX40, w ∈ zw_zm_out := fun w h => List.mem_cons_of_mem _ (List.mem_append_right _ (List.mem_append_right _ (List.mem_append_left _ h)))
set_option maxHeartbeats 1000000 in
set_option maxRecDepth 100000 in
/-- zm_out -/
theorem zm_out (l : Launch) (dC : Nat → ClassId) (dI : Nat → Nat → Nat) (cB cI cJ cZ : ClassId) (h0 h2 h1 h3 h4 h5 h6 h7 h12 h13 : Nat) (sz : Nat) (p0 : Int32) : Met l yX11_out zw_zm_out ({ frames := 0, cells := 0, slots := 0, locals := 0 }) (va_Pc [.ref h0, .int p0] (fun U => U.heap.size = sz ∧ va_P (dC, dI) zz_cl [(h0, .inr (10, [.ref h1, .int 0, .ref h2, .ref h3, .ref h4, .ref h5, .ref h6, .ref h7])), (h2, .inr (3, [.ref h12, .int 0, .ref h13]))] U.heap ∧ va_K (dC, dI) zz_cl [(cB, .byte), (cI, .int), (cJ, .long), (cZ, .boolean)] U ∧ va_D (fun _ => True) [(h0, .inr (10, [.ref h1, .int 0, .ref h2, .ref h3, .ref h4, .ref h5, .ref h6, .ref h7])), (h2, .inr (3, [.ref h12, .int 0, .ref h13]))])) (va_Qi (fun (r : Int32) (_ : Unit) => r = (-1)) (fun (_ : Unit) _ => True) (va_A [(h0, .inr (10, [.ref h1, .int 0, .ref h2, .ref h3, .ref h4, .ref h5, .ref h6, .ref h7])), (h2, .inr (3, [.ref h12, .int 0, .ref h13]))] sz)) 0 0 (va_A [(h0, .inr (10, [.ref h1, .int 0, .ref h2, .ref h3, .ref h4, .ref h5, .ref h6, .ref h7])), (h2, .inr (3, [.ref h12, .int 0, .ref h13]))] sz) := by
  refine Met.ofW (cc := cX11_out) (maxL := 2) (ret := (some .int)) (by decide +kernel) rfl ?_
  intro p e s m args below meth c s₁ B hml hv
  obtain ⟨rfl, hsz, hP, hK, hD0⟩ := hv
  have hx := B.exec
  have hb := B.bytes
  have hr := B.returns
  have hts := atoms_spec (ws := zw_zm_out) B.pre
  have hown : s.vm.findClass RX11 = some m.cls := findClass_of_methodNamed B.named
  have hlocks := B.notSynchronized
  subst hsz
  have hD := hD0.self (sz := s.heap.size)
  generalize hAe : va_A [(h0, .inr (10, [.ref h1, .int 0, .ref h2, .ref h3, .ref h4, .ref h5, .ref h6, .ref h7])), (h2, .inr (3, [.ref h12, .int 0, .ref h13]))] s.heap.size = A at hD ⊢
  have hA : ∀ q : Nat, s.heap.size ≤ q → A q := fun q h => by rw [← hAe]; exact Or.inr h
  have hS : va_S A s.heap s.heap [] := va_S.rf
  have hP : va_P (dC, dI) zz_cl [(h0, .inr (10, [.ref h1, .int 0, .ref h2, .ref h3, .ref h4, .ref h5, .ref h6, .ref h7])), (h2, .inr (3, [.ref h12, .int 0, .ref h13]))] s.heap := hP
  have hl := lv_entry ([.ref h0, .int p0]) (n := 2) (Nat.le_of_ble_eq_true rfl)
  rw [lg_entry_eq]
  generalize (lg_sl ([.ref h0, .int p0]) ++ List.replicate (2 - (lg_sl ([.ref h0, .int p0])).length) Slot.unset).toArray = ls at hl ⊢
  have hl : lv_has ls 2 [(0, .ref h0), (1, .int p0)] := hl
  refine lv_iload_n hx hb dX11_out_0 rfl (lv_at hl 1 rfl) ?_
  refine lv_if_lt (tgt := 15) hx hb dX11_out_1 (by decide +kernel) (fun c_1 => ?_) (fun c_1 => ?_)
  · refine lv_iconst (v := (-1)) hx hb dX11_out_15 (by decide +kernel) ?_
    refine lv_goto (tgt := 32) hx hb dX11_out_16 (by decide +kernel) ?_
    exact W.iret (v := (-1)) hx hb hr (fun t ht hW => ⟨⟨(-1), (), rfl, rfl, trivial⟩, hS.F ht⟩) hS.2.2 dX11_out_32
  · refine lv_iload_n hx hb dX11_out_4 rfl (lv_at hl 1 rfl) ?_
    refine lv_aload_n hx hb dX11_out_5 rfl (lv_at hl 0 rfl) ?_
    refine va_get (D := (dC, dI)) (ci := 10) (v := .ref h2) (C := RX11) (T := TX11) (N := 8) hx hb hts zz_in_zm_out_X11 hown hK hP 0 rfl rfl 2 (by decide +kernel) (hts (.fieldLink RX11 20 "FilterHouse" "output" "LFilterHouse$Out;") (List.mem_of_getElem? (i := 1) rfl)) (fun _ h9 => h9) rfl dX11_out_6 ?_
    refine va_get (D := (dC, dI)) (ci := 3) (v := .int 0) (C := RX4) (T := TX4) (N := 3) hx hb hts zz_in_zm_out_X4 hown hK hP 1 rfl rfl 1 (by decide +kernel) (hts (.fieldLink RX11 107 "FilterHouse$Out" "size" "I") (List.mem_of_getElem? (i := 2) rfl)) (fun _ h9 => h9) rfl dX11_out_9 ?_
    refine lv_icmp_lt (tgt := 19) hx hb dX11_out_12 (by decide +kernel) (fun c_2 => ?_) (fun c_2 => ?_)
    · exact absurd trivial (by have qc_1 := mt (fa_lt _ _).mpr c_1; have qc_2 := (fa_lt _ _).mp c_2; have k0 : (0 : Int32).toInt = 0 := rfl; omega)
    · refine lv_iconst (v := (-1)) hx hb dX11_out_15 (by decide +kernel) ?_
      refine lv_goto (tgt := 32) hx hb dX11_out_16 (by decide +kernel) ?_
      exact W.iret (v := (-1)) hx hb hr (fun t ht hW => ⟨⟨(-1), (), rfl, rfl, trivial⟩, hS.F ht⟩) hS.2.2 dX11_out_32
def zw_zm_isTold : List Cond := .code yX2_isTold cX2_isTold 2 (some .boolean) :: ([.fieldLink RX2 18 "FilterHouse$Maps" "known" "[Z"] ++ (wsX20 ++ []))
theorem zz_in_zm_isTold_X2 : ∀ w ∈ wsX20, w ∈ zw_zm_isTold := fun w h => List.mem_cons_of_mem _ (List.mem_append_right _ (List.mem_append_left _ h))
set_option maxHeartbeats 1000000 in
set_option maxRecDepth 100000 in
/-- zm_isTold -/
theorem zm_isTold (l : Launch) (dC : Nat → ClassId) (dI : Nat → Nat → Nat) (cB cI cJ cZ : ClassId) (h0 m_known m_room m_keys m_kind m_keySize m_valueSize m_most m_filled m_list m_recordSize m_state m_held : Nat) (sz : Nat) (p0 : Int32) : Met l yX2_isTold zw_zm_isTold ({ frames := 0, cells := 0, slots := 0, locals := 0 }) (va_Pc [.ref h0, .int p0] (fun U => U.heap.size = sz ∧ va_P (dC, dI) zz_cl [(h0, .inr (1, [.ref m_room, .ref m_keys, .ref m_known, .ref m_kind, .ref m_keySize, .ref m_valueSize, .ref m_most, .ref m_filled, .ref m_list, .ref m_recordSize, .ref m_state, .ref m_held, .int 0])), (m_known, .inl (cZ, 8, .inl (fun _ => 0)))] U.heap ∧ va_K (dC, dI) zz_cl [(cB, .byte), (cI, .int), (cJ, .long), (cZ, .boolean)] U ∧ va_D (fun _ => True) [(h0, .inr (1, [.ref m_room, .ref m_keys, .ref m_known, .ref m_kind, .ref m_keySize, .ref m_valueSize, .ref m_most, .ref m_filled, .ref m_list, .ref m_recordSize, .ref m_state, .ref m_held, .int 0])), (m_known, .inl (cZ, 8, .inl (fun _ => 0)))])) (va_Qi (fun (r : Int32) (_ : Unit) => r = 0) (fun (_ : Unit) t => va_P (dC, dI) zz_cl [(h0, .inr (1, [.ref m_room, .ref m_keys, .ref m_known, .ref m_kind, .ref m_keySize, .ref m_valueSize, .ref m_most, .ref m_filled, .ref m_list, .ref m_recordSize, .ref m_state, .ref m_held, .int 0])), (m_known, .inl (cZ, 8, .inl (fun _ => 0)))] t.heap ∧ va_D (va_A [(h0, .inr (1, [.ref m_room, .ref m_keys, .ref m_known, .ref m_kind, .ref m_keySize, .ref m_valueSize, .ref m_most, .ref m_filled, .ref m_list, .ref m_recordSize, .ref m_state, .ref m_held, .int 0])), (m_known, .inl (cZ, 8, .inl (fun _ => 0)))] sz) [(h0, .inr (1, [.ref m_room, .ref m_keys, .ref m_known, .ref m_kind, .ref m_keySize, .ref m_valueSize, .ref m_most, .ref m_filled, .ref m_list, .ref m_recordSize, .ref m_state, .ref m_held, .int 0])), (m_known, .inl (cZ, 8, .inl (fun _ => 0)))]) (va_A [(h0, .inr (1, [.ref m_room, .ref m_keys, .ref m_known, .ref m_kind, .ref m_keySize, .ref m_valueSize, .ref m_most, .ref m_filled, .ref m_list, .ref m_recordSize, .ref m_state, .ref m_held, .int 0])), (m_known, .inl (cZ, 8, .inl (fun _ => 0)))] sz)) 0 0 (va_A [(h0, .inr (1, [.ref m_room, .ref m_keys, .ref m_known, .ref m_kind, .ref m_keySize, .ref m_valueSize, .ref m_most, .ref m_filled, .ref m_list, .ref m_recordSize, .ref m_state, .ref m_held, .int 0])), (m_known, .inl (cZ, 8, .inl (fun _ => 0)))] sz) := by
  refine Met.ofW (cc := cX2_isTold) (maxL := 2) (ret := (some .boolean)) (by decide +kernel) rfl ?_
  intro p e s m args below meth c s₁ B hml hv
  obtain ⟨rfl, hsz, hP, hK, hD0⟩ := hv
  have hx := B.exec
  have hb := B.bytes
  have hr := B.returns
  have hts := atoms_spec (ws := zw_zm_isTold) B.pre
  have hown : s.vm.findClass RX2 = some m.cls := findClass_of_methodNamed B.named
  have hlocks := B.notSynchronized
  subst hsz
  have hD := hD0.self (sz := s.heap.size)
  generalize hAe : va_A [(h0, .inr (1, [.ref m_room, .ref m_keys, .ref m_known, .ref m_kind, .ref m_keySize, .ref m_valueSize, .ref m_most, .ref m_filled, .ref m_list, .ref m_recordSize, .ref m_state, .ref m_held, .int 0])), (m_known, .inl (cZ, 8, .inl (fun _ => 0)))] s.heap.size = A at hD ⊢
  have hA : ∀ q : Nat, s.heap.size ≤ q → A q := fun q h => by rw [← hAe]; exact Or.inr h
  have hS : va_S A s.heap s.heap [] := va_S.rf
  have hP : va_P (dC, dI) zz_cl [(h0, .inr (1, [.ref m_room, .ref m_keys, .ref m_known, .ref m_kind, .ref m_keySize, .ref m_valueSize, .ref m_most, .ref m_filled, .ref m_list, .ref m_recordSize, .ref m_state, .ref m_held, .int 0])), (m_known, .inl (cZ, 8, .inl (fun _ => 0)))] s.heap := hP
  have hl := lv_entry ([.ref h0, .int p0]) (n := 2) (Nat.le_of_ble_eq_true rfl)
  rw [lg_entry_eq]
  generalize (lg_sl ([.ref h0, .int p0]) ++ List.replicate (2 - (lg_sl ([.ref h0, .int p0])).length) Slot.unset).toArray = ls at hl ⊢
  have hl : lv_has ls 2 [(0, .ref h0), (1, .int p0)] := hl
  refine lv_iload_n hx hb dX2_isTold_0 rfl (lv_at hl 1 rfl) ?_
  refine lv_if_lt (tgt := 23) hx hb dX2_isTold_1 (by decide +kernel) (fun c_1 => ?_) (fun c_1 => ?_)
  · refine lv_iconst (v := 0) hx hb dX2_isTold_23 (by decide +kernel) ?_
    have hP9 := hP.sub (ws' := [(h0, .inr (1, [.ref m_room, .ref m_keys, .ref m_known, .ref m_kind, .ref m_keySize, .ref m_valueSize, .ref m_most, .ref m_filled, .ref m_list, .ref m_recordSize, .ref m_state, .ref m_held, .int 0])), (m_known, .inl (cZ, 8, .inl (fun _ => 0)))]) [0, 1] rfl
    have hD9 := hD.sub (ws' := [(h0, .inr (1, [.ref m_room, .ref m_keys, .ref m_known, .ref m_kind, .ref m_keySize, .ref m_valueSize, .ref m_most, .ref m_filled, .ref m_list, .ref m_recordSize, .ref m_state, .ref m_held, .int 0])), (m_known, .inl (cZ, 8, .inl (fun _ => 0)))]) [0, 1] (by decide +kernel) rfl
    exact W.zret (v := 0) (ty := .boolean) hx hb hr rfl (fun t ht hW => ⟨⟨0, (), rfl, rfl, by rw [ht]; exact hP9, hD9⟩, hS.F ht⟩) hS.2.2 dX2_isTold_24
  · refine lv_iload_n hx hb dX2_isTold_4 rfl (lv_at hl 1 rfl) ?_
    refine lv_bipush (v := 8) hx hb dX2_isTold_5 (by decide +kernel) ?_
    refine lv_icmp_ge (tgt := 23) hx hb dX2_isTold_7 (by decide +kernel) (fun c_2 => ?_) (fun c_2 => ?_)
    · refine lv_iconst (v := 0) hx hb dX2_isTold_23 (by decide +kernel) ?_
      have hP9 := hP.sub (ws' := [(h0, .inr (1, [.ref m_room, .ref m_keys, .ref m_known, .ref m_kind, .ref m_keySize, .ref m_valueSize, .ref m_most, .ref m_filled, .ref m_list, .ref m_recordSize, .ref m_state, .ref m_held, .int 0])), (m_known, .inl (cZ, 8, .inl (fun _ => 0)))]) [0, 1] rfl
      have hD9 := hD.sub (ws' := [(h0, .inr (1, [.ref m_room, .ref m_keys, .ref m_known, .ref m_kind, .ref m_keySize, .ref m_valueSize, .ref m_most, .ref m_filled, .ref m_list, .ref m_recordSize, .ref m_state, .ref m_held, .int 0])), (m_known, .inl (cZ, 8, .inl (fun _ => 0)))]) [0, 1] (by decide +kernel) rfl
      exact W.zret (v := 0) (ty := .boolean) hx hb hr rfl (fun t ht hW => ⟨⟨0, (), rfl, rfl, by rw [ht]; exact hP9, hD9⟩, hS.F ht⟩) hS.2.2 dX2_isTold_24
    · refine lv_aload_n hx hb dX2_isTold_10 rfl (lv_at hl 0 rfl) ?_
      refine va_get (D := (dC, dI)) (ci := 1) (v := .ref m_known) (C := RX2) (T := TX2) (N := 13) hx hb hts zz_in_zm_isTold_X2 hown hK hP 0 rfl rfl 2 (by decide +kernel) (hts (.fieldLink RX2 18 "FilterHouse$Maps" "known" "[Z") (List.mem_of_getElem? (i := 1) rfl)) (fun _ h9 => h9) rfl dX2_isTold_11 ?_
      refine lv_iload_n hx hb dX2_isTold_14 rfl (lv_at hl 1 rfl) ?_
      refine va_zald hx hb hK hP 1 3 rfl rfl (vp_in_iff.mpr (by have qc_1 := mt (fa_lt _ _).mpr c_1; have qc_2 := mt (fa_le _ _).mpr c_2; have k0 : (0 : Int32).toInt = 0 := rfl; have k8 : (8 : Int32).toInt = 8 := rfl; omega)) dX2_isTold_15 ?_
      refine lv_topi (fun f_3 ef_3 => ?_)
      obtain rfl : f_3 = 0 := ef_3
      refine lv_if_eq (tgt := 23) hx hb dX2_isTold_16 (by decide +kernel) (fun c_4 => ?_) (fun c_4 => ?_)
      · refine lv_iconst (v := 0) hx hb dX2_isTold_23 (by decide +kernel) ?_
        have hP9 := hP.sub (ws' := [(h0, .inr (1, [.ref m_room, .ref m_keys, .ref m_known, .ref m_kind, .ref m_keySize, .ref m_valueSize, .ref m_most, .ref m_filled, .ref m_list, .ref m_recordSize, .ref m_state, .ref m_held, .int 0])), (m_known, .inl (cZ, 8, .inl (fun _ => 0)))]) [0, 1] rfl
        have hD9 := hD.sub (ws' := [(h0, .inr (1, [.ref m_room, .ref m_keys, .ref m_known, .ref m_kind, .ref m_keySize, .ref m_valueSize, .ref m_most, .ref m_filled, .ref m_list, .ref m_recordSize, .ref m_state, .ref m_held, .int 0])), (m_known, .inl (cZ, 8, .inl (fun _ => 0)))]) [0, 1] (by decide +kernel) rfl
        exact W.zret (v := 0) (ty := .boolean) hx hb hr rfl (fun t ht hW => ⟨⟨0, (), rfl, rfl, by rw [ht]; exact hP9, hD9⟩, hS.F ht⟩) hS.2.2 dX2_isTold_24
      · exact absurd c_4 (by decide +kernel)
def zw_zm_isKind : List Cond := .code yX2_isKind cX2_isKind 3 (some .boolean) :: ([.fieldLink RX2 18 "FilterHouse$Maps" "known" "[Z", .code yX2_isTold cX2_isTold 2 (some .boolean), .methodLink RX2 54 yX2_isTold, .instanceMethod yX2_isTold, .selects RX2 yX2_isTold yX2_isTold, .initialized RX2] ++ (wsX20 ++ []))
theorem zz_in_zm_isKind_X2 : ∀ w ∈ wsX20, w ∈ zw_zm_isKind := fun w h => List.mem_cons_of_mem _ (List.mem_append_right _ (List.mem_append_left _ h))
set_option maxRecDepth 20000 in
theorem zz_g_zm_isKind_zm_isTold : GoodIn zw_zm_isKind zw_zm_isTold := goodIn_ca (goodIn_r ([.code yX2_isTold cX2_isTold 2 (some .boolean), .fieldLink RX2 18 "FilterHouse$Maps" "known" "[Z"]) [2, 1] rfl (by decide +kernel)) (goodIn_app (goodIn_sub zz_in_zm_isKind_X2 zz_gw_X2) (goodIn_sub (fun _ h => absurd h List.not_mem_nil) rfl))
set_option maxHeartbeats 1000000 in
set_option maxRecDepth 100000 in
/-- zm_isKind -/
theorem zm_isKind (l : Launch) (dC : Nat → ClassId) (dI : Nat → Nat → Nat) (cB cI cJ cZ : ClassId) (h0 m_known m_room m_keys m_kind m_keySize m_valueSize m_most m_filled m_list m_recordSize m_state m_held : Nat) (sz : Nat) (p0 : Int32) (p1 : Int32) : Met l yX2_isKind zw_zm_isKind ({ frames := 1, cells := 0, slots := 0, locals := 21 }) (va_Pc [.ref h0, .int p0, .int p1] (fun U => U.heap.size = sz ∧ va_P (dC, dI) zz_cl [(h0, .inr (1, [.ref m_room, .ref m_keys, .ref m_known, .ref m_kind, .ref m_keySize, .ref m_valueSize, .ref m_most, .ref m_filled, .ref m_list, .ref m_recordSize, .ref m_state, .ref m_held, .int 0])), (m_known, .inl (cZ, 8, .inl (fun _ => 0)))] U.heap ∧ va_K (dC, dI) zz_cl [(cB, .byte), (cI, .int), (cJ, .long), (cZ, .boolean)] U ∧ va_D (fun _ => True) [(h0, .inr (1, [.ref m_room, .ref m_keys, .ref m_known, .ref m_kind, .ref m_keySize, .ref m_valueSize, .ref m_most, .ref m_filled, .ref m_list, .ref m_recordSize, .ref m_state, .ref m_held, .int 0])), (m_known, .inl (cZ, 8, .inl (fun _ => 0)))])) (va_Qi (fun (r : Int32) (_ : Unit) => r = 0) (fun (_ : Unit) _ => True) (va_A [(h0, .inr (1, [.ref m_room, .ref m_keys, .ref m_known, .ref m_kind, .ref m_keySize, .ref m_valueSize, .ref m_most, .ref m_filled, .ref m_list, .ref m_recordSize, .ref m_state, .ref m_held, .int 0])), (m_known, .inl (cZ, 8, .inl (fun _ => 0)))] sz)) 0 0 (va_A [(h0, .inr (1, [.ref m_room, .ref m_keys, .ref m_known, .ref m_kind, .ref m_keySize, .ref m_valueSize, .ref m_most, .ref m_filled, .ref m_list, .ref m_recordSize, .ref m_state, .ref m_held, .int 0])), (m_known, .inl (cZ, 8, .inl (fun _ => 0)))] sz) := by
  refine Met.ofW (cc := cX2_isKind) (maxL := 3) (ret := (some .boolean)) (by decide +kernel) rfl ?_
  intro p e s m args below meth c s₁ B hml hv
  obtain ⟨rfl, hsz, hP, hK, hD0⟩ := hv
  have hx := B.exec
  have hb := B.bytes
  have hr := B.returns
  have hts := atoms_spec (ws := zw_zm_isKind) B.pre
  have hown : s.vm.findClass RX2 = some m.cls := findClass_of_methodNamed B.named
  have hlocks := B.notSynchronized
  subst hsz
  have hD := hD0.self (sz := s.heap.size)
  generalize hAe : va_A [(h0, .inr (1, [.ref m_room, .ref m_keys, .ref m_known, .ref m_kind, .ref m_keySize, .ref m_valueSize, .ref m_most, .ref m_filled, .ref m_list, .ref m_recordSize, .ref m_state, .ref m_held, .int 0])), (m_known, .inl (cZ, 8, .inl (fun _ => 0)))] s.heap.size = A at hD ⊢
  have hA : ∀ q : Nat, s.heap.size ≤ q → A q := fun q h => by rw [← hAe]; exact Or.inr h
  have hS : va_S A s.heap s.heap [] := va_S.rf
  have hP : va_P (dC, dI) zz_cl [(h0, .inr (1, [.ref m_room, .ref m_keys, .ref m_known, .ref m_kind, .ref m_keySize, .ref m_valueSize, .ref m_most, .ref m_filled, .ref m_list, .ref m_recordSize, .ref m_state, .ref m_held, .int 0])), (m_known, .inl (cZ, 8, .inl (fun _ => 0)))] s.heap := hP
  have hl := lv_entry ([.ref h0, .int p0, .int p1]) (n := 3) (Nat.le_of_ble_eq_true rfl)
  rw [lg_entry_eq]
  generalize (lg_sl ([.ref h0, .int p0, .int p1]) ++ List.replicate (3 - (lg_sl ([.ref h0, .int p0, .int p1])).length) Slot.unset).toArray = ls at hl ⊢
  have hl : lv_has ls 3 [(0, .ref h0), (1, .int p0), (2, .int p1)] := hl
  refine lv_aload_n hx hb dX2_isKind_0 rfl (lv_at hl 0 rfl) ?_
  refine lv_iload_n hx hb dX2_isKind_1 rfl (lv_at hl 1 rfl) ?_
  have hPc := hP.sub (ws' := [(h0, .inr (1, [.ref m_room, .ref m_keys, .ref m_known, .ref m_kind, .ref m_keySize, .ref m_valueSize, .ref m_most, .ref m_filled, .ref m_list, .ref m_recordSize, .ref m_state, .ref m_held, .int 0])), (m_known, .inl (cZ, 8, .inl (fun _ => 0)))]) [0, 1] rfl
  have hDc := hD.sub (ws' := [(h0, .inr (1, [.ref m_room, .ref m_keys, .ref m_known, .ref m_kind, .ref m_keySize, .ref m_valueSize, .ref m_most, .ref m_filled, .ref m_list, .ref m_recordSize, .ref m_state, .ref m_held, .int 0])), (m_known, .inl (cZ, 8, .inl (fun _ => 0)))]) [0, 1] (by decide +kernel) rfl
  have hFc := va_free (wc := [(h0, .inr (1, [.ref m_room, .ref m_keys, .ref m_known, .ref m_kind, .ref m_keySize, .ref m_valueSize, .ref m_most, .ref m_filled, .ref m_list, .ref m_recordSize, .ref m_state, .ref m_held, .int 0])), (m_known, .inl (cZ, 8, .inl (fun _ => 0)))]) hD hS hA [0, 1] rfl
  refine va_calli (va_runV (As := [.int p0]) (rest := []) ⟨hx, hb, hml, hown, hts⟩ (zm_isTold l dC dI cB cI cJ cZ h0 m_known m_room m_keys m_kind m_keySize m_valueSize m_most m_filled m_list m_recordSize m_state m_held s.heap.size p0) (cwV 1 hts (goodIn_app (goodIn_r [.methodLink RX2 54 yX2_isTold, .instanceMethod yX2_isTold, .selects RX2 yX2_isTold yX2_isTold, .initialized RX2] [3, 4, 5, 6] rfl (by decide +kernel)) zz_g_zm_isKind_zm_isTold) rfl rfl rfl (by decide +kernel) ⟨Nat.le_of_ble_eq_true rfl, Nat.le_of_ble_eq_true rfl⟩) ⟨fun a U g mk q => by obtain ⟨q0, q1, qP, qK, qD⟩ := q; exact ⟨q0, q1, qP, va_K.moved (u := U) (U := U.calling g mk a) (Vm.Alike.refl U.vm) qK, qD⟩, va_recv hK hPc (ci := 1) (q0 := 0) rfl rfl, fun U hU hW => ⟨rfl, by rw [hU], by rw [hU]; exact hPc, va_K.moved hW.alike hK, hDc.weaken (fun _ _ _ _ => trivial)⟩⟩ rfl rfl hl.1 rfl (lv_room (Nat.le_of_ble_eq_true rfl)) dX2_isKind_2 ⟨Nat.le_of_ble_eq_true rfl, Nat.le_of_ble_eq_true rfl⟩) hS (fun q _ h => hFc q h) hFc (fun r_1 u_3 t H1 locs ht hvm hw_2 hB hz1 hk1 hS => ?_)
  obtain ⟨hP1, hD1⟩ := hB
  rw [ht] at hP1
  obtain ⟨hP, hD⟩ := va_join (wr := []) (w1 := [(h0, .inr (1, [.ref m_room, .ref m_keys, .ref m_known, .ref m_kind, .ref m_keySize, .ref m_valueSize, .ref m_most, .ref m_filled, .ref m_list, .ref m_recordSize, .ref m_state, .ref m_held, .int 0])), (m_known, .inl (cZ, 8, .inl (fun _ => 0)))]) hP hD [0, 1] [] rfl rfl (by decide +kernel) (by decide +kernel) hk1 hFc hP1 hD1
  generalize H1 = H at hP hS ⊢
  have hP : va_P (dC, dI) zz_cl [(h0, .inr (1, [.ref m_room, .ref m_keys, .ref m_known, .ref m_kind, .ref m_keySize, .ref m_valueSize, .ref m_most, .ref m_filled, .ref m_list, .ref m_recordSize, .ref m_state, .ref m_held, .int 0])), (m_known, .inl (cZ, 8, .inl (fun _ => 0)))] H := hP
  have hD : va_D A [(h0, .inr (1, [.ref m_room, .ref m_keys, .ref m_known, .ref m_kind, .ref m_keySize, .ref m_valueSize, .ref m_most, .ref m_filled, .ref m_list, .ref m_recordSize, .ref m_state, .ref m_held, .int 0])), (m_known, .inl (cZ, 8, .inl (fun _ => 0)))] := hD
  try dsimp only at hw_2
  obtain rfl : r_1 = (0 : Int32) := hw_2
  refine lv_if_eq (tgt := 22) hx hb dX2_isKind_5 (by decide +kernel) (fun c_4 => ?_) (fun c_4 => ?_)
  · refine lv_iconst (v := 0) hx hb dX2_isKind_22 (by decide +kernel) ?_
    exact W.zret (v := 0) (ty := .boolean) hx hb hr rfl (fun t ht hW => ⟨⟨0, (), rfl, rfl, trivial⟩, hS.F ht⟩) hS.2.2 dX2_isKind_23
  · exact absurd c_4 (by decide +kernel)
def zw_zm_isKeyed : List Cond := .code yX2_isKeyed cX2_isKeyed 2 (some .boolean) :: ([.fieldLink RX2 18 "FilterHouse$Maps" "known" "[Z", .code yX2_isTold cX2_isTold 2 (some .boolean), .methodLink RX2 54 yX2_isTold, .instanceMethod yX2_isTold, .selects RX2 yX2_isTold yX2_isTold, .initialized RX2] ++ (wsX20 ++ []))
theorem zz_in_zm_isKeyed_X2 : ∀ w ∈ wsX20, w ∈ zw_zm_isKeyed := fun w h => List.mem_cons_of_mem _ (List.mem_append_right _ (List.mem_append_left _ h))
set_option maxRecDepth 20000 in
theorem zz_g_zm_isKeyed_zm_isTold : GoodIn zw_zm_isKeyed zw_zm_isTold := goodIn_ca (goodIn_r ([.code yX2_isTold cX2_isTold 2 (some .boolean), .fieldLink RX2 18 "FilterHouse$Maps" "known" "[Z"]) [2, 1] rfl (by decide +kernel)) (goodIn_app (goodIn_sub zz_in_zm_isKeyed_X2 zz_gw_X2) (goodIn_sub (fun _ h => absurd h List.not_mem_nil) rfl))
set_option maxHeartbeats 1000000 in
set_option maxRecDepth 100000 in
/-- zm_isKeyed -/
theorem zm_isKeyed (l : Launch) (dC : Nat → ClassId) (dI : Nat → Nat → Nat) (cB cI cJ cZ : ClassId) (h0 m_known m_room m_keys m_kind m_keySize m_valueSize m_most m_filled m_list m_recordSize m_state m_held : Nat) (sz : Nat) (p0 : Int32) : Met l yX2_isKeyed zw_zm_isKeyed ({ frames := 1, cells := 0, slots := 0, locals := 21 }) (va_Pc [.ref h0, .int p0] (fun U => U.heap.size = sz ∧ va_P (dC, dI) zz_cl [(h0, .inr (1, [.ref m_room, .ref m_keys, .ref m_known, .ref m_kind, .ref m_keySize, .ref m_valueSize, .ref m_most, .ref m_filled, .ref m_list, .ref m_recordSize, .ref m_state, .ref m_held, .int 0])), (m_known, .inl (cZ, 8, .inl (fun _ => 0)))] U.heap ∧ va_K (dC, dI) zz_cl [(cB, .byte), (cI, .int), (cJ, .long), (cZ, .boolean)] U ∧ va_D (fun _ => True) [(h0, .inr (1, [.ref m_room, .ref m_keys, .ref m_known, .ref m_kind, .ref m_keySize, .ref m_valueSize, .ref m_most, .ref m_filled, .ref m_list, .ref m_recordSize, .ref m_state, .ref m_held, .int 0])), (m_known, .inl (cZ, 8, .inl (fun _ => 0)))])) (va_Qi (fun (r : Int32) (_ : Unit) => r = 0) (fun (_ : Unit) _ => True) (va_A [(h0, .inr (1, [.ref m_room, .ref m_keys, .ref m_known, .ref m_kind, .ref m_keySize, .ref m_valueSize, .ref m_most, .ref m_filled, .ref m_list, .ref m_recordSize, .ref m_state, .ref m_held, .int 0])), (m_known, .inl (cZ, 8, .inl (fun _ => 0)))] sz)) 0 0 (va_A [(h0, .inr (1, [.ref m_room, .ref m_keys, .ref m_known, .ref m_kind, .ref m_keySize, .ref m_valueSize, .ref m_most, .ref m_filled, .ref m_list, .ref m_recordSize, .ref m_state, .ref m_held, .int 0])), (m_known, .inl (cZ, 8, .inl (fun _ => 0)))] sz) := by
  refine Met.ofW (cc := cX2_isKeyed) (maxL := 2) (ret := (some .boolean)) (by decide +kernel) rfl ?_
  intro p e s m args below meth c s₁ B hml hv
  obtain ⟨rfl, hsz, hP, hK, hD0⟩ := hv
  have hx := B.exec
  have hb := B.bytes
  have hr := B.returns
  have hts := atoms_spec (ws := zw_zm_isKeyed) B.pre
  have hown : s.vm.findClass RX2 = some m.cls := findClass_of_methodNamed B.named
  have hlocks := B.notSynchronized
  subst hsz
  have hD := hD0.self (sz := s.heap.size)
  generalize hAe : va_A [(h0, .inr (1, [.ref m_room, .ref m_keys, .ref m_known, .ref m_kind, .ref m_keySize, .ref m_valueSize, .ref m_most, .ref m_filled, .ref m_list, .ref m_recordSize, .ref m_state, .ref m_held, .int 0])), (m_known, .inl (cZ, 8, .inl (fun _ => 0)))] s.heap.size = A at hD ⊢
  have hA : ∀ q : Nat, s.heap.size ≤ q → A q := fun q h => by rw [← hAe]; exact Or.inr h
  have hS : va_S A s.heap s.heap [] := va_S.rf
  have hP : va_P (dC, dI) zz_cl [(h0, .inr (1, [.ref m_room, .ref m_keys, .ref m_known, .ref m_kind, .ref m_keySize, .ref m_valueSize, .ref m_most, .ref m_filled, .ref m_list, .ref m_recordSize, .ref m_state, .ref m_held, .int 0])), (m_known, .inl (cZ, 8, .inl (fun _ => 0)))] s.heap := hP
  have hl := lv_entry ([.ref h0, .int p0]) (n := 2) (Nat.le_of_ble_eq_true rfl)
  rw [lg_entry_eq]
  generalize (lg_sl ([.ref h0, .int p0]) ++ List.replicate (2 - (lg_sl ([.ref h0, .int p0])).length) Slot.unset).toArray = ls at hl ⊢
  have hl : lv_has ls 2 [(0, .ref h0), (1, .int p0)] := hl
  refine lv_aload_n hx hb dX2_isKeyed_0 rfl (lv_at hl 0 rfl) ?_
  refine lv_iload_n hx hb dX2_isKeyed_1 rfl (lv_at hl 1 rfl) ?_
  have hPc := hP.sub (ws' := [(h0, .inr (1, [.ref m_room, .ref m_keys, .ref m_known, .ref m_kind, .ref m_keySize, .ref m_valueSize, .ref m_most, .ref m_filled, .ref m_list, .ref m_recordSize, .ref m_state, .ref m_held, .int 0])), (m_known, .inl (cZ, 8, .inl (fun _ => 0)))]) [0, 1] rfl
  have hDc := hD.sub (ws' := [(h0, .inr (1, [.ref m_room, .ref m_keys, .ref m_known, .ref m_kind, .ref m_keySize, .ref m_valueSize, .ref m_most, .ref m_filled, .ref m_list, .ref m_recordSize, .ref m_state, .ref m_held, .int 0])), (m_known, .inl (cZ, 8, .inl (fun _ => 0)))]) [0, 1] (by decide +kernel) rfl
  have hFc := va_free (wc := [(h0, .inr (1, [.ref m_room, .ref m_keys, .ref m_known, .ref m_kind, .ref m_keySize, .ref m_valueSize, .ref m_most, .ref m_filled, .ref m_list, .ref m_recordSize, .ref m_state, .ref m_held, .int 0])), (m_known, .inl (cZ, 8, .inl (fun _ => 0)))]) hD hS hA [0, 1] rfl
  refine va_calli (va_runV (As := [.int p0]) (rest := []) ⟨hx, hb, hml, hown, hts⟩ (zm_isTold l dC dI cB cI cJ cZ h0 m_known m_room m_keys m_kind m_keySize m_valueSize m_most m_filled m_list m_recordSize m_state m_held s.heap.size p0) (cwV 1 hts (goodIn_app (goodIn_r [.methodLink RX2 54 yX2_isTold, .instanceMethod yX2_isTold, .selects RX2 yX2_isTold yX2_isTold, .initialized RX2] [3, 4, 5, 6] rfl (by decide +kernel)) zz_g_zm_isKeyed_zm_isTold) rfl rfl rfl (by decide +kernel) ⟨Nat.le_of_ble_eq_true rfl, Nat.le_of_ble_eq_true rfl⟩) ⟨fun a U g mk q => by obtain ⟨q0, q1, qP, qK, qD⟩ := q; exact ⟨q0, q1, qP, va_K.moved (u := U) (U := U.calling g mk a) (Vm.Alike.refl U.vm) qK, qD⟩, va_recv hK hPc (ci := 1) (q0 := 0) rfl rfl, fun U hU hW => ⟨rfl, by rw [hU], by rw [hU]; exact hPc, va_K.moved hW.alike hK, hDc.weaken (fun _ _ _ _ => trivial)⟩⟩ rfl rfl hl.1 rfl (lv_room (Nat.le_of_ble_eq_true rfl)) dX2_isKeyed_2 ⟨Nat.le_of_ble_eq_true rfl, Nat.le_of_ble_eq_true rfl⟩) hS (fun q _ h => hFc q h) hFc (fun r_1 u_3 t H1 locs ht hvm hw_2 hB hz1 hk1 hS => ?_)
  obtain ⟨hP1, hD1⟩ := hB
  rw [ht] at hP1
  obtain ⟨hP, hD⟩ := va_join (wr := []) (w1 := [(h0, .inr (1, [.ref m_room, .ref m_keys, .ref m_known, .ref m_kind, .ref m_keySize, .ref m_valueSize, .ref m_most, .ref m_filled, .ref m_list, .ref m_recordSize, .ref m_state, .ref m_held, .int 0])), (m_known, .inl (cZ, 8, .inl (fun _ => 0)))]) hP hD [0, 1] [] rfl rfl (by decide +kernel) (by decide +kernel) hk1 hFc hP1 hD1
  generalize H1 = H at hP hS ⊢
  have hP : va_P (dC, dI) zz_cl [(h0, .inr (1, [.ref m_room, .ref m_keys, .ref m_known, .ref m_kind, .ref m_keySize, .ref m_valueSize, .ref m_most, .ref m_filled, .ref m_list, .ref m_recordSize, .ref m_state, .ref m_held, .int 0])), (m_known, .inl (cZ, 8, .inl (fun _ => 0)))] H := hP
  have hD : va_D A [(h0, .inr (1, [.ref m_room, .ref m_keys, .ref m_known, .ref m_kind, .ref m_keySize, .ref m_valueSize, .ref m_most, .ref m_filled, .ref m_list, .ref m_recordSize, .ref m_state, .ref m_held, .int 0])), (m_known, .inl (cZ, 8, .inl (fun _ => 0)))] := hD
  try dsimp only at hw_2
  obtain rfl : r_1 = (0 : Int32) := hw_2
  refine lv_if_eq (tgt := 31) hx hb dX2_isKeyed_5 (by decide +kernel) (fun c_4 => ?_) (fun c_4 => ?_)
  · refine lv_iconst (v := 0) hx hb dX2_isKeyed_31 (by decide +kernel) ?_
    exact W.zret (v := 0) (ty := .boolean) hx hb hr rfl (fun t ht hW => ⟨⟨0, (), rfl, rfl, trivial⟩, hS.F ht⟩) hS.2.2 dX2_isKeyed_32
  · exact absurd c_4 (by decide +kernel)
def zw_zm_put : List Cond := .code yX11_put cX11_put 4 (some .int) :: ([.fieldLink RX11 13 "FilterHouse" "tapeSize" "I", .code yX11_useTape cX11_useTape 2 (some .int), .methodLink RX11 67 yX11_useTape, .instanceMethod yX11_useTape, .selects RX11 yX11_useTape yX11_useTape, .initialized RX11, .fieldLink RX11 41 "FilterHouse" "maps" "LFilterHouse$Maps;", .fieldLink RX2 18 "FilterHouse$Maps" "known" "[Z", .code yX2_isTold cX2_isTold 2 (some .boolean), .methodLink RX2 54 yX2_isTold, .instanceMethod yX2_isTold, .selects RX2 yX2_isTold yX2_isTold, .initialized RX2, .code yX2_isKeyed cX2_isKeyed 2 (some .boolean), .methodLink RX11 141 yX2_isKeyed, .instanceMethod yX2_isKeyed, .selects RX2 yX2_isKeyed yX2_isKeyed] ++ (wsX110 ++ (wsX20 ++ [])))
theorem zz_in_zm_put_X11 : ∀ w ∈ wsX110, w ∈ zw_zm_put := fun w h => List.mem_cons_of_mem _ (List.mem_append_right _ (List.mem_append_left _ h))
theorem zz_in_zm_put_X2 : ∀ w ∈ wsX20, w ∈ zw_zm_put := fun w h => List.mem_cons_of_mem _ (List.mem_append_right _ (List.mem_append_right _ (List.mem_append_left _ h)))
set_option maxRecDepth 20000 in
theorem zz_g_zm_put_zm_useTape : GoodIn zw_zm_put zw_zm_useTape := goodIn_ca (goodIn_r ([.code yX11_useTape cX11_useTape 2 (some .int), .fieldLink RX11 13 "FilterHouse" "tapeSize" "I"]) [2, 1] rfl (by decide +kernel)) (goodIn_app (goodIn_sub zz_in_zm_put_X11 zz_gw_X11) (goodIn_sub (fun _ h => absurd h List.not_mem_nil) rfl))
set_option maxRecDepth 20000 in
theorem zz_g_zm_put_zm_isKeyed : GoodIn zw_zm_put zw_zm_isKeyed := goodIn_ca (goodIn_r ([.code yX2_isKeyed cX2_isKeyed 2 (some .boolean), .fieldLink RX2 18 "FilterHouse$Maps" "known" "[Z", .code yX2_isTold cX2_isTold 2 (some .boolean), .methodLink RX2 54 yX2_isTold, .instanceMethod yX2_isTold, .selects RX2 yX2_isTold yX2_isTold, .initialized RX2]) [14, 8, 9, 10, 11, 12, 13] rfl (by decide +kernel)) (goodIn_app (goodIn_sub zz_in_zm_put_X2 zz_gw_X2) (goodIn_sub (fun _ h => absurd h List.not_mem_nil) rfl))
set_option maxHeartbeats 1000000 in
set_option maxRecDepth 100000 in
/-- zm_put -/
theorem zm_put (l : Launch) (dC : Nat → ClassId) (dI : Nat → Nat → Nat) (cB cI cJ cZ : ClassId) (h0 h5 m_known h1 h2 h3 h4 h6 h7 m_room m_keys m_kind m_keySize m_valueSize m_most m_filled m_list m_recordSize m_state m_held : Nat) (sz : Nat) (p0 : Int32) (p1 : Int32) : Met l yX11_put zw_zm_put ({ frames := 2, cells := 0, slots := 0, locals := 42 }) (va_Pc [.ref h0, .int p0, .int p1] (fun U => U.heap.size = sz ∧ va_P (dC, dI) zz_cl [(h0, .inr (10, [.ref h1, .int 0, .ref h2, .ref h3, .ref h4, .ref h5, .ref h6, .ref h7])), (h5, .inr (1, [.ref m_room, .ref m_keys, .ref m_known, .ref m_kind, .ref m_keySize, .ref m_valueSize, .ref m_most, .ref m_filled, .ref m_list, .ref m_recordSize, .ref m_state, .ref m_held, .int 0])), (m_known, .inl (cZ, 8, .inl (fun _ => 0)))] U.heap ∧ va_K (dC, dI) zz_cl [(cB, .byte), (cI, .int), (cJ, .long), (cZ, .boolean)] U ∧ va_D (fun _ => True) [(h0, .inr (10, [.ref h1, .int 0, .ref h2, .ref h3, .ref h4, .ref h5, .ref h6, .ref h7])), (h5, .inr (1, [.ref m_room, .ref m_keys, .ref m_known, .ref m_kind, .ref m_keySize, .ref m_valueSize, .ref m_most, .ref m_filled, .ref m_list, .ref m_recordSize, .ref m_state, .ref m_held, .int 0])), (m_known, .inl (cZ, 8, .inl (fun _ => 0)))])) (va_Qi (fun (r : Int32) (_ : Unit) => r = (-1)) (fun (_ : Unit) _ => True) (va_A [(h0, .inr (10, [.ref h1, .int 0, .ref h2, .ref h3, .ref h4, .ref h5, .ref h6, .ref h7])), (h5, .inr (1, [.ref m_room, .ref m_keys, .ref m_known, .ref m_kind, .ref m_keySize, .ref m_valueSize, .ref m_most, .ref m_filled, .ref m_list, .ref m_recordSize, .ref m_state, .ref m_held, .int 0])), (m_known, .inl (cZ, 8, .inl (fun _ => 0)))] sz)) 0 0 (va_A [(h0, .inr (10, [.ref h1, .int 0, .ref h2, .ref h3, .ref h4, .ref h5, .ref h6, .ref h7])), (h5, .inr (1, [.ref m_room, .ref m_keys, .ref m_known, .ref m_kind, .ref m_keySize, .ref m_valueSize, .ref m_most, .ref m_filled, .ref m_list, .ref m_recordSize, .ref m_state, .ref m_held, .int 0])), (m_known, .inl (cZ, 8, .inl (fun _ => 0)))] sz) := by
  refine Met.ofW (cc := cX11_put) (maxL := 4) (ret := (some .int)) (by decide +kernel) rfl ?_
  intro p e s m args below meth c s₁ B hml hv
  obtain ⟨rfl, hsz, hP, hK, hD0⟩ := hv
  have hx := B.exec
  have hb := B.bytes
  have hr := B.returns
  have hts := atoms_spec (ws := zw_zm_put) B.pre
  have hown : s.vm.findClass RX11 = some m.cls := findClass_of_methodNamed B.named
  have hlocks := B.notSynchronized
  subst hsz
  have hD := hD0.self (sz := s.heap.size)
  generalize hAe : va_A [(h0, .inr (10, [.ref h1, .int 0, .ref h2, .ref h3, .ref h4, .ref h5, .ref h6, .ref h7])), (h5, .inr (1, [.ref m_room, .ref m_keys, .ref m_known, .ref m_kind, .ref m_keySize, .ref m_valueSize, .ref m_most, .ref m_filled, .ref m_list, .ref m_recordSize, .ref m_state, .ref m_held, .int 0])), (m_known, .inl (cZ, 8, .inl (fun _ => 0)))] s.heap.size = A at hD ⊢
  have hA : ∀ q : Nat, s.heap.size ≤ q → A q := fun q h => by rw [← hAe]; exact Or.inr h
  have hS : va_S A s.heap s.heap [] := va_S.rf
  have hP : va_P (dC, dI) zz_cl [(h0, .inr (10, [.ref h1, .int 0, .ref h2, .ref h3, .ref h4, .ref h5, .ref h6, .ref h7])), (h5, .inr (1, [.ref m_room, .ref m_keys, .ref m_known, .ref m_kind, .ref m_keySize, .ref m_valueSize, .ref m_most, .ref m_filled, .ref m_list, .ref m_recordSize, .ref m_state, .ref m_held, .int 0])), (m_known, .inl (cZ, 8, .inl (fun _ => 0)))] s.heap := hP
  have hl := lv_entry ([.ref h0, .int p0, .int p1]) (n := 4) (Nat.le_of_ble_eq_true rfl)
  rw [lg_entry_eq]
  generalize (lg_sl ([.ref h0, .int p0, .int p1]) ++ List.replicate (4 - (lg_sl ([.ref h0, .int p0, .int p1])).length) Slot.unset).toArray = ls at hl ⊢
  have hl : lv_has ls 4 [(0, .ref h0), (1, .int p0), (2, .int p1)] := hl
  refine lv_aload_n hx hb dX11_put_0 rfl (lv_at hl 0 rfl) ?_
  have hPc := hP.sub (ws' := [(h0, .inr (10, [.ref h1, .int 0, .ref h2, .ref h3, .ref h4, .ref h5, .ref h6, .ref h7]))]) [0] rfl
  have hDc := hD.sub (ws' := [(h0, .inr (10, [.ref h1, .int 0, .ref h2, .ref h3, .ref h4, .ref h5, .ref h6, .ref h7]))]) [0] (by decide +kernel) rfl
  have hFc := va_free (wc := [(h0, .inr (10, [.ref h1, .int 0, .ref h2, .ref h3, .ref h4, .ref h5, .ref h6, .ref h7]))]) hD hS hA [0] rfl
  refine va_calli (va_runV (As := []) (rest := []) ⟨hx, hb, hml, hown, hts⟩ (zm_useTape l dC dI cB cI cJ cZ h0 h1 h2 h3 h4 h5 h6 h7 s.heap.size) (cwV 0 hts (goodIn_app (goodIn_r [.methodLink RX11 67 yX11_useTape, .instanceMethod yX11_useTape, .selects RX11 yX11_useTape yX11_useTape, .initialized RX11] [3, 4, 5, 6] rfl (by decide +kernel)) zz_g_zm_put_zm_useTape) rfl rfl rfl (by decide +kernel) ⟨Nat.le_of_ble_eq_true rfl, Nat.le_of_ble_eq_true rfl⟩) ⟨fun a U g mk q => by obtain ⟨q0, q1, qP, qK, qD⟩ := q; exact ⟨q0, q1, qP, va_K.moved (u := U) (U := U.calling g mk a) (Vm.Alike.refl U.vm) qK, qD⟩, va_recv hK hPc (ci := 10) (q0 := 0) rfl rfl, fun U hU hW => ⟨rfl, by rw [hU], by rw [hU]; exact hPc, va_K.moved hW.alike hK, hDc.weaken (fun _ _ _ _ => trivial)⟩⟩ rfl rfl hl.1 rfl (lv_room (Nat.le_of_ble_eq_true rfl)) dX11_put_1 ⟨Nat.le_of_ble_eq_true rfl, Nat.le_of_ble_eq_true rfl⟩) hS (fun q _ h => hFc q h) hFc (fun r_1 u_3 t H1 locs ht hvm hw_2 hB hz1 hk1 hS => ?_)
  obtain ⟨hP1, hD1⟩ := hB
  rw [ht] at hP1
  obtain ⟨hP, hD⟩ := va_join (wr := [(h5, .inr (1, [.ref m_room, .ref m_keys, .ref m_known, .ref m_kind, .ref m_keySize, .ref m_valueSize, .ref m_most, .ref m_filled, .ref m_list, .ref m_recordSize, .ref m_state, .ref m_held, .int 0])), (m_known, .inl (cZ, 8, .inl (fun _ => 0)))]) (w1 := [(h0, .inr (10, [.ref h1, .int 0, .ref h2, .ref h3, .ref h4, .ref h5, .ref h6, .ref h7]))]) hP hD [0] [1, 2] rfl rfl (by decide +kernel) (by decide +kernel) hk1 hFc hP1 hD1
  generalize H1 = H at hP hS ⊢
  have hP : va_P (dC, dI) zz_cl [(h5, .inr (1, [.ref m_room, .ref m_keys, .ref m_known, .ref m_kind, .ref m_keySize, .ref m_valueSize, .ref m_most, .ref m_filled, .ref m_list, .ref m_recordSize, .ref m_state, .ref m_held, .int 0])), (m_known, .inl (cZ, 8, .inl (fun _ => 0))), (h0, .inr (10, [.ref h1, .int 0, .ref h2, .ref h3, .ref h4, .ref h5, .ref h6, .ref h7]))] H := hP
  have hD : va_D A [(h5, .inr (1, [.ref m_room, .ref m_keys, .ref m_known, .ref m_kind, .ref m_keySize, .ref m_valueSize, .ref m_most, .ref m_filled, .ref m_list, .ref m_recordSize, .ref m_state, .ref m_held, .int 0])), (m_known, .inl (cZ, 8, .inl (fun _ => 0))), (h0, .inr (10, [.ref h1, .int 0, .ref h2, .ref h3, .ref h4, .ref h5, .ref h6, .ref h7]))] := hD
  try dsimp only at hw_2
  obtain rfl : r_1 = (0 : Int32) := hw_2
  refine lv_istore_n (lv' := [(3, .int 0), (0, .ref h0), (1, .int p0), (2, .int p1)]) hx hb dX11_put_4 rfl hl (by decide +kernel) rfl (fun ls hl => ?_)
  refine lv_aload_n hx hb dX11_put_5 rfl (lv_at hl 1 rfl) ?_
  refine va_get (D := (dC, dI)) (ci := 10) (v := .ref h5) (C := RX11) (T := TX11) (N := 8) hx hb hts zz_in_zm_put_X11 hown hK hP 2 rfl rfl 5 (by decide +kernel) (hts (.fieldLink RX11 41 "FilterHouse" "maps" "LFilterHouse$Maps;") (List.mem_of_getElem? (i := 7) rfl)) (fun _ h9 => h9) rfl dX11_put_6 ?_
  refine lv_iload_n hx hb dX11_put_9 rfl (lv_at hl 2 rfl) ?_
  have hPc := hP.sub (ws' := [(h5, .inr (1, [.ref m_room, .ref m_keys, .ref m_known, .ref m_kind, .ref m_keySize, .ref m_valueSize, .ref m_most, .ref m_filled, .ref m_list, .ref m_recordSize, .ref m_state, .ref m_held, .int 0])), (m_known, .inl (cZ, 8, .inl (fun _ => 0)))]) [0, 1] rfl
  have hDc := hD.sub (ws' := [(h5, .inr (1, [.ref m_room, .ref m_keys, .ref m_known, .ref m_kind, .ref m_keySize, .ref m_valueSize, .ref m_most, .ref m_filled, .ref m_list, .ref m_recordSize, .ref m_state, .ref m_held, .int 0])), (m_known, .inl (cZ, 8, .inl (fun _ => 0)))]) [0, 1] (by decide +kernel) rfl
  have hFc := va_free (wc := [(h5, .inr (1, [.ref m_room, .ref m_keys, .ref m_known, .ref m_kind, .ref m_keySize, .ref m_valueSize, .ref m_most, .ref m_filled, .ref m_list, .ref m_recordSize, .ref m_state, .ref m_held, .int 0])), (m_known, .inl (cZ, 8, .inl (fun _ => 0)))]) hD hS hA [0, 1] rfl
  refine va_calli (va_runV (As := [.int p0]) (rest := []) ⟨hx, hb, hml, hown, hts⟩ (zm_isKeyed l dC dI cB cI cJ cZ h5 m_known m_room m_keys m_kind m_keySize m_valueSize m_most m_filled m_list m_recordSize m_state m_held H.size p0) (cwV 1 hts (goodIn_app (goodIn_r [.methodLink RX11 141 yX2_isKeyed, .instanceMethod yX2_isKeyed, .selects RX2 yX2_isKeyed yX2_isKeyed, .initialized RX2] [15, 16, 17, 13] rfl (by decide +kernel)) zz_g_zm_put_zm_isKeyed) rfl rfl rfl (by decide +kernel) ⟨Nat.le_of_ble_eq_true rfl, Nat.le_of_ble_eq_true rfl⟩) ⟨fun a U g mk q => by obtain ⟨q0, q1, qP, qK, qD⟩ := q; exact ⟨q0, q1, qP, va_K.moved (u := U) (U := U.calling g mk a) (Vm.Alike.refl U.vm) qK, qD⟩, va_recv hK hPc (ci := 1) (q0 := 0) rfl rfl, fun U hU hW => ⟨rfl, by rw [hU], by rw [hU]; exact hPc, va_K.moved hW.alike hK, hDc.weaken (fun _ _ _ _ => trivial)⟩⟩ rfl rfl hl.1 rfl (lv_room (Nat.le_of_ble_eq_true rfl)) dX11_put_10 ⟨Nat.le_of_ble_eq_true rfl, Nat.le_of_ble_eq_true rfl⟩) hS (fun q _ h => hFc q h) hFc (fun r_4 u_6 t H1 locs ht hvm hw_5 hB hz1 hk1 hS => ?_)
  obtain ⟨hP, hD⟩ := va_join (wr := [(h0, .inr (10, [.ref h1, .int 0, .ref h2, .ref h3, .ref h4, .ref h5, .ref h6, .ref h7]))]) (w1 := []) hP hD [0, 1] [2] rfl rfl (by decide +kernel) (by decide +kernel) hk1 hFc zz_P0 zz_D0
  generalize H1 = H at hP hS ⊢
  have hP : va_P (dC, dI) zz_cl [(h0, .inr (10, [.ref h1, .int 0, .ref h2, .ref h3, .ref h4, .ref h5, .ref h6, .ref h7]))] H := hP
  have hD : va_D A [(h0, .inr (10, [.ref h1, .int 0, .ref h2, .ref h3, .ref h4, .ref h5, .ref h6, .ref h7]))] := hD
  try dsimp only at hw_5
  obtain rfl : r_4 = (0 : Int32) := hw_5
  refine lv_if_eq (tgt := 39) hx hb dX11_put_13 (by decide +kernel) (fun c_7 => ?_) (fun c_7 => ?_)
  · refine lv_iconst (v := (-1)) hx hb dX11_put_39 (by decide +kernel) ?_
    exact W.iret (v := (-1)) hx hb hr (fun t ht hW => ⟨⟨(-1), (), rfl, rfl, trivial⟩, hS.F ht⟩) hS.2.2 dX11_put_40
  · exact absurd c_7 (by decide +kernel)
def zw_zm_get : List Cond := .code yX11_get cX11_get 4 (some .int) :: ([.fieldLink RX11 13 "FilterHouse" "tapeSize" "I", .code yX11_useTape cX11_useTape 2 (some .int), .methodLink RX11 67 yX11_useTape, .instanceMethod yX11_useTape, .selects RX11 yX11_useTape yX11_useTape, .initialized RX11, .fieldLink RX11 41 "FilterHouse" "maps" "LFilterHouse$Maps;", .fieldLink RX2 18 "FilterHouse$Maps" "known" "[Z", .code yX2_isTold cX2_isTold 2 (some .boolean), .methodLink RX2 54 yX2_isTold, .instanceMethod yX2_isTold, .selects RX2 yX2_isTold yX2_isTold, .initialized RX2, .code yX2_isKeyed cX2_isKeyed 2 (some .boolean), .methodLink RX11 141 yX2_isKeyed, .instanceMethod yX2_isKeyed, .selects RX2 yX2_isKeyed yX2_isKeyed] ++ (wsX110 ++ (wsX20 ++ [])))
theorem zz_in_zm_get_X11 : ∀ w ∈ wsX110, w ∈ zw_zm_get := fun w h => List.mem_cons_of_mem _ (List.mem_append_right _ (List.mem_append_left _ h))
theorem zz_in_zm_get_X2 : ∀ w ∈ wsX20, w ∈ zw_zm_get := fun w h => List.mem_cons_of_mem _ (List.mem_append_right _ (List.mem_append_right _ (List.mem_append_left _ h)))
set_option maxRecDepth 20000 in
theorem zz_g_zm_get_zm_useTape : GoodIn zw_zm_get zw_zm_useTape := goodIn_ca (goodIn_r ([.code yX11_useTape cX11_useTape 2 (some .int), .fieldLink RX11 13 "FilterHouse" "tapeSize" "I"]) [2, 1] rfl (by decide +kernel)) (goodIn_app (goodIn_sub zz_in_zm_get_X11 zz_gw_X11) (goodIn_sub (fun _ h => absurd h List.not_mem_nil) rfl))
set_option maxRecDepth 20000 in
theorem zz_g_zm_get_zm_isKeyed : GoodIn zw_zm_get zw_zm_isKeyed := goodIn_ca (goodIn_r ([.code yX2_isKeyed cX2_isKeyed 2 (some .boolean), .fieldLink RX2 18 "FilterHouse$Maps" "known" "[Z", .code yX2_isTold cX2_isTold 2 (some .boolean), .methodLink RX2 54 yX2_isTold, .instanceMethod yX2_isTold, .selects RX2 yX2_isTold yX2_isTold, .initialized RX2]) [14, 8, 9, 10, 11, 12, 13] rfl (by decide +kernel)) (goodIn_app (goodIn_sub zz_in_zm_get_X2 zz_gw_X2) (goodIn_sub (fun _ h => absurd h List.not_mem_nil) rfl))
set_option maxHeartbeats 1000000 in
set_option maxRecDepth 100000 in
/-- zm_get -/
theorem zm_get (l : Launch) (dC : Nat → ClassId) (dI : Nat → Nat → Nat) (cB cI cJ cZ : ClassId) (h0 h5 m_known h1 h2 h3 h4 h6 h7 m_room m_keys m_kind m_keySize m_valueSize m_most m_filled m_list m_recordSize m_state m_held : Nat) (sz : Nat) (p0 : Int32) : Met l yX11_get zw_zm_get ({ frames := 2, cells := 0, slots := 0, locals := 42 }) (va_Pc [.ref h0, .int p0] (fun U => U.heap.size = sz ∧ va_P (dC, dI) zz_cl [(h0, .inr (10, [.ref h1, .int 0, .ref h2, .ref h3, .ref h4, .ref h5, .ref h6, .ref h7])), (h5, .inr (1, [.ref m_room, .ref m_keys, .ref m_known, .ref m_kind, .ref m_keySize, .ref m_valueSize, .ref m_most, .ref m_filled, .ref m_list, .ref m_recordSize, .ref m_state, .ref m_held, .int 0])), (m_known, .inl (cZ, 8, .inl (fun _ => 0)))] U.heap ∧ va_K (dC, dI) zz_cl [(cB, .byte), (cI, .int), (cJ, .long), (cZ, .boolean)] U ∧ va_D (fun _ => True) [(h0, .inr (10, [.ref h1, .int 0, .ref h2, .ref h3, .ref h4, .ref h5, .ref h6, .ref h7])), (h5, .inr (1, [.ref m_room, .ref m_keys, .ref m_known, .ref m_kind, .ref m_keySize, .ref m_valueSize, .ref m_most, .ref m_filled, .ref m_list, .ref m_recordSize, .ref m_state, .ref m_held, .int 0])), (m_known, .inl (cZ, 8, .inl (fun _ => 0)))])) (va_Qi (fun (r : Int32) (_ : Unit) => r = (-1)) (fun (_ : Unit) _ => True) (va_A [(h0, .inr (10, [.ref h1, .int 0, .ref h2, .ref h3, .ref h4, .ref h5, .ref h6, .ref h7])), (h5, .inr (1, [.ref m_room, .ref m_keys, .ref m_known, .ref m_kind, .ref m_keySize, .ref m_valueSize, .ref m_most, .ref m_filled, .ref m_list, .ref m_recordSize, .ref m_state, .ref m_held, .int 0])), (m_known, .inl (cZ, 8, .inl (fun _ => 0)))] sz)) 0 0 (va_A [(h0, .inr (10, [.ref h1, .int 0, .ref h2, .ref h3, .ref h4, .ref h5, .ref h6, .ref h7])), (h5, .inr (1, [.ref m_room, .ref m_keys, .ref m_known, .ref m_kind, .ref m_keySize, .ref m_valueSize, .ref m_most, .ref m_filled, .ref m_list, .ref m_recordSize, .ref m_state, .ref m_held, .int 0])), (m_known, .inl (cZ, 8, .inl (fun _ => 0)))] sz) := by
  refine Met.ofW (cc := cX11_get) (maxL := 4) (ret := (some .int)) (by decide +kernel) rfl ?_
  intro p e s m args below meth c s₁ B hml hv
  obtain ⟨rfl, hsz, hP, hK, hD0⟩ := hv
  have hx := B.exec
  have hb := B.bytes
  have hr := B.returns
  have hts := atoms_spec (ws := zw_zm_get) B.pre
  have hown : s.vm.findClass RX11 = some m.cls := findClass_of_methodNamed B.named
  have hlocks := B.notSynchronized
  subst hsz
  have hD := hD0.self (sz := s.heap.size)
  generalize hAe : va_A [(h0, .inr (10, [.ref h1, .int 0, .ref h2, .ref h3, .ref h4, .ref h5, .ref h6, .ref h7])), (h5, .inr (1, [.ref m_room, .ref m_keys, .ref m_known, .ref m_kind, .ref m_keySize, .ref m_valueSize, .ref m_most, .ref m_filled, .ref m_list, .ref m_recordSize, .ref m_state, .ref m_held, .int 0])), (m_known, .inl (cZ, 8, .inl (fun _ => 0)))] s.heap.size = A at hD ⊢
  have hA : ∀ q : Nat, s.heap.size ≤ q → A q := fun q h => by rw [← hAe]; exact Or.inr h
  have hS : va_S A s.heap s.heap [] := va_S.rf
  have hP : va_P (dC, dI) zz_cl [(h0, .inr (10, [.ref h1, .int 0, .ref h2, .ref h3, .ref h4, .ref h5, .ref h6, .ref h7])), (h5, .inr (1, [.ref m_room, .ref m_keys, .ref m_known, .ref m_kind, .ref m_keySize, .ref m_valueSize, .ref m_most, .ref m_filled, .ref m_list, .ref m_recordSize, .ref m_state, .ref m_held, .int 0])), (m_known, .inl (cZ, 8, .inl (fun _ => 0)))] s.heap := hP
  have hl := lv_entry ([.ref h0, .int p0]) (n := 4) (Nat.le_of_ble_eq_true rfl)
  rw [lg_entry_eq]
  generalize (lg_sl ([.ref h0, .int p0]) ++ List.replicate (4 - (lg_sl ([.ref h0, .int p0])).length) Slot.unset).toArray = ls at hl ⊢
  have hl : lv_has ls 4 [(0, .ref h0), (1, .int p0)] := hl
  refine lv_aload_n hx hb dX11_get_0 rfl (lv_at hl 0 rfl) ?_
  have hPc := hP.sub (ws' := [(h0, .inr (10, [.ref h1, .int 0, .ref h2, .ref h3, .ref h4, .ref h5, .ref h6, .ref h7]))]) [0] rfl
  have hDc := hD.sub (ws' := [(h0, .inr (10, [.ref h1, .int 0, .ref h2, .ref h3, .ref h4, .ref h5, .ref h6, .ref h7]))]) [0] (by decide +kernel) rfl
  have hFc := va_free (wc := [(h0, .inr (10, [.ref h1, .int 0, .ref h2, .ref h3, .ref h4, .ref h5, .ref h6, .ref h7]))]) hD hS hA [0] rfl
  refine va_calli (va_runV (As := []) (rest := []) ⟨hx, hb, hml, hown, hts⟩ (zm_useTape l dC dI cB cI cJ cZ h0 h1 h2 h3 h4 h5 h6 h7 s.heap.size) (cwV 0 hts (goodIn_app (goodIn_r [.methodLink RX11 67 yX11_useTape, .instanceMethod yX11_useTape, .selects RX11 yX11_useTape yX11_useTape, .initialized RX11] [3, 4, 5, 6] rfl (by decide +kernel)) zz_g_zm_get_zm_useTape) rfl rfl rfl (by decide +kernel) ⟨Nat.le_of_ble_eq_true rfl, Nat.le_of_ble_eq_true rfl⟩) ⟨fun a U g mk q => by obtain ⟨q0, q1, qP, qK, qD⟩ := q; exact ⟨q0, q1, qP, va_K.moved (u := U) (U := U.calling g mk a) (Vm.Alike.refl U.vm) qK, qD⟩, va_recv hK hPc (ci := 10) (q0 := 0) rfl rfl, fun U hU hW => ⟨rfl, by rw [hU], by rw [hU]; exact hPc, va_K.moved hW.alike hK, hDc.weaken (fun _ _ _ _ => trivial)⟩⟩ rfl rfl hl.1 rfl (lv_room (Nat.le_of_ble_eq_true rfl)) dX11_get_1 ⟨Nat.le_of_ble_eq_true rfl, Nat.le_of_ble_eq_true rfl⟩) hS (fun q _ h => hFc q h) hFc (fun r_1 u_3 t H1 locs ht hvm hw_2 hB hz1 hk1 hS => ?_)
  obtain ⟨hP1, hD1⟩ := hB
  rw [ht] at hP1
  obtain ⟨hP, hD⟩ := va_join (wr := [(h5, .inr (1, [.ref m_room, .ref m_keys, .ref m_known, .ref m_kind, .ref m_keySize, .ref m_valueSize, .ref m_most, .ref m_filled, .ref m_list, .ref m_recordSize, .ref m_state, .ref m_held, .int 0])), (m_known, .inl (cZ, 8, .inl (fun _ => 0)))]) (w1 := [(h0, .inr (10, [.ref h1, .int 0, .ref h2, .ref h3, .ref h4, .ref h5, .ref h6, .ref h7]))]) hP hD [0] [1, 2] rfl rfl (by decide +kernel) (by decide +kernel) hk1 hFc hP1 hD1
  generalize H1 = H at hP hS ⊢
  have hP : va_P (dC, dI) zz_cl [(h5, .inr (1, [.ref m_room, .ref m_keys, .ref m_known, .ref m_kind, .ref m_keySize, .ref m_valueSize, .ref m_most, .ref m_filled, .ref m_list, .ref m_recordSize, .ref m_state, .ref m_held, .int 0])), (m_known, .inl (cZ, 8, .inl (fun _ => 0))), (h0, .inr (10, [.ref h1, .int 0, .ref h2, .ref h3, .ref h4, .ref h5, .ref h6, .ref h7]))] H := hP
  have hD : va_D A [(h5, .inr (1, [.ref m_room, .ref m_keys, .ref m_known, .ref m_kind, .ref m_keySize, .ref m_valueSize, .ref m_most, .ref m_filled, .ref m_list, .ref m_recordSize, .ref m_state, .ref m_held, .int 0])), (m_known, .inl (cZ, 8, .inl (fun _ => 0))), (h0, .inr (10, [.ref h1, .int 0, .ref h2, .ref h3, .ref h4, .ref h5, .ref h6, .ref h7]))] := hD
  try dsimp only at hw_2
  obtain rfl : r_1 = (0 : Int32) := hw_2
  refine lv_istore_n (lv' := [(2, .int 0), (0, .ref h0), (1, .int p0)]) hx hb dX11_get_4 rfl hl (by decide +kernel) rfl (fun ls hl => ?_)
  refine lv_aload_n hx hb dX11_get_5 rfl (lv_at hl 1 rfl) ?_
  refine va_get (D := (dC, dI)) (ci := 10) (v := .ref h5) (C := RX11) (T := TX11) (N := 8) hx hb hts zz_in_zm_get_X11 hown hK hP 2 rfl rfl 5 (by decide +kernel) (hts (.fieldLink RX11 41 "FilterHouse" "maps" "LFilterHouse$Maps;") (List.mem_of_getElem? (i := 7) rfl)) (fun _ h9 => h9) rfl dX11_get_6 ?_
  refine lv_iload_n hx hb dX11_get_9 rfl (lv_at hl 2 rfl) ?_
  have hPc := hP.sub (ws' := [(h5, .inr (1, [.ref m_room, .ref m_keys, .ref m_known, .ref m_kind, .ref m_keySize, .ref m_valueSize, .ref m_most, .ref m_filled, .ref m_list, .ref m_recordSize, .ref m_state, .ref m_held, .int 0])), (m_known, .inl (cZ, 8, .inl (fun _ => 0)))]) [0, 1] rfl
  have hDc := hD.sub (ws' := [(h5, .inr (1, [.ref m_room, .ref m_keys, .ref m_known, .ref m_kind, .ref m_keySize, .ref m_valueSize, .ref m_most, .ref m_filled, .ref m_list, .ref m_recordSize, .ref m_state, .ref m_held, .int 0])), (m_known, .inl (cZ, 8, .inl (fun _ => 0)))]) [0, 1] (by decide +kernel) rfl
  have hFc := va_free (wc := [(h5, .inr (1, [.ref m_room, .ref m_keys, .ref m_known, .ref m_kind, .ref m_keySize, .ref m_valueSize, .ref m_most, .ref m_filled, .ref m_list, .ref m_recordSize, .ref m_state, .ref m_held, .int 0])), (m_known, .inl (cZ, 8, .inl (fun _ => 0)))]) hD hS hA [0, 1] rfl
  refine va_calli (va_runV (As := [.int p0]) (rest := []) ⟨hx, hb, hml, hown, hts⟩ (zm_isKeyed l dC dI cB cI cJ cZ h5 m_known m_room m_keys m_kind m_keySize m_valueSize m_most m_filled m_list m_recordSize m_state m_held H.size p0) (cwV 1 hts (goodIn_app (goodIn_r [.methodLink RX11 141 yX2_isKeyed, .instanceMethod yX2_isKeyed, .selects RX2 yX2_isKeyed yX2_isKeyed, .initialized RX2] [15, 16, 17, 13] rfl (by decide +kernel)) zz_g_zm_get_zm_isKeyed) rfl rfl rfl (by decide +kernel) ⟨Nat.le_of_ble_eq_true rfl, Nat.le_of_ble_eq_true rfl⟩) ⟨fun a U g mk q => by obtain ⟨q0, q1, qP, qK, qD⟩ := q; exact ⟨q0, q1, qP, va_K.moved (u := U) (U := U.calling g mk a) (Vm.Alike.refl U.vm) qK, qD⟩, va_recv hK hPc (ci := 1) (q0 := 0) rfl rfl, fun U hU hW => ⟨rfl, by rw [hU], by rw [hU]; exact hPc, va_K.moved hW.alike hK, hDc.weaken (fun _ _ _ _ => trivial)⟩⟩ rfl rfl hl.1 rfl (lv_room (Nat.le_of_ble_eq_true rfl)) dX11_get_10 ⟨Nat.le_of_ble_eq_true rfl, Nat.le_of_ble_eq_true rfl⟩) hS (fun q _ h => hFc q h) hFc (fun r_4 u_6 t H1 locs ht hvm hw_5 hB hz1 hk1 hS => ?_)
  obtain ⟨hP, hD⟩ := va_join (wr := [(h0, .inr (10, [.ref h1, .int 0, .ref h2, .ref h3, .ref h4, .ref h5, .ref h6, .ref h7]))]) (w1 := []) hP hD [0, 1] [2] rfl rfl (by decide +kernel) (by decide +kernel) hk1 hFc zz_P0 zz_D0
  generalize H1 = H at hP hS ⊢
  have hP : va_P (dC, dI) zz_cl [(h0, .inr (10, [.ref h1, .int 0, .ref h2, .ref h3, .ref h4, .ref h5, .ref h6, .ref h7]))] H := hP
  have hD : va_D A [(h0, .inr (10, [.ref h1, .int 0, .ref h2, .ref h3, .ref h4, .ref h5, .ref h6, .ref h7]))] := hD
  try dsimp only at hw_5
  obtain rfl : r_4 = (0 : Int32) := hw_5
  refine lv_if_eq (tgt := 29) hx hb dX11_get_13 (by decide +kernel) (fun c_7 => ?_) (fun c_7 => ?_)
  · refine lv_iconst (v := (-1)) hx hb dX11_get_29 (by decide +kernel) ?_
    exact W.iret (v := (-1)) hx hb hr (fun t ht hW => ⟨⟨(-1), (), rfl, rfl, trivial⟩, hS.F ht⟩) hS.2.2 dX11_get_30
  · exact absurd c_7 (by decide +kernel)
def zw_zm_remove : List Cond := .code yX11_remove cX11_remove 4 (some .int) :: ([.fieldLink RX11 13 "FilterHouse" "tapeSize" "I", .code yX11_useTape cX11_useTape 2 (some .int), .methodLink RX11 67 yX11_useTape, .instanceMethod yX11_useTape, .selects RX11 yX11_useTape yX11_useTape, .initialized RX11, .fieldLink RX11 41 "FilterHouse" "maps" "LFilterHouse$Maps;", .fieldLink RX2 18 "FilterHouse$Maps" "known" "[Z", .code yX2_isTold cX2_isTold 2 (some .boolean), .methodLink RX2 54 yX2_isTold, .instanceMethod yX2_isTold, .selects RX2 yX2_isTold yX2_isTold, .initialized RX2, .code yX2_isKeyed cX2_isKeyed 2 (some .boolean), .methodLink RX11 141 yX2_isKeyed, .instanceMethod yX2_isKeyed, .selects RX2 yX2_isKeyed yX2_isKeyed] ++ (wsX110 ++ (wsX20 ++ [])))
theorem zz_in_zm_remove_X11 : ∀ w ∈ wsX110, w ∈ zw_zm_remove := fun w h => List.mem_cons_of_mem _ (List.mem_append_right _ (List.mem_append_left _ h))
theorem zz_in_zm_remove_X2 : ∀ w ∈ wsX20, w ∈ zw_zm_remove := fun w h => List.mem_cons_of_mem _ (List.mem_append_right _ (List.mem_append_right _ (List.mem_append_left _ h)))
set_option maxRecDepth 20000 in
theorem zz_g_zm_remove_zm_useTape : GoodIn zw_zm_remove zw_zm_useTape := goodIn_ca (goodIn_r ([.code yX11_useTape cX11_useTape 2 (some .int), .fieldLink RX11 13 "FilterHouse" "tapeSize" "I"]) [2, 1] rfl (by decide +kernel)) (goodIn_app (goodIn_sub zz_in_zm_remove_X11 zz_gw_X11) (goodIn_sub (fun _ h => absurd h List.not_mem_nil) rfl))
set_option maxRecDepth 20000 in
theorem zz_g_zm_remove_zm_isKeyed : GoodIn zw_zm_remove zw_zm_isKeyed := goodIn_ca (goodIn_r ([.code yX2_isKeyed cX2_isKeyed 2 (some .boolean), .fieldLink RX2 18 "FilterHouse$Maps" "known" "[Z", .code yX2_isTold cX2_isTold 2 (some .boolean), .methodLink RX2 54 yX2_isTold, .instanceMethod yX2_isTold, .selects RX2 yX2_isTold yX2_isTold, .initialized RX2]) [14, 8, 9, 10, 11, 12, 13] rfl (by decide +kernel)) (goodIn_app (goodIn_sub zz_in_zm_remove_X2 zz_gw_X2) (goodIn_sub (fun _ h => absurd h List.not_mem_nil) rfl))
set_option maxHeartbeats 1000000 in
set_option maxRecDepth 100000 in
/-- zm_remove -/
theorem zm_remove (l : Launch) (dC : Nat → ClassId) (dI : Nat → Nat → Nat) (cB cI cJ cZ : ClassId) (h0 h5 m_known h1 h2 h3 h4 h6 h7 m_room m_keys m_kind m_keySize m_valueSize m_most m_filled m_list m_recordSize m_state m_held : Nat) (sz : Nat) (p0 : Int32) : Met l yX11_remove zw_zm_remove ({ frames := 2, cells := 0, slots := 0, locals := 42 }) (va_Pc [.ref h0, .int p0] (fun U => U.heap.size = sz ∧ va_P (dC, dI) zz_cl [(h0, .inr (10, [.ref h1, .int 0, .ref h2, .ref h3, .ref h4, .ref h5, .ref h6, .ref h7])), (h5, .inr (1, [.ref m_room, .ref m_keys, .ref m_known, .ref m_kind, .ref m_keySize, .ref m_valueSize, .ref m_most, .ref m_filled, .ref m_list, .ref m_recordSize, .ref m_state, .ref m_held, .int 0])), (m_known, .inl (cZ, 8, .inl (fun _ => 0)))] U.heap ∧ va_K (dC, dI) zz_cl [(cB, .byte), (cI, .int), (cJ, .long), (cZ, .boolean)] U ∧ va_D (fun _ => True) [(h0, .inr (10, [.ref h1, .int 0, .ref h2, .ref h3, .ref h4, .ref h5, .ref h6, .ref h7])), (h5, .inr (1, [.ref m_room, .ref m_keys, .ref m_known, .ref m_kind, .ref m_keySize, .ref m_valueSize, .ref m_most, .ref m_filled, .ref m_list, .ref m_recordSize, .ref m_state, .ref m_held, .int 0])), (m_known, .inl (cZ, 8, .inl (fun _ => 0)))])) (va_Qi (fun (r : Int32) (_ : Unit) => r = (-1)) (fun (_ : Unit) _ => True) (va_A [(h0, .inr (10, [.ref h1, .int 0, .ref h2, .ref h3, .ref h4, .ref h5, .ref h6, .ref h7])), (h5, .inr (1, [.ref m_room, .ref m_keys, .ref m_known, .ref m_kind, .ref m_keySize, .ref m_valueSize, .ref m_most, .ref m_filled, .ref m_list, .ref m_recordSize, .ref m_state, .ref m_held, .int 0])), (m_known, .inl (cZ, 8, .inl (fun _ => 0)))] sz)) 0 0 (va_A [(h0, .inr (10, [.ref h1, .int 0, .ref h2, .ref h3, .ref h4, .ref h5, .ref h6, .ref h7])), (h5, .inr (1, [.ref m_room, .ref m_keys, .ref m_known, .ref m_kind, .ref m_keySize, .ref m_valueSize, .ref m_most, .ref m_filled, .ref m_list, .ref m_recordSize, .ref m_state, .ref m_held, .int 0])), (m_known, .inl (cZ, 8, .inl (fun _ => 0)))] sz) := by
  refine Met.ofW (cc := cX11_remove) (maxL := 4) (ret := (some .int)) (by decide +kernel) rfl ?_
  intro p e s m args below meth c s₁ B hml hv
  obtain ⟨rfl, hsz, hP, hK, hD0⟩ := hv
  have hx := B.exec
  have hb := B.bytes
  have hr := B.returns
  have hts := atoms_spec (ws := zw_zm_remove) B.pre
  have hown : s.vm.findClass RX11 = some m.cls := findClass_of_methodNamed B.named
  have hlocks := B.notSynchronized
  subst hsz
  have hD := hD0.self (sz := s.heap.size)
  generalize hAe : va_A [(h0, .inr (10, [.ref h1, .int 0, .ref h2, .ref h3, .ref h4, .ref h5, .ref h6, .ref h7])), (h5, .inr (1, [.ref m_room, .ref m_keys, .ref m_known, .ref m_kind, .ref m_keySize, .ref m_valueSize, .ref m_most, .ref m_filled, .ref m_list, .ref m_recordSize, .ref m_state, .ref m_held, .int 0])), (m_known, .inl (cZ, 8, .inl (fun _ => 0)))] s.heap.size = A at hD ⊢
  have hA : ∀ q : Nat, s.heap.size ≤ q → A q := fun q h => by rw [← hAe]; exact Or.inr h
  have hS : va_S A s.heap s.heap [] := va_S.rf
  have hP : va_P (dC, dI) zz_cl [(h0, .inr (10, [.ref h1, .int 0, .ref h2, .ref h3, .ref h4, .ref h5, .ref h6, .ref h7])), (h5, .inr (1, [.ref m_room, .ref m_keys, .ref m_known, .ref m_kind, .ref m_keySize, .ref m_valueSize, .ref m_most, .ref m_filled, .ref m_list, .ref m_recordSize, .ref m_state, .ref m_held, .int 0])), (m_known, .inl (cZ, 8, .inl (fun _ => 0)))] s.heap := hP
  have hl := lv_entry ([.ref h0, .int p0]) (n := 4) (Nat.le_of_ble_eq_true rfl)
  rw [lg_entry_eq]
  generalize (lg_sl ([.ref h0, .int p0]) ++ List.replicate (4 - (lg_sl ([.ref h0, .int p0])).length) Slot.unset).toArray = ls at hl ⊢
  have hl : lv_has ls 4 [(0, .ref h0), (1, .int p0)] := hl
  refine lv_aload_n hx hb dX11_remove_0 rfl (lv_at hl 0 rfl) ?_
  have hPc := hP.sub (ws' := [(h0, .inr (10, [.ref h1, .int 0, .ref h2, .ref h3, .ref h4, .ref h5, .ref h6, .ref h7]))]) [0] rfl
  have hDc := hD.sub (ws' := [(h0, .inr (10, [.ref h1, .int 0, .ref h2, .ref h3, .ref h4, .ref h5, .ref h6, .ref h7]))]) [0] (by decide +kernel) rfl
  have hFc := va_free (wc := [(h0, .inr (10, [.ref h1, .int 0, .ref h2, .ref h3, .ref h4, .ref h5, .ref h6, .ref h7]))]) hD hS hA [0] rfl
  refine va_calli (va_runV (As := []) (rest := []) ⟨hx, hb, hml, hown, hts⟩ (zm_useTape l dC dI cB cI cJ cZ h0 h1 h2 h3 h4 h5 h6 h7 s.heap.size) (cwV 0 hts (goodIn_app (goodIn_r [.methodLink RX11 67 yX11_useTape, .instanceMethod yX11_useTape, .selects RX11 yX11_useTape yX11_useTape, .initialized RX11] [3, 4, 5, 6] rfl (by decide +kernel)) zz_g_zm_remove_zm_useTape) rfl rfl rfl (by decide +kernel) ⟨Nat.le_of_ble_eq_true rfl, Nat.le_of_ble_eq_true rfl⟩) ⟨fun a U g mk q => by obtain ⟨q0, q1, qP, qK, qD⟩ := q; exact ⟨q0, q1, qP, va_K.moved (u := U) (U := U.calling g mk a) (Vm.Alike.refl U.vm) qK, qD⟩, va_recv hK hPc (ci := 10) (q0 := 0) rfl rfl, fun U hU hW => ⟨rfl, by rw [hU], by rw [hU]; exact hPc, va_K.moved hW.alike hK, hDc.weaken (fun _ _ _ _ => trivial)⟩⟩ rfl rfl hl.1 rfl (lv_room (Nat.le_of_ble_eq_true rfl)) dX11_remove_1 ⟨Nat.le_of_ble_eq_true rfl, Nat.le_of_ble_eq_true rfl⟩) hS (fun q _ h => hFc q h) hFc (fun r_1 u_3 t H1 locs ht hvm hw_2 hB hz1 hk1 hS => ?_)
  obtain ⟨hP1, hD1⟩ := hB
  rw [ht] at hP1
  obtain ⟨hP, hD⟩ := va_join (wr := [(h5, .inr (1, [.ref m_room, .ref m_keys, .ref m_known, .ref m_kind, .ref m_keySize, .ref m_valueSize, .ref m_most, .ref m_filled, .ref m_list, .ref m_recordSize, .ref m_state, .ref m_held, .int 0])), (m_known, .inl (cZ, 8, .inl (fun _ => 0)))]) (w1 := [(h0, .inr (10, [.ref h1, .int 0, .ref h2, .ref h3, .ref h4, .ref h5, .ref h6, .ref h7]))]) hP hD [0] [1, 2] rfl rfl (by decide +kernel) (by decide +kernel) hk1 hFc hP1 hD1
  generalize H1 = H at hP hS ⊢
  have hP : va_P (dC, dI) zz_cl [(h5, .inr (1, [.ref m_room, .ref m_keys, .ref m_known, .ref m_kind, .ref m_keySize, .ref m_valueSize, .ref m_most, .ref m_filled, .ref m_list, .ref m_recordSize, .ref m_state, .ref m_held, .int 0])), (m_known, .inl (cZ, 8, .inl (fun _ => 0))), (h0, .inr (10, [.ref h1, .int 0, .ref h2, .ref h3, .ref h4, .ref h5, .ref h6, .ref h7]))] H := hP
  have hD : va_D A [(h5, .inr (1, [.ref m_room, .ref m_keys, .ref m_known, .ref m_kind, .ref m_keySize, .ref m_valueSize, .ref m_most, .ref m_filled, .ref m_list, .ref m_recordSize, .ref m_state, .ref m_held, .int 0])), (m_known, .inl (cZ, 8, .inl (fun _ => 0))), (h0, .inr (10, [.ref h1, .int 0, .ref h2, .ref h3, .ref h4, .ref h5, .ref h6, .ref h7]))] := hD
  try dsimp only at hw_2
  obtain rfl : r_1 = (0 : Int32) := hw_2
  refine lv_istore_n (lv' := [(2, .int 0), (0, .ref h0), (1, .int p0)]) hx hb dX11_remove_4 rfl hl (by decide +kernel) rfl (fun ls hl => ?_)
  refine lv_aload_n hx hb dX11_remove_5 rfl (lv_at hl 1 rfl) ?_
  refine va_get (D := (dC, dI)) (ci := 10) (v := .ref h5) (C := RX11) (T := TX11) (N := 8) hx hb hts zz_in_zm_remove_X11 hown hK hP 2 rfl rfl 5 (by decide +kernel) (hts (.fieldLink RX11 41 "FilterHouse" "maps" "LFilterHouse$Maps;") (List.mem_of_getElem? (i := 7) rfl)) (fun _ h9 => h9) rfl dX11_remove_6 ?_
  refine lv_iload_n hx hb dX11_remove_9 rfl (lv_at hl 2 rfl) ?_
  have hPc := hP.sub (ws' := [(h5, .inr (1, [.ref m_room, .ref m_keys, .ref m_known, .ref m_kind, .ref m_keySize, .ref m_valueSize, .ref m_most, .ref m_filled, .ref m_list, .ref m_recordSize, .ref m_state, .ref m_held, .int 0])), (m_known, .inl (cZ, 8, .inl (fun _ => 0)))]) [0, 1] rfl
  have hDc := hD.sub (ws' := [(h5, .inr (1, [.ref m_room, .ref m_keys, .ref m_known, .ref m_kind, .ref m_keySize, .ref m_valueSize, .ref m_most, .ref m_filled, .ref m_list, .ref m_recordSize, .ref m_state, .ref m_held, .int 0])), (m_known, .inl (cZ, 8, .inl (fun _ => 0)))]) [0, 1] (by decide +kernel) rfl
  have hFc := va_free (wc := [(h5, .inr (1, [.ref m_room, .ref m_keys, .ref m_known, .ref m_kind, .ref m_keySize, .ref m_valueSize, .ref m_most, .ref m_filled, .ref m_list, .ref m_recordSize, .ref m_state, .ref m_held, .int 0])), (m_known, .inl (cZ, 8, .inl (fun _ => 0)))]) hD hS hA [0, 1] rfl
  refine va_calli (va_runV (As := [.int p0]) (rest := []) ⟨hx, hb, hml, hown, hts⟩ (zm_isKeyed l dC dI cB cI cJ cZ h5 m_known m_room m_keys m_kind m_keySize m_valueSize m_most m_filled m_list m_recordSize m_state m_held H.size p0) (cwV 1 hts (goodIn_app (goodIn_r [.methodLink RX11 141 yX2_isKeyed, .instanceMethod yX2_isKeyed, .selects RX2 yX2_isKeyed yX2_isKeyed, .initialized RX2] [15, 16, 17, 13] rfl (by decide +kernel)) zz_g_zm_remove_zm_isKeyed) rfl rfl rfl (by decide +kernel) ⟨Nat.le_of_ble_eq_true rfl, Nat.le_of_ble_eq_true rfl⟩) ⟨fun a U g mk q => by obtain ⟨q0, q1, qP, qK, qD⟩ := q; exact ⟨q0, q1, qP, va_K.moved (u := U) (U := U.calling g mk a) (Vm.Alike.refl U.vm) qK, qD⟩, va_recv hK hPc (ci := 1) (q0 := 0) rfl rfl, fun U hU hW => ⟨rfl, by rw [hU], by rw [hU]; exact hPc, va_K.moved hW.alike hK, hDc.weaken (fun _ _ _ _ => trivial)⟩⟩ rfl rfl hl.1 rfl (lv_room (Nat.le_of_ble_eq_true rfl)) dX11_remove_10 ⟨Nat.le_of_ble_eq_true rfl, Nat.le_of_ble_eq_true rfl⟩) hS (fun q _ h => hFc q h) hFc (fun r_4 u_6 t H1 locs ht hvm hw_5 hB hz1 hk1 hS => ?_)
  obtain ⟨hP, hD⟩ := va_join (wr := [(h0, .inr (10, [.ref h1, .int 0, .ref h2, .ref h3, .ref h4, .ref h5, .ref h6, .ref h7]))]) (w1 := []) hP hD [0, 1] [2] rfl rfl (by decide +kernel) (by decide +kernel) hk1 hFc zz_P0 zz_D0
  generalize H1 = H at hP hS ⊢
  have hP : va_P (dC, dI) zz_cl [(h0, .inr (10, [.ref h1, .int 0, .ref h2, .ref h3, .ref h4, .ref h5, .ref h6, .ref h7]))] H := hP
  have hD : va_D A [(h0, .inr (10, [.ref h1, .int 0, .ref h2, .ref h3, .ref h4, .ref h5, .ref h6, .ref h7]))] := hD
  try dsimp only at hw_5
  obtain rfl : r_4 = (0 : Int32) := hw_5
  refine lv_if_eq (tgt := 29) hx hb dX11_remove_13 (by decide +kernel) (fun c_7 => ?_) (fun c_7 => ?_)
  · refine lv_iconst (v := (-1)) hx hb dX11_remove_29 (by decide +kernel) ?_
    exact W.iret (v := (-1)) hx hb hr (fun t ht hW => ⟨⟨(-1), (), rfl, rfl, trivial⟩, hS.F ht⟩) hS.2.2 dX11_remove_30
  · exact absurd c_7 (by decide +kernel)
def zw_zm_entry : List Cond := .code yX11_entry cX11_entry 4 (some .int) :: ([.fieldLink RX11 41 "FilterHouse" "maps" "LFilterHouse$Maps;", .fieldLink RX2 18 "FilterHouse$Maps" "known" "[Z", .code yX2_isTold cX2_isTold 2 (some .boolean), .methodLink RX2 54 yX2_isTold, .instanceMethod yX2_isTold, .selects RX2 yX2_isTold yX2_isTold, .initialized RX2, .code yX2_isKind cX2_isKind 3 (some .boolean), .methodLink RX11 175 yX2_isKind, .instanceMethod yX2_isKind, .selects RX2 yX2_isKind yX2_isKind] ++ (wsX110 ++ (wsX20 ++ [])))
theorem zz_in_zm_entry_X11 : ∀ w ∈ wsX110, w ∈ zw_zm_entry := fun w h => List.mem_cons_of_mem _ (List.mem_append_right _ (List.mem_append_left _ h))
theorem zz_in_zm_entry_X2 : ∀ w ∈ wsX20, w ∈ zw_zm_entry := fun w h => List.mem_cons_of_mem _ (List.mem_append_right _ (List.mem_append_right _ (List.mem_append_left _ h)))
set_option maxRecDepth 20000 in
theorem zz_g_zm_entry_zm_isKind : GoodIn zw_zm_entry zw_zm_isKind := goodIn_ca (goodIn_r ([.code yX2_isKind cX2_isKind 3 (some .boolean), .fieldLink RX2 18 "FilterHouse$Maps" "known" "[Z", .code yX2_isTold cX2_isTold 2 (some .boolean), .methodLink RX2 54 yX2_isTold, .instanceMethod yX2_isTold, .selects RX2 yX2_isTold yX2_isTold, .initialized RX2]) [8, 2, 3, 4, 5, 6, 7] rfl (by decide +kernel)) (goodIn_app (goodIn_sub zz_in_zm_entry_X2 zz_gw_X2) (goodIn_sub (fun _ h => absurd h List.not_mem_nil) rfl))
set_option maxHeartbeats 1000000 in
set_option maxRecDepth 100000 in
/-- zm_entry -/
theorem zm_entry (l : Launch) (dC : Nat → ClassId) (dI : Nat → Nat → Nat) (cB cI cJ cZ : ClassId) (h0 h5 m_known h1 h2 h3 h4 h6 h7 m_room m_keys m_kind m_keySize m_valueSize m_most m_filled m_list m_recordSize m_state m_held : Nat) (sz : Nat) (p0 : Int32) (p1 : Int32) : Met l yX11_entry zw_zm_entry ({ frames := 2, cells := 0, slots := 0, locals := 43 }) (va_Pc [.ref h0, .int p0, .int p1] (fun U => U.heap.size = sz ∧ va_P (dC, dI) zz_cl [(h0, .inr (10, [.ref h1, .int 0, .ref h2, .ref h3, .ref h4, .ref h5, .ref h6, .ref h7])), (h5, .inr (1, [.ref m_room, .ref m_keys, .ref m_known, .ref m_kind, .ref m_keySize, .ref m_valueSize, .ref m_most, .ref m_filled, .ref m_list, .ref m_recordSize, .ref m_state, .ref m_held, .int 0])), (m_known, .inl (cZ, 8, .inl (fun _ => 0)))] U.heap ∧ va_K (dC, dI) zz_cl [(cB, .byte), (cI, .int), (cJ, .long), (cZ, .boolean)] U ∧ va_D (fun _ => True) [(h0, .inr (10, [.ref h1, .int 0, .ref h2, .ref h3, .ref h4, .ref h5, .ref h6, .ref h7])), (h5, .inr (1, [.ref m_room, .ref m_keys, .ref m_known, .ref m_kind, .ref m_keySize, .ref m_valueSize, .ref m_most, .ref m_filled, .ref m_list, .ref m_recordSize, .ref m_state, .ref m_held, .int 0])), (m_known, .inl (cZ, 8, .inl (fun _ => 0)))])) (va_Qi (fun (r : Int32) (_ : Unit) => r = (-1)) (fun (_ : Unit) _ => True) (va_A [(h0, .inr (10, [.ref h1, .int 0, .ref h2, .ref h3, .ref h4, .ref h5, .ref h6, .ref h7])), (h5, .inr (1, [.ref m_room, .ref m_keys, .ref m_known, .ref m_kind, .ref m_keySize, .ref m_valueSize, .ref m_most, .ref m_filled, .ref m_list, .ref m_recordSize, .ref m_state, .ref m_held, .int 0])), (m_known, .inl (cZ, 8, .inl (fun _ => 0)))] sz)) 0 0 (va_A [(h0, .inr (10, [.ref h1, .int 0, .ref h2, .ref h3, .ref h4, .ref h5, .ref h6, .ref h7])), (h5, .inr (1, [.ref m_room, .ref m_keys, .ref m_known, .ref m_kind, .ref m_keySize, .ref m_valueSize, .ref m_most, .ref m_filled, .ref m_list, .ref m_recordSize, .ref m_state, .ref m_held, .int 0])), (m_known, .inl (cZ, 8, .inl (fun _ => 0)))] sz) := by
  refine Met.ofW (cc := cX11_entry) (maxL := 4) (ret := (some .int)) (by decide +kernel) rfl ?_
  intro p e s m args below meth c s₁ B hml hv
  obtain ⟨rfl, hsz, hP, hK, hD0⟩ := hv
  have hx := B.exec
  have hb := B.bytes
  have hr := B.returns
  have hts := atoms_spec (ws := zw_zm_entry) B.pre
  have hown : s.vm.findClass RX11 = some m.cls := findClass_of_methodNamed B.named
  have hlocks := B.notSynchronized
  subst hsz
  have hD := hD0.self (sz := s.heap.size)
  generalize hAe : va_A [(h0, .inr (10, [.ref h1, .int 0, .ref h2, .ref h3, .ref h4, .ref h5, .ref h6, .ref h7])), (h5, .inr (1, [.ref m_room, .ref m_keys, .ref m_known, .ref m_kind, .ref m_keySize, .ref m_valueSize, .ref m_most, .ref m_filled, .ref m_list, .ref m_recordSize, .ref m_state, .ref m_held, .int 0])), (m_known, .inl (cZ, 8, .inl (fun _ => 0)))] s.heap.size = A at hD ⊢
  have hA : ∀ q : Nat, s.heap.size ≤ q → A q := fun q h => by rw [← hAe]; exact Or.inr h
  have hS : va_S A s.heap s.heap [] := va_S.rf
  have hP : va_P (dC, dI) zz_cl [(h0, .inr (10, [.ref h1, .int 0, .ref h2, .ref h3, .ref h4, .ref h5, .ref h6, .ref h7])), (h5, .inr (1, [.ref m_room, .ref m_keys, .ref m_known, .ref m_kind, .ref m_keySize, .ref m_valueSize, .ref m_most, .ref m_filled, .ref m_list, .ref m_recordSize, .ref m_state, .ref m_held, .int 0])), (m_known, .inl (cZ, 8, .inl (fun _ => 0)))] s.heap := hP
  have hl := lv_entry ([.ref h0, .int p0, .int p1]) (n := 4) (Nat.le_of_ble_eq_true rfl)
  rw [lg_entry_eq]
  generalize (lg_sl ([.ref h0, .int p0, .int p1]) ++ List.replicate (4 - (lg_sl ([.ref h0, .int p0, .int p1])).length) Slot.unset).toArray = ls at hl ⊢
  have hl : lv_has ls 4 [(0, .ref h0), (1, .int p0), (2, .int p1)] := hl
  refine lv_aload_n hx hb dX11_entry_0 rfl (lv_at hl 0 rfl) ?_
  refine va_get (D := (dC, dI)) (ci := 10) (v := .ref h5) (C := RX11) (T := TX11) (N := 8) hx hb hts zz_in_zm_entry_X11 hown hK hP 0 rfl rfl 5 (by decide +kernel) (hts (.fieldLink RX11 41 "FilterHouse" "maps" "LFilterHouse$Maps;") (List.mem_of_getElem? (i := 1) rfl)) (fun _ h9 => h9) rfl dX11_entry_1 ?_
  refine lv_iload_n hx hb dX11_entry_4 rfl (lv_at hl 1 rfl) ?_
  refine lv_iconst (v := 1) hx hb dX11_entry_5 (by decide +kernel) ?_
  have hPc := hP.sub (ws' := [(h5, .inr (1, [.ref m_room, .ref m_keys, .ref m_known, .ref m_kind, .ref m_keySize, .ref m_valueSize, .ref m_most, .ref m_filled, .ref m_list, .ref m_recordSize, .ref m_state, .ref m_held, .int 0])), (m_known, .inl (cZ, 8, .inl (fun _ => 0)))]) [1, 2] rfl
  have hDc := hD.sub (ws' := [(h5, .inr (1, [.ref m_room, .ref m_keys, .ref m_known, .ref m_kind, .ref m_keySize, .ref m_valueSize, .ref m_most, .ref m_filled, .ref m_list, .ref m_recordSize, .ref m_state, .ref m_held, .int 0])), (m_known, .inl (cZ, 8, .inl (fun _ => 0)))]) [1, 2] (by decide +kernel) rfl
  have hFc := va_free (wc := [(h5, .inr (1, [.ref m_room, .ref m_keys, .ref m_known, .ref m_kind, .ref m_keySize, .ref m_valueSize, .ref m_most, .ref m_filled, .ref m_list, .ref m_recordSize, .ref m_state, .ref m_held, .int 0])), (m_known, .inl (cZ, 8, .inl (fun _ => 0)))]) hD hS hA [1, 2] rfl
  refine va_calli (va_runV (As := [.int p0, .int 1]) (rest := []) ⟨hx, hb, hml, hown, hts⟩ (zm_isKind l dC dI cB cI cJ cZ h5 m_known m_room m_keys m_kind m_keySize m_valueSize m_most m_filled m_list m_recordSize m_state m_held s.heap.size p0 1) (cwV 2 hts (goodIn_app (goodIn_r [.methodLink RX11 175 yX2_isKind, .instanceMethod yX2_isKind, .selects RX2 yX2_isKind yX2_isKind, .initialized RX2] [9, 10, 11, 7] rfl (by decide +kernel)) zz_g_zm_entry_zm_isKind) rfl rfl rfl (by decide +kernel) ⟨Nat.le_of_ble_eq_true rfl, Nat.le_of_ble_eq_true rfl⟩) ⟨fun a U g mk q => by obtain ⟨q0, q1, qP, qK, qD⟩ := q; exact ⟨q0, q1, qP, va_K.moved (u := U) (U := U.calling g mk a) (Vm.Alike.refl U.vm) qK, qD⟩, va_recv hK hPc (ci := 1) (q0 := 0) rfl rfl, fun U hU hW => ⟨rfl, by rw [hU], by rw [hU]; exact hPc, va_K.moved hW.alike hK, hDc.weaken (fun _ _ _ _ => trivial)⟩⟩ rfl rfl hl.1 rfl (lv_room (Nat.le_of_ble_eq_true rfl)) dX11_entry_6 ⟨Nat.le_of_ble_eq_true rfl, Nat.le_of_ble_eq_true rfl⟩) hS (fun q _ h => hFc q h) hFc (fun r_1 u_3 t H1 locs ht hvm hw_2 hB hz1 hk1 hS => ?_)
  obtain ⟨hP, hD⟩ := va_join (wr := [(h0, .inr (10, [.ref h1, .int 0, .ref h2, .ref h3, .ref h4, .ref h5, .ref h6, .ref h7]))]) (w1 := []) hP hD [1, 2] [0] rfl rfl (by decide +kernel) (by decide +kernel) hk1 hFc zz_P0 zz_D0
  generalize H1 = H at hP hS ⊢
  have hP : va_P (dC, dI) zz_cl [(h0, .inr (10, [.ref h1, .int 0, .ref h2, .ref h3, .ref h4, .ref h5, .ref h6, .ref h7]))] H := hP
  have hD : va_D A [(h0, .inr (10, [.ref h1, .int 0, .ref h2, .ref h3, .ref h4, .ref h5, .ref h6, .ref h7]))] := hD
  try dsimp only at hw_2
  obtain rfl : r_1 = (0 : Int32) := hw_2
  refine lv_if_eq (tgt := 29) hx hb dX11_entry_9 (by decide +kernel) (fun c_4 => ?_) (fun c_4 => ?_)
  · refine lv_iconst (v := (-1)) hx hb dX11_entry_29 (by decide +kernel) ?_
    exact W.iret (v := (-1)) hx hb hr (fun t ht hW => ⟨⟨(-1), (), rfl, rfl, trivial⟩, hS.F ht⟩) hS.2.2 dX11_entry_30
  · exact absurd c_4 (by decide +kernel)
def zw_zm_size : List Cond := .code yX11_size cX11_size 2 (some .int) :: ([.fieldLink RX11 41 "FilterHouse" "maps" "LFilterHouse$Maps;", .fieldLink RX2 18 "FilterHouse$Maps" "known" "[Z", .code yX2_isTold cX2_isTold 2 (some .boolean), .methodLink RX11 191 yX2_isTold, .instanceMethod yX2_isTold, .selects RX2 yX2_isTold yX2_isTold, .initialized RX2] ++ (wsX110 ++ (wsX20 ++ [])))
theorem zz_in_zm_size_X11 : ∀ w ∈ wsX110, w ∈ zw_zm_size := fun w h => List.mem_cons_of_mem _ (List.mem_append_right _ (List.mem_append_left _ h))
theorem zz_in_zm_size_X2 : ∀ w ∈ wsX20, w ∈ zw_zm_size := fun w h => List.mem_cons_of_mem _ (List.mem_append_right _ (List.mem_append_right _ (List.mem_append_left _ h)))
set_option maxRecDepth 20000 in
theorem zz_g_zm_size_zm_isTold : GoodIn zw_zm_size zw_zm_isTold := goodIn_ca (goodIn_r ([.code yX2_isTold cX2_isTold 2 (some .boolean), .fieldLink RX2 18 "FilterHouse$Maps" "known" "[Z"]) [3, 2] rfl (by decide +kernel)) (goodIn_app (goodIn_sub zz_in_zm_size_X2 zz_gw_X2) (goodIn_sub (fun _ h => absurd h List.not_mem_nil) rfl))
set_option maxHeartbeats 1000000 in
set_option maxRecDepth 100000 in
/-- zm_size -/
theorem zm_size (l : Launch) (dC : Nat → ClassId) (dI : Nat → Nat → Nat) (cB cI cJ cZ : ClassId) (h0 h5 m_known h1 h2 h3 h4 h6 h7 m_room m_keys m_kind m_keySize m_valueSize m_most m_filled m_list m_recordSize m_state m_held : Nat) (sz : Nat) (p0 : Int32) : Met l yX11_size zw_zm_size ({ frames := 1, cells := 0, slots := 0, locals := 21 }) (va_Pc [.ref h0, .int p0] (fun U => U.heap.size = sz ∧ va_P (dC, dI) zz_cl [(h0, .inr (10, [.ref h1, .int 0, .ref h2, .ref h3, .ref h4, .ref h5, .ref h6, .ref h7])), (h5, .inr (1, [.ref m_room, .ref m_keys, .ref m_known, .ref m_kind, .ref m_keySize, .ref m_valueSize, .ref m_most, .ref m_filled, .ref m_list, .ref m_recordSize, .ref m_state, .ref m_held, .int 0])), (m_known, .inl (cZ, 8, .inl (fun _ => 0)))] U.heap ∧ va_K (dC, dI) zz_cl [(cB, .byte), (cI, .int), (cJ, .long), (cZ, .boolean)] U ∧ va_D (fun _ => True) [(h0, .inr (10, [.ref h1, .int 0, .ref h2, .ref h3, .ref h4, .ref h5, .ref h6, .ref h7])), (h5, .inr (1, [.ref m_room, .ref m_keys, .ref m_known, .ref m_kind, .ref m_keySize, .ref m_valueSize, .ref m_most, .ref m_filled, .ref m_list, .ref m_recordSize, .ref m_state, .ref m_held, .int 0])), (m_known, .inl (cZ, 8, .inl (fun _ => 0)))])) (va_Qi (fun (r : Int32) (_ : Unit) => r = (-1)) (fun (_ : Unit) _ => True) (va_A [(h0, .inr (10, [.ref h1, .int 0, .ref h2, .ref h3, .ref h4, .ref h5, .ref h6, .ref h7])), (h5, .inr (1, [.ref m_room, .ref m_keys, .ref m_known, .ref m_kind, .ref m_keySize, .ref m_valueSize, .ref m_most, .ref m_filled, .ref m_list, .ref m_recordSize, .ref m_state, .ref m_held, .int 0])), (m_known, .inl (cZ, 8, .inl (fun _ => 0)))] sz)) 0 0 (va_A [(h0, .inr (10, [.ref h1, .int 0, .ref h2, .ref h3, .ref h4, .ref h5, .ref h6, .ref h7])), (h5, .inr (1, [.ref m_room, .ref m_keys, .ref m_known, .ref m_kind, .ref m_keySize, .ref m_valueSize, .ref m_most, .ref m_filled, .ref m_list, .ref m_recordSize, .ref m_state, .ref m_held, .int 0])), (m_known, .inl (cZ, 8, .inl (fun _ => 0)))] sz) := by
  refine Met.ofW (cc := cX11_size) (maxL := 2) (ret := (some .int)) (by decide +kernel) rfl ?_
  intro p e s m args below meth c s₁ B hml hv
  obtain ⟨rfl, hsz, hP, hK, hD0⟩ := hv
  have hx := B.exec
  have hb := B.bytes
  have hr := B.returns
  have hts := atoms_spec (ws := zw_zm_size) B.pre
  have hown : s.vm.findClass RX11 = some m.cls := findClass_of_methodNamed B.named
  have hlocks := B.notSynchronized
  subst hsz
  have hD := hD0.self (sz := s.heap.size)
  generalize hAe : va_A [(h0, .inr (10, [.ref h1, .int 0, .ref h2, .ref h3, .ref h4, .ref h5, .ref h6, .ref h7])), (h5, .inr (1, [.ref m_room, .ref m_keys, .ref m_known, .ref m_kind, .ref m_keySize, .ref m_valueSize, .ref m_most, .ref m_filled, .ref m_list, .ref m_recordSize, .ref m_state, .ref m_held, .int 0])), (m_known, .inl (cZ, 8, .inl (fun _ => 0)))] s.heap.size = A at hD ⊢
  have hA : ∀ q : Nat, s.heap.size ≤ q → A q := fun q h => by rw [← hAe]; exact Or.inr h
  have hS : va_S A s.heap s.heap [] := va_S.rf
  have hP : va_P (dC, dI) zz_cl [(h0, .inr (10, [.ref h1, .int 0, .ref h2, .ref h3, .ref h4, .ref h5, .ref h6, .ref h7])), (h5, .inr (1, [.ref m_room, .ref m_keys, .ref m_known, .ref m_kind, .ref m_keySize, .ref m_valueSize, .ref m_most, .ref m_filled, .ref m_list, .ref m_recordSize, .ref m_state, .ref m_held, .int 0])), (m_known, .inl (cZ, 8, .inl (fun _ => 0)))] s.heap := hP
  have hl := lv_entry ([.ref h0, .int p0]) (n := 2) (Nat.le_of_ble_eq_true rfl)
  rw [lg_entry_eq]
  generalize (lg_sl ([.ref h0, .int p0]) ++ List.replicate (2 - (lg_sl ([.ref h0, .int p0])).length) Slot.unset).toArray = ls at hl ⊢
  have hl : lv_has ls 2 [(0, .ref h0), (1, .int p0)] := hl
  refine lv_aload_n hx hb dX11_size_0 rfl (lv_at hl 0 rfl) ?_
  refine va_get (D := (dC, dI)) (ci := 10) (v := .ref h5) (C := RX11) (T := TX11) (N := 8) hx hb hts zz_in_zm_size_X11 hown hK hP 0 rfl rfl 5 (by decide +kernel) (hts (.fieldLink RX11 41 "FilterHouse" "maps" "LFilterHouse$Maps;") (List.mem_of_getElem? (i := 1) rfl)) (fun _ h9 => h9) rfl dX11_size_1 ?_
  refine lv_iload_n hx hb dX11_size_4 rfl (lv_at hl 1 rfl) ?_
  have hPc := hP.sub (ws' := [(h5, .inr (1, [.ref m_room, .ref m_keys, .ref m_known, .ref m_kind, .ref m_keySize, .ref m_valueSize, .ref m_most, .ref m_filled, .ref m_list, .ref m_recordSize, .ref m_state, .ref m_held, .int 0])), (m_known, .inl (cZ, 8, .inl (fun _ => 0)))]) [1, 2] rfl
  have hDc := hD.sub (ws' := [(h5, .inr (1, [.ref m_room, .ref m_keys, .ref m_known, .ref m_kind, .ref m_keySize, .ref m_valueSize, .ref m_most, .ref m_filled, .ref m_list, .ref m_recordSize, .ref m_state, .ref m_held, .int 0])), (m_known, .inl (cZ, 8, .inl (fun _ => 0)))]) [1, 2] (by decide +kernel) rfl
  have hFc := va_free (wc := [(h5, .inr (1, [.ref m_room, .ref m_keys, .ref m_known, .ref m_kind, .ref m_keySize, .ref m_valueSize, .ref m_most, .ref m_filled, .ref m_list, .ref m_recordSize, .ref m_state, .ref m_held, .int 0])), (m_known, .inl (cZ, 8, .inl (fun _ => 0)))]) hD hS hA [1, 2] rfl
  refine va_calli (va_runV (As := [.int p0]) (rest := []) ⟨hx, hb, hml, hown, hts⟩ (zm_isTold l dC dI cB cI cJ cZ h5 m_known m_room m_keys m_kind m_keySize m_valueSize m_most m_filled m_list m_recordSize m_state m_held s.heap.size p0) (cwV 1 hts (goodIn_app (goodIn_r [.methodLink RX11 191 yX2_isTold, .instanceMethod yX2_isTold, .selects RX2 yX2_isTold yX2_isTold, .initialized RX2] [4, 5, 6, 7] rfl (by decide +kernel)) zz_g_zm_size_zm_isTold) rfl rfl rfl (by decide +kernel) ⟨Nat.le_of_ble_eq_true rfl, Nat.le_of_ble_eq_true rfl⟩) ⟨fun a U g mk q => by obtain ⟨q0, q1, qP, qK, qD⟩ := q; exact ⟨q0, q1, qP, va_K.moved (u := U) (U := U.calling g mk a) (Vm.Alike.refl U.vm) qK, qD⟩, va_recv hK hPc (ci := 1) (q0 := 0) rfl rfl, fun U hU hW => ⟨rfl, by rw [hU], by rw [hU]; exact hPc, va_K.moved hW.alike hK, hDc.weaken (fun _ _ _ _ => trivial)⟩⟩ rfl rfl hl.1 rfl (lv_room (Nat.le_of_ble_eq_true rfl)) dX11_size_5 ⟨Nat.le_of_ble_eq_true rfl, Nat.le_of_ble_eq_true rfl⟩) hS (fun q _ h => hFc q h) hFc (fun r_1 u_3 t H1 locs ht hvm hw_2 hB hz1 hk1 hS => ?_)
  obtain ⟨hP1, hD1⟩ := hB
  rw [ht] at hP1
  obtain ⟨hP, hD⟩ := va_join (wr := [(h0, .inr (10, [.ref h1, .int 0, .ref h2, .ref h3, .ref h4, .ref h5, .ref h6, .ref h7]))]) (w1 := [(h5, .inr (1, [.ref m_room, .ref m_keys, .ref m_known, .ref m_kind, .ref m_keySize, .ref m_valueSize, .ref m_most, .ref m_filled, .ref m_list, .ref m_recordSize, .ref m_state, .ref m_held, .int 0])), (m_known, .inl (cZ, 8, .inl (fun _ => 0)))]) hP hD [1, 2] [0] rfl rfl (by decide +kernel) (by decide +kernel) hk1 hFc hP1 hD1
  generalize H1 = H at hP hS ⊢
  have hP : va_P (dC, dI) zz_cl [(h0, .inr (10, [.ref h1, .int 0, .ref h2, .ref h3, .ref h4, .ref h5, .ref h6, .ref h7])), (h5, .inr (1, [.ref m_room, .ref m_keys, .ref m_known, .ref m_kind, .ref m_keySize, .ref m_valueSize, .ref m_most, .ref m_filled, .ref m_list, .ref m_recordSize, .ref m_state, .ref m_held, .int 0])), (m_known, .inl (cZ, 8, .inl (fun _ => 0)))] H := hP
  have hD : va_D A [(h0, .inr (10, [.ref h1, .int 0, .ref h2, .ref h3, .ref h4, .ref h5, .ref h6, .ref h7])), (h5, .inr (1, [.ref m_room, .ref m_keys, .ref m_known, .ref m_kind, .ref m_keySize, .ref m_valueSize, .ref m_most, .ref m_filled, .ref m_list, .ref m_recordSize, .ref m_state, .ref m_held, .int 0])), (m_known, .inl (cZ, 8, .inl (fun _ => 0)))] := hD
  try dsimp only at hw_2
  obtain rfl : r_1 = (0 : Int32) := hw_2
  refine lv_if_eq (tgt := 23) hx hb dX11_size_8 (by decide +kernel) (fun c_4 => ?_) (fun c_4 => ?_)
  · refine lv_iconst (v := (-1)) hx hb dX11_size_23 (by decide +kernel) ?_
    exact W.iret (v := (-1)) hx hb hr (fun t ht hW => ⟨⟨(-1), (), rfl, rfl, trivial⟩, hS.F ht⟩) hS.2.2 dX11_size_24
  · exact absurd c_4 (by decide +kernel)
def zw_zm_link : List Cond := .code yX11_link cX11_link 4 (some .boolean) :: ([.fieldLink RX11 41 "FilterHouse" "maps" "LFilterHouse$Maps;", .fieldLink RX2 18 "FilterHouse$Maps" "known" "[Z", .code yX2_isTold cX2_isTold 2 (some .boolean), .methodLink RX2 54 yX2_isTold, .instanceMethod yX2_isTold, .selects RX2 yX2_isTold yX2_isTold, .initialized RX2, .code yX2_isKind cX2_isKind 3 (some .boolean), .methodLink RX11 175 yX2_isKind, .instanceMethod yX2_isKind, .selects RX2 yX2_isKind yX2_isKind] ++ (wsX110 ++ (wsX20 ++ [])))
theorem zz_in_zm_link_X11 : ∀ w ∈ wsX110, w ∈ zw_zm_link := fun w h => List.mem_cons_of_mem _ (List.mem_append_right _ (List.mem_append_left _ h))
theorem zz_in_zm_link_X2 : ∀ w ∈ wsX20, w ∈ zw_zm_link := fun w h => List.mem_cons_of_mem _ (List.mem_append_right _ (List.mem_append_right _ (List.mem_append_left _ h)))
set_option maxRecDepth 20000 in
theorem zz_g_zm_link_zm_isKind : GoodIn zw_zm_link zw_zm_isKind := goodIn_ca (goodIn_r ([.code yX2_isKind cX2_isKind 3 (some .boolean), .fieldLink RX2 18 "FilterHouse$Maps" "known" "[Z", .code yX2_isTold cX2_isTold 2 (some .boolean), .methodLink RX2 54 yX2_isTold, .instanceMethod yX2_isTold, .selects RX2 yX2_isTold yX2_isTold, .initialized RX2]) [8, 2, 3, 4, 5, 6, 7] rfl (by decide +kernel)) (goodIn_app (goodIn_sub zz_in_zm_link_X2 zz_gw_X2) (goodIn_sub (fun _ h => absurd h List.not_mem_nil) rfl))
set_option maxHeartbeats 1000000 in
set_option maxRecDepth 100000 in
/-- zm_link -/
theorem zm_link (l : Launch) (dC : Nat → ClassId) (dI : Nat → Nat → Nat) (cB cI cJ cZ : ClassId) (h0 h5 m_known h1 h2 h3 h4 h6 h7 m_room m_keys m_kind m_keySize m_valueSize m_most m_filled m_list m_recordSize m_state m_held : Nat) (sz : Nat) (p0 : Int32) (p1 : Int32) (p2 : Int32) : Met l yX11_link zw_zm_link ({ frames := 2, cells := 0, slots := 0, locals := 43 }) (va_Pc [.ref h0, .int p0, .int p1, .int p2] (fun U => U.heap.size = sz ∧ va_P (dC, dI) zz_cl [(h0, .inr (10, [.ref h1, .int 0, .ref h2, .ref h3, .ref h4, .ref h5, .ref h6, .ref h7])), (h5, .inr (1, [.ref m_room, .ref m_keys, .ref m_known, .ref m_kind, .ref m_keySize, .ref m_valueSize, .ref m_most, .ref m_filled, .ref m_list, .ref m_recordSize, .ref m_state, .ref m_held, .int 0])), (m_known, .inl (cZ, 8, .inl (fun _ => 0)))] U.heap ∧ va_K (dC, dI) zz_cl [(cB, .byte), (cI, .int), (cJ, .long), (cZ, .boolean)] U ∧ va_D (fun _ => True) [(h0, .inr (10, [.ref h1, .int 0, .ref h2, .ref h3, .ref h4, .ref h5, .ref h6, .ref h7])), (h5, .inr (1, [.ref m_room, .ref m_keys, .ref m_known, .ref m_kind, .ref m_keySize, .ref m_valueSize, .ref m_most, .ref m_filled, .ref m_list, .ref m_recordSize, .ref m_state, .ref m_held, .int 0])), (m_known, .inl (cZ, 8, .inl (fun _ => 0)))])) (va_Qi (fun (r : Int32) (_ : Unit) => r = 0) (fun (_ : Unit) _ => True) (va_A [(h0, .inr (10, [.ref h1, .int 0, .ref h2, .ref h3, .ref h4, .ref h5, .ref h6, .ref h7])), (h5, .inr (1, [.ref m_room, .ref m_keys, .ref m_known, .ref m_kind, .ref m_keySize, .ref m_valueSize, .ref m_most, .ref m_filled, .ref m_list, .ref m_recordSize, .ref m_state, .ref m_held, .int 0])), (m_known, .inl (cZ, 8, .inl (fun _ => 0)))] sz)) 0 0 (va_A [(h0, .inr (10, [.ref h1, .int 0, .ref h2, .ref h3, .ref h4, .ref h5, .ref h6, .ref h7])), (h5, .inr (1, [.ref m_room, .ref m_keys, .ref m_known, .ref m_kind, .ref m_keySize, .ref m_valueSize, .ref m_most, .ref m_filled, .ref m_list, .ref m_recordSize, .ref m_state, .ref m_held, .int 0])), (m_known, .inl (cZ, 8, .inl (fun _ => 0)))] sz) := by
  refine Met.ofW (cc := cX11_link) (maxL := 4) (ret := (some .boolean)) (by decide +kernel) rfl ?_
  intro p e s m args below meth c s₁ B hml hv
  obtain ⟨rfl, hsz, hP, hK, hD0⟩ := hv
  have hx := B.exec
  have hb := B.bytes
  have hr := B.returns
  have hts := atoms_spec (ws := zw_zm_link) B.pre
  have hown : s.vm.findClass RX11 = some m.cls := findClass_of_methodNamed B.named
  have hlocks := B.notSynchronized
  subst hsz
  have hD := hD0.self (sz := s.heap.size)
  generalize hAe : va_A [(h0, .inr (10, [.ref h1, .int 0, .ref h2, .ref h3, .ref h4, .ref h5, .ref h6, .ref h7])), (h5, .inr (1, [.ref m_room, .ref m_keys, .ref m_known, .ref m_kind, .ref m_keySize, .ref m_valueSize, .ref m_most, .ref m_filled, .ref m_list, .ref m_recordSize, .ref m_state, .ref m_held, .int 0])), (m_known, .inl (cZ, 8, .inl (fun _ => 0)))] s.heap.size = A at hD ⊢
  have hA : ∀ q : Nat, s.heap.size ≤ q → A q := fun q h => by rw [← hAe]; exact Or.inr h
  have hS : va_S A s.heap s.heap [] := va_S.rf
  have hP : va_P (dC, dI) zz_cl [(h0, .inr (10, [.ref h1, .int 0, .ref h2, .ref h3, .ref h4, .ref h5, .ref h6, .ref h7])), (h5, .inr (1, [.ref m_room, .ref m_keys, .ref m_known, .ref m_kind, .ref m_keySize, .ref m_valueSize, .ref m_most, .ref m_filled, .ref m_list, .ref m_recordSize, .ref m_state, .ref m_held, .int 0])), (m_known, .inl (cZ, 8, .inl (fun _ => 0)))] s.heap := hP
  have hl := lv_entry ([.ref h0, .int p0, .int p1, .int p2]) (n := 4) (Nat.le_of_ble_eq_true rfl)
  rw [lg_entry_eq]
  generalize (lg_sl ([.ref h0, .int p0, .int p1, .int p2]) ++ List.replicate (4 - (lg_sl ([.ref h0, .int p0, .int p1, .int p2])).length) Slot.unset).toArray = ls at hl ⊢
  have hl : lv_has ls 4 [(0, .ref h0), (1, .int p0), (2, .int p1), (3, .int p2)] := hl
  refine lv_aload_n hx hb dX11_link_0 rfl (lv_at hl 0 rfl) ?_
  refine va_get (D := (dC, dI)) (ci := 10) (v := .ref h5) (C := RX11) (T := TX11) (N := 8) hx hb hts zz_in_zm_link_X11 hown hK hP 0 rfl rfl 5 (by decide +kernel) (hts (.fieldLink RX11 41 "FilterHouse" "maps" "LFilterHouse$Maps;") (List.mem_of_getElem? (i := 1) rfl)) (fun _ h9 => h9) rfl dX11_link_1 ?_
  refine lv_iload_n hx hb dX11_link_4 rfl (lv_at hl 1 rfl) ?_
  refine lv_iconst (v := 2) hx hb dX11_link_5 (by decide +kernel) ?_
  have hPc := hP.sub (ws' := [(h5, .inr (1, [.ref m_room, .ref m_keys, .ref m_known, .ref m_kind, .ref m_keySize, .ref m_valueSize, .ref m_most, .ref m_filled, .ref m_list, .ref m_recordSize, .ref m_state, .ref m_held, .int 0])), (m_known, .inl (cZ, 8, .inl (fun _ => 0)))]) [1, 2] rfl
  have hDc := hD.sub (ws' := [(h5, .inr (1, [.ref m_room, .ref m_keys, .ref m_known, .ref m_kind, .ref m_keySize, .ref m_valueSize, .ref m_most, .ref m_filled, .ref m_list, .ref m_recordSize, .ref m_state, .ref m_held, .int 0])), (m_known, .inl (cZ, 8, .inl (fun _ => 0)))]) [1, 2] (by decide +kernel) rfl
  have hFc := va_free (wc := [(h5, .inr (1, [.ref m_room, .ref m_keys, .ref m_known, .ref m_kind, .ref m_keySize, .ref m_valueSize, .ref m_most, .ref m_filled, .ref m_list, .ref m_recordSize, .ref m_state, .ref m_held, .int 0])), (m_known, .inl (cZ, 8, .inl (fun _ => 0)))]) hD hS hA [1, 2] rfl
  refine va_calli (va_runV (As := [.int p0, .int 2]) (rest := []) ⟨hx, hb, hml, hown, hts⟩ (zm_isKind l dC dI cB cI cJ cZ h5 m_known m_room m_keys m_kind m_keySize m_valueSize m_most m_filled m_list m_recordSize m_state m_held s.heap.size p0 2) (cwV 2 hts (goodIn_app (goodIn_r [.methodLink RX11 175 yX2_isKind, .instanceMethod yX2_isKind, .selects RX2 yX2_isKind yX2_isKind, .initialized RX2] [9, 10, 11, 7] rfl (by decide +kernel)) zz_g_zm_link_zm_isKind) rfl rfl rfl (by decide +kernel) ⟨Nat.le_of_ble_eq_true rfl, Nat.le_of_ble_eq_true rfl⟩) ⟨fun a U g mk q => by obtain ⟨q0, q1, qP, qK, qD⟩ := q; exact ⟨q0, q1, qP, va_K.moved (u := U) (U := U.calling g mk a) (Vm.Alike.refl U.vm) qK, qD⟩, va_recv hK hPc (ci := 1) (q0 := 0) rfl rfl, fun U hU hW => ⟨rfl, by rw [hU], by rw [hU]; exact hPc, va_K.moved hW.alike hK, hDc.weaken (fun _ _ _ _ => trivial)⟩⟩ rfl rfl hl.1 rfl (lv_room (Nat.le_of_ble_eq_true rfl)) dX11_link_6 ⟨Nat.le_of_ble_eq_true rfl, Nat.le_of_ble_eq_true rfl⟩) hS (fun q _ h => hFc q h) hFc (fun r_1 u_3 t H1 locs ht hvm hw_2 hB hz1 hk1 hS => ?_)
  obtain ⟨hP, hD⟩ := va_join (wr := [(h0, .inr (10, [.ref h1, .int 0, .ref h2, .ref h3, .ref h4, .ref h5, .ref h6, .ref h7]))]) (w1 := []) hP hD [1, 2] [0] rfl rfl (by decide +kernel) (by decide +kernel) hk1 hFc zz_P0 zz_D0
  generalize H1 = H at hP hS ⊢
  have hP : va_P (dC, dI) zz_cl [(h0, .inr (10, [.ref h1, .int 0, .ref h2, .ref h3, .ref h4, .ref h5, .ref h6, .ref h7]))] H := hP
  have hD : va_D A [(h0, .inr (10, [.ref h1, .int 0, .ref h2, .ref h3, .ref h4, .ref h5, .ref h6, .ref h7]))] := hD
  try dsimp only at hw_2
  obtain rfl : r_1 = (0 : Int32) := hw_2
  refine lv_if_eq (tgt := 29) hx hb dX11_link_9 (by decide +kernel) (fun c_4 => ?_) (fun c_4 => ?_)
  · refine lv_iconst (v := 0) hx hb dX11_link_29 (by decide +kernel) ?_
    exact W.zret (v := 0) (ty := .boolean) hx hb hr rfl (fun t ht hW => ⟨⟨0, (), rfl, rfl, trivial⟩, hS.F ht⟩) hS.2.2 dX11_link_30
  · exact absurd c_4 (by decide +kernel)
def zw_zm_next : List Cond := .code yX11_next cX11_next 3 (some .int) :: ([.fieldLink RX11 41 "FilterHouse" "maps" "LFilterHouse$Maps;", .fieldLink RX2 18 "FilterHouse$Maps" "known" "[Z", .code yX2_isTold cX2_isTold 2 (some .boolean), .methodLink RX2 54 yX2_isTold, .instanceMethod yX2_isTold, .selects RX2 yX2_isTold yX2_isTold, .initialized RX2, .code yX2_isKind cX2_isKind 3 (some .boolean), .methodLink RX11 175 yX2_isKind, .instanceMethod yX2_isKind, .selects RX2 yX2_isKind yX2_isKind] ++ (wsX110 ++ (wsX20 ++ [])))
theorem zz_in_zm_next_X11 : ∀ w ∈ wsX110, w ∈ zw_zm_next := fun w h => List.mem_cons_of_mem _ (List.mem_append_right _ (List.mem_append_left _ h))
theorem zz_in_zm_next_X2 : ∀ w ∈ wsX20, w ∈ zw_zm_next := fun w h => List.mem_cons_of_mem _ (List.mem_append_right _ (List.mem_append_right _ (List.mem_append_left _ h)))
set_option maxRecDepth 20000 in
theorem zz_g_zm_next_zm_isKind : GoodIn zw_zm_next zw_zm_isKind := goodIn_ca (goodIn_r ([.code yX2_isKind cX2_isKind 3 (some .boolean), .fieldLink RX2 18 "FilterHouse$Maps" "known" "[Z", .code yX2_isTold cX2_isTold 2 (some .boolean), .methodLink RX2 54 yX2_isTold, .instanceMethod yX2_isTold, .selects RX2 yX2_isTold yX2_isTold, .initialized RX2]) [8, 2, 3, 4, 5, 6, 7] rfl (by decide +kernel)) (goodIn_app (goodIn_sub zz_in_zm_next_X2 zz_gw_X2) (goodIn_sub (fun _ h => absurd h List.not_mem_nil) rfl))
set_option maxHeartbeats 1000000 in
set_option maxRecDepth 100000 in
/-- zm_next -/
theorem zm_next (l : Launch) (dC : Nat → ClassId) (dI : Nat → Nat → Nat) (cB cI cJ cZ : ClassId) (h0 h5 m_known h1 h2 h3 h4 h6 h7 m_room m_keys m_kind m_keySize m_valueSize m_most m_filled m_list m_recordSize m_state m_held : Nat) (sz : Nat) (p0 : Int32) : Met l yX11_next zw_zm_next ({ frames := 2, cells := 0, slots := 0, locals := 43 }) (va_Pc [.ref h0, .int p0] (fun U => U.heap.size = sz ∧ va_P (dC, dI) zz_cl [(h0, .inr (10, [.ref h1, .int 0, .ref h2, .ref h3, .ref h4, .ref h5, .ref h6, .ref h7])), (h5, .inr (1, [.ref m_room, .ref m_keys, .ref m_known, .ref m_kind, .ref m_keySize, .ref m_valueSize, .ref m_most, .ref m_filled, .ref m_list, .ref m_recordSize, .ref m_state, .ref m_held, .int 0])), (m_known, .inl (cZ, 8, .inl (fun _ => 0)))] U.heap ∧ va_K (dC, dI) zz_cl [(cB, .byte), (cI, .int), (cJ, .long), (cZ, .boolean)] U ∧ va_D (fun _ => True) [(h0, .inr (10, [.ref h1, .int 0, .ref h2, .ref h3, .ref h4, .ref h5, .ref h6, .ref h7])), (h5, .inr (1, [.ref m_room, .ref m_keys, .ref m_known, .ref m_kind, .ref m_keySize, .ref m_valueSize, .ref m_most, .ref m_filled, .ref m_list, .ref m_recordSize, .ref m_state, .ref m_held, .int 0])), (m_known, .inl (cZ, 8, .inl (fun _ => 0)))])) (va_Qi (fun (r : Int32) (_ : Unit) => r = (-1)) (fun (_ : Unit) _ => True) (va_A [(h0, .inr (10, [.ref h1, .int 0, .ref h2, .ref h3, .ref h4, .ref h5, .ref h6, .ref h7])), (h5, .inr (1, [.ref m_room, .ref m_keys, .ref m_known, .ref m_kind, .ref m_keySize, .ref m_valueSize, .ref m_most, .ref m_filled, .ref m_list, .ref m_recordSize, .ref m_state, .ref m_held, .int 0])), (m_known, .inl (cZ, 8, .inl (fun _ => 0)))] sz)) 0 0 (va_A [(h0, .inr (10, [.ref h1, .int 0, .ref h2, .ref h3, .ref h4, .ref h5, .ref h6, .ref h7])), (h5, .inr (1, [.ref m_room, .ref m_keys, .ref m_known, .ref m_kind, .ref m_keySize, .ref m_valueSize, .ref m_most, .ref m_filled, .ref m_list, .ref m_recordSize, .ref m_state, .ref m_held, .int 0])), (m_known, .inl (cZ, 8, .inl (fun _ => 0)))] sz) := by
  refine Met.ofW (cc := cX11_next) (maxL := 3) (ret := (some .int)) (by decide +kernel) rfl ?_
  intro p e s m args below meth c s₁ B hml hv
  obtain ⟨rfl, hsz, hP, hK, hD0⟩ := hv
  have hx := B.exec
  have hb := B.bytes
  have hr := B.returns
  have hts := atoms_spec (ws := zw_zm_next) B.pre
  have hown : s.vm.findClass RX11 = some m.cls := findClass_of_methodNamed B.named
  have hlocks := B.notSynchronized
  subst hsz
  have hD := hD0.self (sz := s.heap.size)
  generalize hAe : va_A [(h0, .inr (10, [.ref h1, .int 0, .ref h2, .ref h3, .ref h4, .ref h5, .ref h6, .ref h7])), (h5, .inr (1, [.ref m_room, .ref m_keys, .ref m_known, .ref m_kind, .ref m_keySize, .ref m_valueSize, .ref m_most, .ref m_filled, .ref m_list, .ref m_recordSize, .ref m_state, .ref m_held, .int 0])), (m_known, .inl (cZ, 8, .inl (fun _ => 0)))] s.heap.size = A at hD ⊢
  have hA : ∀ q : Nat, s.heap.size ≤ q → A q := fun q h => by rw [← hAe]; exact Or.inr h
  have hS : va_S A s.heap s.heap [] := va_S.rf
  have hP : va_P (dC, dI) zz_cl [(h0, .inr (10, [.ref h1, .int 0, .ref h2, .ref h3, .ref h4, .ref h5, .ref h6, .ref h7])), (h5, .inr (1, [.ref m_room, .ref m_keys, .ref m_known, .ref m_kind, .ref m_keySize, .ref m_valueSize, .ref m_most, .ref m_filled, .ref m_list, .ref m_recordSize, .ref m_state, .ref m_held, .int 0])), (m_known, .inl (cZ, 8, .inl (fun _ => 0)))] s.heap := hP
  have hl := lv_entry ([.ref h0, .int p0]) (n := 3) (Nat.le_of_ble_eq_true rfl)
  rw [lg_entry_eq]
  generalize (lg_sl ([.ref h0, .int p0]) ++ List.replicate (3 - (lg_sl ([.ref h0, .int p0])).length) Slot.unset).toArray = ls at hl ⊢
  have hl : lv_has ls 3 [(0, .ref h0), (1, .int p0)] := hl
  refine lv_aload_n hx hb dX11_next_0 rfl (lv_at hl 0 rfl) ?_
  refine va_get (D := (dC, dI)) (ci := 10) (v := .ref h5) (C := RX11) (T := TX11) (N := 8) hx hb hts zz_in_zm_next_X11 hown hK hP 0 rfl rfl 5 (by decide +kernel) (hts (.fieldLink RX11 41 "FilterHouse" "maps" "LFilterHouse$Maps;") (List.mem_of_getElem? (i := 1) rfl)) (fun _ h9 => h9) rfl dX11_next_1 ?_
  refine lv_iload_n hx hb dX11_next_4 rfl (lv_at hl 1 rfl) ?_
  refine lv_iconst (v := 3) hx hb dX11_next_5 (by decide +kernel) ?_
  have hPc := hP.sub (ws' := [(h5, .inr (1, [.ref m_room, .ref m_keys, .ref m_known, .ref m_kind, .ref m_keySize, .ref m_valueSize, .ref m_most, .ref m_filled, .ref m_list, .ref m_recordSize, .ref m_state, .ref m_held, .int 0])), (m_known, .inl (cZ, 8, .inl (fun _ => 0)))]) [1, 2] rfl
  have hDc := hD.sub (ws' := [(h5, .inr (1, [.ref m_room, .ref m_keys, .ref m_known, .ref m_kind, .ref m_keySize, .ref m_valueSize, .ref m_most, .ref m_filled, .ref m_list, .ref m_recordSize, .ref m_state, .ref m_held, .int 0])), (m_known, .inl (cZ, 8, .inl (fun _ => 0)))]) [1, 2] (by decide +kernel) rfl
  have hFc := va_free (wc := [(h5, .inr (1, [.ref m_room, .ref m_keys, .ref m_known, .ref m_kind, .ref m_keySize, .ref m_valueSize, .ref m_most, .ref m_filled, .ref m_list, .ref m_recordSize, .ref m_state, .ref m_held, .int 0])), (m_known, .inl (cZ, 8, .inl (fun _ => 0)))]) hD hS hA [1, 2] rfl
  refine va_calli (va_runV (As := [.int p0, .int 3]) (rest := []) ⟨hx, hb, hml, hown, hts⟩ (zm_isKind l dC dI cB cI cJ cZ h5 m_known m_room m_keys m_kind m_keySize m_valueSize m_most m_filled m_list m_recordSize m_state m_held s.heap.size p0 3) (cwV 2 hts (goodIn_app (goodIn_r [.methodLink RX11 175 yX2_isKind, .instanceMethod yX2_isKind, .selects RX2 yX2_isKind yX2_isKind, .initialized RX2] [9, 10, 11, 7] rfl (by decide +kernel)) zz_g_zm_next_zm_isKind) rfl rfl rfl (by decide +kernel) ⟨Nat.le_of_ble_eq_true rfl, Nat.le_of_ble_eq_true rfl⟩) ⟨fun a U g mk q => by obtain ⟨q0, q1, qP, qK, qD⟩ := q; exact ⟨q0, q1, qP, va_K.moved (u := U) (U := U.calling g mk a) (Vm.Alike.refl U.vm) qK, qD⟩, va_recv hK hPc (ci := 1) (q0 := 0) rfl rfl, fun U hU hW => ⟨rfl, by rw [hU], by rw [hU]; exact hPc, va_K.moved hW.alike hK, hDc.weaken (fun _ _ _ _ => trivial)⟩⟩ rfl rfl hl.1 rfl (lv_room (Nat.le_of_ble_eq_true rfl)) dX11_next_6 ⟨Nat.le_of_ble_eq_true rfl, Nat.le_of_ble_eq_true rfl⟩) hS (fun q _ h => hFc q h) hFc (fun r_1 u_3 t H1 locs ht hvm hw_2 hB hz1 hk1 hS => ?_)
  obtain ⟨hP, hD⟩ := va_join (wr := [(h0, .inr (10, [.ref h1, .int 0, .ref h2, .ref h3, .ref h4, .ref h5, .ref h6, .ref h7]))]) (w1 := []) hP hD [1, 2] [0] rfl rfl (by decide +kernel) (by decide +kernel) hk1 hFc zz_P0 zz_D0
  generalize H1 = H at hP hS ⊢
  have hP : va_P (dC, dI) zz_cl [(h0, .inr (10, [.ref h1, .int 0, .ref h2, .ref h3, .ref h4, .ref h5, .ref h6, .ref h7]))] H := hP
  have hD : va_D A [(h0, .inr (10, [.ref h1, .int 0, .ref h2, .ref h3, .ref h4, .ref h5, .ref h6, .ref h7]))] := hD
  try dsimp only at hw_2
  obtain rfl : r_1 = (0 : Int32) := hw_2
  refine lv_if_eq (tgt := 24) hx hb dX11_next_9 (by decide +kernel) (fun c_4 => ?_) (fun c_4 => ?_)
  · refine lv_iconst (v := (-1)) hx hb dX11_next_24 (by decide +kernel) ?_
    exact W.iret (v := (-1)) hx hb hr (fun t ht hW => ⟨⟨(-1), (), rfl, rfl, trivial⟩, hS.F ht⟩) hS.2.2 dX11_next_25
  · exact absurd c_4 (by decide +kernel)
def zw_zm_length : List Cond := .code yX11_length cX11_length 1 (some .int) :: ([.fieldLink RX11 59 "FilterHouse" "runs" "LFilterHouse$Runs;", .fieldLink RX11 216 "FilterHouse$Runs" "packetSize" "I"] ++ (wsX110 ++ (wsX70 ++ [])))
theorem zz_in_zm_length_X11 : ∀ w ∈ wsX110, w ∈ zw_zm_length := fun w h => List.mem_cons_of_mem _ (List.mem_append_right _ (List.mem_append_left _ h))
theorem zz_in_zm_length_X7 : ∀ w ∈ wsX70, w ∈ zw_zm_length := fun w h => List.mem_cons_of_mem _ (List.mem_append_right _ (List.mem_append_right _ (List.mem_append_left _ h)))
set_option maxHeartbeats 1000000 in
set_option maxRecDepth 100000 in
/-- zm_length -/
theorem zm_length (l : Launch) (dC : Nat → ClassId) (dI : Nat → Nat → Nat) (cB cI cJ cZ : ClassId) (h0 h7 h1 h2 h3 h4 h5 h6 h14 h15 h16 h17 h18 : Nat) (sz : Nat) : Met l yX11_length zw_zm_length ({ frames := 0, cells := 0, slots := 0, locals := 0 }) (va_Pc [.ref h0] (fun U => U.heap.size = sz ∧ va_P (dC, dI) zz_cl [(h0, .inr (10, [.ref h1, .int 0, .ref h2, .ref h3, .ref h4, .ref h5, .ref h6, .ref h7])), (h7, .inr (6, [.ref h3, .ref h5, .ref h14, .ref h15, .ref h16, .ref h17, .int 0, .int 0, .int 0, .int 0, .int 0, .int 0, .int 0, .long 1, .long 0, .int 0, .long 0, .ref h18, .int 0]))] U.heap ∧ va_K (dC, dI) zz_cl [(cB, .byte), (cI, .int), (cJ, .long), (cZ, .boolean)] U ∧ va_D (fun _ => True) [(h0, .inr (10, [.ref h1, .int 0, .ref h2, .ref h3, .ref h4, .ref h5, .ref h6, .ref h7])), (h7, .inr (6, [.ref h3, .ref h5, .ref h14, .ref h15, .ref h16, .ref h17, .int 0, .int 0, .int 0, .int 0, .int 0, .int 0, .int 0, .long 1, .long 0, .int 0, .long 0, .ref h18, .int 0]))])) (va_Qi (fun (r : Int32) (_ : Unit) => r = 0) (fun (_ : Unit) _ => True) (va_A [(h0, .inr (10, [.ref h1, .int 0, .ref h2, .ref h3, .ref h4, .ref h5, .ref h6, .ref h7])), (h7, .inr (6, [.ref h3, .ref h5, .ref h14, .ref h15, .ref h16, .ref h17, .int 0, .int 0, .int 0, .int 0, .int 0, .int 0, .int 0, .long 1, .long 0, .int 0, .long 0, .ref h18, .int 0]))] sz)) 0 0 (va_A [(h0, .inr (10, [.ref h1, .int 0, .ref h2, .ref h3, .ref h4, .ref h5, .ref h6, .ref h7])), (h7, .inr (6, [.ref h3, .ref h5, .ref h14, .ref h15, .ref h16, .ref h17, .int 0, .int 0, .int 0, .int 0, .int 0, .int 0, .int 0, .long 1, .long 0, .int 0, .long 0, .ref h18, .int 0]))] sz) := by
  refine Met.ofW (cc := cX11_length) (maxL := 1) (ret := (some .int)) (by decide +kernel) rfl ?_
  intro p e s m args below meth c s₁ B hml hv
  obtain ⟨rfl, hsz, hP, hK, hD0⟩ := hv
  have hx := B.exec
  have hb := B.bytes
  have hr := B.returns
  have hts := atoms_spec (ws := zw_zm_length) B.pre
  have hown : s.vm.findClass RX11 = some m.cls := findClass_of_methodNamed B.named
  have hlocks := B.notSynchronized
  subst hsz
  have hD := hD0.self (sz := s.heap.size)
  generalize hAe : va_A [(h0, .inr (10, [.ref h1, .int 0, .ref h2, .ref h3, .ref h4, .ref h5, .ref h6, .ref h7])), (h7, .inr (6, [.ref h3, .ref h5, .ref h14, .ref h15, .ref h16, .ref h17, .int 0, .int 0, .int 0, .int 0, .int 0, .int 0, .int 0, .long 1, .long 0, .int 0, .long 0, .ref h18, .int 0]))] s.heap.size = A at hD ⊢
  have hA : ∀ q : Nat, s.heap.size ≤ q → A q := fun q h => by rw [← hAe]; exact Or.inr h
  have hS : va_S A s.heap s.heap [] := va_S.rf
  have hP : va_P (dC, dI) zz_cl [(h0, .inr (10, [.ref h1, .int 0, .ref h2, .ref h3, .ref h4, .ref h5, .ref h6, .ref h7])), (h7, .inr (6, [.ref h3, .ref h5, .ref h14, .ref h15, .ref h16, .ref h17, .int 0, .int 0, .int 0, .int 0, .int 0, .int 0, .int 0, .long 1, .long 0, .int 0, .long 0, .ref h18, .int 0]))] s.heap := hP
  have hl := lv_entry ([.ref h0]) (n := 1) (Nat.le_of_ble_eq_true rfl)
  rw [lg_entry_eq]
  generalize (lg_sl ([.ref h0]) ++ List.replicate (1 - (lg_sl ([.ref h0])).length) Slot.unset).toArray = ls at hl ⊢
  have hl : lv_has ls 1 [(0, .ref h0)] := hl
  refine lv_aload_n hx hb dX11_length_0 rfl (lv_at hl 0 rfl) ?_
  refine va_get (D := (dC, dI)) (ci := 10) (v := .ref h7) (C := RX11) (T := TX11) (N := 8) hx hb hts zz_in_zm_length_X11 hown hK hP 0 rfl rfl 7 (by decide +kernel) (hts (.fieldLink RX11 59 "FilterHouse" "runs" "LFilterHouse$Runs;") (List.mem_of_getElem? (i := 1) rfl)) (fun _ h9 => h9) rfl dX11_length_1 ?_
  refine va_get (D := (dC, dI)) (ci := 6) (v := .int 0) (C := RX7) (T := TX7) (N := 19) hx hb hts zz_in_zm_length_X7 hown hK hP 1 rfl rfl 10 (by decide +kernel) (hts (.fieldLink RX11 216 "FilterHouse$Runs" "packetSize" "I") (List.mem_of_getElem? (i := 2) rfl)) (fun _ h9 => h9) rfl dX11_length_4 ?_
  exact W.iret (v := 0) hx hb hr (fun t ht hW => ⟨⟨0, (), rfl, rfl, trivial⟩, hS.F ht⟩) hS.2.2 dX11_length_7
def zw_zm_packetByte : List Cond := .code yX11_packetByte cX11_packetByte 2 (some .int) :: ([.fieldLink RX11 59 "FilterHouse" "runs" "LFilterHouse$Runs;", .fieldLink RX11 216 "FilterHouse$Runs" "packetSize" "I"] ++ (wsX110 ++ (wsX70 ++ [])))
theorem zz_in_zm_packetByte_X11 : ∀ w ∈ wsX110, w ∈ zw_zm_packetByte := fun w h => List.mem_cons_of_mem _ (List.mem_append_right _ (List.mem_append_left _ h))
theorem zz_in_zm_packetByte_X7 : ∀ w ∈ wsX70, w ∈ zw_zm_packetByte := fun w h => List.mem_cons_of_mem _ (List.mem_append_right _ (List.mem_append_right _ (List.mem_append_left _ h)))
set_option maxHeartbeats 1000000 in
set_option maxRecDepth 100000 in
/-- zm_packetByte -/
theorem zm_packetByte (l : Launch) (dC : Nat → ClassId) (dI : Nat → Nat → Nat) (cB cI cJ cZ : ClassId) (h0 h7 h1 h2 h3 h4 h5 h6 h14 h15 h16 h17 h18 : Nat) (sz : Nat) (p0 : Int32) : Met l yX11_packetByte zw_zm_packetByte ({ frames := 0, cells := 0, slots := 0, locals := 0 }) (va_Pc [.ref h0, .int p0] (fun U => U.heap.size = sz ∧ va_P (dC, dI) zz_cl [(h0, .inr (10, [.ref h1, .int 0, .ref h2, .ref h3, .ref h4, .ref h5, .ref h6, .ref h7])), (h7, .inr (6, [.ref h3, .ref h5, .ref h14, .ref h15, .ref h16, .ref h17, .int 0, .int 0, .int 0, .int 0, .int 0, .int 0, .int 0, .long 1, .long 0, .int 0, .long 0, .ref h18, .int 0]))] U.heap ∧ va_K (dC, dI) zz_cl [(cB, .byte), (cI, .int), (cJ, .long), (cZ, .boolean)] U ∧ va_D (fun _ => True) [(h0, .inr (10, [.ref h1, .int 0, .ref h2, .ref h3, .ref h4, .ref h5, .ref h6, .ref h7])), (h7, .inr (6, [.ref h3, .ref h5, .ref h14, .ref h15, .ref h16, .ref h17, .int 0, .int 0, .int 0, .int 0, .int 0, .int 0, .int 0, .long 1, .long 0, .int 0, .long 0, .ref h18, .int 0]))])) (va_Qi (fun (r : Int32) (_ : Unit) => r = (-1)) (fun (_ : Unit) _ => True) (va_A [(h0, .inr (10, [.ref h1, .int 0, .ref h2, .ref h3, .ref h4, .ref h5, .ref h6, .ref h7])), (h7, .inr (6, [.ref h3, .ref h5, .ref h14, .ref h15, .ref h16, .ref h17, .int 0, .int 0, .int 0, .int 0, .int 0, .int 0, .int 0, .long 1, .long 0, .int 0, .long 0, .ref h18, .int 0]))] sz)) 0 0 (va_A [(h0, .inr (10, [.ref h1, .int 0, .ref h2, .ref h3, .ref h4, .ref h5, .ref h6, .ref h7])), (h7, .inr (6, [.ref h3, .ref h5, .ref h14, .ref h15, .ref h16, .ref h17, .int 0, .int 0, .int 0, .int 0, .int 0, .int 0, .int 0, .long 1, .long 0, .int 0, .long 0, .ref h18, .int 0]))] sz) := by
  refine Met.ofW (cc := cX11_packetByte) (maxL := 2) (ret := (some .int)) (by decide +kernel) rfl ?_
  intro p e s m args below meth c s₁ B hml hv
  obtain ⟨rfl, hsz, hP, hK, hD0⟩ := hv
  have hx := B.exec
  have hb := B.bytes
  have hr := B.returns
  have hts := atoms_spec (ws := zw_zm_packetByte) B.pre
  have hown : s.vm.findClass RX11 = some m.cls := findClass_of_methodNamed B.named
  have hlocks := B.notSynchronized
  subst hsz
  have hD := hD0.self (sz := s.heap.size)
  generalize hAe : va_A [(h0, .inr (10, [.ref h1, .int 0, .ref h2, .ref h3, .ref h4, .ref h5, .ref h6, .ref h7])), (h7, .inr (6, [.ref h3, .ref h5, .ref h14, .ref h15, .ref h16, .ref h17, .int 0, .int 0, .int 0, .int 0, .int 0, .int 0, .int 0, .long 1, .long 0, .int 0, .long 0, .ref h18, .int 0]))] s.heap.size = A at hD ⊢
  have hA : ∀ q : Nat, s.heap.size ≤ q → A q := fun q h => by rw [← hAe]; exact Or.inr h
  have hS : va_S A s.heap s.heap [] := va_S.rf
  have hP : va_P (dC, dI) zz_cl [(h0, .inr (10, [.ref h1, .int 0, .ref h2, .ref h3, .ref h4, .ref h5, .ref h6, .ref h7])), (h7, .inr (6, [.ref h3, .ref h5, .ref h14, .ref h15, .ref h16, .ref h17, .int 0, .int 0, .int 0, .int 0, .int 0, .int 0, .int 0, .long 1, .long 0, .int 0, .long 0, .ref h18, .int 0]))] s.heap := hP
  have hl := lv_entry ([.ref h0, .int p0]) (n := 2) (Nat.le_of_ble_eq_true rfl)
  rw [lg_entry_eq]
  generalize (lg_sl ([.ref h0, .int p0]) ++ List.replicate (2 - (lg_sl ([.ref h0, .int p0])).length) Slot.unset).toArray = ls at hl ⊢
  have hl : lv_has ls 2 [(0, .ref h0), (1, .int p0)] := hl
  refine lv_iload_n hx hb dX11_packetByte_0 rfl (lv_at hl 1 rfl) ?_
  refine lv_if_lt (tgt := 15) hx hb dX11_packetByte_1 (by decide +kernel) (fun c_1 => ?_) (fun c_1 => ?_)
  · refine lv_iconst (v := (-1)) hx hb dX11_packetByte_15 (by decide +kernel) ?_
    refine lv_goto (tgt := 34) hx hb dX11_packetByte_16 (by decide +kernel) ?_
    exact W.iret (v := (-1)) hx hb hr (fun t ht hW => ⟨⟨(-1), (), rfl, rfl, trivial⟩, hS.F ht⟩) hS.2.2 dX11_packetByte_34
  · refine lv_iload_n hx hb dX11_packetByte_4 rfl (lv_at hl 1 rfl) ?_
    refine lv_aload_n hx hb dX11_packetByte_5 rfl (lv_at hl 0 rfl) ?_
    refine va_get (D := (dC, dI)) (ci := 10) (v := .ref h7) (C := RX11) (T := TX11) (N := 8) hx hb hts zz_in_zm_packetByte_X11 hown hK hP 0 rfl rfl 7 (by decide +kernel) (hts (.fieldLink RX11 59 "FilterHouse" "runs" "LFilterHouse$Runs;") (List.mem_of_getElem? (i := 1) rfl)) (fun _ h9 => h9) rfl dX11_packetByte_6 ?_
    refine va_get (D := (dC, dI)) (ci := 6) (v := .int 0) (C := RX7) (T := TX7) (N := 19) hx hb hts zz_in_zm_packetByte_X7 hown hK hP 1 rfl rfl 10 (by decide +kernel) (hts (.fieldLink RX11 216 "FilterHouse$Runs" "packetSize" "I") (List.mem_of_getElem? (i := 2) rfl)) (fun _ h9 => h9) rfl dX11_packetByte_9 ?_
    refine lv_icmp_lt (tgt := 19) hx hb dX11_packetByte_12 (by decide +kernel) (fun c_2 => ?_) (fun c_2 => ?_)
    · exact absurd trivial (by have qc_1 := mt (fa_lt _ _).mpr c_1; have qc_2 := (fa_lt _ _).mp c_2; have k0 : (0 : Int32).toInt = 0 := rfl; omega)
    · refine lv_iconst (v := (-1)) hx hb dX11_packetByte_15 (by decide +kernel) ?_
      refine lv_goto (tgt := 34) hx hb dX11_packetByte_16 (by decide +kernel) ?_
      exact W.iret (v := (-1)) hx hb hr (fun t ht hW => ⟨⟨(-1), (), rfl, rfl, trivial⟩, hS.F ht⟩) hS.2.2 dX11_packetByte_34
def zw_zm_given : List Cond := .code yX11_given cX11_given 3 none :: ([.fieldLink RX11 59 "FilterHouse" "runs" "LFilterHouse$Runs;", .fieldLink RX11 219 "FilterHouse$Runs" "mark" "I", .fieldLink RX11 222 "FilterHouse$Runs" "source" "I"] ++ (wsX110 ++ (wsX70 ++ [])))
theorem zz_in_zm_given_X11 : ∀ w ∈ wsX110, w ∈ zw_zm_given := fun w h => List.mem_cons_of_mem _ (List.mem_append_right _ (List.mem_append_left _ h))
theorem zz_in_zm_given_X7 : ∀ w ∈ wsX70, w ∈ zw_zm_given := fun w h => List.mem_cons_of_mem _ (List.mem_append_right _ (List.mem_append_right _ (List.mem_append_left _ h)))
set_option maxHeartbeats 1000000 in
set_option maxRecDepth 100000 in
/-- zm_given -/
theorem zm_given (l : Launch) (dC : Nat → ClassId) (dI : Nat → Nat → Nat) (cB cI cJ cZ : ClassId) (h0 h7 h1 h2 h3 h4 h5 h6 h14 h15 h16 h17 h18 : Nat) (sz : Nat) (p0 : Int32) (p1 : Int32) : Met l yX11_given zw_zm_given ({ frames := 0, cells := 0, slots := 0, locals := 0 }) (va_Pc [.ref h0, .int p0, .int p1] (fun U => U.heap.size = sz ∧ va_P (dC, dI) zz_cl [(h0, .inr (10, [.ref h1, .int 0, .ref h2, .ref h3, .ref h4, .ref h5, .ref h6, .ref h7])), (h7, .inr (6, [.ref h3, .ref h5, .ref h14, .ref h15, .ref h16, .ref h17, .int 0, .int 0, .int 0, .int 0, .int 0, .int 0, .int 0, .long 1, .long 0, .int 0, .long 0, .ref h18, .int 0]))] U.heap ∧ va_K (dC, dI) zz_cl [(cB, .byte), (cI, .int), (cJ, .long), (cZ, .boolean)] U ∧ va_D (fun _ => True) [(h0, .inr (10, [.ref h1, .int 0, .ref h2, .ref h3, .ref h4, .ref h5, .ref h6, .ref h7])), (h7, .inr (6, [.ref h3, .ref h5, .ref h14, .ref h15, .ref h16, .ref h17, .int 0, .int 0, .int 0, .int 0, .int 0, .int 0, .int 0, .long 1, .long 0, .int 0, .long 0, .ref h18, .int 0]))])) (va_Qv (fun (_ : Unit) => True) (fun (_ : Unit) _ => True) (va_A [(h0, .inr (10, [.ref h1, .int 0, .ref h2, .ref h3, .ref h4, .ref h5, .ref h6, .ref h7])), (h7, .inr (6, [.ref h3, .ref h5, .ref h14, .ref h15, .ref h16, .ref h17, .int 0, .int 0, .int 0, .int 0, .int 0, .int 0, .int 0, .long 1, .long 0, .int 0, .long 0, .ref h18, .int 0]))] sz)) 0 0 (va_A [(h0, .inr (10, [.ref h1, .int 0, .ref h2, .ref h3, .ref h4, .ref h5, .ref h6, .ref h7])), (h7, .inr (6, [.ref h3, .ref h5, .ref h14, .ref h15, .ref h16, .ref h17, .int 0, .int 0, .int 0, .int 0, .int 0, .int 0, .int 0, .long 1, .long 0, .int 0, .long 0, .ref h18, .int 0]))] sz) := by
  refine Met.ofW (cc := cX11_given) (maxL := 3) (ret := none) (by decide +kernel) rfl ?_
  intro p e s m args below meth c s₁ B hml hv
  obtain ⟨rfl, hsz, hP, hK, hD0⟩ := hv
  have hx := B.exec
  have hb := B.bytes
  have hr := B.returns
  have hts := atoms_spec (ws := zw_zm_given) B.pre
  have hown : s.vm.findClass RX11 = some m.cls := findClass_of_methodNamed B.named
  have hlocks := B.notSynchronized
  subst hsz
  have hD := hD0.self (sz := s.heap.size)
  generalize hAe : va_A [(h0, .inr (10, [.ref h1, .int 0, .ref h2, .ref h3, .ref h4, .ref h5, .ref h6, .ref h7])), (h7, .inr (6, [.ref h3, .ref h5, .ref h14, .ref h15, .ref h16, .ref h17, .int 0, .int 0, .int 0, .int 0, .int 0, .int 0, .int 0, .long 1, .long 0, .int 0, .long 0, .ref h18, .int 0]))] s.heap.size = A at hD ⊢
  have hA : ∀ q : Nat, s.heap.size ≤ q → A q := fun q h => by rw [← hAe]; exact Or.inr h
  have hS : va_S A s.heap s.heap [] := va_S.rf
  have hP : va_P (dC, dI) zz_cl [(h0, .inr (10, [.ref h1, .int 0, .ref h2, .ref h3, .ref h4, .ref h5, .ref h6, .ref h7])), (h7, .inr (6, [.ref h3, .ref h5, .ref h14, .ref h15, .ref h16, .ref h17, .int 0, .int 0, .int 0, .int 0, .int 0, .int 0, .int 0, .long 1, .long 0, .int 0, .long 0, .ref h18, .int 0]))] s.heap := hP
  have hl := lv_entry ([.ref h0, .int p0, .int p1]) (n := 3) (Nat.le_of_ble_eq_true rfl)
  rw [lg_entry_eq]
  generalize (lg_sl ([.ref h0, .int p0, .int p1]) ++ List.replicate (3 - (lg_sl ([.ref h0, .int p0, .int p1])).length) Slot.unset).toArray = ls at hl ⊢
  have hl : lv_has ls 3 [(0, .ref h0), (1, .int p0), (2, .int p1)] := hl
  refine lv_aload_n hx hb dX11_given_0 rfl (lv_at hl 0 rfl) ?_
  refine va_get (D := (dC, dI)) (ci := 10) (v := .ref h7) (C := RX11) (T := TX11) (N := 8) hx hb hts zz_in_zm_given_X11 hown hK hP 0 rfl rfl 7 (by decide +kernel) (hts (.fieldLink RX11 59 "FilterHouse" "runs" "LFilterHouse$Runs;") (List.mem_of_getElem? (i := 1) rfl)) (fun _ h9 => h9) rfl dX11_given_1 ?_
  refine lv_iload_n hx hb dX11_given_4 rfl (lv_at hl 1 rfl) ?_
  refine va_put (D := (dC, dI)) (ci := 6) (v := .int p0) (ty := .int) (C := RX7) (T := TX7) (N := 19) hx hb hts zz_in_zm_given_X7 tyX7 tyX7_ok nmX7 hown hK hP hD hS 1 rfl rfl 11 (by decide +kernel) (hts (.fieldLink RX11 219 "FilterHouse$Runs" "mark" "I") (List.mem_of_getElem? (i := 2) rfl)) (fun _ h9 => h9) rfl (by decide +kernel) rfl rfl (Nat.le_of_ble_eq_true rfl) dX11_given_5 (fun H locs hP hD hS => ?_)
  have hP : va_P (dC, dI) zz_cl [(h0, .inr (10, [.ref h1, .int 0, .ref h2, .ref h3, .ref h4, .ref h5, .ref h6, .ref h7])), (h7, .inr (6, [.ref h3, .ref h5, .ref h14, .ref h15, .ref h16, .ref h17, .int 0, .int 0, .int 0, .int 0, .int 0, .int p0, .int 0, .long 1, .long 0, .int 0, .long 0, .ref h18, .int 0]))] H := hP
  have hD : va_D A [(h0, .inr (10, [.ref h1, .int 0, .ref h2, .ref h3, .ref h4, .ref h5, .ref h6, .ref h7])), (h7, .inr (6, [.ref h3, .ref h5, .ref h14, .ref h15, .ref h16, .ref h17, .int 0, .int 0, .int 0, .int 0, .int 0, .int p0, .int 0, .long 1, .long 0, .int 0, .long 0, .ref h18, .int 0]))] := hD
  refine lv_aload_n hx hb dX11_given_8 rfl (lv_at hl 0 rfl) ?_
  refine va_get (D := (dC, dI)) (ci := 10) (v := .ref h7) (C := RX11) (T := TX11) (N := 8) hx hb hts zz_in_zm_given_X11 hown hK hP 0 rfl rfl 7 (by decide +kernel) (hts (.fieldLink RX11 59 "FilterHouse" "runs" "LFilterHouse$Runs;") (List.mem_of_getElem? (i := 1) rfl)) (fun _ h9 => h9) rfl dX11_given_9 ?_
  refine lv_iload_n hx hb dX11_given_12 rfl (lv_at hl 2 rfl) ?_
  refine va_put (D := (dC, dI)) (ci := 6) (v := .int p1) (ty := .int) (C := RX7) (T := TX7) (N := 19) hx hb hts zz_in_zm_given_X7 tyX7 tyX7_ok nmX7 hown hK hP hD hS 1 rfl rfl 12 (by decide +kernel) (hts (.fieldLink RX11 222 "FilterHouse$Runs" "source" "I") (List.mem_of_getElem? (i := 3) rfl)) (fun _ h9 => h9) rfl (by decide +kernel) rfl rfl (Nat.le_of_ble_eq_true rfl) dX11_given_13 (fun H locs hP hD hS => ?_)
  have hP : va_P (dC, dI) zz_cl [(h0, .inr (10, [.ref h1, .int 0, .ref h2, .ref h3, .ref h4, .ref h5, .ref h6, .ref h7])), (h7, .inr (6, [.ref h3, .ref h5, .ref h14, .ref h15, .ref h16, .ref h17, .int 0, .int 0, .int 0, .int 0, .int 0, .int p0, .int p1, .long 1, .long 0, .int 0, .long 0, .ref h18, .int 0]))] H := hP
  have hD : va_D A [(h0, .inr (10, [.ref h1, .int 0, .ref h2, .ref h3, .ref h4, .ref h5, .ref h6, .ref h7])), (h7, .inr (6, [.ref h3, .ref h5, .ref h14, .ref h15, .ref h16, .ref h17, .int 0, .int 0, .int 0, .int 0, .int 0, .int p0, .int p1, .long 1, .long 0, .int 0, .long 0, .ref h18, .int 0]))] := hD
  exact W.vret hx hb hr (fun t ht hW => ⟨⟨(), rfl, trivial, trivial⟩, hS.F ht⟩) hS.2.2 dX11_given_16
def zw_zm_mark : List Cond := .code yX11_mark cX11_mark 1 (some .int) :: ([.fieldLink RX11 59 "FilterHouse" "runs" "LFilterHouse$Runs;", .fieldLink RX11 219 "FilterHouse$Runs" "mark" "I"] ++ (wsX110 ++ (wsX70 ++ [])))
theorem zz_in_zm_mark_X11 : ∀ w ∈ wsX110, w ∈ zw_zm_mark := fun w h => List.mem_cons_of_mem _ (List.mem_append_right _ (List.mem_append_left _ h))
theorem zz_in_zm_mark_X7 : ∀ w ∈ wsX70, w ∈ zw_zm_mark := fun w h => List.mem_cons_of_mem _ (List.mem_append_right _ (List.mem_append_right _ (List.mem_append_left _ h)))
set_option maxHeartbeats 1000000 in
set_option maxRecDepth 100000 in
/-- zm_mark -/
theorem zm_mark (l : Launch) (dC : Nat → ClassId) (dI : Nat → Nat → Nat) (cB cI cJ cZ : ClassId) (h0 h7 h1 h2 h3 h4 h5 h6 h14 h15 h16 h17 h18 : Nat) (sz : Nat) : Met l yX11_mark zw_zm_mark ({ frames := 0, cells := 0, slots := 0, locals := 0 }) (va_Pc [.ref h0] (fun U => U.heap.size = sz ∧ va_P (dC, dI) zz_cl [(h0, .inr (10, [.ref h1, .int 0, .ref h2, .ref h3, .ref h4, .ref h5, .ref h6, .ref h7])), (h7, .inr (6, [.ref h3, .ref h5, .ref h14, .ref h15, .ref h16, .ref h17, .int 0, .int 0, .int 0, .int 0, .int 0, .int 0, .int 0, .long 1, .long 0, .int 0, .long 0, .ref h18, .int 0]))] U.heap ∧ va_K (dC, dI) zz_cl [(cB, .byte), (cI, .int), (cJ, .long), (cZ, .boolean)] U ∧ va_D (fun _ => True) [(h0, .inr (10, [.ref h1, .int 0, .ref h2, .ref h3, .ref h4, .ref h5, .ref h6, .ref h7])), (h7, .inr (6, [.ref h3, .ref h5, .ref h14, .ref h15, .ref h16, .ref h17, .int 0, .int 0, .int 0, .int 0, .int 0, .int 0, .int 0, .long 1, .long 0, .int 0, .long 0, .ref h18, .int 0]))])) (va_Qi (fun (r : Int32) (_ : Unit) => r = 0) (fun (_ : Unit) _ => True) (va_A [(h0, .inr (10, [.ref h1, .int 0, .ref h2, .ref h3, .ref h4, .ref h5, .ref h6, .ref h7])), (h7, .inr (6, [.ref h3, .ref h5, .ref h14, .ref h15, .ref h16, .ref h17, .int 0, .int 0, .int 0, .int 0, .int 0, .int 0, .int 0, .long 1, .long 0, .int 0, .long 0, .ref h18, .int 0]))] sz)) 0 0 (va_A [(h0, .inr (10, [.ref h1, .int 0, .ref h2, .ref h3, .ref h4, .ref h5, .ref h6, .ref h7])), (h7, .inr (6, [.ref h3, .ref h5, .ref h14, .ref h15, .ref h16, .ref h17, .int 0, .int 0, .int 0, .int 0, .int 0, .int 0, .int 0, .long 1, .long 0, .int 0, .long 0, .ref h18, .int 0]))] sz) := by
  refine Met.ofW (cc := cX11_mark) (maxL := 1) (ret := (some .int)) (by decide +kernel) rfl ?_
  intro p e s m args below meth c s₁ B hml hv
  obtain ⟨rfl, hsz, hP, hK, hD0⟩ := hv
  have hx := B.exec
  have hb := B.bytes
  have hr := B.returns
  have hts := atoms_spec (ws := zw_zm_mark) B.pre
  have hown : s.vm.findClass RX11 = some m.cls := findClass_of_methodNamed B.named
  have hlocks := B.notSynchronized
  subst hsz
  have hD := hD0.self (sz := s.heap.size)
  generalize hAe : va_A [(h0, .inr (10, [.ref h1, .int 0, .ref h2, .ref h3, .ref h4, .ref h5, .ref h6, .ref h7])), (h7, .inr (6, [.ref h3, .ref h5, .ref h14, .ref h15, .ref h16, .ref h17, .int 0, .int 0, .int 0, .int 0, .int 0, .int 0, .int 0, .long 1, .long 0, .int 0, .long 0, .ref h18, .int 0]))] s.heap.size = A at hD ⊢
  have hA : ∀ q : Nat, s.heap.size ≤ q → A q := fun q h => by rw [← hAe]; exact Or.inr h
  have hS : va_S A s.heap s.heap [] := va_S.rf
  have hP : va_P (dC, dI) zz_cl [(h0, .inr (10, [.ref h1, .int 0, .ref h2, .ref h3, .ref h4, .ref h5, .ref h6, .ref h7])), (h7, .inr (6, [.ref h3, .ref h5, .ref h14, .ref h15, .ref h16, .ref h17, .int 0, .int 0, .int 0, .int 0, .int 0, .int 0, .int 0, .long 1, .long 0, .int 0, .long 0, .ref h18, .int 0]))] s.heap := hP
  have hl := lv_entry ([.ref h0]) (n := 1) (Nat.le_of_ble_eq_true rfl)
  rw [lg_entry_eq]
  generalize (lg_sl ([.ref h0]) ++ List.replicate (1 - (lg_sl ([.ref h0])).length) Slot.unset).toArray = ls at hl ⊢
  have hl : lv_has ls 1 [(0, .ref h0)] := hl
  refine lv_aload_n hx hb dX11_mark_0 rfl (lv_at hl 0 rfl) ?_
  refine va_get (D := (dC, dI)) (ci := 10) (v := .ref h7) (C := RX11) (T := TX11) (N := 8) hx hb hts zz_in_zm_mark_X11 hown hK hP 0 rfl rfl 7 (by decide +kernel) (hts (.fieldLink RX11 59 "FilterHouse" "runs" "LFilterHouse$Runs;") (List.mem_of_getElem? (i := 1) rfl)) (fun _ h9 => h9) rfl dX11_mark_1 ?_
  refine va_get (D := (dC, dI)) (ci := 6) (v := .int 0) (C := RX7) (T := TX7) (N := 19) hx hb hts zz_in_zm_mark_X7 hown hK hP 1 rfl rfl 11 (by decide +kernel) (hts (.fieldLink RX11 219 "FilterHouse$Runs" "mark" "I") (List.mem_of_getElem? (i := 2) rfl)) (fun _ h9 => h9) rfl dX11_mark_4 ?_
  exact W.iret (v := 0) hx hb hr (fun t ht hW => ⟨⟨0, (), rfl, rfl, trivial⟩, hS.F ht⟩) hS.2.2 dX11_mark_7
def zw_zm_chances : List Cond := .code yX11_chances cX11_chances 3 none :: ([.fieldLink RX11 59 "FilterHouse" "runs" "LFilterHouse$Runs;", .fieldLink RX11 225 "FilterHouse$Runs" "chance" "J"] ++ (wsX110 ++ (wsX70 ++ [])))
theorem zz_in_zm_chances_X11 : ∀ w ∈ wsX110, w ∈ zw_zm_chances := fun w h => List.mem_cons_of_mem _ (List.mem_append_right _ (List.mem_append_left _ h))
theorem zz_in_zm_chances_X7 : ∀ w ∈ wsX70, w ∈ zw_zm_chances := fun w h => List.mem_cons_of_mem _ (List.mem_append_right _ (List.mem_append_right _ (List.mem_append_left _ h)))
set_option maxHeartbeats 1000000 in
set_option maxRecDepth 100000 in
/-- zm_chances -/
theorem zm_chances (l : Launch) (dC : Nat → ClassId) (dI : Nat → Nat → Nat) (cB cI cJ cZ : ClassId) (h0 h7 h1 h2 h3 h4 h5 h6 h14 h15 h16 h17 h18 : Nat) (sz : Nat) (p0 : Int64) : Met l yX11_chances zw_zm_chances ({ frames := 0, cells := 0, slots := 0, locals := 0 }) (va_Pc [.ref h0, .long p0] (fun U => U.heap.size = sz ∧ va_P (dC, dI) zz_cl [(h0, .inr (10, [.ref h1, .int 0, .ref h2, .ref h3, .ref h4, .ref h5, .ref h6, .ref h7])), (h7, .inr (6, [.ref h3, .ref h5, .ref h14, .ref h15, .ref h16, .ref h17, .int 0, .int 0, .int 0, .int 0, .int 0, .int 0, .int 0, .long 1, .long 0, .int 0, .long 0, .ref h18, .int 0]))] U.heap ∧ va_K (dC, dI) zz_cl [(cB, .byte), (cI, .int), (cJ, .long), (cZ, .boolean)] U ∧ va_D (fun _ => True) [(h0, .inr (10, [.ref h1, .int 0, .ref h2, .ref h3, .ref h4, .ref h5, .ref h6, .ref h7])), (h7, .inr (6, [.ref h3, .ref h5, .ref h14, .ref h15, .ref h16, .ref h17, .int 0, .int 0, .int 0, .int 0, .int 0, .int 0, .int 0, .long 1, .long 0, .int 0, .long 0, .ref h18, .int 0]))])) (va_Qv (fun (_ : Unit) => True) (fun (_ : Unit) _ => True) (va_A [(h0, .inr (10, [.ref h1, .int 0, .ref h2, .ref h3, .ref h4, .ref h5, .ref h6, .ref h7])), (h7, .inr (6, [.ref h3, .ref h5, .ref h14, .ref h15, .ref h16, .ref h17, .int 0, .int 0, .int 0, .int 0, .int 0, .int 0, .int 0, .long 1, .long 0, .int 0, .long 0, .ref h18, .int 0]))] sz)) 0 0 (va_A [(h0, .inr (10, [.ref h1, .int 0, .ref h2, .ref h3, .ref h4, .ref h5, .ref h6, .ref h7])), (h7, .inr (6, [.ref h3, .ref h5, .ref h14, .ref h15, .ref h16, .ref h17, .int 0, .int 0, .int 0, .int 0, .int 0, .int 0, .int 0, .long 1, .long 0, .int 0, .long 0, .ref h18, .int 0]))] sz) := by
  refine Met.ofW (cc := cX11_chances) (maxL := 3) (ret := none) (by decide +kernel) rfl ?_
  intro p e s m args below meth c s₁ B hml hv
  obtain ⟨rfl, hsz, hP, hK, hD0⟩ := hv
  have hx := B.exec
  have hb := B.bytes
  have hr := B.returns
  have hts := atoms_spec (ws := zw_zm_chances) B.pre
  have hown : s.vm.findClass RX11 = some m.cls := findClass_of_methodNamed B.named
  have hlocks := B.notSynchronized
  subst hsz
  have hD := hD0.self (sz := s.heap.size)
  generalize hAe : va_A [(h0, .inr (10, [.ref h1, .int 0, .ref h2, .ref h3, .ref h4, .ref h5, .ref h6, .ref h7])), (h7, .inr (6, [.ref h3, .ref h5, .ref h14, .ref h15, .ref h16, .ref h17, .int 0, .int 0, .int 0, .int 0, .int 0, .int 0, .int 0, .long 1, .long 0, .int 0, .long 0, .ref h18, .int 0]))] s.heap.size = A at hD ⊢
  have hA : ∀ q : Nat, s.heap.size ≤ q → A q := fun q h => by rw [← hAe]; exact Or.inr h
  have hS : va_S A s.heap s.heap [] := va_S.rf
  have hP : va_P (dC, dI) zz_cl [(h0, .inr (10, [.ref h1, .int 0, .ref h2, .ref h3, .ref h4, .ref h5, .ref h6, .ref h7])), (h7, .inr (6, [.ref h3, .ref h5, .ref h14, .ref h15, .ref h16, .ref h17, .int 0, .int 0, .int 0, .int 0, .int 0, .int 0, .int 0, .long 1, .long 0, .int 0, .long 0, .ref h18, .int 0]))] s.heap := hP
  have hl := lv_entry ([.ref h0, .long p0]) (n := 3) (Nat.le_of_ble_eq_true rfl)
  rw [lg_entry_eq]
  generalize (lg_sl ([.ref h0, .long p0]) ++ List.replicate (3 - (lg_sl ([.ref h0, .long p0])).length) Slot.unset).toArray = ls at hl ⊢
  have hl : lv_has ls 3 [(0, .ref h0), (1, .long p0)] := hl
  refine lv_aload_n hx hb dX11_chances_0 rfl (lv_at hl 0 rfl) ?_
  refine va_get (D := (dC, dI)) (ci := 10) (v := .ref h7) (C := RX11) (T := TX11) (N := 8) hx hb hts zz_in_zm_chances_X11 hown hK hP 0 rfl rfl 7 (by decide +kernel) (hts (.fieldLink RX11 59 "FilterHouse" "runs" "LFilterHouse$Runs;") (List.mem_of_getElem? (i := 1) rfl)) (fun _ h9 => h9) rfl dX11_chances_1 ?_
  refine lv_lload_n hx hb dX11_chances_4 rfl (lv_at hl 1 rfl) ?_
  refine va_put (D := (dC, dI)) (ci := 6) (v := .long p0) (ty := .long) (C := RX7) (T := TX7) (N := 19) hx hb hts zz_in_zm_chances_X7 tyX7 tyX7_ok nmX7 hown hK hP hD hS 1 rfl rfl 13 (by decide +kernel) (hts (.fieldLink RX11 225 "FilterHouse$Runs" "chance" "J") (List.mem_of_getElem? (i := 2) rfl)) (fun _ h9 => h9) rfl (by decide +kernel) rfl rfl (Nat.le_of_ble_eq_true rfl) dX11_chances_5 (fun H locs hP hD hS => ?_)
  have hP : va_P (dC, dI) zz_cl [(h0, .inr (10, [.ref h1, .int 0, .ref h2, .ref h3, .ref h4, .ref h5, .ref h6, .ref h7])), (h7, .inr (6, [.ref h3, .ref h5, .ref h14, .ref h15, .ref h16, .ref h17, .int 0, .int 0, .int 0, .int 0, .int 0, .int 0, .int 0, .long p0, .long 0, .int 0, .long 0, .ref h18, .int 0]))] H := hP
  have hD : va_D A [(h0, .inr (10, [.ref h1, .int 0, .ref h2, .ref h3, .ref h4, .ref h5, .ref h6, .ref h7])), (h7, .inr (6, [.ref h3, .ref h5, .ref h14, .ref h15, .ref h16, .ref h17, .int 0, .int 0, .int 0, .int 0, .int 0, .int 0, .int 0, .long p0, .long 0, .int 0, .long 0, .ref h18, .int 0]))] := hD
  exact W.vret hx hb hr (fun t ht hW => ⟨⟨(), rfl, trivial, trivial⟩, hS.F ht⟩) hS.2.2 dX11_chances_8
def zw_zm_result : List Cond := .code yX11_result cX11_result 1 (some .long) :: ([.fieldLink RX11 59 "FilterHouse" "runs" "LFilterHouse$Runs;", .fieldLink RX11 235 "FilterHouse$Runs" "result" "J"] ++ (wsX110 ++ (wsX70 ++ [])))
theorem zz_in_zm_result_X11 : ∀ w ∈ wsX110, w ∈ zw_zm_result := fun w h => List.mem_cons_of_mem _ (List.mem_append_right _ (List.mem_append_left _ h))
theorem zz_in_zm_result_X7 : ∀ w ∈ wsX70, w ∈ zw_zm_result := fun w h => List.mem_cons_of_mem _ (List.mem_append_right _ (List.mem_append_right _ (List.mem_append_left _ h)))
set_option maxHeartbeats 1000000 in
set_option maxRecDepth 100000 in
/-- zm_result -/
theorem zm_result (l : Launch) (dC : Nat → ClassId) (dI : Nat → Nat → Nat) (cB cI cJ cZ : ClassId) (h0 h7 h1 h2 h3 h4 h5 h6 h14 h15 h16 h17 h18 : Nat) (sz : Nat) : Met l yX11_result zw_zm_result ({ frames := 0, cells := 0, slots := 0, locals := 0 }) (va_Pc [.ref h0] (fun U => U.heap.size = sz ∧ va_P (dC, dI) zz_cl [(h0, .inr (10, [.ref h1, .int 0, .ref h2, .ref h3, .ref h4, .ref h5, .ref h6, .ref h7])), (h7, .inr (6, [.ref h3, .ref h5, .ref h14, .ref h15, .ref h16, .ref h17, .int 0, .int 0, .int 0, .int 0, .int 0, .int 0, .int 0, .long 1, .long 0, .int 0, .long 0, .ref h18, .int 0]))] U.heap ∧ va_K (dC, dI) zz_cl [(cB, .byte), (cI, .int), (cJ, .long), (cZ, .boolean)] U ∧ va_D (fun _ => True) [(h0, .inr (10, [.ref h1, .int 0, .ref h2, .ref h3, .ref h4, .ref h5, .ref h6, .ref h7])), (h7, .inr (6, [.ref h3, .ref h5, .ref h14, .ref h15, .ref h16, .ref h17, .int 0, .int 0, .int 0, .int 0, .int 0, .int 0, .int 0, .long 1, .long 0, .int 0, .long 0, .ref h18, .int 0]))])) (va_Ql (fun (r : Int64) (_ : Unit) => r = 0) (fun (_ : Unit) _ => True) (va_A [(h0, .inr (10, [.ref h1, .int 0, .ref h2, .ref h3, .ref h4, .ref h5, .ref h6, .ref h7])), (h7, .inr (6, [.ref h3, .ref h5, .ref h14, .ref h15, .ref h16, .ref h17, .int 0, .int 0, .int 0, .int 0, .int 0, .int 0, .int 0, .long 1, .long 0, .int 0, .long 0, .ref h18, .int 0]))] sz)) 0 0 (va_A [(h0, .inr (10, [.ref h1, .int 0, .ref h2, .ref h3, .ref h4, .ref h5, .ref h6, .ref h7])), (h7, .inr (6, [.ref h3, .ref h5, .ref h14, .ref h15, .ref h16, .ref h17, .int 0, .int 0, .int 0, .int 0, .int 0, .int 0, .int 0, .long 1, .long 0, .int 0, .long 0, .ref h18, .int 0]))] sz) := by
  refine Met.ofW (cc := cX11_result) (maxL := 1) (ret := (some .long)) (by decide +kernel) rfl ?_
  intro p e s m args below meth c s₁ B hml hv
  obtain ⟨rfl, hsz, hP, hK, hD0⟩ := hv
  have hx := B.exec
  have hb := B.bytes
  have hr := B.returns
  have hts := atoms_spec (ws := zw_zm_result) B.pre
  have hown : s.vm.findClass RX11 = some m.cls := findClass_of_methodNamed B.named
  have hlocks := B.notSynchronized
  subst hsz
  have hD := hD0.self (sz := s.heap.size)
  generalize hAe : va_A [(h0, .inr (10, [.ref h1, .int 0, .ref h2, .ref h3, .ref h4, .ref h5, .ref h6, .ref h7])), (h7, .inr (6, [.ref h3, .ref h5, .ref h14, .ref h15, .ref h16, .ref h17, .int 0, .int 0, .int 0, .int 0, .int 0, .int 0, .int 0, .long 1, .long 0, .int 0, .long 0, .ref h18, .int 0]))] s.heap.size = A at hD ⊢
  have hA : ∀ q : Nat, s.heap.size ≤ q → A q := fun q h => by rw [← hAe]; exact Or.inr h
  have hS : va_S A s.heap s.heap [] := va_S.rf
  have hP : va_P (dC, dI) zz_cl [(h0, .inr (10, [.ref h1, .int 0, .ref h2, .ref h3, .ref h4, .ref h5, .ref h6, .ref h7])), (h7, .inr (6, [.ref h3, .ref h5, .ref h14, .ref h15, .ref h16, .ref h17, .int 0, .int 0, .int 0, .int 0, .int 0, .int 0, .int 0, .long 1, .long 0, .int 0, .long 0, .ref h18, .int 0]))] s.heap := hP
  have hl := lv_entry ([.ref h0]) (n := 1) (Nat.le_of_ble_eq_true rfl)
  rw [lg_entry_eq]
  generalize (lg_sl ([.ref h0]) ++ List.replicate (1 - (lg_sl ([.ref h0])).length) Slot.unset).toArray = ls at hl ⊢
  have hl : lv_has ls 1 [(0, .ref h0)] := hl
  refine lv_aload_n hx hb dX11_result_0 rfl (lv_at hl 0 rfl) ?_
  refine va_get (D := (dC, dI)) (ci := 10) (v := .ref h7) (C := RX11) (T := TX11) (N := 8) hx hb hts zz_in_zm_result_X11 hown hK hP 0 rfl rfl 7 (by decide +kernel) (hts (.fieldLink RX11 59 "FilterHouse" "runs" "LFilterHouse$Runs;") (List.mem_of_getElem? (i := 1) rfl)) (fun _ h9 => h9) rfl dX11_result_1 ?_
  refine va_get (D := (dC, dI)) (ci := 6) (v := .long 0) (C := RX7) (T := TX7) (N := 19) hx hb hts zz_in_zm_result_X7 hown hK hP 1 rfl rfl 14 (by decide +kernel) (hts (.fieldLink RX11 235 "FilterHouse$Runs" "result" "J") (List.mem_of_getElem? (i := 2) rfl)) (fun _ h9 => h9) rfl dX11_result_4 ?_
  exact W.lret (v := 0) hx hb hr (fun t ht hW => ⟨⟨0, (), rfl, rfl, trivial⟩, hS.F ht⟩) hS.2.2 dX11_result_7
def zw_zm_tails : List Cond := .code yX11_tails cX11_tails 1 (some .int) :: ([.fieldLink RX11 59 "FilterHouse" "runs" "LFilterHouse$Runs;", .fieldLink RX11 238 "FilterHouse$Runs" "tails" "I"] ++ (wsX110 ++ (wsX70 ++ [])))
theorem zz_in_zm_tails_X11 : ∀ w ∈ wsX110, w ∈ zw_zm_tails := fun w h => List.mem_cons_of_mem _ (List.mem_append_right _ (List.mem_append_left _ h))
theorem zz_in_zm_tails_X7 : ∀ w ∈ wsX70, w ∈ zw_zm_tails := fun w h => List.mem_cons_of_mem _ (List.mem_append_right _ (List.mem_append_right _ (List.mem_append_left _ h)))
set_option maxHeartbeats 1000000 in
set_option maxRecDepth 100000 in
/-- zm_tails -/
theorem zm_tails (l : Launch) (dC : Nat → ClassId) (dI : Nat → Nat → Nat) (cB cI cJ cZ : ClassId) (h0 h7 h1 h2 h3 h4 h5 h6 h14 h15 h16 h17 h18 : Nat) (sz : Nat) : Met l yX11_tails zw_zm_tails ({ frames := 0, cells := 0, slots := 0, locals := 0 }) (va_Pc [.ref h0] (fun U => U.heap.size = sz ∧ va_P (dC, dI) zz_cl [(h0, .inr (10, [.ref h1, .int 0, .ref h2, .ref h3, .ref h4, .ref h5, .ref h6, .ref h7])), (h7, .inr (6, [.ref h3, .ref h5, .ref h14, .ref h15, .ref h16, .ref h17, .int 0, .int 0, .int 0, .int 0, .int 0, .int 0, .int 0, .long 1, .long 0, .int 0, .long 0, .ref h18, .int 0]))] U.heap ∧ va_K (dC, dI) zz_cl [(cB, .byte), (cI, .int), (cJ, .long), (cZ, .boolean)] U ∧ va_D (fun _ => True) [(h0, .inr (10, [.ref h1, .int 0, .ref h2, .ref h3, .ref h4, .ref h5, .ref h6, .ref h7])), (h7, .inr (6, [.ref h3, .ref h5, .ref h14, .ref h15, .ref h16, .ref h17, .int 0, .int 0, .int 0, .int 0, .int 0, .int 0, .int 0, .long 1, .long 0, .int 0, .long 0, .ref h18, .int 0]))])) (va_Qi (fun (r : Int32) (_ : Unit) => r = 0) (fun (_ : Unit) _ => True) (va_A [(h0, .inr (10, [.ref h1, .int 0, .ref h2, .ref h3, .ref h4, .ref h5, .ref h6, .ref h7])), (h7, .inr (6, [.ref h3, .ref h5, .ref h14, .ref h15, .ref h16, .ref h17, .int 0, .int 0, .int 0, .int 0, .int 0, .int 0, .int 0, .long 1, .long 0, .int 0, .long 0, .ref h18, .int 0]))] sz)) 0 0 (va_A [(h0, .inr (10, [.ref h1, .int 0, .ref h2, .ref h3, .ref h4, .ref h5, .ref h6, .ref h7])), (h7, .inr (6, [.ref h3, .ref h5, .ref h14, .ref h15, .ref h16, .ref h17, .int 0, .int 0, .int 0, .int 0, .int 0, .int 0, .int 0, .long 1, .long 0, .int 0, .long 0, .ref h18, .int 0]))] sz) := by
  refine Met.ofW (cc := cX11_tails) (maxL := 1) (ret := (some .int)) (by decide +kernel) rfl ?_
  intro p e s m args below meth c s₁ B hml hv
  obtain ⟨rfl, hsz, hP, hK, hD0⟩ := hv
  have hx := B.exec
  have hb := B.bytes
  have hr := B.returns
  have hts := atoms_spec (ws := zw_zm_tails) B.pre
  have hown : s.vm.findClass RX11 = some m.cls := findClass_of_methodNamed B.named
  have hlocks := B.notSynchronized
  subst hsz
  have hD := hD0.self (sz := s.heap.size)
  generalize hAe : va_A [(h0, .inr (10, [.ref h1, .int 0, .ref h2, .ref h3, .ref h4, .ref h5, .ref h6, .ref h7])), (h7, .inr (6, [.ref h3, .ref h5, .ref h14, .ref h15, .ref h16, .ref h17, .int 0, .int 0, .int 0, .int 0, .int 0, .int 0, .int 0, .long 1, .long 0, .int 0, .long 0, .ref h18, .int 0]))] s.heap.size = A at hD ⊢
  have hA : ∀ q : Nat, s.heap.size ≤ q → A q := fun q h => by rw [← hAe]; exact Or.inr h
  have hS : va_S A s.heap s.heap [] := va_S.rf
  have hP : va_P (dC, dI) zz_cl [(h0, .inr (10, [.ref h1, .int 0, .ref h2, .ref h3, .ref h4, .ref h5, .ref h6, .ref h7])), (h7, .inr (6, [.ref h3, .ref h5, .ref h14, .ref h15, .ref h16, .ref h17, .int 0, .int 0, .int 0, .int 0, .int 0, .int 0, .int 0, .long 1, .long 0, .int 0, .long 0, .ref h18, .int 0]))] s.heap := hP
  have hl := lv_entry ([.ref h0]) (n := 1) (Nat.le_of_ble_eq_true rfl)
  rw [lg_entry_eq]
  generalize (lg_sl ([.ref h0]) ++ List.replicate (1 - (lg_sl ([.ref h0])).length) Slot.unset).toArray = ls at hl ⊢
  have hl : lv_has ls 1 [(0, .ref h0)] := hl
  refine lv_aload_n hx hb dX11_tails_0 rfl (lv_at hl 0 rfl) ?_
  refine va_get (D := (dC, dI)) (ci := 10) (v := .ref h7) (C := RX11) (T := TX11) (N := 8) hx hb hts zz_in_zm_tails_X11 hown hK hP 0 rfl rfl 7 (by decide +kernel) (hts (.fieldLink RX11 59 "FilterHouse" "runs" "LFilterHouse$Runs;") (List.mem_of_getElem? (i := 1) rfl)) (fun _ h9 => h9) rfl dX11_tails_1 ?_
  refine va_get (D := (dC, dI)) (ci := 6) (v := .int 0) (C := RX7) (T := TX7) (N := 19) hx hb hts zz_in_zm_tails_X7 hown hK hP 1 rfl rfl 15 (by decide +kernel) (hts (.fieldLink RX11 238 "FilterHouse$Runs" "tails" "I") (List.mem_of_getElem? (i := 2) rfl)) (fun _ h9 => h9) rfl dX11_tails_4 ?_
  exact W.iret (v := 0) hx hb hr (fun t ht hW => ⟨⟨0, (), rfl, rfl, trivial⟩, hS.F ht⟩) hS.2.2 dX11_tails_7
def zw_zm_steps : List Cond := .code yX11_steps cX11_steps 1 (some .long) :: ([.fieldLink RX11 59 "FilterHouse" "runs" "LFilterHouse$Runs;", .fieldLink RX11 241 "FilterHouse$Runs" "steps" "J"] ++ (wsX110 ++ (wsX70 ++ [])))
theorem zz_in_zm_steps_X11 : ∀ w ∈ wsX110, w ∈ zw_zm_steps := fun w h => List.mem_cons_of_mem _ (List.mem_append_right _ (List.mem_append_left _ h))
theorem zz_in_zm_steps_X7 : ∀ w ∈ wsX70, w ∈ zw_zm_steps := fun w h => List.mem_cons_of_mem _ (List.mem_append_right _ (List.mem_append_right _ (List.mem_append_left _ h)))
set_option maxHeartbeats 1000000 in
set_option maxRecDepth 100000 in
/-- zm_steps -/
theorem zm_steps (l : Launch) (dC : Nat → ClassId) (dI : Nat → Nat → Nat) (cB cI cJ cZ : ClassId) (h0 h7 h1 h2 h3 h4 h5 h6 h14 h15 h16 h17 h18 : Nat) (sz : Nat) : Met l yX11_steps zw_zm_steps ({ frames := 0, cells := 0, slots := 0, locals := 0 }) (va_Pc [.ref h0] (fun U => U.heap.size = sz ∧ va_P (dC, dI) zz_cl [(h0, .inr (10, [.ref h1, .int 0, .ref h2, .ref h3, .ref h4, .ref h5, .ref h6, .ref h7])), (h7, .inr (6, [.ref h3, .ref h5, .ref h14, .ref h15, .ref h16, .ref h17, .int 0, .int 0, .int 0, .int 0, .int 0, .int 0, .int 0, .long 1, .long 0, .int 0, .long 0, .ref h18, .int 0]))] U.heap ∧ va_K (dC, dI) zz_cl [(cB, .byte), (cI, .int), (cJ, .long), (cZ, .boolean)] U ∧ va_D (fun _ => True) [(h0, .inr (10, [.ref h1, .int 0, .ref h2, .ref h3, .ref h4, .ref h5, .ref h6, .ref h7])), (h7, .inr (6, [.ref h3, .ref h5, .ref h14, .ref h15, .ref h16, .ref h17, .int 0, .int 0, .int 0, .int 0, .int 0, .int 0, .int 0, .long 1, .long 0, .int 0, .long 0, .ref h18, .int 0]))])) (va_Ql (fun (r : Int64) (_ : Unit) => r = 0) (fun (_ : Unit) _ => True) (va_A [(h0, .inr (10, [.ref h1, .int 0, .ref h2, .ref h3, .ref h4, .ref h5, .ref h6, .ref h7])), (h7, .inr (6, [.ref h3, .ref h5, .ref h14, .ref h15, .ref h16, .ref h17, .int 0, .int 0, .int 0, .int 0, .int 0, .int 0, .int 0, .long 1, .long 0, .int 0, .long 0, .ref h18, .int 0]))] sz)) 0 0 (va_A [(h0, .inr (10, [.ref h1, .int 0, .ref h2, .ref h3, .ref h4, .ref h5, .ref h6, .ref h7])), (h7, .inr (6, [.ref h3, .ref h5, .ref h14, .ref h15, .ref h16, .ref h17, .int 0, .int 0, .int 0, .int 0, .int 0, .int 0, .int 0, .long 1, .long 0, .int 0, .long 0, .ref h18, .int 0]))] sz) := by
  refine Met.ofW (cc := cX11_steps) (maxL := 1) (ret := (some .long)) (by decide +kernel) rfl ?_
  intro p e s m args below meth c s₁ B hml hv
  obtain ⟨rfl, hsz, hP, hK, hD0⟩ := hv
  have hx := B.exec
  have hb := B.bytes
  have hr := B.returns
  have hts := atoms_spec (ws := zw_zm_steps) B.pre
  have hown : s.vm.findClass RX11 = some m.cls := findClass_of_methodNamed B.named
  have hlocks := B.notSynchronized
  subst hsz
  have hD := hD0.self (sz := s.heap.size)
  generalize hAe : va_A [(h0, .inr (10, [.ref h1, .int 0, .ref h2, .ref h3, .ref h4, .ref h5, .ref h6, .ref h7])), (h7, .inr (6, [.ref h3, .ref h5, .ref h14, .ref h15, .ref h16, .ref h17, .int 0, .int 0, .int 0, .int 0, .int 0, .int 0, .int 0, .long 1, .long 0, .int 0, .long 0, .ref h18, .int 0]))] s.heap.size = A at hD ⊢
  have hA : ∀ q : Nat, s.heap.size ≤ q → A q := fun q h => by rw [← hAe]; exact Or.inr h
  have hS : va_S A s.heap s.heap [] := va_S.rf
  have hP : va_P (dC, dI) zz_cl [(h0, .inr (10, [.ref h1, .int 0, .ref h2, .ref h3, .ref h4, .ref h5, .ref h6, .ref h7])), (h7, .inr (6, [.ref h3, .ref h5, .ref h14, .ref h15, .ref h16, .ref h17, .int 0, .int 0, .int 0, .int 0, .int 0, .int 0, .int 0, .long 1, .long 0, .int 0, .long 0, .ref h18, .int 0]))] s.heap := hP
  have hl := lv_entry ([.ref h0]) (n := 1) (Nat.le_of_ble_eq_true rfl)
  rw [lg_entry_eq]
  generalize (lg_sl ([.ref h0]) ++ List.replicate (1 - (lg_sl ([.ref h0])).length) Slot.unset).toArray = ls at hl ⊢
  have hl : lv_has ls 1 [(0, .ref h0)] := hl
  refine lv_aload_n hx hb dX11_steps_0 rfl (lv_at hl 0 rfl) ?_
  refine va_get (D := (dC, dI)) (ci := 10) (v := .ref h7) (C := RX11) (T := TX11) (N := 8) hx hb hts zz_in_zm_steps_X11 hown hK hP 0 rfl rfl 7 (by decide +kernel) (hts (.fieldLink RX11 59 "FilterHouse" "runs" "LFilterHouse$Runs;") (List.mem_of_getElem? (i := 1) rfl)) (fun _ h9 => h9) rfl dX11_steps_1 ?_
  refine va_get (D := (dC, dI)) (ci := 6) (v := .long 0) (C := RX7) (T := TX7) (N := 19) hx hb hts zz_in_zm_steps_X7 hown hK hP 1 rfl rfl 16 (by decide +kernel) (hts (.fieldLink RX11 241 "FilterHouse$Runs" "steps" "J") (List.mem_of_getElem? (i := 2) rfl)) (fun _ h9 => h9) rfl dX11_steps_4 ?_
  exact W.lret (v := 0) hx hb hr (fun t ht hW => ⟨⟨0, (), rfl, rfl, trivial⟩, hS.F ht⟩) hS.2.2 dX11_steps_7
def zw_zm_traces : List Cond := .code yX11_traces cX11_traces 1 (some .int) :: ([.fieldLink RX11 59 "FilterHouse" "runs" "LFilterHouse$Runs;", .fieldLink RX11 244 "FilterHouse$Runs" "traceSize" "I"] ++ (wsX110 ++ (wsX70 ++ [])))
theorem zz_in_zm_traces_X11 : ∀ w ∈ wsX110, w ∈ zw_zm_traces := fun w h => List.mem_cons_of_mem _ (List.mem_append_right _ (List.mem_append_left _ h))
theorem zz_in_zm_traces_X7 : ∀ w ∈ wsX70, w ∈ zw_zm_traces := fun w h => List.mem_cons_of_mem _ (List.mem_append_right _ (List.mem_append_right _ (List.mem_append_left _ h)))
set_option maxHeartbeats 1000000 in
set_option maxRecDepth 100000 in
/-- zm_traces -/
theorem zm_traces (l : Launch) (dC : Nat → ClassId) (dI : Nat → Nat → Nat) (cB cI cJ cZ : ClassId) (h0 h7 h1 h2 h3 h4 h5 h6 h14 h15 h16 h17 h18 : Nat) (sz : Nat) : Met l yX11_traces zw_zm_traces ({ frames := 0, cells := 0, slots := 0, locals := 0 }) (va_Pc [.ref h0] (fun U => U.heap.size = sz ∧ va_P (dC, dI) zz_cl [(h0, .inr (10, [.ref h1, .int 0, .ref h2, .ref h3, .ref h4, .ref h5, .ref h6, .ref h7])), (h7, .inr (6, [.ref h3, .ref h5, .ref h14, .ref h15, .ref h16, .ref h17, .int 0, .int 0, .int 0, .int 0, .int 0, .int 0, .int 0, .long 1, .long 0, .int 0, .long 0, .ref h18, .int 0]))] U.heap ∧ va_K (dC, dI) zz_cl [(cB, .byte), (cI, .int), (cJ, .long), (cZ, .boolean)] U ∧ va_D (fun _ => True) [(h0, .inr (10, [.ref h1, .int 0, .ref h2, .ref h3, .ref h4, .ref h5, .ref h6, .ref h7])), (h7, .inr (6, [.ref h3, .ref h5, .ref h14, .ref h15, .ref h16, .ref h17, .int 0, .int 0, .int 0, .int 0, .int 0, .int 0, .int 0, .long 1, .long 0, .int 0, .long 0, .ref h18, .int 0]))])) (va_Qi (fun (r : Int32) (_ : Unit) => r = 0) (fun (_ : Unit) _ => True) (va_A [(h0, .inr (10, [.ref h1, .int 0, .ref h2, .ref h3, .ref h4, .ref h5, .ref h6, .ref h7])), (h7, .inr (6, [.ref h3, .ref h5, .ref h14, .ref h15, .ref h16, .ref h17, .int 0, .int 0, .int 0, .int 0, .int 0, .int 0, .int 0, .long 1, .long 0, .int 0, .long 0, .ref h18, .int 0]))] sz)) 0 0 (va_A [(h0, .inr (10, [.ref h1, .int 0, .ref h2, .ref h3, .ref h4, .ref h5, .ref h6, .ref h7])), (h7, .inr (6, [.ref h3, .ref h5, .ref h14, .ref h15, .ref h16, .ref h17, .int 0, .int 0, .int 0, .int 0, .int 0, .int 0, .int 0, .long 1, .long 0, .int 0, .long 0, .ref h18, .int 0]))] sz) := by
  refine Met.ofW (cc := cX11_traces) (maxL := 1) (ret := (some .int)) (by decide +kernel) rfl ?_
  intro p e s m args below meth c s₁ B hml hv
  obtain ⟨rfl, hsz, hP, hK, hD0⟩ := hv
  have hx := B.exec
  have hb := B.bytes
  have hr := B.returns
  have hts := atoms_spec (ws := zw_zm_traces) B.pre
  have hown : s.vm.findClass RX11 = some m.cls := findClass_of_methodNamed B.named
  have hlocks := B.notSynchronized
  subst hsz
  have hD := hD0.self (sz := s.heap.size)
  generalize hAe : va_A [(h0, .inr (10, [.ref h1, .int 0, .ref h2, .ref h3, .ref h4, .ref h5, .ref h6, .ref h7])), (h7, .inr (6, [.ref h3, .ref h5, .ref h14, .ref h15, .ref h16, .ref h17, .int 0, .int 0, .int 0, .int 0, .int 0, .int 0, .int 0, .long 1, .long 0, .int 0, .long 0, .ref h18, .int 0]))] s.heap.size = A at hD ⊢
  have hA : ∀ q : Nat, s.heap.size ≤ q → A q := fun q h => by rw [← hAe]; exact Or.inr h
  have hS : va_S A s.heap s.heap [] := va_S.rf
  have hP : va_P (dC, dI) zz_cl [(h0, .inr (10, [.ref h1, .int 0, .ref h2, .ref h3, .ref h4, .ref h5, .ref h6, .ref h7])), (h7, .inr (6, [.ref h3, .ref h5, .ref h14, .ref h15, .ref h16, .ref h17, .int 0, .int 0, .int 0, .int 0, .int 0, .int 0, .int 0, .long 1, .long 0, .int 0, .long 0, .ref h18, .int 0]))] s.heap := hP
  have hl := lv_entry ([.ref h0]) (n := 1) (Nat.le_of_ble_eq_true rfl)
  rw [lg_entry_eq]
  generalize (lg_sl ([.ref h0]) ++ List.replicate (1 - (lg_sl ([.ref h0])).length) Slot.unset).toArray = ls at hl ⊢
  have hl : lv_has ls 1 [(0, .ref h0)] := hl
  refine lv_aload_n hx hb dX11_traces_0 rfl (lv_at hl 0 rfl) ?_
  refine va_get (D := (dC, dI)) (ci := 10) (v := .ref h7) (C := RX11) (T := TX11) (N := 8) hx hb hts zz_in_zm_traces_X11 hown hK hP 0 rfl rfl 7 (by decide +kernel) (hts (.fieldLink RX11 59 "FilterHouse" "runs" "LFilterHouse$Runs;") (List.mem_of_getElem? (i := 1) rfl)) (fun _ h9 => h9) rfl dX11_traces_1 ?_
  refine va_get (D := (dC, dI)) (ci := 6) (v := .int 0) (C := RX7) (T := TX7) (N := 19) hx hb hts zz_in_zm_traces_X7 hown hK hP 1 rfl rfl 18 (by decide +kernel) (hts (.fieldLink RX11 244 "FilterHouse$Runs" "traceSize" "I") (List.mem_of_getElem? (i := 2) rfl)) (fun _ h9 => h9) rfl dX11_traces_4 ?_
  exact W.iret (v := 0) hx hb hr (fun t ht hW => ⟨⟨0, (), rfl, rfl, trivial⟩, hS.F ht⟩) hS.2.2 dX11_traces_7
def zw_zm_trace : List Cond := .code yX11_trace cX11_trace 2 (some .int) :: ([.fieldLink RX11 59 "FilterHouse" "runs" "LFilterHouse$Runs;", .fieldLink RX11 244 "FilterHouse$Runs" "traceSize" "I"] ++ (wsX110 ++ (wsX70 ++ [])))
theorem zz_in_zm_trace_X11 : ∀ w ∈ wsX110, w ∈ zw_zm_trace := fun w h => List.mem_cons_of_mem _ (List.mem_append_right _ (List.mem_append_left _ h))
theorem zz_in_zm_trace_X7 : ∀ w ∈ wsX70, w ∈ zw_zm_trace := fun w h => List.mem_cons_of_mem _ (List.mem_append_right _ (List.mem_append_right _ (List.mem_append_left _ h)))
set_option maxHeartbeats 1000000 in
set_option maxRecDepth 100000 in
/-- zm_trace -/
theorem zm_trace (l : Launch) (dC : Nat → ClassId) (dI : Nat → Nat → Nat) (cB cI cJ cZ : ClassId) (h0 h7 h1 h2 h3 h4 h5 h6 h14 h15 h16 h17 h18 : Nat) (sz : Nat) (p0 : Int32) : Met l yX11_trace zw_zm_trace ({ frames := 0, cells := 0, slots := 0, locals := 0 }) (va_Pc [.ref h0, .int p0] (fun U => U.heap.size = sz ∧ va_P (dC, dI) zz_cl [(h0, .inr (10, [.ref h1, .int 0, .ref h2, .ref h3, .ref h4, .ref h5, .ref h6, .ref h7])), (h7, .inr (6, [.ref h3, .ref h5, .ref h14, .ref h15, .ref h16, .ref h17, .int 0, .int 0, .int 0, .int 0, .int 0, .int 0, .int 0, .long 1, .long 0, .int 0, .long 0, .ref h18, .int 0]))] U.heap ∧ va_K (dC, dI) zz_cl [(cB, .byte), (cI, .int), (cJ, .long), (cZ, .boolean)] U ∧ va_D (fun _ => True) [(h0, .inr (10, [.ref h1, .int 0, .ref h2, .ref h3, .ref h4, .ref h5, .ref h6, .ref h7])), (h7, .inr (6, [.ref h3, .ref h5, .ref h14, .ref h15, .ref h16, .ref h17, .int 0, .int 0, .int 0, .int 0, .int 0, .int 0, .int 0, .long 1, .long 0, .int 0, .long 0, .ref h18, .int 0]))])) (va_Qi (fun (r : Int32) (_ : Unit) => r = (-1)) (fun (_ : Unit) _ => True) (va_A [(h0, .inr (10, [.ref h1, .int 0, .ref h2, .ref h3, .ref h4, .ref h5, .ref h6, .ref h7])), (h7, .inr (6, [.ref h3, .ref h5, .ref h14, .ref h15, .ref h16, .ref h17, .int 0, .int 0, .int 0, .int 0, .int 0, .int 0, .int 0, .long 1, .long 0, .int 0, .long 0, .ref h18, .int 0]))] sz)) 0 0 (va_A [(h0, .inr (10, [.ref h1, .int 0, .ref h2, .ref h3, .ref h4, .ref h5, .ref h6, .ref h7])), (h7, .inr (6, [.ref h3, .ref h5, .ref h14, .ref h15, .ref h16, .ref h17, .int 0, .int 0, .int 0, .int 0, .int 0, .int 0, .int 0, .long 1, .long 0, .int 0, .long 0, .ref h18, .int 0]))] sz) := by
  refine Met.ofW (cc := cX11_trace) (maxL := 2) (ret := (some .int)) (by decide +kernel) rfl ?_
  intro p e s m args below meth c s₁ B hml hv
  obtain ⟨rfl, hsz, hP, hK, hD0⟩ := hv
  have hx := B.exec
  have hb := B.bytes
  have hr := B.returns
  have hts := atoms_spec (ws := zw_zm_trace) B.pre
  have hown : s.vm.findClass RX11 = some m.cls := findClass_of_methodNamed B.named
  have hlocks := B.notSynchronized
  subst hsz
  have hD := hD0.self (sz := s.heap.size)
  generalize hAe : va_A [(h0, .inr (10, [.ref h1, .int 0, .ref h2, .ref h3, .ref h4, .ref h5, .ref h6, .ref h7])), (h7, .inr (6, [.ref h3, .ref h5, .ref h14, .ref h15, .ref h16, .ref h17, .int 0, .int 0, .int 0, .int 0, .int 0, .int 0, .int 0, .long 1, .long 0, .int 0, .long 0, .ref h18, .int 0]))] s.heap.size = A at hD ⊢
  have hA : ∀ q : Nat, s.heap.size ≤ q → A q := fun q h => by rw [← hAe]; exact Or.inr h
  have hS : va_S A s.heap s.heap [] := va_S.rf
  have hP : va_P (dC, dI) zz_cl [(h0, .inr (10, [.ref h1, .int 0, .ref h2, .ref h3, .ref h4, .ref h5, .ref h6, .ref h7])), (h7, .inr (6, [.ref h3, .ref h5, .ref h14, .ref h15, .ref h16, .ref h17, .int 0, .int 0, .int 0, .int 0, .int 0, .int 0, .int 0, .long 1, .long 0, .int 0, .long 0, .ref h18, .int 0]))] s.heap := hP
  have hl := lv_entry ([.ref h0, .int p0]) (n := 2) (Nat.le_of_ble_eq_true rfl)
  rw [lg_entry_eq]
  generalize (lg_sl ([.ref h0, .int p0]) ++ List.replicate (2 - (lg_sl ([.ref h0, .int p0])).length) Slot.unset).toArray = ls at hl ⊢
  have hl : lv_has ls 2 [(0, .ref h0), (1, .int p0)] := hl
  refine lv_iload_n hx hb dX11_trace_0 rfl (lv_at hl 1 rfl) ?_
  refine lv_if_lt (tgt := 15) hx hb dX11_trace_1 (by decide +kernel) (fun c_1 => ?_) (fun c_1 => ?_)
  · refine lv_iconst (v := (-1)) hx hb dX11_trace_15 (by decide +kernel) ?_
    refine lv_goto (tgt := 32) hx hb dX11_trace_16 (by decide +kernel) ?_
    exact W.iret (v := (-1)) hx hb hr (fun t ht hW => ⟨⟨(-1), (), rfl, rfl, trivial⟩, hS.F ht⟩) hS.2.2 dX11_trace_32
  · refine lv_iload_n hx hb dX11_trace_4 rfl (lv_at hl 1 rfl) ?_
    refine lv_aload_n hx hb dX11_trace_5 rfl (lv_at hl 0 rfl) ?_
    refine va_get (D := (dC, dI)) (ci := 10) (v := .ref h7) (C := RX11) (T := TX11) (N := 8) hx hb hts zz_in_zm_trace_X11 hown hK hP 0 rfl rfl 7 (by decide +kernel) (hts (.fieldLink RX11 59 "FilterHouse" "runs" "LFilterHouse$Runs;") (List.mem_of_getElem? (i := 1) rfl)) (fun _ h9 => h9) rfl dX11_trace_6 ?_
    refine va_get (D := (dC, dI)) (ci := 6) (v := .int 0) (C := RX7) (T := TX7) (N := 19) hx hb hts zz_in_zm_trace_X7 hown hK hP 1 rfl rfl 18 (by decide +kernel) (hts (.fieldLink RX11 244 "FilterHouse$Runs" "traceSize" "I") (List.mem_of_getElem? (i := 2) rfl)) (fun _ h9 => h9) rfl dX11_trace_9 ?_
    refine lv_icmp_lt (tgt := 19) hx hb dX11_trace_12 (by decide +kernel) (fun c_2 => ?_) (fun c_2 => ?_)
    · exact absurd trivial (by have qc_1 := mt (fa_lt _ _).mpr c_1; have qc_2 := (fa_lt _ _).mp c_2; have k0 : (0 : Int32).toInt = 0 := rfl; omega)
    · refine lv_iconst (v := (-1)) hx hb dX11_trace_15 (by decide +kernel) ?_
      refine lv_goto (tgt := 32) hx hb dX11_trace_16 (by decide +kernel) ?_
      exact W.iret (v := (-1)) hx hb hr (fun t ht hW => ⟨⟨(-1), (), rfl, rfl, trivial⟩, hS.F ht⟩) hS.2.2 dX11_trace_32
def zw_zm_tear : List Cond := .code yX11_tear cX11_tear 2 (some .int) :: ([.fieldLink RX11 59 "FilterHouse" "runs" "LFilterHouse$Runs;", .fieldLink RX11 244 "FilterHouse$Runs" "traceSize" "I"] ++ (wsX110 ++ (wsX70 ++ [])))
theorem zz_in_zm_tear_X11 : ∀ w ∈ wsX110, w ∈ zw_zm_tear := fun w h => List.mem_cons_of_mem _ (List.mem_append_right _ (List.mem_append_left _ h))
theorem zz_in_zm_tear_X7 : ∀ w ∈ wsX70, w ∈ zw_zm_tear := fun w h => List.mem_cons_of_mem _ (List.mem_append_right _ (List.mem_append_right _ (List.mem_append_left _ h)))
set_option maxHeartbeats 1000000 in
set_option maxRecDepth 100000 in
/-- zm_tear -/
theorem zm_tear (l : Launch) (dC : Nat → ClassId) (dI : Nat → Nat → Nat) (cB cI cJ cZ : ClassId) (h0 h7 h1 h2 h3 h4 h5 h6 h14 h15 h16 h17 h18 : Nat) (sz : Nat) : Met l yX11_tear zw_zm_tear ({ frames := 0, cells := 0, slots := 0, locals := 0 }) (va_Pc [.ref h0] (fun U => U.heap.size = sz ∧ va_P (dC, dI) zz_cl [(h0, .inr (10, [.ref h1, .int 0, .ref h2, .ref h3, .ref h4, .ref h5, .ref h6, .ref h7])), (h7, .inr (6, [.ref h3, .ref h5, .ref h14, .ref h15, .ref h16, .ref h17, .int 0, .int 0, .int 0, .int 0, .int 0, .int 0, .int 0, .long 1, .long 0, .int 0, .long 0, .ref h18, .int 0]))] U.heap ∧ va_K (dC, dI) zz_cl [(cB, .byte), (cI, .int), (cJ, .long), (cZ, .boolean)] U ∧ va_D (fun _ => True) [(h0, .inr (10, [.ref h1, .int 0, .ref h2, .ref h3, .ref h4, .ref h5, .ref h6, .ref h7])), (h7, .inr (6, [.ref h3, .ref h5, .ref h14, .ref h15, .ref h16, .ref h17, .int 0, .int 0, .int 0, .int 0, .int 0, .int 0, .int 0, .long 1, .long 0, .int 0, .long 0, .ref h18, .int 0]))])) (va_Qi (fun (r : Int32) (_ : Unit) => r = 0) (fun (_ : Unit) _ => True) (va_A [(h0, .inr (10, [.ref h1, .int 0, .ref h2, .ref h3, .ref h4, .ref h5, .ref h6, .ref h7])), (h7, .inr (6, [.ref h3, .ref h5, .ref h14, .ref h15, .ref h16, .ref h17, .int 0, .int 0, .int 0, .int 0, .int 0, .int 0, .int 0, .long 1, .long 0, .int 0, .long 0, .ref h18, .int 0]))] sz)) 0 0 (va_A [(h0, .inr (10, [.ref h1, .int 0, .ref h2, .ref h3, .ref h4, .ref h5, .ref h6, .ref h7])), (h7, .inr (6, [.ref h3, .ref h5, .ref h14, .ref h15, .ref h16, .ref h17, .int 0, .int 0, .int 0, .int 0, .int 0, .int 0, .int 0, .long 1, .long 0, .int 0, .long 0, .ref h18, .int 0]))] sz) := by
  refine Met.ofW (cc := cX11_tear) (maxL := 2) (ret := (some .int)) (by decide +kernel) rfl ?_
  intro p e s m args below meth c s₁ B hml hv
  obtain ⟨rfl, hsz, hP, hK, hD0⟩ := hv
  have hx := B.exec
  have hb := B.bytes
  have hr := B.returns
  have hts := atoms_spec (ws := zw_zm_tear) B.pre
  have hown : s.vm.findClass RX11 = some m.cls := findClass_of_methodNamed B.named
  have hlocks := B.notSynchronized
  subst hsz
  have hD := hD0.self (sz := s.heap.size)
  generalize hAe : va_A [(h0, .inr (10, [.ref h1, .int 0, .ref h2, .ref h3, .ref h4, .ref h5, .ref h6, .ref h7])), (h7, .inr (6, [.ref h3, .ref h5, .ref h14, .ref h15, .ref h16, .ref h17, .int 0, .int 0, .int 0, .int 0, .int 0, .int 0, .int 0, .long 1, .long 0, .int 0, .long 0, .ref h18, .int 0]))] s.heap.size = A at hD ⊢
  have hA : ∀ q : Nat, s.heap.size ≤ q → A q := fun q h => by rw [← hAe]; exact Or.inr h
  have hS : va_S A s.heap s.heap [] := va_S.rf
  have hP : va_P (dC, dI) zz_cl [(h0, .inr (10, [.ref h1, .int 0, .ref h2, .ref h3, .ref h4, .ref h5, .ref h6, .ref h7])), (h7, .inr (6, [.ref h3, .ref h5, .ref h14, .ref h15, .ref h16, .ref h17, .int 0, .int 0, .int 0, .int 0, .int 0, .int 0, .int 0, .long 1, .long 0, .int 0, .long 0, .ref h18, .int 0]))] s.heap := hP
  have hl := lv_entry ([.ref h0]) (n := 2) (Nat.le_of_ble_eq_true rfl)
  rw [lg_entry_eq]
  generalize (lg_sl ([.ref h0]) ++ List.replicate (2 - (lg_sl ([.ref h0])).length) Slot.unset).toArray = ls at hl ⊢
  have hl : lv_has ls 2 [(0, .ref h0)] := hl
  refine lv_aload_n hx hb dX11_tear_0 rfl (lv_at hl 0 rfl) ?_
  refine va_get (D := (dC, dI)) (ci := 10) (v := .ref h7) (C := RX11) (T := TX11) (N := 8) hx hb hts zz_in_zm_tear_X11 hown hK hP 0 rfl rfl 7 (by decide +kernel) (hts (.fieldLink RX11 59 "FilterHouse" "runs" "LFilterHouse$Runs;") (List.mem_of_getElem? (i := 1) rfl)) (fun _ h9 => h9) rfl dX11_tear_1 ?_
  refine va_get (D := (dC, dI)) (ci := 6) (v := .int 0) (C := RX7) (T := TX7) (N := 19) hx hb hts zz_in_zm_tear_X7 hown hK hP 1 rfl rfl 18 (by decide +kernel) (hts (.fieldLink RX11 244 "FilterHouse$Runs" "traceSize" "I") (List.mem_of_getElem? (i := 2) rfl)) (fun _ h9 => h9) rfl dX11_tear_4 ?_
  refine lv_istore_n (lv' := [(1, .int 0), (0, .ref h0)]) hx hb dX11_tear_7 rfl hl (by decide +kernel) rfl (fun ls hl => ?_)
  refine lv_aload_n hx hb dX11_tear_8 rfl (lv_at hl 1 rfl) ?_
  refine va_get (D := (dC, dI)) (ci := 10) (v := .ref h7) (C := RX11) (T := TX11) (N := 8) hx hb hts zz_in_zm_tear_X11 hown hK hP 0 rfl rfl 7 (by decide +kernel) (hts (.fieldLink RX11 59 "FilterHouse" "runs" "LFilterHouse$Runs;") (List.mem_of_getElem? (i := 1) rfl)) (fun _ h9 => h9) rfl dX11_tear_9 ?_
  refine lv_iconst (v := 0) hx hb dX11_tear_12 (by decide +kernel) ?_
  refine va_put (D := (dC, dI)) (ci := 6) (v := .int 0) (ty := .int) (C := RX7) (T := TX7) (N := 19) hx hb hts zz_in_zm_tear_X7 tyX7 tyX7_ok nmX7 hown hK hP hD hS 1 rfl rfl 18 (by decide +kernel) (hts (.fieldLink RX11 244 "FilterHouse$Runs" "traceSize" "I") (List.mem_of_getElem? (i := 2) rfl)) (fun _ h9 => h9) rfl (by decide +kernel) rfl rfl (Nat.le_of_ble_eq_true rfl) dX11_tear_13 (fun H locs hP hD hS => ?_)
  have hP : va_P (dC, dI) zz_cl [(h0, .inr (10, [.ref h1, .int 0, .ref h2, .ref h3, .ref h4, .ref h5, .ref h6, .ref h7])), (h7, .inr (6, [.ref h3, .ref h5, .ref h14, .ref h15, .ref h16, .ref h17, .int 0, .int 0, .int 0, .int 0, .int 0, .int 0, .int 0, .long 1, .long 0, .int 0, .long 0, .ref h18, .int 0]))] H := hP
  have hD : va_D A [(h0, .inr (10, [.ref h1, .int 0, .ref h2, .ref h3, .ref h4, .ref h5, .ref h6, .ref h7])), (h7, .inr (6, [.ref h3, .ref h5, .ref h14, .ref h15, .ref h16, .ref h17, .int 0, .int 0, .int 0, .int 0, .int 0, .int 0, .int 0, .long 1, .long 0, .int 0, .long 0, .ref h18, .int 0]))] := hD
  refine lv_iload_n hx hb dX11_tear_16 rfl (lv_at hl 0 rfl) ?_
  exact W.iret (v := 0) hx hb hr (fun t ht hW => ⟨⟨0, (), rfl, rfl, trivial⟩, hS.F ht⟩) hS.2.2 dX11_tear_17
def zw_zm_told : List Cond := .code yX11_told cX11_told 2 (some .int) :: ([.fieldLink RX11 50 "FilterHouse" "judges" "LFilterHouse$Judge;", .fieldLink RX11 130 "FilterHouse$Judge" "facts" "[I"] ++ (wsX110 ++ (wsX10 ++ [])))
theorem zz_in_zm_told_X11 : ∀ w ∈ wsX110, w ∈ zw_zm_told := fun w h => List.mem_cons_of_mem _ (List.mem_append_right _ (List.mem_append_left _ h))
theorem zz_in_zm_told_X1 : ∀ w ∈ wsX10, w ∈ zw_zm_told := fun w h => List.mem_cons_of_mem _ (List.mem_append_right _ (List.mem_append_right _ (List.mem_append_left _ h)))
set_option maxHeartbeats 1000000 in
set_option maxRecDepth 100000 in
/-- zm_told -/
theorem zm_told (l : Launch) (dC : Nat → ClassId) (dI : Nat → Nat → Nat) (cB cI cJ cZ : ClassId) (h0 h6 j_facts h1 h2 h3 h4 h5 h7 j_steps j_seen j_known j_leads j_begins j_joins j_functions j_kept j_waits j_firsts j_lasts j_here j_spare j_pairs : Nat) (sz : Nat) (p0 : Int32) : Met l yX11_told zw_zm_told ({ frames := 0, cells := 0, slots := 0, locals := 0 }) (va_Pc [.ref h0, .int p0] (fun U => U.heap.size = sz ∧ va_P (dC, dI) zz_cl [(h0, .inr (10, [.ref h1, .int 0, .ref h2, .ref h3, .ref h4, .ref h5, .ref h6, .ref h7])), (h6, .inr (0, [.ref j_steps, .ref j_facts, .ref j_seen, .ref j_known, .int 0, .ref j_leads, .ref j_begins, .ref j_joins, .ref j_functions, .ref j_kept, .ref j_waits, .int 0, .ref j_firsts, .ref j_lasts, .ref j_here, .ref j_spare, .ref j_pairs])), (j_facts, .inl (cI, 6, .inl (upd (upd (upd (upd (upd (upd (fun _ => 0) (0 : Int32).toNatClampNeg ((-1) : Int32)) (1 : Int32).toNatClampNeg (0 : Int32)) (2 : Int32).toNatClampNeg (0 : Int32)) (3 : Int32).toNatClampNeg (0 : Int32)) (4 : Int32).toNatClampNeg (0 : Int32)) (5 : Int32).toNatClampNeg (0 : Int32))))] U.heap ∧ va_K (dC, dI) zz_cl [(cB, .byte), (cI, .int), (cJ, .long), (cZ, .boolean)] U ∧ va_D (fun _ => True) [(h0, .inr (10, [.ref h1, .int 0, .ref h2, .ref h3, .ref h4, .ref h5, .ref h6, .ref h7])), (h6, .inr (0, [.ref j_steps, .ref j_facts, .ref j_seen, .ref j_known, .int 0, .ref j_leads, .ref j_begins, .ref j_joins, .ref j_functions, .ref j_kept, .ref j_waits, .int 0, .ref j_firsts, .ref j_lasts, .ref j_here, .ref j_spare, .ref j_pairs])), (j_facts, .inl (cI, 6, .inl (upd (upd (upd (upd (upd (upd (fun _ => 0) (0 : Int32).toNatClampNeg ((-1) : Int32)) (1 : Int32).toNatClampNeg (0 : Int32)) (2 : Int32).toNatClampNeg (0 : Int32)) (3 : Int32).toNatClampNeg (0 : Int32)) (4 : Int32).toNatClampNeg (0 : Int32)) (5 : Int32).toNatClampNeg (0 : Int32))))])) (va_Qi (fun (r : Int32) (_ : Unit) => (r = (-1) ∧ (p0.toInt ≤ 0 ∨ 5 < p0.toInt)) ∨ (r = 0 ∧ ¬ (p0.toInt ≤ 0 ∨ 5 < p0.toInt))) (fun (_ : Unit) _ => True) (va_A [(h0, .inr (10, [.ref h1, .int 0, .ref h2, .ref h3, .ref h4, .ref h5, .ref h6, .ref h7])), (h6, .inr (0, [.ref j_steps, .ref j_facts, .ref j_seen, .ref j_known, .int 0, .ref j_leads, .ref j_begins, .ref j_joins, .ref j_functions, .ref j_kept, .ref j_waits, .int 0, .ref j_firsts, .ref j_lasts, .ref j_here, .ref j_spare, .ref j_pairs])), (j_facts, .inl (cI, 6, .inl (upd (upd (upd (upd (upd (upd (fun _ => 0) (0 : Int32).toNatClampNeg ((-1) : Int32)) (1 : Int32).toNatClampNeg (0 : Int32)) (2 : Int32).toNatClampNeg (0 : Int32)) (3 : Int32).toNatClampNeg (0 : Int32)) (4 : Int32).toNatClampNeg (0 : Int32)) (5 : Int32).toNatClampNeg (0 : Int32))))] sz)) 0 0 (va_A [(h0, .inr (10, [.ref h1, .int 0, .ref h2, .ref h3, .ref h4, .ref h5, .ref h6, .ref h7])), (h6, .inr (0, [.ref j_steps, .ref j_facts, .ref j_seen, .ref j_known, .int 0, .ref j_leads, .ref j_begins, .ref j_joins, .ref j_functions, .ref j_kept, .ref j_waits, .int 0, .ref j_firsts, .ref j_lasts, .ref j_here, .ref j_spare, .ref j_pairs])), (j_facts, .inl (cI, 6, .inl (upd (upd (upd (upd (upd (upd (fun _ => 0) (0 : Int32).toNatClampNeg ((-1) : Int32)) (1 : Int32).toNatClampNeg (0 : Int32)) (2 : Int32).toNatClampNeg (0 : Int32)) (3 : Int32).toNatClampNeg (0 : Int32)) (4 : Int32).toNatClampNeg (0 : Int32)) (5 : Int32).toNatClampNeg (0 : Int32))))] sz) := by
  refine Met.ofW (cc := cX11_told) (maxL := 2) (ret := (some .int)) (by decide +kernel) rfl ?_
  intro p e s m args below meth c s₁ B hml hv
  obtain ⟨rfl, hsz, hP, hK, hD0⟩ := hv
  have hx := B.exec
  have hb := B.bytes
  have hr := B.returns
  have hts := atoms_spec (ws := zw_zm_told) B.pre
  have hown : s.vm.findClass RX11 = some m.cls := findClass_of_methodNamed B.named
  have hlocks := B.notSynchronized
  subst hsz
  have hD := hD0.self (sz := s.heap.size)
  generalize hAe : va_A [(h0, .inr (10, [.ref h1, .int 0, .ref h2, .ref h3, .ref h4, .ref h5, .ref h6, .ref h7])), (h6, .inr (0, [.ref j_steps, .ref j_facts, .ref j_seen, .ref j_known, .int 0, .ref j_leads, .ref j_begins, .ref j_joins, .ref j_functions, .ref j_kept, .ref j_waits, .int 0, .ref j_firsts, .ref j_lasts, .ref j_here, .ref j_spare, .ref j_pairs])), (j_facts, .inl (cI, 6, .inl (upd (upd (upd (upd (upd (upd (fun _ => 0) (0 : Int32).toNatClampNeg ((-1) : Int32)) (1 : Int32).toNatClampNeg (0 : Int32)) (2 : Int32).toNatClampNeg (0 : Int32)) (3 : Int32).toNatClampNeg (0 : Int32)) (4 : Int32).toNatClampNeg (0 : Int32)) (5 : Int32).toNatClampNeg (0 : Int32))))] s.heap.size = A at hD ⊢
  have hA : ∀ q : Nat, s.heap.size ≤ q → A q := fun q h => by rw [← hAe]; exact Or.inr h
  have hS : va_S A s.heap s.heap [] := va_S.rf
  have hP : va_P (dC, dI) zz_cl [(h0, .inr (10, [.ref h1, .int 0, .ref h2, .ref h3, .ref h4, .ref h5, .ref h6, .ref h7])), (h6, .inr (0, [.ref j_steps, .ref j_facts, .ref j_seen, .ref j_known, .int 0, .ref j_leads, .ref j_begins, .ref j_joins, .ref j_functions, .ref j_kept, .ref j_waits, .int 0, .ref j_firsts, .ref j_lasts, .ref j_here, .ref j_spare, .ref j_pairs])), (j_facts, .inl (cI, 6, .inl (upd (upd (upd (upd (upd (upd (fun _ => 0) (0 : Int32).toNatClampNeg ((-1) : Int32)) (1 : Int32).toNatClampNeg (0 : Int32)) (2 : Int32).toNatClampNeg (0 : Int32)) (3 : Int32).toNatClampNeg (0 : Int32)) (4 : Int32).toNatClampNeg (0 : Int32)) (5 : Int32).toNatClampNeg (0 : Int32))))] s.heap := hP
  have hl := lv_entry ([.ref h0, .int p0]) (n := 2) (Nat.le_of_ble_eq_true rfl)
  rw [lg_entry_eq]
  generalize (lg_sl ([.ref h0, .int p0]) ++ List.replicate (2 - (lg_sl ([.ref h0, .int p0])).length) Slot.unset).toArray = ls at hl ⊢
  have hl : lv_has ls 2 [(0, .ref h0), (1, .int p0)] := hl
  refine lv_iload_n hx hb dX11_told_0 rfl (lv_at hl 1 rfl) ?_
  refine lv_if_lt (tgt := 9) hx hb dX11_told_1 (by decide +kernel) (fun c_1 => ?_) (fun c_1 => ?_)
  · refine lv_iconst (v := (-1)) hx hb dX11_told_9 (by decide +kernel) ?_
    refine lv_goto (tgt := 22) hx hb dX11_told_10 (by decide +kernel) ?_
    exact W.iret (v := (-1)) hx hb hr (fun t ht hW => ⟨⟨(-1), (), rfl, Or.inl ⟨rfl, by have qc_1 := (fa_lt _ _).mp c_1; have k0 : (0 : Int32).toInt = 0 := rfl; omega⟩, trivial⟩, hS.F ht⟩) hS.2.2 dX11_told_22
  · refine lv_iload_n hx hb dX11_told_4 rfl (lv_at hl 1 rfl) ?_
    refine lv_iconst (v := 5) hx hb dX11_told_5 (by decide +kernel) ?_
    refine lv_icmp_le (tgt := 13) hx hb dX11_told_6 (by decide +kernel) (fun c_2 => ?_) (fun c_2 => ?_)
    · have hz : p0.toInt = 0 ∨ p0.toInt = 1 ∨ p0.toInt = 2 ∨ p0.toInt = 3 ∨ p0.toInt = 4 ∨ p0.toInt = 5 := by have qc_1 := mt (fa_lt _ _).mpr c_1; have qc_2 := (fa_le _ _).mp c_2; have k0 : (0 : Int32).toInt = 0 := rfl; have k5 : (5 : Int32).toInt = 5 := rfl; omega
      rcases hz with hz | hz | hz | hz | hz | hz
      · obtain rfl : p0 = 0 := (fa_eq _ _).mpr (hz.trans (show (0 : Int) = (0 : Int32).toInt from rfl))
        refine lv_aload_n hx hb dX11_told_13 rfl (lv_at hl 0 rfl) ?_
        refine va_get (D := (dC, dI)) (ci := 10) (v := .ref h6) (C := RX11) (T := TX11) (N := 8) hx hb hts zz_in_zm_told_X11 hown hK hP 0 rfl rfl 6 (by decide +kernel) (hts (.fieldLink RX11 50 "FilterHouse" "judges" "LFilterHouse$Judge;") (List.mem_of_getElem? (i := 1) rfl)) (fun _ h9 => h9) rfl dX11_told_14 ?_
        refine va_get (D := (dC, dI)) (ci := 0) (v := .ref j_facts) (C := RX1) (T := TX1) (N := 17) hx hb hts zz_in_zm_told_X1 hown hK hP 1 rfl rfl 1 (by decide +kernel) (hts (.fieldLink RX11 130 "FilterHouse$Judge" "facts" "[I") (List.mem_of_getElem? (i := 2) rfl)) (fun _ h9 => h9) rfl dX11_told_17 ?_
        refine lv_iload_n hx hb dX11_told_20 rfl (lv_at hl 1 rfl) ?_
        refine va_iald hx hb hK hP 2 1 rfl rfl (show ¬ ((0 : Int32) < 0 ∨ 6 ≤ (0 : Int32).toNatClampNeg) by decide +kernel) dX11_told_21 ?_
        refine lv_topi (fun f_3 ef_3 => ?_)
        obtain rfl : f_3 = ((-1) : Int32) := ef_3.trans (by decide +kernel)
        exact W.iret (v := (-1)) hx hb hr (fun t ht hW => ⟨⟨(-1), (), rfl, Or.inl ⟨rfl, by have qc_1 := mt (fa_lt _ _).mpr c_1; have qc_2 := (fa_le _ _).mp c_2; have k0 : (0 : Int32).toInt = 0 := rfl; have k5 : (5 : Int32).toInt = 5 := rfl; omega⟩, trivial⟩, hS.F ht⟩) hS.2.2 dX11_told_22
      · obtain rfl : p0 = 1 := (fa_eq _ _).mpr (hz.trans (show (1 : Int) = (1 : Int32).toInt from rfl))
        refine lv_aload_n hx hb dX11_told_13 rfl (lv_at hl 0 rfl) ?_
        refine va_get (D := (dC, dI)) (ci := 10) (v := .ref h6) (C := RX11) (T := TX11) (N := 8) hx hb hts zz_in_zm_told_X11 hown hK hP 0 rfl rfl 6 (by decide +kernel) (hts (.fieldLink RX11 50 "FilterHouse" "judges" "LFilterHouse$Judge;") (List.mem_of_getElem? (i := 1) rfl)) (fun _ h9 => h9) rfl dX11_told_14 ?_
        refine va_get (D := (dC, dI)) (ci := 0) (v := .ref j_facts) (C := RX1) (T := TX1) (N := 17) hx hb hts zz_in_zm_told_X1 hown hK hP 1 rfl rfl 1 (by decide +kernel) (hts (.fieldLink RX11 130 "FilterHouse$Judge" "facts" "[I") (List.mem_of_getElem? (i := 2) rfl)) (fun _ h9 => h9) rfl dX11_told_17 ?_
        refine lv_iload_n hx hb dX11_told_20 rfl (lv_at hl 1 rfl) ?_
        refine va_iald hx hb hK hP 2 1 rfl rfl (show ¬ ((1 : Int32) < 0 ∨ 6 ≤ (1 : Int32).toNatClampNeg) by decide +kernel) dX11_told_21 ?_
        refine lv_topi (fun f_4 ef_4 => ?_)
        obtain rfl : f_4 = (0 : Int32) := ef_4.trans (by decide +kernel)
        exact W.iret (v := 0) hx hb hr (fun t ht hW => ⟨⟨0, (), rfl, Or.inr ⟨rfl, by have qc_1 := mt (fa_lt _ _).mpr c_1; have qc_2 := (fa_le _ _).mp c_2; have k0 : (0 : Int32).toInt = 0 := rfl; have k1 : (1 : Int32).toInt = 1 := rfl; have k5 : (5 : Int32).toInt = 5 := rfl; omega⟩, trivial⟩, hS.F ht⟩) hS.2.2 dX11_told_22
      · obtain rfl : p0 = 2 := (fa_eq _ _).mpr (hz.trans (show (2 : Int) = (2 : Int32).toInt from rfl))
        refine lv_aload_n hx hb dX11_told_13 rfl (lv_at hl 0 rfl) ?_
        refine va_get (D := (dC, dI)) (ci := 10) (v := .ref h6) (C := RX11) (T := TX11) (N := 8) hx hb hts zz_in_zm_told_X11 hown hK hP 0 rfl rfl 6 (by decide +kernel) (hts (.fieldLink RX11 50 "FilterHouse" "judges" "LFilterHouse$Judge;") (List.mem_of_getElem? (i := 1) rfl)) (fun _ h9 => h9) rfl dX11_told_14 ?_
        refine va_get (D := (dC, dI)) (ci := 0) (v := .ref j_facts) (C := RX1) (T := TX1) (N := 17) hx hb hts zz_in_zm_told_X1 hown hK hP 1 rfl rfl 1 (by decide +kernel) (hts (.fieldLink RX11 130 "FilterHouse$Judge" "facts" "[I") (List.mem_of_getElem? (i := 2) rfl)) (fun _ h9 => h9) rfl dX11_told_17 ?_
        refine lv_iload_n hx hb dX11_told_20 rfl (lv_at hl 1 rfl) ?_
        refine va_iald hx hb hK hP 2 1 rfl rfl (show ¬ ((2 : Int32) < 0 ∨ 6 ≤ (2 : Int32).toNatClampNeg) by decide +kernel) dX11_told_21 ?_
        refine lv_topi (fun f_5 ef_5 => ?_)
        obtain rfl : f_5 = (0 : Int32) := ef_5.trans (by decide +kernel)
        exact W.iret (v := 0) hx hb hr (fun t ht hW => ⟨⟨0, (), rfl, Or.inr ⟨rfl, by have qc_1 := mt (fa_lt _ _).mpr c_1; have qc_2 := (fa_le _ _).mp c_2; have k0 : (0 : Int32).toInt = 0 := rfl; have k2 : (2 : Int32).toInt = 2 := rfl; have k5 : (5 : Int32).toInt = 5 := rfl; omega⟩, trivial⟩, hS.F ht⟩) hS.2.2 dX11_told_22
      · obtain rfl : p0 = 3 := (fa_eq _ _).mpr (hz.trans (show (3 : Int) = (3 : Int32).toInt from rfl))
        refine lv_aload_n hx hb dX11_told_13 rfl (lv_at hl 0 rfl) ?_
        refine va_get (D := (dC, dI)) (ci := 10) (v := .ref h6) (C := RX11) (T := TX11) (N := 8) hx hb hts zz_in_zm_told_X11 hown hK hP 0 rfl rfl 6 (by decide +kernel) (hts (.fieldLink RX11 50 "FilterHouse" "judges" "LFilterHouse$Judge;") (List.mem_of_getElem? (i := 1) rfl)) (fun _ h9 => h9) rfl dX11_told_14 ?_
        refine va_get (D := (dC, dI)) (ci := 0) (v := .ref j_facts) (C := RX1) (T := TX1) (N := 17) hx hb hts zz_in_zm_told_X1 hown hK hP 1 rfl rfl 1 (by decide +kernel) (hts (.fieldLink RX11 130 "FilterHouse$Judge" "facts" "[I") (List.mem_of_getElem? (i := 2) rfl)) (fun _ h9 => h9) rfl dX11_told_17 ?_
        refine lv_iload_n hx hb dX11_told_20 rfl (lv_at hl 1 rfl) ?_
        refine va_iald hx hb hK hP 2 1 rfl rfl (show ¬ ((3 : Int32) < 0 ∨ 6 ≤ (3 : Int32).toNatClampNeg) by decide +kernel) dX11_told_21 ?_
        refine lv_topi (fun f_6 ef_6 => ?_)
        obtain rfl : f_6 = (0 : Int32) := ef_6.trans (by decide +kernel)
        exact W.iret (v := 0) hx hb hr (fun t ht hW => ⟨⟨0, (), rfl, Or.inr ⟨rfl, by have qc_1 := mt (fa_lt _ _).mpr c_1; have qc_2 := (fa_le _ _).mp c_2; have k0 : (0 : Int32).toInt = 0 := rfl; have k3 : (3 : Int32).toInt = 3 := rfl; have k5 : (5 : Int32).toInt = 5 := rfl; omega⟩, trivial⟩, hS.F ht⟩) hS.2.2 dX11_told_22
      · obtain rfl : p0 = 4 := (fa_eq _ _).mpr (hz.trans (show (4 : Int) = (4 : Int32).toInt from rfl))
        refine lv_aload_n hx hb dX11_told_13 rfl (lv_at hl 0 rfl) ?_
        refine va_get (D := (dC, dI)) (ci := 10) (v := .ref h6) (C := RX11) (T := TX11) (N := 8) hx hb hts zz_in_zm_told_X11 hown hK hP 0 rfl rfl 6 (by decide +kernel) (hts (.fieldLink RX11 50 "FilterHouse" "judges" "LFilterHouse$Judge;") (List.mem_of_getElem? (i := 1) rfl)) (fun _ h9 => h9) rfl dX11_told_14 ?_
        refine va_get (D := (dC, dI)) (ci := 0) (v := .ref j_facts) (C := RX1) (T := TX1) (N := 17) hx hb hts zz_in_zm_told_X1 hown hK hP 1 rfl rfl 1 (by decide +kernel) (hts (.fieldLink RX11 130 "FilterHouse$Judge" "facts" "[I") (List.mem_of_getElem? (i := 2) rfl)) (fun _ h9 => h9) rfl dX11_told_17 ?_
        refine lv_iload_n hx hb dX11_told_20 rfl (lv_at hl 1 rfl) ?_
        refine va_iald hx hb hK hP 2 1 rfl rfl (show ¬ ((4 : Int32) < 0 ∨ 6 ≤ (4 : Int32).toNatClampNeg) by decide +kernel) dX11_told_21 ?_
        refine lv_topi (fun f_7 ef_7 => ?_)
        obtain rfl : f_7 = (0 : Int32) := ef_7.trans (by decide +kernel)
        exact W.iret (v := 0) hx hb hr (fun t ht hW => ⟨⟨0, (), rfl, Or.inr ⟨rfl, by have qc_1 := mt (fa_lt _ _).mpr c_1; have qc_2 := (fa_le _ _).mp c_2; have k0 : (0 : Int32).toInt = 0 := rfl; have k4 : (4 : Int32).toInt = 4 := rfl; have k5 : (5 : Int32).toInt = 5 := rfl; omega⟩, trivial⟩, hS.F ht⟩) hS.2.2 dX11_told_22
      · obtain rfl : p0 = 5 := (fa_eq _ _).mpr (hz.trans (show (5 : Int) = (5 : Int32).toInt from rfl))
        refine lv_aload_n hx hb dX11_told_13 rfl (lv_at hl 0 rfl) ?_
        refine va_get (D := (dC, dI)) (ci := 10) (v := .ref h6) (C := RX11) (T := TX11) (N := 8) hx hb hts zz_in_zm_told_X11 hown hK hP 0 rfl rfl 6 (by decide +kernel) (hts (.fieldLink RX11 50 "FilterHouse" "judges" "LFilterHouse$Judge;") (List.mem_of_getElem? (i := 1) rfl)) (fun _ h9 => h9) rfl dX11_told_14 ?_
        refine va_get (D := (dC, dI)) (ci := 0) (v := .ref j_facts) (C := RX1) (T := TX1) (N := 17) hx hb hts zz_in_zm_told_X1 hown hK hP 1 rfl rfl 1 (by decide +kernel) (hts (.fieldLink RX11 130 "FilterHouse$Judge" "facts" "[I") (List.mem_of_getElem? (i := 2) rfl)) (fun _ h9 => h9) rfl dX11_told_17 ?_
        refine lv_iload_n hx hb dX11_told_20 rfl (lv_at hl 1 rfl) ?_
        refine va_iald hx hb hK hP 2 1 rfl rfl (show ¬ ((5 : Int32) < 0 ∨ 6 ≤ (5 : Int32).toNatClampNeg) by decide +kernel) dX11_told_21 ?_
        refine lv_topi (fun f_8 ef_8 => ?_)
        obtain rfl : f_8 = (0 : Int32) := ef_8.trans (by decide +kernel)
        exact W.iret (v := 0) hx hb hr (fun t ht hW => ⟨⟨0, (), rfl, Or.inr ⟨rfl, by have qc_1 := mt (fa_lt _ _).mpr c_1; have qc_2 := (fa_le _ _).mp c_2; have k0 : (0 : Int32).toInt = 0 := rfl; have k5 : (5 : Int32).toInt = 5 := rfl; omega⟩, trivial⟩, hS.F ht⟩) hS.2.2 dX11_told_22
    · refine lv_iconst (v := (-1)) hx hb dX11_told_9 (by decide +kernel) ?_
      refine lv_goto (tgt := 22) hx hb dX11_told_10 (by decide +kernel) ?_
      exact W.iret (v := (-1)) hx hb hr (fun t ht hW => ⟨⟨(-1), (), rfl, Or.inl ⟨rfl, by have qc_1 := mt (fa_lt _ _).mpr c_1; have qc_2 := mt (fa_le _ _).mpr c_2; have k0 : (0 : Int32).toInt = 0 := rfl; have k5 : (5 : Int32).toInt = 5 := rfl; omega⟩, trivial⟩, hS.F ht⟩) hS.2.2 dX11_told_22
def zw_zm_seenValue : List Cond := .code yX1_seenValue cX1_seenValue 4 (some .long) :: ([.constantLong RX1 88 (-1), .fieldLink RX1 19 "FilterHouse$Judge" "seen" "[Z"] ++ (wsX10 ++ []))
theorem zz_in_zm_seenValue_X1 : ∀ w ∈ wsX10, w ∈ zw_zm_seenValue := fun w h => List.mem_cons_of_mem _ (List.mem_append_right _ (List.mem_append_left _ h))
set_option maxHeartbeats 1000000 in
set_option maxRecDepth 100000 in
/-- zm_seenValue -/
theorem zm_seenValue (l : Launch) (dC : Nat → ClassId) (dI : Nat → Nat → Nat) (cB cI cJ cZ : ClassId) (h0 j_seen j_steps j_facts j_known j_leads j_begins j_joins j_functions j_kept j_waits j_firsts j_lasts j_here j_spare j_pairs : Nat) (sz : Nat) (p0 : Int32) (p1 : Int32) (p2 : Int32) : Met l yX1_seenValue zw_zm_seenValue ({ frames := 0, cells := 0, slots := 0, locals := 0 }) (va_Pc [.ref h0, .int p0, .int p1, .int p2] (fun U => U.heap.size = sz ∧ va_P (dC, dI) zz_cl [(h0, .inr (0, [.ref j_steps, .ref j_facts, .ref j_seen, .ref j_known, .int 0, .ref j_leads, .ref j_begins, .ref j_joins, .ref j_functions, .ref j_kept, .ref j_waits, .int 0, .ref j_firsts, .ref j_lasts, .ref j_here, .ref j_spare, .ref j_pairs])), (j_seen, .inl (cZ, 200, .inl (fun _ => 0)))] U.heap ∧ va_K (dC, dI) zz_cl [(cB, .byte), (cI, .int), (cJ, .long), (cZ, .boolean)] U ∧ va_D (fun _ => True) [(h0, .inr (0, [.ref j_steps, .ref j_facts, .ref j_seen, .ref j_known, .int 0, .ref j_leads, .ref j_begins, .ref j_joins, .ref j_functions, .ref j_kept, .ref j_waits, .int 0, .ref j_firsts, .ref j_lasts, .ref j_here, .ref j_spare, .ref j_pairs])), (j_seen, .inl (cZ, 200, .inl (fun _ => 0)))])) (va_Ql (fun (r : Int64) (_ : Unit) => r = (-1)) (fun (_ : Unit) _ => True) (va_A [(h0, .inr (0, [.ref j_steps, .ref j_facts, .ref j_seen, .ref j_known, .int 0, .ref j_leads, .ref j_begins, .ref j_joins, .ref j_functions, .ref j_kept, .ref j_waits, .int 0, .ref j_firsts, .ref j_lasts, .ref j_here, .ref j_spare, .ref j_pairs])), (j_seen, .inl (cZ, 200, .inl (fun _ => 0)))] sz)) 0 0 (va_A [(h0, .inr (0, [.ref j_steps, .ref j_facts, .ref j_seen, .ref j_known, .int 0, .ref j_leads, .ref j_begins, .ref j_joins, .ref j_functions, .ref j_kept, .ref j_waits, .int 0, .ref j_firsts, .ref j_lasts, .ref j_here, .ref j_spare, .ref j_pairs])), (j_seen, .inl (cZ, 200, .inl (fun _ => 0)))] sz) := by
  refine Met.ofW (cc := cX1_seenValue) (maxL := 4) (ret := (some .long)) (by decide +kernel) rfl ?_
  intro p e s m args below meth c s₁ B hml hv
  obtain ⟨rfl, hsz, hP, hK, hD0⟩ := hv
  have hx := B.exec
  have hb := B.bytes
  have hr := B.returns
  have hts := atoms_spec (ws := zw_zm_seenValue) B.pre
  have hown : s.vm.findClass RX1 = some m.cls := findClass_of_methodNamed B.named
  have hlocks := B.notSynchronized
  subst hsz
  have hD := hD0.self (sz := s.heap.size)
  generalize hAe : va_A [(h0, .inr (0, [.ref j_steps, .ref j_facts, .ref j_seen, .ref j_known, .int 0, .ref j_leads, .ref j_begins, .ref j_joins, .ref j_functions, .ref j_kept, .ref j_waits, .int 0, .ref j_firsts, .ref j_lasts, .ref j_here, .ref j_spare, .ref j_pairs])), (j_seen, .inl (cZ, 200, .inl (fun _ => 0)))] s.heap.size = A at hD ⊢
  have hA : ∀ q : Nat, s.heap.size ≤ q → A q := fun q h => by rw [← hAe]; exact Or.inr h
  have hS : va_S A s.heap s.heap [] := va_S.rf
  have hP : va_P (dC, dI) zz_cl [(h0, .inr (0, [.ref j_steps, .ref j_facts, .ref j_seen, .ref j_known, .int 0, .ref j_leads, .ref j_begins, .ref j_joins, .ref j_functions, .ref j_kept, .ref j_waits, .int 0, .ref j_firsts, .ref j_lasts, .ref j_here, .ref j_spare, .ref j_pairs])), (j_seen, .inl (cZ, 200, .inl (fun _ => 0)))] s.heap := hP
  have hl := lv_entry ([.ref h0, .int p0, .int p1, .int p2]) (n := 4) (Nat.le_of_ble_eq_true rfl)
  rw [lg_entry_eq]
  generalize (lg_sl ([.ref h0, .int p0, .int p1, .int p2]) ++ List.replicate (4 - (lg_sl ([.ref h0, .int p0, .int p1, .int p2])).length) Slot.unset).toArray = ls at hl ⊢
  have hl : lv_has ls 4 [(0, .ref h0), (1, .int p0), (2, .int p1), (3, .int p2)] := hl
  refine lv_iload_n hx hb dX1_seenValue_0 rfl (lv_at hl 1 rfl) ?_
  refine lv_if_lt (tgt := 40) hx hb dX1_seenValue_1 (by decide +kernel) (fun c_1 => ?_) (fun c_1 => ?_)
  · refine lv_ldc2 (v := (-1)) hx hb hown (hts (.constantLong RX1 88 (-1)) (List.mem_of_getElem? (i := 1) rfl)) dX1_seenValue_40 ?_
    exact W.lret (v := (-1)) hx hb hr (fun t ht hW => ⟨⟨(-1), (), rfl, rfl, trivial⟩, hS.F ht⟩) hS.2.2 dX1_seenValue_43
  · refine lv_iload_n hx hb dX1_seenValue_4 rfl (lv_at hl 1 rfl) ?_
    refine lv_sipush (v := 200) hx hb dX1_seenValue_5 (by decide +kernel) ?_
    refine lv_icmp_ge (tgt := 40) hx hb dX1_seenValue_8 (by decide +kernel) (fun c_2 => ?_) (fun c_2 => ?_)
    · refine lv_ldc2 (v := (-1)) hx hb hown (hts (.constantLong RX1 88 (-1)) (List.mem_of_getElem? (i := 1) rfl)) dX1_seenValue_40 ?_
      exact W.lret (v := (-1)) hx hb hr (fun t ht hW => ⟨⟨(-1), (), rfl, rfl, trivial⟩, hS.F ht⟩) hS.2.2 dX1_seenValue_43
    · refine lv_iload_n hx hb dX1_seenValue_11 rfl (lv_at hl 2 rfl) ?_
      refine lv_if_lt (tgt := 40) hx hb dX1_seenValue_12 (by decide +kernel) (fun c_3 => ?_) (fun c_3 => ?_)
      · refine lv_ldc2 (v := (-1)) hx hb hown (hts (.constantLong RX1 88 (-1)) (List.mem_of_getElem? (i := 1) rfl)) dX1_seenValue_40 ?_
        exact W.lret (v := (-1)) hx hb hr (fun t ht hW => ⟨⟨(-1), (), rfl, rfl, trivial⟩, hS.F ht⟩) hS.2.2 dX1_seenValue_43
      · refine lv_iload_n hx hb dX1_seenValue_15 rfl (lv_at hl 2 rfl) ?_
        refine lv_bipush (v := 10) hx hb dX1_seenValue_16 (by decide +kernel) ?_
        refine lv_icmp_ge (tgt := 40) hx hb dX1_seenValue_18 (by decide +kernel) (fun c_4 => ?_) (fun c_4 => ?_)
        · refine lv_ldc2 (v := (-1)) hx hb hown (hts (.constantLong RX1 88 (-1)) (List.mem_of_getElem? (i := 1) rfl)) dX1_seenValue_40 ?_
          exact W.lret (v := (-1)) hx hb hr (fun t ht hW => ⟨⟨(-1), (), rfl, rfl, trivial⟩, hS.F ht⟩) hS.2.2 dX1_seenValue_43
        · refine lv_iload_n hx hb dX1_seenValue_21 rfl (lv_at hl 3 rfl) ?_
          refine lv_if_lt (tgt := 40) hx hb dX1_seenValue_22 (by decide +kernel) (fun c_5 => ?_) (fun c_5 => ?_)
          · refine lv_ldc2 (v := (-1)) hx hb hown (hts (.constantLong RX1 88 (-1)) (List.mem_of_getElem? (i := 1) rfl)) dX1_seenValue_40 ?_
            exact W.lret (v := (-1)) hx hb hr (fun t ht hW => ⟨⟨(-1), (), rfl, rfl, trivial⟩, hS.F ht⟩) hS.2.2 dX1_seenValue_43
          · refine lv_iload_n hx hb dX1_seenValue_25 rfl (lv_at hl 3 rfl) ?_
            refine lv_bipush (v := 9) hx hb dX1_seenValue_26 (by decide +kernel) ?_
            refine lv_icmp_gt (tgt := 40) hx hb dX1_seenValue_28 (by decide +kernel) (fun c_6 => ?_) (fun c_6 => ?_)
            · refine lv_ldc2 (v := (-1)) hx hb hown (hts (.constantLong RX1 88 (-1)) (List.mem_of_getElem? (i := 1) rfl)) dX1_seenValue_40 ?_
              exact W.lret (v := (-1)) hx hb hr (fun t ht hW => ⟨⟨(-1), (), rfl, rfl, trivial⟩, hS.F ht⟩) hS.2.2 dX1_seenValue_43
            · refine lv_aload_n hx hb dX1_seenValue_31 rfl (lv_at hl 0 rfl) ?_
              refine va_get (D := (dC, dI)) (ci := 0) (v := .ref j_seen) (C := RX1) (T := TX1) (N := 17) hx hb hts zz_in_zm_seenValue_X1 hown hK hP 0 rfl rfl 2 (by decide +kernel) (hts (.fieldLink RX1 19 "FilterHouse$Judge" "seen" "[Z") (List.mem_of_getElem? (i := 2) rfl)) (fun _ h9 => h9) rfl dX1_seenValue_32 ?_
              refine lv_iload_n hx hb dX1_seenValue_35 rfl (lv_at hl 1 rfl) ?_
              refine va_zald hx hb hK hP 1 3 rfl rfl (vp_in_iff.mpr (by have qc_1 := mt (fa_lt _ _).mpr c_1; have qc_2 := mt (fa_le _ _).mpr c_2; have qc_3 := mt (fa_lt _ _).mpr c_3; have qc_4 := mt (fa_le _ _).mpr c_4; have qc_5 := mt (fa_lt _ _).mpr c_5; have qc_6 := mt (fa_lt _ _).mpr c_6; have k0 : (0 : Int32).toInt = 0 := rfl; have k9 : (9 : Int32).toInt = 9 := rfl; have k10 : (10 : Int32).toInt = 10 := rfl; have k200 : (200 : Int32).toInt = 200 := rfl; omega)) dX1_seenValue_36 ?_
              refine lv_topi (fun f_7 ef_7 => ?_)
              obtain rfl : f_7 = 0 := ef_7
              refine lv_if_ne (tgt := 44) hx hb dX1_seenValue_37 (by decide +kernel) (fun c_8 => ?_) (fun c_8 => ?_)
              · exact absurd c_8 (by decide +kernel)
              · refine lv_ldc2 (v := (-1)) hx hb hown (hts (.constantLong RX1 88 (-1)) (List.mem_of_getElem? (i := 1) rfl)) dX1_seenValue_40 ?_
                exact W.lret (v := (-1)) hx hb hr (fun t ht hW => ⟨⟨(-1), (), rfl, rfl, trivial⟩, hS.F ht⟩) hS.2.2 dX1_seenValue_43
def zw_zm_known : List Cond := .code yX11_known cX11_known 4 (some .long) :: ([.fieldLink RX11 50 "FilterHouse" "judges" "LFilterHouse$Judge;", .constantLong RX1 88 (-1), .fieldLink RX1 19 "FilterHouse$Judge" "seen" "[Z", .code yX1_seenValue cX1_seenValue 4 (some .long), .methodLink RX11 133 yX1_seenValue, .instanceMethod yX1_seenValue, .selects RX1 yX1_seenValue yX1_seenValue, .initialized RX1] ++ (wsX110 ++ (wsX10 ++ [])))
theorem zz_in_zm_known_X11 : ∀ w ∈ wsX110, w ∈ zw_zm_known := fun w h => List.mem_cons_of_mem _ (List.mem_append_right _ (List.mem_append_left _ h))
theorem zz_in_zm_known_X1 : ∀ w ∈ wsX10, w ∈ zw_zm_known := fun w h => List.mem_cons_of_mem _ (List.mem_append_right _ (List.mem_append_right _ (List.mem_append_left _ h)))
set_option maxRecDepth 20000 in
theorem zz_g_zm_known_zm_seenValue : GoodIn zw_zm_known zw_zm_seenValue := goodIn_ca (goodIn_r ([.code yX1_seenValue cX1_seenValue 4 (some .long), .constantLong RX1 88 (-1), .fieldLink RX1 19 "FilterHouse$Judge" "seen" "[Z"]) [4, 2, 3] rfl (by decide +kernel)) (goodIn_app (goodIn_sub zz_in_zm_known_X1 zz_gw_X1) (goodIn_sub (fun _ h => absurd h List.not_mem_nil) rfl))
set_option maxHeartbeats 1000000 in
set_option maxRecDepth 100000 in
/-- zm_known -/
theorem zm_known (l : Launch) (dC : Nat → ClassId) (dI : Nat → Nat → Nat) (cB cI cJ cZ : ClassId) (h0 h6 j_seen h1 h2 h3 h4 h5 h7 j_steps j_facts j_known j_leads j_begins j_joins j_functions j_kept j_waits j_firsts j_lasts j_here j_spare j_pairs : Nat) (sz : Nat) (p0 : Int32) (p1 : Int32) (p2 : Int32) : Met l yX11_known zw_zm_known ({ frames := 1, cells := 0, slots := 0, locals := 23 }) (va_Pc [.ref h0, .int p0, .int p1, .int p2] (fun U => U.heap.size = sz ∧ va_P (dC, dI) zz_cl [(h0, .inr (10, [.ref h1, .int 0, .ref h2, .ref h3, .ref h4, .ref h5, .ref h6, .ref h7])), (h6, .inr (0, [.ref j_steps, .ref j_facts, .ref j_seen, .ref j_known, .int 0, .ref j_leads, .ref j_begins, .ref j_joins, .ref j_functions, .ref j_kept, .ref j_waits, .int 0, .ref j_firsts, .ref j_lasts, .ref j_here, .ref j_spare, .ref j_pairs])), (j_seen, .inl (cZ, 200, .inl (fun _ => 0)))] U.heap ∧ va_K (dC, dI) zz_cl [(cB, .byte), (cI, .int), (cJ, .long), (cZ, .boolean)] U ∧ va_D (fun _ => True) [(h0, .inr (10, [.ref h1, .int 0, .ref h2, .ref h3, .ref h4, .ref h5, .ref h6, .ref h7])), (h6, .inr (0, [.ref j_steps, .ref j_facts, .ref j_seen, .ref j_known, .int 0, .ref j_leads, .ref j_begins, .ref j_joins, .ref j_functions, .ref j_kept, .ref j_waits, .int 0, .ref j_firsts, .ref j_lasts, .ref j_here, .ref j_spare, .ref j_pairs])), (j_seen, .inl (cZ, 200, .inl (fun _ => 0)))])) (va_Ql (fun (r : Int64) (_ : Unit) => r = (-1)) (fun (_ : Unit) _ => True) (va_A [(h0, .inr (10, [.ref h1, .int 0, .ref h2, .ref h3, .ref h4, .ref h5, .ref h6, .ref h7])), (h6, .inr (0, [.ref j_steps, .ref j_facts, .ref j_seen, .ref j_known, .int 0, .ref j_leads, .ref j_begins, .ref j_joins, .ref j_functions, .ref j_kept, .ref j_waits, .int 0, .ref j_firsts, .ref j_lasts, .ref j_here, .ref j_spare, .ref j_pairs])), (j_seen, .inl (cZ, 200, .inl (fun _ => 0)))] sz)) 0 0 (va_A [(h0, .inr (10, [.ref h1, .int 0, .ref h2, .ref h3, .ref h4, .ref h5, .ref h6, .ref h7])), (h6, .inr (0, [.ref j_steps, .ref j_facts, .ref j_seen, .ref j_known, .int 0, .ref j_leads, .ref j_begins, .ref j_joins, .ref j_functions, .ref j_kept, .ref j_waits, .int 0, .ref j_firsts, .ref j_lasts, .ref j_here, .ref j_spare, .ref j_pairs])), (j_seen, .inl (cZ, 200, .inl (fun _ => 0)))] sz) := by
  refine Met.ofW (cc := cX11_known) (maxL := 4) (ret := (some .long)) (by decide +kernel) rfl ?_
  intro p e s m args below meth c s₁ B hml hv
  obtain ⟨rfl, hsz, hP, hK, hD0⟩ := hv
  have hx := B.exec
  have hb := B.bytes
  have hr := B.returns
  have hts := atoms_spec (ws := zw_zm_known) B.pre
  have hown : s.vm.findClass RX11 = some m.cls := findClass_of_methodNamed B.named
  have hlocks := B.notSynchronized
  subst hsz
  have hD := hD0.self (sz := s.heap.size)
  generalize hAe : va_A [(h0, .inr (10, [.ref h1, .int 0, .ref h2, .ref h3, .ref h4, .ref h5, .ref h6, .ref h7])), (h6, .inr (0, [.ref j_steps, .ref j_facts, .ref j_seen, .ref j_known, .int 0, .ref j_leads, .ref j_begins, .ref j_joins, .ref j_functions, .ref j_kept, .ref j_waits, .int 0, .ref j_firsts, .ref j_lasts, .ref j_here, .ref j_spare, .ref j_pairs])), (j_seen, .inl (cZ, 200, .inl (fun _ => 0)))] s.heap.size = A at hD ⊢
  have hA : ∀ q : Nat, s.heap.size ≤ q → A q := fun q h => by rw [← hAe]; exact Or.inr h
  have hS : va_S A s.heap s.heap [] := va_S.rf
  have hP : va_P (dC, dI) zz_cl [(h0, .inr (10, [.ref h1, .int 0, .ref h2, .ref h3, .ref h4, .ref h5, .ref h6, .ref h7])), (h6, .inr (0, [.ref j_steps, .ref j_facts, .ref j_seen, .ref j_known, .int 0, .ref j_leads, .ref j_begins, .ref j_joins, .ref j_functions, .ref j_kept, .ref j_waits, .int 0, .ref j_firsts, .ref j_lasts, .ref j_here, .ref j_spare, .ref j_pairs])), (j_seen, .inl (cZ, 200, .inl (fun _ => 0)))] s.heap := hP
  have hl := lv_entry ([.ref h0, .int p0, .int p1, .int p2]) (n := 4) (Nat.le_of_ble_eq_true rfl)
  rw [lg_entry_eq]
  generalize (lg_sl ([.ref h0, .int p0, .int p1, .int p2]) ++ List.replicate (4 - (lg_sl ([.ref h0, .int p0, .int p1, .int p2])).length) Slot.unset).toArray = ls at hl ⊢
  have hl : lv_has ls 4 [(0, .ref h0), (1, .int p0), (2, .int p1), (3, .int p2)] := hl
  refine lv_aload_n hx hb dX11_known_0 rfl (lv_at hl 0 rfl) ?_
  refine va_get (D := (dC, dI)) (ci := 10) (v := .ref h6) (C := RX11) (T := TX11) (N := 8) hx hb hts zz_in_zm_known_X11 hown hK hP 0 rfl rfl 6 (by decide +kernel) (hts (.fieldLink RX11 50 "FilterHouse" "judges" "LFilterHouse$Judge;") (List.mem_of_getElem? (i := 1) rfl)) (fun _ h9 => h9) rfl dX11_known_1 ?_
  refine lv_iload_n hx hb dX11_known_4 rfl (lv_at hl 1 rfl) ?_
  refine lv_iload_n hx hb dX11_known_5 rfl (lv_at hl 2 rfl) ?_
  refine lv_iload_n hx hb dX11_known_6 rfl (lv_at hl 3 rfl) ?_
  have hPc := hP.sub (ws' := [(h6, .inr (0, [.ref j_steps, .ref j_facts, .ref j_seen, .ref j_known, .int 0, .ref j_leads, .ref j_begins, .ref j_joins, .ref j_functions, .ref j_kept, .ref j_waits, .int 0, .ref j_firsts, .ref j_lasts, .ref j_here, .ref j_spare, .ref j_pairs])), (j_seen, .inl (cZ, 200, .inl (fun _ => 0)))]) [1, 2] rfl
  have hDc := hD.sub (ws' := [(h6, .inr (0, [.ref j_steps, .ref j_facts, .ref j_seen, .ref j_known, .int 0, .ref j_leads, .ref j_begins, .ref j_joins, .ref j_functions, .ref j_kept, .ref j_waits, .int 0, .ref j_firsts, .ref j_lasts, .ref j_here, .ref j_spare, .ref j_pairs])), (j_seen, .inl (cZ, 200, .inl (fun _ => 0)))]) [1, 2] (by decide +kernel) rfl
  have hFc := va_free (wc := [(h6, .inr (0, [.ref j_steps, .ref j_facts, .ref j_seen, .ref j_known, .int 0, .ref j_leads, .ref j_begins, .ref j_joins, .ref j_functions, .ref j_kept, .ref j_waits, .int 0, .ref j_firsts, .ref j_lasts, .ref j_here, .ref j_spare, .ref j_pairs])), (j_seen, .inl (cZ, 200, .inl (fun _ => 0)))]) hD hS hA [1, 2] rfl
  refine va_calll (va_runV (As := [.int p0, .int p1, .int p2]) (rest := []) ⟨hx, hb, hml, hown, hts⟩ (zm_seenValue l dC dI cB cI cJ cZ h6 j_seen j_steps j_facts j_known j_leads j_begins j_joins j_functions j_kept j_waits j_firsts j_lasts j_here j_spare j_pairs s.heap.size p0 p1 p2) (cwV 3 hts (goodIn_app (goodIn_r [.methodLink RX11 133 yX1_seenValue, .instanceMethod yX1_seenValue, .selects RX1 yX1_seenValue yX1_seenValue, .initialized RX1] [5, 6, 7, 8] rfl (by decide +kernel)) zz_g_zm_known_zm_seenValue) rfl rfl rfl (by decide +kernel) ⟨Nat.le_of_ble_eq_true rfl, Nat.le_of_ble_eq_true rfl⟩) ⟨fun a U g mk q => by obtain ⟨q0, q1, qP, qK, qD⟩ := q; exact ⟨q0, q1, qP, va_K.moved (u := U) (U := U.calling g mk a) (Vm.Alike.refl U.vm) qK, qD⟩, va_recv hK hPc (ci := 0) (q0 := 0) rfl rfl, fun U hU hW => ⟨rfl, by rw [hU], by rw [hU]; exact hPc, va_K.moved hW.alike hK, hDc.weaken (fun _ _ _ _ => trivial)⟩⟩ rfl rfl hl.1 rfl (lv_room (Nat.le_of_ble_eq_true rfl)) dX11_known_7 ⟨Nat.le_of_ble_eq_true rfl, Nat.le_of_ble_eq_true rfl⟩) hS (fun q _ h => hFc q h) hFc (fun r_1 u_3 t H1 locs ht hvm hw_2 hB hz1 hk1 hS => ?_)
  obtain ⟨hP, hD⟩ := va_join (wr := [(h0, .inr (10, [.ref h1, .int 0, .ref h2, .ref h3, .ref h4, .ref h5, .ref h6, .ref h7]))]) (w1 := []) hP hD [1, 2] [0] rfl rfl (by decide +kernel) (by decide +kernel) hk1 hFc zz_P0 zz_D0
  generalize H1 = H at hP hS ⊢
  have hP : va_P (dC, dI) zz_cl [(h0, .inr (10, [.ref h1, .int 0, .ref h2, .ref h3, .ref h4, .ref h5, .ref h6, .ref h7]))] H := hP
  have hD : va_D A [(h0, .inr (10, [.ref h1, .int 0, .ref h2, .ref h3, .ref h4, .ref h5, .ref h6, .ref h7]))] := hD
  try dsimp only at hw_2
  obtain rfl : r_1 = ((-1) : Int64) := hw_2
  exact W.lret (v := (-1)) hx hb hr (fun t ht hW => ⟨⟨(-1), (), rfl, rfl, trivial⟩, hS.F ht⟩) hS.2.2 dX11_known_10
def zw_zm_isShape : List Cond := .code yX2_isShape cX2_isShape 4 (some .boolean) :: ([] ++ [])
set_option maxHeartbeats 1000000 in
set_option maxRecDepth 100000 in
/-- zm_isShape -/
theorem zm_isShape (l : Launch) (dC : Nat → ClassId) (dI : Nat → Nat → Nat) (cB cI cJ cZ : ClassId) (sz : Nat) (p0 : Int32) (p1 : Int32) (p2 : Int32) : Met l yX2_isShape zw_zm_isShape ({ frames := 0, cells := 0, slots := 0, locals := 0 }) (va_Pc [.int p0, .int p1, .int p2] (fun U => U.heap.size = sz ∧ va_P (dC, dI) zz_cl [] U.heap ∧ va_K (dC, dI) zz_cl [(cB, .byte), (cI, .int), (cJ, .long), (cZ, .boolean)] U ∧ va_D (fun _ => True) [])) (va_Qi (fun (r : Int32) (_ : Unit) => (r = 1 ∧ (((p0.toInt = 0 ∧ p1.toInt = 4 ∧ 1 ≤ p2.toInt ∧ p2.toInt ≤ 64) ∨ (p0.toInt = 1 ∧ 1 ≤ p1.toInt ∧ p1.toInt ≤ 16 ∧ 1 ≤ p2.toInt ∧ p2.toInt ≤ 64) ∨ ((p0.toInt = 2 ∨ p0.toInt = 3) ∧ p1.toInt = 0 ∧ p2.toInt = 0)))) ∨ (r = 0 ∧ ¬ (((p0.toInt = 0 ∧ p1.toInt = 4 ∧ 1 ≤ p2.toInt ∧ p2.toInt ≤ 64) ∨ (p0.toInt = 1 ∧ 1 ≤ p1.toInt ∧ p1.toInt ≤ 16 ∧ 1 ≤ p2.toInt ∧ p2.toInt ≤ 64) ∨ ((p0.toInt = 2 ∨ p0.toInt = 3) ∧ p1.toInt = 0 ∧ p2.toInt = 0))))) (fun (_ : Unit) _ => True) (va_A [] sz)) 0 0 (va_A [] sz) := by
  refine Met.ofW (cc := cX2_isShape) (maxL := 4) (ret := (some .boolean)) (by decide +kernel) rfl ?_
  intro p e s m args below meth c s₁ B hml hv
  obtain ⟨rfl, hsz, hP, hK, hD0⟩ := hv
  have hx := B.exec
  have hb := B.bytes
  have hr := B.returns
  have hts := atoms_spec (ws := zw_zm_isShape) B.pre
  have hown : s.vm.findClass RX2 = some m.cls := findClass_of_methodNamed B.named
  have hlocks := B.notSynchronized
  subst hsz
  have hD := hD0.self (sz := s.heap.size)
  generalize hAe : va_A [] s.heap.size = A at hD ⊢
  have hA : ∀ q : Nat, s.heap.size ≤ q → A q := fun q h => by rw [← hAe]; exact Or.inr h
  have hS : va_S A s.heap s.heap [] := va_S.rf
  have hP : va_P (dC, dI) zz_cl [] s.heap := hP
  have hl := lv_entry ([.int p0, .int p1, .int p2]) (n := 4) (Nat.le_of_ble_eq_true rfl)
  rw [lg_entry_eq]
  generalize (lg_sl ([.int p0, .int p1, .int p2]) ++ List.replicate (4 - (lg_sl ([.int p0, .int p1, .int p2])).length) Slot.unset).toArray = ls at hl ⊢
  have hl : lv_has ls 4 [(0, .int p0), (1, .int p1), (2, .int p2)] := hl
  refine lv_iload_n hx hb dX2_isShape_0 rfl (lv_at hl 2 rfl) ?_
  refine lv_iconst (v := 1) hx hb dX2_isShape_1 (by decide +kernel) ?_
  refine lv_icmp_lt (tgt := 15) hx hb dX2_isShape_2 (by decide +kernel) (fun c_1 => ?_) (fun c_1 => ?_)
  · refine lv_iconst (v := 0) hx hb dX2_isShape_15 (by decide +kernel) ?_
    refine lv_istore_n (lv' := [(3, .int 0), (0, .int p0), (1, .int p1), (2, .int p2)]) hx hb dX2_isShape_16 rfl hl (by decide +kernel) rfl (fun ls hl => ?_)
    refine lv_iload_n hx hb dX2_isShape_17 rfl (lv_at hl 1 rfl) ?_
    rcases zz_sw_0_3 p0 with rfl | rfl | rfl | rfl | hsw_2
    · refine lv_tableIn (off := 30) (tgt := 48) hx hb dX2_isShape_18 (by decide +kernel) (by decide +kernel) rfl (by decide +kernel) ?_
      refine lv_iload_n hx hb dX2_isShape_48 rfl (lv_at hl 2 rfl) ?_
      refine lv_iconst (v := 4) hx hb dX2_isShape_49 (by decide +kernel) ?_
      refine lv_icmp_ne (tgt := 61) hx hb dX2_isShape_50 (by decide +kernel) (fun c_3 => ?_) (fun c_3 => ?_)
      · refine lv_iconst (v := 0) hx hb dX2_isShape_61 (by decide +kernel) ?_
        exact W.zret (v := 0) (ty := .boolean) hx hb hr rfl (fun t ht hW => ⟨⟨0, (), rfl, Or.inr ⟨rfl, by have qc_1 := (fa_lt _ _).mp c_1; have qc_3 := mt (fa_eq _ _).mpr c_3; have k0 : (0 : Int32).toInt = 0 := rfl; have k1 : (1 : Int32).toInt = 1 := rfl; have k4 : (4 : Int32).toInt = 4 := rfl; omega⟩, trivial⟩, hS.F ht⟩) hS.2.2 dX2_isShape_62
      · refine lv_iload_n hx hb dX2_isShape_53 rfl (lv_at hl 0 rfl) ?_
        refine lv_if_eq (tgt := 61) hx hb dX2_isShape_54 (by decide +kernel) (fun c_4 => ?_) (fun c_4 => ?_)
        · refine lv_iconst (v := 0) hx hb dX2_isShape_61 (by decide +kernel) ?_
          exact W.zret (v := 0) (ty := .boolean) hx hb hr rfl (fun t ht hW => ⟨⟨0, (), rfl, Or.inr ⟨rfl, by have qc_1 := (fa_lt _ _).mp c_1; have qc_3 := (fa_eq _ _).mp c_3; have qc_4 := (fa_eq _ _).mp c_4; have k0 : (0 : Int32).toInt = 0 := rfl; have k1 : (1 : Int32).toInt = 1 := rfl; have k4 : (4 : Int32).toInt = 4 := rfl; omega⟩, trivial⟩, hS.F ht⟩) hS.2.2 dX2_isShape_62
        · exact absurd c_4 (by decide +kernel)
    · refine lv_tableIn (off := 45) (tgt := 63) hx hb dX2_isShape_18 (by decide +kernel) (by decide +kernel) rfl (by decide +kernel) ?_
      refine lv_iload_n hx hb dX2_isShape_63 rfl (lv_at hl 2 rfl) ?_
      refine lv_iconst (v := 1) hx hb dX2_isShape_64 (by decide +kernel) ?_
      refine lv_icmp_lt (tgt := 82) hx hb dX2_isShape_65 (by decide +kernel) (fun c_5 => ?_) (fun c_5 => ?_)
      · refine lv_iconst (v := 0) hx hb dX2_isShape_82 (by decide +kernel) ?_
        exact W.zret (v := 0) (ty := .boolean) hx hb hr rfl (fun t ht hW => ⟨⟨0, (), rfl, Or.inr ⟨rfl, by have qc_1 := (fa_lt _ _).mp c_1; have qc_5 := (fa_lt _ _).mp c_5; have k1 : (1 : Int32).toInt = 1 := rfl; omega⟩, trivial⟩, hS.F ht⟩) hS.2.2 dX2_isShape_83
      · refine lv_iload_n hx hb dX2_isShape_68 rfl (lv_at hl 2 rfl) ?_
        refine lv_bipush (v := 16) hx hb dX2_isShape_69 (by decide +kernel) ?_
        refine lv_icmp_gt (tgt := 82) hx hb dX2_isShape_71 (by decide +kernel) (fun c_6 => ?_) (fun c_6 => ?_)
        · refine lv_iconst (v := 0) hx hb dX2_isShape_82 (by decide +kernel) ?_
          exact W.zret (v := 0) (ty := .boolean) hx hb hr rfl (fun t ht hW => ⟨⟨0, (), rfl, Or.inr ⟨rfl, by have qc_1 := (fa_lt _ _).mp c_1; have qc_5 := mt (fa_lt _ _).mpr c_5; have qc_6 := (fa_lt _ _).mp c_6; have k1 : (1 : Int32).toInt = 1 := rfl; have k16 : (16 : Int32).toInt = 16 := rfl; omega⟩, trivial⟩, hS.F ht⟩) hS.2.2 dX2_isShape_83
        · refine lv_iload_n hx hb dX2_isShape_74 rfl (lv_at hl 0 rfl) ?_
          refine lv_if_eq (tgt := 82) hx hb dX2_isShape_75 (by decide +kernel) (fun c_7 => ?_) (fun c_7 => ?_)
          · refine lv_iconst (v := 0) hx hb dX2_isShape_82 (by decide +kernel) ?_
            exact W.zret (v := 0) (ty := .boolean) hx hb hr rfl (fun t ht hW => ⟨⟨0, (), rfl, Or.inr ⟨rfl, by have qc_1 := (fa_lt _ _).mp c_1; have qc_5 := mt (fa_lt _ _).mpr c_5; have qc_6 := mt (fa_lt _ _).mpr c_6; have qc_7 := (fa_eq _ _).mp c_7; have k0 : (0 : Int32).toInt = 0 := rfl; have k1 : (1 : Int32).toInt = 1 := rfl; have k16 : (16 : Int32).toInt = 16 := rfl; omega⟩, trivial⟩, hS.F ht⟩) hS.2.2 dX2_isShape_83
          · exact absurd c_7 (by decide +kernel)
    · refine lv_tableIn (off := 66) (tgt := 84) hx hb dX2_isShape_18 (by decide +kernel) (by decide +kernel) rfl (by decide +kernel) ?_
      refine lv_iload_n hx hb dX2_isShape_84 rfl (lv_at hl 2 rfl) ?_
      refine lv_if_ne (tgt := 96) hx hb dX2_isShape_85 (by decide +kernel) (fun c_8 => ?_) (fun c_8 => ?_)
      · refine lv_iconst (v := 0) hx hb dX2_isShape_96 (by decide +kernel) ?_
        exact W.zret (v := 0) (ty := .boolean) hx hb hr rfl (fun t ht hW => ⟨⟨0, (), rfl, Or.inr ⟨rfl, by have qc_1 := (fa_lt _ _).mp c_1; have qc_8 := mt (fa_eq _ _).mpr c_8; have k0 : (0 : Int32).toInt = 0 := rfl; have k1 : (1 : Int32).toInt = 1 := rfl; have k2 : (2 : Int32).toInt = 2 := rfl; omega⟩, trivial⟩, hS.F ht⟩) hS.2.2 dX2_isShape_97
      · refine lv_iload_n hx hb dX2_isShape_88 rfl (lv_at hl 3 rfl) ?_
        refine lv_if_ne (tgt := 96) hx hb dX2_isShape_89 (by decide +kernel) (fun c_9 => ?_) (fun c_9 => ?_)
        · refine lv_iconst (v := 0) hx hb dX2_isShape_96 (by decide +kernel) ?_
          exact W.zret (v := 0) (ty := .boolean) hx hb hr rfl (fun t ht hW => ⟨⟨0, (), rfl, Or.inr ⟨rfl, by have qc_1 := (fa_lt _ _).mp c_1; have qc_8 := (fa_eq _ _).mp c_8; have qc_9 := mt (fa_eq _ _).mpr c_9; have k0 : (0 : Int32).toInt = 0 := rfl; have k1 : (1 : Int32).toInt = 1 := rfl; have k2 : (2 : Int32).toInt = 2 := rfl; omega⟩, trivial⟩, hS.F ht⟩) hS.2.2 dX2_isShape_97
        · refine lv_iconst (v := 1) hx hb dX2_isShape_92 (by decide +kernel) ?_
          refine lv_goto (tgt := 97) hx hb dX2_isShape_93 (by decide +kernel) ?_
          exact W.zret (v := 1) (ty := .boolean) hx hb hr rfl (fun t ht hW => ⟨⟨1, (), rfl, Or.inl ⟨rfl, by have qc_1 := (fa_lt _ _).mp c_1; have qc_8 := (fa_eq _ _).mp c_8; have qc_9 := (fa_eq _ _).mp c_9; have k0 : (0 : Int32).toInt = 0 := rfl; have k1 : (1 : Int32).toInt = 1 := rfl; have k2 : (2 : Int32).toInt = 2 := rfl; omega⟩, trivial⟩, hS.F ht⟩) hS.2.2 dX2_isShape_97
    · refine lv_tableIn (off := 66) (tgt := 84) hx hb dX2_isShape_18 (by decide +kernel) (by decide +kernel) rfl (by decide +kernel) ?_
      refine lv_iload_n hx hb dX2_isShape_84 rfl (lv_at hl 2 rfl) ?_
      refine lv_if_ne (tgt := 96) hx hb dX2_isShape_85 (by decide +kernel) (fun c_10 => ?_) (fun c_10 => ?_)
      · refine lv_iconst (v := 0) hx hb dX2_isShape_96 (by decide +kernel) ?_
        exact W.zret (v := 0) (ty := .boolean) hx hb hr rfl (fun t ht hW => ⟨⟨0, (), rfl, Or.inr ⟨rfl, by have qc_1 := (fa_lt _ _).mp c_1; have qc_10 := mt (fa_eq _ _).mpr c_10; have k0 : (0 : Int32).toInt = 0 := rfl; have k1 : (1 : Int32).toInt = 1 := rfl; have k3 : (3 : Int32).toInt = 3 := rfl; omega⟩, trivial⟩, hS.F ht⟩) hS.2.2 dX2_isShape_97
      · refine lv_iload_n hx hb dX2_isShape_88 rfl (lv_at hl 3 rfl) ?_
        refine lv_if_ne (tgt := 96) hx hb dX2_isShape_89 (by decide +kernel) (fun c_11 => ?_) (fun c_11 => ?_)
        · refine lv_iconst (v := 0) hx hb dX2_isShape_96 (by decide +kernel) ?_
          exact W.zret (v := 0) (ty := .boolean) hx hb hr rfl (fun t ht hW => ⟨⟨0, (), rfl, Or.inr ⟨rfl, by have qc_1 := (fa_lt _ _).mp c_1; have qc_10 := (fa_eq _ _).mp c_10; have qc_11 := mt (fa_eq _ _).mpr c_11; have k0 : (0 : Int32).toInt = 0 := rfl; have k1 : (1 : Int32).toInt = 1 := rfl; have k3 : (3 : Int32).toInt = 3 := rfl; omega⟩, trivial⟩, hS.F ht⟩) hS.2.2 dX2_isShape_97
        · refine lv_iconst (v := 1) hx hb dX2_isShape_92 (by decide +kernel) ?_
          refine lv_goto (tgt := 97) hx hb dX2_isShape_93 (by decide +kernel) ?_
          exact W.zret (v := 1) (ty := .boolean) hx hb hr rfl (fun t ht hW => ⟨⟨1, (), rfl, Or.inl ⟨rfl, by have qc_1 := (fa_lt _ _).mp c_1; have qc_10 := (fa_eq _ _).mp c_10; have qc_11 := (fa_eq _ _).mp c_11; have k0 : (0 : Int32).toInt = 0 := rfl; have k1 : (1 : Int32).toInt = 1 := rfl; have k3 : (3 : Int32).toInt = 3 := rfl; omega⟩, trivial⟩, hS.F ht⟩) hS.2.2 dX2_isShape_97
    · refine lv_tableOut (tgt := 98) hx hb dX2_isShape_18 hsw_2 (by decide +kernel) ?_
      refine lv_iconst (v := 0) hx hb dX2_isShape_98 (by decide +kernel) ?_
      exact W.zret (v := 0) (ty := .boolean) hx hb hr rfl (fun t ht hW => ⟨⟨0, (), rfl, Or.inr ⟨rfl, by have qc_1 := (fa_lt _ _).mp c_1; have k1 : (1 : Int32).toInt = 1 := rfl; omega⟩, trivial⟩, hS.F ht⟩) hS.2.2 dX2_isShape_99
  · refine lv_iload_n hx hb dX2_isShape_5 rfl (lv_at hl 2 rfl) ?_
    refine lv_bipush (v := 64) hx hb dX2_isShape_6 (by decide +kernel) ?_
    refine lv_icmp_gt (tgt := 15) hx hb dX2_isShape_8 (by decide +kernel) (fun c_12 => ?_) (fun c_12 => ?_)
    · refine lv_iconst (v := 0) hx hb dX2_isShape_15 (by decide +kernel) ?_
      refine lv_istore_n (lv' := [(3, .int 0), (0, .int p0), (1, .int p1), (2, .int p2)]) hx hb dX2_isShape_16 rfl hl (by decide +kernel) rfl (fun ls hl => ?_)
      refine lv_iload_n hx hb dX2_isShape_17 rfl (lv_at hl 1 rfl) ?_
      rcases zz_sw_0_3 p0 with rfl | rfl | rfl | rfl | hsw_13
      · refine lv_tableIn (off := 30) (tgt := 48) hx hb dX2_isShape_18 (by decide +kernel) (by decide +kernel) rfl (by decide +kernel) ?_
        refine lv_iload_n hx hb dX2_isShape_48 rfl (lv_at hl 2 rfl) ?_
        refine lv_iconst (v := 4) hx hb dX2_isShape_49 (by decide +kernel) ?_
        refine lv_icmp_ne (tgt := 61) hx hb dX2_isShape_50 (by decide +kernel) (fun c_14 => ?_) (fun c_14 => ?_)
        · refine lv_iconst (v := 0) hx hb dX2_isShape_61 (by decide +kernel) ?_
          exact W.zret (v := 0) (ty := .boolean) hx hb hr rfl (fun t ht hW => ⟨⟨0, (), rfl, Or.inr ⟨rfl, by have qc_1 := mt (fa_lt _ _).mpr c_1; have qc_12 := (fa_lt _ _).mp c_12; have qc_14 := mt (fa_eq _ _).mpr c_14; have k0 : (0 : Int32).toInt = 0 := rfl; have k1 : (1 : Int32).toInt = 1 := rfl; have k4 : (4 : Int32).toInt = 4 := rfl; have k64 : (64 : Int32).toInt = 64 := rfl; omega⟩, trivial⟩, hS.F ht⟩) hS.2.2 dX2_isShape_62
        · refine lv_iload_n hx hb dX2_isShape_53 rfl (lv_at hl 0 rfl) ?_
          refine lv_if_eq (tgt := 61) hx hb dX2_isShape_54 (by decide +kernel) (fun c_15 => ?_) (fun c_15 => ?_)
          · refine lv_iconst (v := 0) hx hb dX2_isShape_61 (by decide +kernel) ?_
            exact W.zret (v := 0) (ty := .boolean) hx hb hr rfl (fun t ht hW => ⟨⟨0, (), rfl, Or.inr ⟨rfl, by have qc_1 := mt (fa_lt _ _).mpr c_1; have qc_12 := (fa_lt _ _).mp c_12; have qc_14 := (fa_eq _ _).mp c_14; have qc_15 := (fa_eq _ _).mp c_15; have k0 : (0 : Int32).toInt = 0 := rfl; have k1 : (1 : Int32).toInt = 1 := rfl; have k4 : (4 : Int32).toInt = 4 := rfl; have k64 : (64 : Int32).toInt = 64 := rfl; omega⟩, trivial⟩, hS.F ht⟩) hS.2.2 dX2_isShape_62
          · exact absurd c_15 (by decide +kernel)
      · refine lv_tableIn (off := 45) (tgt := 63) hx hb dX2_isShape_18 (by decide +kernel) (by decide +kernel) rfl (by decide +kernel) ?_
        refine lv_iload_n hx hb dX2_isShape_63 rfl (lv_at hl 2 rfl) ?_
        refine lv_iconst (v := 1) hx hb dX2_isShape_64 (by decide +kernel) ?_
        refine lv_icmp_lt (tgt := 82) hx hb dX2_isShape_65 (by decide +kernel) (fun c_16 => ?_) (fun c_16 => ?_)
        · refine lv_iconst (v := 0) hx hb dX2_isShape_82 (by decide +kernel) ?_
          exact W.zret (v := 0) (ty := .boolean) hx hb hr rfl (fun t ht hW => ⟨⟨0, (), rfl, Or.inr ⟨rfl, by have qc_1 := mt (fa_lt _ _).mpr c_1; have qc_12 := (fa_lt _ _).mp c_12; have qc_16 := (fa_lt _ _).mp c_16; have k1 : (1 : Int32).toInt = 1 := rfl; have k64 : (64 : Int32).toInt = 64 := rfl; omega⟩, trivial⟩, hS.F ht⟩) hS.2.2 dX2_isShape_83
        · refine lv_iload_n hx hb dX2_isShape_68 rfl (lv_at hl 2 rfl) ?_
          refine lv_bipush (v := 16) hx hb dX2_isShape_69 (by decide +kernel) ?_
          refine lv_icmp_gt (tgt := 82) hx hb dX2_isShape_71 (by decide +kernel) (fun c_17 => ?_) (fun c_17 => ?_)
          · refine lv_iconst (v := 0) hx hb dX2_isShape_82 (by decide +kernel) ?_
            exact W.zret (v := 0) (ty := .boolean) hx hb hr rfl (fun t ht hW => ⟨⟨0, (), rfl, Or.inr ⟨rfl, by have qc_1 := mt (fa_lt _ _).mpr c_1; have qc_12 := (fa_lt _ _).mp c_12; have qc_16 := mt (fa_lt _ _).mpr c_16; have qc_17 := (fa_lt _ _).mp c_17; have k1 : (1 : Int32).toInt = 1 := rfl; have k16 : (16 : Int32).toInt = 16 := rfl; have k64 : (64 : Int32).toInt = 64 := rfl; omega⟩, trivial⟩, hS.F ht⟩) hS.2.2 dX2_isShape_83
          · refine lv_iload_n hx hb dX2_isShape_74 rfl (lv_at hl 0 rfl) ?_
            refine lv_if_eq (tgt := 82) hx hb dX2_isShape_75 (by decide +kernel) (fun c_18 => ?_) (fun c_18 => ?_)
            · refine lv_iconst (v := 0) hx hb dX2_isShape_82 (by decide +kernel) ?_
              exact W.zret (v := 0) (ty := .boolean) hx hb hr rfl (fun t ht hW => ⟨⟨0, (), rfl, Or.inr ⟨rfl, by have qc_1 := mt (fa_lt _ _).mpr c_1; have qc_12 := (fa_lt _ _).mp c_12; have qc_16 := mt (fa_lt _ _).mpr c_16; have qc_17 := mt (fa_lt _ _).mpr c_17; have qc_18 := (fa_eq _ _).mp c_18; have k0 : (0 : Int32).toInt = 0 := rfl; have k1 : (1 : Int32).toInt = 1 := rfl; have k16 : (16 : Int32).toInt = 16 := rfl; have k64 : (64 : Int32).toInt = 64 := rfl; omega⟩, trivial⟩, hS.F ht⟩) hS.2.2 dX2_isShape_83
            · exact absurd c_18 (by decide +kernel)
      · refine lv_tableIn (off := 66) (tgt := 84) hx hb dX2_isShape_18 (by decide +kernel) (by decide +kernel) rfl (by decide +kernel) ?_
        refine lv_iload_n hx hb dX2_isShape_84 rfl (lv_at hl 2 rfl) ?_
        refine lv_if_ne (tgt := 96) hx hb dX2_isShape_85 (by decide +kernel) (fun c_19 => ?_) (fun c_19 => ?_)
        · refine lv_iconst (v := 0) hx hb dX2_isShape_96 (by decide +kernel) ?_
          exact W.zret (v := 0) (ty := .boolean) hx hb hr rfl (fun t ht hW => ⟨⟨0, (), rfl, Or.inr ⟨rfl, by have qc_1 := mt (fa_lt _ _).mpr c_1; have qc_12 := (fa_lt _ _).mp c_12; have qc_19 := mt (fa_eq _ _).mpr c_19; have k0 : (0 : Int32).toInt = 0 := rfl; have k1 : (1 : Int32).toInt = 1 := rfl; have k2 : (2 : Int32).toInt = 2 := rfl; have k64 : (64 : Int32).toInt = 64 := rfl; omega⟩, trivial⟩, hS.F ht⟩) hS.2.2 dX2_isShape_97
        · refine lv_iload_n hx hb dX2_isShape_88 rfl (lv_at hl 3 rfl) ?_
          refine lv_if_ne (tgt := 96) hx hb dX2_isShape_89 (by decide +kernel) (fun c_20 => ?_) (fun c_20 => ?_)
          · refine lv_iconst (v := 0) hx hb dX2_isShape_96 (by decide +kernel) ?_
            exact W.zret (v := 0) (ty := .boolean) hx hb hr rfl (fun t ht hW => ⟨⟨0, (), rfl, Or.inr ⟨rfl, by have qc_1 := mt (fa_lt _ _).mpr c_1; have qc_12 := (fa_lt _ _).mp c_12; have qc_19 := (fa_eq _ _).mp c_19; have qc_20 := mt (fa_eq _ _).mpr c_20; have k0 : (0 : Int32).toInt = 0 := rfl; have k1 : (1 : Int32).toInt = 1 := rfl; have k2 : (2 : Int32).toInt = 2 := rfl; have k64 : (64 : Int32).toInt = 64 := rfl; omega⟩, trivial⟩, hS.F ht⟩) hS.2.2 dX2_isShape_97
          · exact absurd trivial (by have qc_1 := mt (fa_lt _ _).mpr c_1; have qc_12 := (fa_lt _ _).mp c_12; have qc_19 := (fa_eq _ _).mp c_19; have qc_20 := (fa_eq _ _).mp c_20; have k0 : (0 : Int32).toInt = 0 := rfl; have k1 : (1 : Int32).toInt = 1 := rfl; have k2 : (2 : Int32).toInt = 2 := rfl; have k64 : (64 : Int32).toInt = 64 := rfl; omega)
      · refine lv_tableIn (off := 66) (tgt := 84) hx hb dX2_isShape_18 (by decide +kernel) (by decide +kernel) rfl (by decide +kernel) ?_
        refine lv_iload_n hx hb dX2_isShape_84 rfl (lv_at hl 2 rfl) ?_
        refine lv_if_ne (tgt := 96) hx hb dX2_isShape_85 (by decide +kernel) (fun c_21 => ?_) (fun c_21 => ?_)
        · refine lv_iconst (v := 0) hx hb dX2_isShape_96 (by decide +kernel) ?_
          exact W.zret (v := 0) (ty := .boolean) hx hb hr rfl (fun t ht hW => ⟨⟨0, (), rfl, Or.inr ⟨rfl, by have qc_1 := mt (fa_lt _ _).mpr c_1; have qc_12 := (fa_lt _ _).mp c_12; have qc_21 := mt (fa_eq _ _).mpr c_21; have k0 : (0 : Int32).toInt = 0 := rfl; have k1 : (1 : Int32).toInt = 1 := rfl; have k3 : (3 : Int32).toInt = 3 := rfl; have k64 : (64 : Int32).toInt = 64 := rfl; omega⟩, trivial⟩, hS.F ht⟩) hS.2.2 dX2_isShape_97
        · refine lv_iload_n hx hb dX2_isShape_88 rfl (lv_at hl 3 rfl) ?_
          refine lv_if_ne (tgt := 96) hx hb dX2_isShape_89 (by decide +kernel) (fun c_22 => ?_) (fun c_22 => ?_)
          · refine lv_iconst (v := 0) hx hb dX2_isShape_96 (by decide +kernel) ?_
            exact W.zret (v := 0) (ty := .boolean) hx hb hr rfl (fun t ht hW => ⟨⟨0, (), rfl, Or.inr ⟨rfl, by have qc_1 := mt (fa_lt _ _).mpr c_1; have qc_12 := (fa_lt _ _).mp c_12; have qc_21 := (fa_eq _ _).mp c_21; have qc_22 := mt (fa_eq _ _).mpr c_22; have k0 : (0 : Int32).toInt = 0 := rfl; have k1 : (1 : Int32).toInt = 1 := rfl; have k3 : (3 : Int32).toInt = 3 := rfl; have k64 : (64 : Int32).toInt = 64 := rfl; omega⟩, trivial⟩, hS.F ht⟩) hS.2.2 dX2_isShape_97
          · exact absurd trivial (by have qc_1 := mt (fa_lt _ _).mpr c_1; have qc_12 := (fa_lt _ _).mp c_12; have qc_21 := (fa_eq _ _).mp c_21; have qc_22 := (fa_eq _ _).mp c_22; have k0 : (0 : Int32).toInt = 0 := rfl; have k1 : (1 : Int32).toInt = 1 := rfl; have k3 : (3 : Int32).toInt = 3 := rfl; have k64 : (64 : Int32).toInt = 64 := rfl; omega)
      · refine lv_tableOut (tgt := 98) hx hb dX2_isShape_18 hsw_13 (by decide +kernel) ?_
        refine lv_iconst (v := 0) hx hb dX2_isShape_98 (by decide +kernel) ?_
        exact W.zret (v := 0) (ty := .boolean) hx hb hr rfl (fun t ht hW => ⟨⟨0, (), rfl, Or.inr ⟨rfl, by have qc_1 := mt (fa_lt _ _).mpr c_1; have qc_12 := (fa_lt _ _).mp c_12; have k1 : (1 : Int32).toInt = 1 := rfl; have k64 : (64 : Int32).toInt = 64 := rfl; omega⟩, trivial⟩, hS.F ht⟩) hS.2.2 dX2_isShape_99
    · refine lv_iconst (v := 1) hx hb dX2_isShape_11 (by decide +kernel) ?_
      refine lv_goto (tgt := 16) hx hb dX2_isShape_12 (by decide +kernel) ?_
      refine lv_istore_n (lv' := [(3, .int 1), (0, .int p0), (1, .int p1), (2, .int p2)]) hx hb dX2_isShape_16 rfl hl (by decide +kernel) rfl (fun ls hl => ?_)
      refine lv_iload_n hx hb dX2_isShape_17 rfl (lv_at hl 1 rfl) ?_
      rcases zz_sw_0_3 p0 with rfl | rfl | rfl | rfl | hsw_23
      · refine lv_tableIn (off := 30) (tgt := 48) hx hb dX2_isShape_18 (by decide +kernel) (by decide +kernel) rfl (by decide +kernel) ?_
        refine lv_iload_n hx hb dX2_isShape_48 rfl (lv_at hl 2 rfl) ?_
        refine lv_iconst (v := 4) hx hb dX2_isShape_49 (by decide +kernel) ?_
        refine lv_icmp_ne (tgt := 61) hx hb dX2_isShape_50 (by decide +kernel) (fun c_24 => ?_) (fun c_24 => ?_)
        · refine lv_iconst (v := 0) hx hb dX2_isShape_61 (by decide +kernel) ?_
          exact W.zret (v := 0) (ty := .boolean) hx hb hr rfl (fun t ht hW => ⟨⟨0, (), rfl, Or.inr ⟨rfl, by have qc_1 := mt (fa_lt _ _).mpr c_1; have qc_12 := mt (fa_lt _ _).mpr c_12; have qc_24 := mt (fa_eq _ _).mpr c_24; have k0 : (0 : Int32).toInt = 0 := rfl; have k1 : (1 : Int32).toInt = 1 := rfl; have k4 : (4 : Int32).toInt = 4 := rfl; have k64 : (64 : Int32).toInt = 64 := rfl; omega⟩, trivial⟩, hS.F ht⟩) hS.2.2 dX2_isShape_62
        · refine lv_iload_n hx hb dX2_isShape_53 rfl (lv_at hl 0 rfl) ?_
          refine lv_if_eq (tgt := 61) hx hb dX2_isShape_54 (by decide +kernel) (fun c_25 => ?_) (fun c_25 => ?_)
          · exact absurd c_25 (by decide +kernel)
          · refine lv_iconst (v := 1) hx hb dX2_isShape_57 (by decide +kernel) ?_
            refine lv_goto (tgt := 62) hx hb dX2_isShape_58 (by decide +kernel) ?_
            exact W.zret (v := 1) (ty := .boolean) hx hb hr rfl (fun t ht hW => ⟨⟨1, (), rfl, Or.inl ⟨rfl, by have qc_1 := mt (fa_lt _ _).mpr c_1; have qc_12 := mt (fa_lt _ _).mpr c_12; have qc_24 := (fa_eq _ _).mp c_24; have qc_25 := mt (fa_eq _ _).mpr c_25; have k0 : (0 : Int32).toInt = 0 := rfl; have k1 : (1 : Int32).toInt = 1 := rfl; have k4 : (4 : Int32).toInt = 4 := rfl; have k64 : (64 : Int32).toInt = 64 := rfl; omega⟩, trivial⟩, hS.F ht⟩) hS.2.2 dX2_isShape_62
      · refine lv_tableIn (off := 45) (tgt := 63) hx hb dX2_isShape_18 (by decide +kernel) (by decide +kernel) rfl (by decide +kernel) ?_
        refine lv_iload_n hx hb dX2_isShape_63 rfl (lv_at hl 2 rfl) ?_
        refine lv_iconst (v := 1) hx hb dX2_isShape_64 (by decide +kernel) ?_
        refine lv_icmp_lt (tgt := 82) hx hb dX2_isShape_65 (by decide +kernel) (fun c_26 => ?_) (fun c_26 => ?_)
        · refine lv_iconst (v := 0) hx hb dX2_isShape_82 (by decide +kernel) ?_
          exact W.zret (v := 0) (ty := .boolean) hx hb hr rfl (fun t ht hW => ⟨⟨0, (), rfl, Or.inr ⟨rfl, by have qc_1 := mt (fa_lt _ _).mpr c_1; have qc_12 := mt (fa_lt _ _).mpr c_12; have qc_26 := (fa_lt _ _).mp c_26; have k1 : (1 : Int32).toInt = 1 := rfl; have k64 : (64 : Int32).toInt = 64 := rfl; omega⟩, trivial⟩, hS.F ht⟩) hS.2.2 dX2_isShape_83
        · refine lv_iload_n hx hb dX2_isShape_68 rfl (lv_at hl 2 rfl) ?_
          refine lv_bipush (v := 16) hx hb dX2_isShape_69 (by decide +kernel) ?_
          refine lv_icmp_gt (tgt := 82) hx hb dX2_isShape_71 (by decide +kernel) (fun c_27 => ?_) (fun c_27 => ?_)
          · refine lv_iconst (v := 0) hx hb dX2_isShape_82 (by decide +kernel) ?_
            exact W.zret (v := 0) (ty := .boolean) hx hb hr rfl (fun t ht hW => ⟨⟨0, (), rfl, Or.inr ⟨rfl, by have qc_1 := mt (fa_lt _ _).mpr c_1; have qc_12 := mt (fa_lt _ _).mpr c_12; have qc_26 := mt (fa_lt _ _).mpr c_26; have qc_27 := (fa_lt _ _).mp c_27; have k1 : (1 : Int32).toInt = 1 := rfl; have k16 : (16 : Int32).toInt = 16 := rfl; have k64 : (64 : Int32).toInt = 64 := rfl; omega⟩, trivial⟩, hS.F ht⟩) hS.2.2 dX2_isShape_83
          · refine lv_iload_n hx hb dX2_isShape_74 rfl (lv_at hl 0 rfl) ?_
            refine lv_if_eq (tgt := 82) hx hb dX2_isShape_75 (by decide +kernel) (fun c_28 => ?_) (fun c_28 => ?_)
            · exact absurd c_28 (by decide +kernel)
            · refine lv_iconst (v := 1) hx hb dX2_isShape_78 (by decide +kernel) ?_
              refine lv_goto (tgt := 83) hx hb dX2_isShape_79 (by decide +kernel) ?_
              exact W.zret (v := 1) (ty := .boolean) hx hb hr rfl (fun t ht hW => ⟨⟨1, (), rfl, Or.inl ⟨rfl, by have qc_1 := mt (fa_lt _ _).mpr c_1; have qc_12 := mt (fa_lt _ _).mpr c_12; have qc_26 := mt (fa_lt _ _).mpr c_26; have qc_27 := mt (fa_lt _ _).mpr c_27; have qc_28 := mt (fa_eq _ _).mpr c_28; have k0 : (0 : Int32).toInt = 0 := rfl; have k1 : (1 : Int32).toInt = 1 := rfl; have k16 : (16 : Int32).toInt = 16 := rfl; have k64 : (64 : Int32).toInt = 64 := rfl; omega⟩, trivial⟩, hS.F ht⟩) hS.2.2 dX2_isShape_83
      · refine lv_tableIn (off := 66) (tgt := 84) hx hb dX2_isShape_18 (by decide +kernel) (by decide +kernel) rfl (by decide +kernel) ?_
        refine lv_iload_n hx hb dX2_isShape_84 rfl (lv_at hl 2 rfl) ?_
        refine lv_if_ne (tgt := 96) hx hb dX2_isShape_85 (by decide +kernel) (fun c_29 => ?_) (fun c_29 => ?_)
        · refine lv_iconst (v := 0) hx hb dX2_isShape_96 (by decide +kernel) ?_
          exact W.zret (v := 0) (ty := .boolean) hx hb hr rfl (fun t ht hW => ⟨⟨0, (), rfl, Or.inr ⟨rfl, by have qc_1 := mt (fa_lt _ _).mpr c_1; have qc_12 := mt (fa_lt _ _).mpr c_12; have qc_29 := mt (fa_eq _ _).mpr c_29; have k0 : (0 : Int32).toInt = 0 := rfl; have k1 : (1 : Int32).toInt = 1 := rfl; have k2 : (2 : Int32).toInt = 2 := rfl; have k64 : (64 : Int32).toInt = 64 := rfl; omega⟩, trivial⟩, hS.F ht⟩) hS.2.2 dX2_isShape_97
        · refine lv_iload_n hx hb dX2_isShape_88 rfl (lv_at hl 3 rfl) ?_
          refine lv_if_ne (tgt := 96) hx hb dX2_isShape_89 (by decide +kernel) (fun c_30 => ?_) (fun c_30 => ?_)
          · refine lv_iconst (v := 0) hx hb dX2_isShape_96 (by decide +kernel) ?_
            exact W.zret (v := 0) (ty := .boolean) hx hb hr rfl (fun t ht hW => ⟨⟨0, (), rfl, Or.inr ⟨rfl, by have qc_1 := mt (fa_lt _ _).mpr c_1; have qc_12 := mt (fa_lt _ _).mpr c_12; have qc_29 := (fa_eq _ _).mp c_29; have qc_30 := mt (fa_eq _ _).mpr c_30; have k0 : (0 : Int32).toInt = 0 := rfl; have k1 : (1 : Int32).toInt = 1 := rfl; have k2 : (2 : Int32).toInt = 2 := rfl; have k64 : (64 : Int32).toInt = 64 := rfl; omega⟩, trivial⟩, hS.F ht⟩) hS.2.2 dX2_isShape_97
          · exact absurd trivial (by have qc_1 := mt (fa_lt _ _).mpr c_1; have qc_12 := mt (fa_lt _ _).mpr c_12; have qc_29 := (fa_eq _ _).mp c_29; have qc_30 := (fa_eq _ _).mp c_30; have k0 : (0 : Int32).toInt = 0 := rfl; have k1 : (1 : Int32).toInt = 1 := rfl; have k2 : (2 : Int32).toInt = 2 := rfl; have k64 : (64 : Int32).toInt = 64 := rfl; omega)
      · refine lv_tableIn (off := 66) (tgt := 84) hx hb dX2_isShape_18 (by decide +kernel) (by decide +kernel) rfl (by decide +kernel) ?_
        refine lv_iload_n hx hb dX2_isShape_84 rfl (lv_at hl 2 rfl) ?_
        refine lv_if_ne (tgt := 96) hx hb dX2_isShape_85 (by decide +kernel) (fun c_31 => ?_) (fun c_31 => ?_)
        · refine lv_iconst (v := 0) hx hb dX2_isShape_96 (by decide +kernel) ?_
          exact W.zret (v := 0) (ty := .boolean) hx hb hr rfl (fun t ht hW => ⟨⟨0, (), rfl, Or.inr ⟨rfl, by have qc_1 := mt (fa_lt _ _).mpr c_1; have qc_12 := mt (fa_lt _ _).mpr c_12; have qc_31 := mt (fa_eq _ _).mpr c_31; have k0 : (0 : Int32).toInt = 0 := rfl; have k1 : (1 : Int32).toInt = 1 := rfl; have k3 : (3 : Int32).toInt = 3 := rfl; have k64 : (64 : Int32).toInt = 64 := rfl; omega⟩, trivial⟩, hS.F ht⟩) hS.2.2 dX2_isShape_97
        · refine lv_iload_n hx hb dX2_isShape_88 rfl (lv_at hl 3 rfl) ?_
          refine lv_if_ne (tgt := 96) hx hb dX2_isShape_89 (by decide +kernel) (fun c_32 => ?_) (fun c_32 => ?_)
          · refine lv_iconst (v := 0) hx hb dX2_isShape_96 (by decide +kernel) ?_
            exact W.zret (v := 0) (ty := .boolean) hx hb hr rfl (fun t ht hW => ⟨⟨0, (), rfl, Or.inr ⟨rfl, by have qc_1 := mt (fa_lt _ _).mpr c_1; have qc_12 := mt (fa_lt _ _).mpr c_12; have qc_31 := (fa_eq _ _).mp c_31; have qc_32 := mt (fa_eq _ _).mpr c_32; have k0 : (0 : Int32).toInt = 0 := rfl; have k1 : (1 : Int32).toInt = 1 := rfl; have k3 : (3 : Int32).toInt = 3 := rfl; have k64 : (64 : Int32).toInt = 64 := rfl; omega⟩, trivial⟩, hS.F ht⟩) hS.2.2 dX2_isShape_97
          · exact absurd trivial (by have qc_1 := mt (fa_lt _ _).mpr c_1; have qc_12 := mt (fa_lt _ _).mpr c_12; have qc_31 := (fa_eq _ _).mp c_31; have qc_32 := (fa_eq _ _).mp c_32; have k0 : (0 : Int32).toInt = 0 := rfl; have k1 : (1 : Int32).toInt = 1 := rfl; have k3 : (3 : Int32).toInt = 3 := rfl; have k64 : (64 : Int32).toInt = 64 := rfl; omega)
      · refine lv_tableOut (tgt := 98) hx hb dX2_isShape_18 hsw_23 (by decide +kernel) ?_
        refine lv_iconst (v := 0) hx hb dX2_isShape_98 (by decide +kernel) ?_
        exact W.zret (v := 0) (ty := .boolean) hx hb hr rfl (fun t ht hW => ⟨⟨0, (), rfl, Or.inr ⟨rfl, by have qc_1 := mt (fa_lt _ _).mpr c_1; have qc_12 := mt (fa_lt _ _).mpr c_12; have k1 : (1 : Int32).toInt = 1 := rfl; have k64 : (64 : Int32).toInt = 64 := rfl; omega⟩, trivial⟩, hS.F ht⟩) hS.2.2 dX2_isShape_99
def zw_zm_tell : List Cond := .code yX2_tell cX2_tell 7 (some .boolean) :: ([.fieldLink RX2 18 "FilterHouse$Maps" "known" "[Z", .code yX2_isShape cX2_isShape 4 (some .boolean), .methodLink RX2 58 yX2_isShape, .static yX2_isShape, .initialized RX2, .fieldLink RX2 22 "FilterHouse$Maps" "kind" "[I", .fieldLink RX2 26 "FilterHouse$Maps" "keySize" "[I", .fieldLink RX2 29 "FilterHouse$Maps" "valueSize" "[I", .fieldLink RX2 32 "FilterHouse$Maps" "most" "[I", .fieldLink RX2 35 "FilterHouse$Maps" "filled" "[I", .fieldLink RX2 38 "FilterHouse$Maps" "list" "[I"] ++ (wsX20 ++ []))
theorem zz_in_zm_tell_X2 : ∀ w ∈ wsX20, w ∈ zw_zm_tell := fun w h => List.mem_cons_of_mem _ (List.mem_append_right _ (List.mem_append_left _ h))
set_option maxRecDepth 20000 in
theorem zz_g_zm_tell_zm_isShape : GoodIn zw_zm_tell zw_zm_isShape := goodIn_ca (goodIn_r ([.code yX2_isShape cX2_isShape 4 (some .boolean)]) [2] rfl (by decide +kernel)) (goodIn_sub (fun _ h => absurd h List.not_mem_nil) rfl)
set_option maxHeartbeats 1000000 in
set_option maxRecDepth 100000 in
/-- zm_tell -/
theorem zm_tell (l : Launch) (dC : Nat → ClassId) (dI : Nat → Nat → Nat) (cB cI cJ cZ : ClassId) (h0 m_known m_kind m_keySize m_valueSize m_most m_filled m_list m_room m_keys m_recordSize m_state m_held : Nat) (sz : Nat) (p0 : Int32) (p1 : Int32) (p2 : Int32) (p3 : Int32) (p4 : Int32) : Met l yX2_tell zw_zm_tell ({ frames := 1, cells := 0, slots := 0, locals := 23 }) (va_Pc [.ref h0, .int p0, .int p1, .int p2, .int p3, .int p4] (fun U => U.heap.size = sz ∧ va_P (dC, dI) zz_cl [(h0, .inr (1, [.ref m_room, .ref m_keys, .ref m_known, .ref m_kind, .ref m_keySize, .ref m_valueSize, .ref m_most, .ref m_filled, .ref m_list, .ref m_recordSize, .ref m_state, .ref m_held, .int 0])), (m_known, .inl (cZ, 8, .inl (fun _ => 0))), (m_kind, .inl (cI, 8, .inl (fun _ => 0))), (m_keySize, .inl (cI, 8, .inl (fun _ => 0))), (m_valueSize, .inl (cI, 8, .inl (fun _ => 0))), (m_most, .inl (cI, 8, .inl (fun _ => 0))), (m_filled, .inl (cI, 8, .inl (fun _ => 0))), (m_list, .inl (cI, 128, .inl (fun _ => 0)))] U.heap ∧ va_K (dC, dI) zz_cl [(cB, .byte), (cI, .int), (cJ, .long), (cZ, .boolean)] U ∧ va_D (fun _ => True) [(h0, .inr (1, [.ref m_room, .ref m_keys, .ref m_known, .ref m_kind, .ref m_keySize, .ref m_valueSize, .ref m_most, .ref m_filled, .ref m_list, .ref m_recordSize, .ref m_state, .ref m_held, .int 0])), (m_known, .inl (cZ, 8, .inl (fun _ => 0))), (m_kind, .inl (cI, 8, .inl (fun _ => 0))), (m_keySize, .inl (cI, 8, .inl (fun _ => 0))), (m_valueSize, .inl (cI, 8, .inl (fun _ => 0))), (m_most, .inl (cI, 8, .inl (fun _ => 0))), (m_filled, .inl (cI, 8, .inl (fun _ => 0))), (m_list, .inl (cI, 128, .inl (fun _ => 0)))])) (va_Qi (fun (r : Int32) (_ : Unit) => (r = 1 ∧ (0 ≤ p0.toInt ∧ p0.toInt < 8 ∧ 1 ≤ p4.toInt ∧ p4.toInt ≤ 16 ∧ ((p1.toInt = 0 ∧ p2.toInt = 4 ∧ 1 ≤ p3.toInt ∧ p3.toInt ≤ 64) ∨ (p1.toInt = 1 ∧ 1 ≤ p2.toInt ∧ p2.toInt ≤ 16 ∧ 1 ≤ p3.toInt ∧ p3.toInt ≤ 64) ∨ ((p1.toInt = 2 ∨ p1.toInt = 3) ∧ p2.toInt = 0 ∧ p3.toInt = 0)))) ∨ (r = 0 ∧ ¬ (0 ≤ p0.toInt ∧ p0.toInt < 8 ∧ 1 ≤ p4.toInt ∧ p4.toInt ≤ 16 ∧ ((p1.toInt = 0 ∧ p2.toInt = 4 ∧ 1 ≤ p3.toInt ∧ p3.toInt ≤ 64) ∨ (p1.toInt = 1 ∧ 1 ≤ p2.toInt ∧ p2.toInt ≤ 16 ∧ 1 ≤ p3.toInt ∧ p3.toInt ≤ 64) ∨ ((p1.toInt = 2 ∨ p1.toInt = 3) ∧ p2.toInt = 0 ∧ p3.toInt = 0))))) (fun (_ : Unit) _ => True) (va_A [(h0, .inr (1, [.ref m_room, .ref m_keys, .ref m_known, .ref m_kind, .ref m_keySize, .ref m_valueSize, .ref m_most, .ref m_filled, .ref m_list, .ref m_recordSize, .ref m_state, .ref m_held, .int 0])), (m_known, .inl (cZ, 8, .inl (fun _ => 0))), (m_kind, .inl (cI, 8, .inl (fun _ => 0))), (m_keySize, .inl (cI, 8, .inl (fun _ => 0))), (m_valueSize, .inl (cI, 8, .inl (fun _ => 0))), (m_most, .inl (cI, 8, .inl (fun _ => 0))), (m_filled, .inl (cI, 8, .inl (fun _ => 0))), (m_list, .inl (cI, 128, .inl (fun _ => 0)))] sz)) 0 0 (va_A [(h0, .inr (1, [.ref m_room, .ref m_keys, .ref m_known, .ref m_kind, .ref m_keySize, .ref m_valueSize, .ref m_most, .ref m_filled, .ref m_list, .ref m_recordSize, .ref m_state, .ref m_held, .int 0])), (m_known, .inl (cZ, 8, .inl (fun _ => 0))), (m_kind, .inl (cI, 8, .inl (fun _ => 0))), (m_keySize, .inl (cI, 8, .inl (fun _ => 0))), (m_valueSize, .inl (cI, 8, .inl (fun _ => 0))), (m_most, .inl (cI, 8, .inl (fun _ => 0))), (m_filled, .inl (cI, 8, .inl (fun _ => 0))), (m_list, .inl (cI, 128, .inl (fun _ => 0)))] sz) := by
  refine Met.ofW (cc := cX2_tell) (maxL := 7) (ret := (some .boolean)) (by decide +kernel) rfl ?_
  intro p e s m args below meth c s₁ B hml hv
  obtain ⟨rfl, hsz, hP, hK, hD0⟩ := hv
  have hx := B.exec
  have hb := B.bytes
  have hr := B.returns
  have hts := atoms_spec (ws := zw_zm_tell) B.pre
  have hown : s.vm.findClass RX2 = some m.cls := findClass_of_methodNamed B.named
  have hlocks := B.notSynchronized
  subst hsz
  have hD := hD0.self (sz := s.heap.size)
  generalize hAe : va_A [(h0, .inr (1, [.ref m_room, .ref m_keys, .ref m_known, .ref m_kind, .ref m_keySize, .ref m_valueSize, .ref m_most, .ref m_filled, .ref m_list, .ref m_recordSize, .ref m_state, .ref m_held, .int 0])), (m_known, .inl (cZ, 8, .inl (fun _ => 0))), (m_kind, .inl (cI, 8, .inl (fun _ => 0))), (m_keySize, .inl (cI, 8, .inl (fun _ => 0))), (m_valueSize, .inl (cI, 8, .inl (fun _ => 0))), (m_most, .inl (cI, 8, .inl (fun _ => 0))), (m_filled, .inl (cI, 8, .inl (fun _ => 0))), (m_list, .inl (cI, 128, .inl (fun _ => 0)))] s.heap.size = A at hD ⊢
  have hA : ∀ q : Nat, s.heap.size ≤ q → A q := fun q h => by rw [← hAe]; exact Or.inr h
  have hS : va_S A s.heap s.heap [] := va_S.rf
  have hP : va_P (dC, dI) zz_cl [(h0, .inr (1, [.ref m_room, .ref m_keys, .ref m_known, .ref m_kind, .ref m_keySize, .ref m_valueSize, .ref m_most, .ref m_filled, .ref m_list, .ref m_recordSize, .ref m_state, .ref m_held, .int 0])), (m_known, .inl (cZ, 8, .inl (fun _ => 0))), (m_kind, .inl (cI, 8, .inl (fun _ => 0))), (m_keySize, .inl (cI, 8, .inl (fun _ => 0))), (m_valueSize, .inl (cI, 8, .inl (fun _ => 0))), (m_most, .inl (cI, 8, .inl (fun _ => 0))), (m_filled, .inl (cI, 8, .inl (fun _ => 0))), (m_list, .inl (cI, 128, .inl (fun _ => 0)))] s.heap := hP
  have hl := lv_entry ([.ref h0, .int p0, .int p1, .int p2, .int p3, .int p4]) (n := 7) (Nat.le_of_ble_eq_true rfl)
  rw [lg_entry_eq]
  generalize (lg_sl ([.ref h0, .int p0, .int p1, .int p2, .int p3, .int p4]) ++ List.replicate (7 - (lg_sl ([.ref h0, .int p0, .int p1, .int p2, .int p3, .int p4])).length) Slot.unset).toArray = ls at hl ⊢
  have hl : lv_has ls 7 [(0, .ref h0), (1, .int p0), (2, .int p1), (3, .int p2), (4, .int p3), (5, .int p4)] := hl
  refine lv_iload_n hx hb dX2_tell_0 rfl (lv_at hl 1 rfl) ?_
  refine lv_if_lt (tgt := 32) hx hb dX2_tell_1 (by decide +kernel) (fun c_1 => ?_) (fun c_1 => ?_)
  · refine lv_iconst (v := 0) hx hb dX2_tell_32 (by decide +kernel) ?_
    exact W.zret (v := 0) (ty := .boolean) hx hb hr rfl (fun t ht hW => ⟨⟨0, (), rfl, Or.inr ⟨rfl, by have qc_1 := (fa_lt _ _).mp c_1; have k0 : (0 : Int32).toInt = 0 := rfl; omega⟩, trivial⟩, hS.F ht⟩) hS.2.2 dX2_tell_33
  · refine lv_iload_n hx hb dX2_tell_4 rfl (lv_at hl 1 rfl) ?_
    refine lv_bipush (v := 8) hx hb dX2_tell_5 (by decide +kernel) ?_
    refine lv_icmp_ge (tgt := 32) hx hb dX2_tell_7 (by decide +kernel) (fun c_2 => ?_) (fun c_2 => ?_)
    · refine lv_iconst (v := 0) hx hb dX2_tell_32 (by decide +kernel) ?_
      exact W.zret (v := 0) (ty := .boolean) hx hb hr rfl (fun t ht hW => ⟨⟨0, (), rfl, Or.inr ⟨rfl, by have qc_1 := mt (fa_lt _ _).mpr c_1; have qc_2 := (fa_le _ _).mp c_2; have k0 : (0 : Int32).toInt = 0 := rfl; have k8 : (8 : Int32).toInt = 8 := rfl; omega⟩, trivial⟩, hS.F ht⟩) hS.2.2 dX2_tell_33
    · refine lv_aload_n hx hb dX2_tell_10 rfl (lv_at hl 0 rfl) ?_
      refine va_get (D := (dC, dI)) (ci := 1) (v := .ref m_known) (C := RX2) (T := TX2) (N := 13) hx hb hts zz_in_zm_tell_X2 hown hK hP 0 rfl rfl 2 (by decide +kernel) (hts (.fieldLink RX2 18 "FilterHouse$Maps" "known" "[Z") (List.mem_of_getElem? (i := 1) rfl)) (fun _ h9 => h9) rfl dX2_tell_11 ?_
      refine lv_iload_n hx hb dX2_tell_14 rfl (lv_at hl 1 rfl) ?_
      refine va_zald hx hb hK hP 1 3 rfl rfl (vp_in_iff.mpr (by have qc_1 := mt (fa_lt _ _).mpr c_1; have qc_2 := mt (fa_le _ _).mpr c_2; have k0 : (0 : Int32).toInt = 0 := rfl; have k8 : (8 : Int32).toInt = 8 := rfl; omega)) dX2_tell_15 ?_
      refine lv_topi (fun f_3 ef_3 => ?_)
      obtain rfl : f_3 = 0 := ef_3
      refine lv_if_ne (tgt := 32) hx hb dX2_tell_16 (by decide +kernel) (fun c_4 => ?_) (fun c_4 => ?_)
      · exact absurd c_4 (by decide +kernel)
      · refine lv_iload hx hb dX2_tell_19 (lv_at hl 5 rfl) ?_
        refine lv_iconst (v := 1) hx hb dX2_tell_21 (by decide +kernel) ?_
        refine lv_icmp_lt (tgt := 32) hx hb dX2_tell_22 (by decide +kernel) (fun c_5 => ?_) (fun c_5 => ?_)
        · refine lv_iconst (v := 0) hx hb dX2_tell_32 (by decide +kernel) ?_
          exact W.zret (v := 0) (ty := .boolean) hx hb hr rfl (fun t ht hW => ⟨⟨0, (), rfl, Or.inr ⟨rfl, by have qc_1 := mt (fa_lt _ _).mpr c_1; have qc_2 := mt (fa_le _ _).mpr c_2; have qc_4 := (fa_eq _ _).mp c_4; have qc_5 := (fa_lt _ _).mp c_5; have k0 : (0 : Int32).toInt = 0 := rfl; have k1 : (1 : Int32).toInt = 1 := rfl; have k8 : (8 : Int32).toInt = 8 := rfl; omega⟩, trivial⟩, hS.F ht⟩) hS.2.2 dX2_tell_33
        · refine lv_iload hx hb dX2_tell_25 (lv_at hl 5 rfl) ?_
          refine lv_bipush (v := 16) hx hb dX2_tell_27 (by decide +kernel) ?_
          refine lv_icmp_le (tgt := 34) hx hb dX2_tell_29 (by decide +kernel) (fun c_6 => ?_) (fun c_6 => ?_)
          · refine lv_iload_n hx hb dX2_tell_34 rfl (lv_at hl 2 rfl) ?_
            refine lv_iload_n hx hb dX2_tell_35 rfl (lv_at hl 3 rfl) ?_
            refine lv_iload hx hb dX2_tell_36 (lv_at hl 4 rfl) ?_
            have hPc := hP.sub (ws' := []) [] rfl
            have hDc := hD.sub (ws' := []) [] (by decide +kernel) rfl
            have hFc := va_free (wc := []) hD hS hA [] rfl
            refine va_calli (va_runS (As := [.int p1, .int p2, .int p3]) (rest := []) ⟨hx, hb, hml, hown, hts⟩ (zm_isShape l dC dI cB cI cJ cZ  s.heap.size p1 p2 p3) (va_cwS 3 hts (goodIn_app (goodIn_r [.methodLink RX2 58 yX2_isShape, .static yX2_isShape, .initialized RX2] [3, 4, 5] rfl (by decide +kernel)) zz_g_zm_tell_zm_isShape) rfl rfl rfl (by decide +kernel) ⟨Nat.le_of_ble_eq_true rfl, Nat.le_of_ble_eq_true rfl⟩) ⟨fun a U g mk q => by obtain ⟨q0, q1, qP, qK, qD⟩ := q; exact ⟨q0, q1, qP, va_K.moved (u := U) (U := U.calling g mk a) (Vm.Alike.refl U.vm) qK, qD⟩, fun U hU hW => ⟨rfl, by rw [hU], by rw [hU]; exact hPc, va_K.moved hW.alike hK, hDc.weaken (fun _ _ _ _ => trivial)⟩⟩ rfl rfl hl.1 rfl (lv_room (Nat.le_of_ble_eq_true rfl)) dX2_tell_38 ⟨Nat.le_of_ble_eq_true rfl, Nat.le_of_ble_eq_true rfl⟩) hS (fun q _ h => hFc q h) hFc (fun r_7 u_9 t H1 locs ht hvm hw_8 hB hz1 hk1 hS => ?_)
            obtain ⟨hP, hD⟩ := va_join (wr := [(h0, .inr (1, [.ref m_room, .ref m_keys, .ref m_known, .ref m_kind, .ref m_keySize, .ref m_valueSize, .ref m_most, .ref m_filled, .ref m_list, .ref m_recordSize, .ref m_state, .ref m_held, .int 0])), (m_known, .inl (cZ, 8, .inl (fun _ => 0))), (m_kind, .inl (cI, 8, .inl (fun _ => 0))), (m_keySize, .inl (cI, 8, .inl (fun _ => 0))), (m_valueSize, .inl (cI, 8, .inl (fun _ => 0))), (m_most, .inl (cI, 8, .inl (fun _ => 0))), (m_filled, .inl (cI, 8, .inl (fun _ => 0))), (m_list, .inl (cI, 128, .inl (fun _ => 0)))]) (w1 := []) hP hD [] [0, 1, 2, 3, 4, 5, 6, 7] rfl rfl (by decide +kernel) (by decide +kernel) hk1 hFc zz_P0 zz_D0
            generalize H1 = H at hP hS ⊢
            have hP : va_P (dC, dI) zz_cl [(h0, .inr (1, [.ref m_room, .ref m_keys, .ref m_known, .ref m_kind, .ref m_keySize, .ref m_valueSize, .ref m_most, .ref m_filled, .ref m_list, .ref m_recordSize, .ref m_state, .ref m_held, .int 0])), (m_known, .inl (cZ, 8, .inl (fun _ => 0))), (m_kind, .inl (cI, 8, .inl (fun _ => 0))), (m_keySize, .inl (cI, 8, .inl (fun _ => 0))), (m_valueSize, .inl (cI, 8, .inl (fun _ => 0))), (m_most, .inl (cI, 8, .inl (fun _ => 0))), (m_filled, .inl (cI, 8, .inl (fun _ => 0))), (m_list, .inl (cI, 128, .inl (fun _ => 0)))] H := hP
            have hD : va_D A [(h0, .inr (1, [.ref m_room, .ref m_keys, .ref m_known, .ref m_kind, .ref m_keySize, .ref m_valueSize, .ref m_most, .ref m_filled, .ref m_list, .ref m_recordSize, .ref m_state, .ref m_held, .int 0])), (m_known, .inl (cZ, 8, .inl (fun _ => 0))), (m_kind, .inl (cI, 8, .inl (fun _ => 0))), (m_keySize, .inl (cI, 8, .inl (fun _ => 0))), (m_valueSize, .inl (cI, 8, .inl (fun _ => 0))), (m_most, .inl (cI, 8, .inl (fun _ => 0))), (m_filled, .inl (cI, 8, .inl (fun _ => 0))), (m_list, .inl (cI, 128, .inl (fun _ => 0)))] := hD
            try dsimp only at hw_8
            rcases hw_8 with ⟨rfl, h_10⟩ | ⟨rfl, h_10⟩
            · refine lv_if_ne (tgt := 46) hx hb dX2_tell_41 (by decide +kernel) (fun c_11 => ?_) (fun c_11 => ?_)
              · obtain ⟨j9, hj9, rfl⟩ := vp_in_of (x := p0) (n := 8) (vp_in_iff.mpr (by have qc_1 := mt (fa_lt _ _).mpr c_1; have qc_2 := mt (fa_le _ _).mpr c_2; have qc_4 := (fa_eq _ _).mp c_4; have qc_5 := mt (fa_lt _ _).mpr c_5; have qc_6 := (fa_le _ _).mp c_6; have qc_11 := mt (fa_eq _ _).mpr c_11; have k0 : (0 : Int32).toInt = 0 := rfl; have k1 : (1 : Int32).toInt = 1 := rfl; have k8 : (8 : Int32).toInt = 8 := rfl; have k16 : (16 : Int32).toInt = 16 := rfl; omega)) (by decide +kernel)
                refine lv_aload_n hx hb dX2_tell_46 rfl (lv_at hl 0 rfl) ?_
                refine va_get (D := (dC, dI)) (ci := 1) (v := .ref m_known) (C := RX2) (T := TX2) (N := 13) hx hb hts zz_in_zm_tell_X2 hown hK hP 0 rfl rfl 2 (by decide +kernel) (hts (.fieldLink RX2 18 "FilterHouse$Maps" "known" "[Z") (List.mem_of_getElem? (i := 1) rfl)) (fun _ h9 => h9) rfl dX2_tell_47 ?_
                refine lv_iload_n hx hb dX2_tell_50 rfl (lv_at hl 1 rfl) ?_
                refine lv_iconst (v := 1) hx hb dX2_tell_51 (by decide +kernel) ?_
                refine va_zast hx hb hK hP hD hS 1 3 rfl rfl (vp_in_nI (by omega) (by decide +kernel)) dX2_tell_52 (fun H locs hP hD hS => ?_)
                have hP : va_P (dC, dI) zz_cl [(h0, .inr (1, [.ref m_room, .ref m_keys, .ref m_known, .ref m_kind, .ref m_keySize, .ref m_valueSize, .ref m_most, .ref m_filled, .ref m_list, .ref m_recordSize, .ref m_state, .ref m_held, .int 0])), (m_known, .inl (cZ, 8, .inl (upd (fun _ => 0) (nI j9).toNatClampNeg (vp_nar .boolean (1 : Int32))))), (m_kind, .inl (cI, 8, .inl (fun _ => 0))), (m_keySize, .inl (cI, 8, .inl (fun _ => 0))), (m_valueSize, .inl (cI, 8, .inl (fun _ => 0))), (m_most, .inl (cI, 8, .inl (fun _ => 0))), (m_filled, .inl (cI, 8, .inl (fun _ => 0))), (m_list, .inl (cI, 128, .inl (fun _ => 0)))] H := hP
                have hD : va_D A [(h0, .inr (1, [.ref m_room, .ref m_keys, .ref m_known, .ref m_kind, .ref m_keySize, .ref m_valueSize, .ref m_most, .ref m_filled, .ref m_list, .ref m_recordSize, .ref m_state, .ref m_held, .int 0])), (m_known, .inl (cZ, 8, .inl (upd (fun _ => 0) (nI j9).toNatClampNeg (vp_nar .boolean (1 : Int32))))), (m_kind, .inl (cI, 8, .inl (fun _ => 0))), (m_keySize, .inl (cI, 8, .inl (fun _ => 0))), (m_valueSize, .inl (cI, 8, .inl (fun _ => 0))), (m_most, .inl (cI, 8, .inl (fun _ => 0))), (m_filled, .inl (cI, 8, .inl (fun _ => 0))), (m_list, .inl (cI, 128, .inl (fun _ => 0)))] := hD
                generalize upd (fun _ => 0) (nI j9).toNatClampNeg (vp_nar .boolean (1 : Int32)) = g_12 at hP hD
                refine lv_aload_n hx hb dX2_tell_53 rfl (lv_at hl 0 rfl) ?_
                refine va_get (D := (dC, dI)) (ci := 1) (v := .ref m_kind) (C := RX2) (T := TX2) (N := 13) hx hb hts zz_in_zm_tell_X2 hown hK hP 0 rfl rfl 3 (by decide +kernel) (hts (.fieldLink RX2 22 "FilterHouse$Maps" "kind" "[I") (List.mem_of_getElem? (i := 6) rfl)) (fun _ h9 => h9) rfl dX2_tell_54 ?_
                refine lv_iload_n hx hb dX2_tell_57 rfl (lv_at hl 1 rfl) ?_
                refine lv_iload_n hx hb dX2_tell_58 rfl (lv_at hl 2 rfl) ?_
                refine va_iast hx hb hK hP hD hS 2 1 rfl rfl (vp_in_nI (by omega) (by decide +kernel)) dX2_tell_59 (fun H locs hP hD hS => ?_)
                have hP : va_P (dC, dI) zz_cl [(h0, .inr (1, [.ref m_room, .ref m_keys, .ref m_known, .ref m_kind, .ref m_keySize, .ref m_valueSize, .ref m_most, .ref m_filled, .ref m_list, .ref m_recordSize, .ref m_state, .ref m_held, .int 0])), (m_known, .inl (cZ, 8, .inl g_12)), (m_kind, .inl (cI, 8, .inl (upd (fun _ => 0) (nI j9).toNatClampNeg p1))), (m_keySize, .inl (cI, 8, .inl (fun _ => 0))), (m_valueSize, .inl (cI, 8, .inl (fun _ => 0))), (m_most, .inl (cI, 8, .inl (fun _ => 0))), (m_filled, .inl (cI, 8, .inl (fun _ => 0))), (m_list, .inl (cI, 128, .inl (fun _ => 0)))] H := hP
                have hD : va_D A [(h0, .inr (1, [.ref m_room, .ref m_keys, .ref m_known, .ref m_kind, .ref m_keySize, .ref m_valueSize, .ref m_most, .ref m_filled, .ref m_list, .ref m_recordSize, .ref m_state, .ref m_held, .int 0])), (m_known, .inl (cZ, 8, .inl g_12)), (m_kind, .inl (cI, 8, .inl (upd (fun _ => 0) (nI j9).toNatClampNeg p1))), (m_keySize, .inl (cI, 8, .inl (fun _ => 0))), (m_valueSize, .inl (cI, 8, .inl (fun _ => 0))), (m_most, .inl (cI, 8, .inl (fun _ => 0))), (m_filled, .inl (cI, 8, .inl (fun _ => 0))), (m_list, .inl (cI, 128, .inl (fun _ => 0)))] := hD
                generalize upd (fun _ => 0) (nI j9).toNatClampNeg p1 = g_13 at hP hD
                refine lv_aload_n hx hb dX2_tell_60 rfl (lv_at hl 0 rfl) ?_
                refine va_get (D := (dC, dI)) (ci := 1) (v := .ref m_keySize) (C := RX2) (T := TX2) (N := 13) hx hb hts zz_in_zm_tell_X2 hown hK hP 0 rfl rfl 4 (by decide +kernel) (hts (.fieldLink RX2 26 "FilterHouse$Maps" "keySize" "[I") (List.mem_of_getElem? (i := 7) rfl)) (fun _ h9 => h9) rfl dX2_tell_61 ?_
                refine lv_iload_n hx hb dX2_tell_64 rfl (lv_at hl 1 rfl) ?_
                refine lv_iload_n hx hb dX2_tell_65 rfl (lv_at hl 3 rfl) ?_
                refine va_iast hx hb hK hP hD hS 3 1 rfl rfl (vp_in_nI (by omega) (by decide +kernel)) dX2_tell_66 (fun H locs hP hD hS => ?_)
                have hP : va_P (dC, dI) zz_cl [(h0, .inr (1, [.ref m_room, .ref m_keys, .ref m_known, .ref m_kind, .ref m_keySize, .ref m_valueSize, .ref m_most, .ref m_filled, .ref m_list, .ref m_recordSize, .ref m_state, .ref m_held, .int 0])), (m_known, .inl (cZ, 8, .inl g_12)), (m_kind, .inl (cI, 8, .inl g_13)), (m_keySize, .inl (cI, 8, .inl (upd (fun _ => 0) (nI j9).toNatClampNeg p2))), (m_valueSize, .inl (cI, 8, .inl (fun _ => 0))), (m_most, .inl (cI, 8, .inl (fun _ => 0))), (m_filled, .inl (cI, 8, .inl (fun _ => 0))), (m_list, .inl (cI, 128, .inl (fun _ => 0)))] H := hP
                have hD : va_D A [(h0, .inr (1, [.ref m_room, .ref m_keys, .ref m_known, .ref m_kind, .ref m_keySize, .ref m_valueSize, .ref m_most, .ref m_filled, .ref m_list, .ref m_recordSize, .ref m_state, .ref m_held, .int 0])), (m_known, .inl (cZ, 8, .inl g_12)), (m_kind, .inl (cI, 8, .inl g_13)), (m_keySize, .inl (cI, 8, .inl (upd (fun _ => 0) (nI j9).toNatClampNeg p2))), (m_valueSize, .inl (cI, 8, .inl (fun _ => 0))), (m_most, .inl (cI, 8, .inl (fun _ => 0))), (m_filled, .inl (cI, 8, .inl (fun _ => 0))), (m_list, .inl (cI, 128, .inl (fun _ => 0)))] := hD
                generalize upd (fun _ => 0) (nI j9).toNatClampNeg p2 = g_14 at hP hD
                refine lv_aload_n hx hb dX2_tell_67 rfl (lv_at hl 0 rfl) ?_
                refine va_get (D := (dC, dI)) (ci := 1) (v := .ref m_valueSize) (C := RX2) (T := TX2) (N := 13) hx hb hts zz_in_zm_tell_X2 hown hK hP 0 rfl rfl 5 (by decide +kernel) (hts (.fieldLink RX2 29 "FilterHouse$Maps" "valueSize" "[I") (List.mem_of_getElem? (i := 8) rfl)) (fun _ h9 => h9) rfl dX2_tell_68 ?_
                refine lv_iload_n hx hb dX2_tell_71 rfl (lv_at hl 1 rfl) ?_
                refine lv_iload hx hb dX2_tell_72 (lv_at hl 4 rfl) ?_
                refine va_iast hx hb hK hP hD hS 4 1 rfl rfl (vp_in_nI (by omega) (by decide +kernel)) dX2_tell_74 (fun H locs hP hD hS => ?_)
                have hP : va_P (dC, dI) zz_cl [(h0, .inr (1, [.ref m_room, .ref m_keys, .ref m_known, .ref m_kind, .ref m_keySize, .ref m_valueSize, .ref m_most, .ref m_filled, .ref m_list, .ref m_recordSize, .ref m_state, .ref m_held, .int 0])), (m_known, .inl (cZ, 8, .inl g_12)), (m_kind, .inl (cI, 8, .inl g_13)), (m_keySize, .inl (cI, 8, .inl g_14)), (m_valueSize, .inl (cI, 8, .inl (upd (fun _ => 0) (nI j9).toNatClampNeg p3))), (m_most, .inl (cI, 8, .inl (fun _ => 0))), (m_filled, .inl (cI, 8, .inl (fun _ => 0))), (m_list, .inl (cI, 128, .inl (fun _ => 0)))] H := hP
                have hD : va_D A [(h0, .inr (1, [.ref m_room, .ref m_keys, .ref m_known, .ref m_kind, .ref m_keySize, .ref m_valueSize, .ref m_most, .ref m_filled, .ref m_list, .ref m_recordSize, .ref m_state, .ref m_held, .int 0])), (m_known, .inl (cZ, 8, .inl g_12)), (m_kind, .inl (cI, 8, .inl g_13)), (m_keySize, .inl (cI, 8, .inl g_14)), (m_valueSize, .inl (cI, 8, .inl (upd (fun _ => 0) (nI j9).toNatClampNeg p3))), (m_most, .inl (cI, 8, .inl (fun _ => 0))), (m_filled, .inl (cI, 8, .inl (fun _ => 0))), (m_list, .inl (cI, 128, .inl (fun _ => 0)))] := hD
                generalize upd (fun _ => 0) (nI j9).toNatClampNeg p3 = g_15 at hP hD
                refine lv_aload_n hx hb dX2_tell_75 rfl (lv_at hl 0 rfl) ?_
                refine va_get (D := (dC, dI)) (ci := 1) (v := .ref m_most) (C := RX2) (T := TX2) (N := 13) hx hb hts zz_in_zm_tell_X2 hown hK hP 0 rfl rfl 6 (by decide +kernel) (hts (.fieldLink RX2 32 "FilterHouse$Maps" "most" "[I") (List.mem_of_getElem? (i := 9) rfl)) (fun _ h9 => h9) rfl dX2_tell_76 ?_
                refine lv_iload_n hx hb dX2_tell_79 rfl (lv_at hl 1 rfl) ?_
                refine lv_iload hx hb dX2_tell_80 (lv_at hl 5 rfl) ?_
                refine va_iast hx hb hK hP hD hS 5 1 rfl rfl (vp_in_nI (by omega) (by decide +kernel)) dX2_tell_82 (fun H locs hP hD hS => ?_)
                have hP : va_P (dC, dI) zz_cl [(h0, .inr (1, [.ref m_room, .ref m_keys, .ref m_known, .ref m_kind, .ref m_keySize, .ref m_valueSize, .ref m_most, .ref m_filled, .ref m_list, .ref m_recordSize, .ref m_state, .ref m_held, .int 0])), (m_known, .inl (cZ, 8, .inl g_12)), (m_kind, .inl (cI, 8, .inl g_13)), (m_keySize, .inl (cI, 8, .inl g_14)), (m_valueSize, .inl (cI, 8, .inl g_15)), (m_most, .inl (cI, 8, .inl (upd (fun _ => 0) (nI j9).toNatClampNeg p4))), (m_filled, .inl (cI, 8, .inl (fun _ => 0))), (m_list, .inl (cI, 128, .inl (fun _ => 0)))] H := hP
                have hD : va_D A [(h0, .inr (1, [.ref m_room, .ref m_keys, .ref m_known, .ref m_kind, .ref m_keySize, .ref m_valueSize, .ref m_most, .ref m_filled, .ref m_list, .ref m_recordSize, .ref m_state, .ref m_held, .int 0])), (m_known, .inl (cZ, 8, .inl g_12)), (m_kind, .inl (cI, 8, .inl g_13)), (m_keySize, .inl (cI, 8, .inl g_14)), (m_valueSize, .inl (cI, 8, .inl g_15)), (m_most, .inl (cI, 8, .inl (upd (fun _ => 0) (nI j9).toNatClampNeg p4))), (m_filled, .inl (cI, 8, .inl (fun _ => 0))), (m_list, .inl (cI, 128, .inl (fun _ => 0)))] := hD
                generalize upd (fun _ => 0) (nI j9).toNatClampNeg p4 = g_16 at hP hD
                refine lv_aload_n hx hb dX2_tell_83 rfl (lv_at hl 0 rfl) ?_
                refine va_get (D := (dC, dI)) (ci := 1) (v := .ref m_filled) (C := RX2) (T := TX2) (N := 13) hx hb hts zz_in_zm_tell_X2 hown hK hP 0 rfl rfl 7 (by decide +kernel) (hts (.fieldLink RX2 35 "FilterHouse$Maps" "filled" "[I") (List.mem_of_getElem? (i := 10) rfl)) (fun _ h9 => h9) rfl dX2_tell_84 ?_
                refine lv_iload_n hx hb dX2_tell_87 rfl (lv_at hl 1 rfl) ?_
                refine lv_iload_n hx hb dX2_tell_88 rfl (lv_at hl 2 rfl) ?_
                refine lv_if_ne (tgt := 97) hx hb dX2_tell_89 (by decide +kernel) (fun c_17 => ?_) (fun c_17 => ?_)
                · refine lv_iconst (v := 0) hx hb dX2_tell_97 (by decide +kernel) ?_
                  refine va_iast hx hb hK hP hD hS 6 1 rfl rfl (vp_in_nI (by omega) (by decide +kernel)) dX2_tell_98 (fun H locs hP hD hS => ?_)
                  have hP : va_P (dC, dI) zz_cl [(h0, .inr (1, [.ref m_room, .ref m_keys, .ref m_known, .ref m_kind, .ref m_keySize, .ref m_valueSize, .ref m_most, .ref m_filled, .ref m_list, .ref m_recordSize, .ref m_state, .ref m_held, .int 0])), (m_known, .inl (cZ, 8, .inl g_12)), (m_kind, .inl (cI, 8, .inl g_13)), (m_keySize, .inl (cI, 8, .inl g_14)), (m_valueSize, .inl (cI, 8, .inl g_15)), (m_most, .inl (cI, 8, .inl g_16)), (m_filled, .inl (cI, 8, .inl (upd (fun _ => 0) (nI j9).toNatClampNeg (0 : Int32)))), (m_list, .inl (cI, 128, .inl (fun _ => 0)))] H := hP
                  have hD : va_D A [(h0, .inr (1, [.ref m_room, .ref m_keys, .ref m_known, .ref m_kind, .ref m_keySize, .ref m_valueSize, .ref m_most, .ref m_filled, .ref m_list, .ref m_recordSize, .ref m_state, .ref m_held, .int 0])), (m_known, .inl (cZ, 8, .inl g_12)), (m_kind, .inl (cI, 8, .inl g_13)), (m_keySize, .inl (cI, 8, .inl g_14)), (m_valueSize, .inl (cI, 8, .inl g_15)), (m_most, .inl (cI, 8, .inl g_16)), (m_filled, .inl (cI, 8, .inl (upd (fun _ => 0) (nI j9).toNatClampNeg (0 : Int32)))), (m_list, .inl (cI, 128, .inl (fun _ => 0)))] := hD
                  generalize upd (fun _ => 0) (nI j9).toNatClampNeg (0 : Int32) = g_18 at hP hD
                  refine lv_iconst (v := 0) hx hb dX2_tell_99 (by decide +kernel) ?_
                  refine lv_istore (lv' := [(6, .int 0), (0, .ref h0), (1, .int (nI j9)), (2, .int p1), (3, .int p2), (4, .int p3), (5, .int p4)]) hx hb dX2_tell_100 hl (by decide +kernel) rfl (fun ls hl => ?_)
                  refine lv_iload hx hb dX2_tell_102 (lv_at hl 0 rfl) ?_
                  refine lv_bipush (v := 16) hx hb dX2_tell_104 (by decide +kernel) ?_
                  refine lv_icmp_ge (tgt := 128) hx hb dX2_tell_106 (by decide +kernel) (fun c_19 => ?_) (fun c_19 => ?_)
                  · exact absurd c_19 (by decide +kernel)
                  · refine lv_aload_n hx hb dX2_tell_109 rfl (lv_at hl 1 rfl) ?_
                    refine va_get (D := (dC, dI)) (ci := 1) (v := .ref m_list) (C := RX2) (T := TX2) (N := 13) hx hb hts zz_in_zm_tell_X2 hown hK hP 0 rfl rfl 8 (by decide +kernel) (hts (.fieldLink RX2 38 "FilterHouse$Maps" "list" "[I") (List.mem_of_getElem? (i := 11) rfl)) (fun _ h9 => h9) rfl dX2_tell_110 ?_
                    refine lv_iload_n hx hb dX2_tell_113 rfl (lv_at hl 2 rfl) ?_
                    refine lv_bipush (v := 16) hx hb dX2_tell_114 (by decide +kernel) ?_
                    refine lv_imul hx hb dX2_tell_116 ?_
                    refine lv_topi (fun f_20 ef_20 => ?_)
                    obtain rfl : f_20 = nI ((j9) * 16) := ef_20.trans (pk_mul (j9) 16)
                    refine lv_iload hx hb dX2_tell_117 (lv_at hl 0 rfl) ?_
                    refine lv_iadd hx hb dX2_tell_119 ?_
                    refine lv_topi (fun f_21 ef_21 => ?_)
                    obtain rfl : f_21 = nI ((j9) * 16 + 0) := ef_21.trans (nI_add ((j9) * 16) 0)
                    refine lv_iconst (v := (-1)) hx hb dX2_tell_120 (by decide +kernel) ?_
                    refine va_iast hx hb hK hP hD hS 7 1 rfl rfl (vp_in_nI (by omega) (by decide +kernel)) dX2_tell_121 (fun H locs hP hD hS => ?_)
                    have hP : va_P (dC, dI) zz_cl [(h0, .inr (1, [.ref m_room, .ref m_keys, .ref m_known, .ref m_kind, .ref m_keySize, .ref m_valueSize, .ref m_most, .ref m_filled, .ref m_list, .ref m_recordSize, .ref m_state, .ref m_held, .int 0])), (m_known, .inl (cZ, 8, .inl g_12)), (m_kind, .inl (cI, 8, .inl g_13)), (m_keySize, .inl (cI, 8, .inl g_14)), (m_valueSize, .inl (cI, 8, .inl g_15)), (m_most, .inl (cI, 8, .inl g_16)), (m_filled, .inl (cI, 8, .inl g_18)), (m_list, .inl (cI, 128, .inl (upd (fun _ => 0) (nI ((j9) * 16 + 0)).toNatClampNeg ((-1) : Int32))))] H := hP
                    have hD : va_D A [(h0, .inr (1, [.ref m_room, .ref m_keys, .ref m_known, .ref m_kind, .ref m_keySize, .ref m_valueSize, .ref m_most, .ref m_filled, .ref m_list, .ref m_recordSize, .ref m_state, .ref m_held, .int 0])), (m_known, .inl (cZ, 8, .inl g_12)), (m_kind, .inl (cI, 8, .inl g_13)), (m_keySize, .inl (cI, 8, .inl g_14)), (m_valueSize, .inl (cI, 8, .inl g_15)), (m_most, .inl (cI, 8, .inl g_16)), (m_filled, .inl (cI, 8, .inl g_18)), (m_list, .inl (cI, 128, .inl (upd (fun _ => 0) (nI ((j9) * 16 + 0)).toNatClampNeg ((-1) : Int32))))] := hD
                    generalize upd (fun _ => 0) (nI ((j9) * 16 + 0)).toNatClampNeg ((-1) : Int32) = g_22 at hP hD
                    refine lv_iinc (v := 1) (lv' := [(6, .int 1), (0, .ref h0), (1, .int (nI j9)), (2, .int p1), (3, .int p2), (4, .int p3), (5, .int p4)]) hx hb dX2_tell_122 hl (k := 0) rfl (by decide +kernel) (by decide +kernel) rfl (fun ls hl => ?_)
                    refine lv_goto (tgt := 102) hx hb dX2_tell_125 (by decide +kernel) ?_
                    refine lv_iload hx hb dX2_tell_102 (lv_at hl 0 rfl) ?_
                    refine lv_bipush (v := 16) hx hb dX2_tell_104 (by decide +kernel) ?_
                    refine lv_icmp_ge (tgt := 128) hx hb dX2_tell_106 (by decide +kernel) (fun c_23 => ?_) (fun c_23 => ?_)
                    · exact absurd c_23 (by decide +kernel)
                    · refine lv_aload_n hx hb dX2_tell_109 rfl (lv_at hl 1 rfl) ?_
                      refine va_get (D := (dC, dI)) (ci := 1) (v := .ref m_list) (C := RX2) (T := TX2) (N := 13) hx hb hts zz_in_zm_tell_X2 hown hK hP 0 rfl rfl 8 (by decide +kernel) (hts (.fieldLink RX2 38 "FilterHouse$Maps" "list" "[I") (List.mem_of_getElem? (i := 11) rfl)) (fun _ h9 => h9) rfl dX2_tell_110 ?_
                      refine lv_iload_n hx hb dX2_tell_113 rfl (lv_at hl 2 rfl) ?_
                      refine lv_bipush (v := 16) hx hb dX2_tell_114 (by decide +kernel) ?_
                      refine lv_imul hx hb dX2_tell_116 ?_
                      refine lv_topi (fun f_24 ef_24 => ?_)
                      obtain rfl : f_24 = nI ((j9) * 16) := ef_24.trans (pk_mul (j9) 16)
                      refine lv_iload hx hb dX2_tell_117 (lv_at hl 0 rfl) ?_
                      refine lv_iadd hx hb dX2_tell_119 ?_
                      refine lv_topi (fun f_25 ef_25 => ?_)
                      obtain rfl : f_25 = nI ((j9) * 16 + 1) := ef_25.trans (nI_add ((j9) * 16) 1)
                      refine lv_iconst (v := (-1)) hx hb dX2_tell_120 (by decide +kernel) ?_
                      refine va_iast hx hb hK hP hD hS 7 1 rfl rfl (vp_in_nI (by omega) (by decide +kernel)) dX2_tell_121 (fun H locs hP hD hS => ?_)
                      have hP : va_P (dC, dI) zz_cl [(h0, .inr (1, [.ref m_room, .ref m_keys, .ref m_known, .ref m_kind, .ref m_keySize, .ref m_valueSize, .ref m_most, .ref m_filled, .ref m_list, .ref m_recordSize, .ref m_state, .ref m_held, .int 0])), (m_known, .inl (cZ, 8, .inl g_12)), (m_kind, .inl (cI, 8, .inl g_13)), (m_keySize, .inl (cI, 8, .inl g_14)), (m_valueSize, .inl (cI, 8, .inl g_15)), (m_most, .inl (cI, 8, .inl g_16)), (m_filled, .inl (cI, 8, .inl g_18)), (m_list, .inl (cI, 128, .inl (upd g_22 (nI ((j9) * 16 + 1)).toNatClampNeg ((-1) : Int32))))] H := hP
                      have hD : va_D A [(h0, .inr (1, [.ref m_room, .ref m_keys, .ref m_known, .ref m_kind, .ref m_keySize, .ref m_valueSize, .ref m_most, .ref m_filled, .ref m_list, .ref m_recordSize, .ref m_state, .ref m_held, .int 0])), (m_known, .inl (cZ, 8, .inl g_12)), (m_kind, .inl (cI, 8, .inl g_13)), (m_keySize, .inl (cI, 8, .inl g_14)), (m_valueSize, .inl (cI, 8, .inl g_15)), (m_most, .inl (cI, 8, .inl g_16)), (m_filled, .inl (cI, 8, .inl g_18)), (m_list, .inl (cI, 128, .inl (upd g_22 (nI ((j9) * 16 + 1)).toNatClampNeg ((-1) : Int32))))] := hD
                      generalize upd g_22 (nI ((j9) * 16 + 1)).toNatClampNeg ((-1) : Int32) = g_26 at hP hD
                      refine lv_iinc (v := 2) (lv' := [(6, .int 2), (0, .ref h0), (1, .int (nI j9)), (2, .int p1), (3, .int p2), (4, .int p3), (5, .int p4)]) hx hb dX2_tell_122 hl (k := 0) rfl (by decide +kernel) (by decide +kernel) rfl (fun ls hl => ?_)
                      refine lv_goto (tgt := 102) hx hb dX2_tell_125 (by decide +kernel) ?_
                      refine lv_iload hx hb dX2_tell_102 (lv_at hl 0 rfl) ?_
                      refine lv_bipush (v := 16) hx hb dX2_tell_104 (by decide +kernel) ?_
                      refine lv_icmp_ge (tgt := 128) hx hb dX2_tell_106 (by decide +kernel) (fun c_27 => ?_) (fun c_27 => ?_)
                      · exact absurd c_27 (by decide +kernel)
                      · refine lv_aload_n hx hb dX2_tell_109 rfl (lv_at hl 1 rfl) ?_
                        refine va_get (D := (dC, dI)) (ci := 1) (v := .ref m_list) (C := RX2) (T := TX2) (N := 13) hx hb hts zz_in_zm_tell_X2 hown hK hP 0 rfl rfl 8 (by decide +kernel) (hts (.fieldLink RX2 38 "FilterHouse$Maps" "list" "[I") (List.mem_of_getElem? (i := 11) rfl)) (fun _ h9 => h9) rfl dX2_tell_110 ?_
                        refine lv_iload_n hx hb dX2_tell_113 rfl (lv_at hl 2 rfl) ?_
                        refine lv_bipush (v := 16) hx hb dX2_tell_114 (by decide +kernel) ?_
                        refine lv_imul hx hb dX2_tell_116 ?_
                        refine lv_topi (fun f_28 ef_28 => ?_)
                        obtain rfl : f_28 = nI ((j9) * 16) := ef_28.trans (pk_mul (j9) 16)
                        refine lv_iload hx hb dX2_tell_117 (lv_at hl 0 rfl) ?_
                        refine lv_iadd hx hb dX2_tell_119 ?_
                        refine lv_topi (fun f_29 ef_29 => ?_)
                        obtain rfl : f_29 = nI ((j9) * 16 + 2) := ef_29.trans (nI_add ((j9) * 16) 2)
                        refine lv_iconst (v := (-1)) hx hb dX2_tell_120 (by decide +kernel) ?_
                        refine va_iast hx hb hK hP hD hS 7 1 rfl rfl (vp_in_nI (by omega) (by decide +kernel)) dX2_tell_121 (fun H locs hP hD hS => ?_)
                        have hP : va_P (dC, dI) zz_cl [(h0, .inr (1, [.ref m_room, .ref m_keys, .ref m_known, .ref m_kind, .ref m_keySize, .ref m_valueSize, .ref m_most, .ref m_filled, .ref m_list, .ref m_recordSize, .ref m_state, .ref m_held, .int 0])), (m_known, .inl (cZ, 8, .inl g_12)), (m_kind, .inl (cI, 8, .inl g_13)), (m_keySize, .inl (cI, 8, .inl g_14)), (m_valueSize, .inl (cI, 8, .inl g_15)), (m_most, .inl (cI, 8, .inl g_16)), (m_filled, .inl (cI, 8, .inl g_18)), (m_list, .inl (cI, 128, .inl (upd g_26 (nI ((j9) * 16 + 2)).toNatClampNeg ((-1) : Int32))))] H := hP
                        have hD : va_D A [(h0, .inr (1, [.ref m_room, .ref m_keys, .ref m_known, .ref m_kind, .ref m_keySize, .ref m_valueSize, .ref m_most, .ref m_filled, .ref m_list, .ref m_recordSize, .ref m_state, .ref m_held, .int 0])), (m_known, .inl (cZ, 8, .inl g_12)), (m_kind, .inl (cI, 8, .inl g_13)), (m_keySize, .inl (cI, 8, .inl g_14)), (m_valueSize, .inl (cI, 8, .inl g_15)), (m_most, .inl (cI, 8, .inl g_16)), (m_filled, .inl (cI, 8, .inl g_18)), (m_list, .inl (cI, 128, .inl (upd g_26 (nI ((j9) * 16 + 2)).toNatClampNeg ((-1) : Int32))))] := hD
                        generalize upd g_26 (nI ((j9) * 16 + 2)).toNatClampNeg ((-1) : Int32) = g_30 at hP hD
                        refine lv_iinc (v := 3) (lv' := [(6, .int 3), (0, .ref h0), (1, .int (nI j9)), (2, .int p1), (3, .int p2), (4, .int p3), (5, .int p4)]) hx hb dX2_tell_122 hl (k := 0) rfl (by decide +kernel) (by decide +kernel) rfl (fun ls hl => ?_)
                        refine lv_goto (tgt := 102) hx hb dX2_tell_125 (by decide +kernel) ?_
                        refine lv_iload hx hb dX2_tell_102 (lv_at hl 0 rfl) ?_
                        refine lv_bipush (v := 16) hx hb dX2_tell_104 (by decide +kernel) ?_
                        refine lv_icmp_ge (tgt := 128) hx hb dX2_tell_106 (by decide +kernel) (fun c_31 => ?_) (fun c_31 => ?_)
                        · exact absurd c_31 (by decide +kernel)
                        · refine lv_aload_n hx hb dX2_tell_109 rfl (lv_at hl 1 rfl) ?_
                          refine va_get (D := (dC, dI)) (ci := 1) (v := .ref m_list) (C := RX2) (T := TX2) (N := 13) hx hb hts zz_in_zm_tell_X2 hown hK hP 0 rfl rfl 8 (by decide +kernel) (hts (.fieldLink RX2 38 "FilterHouse$Maps" "list" "[I") (List.mem_of_getElem? (i := 11) rfl)) (fun _ h9 => h9) rfl dX2_tell_110 ?_
                          refine lv_iload_n hx hb dX2_tell_113 rfl (lv_at hl 2 rfl) ?_
                          refine lv_bipush (v := 16) hx hb dX2_tell_114 (by decide +kernel) ?_
                          refine lv_imul hx hb dX2_tell_116 ?_
                          refine lv_topi (fun f_32 ef_32 => ?_)
                          obtain rfl : f_32 = nI ((j9) * 16) := ef_32.trans (pk_mul (j9) 16)
                          refine lv_iload hx hb dX2_tell_117 (lv_at hl 0 rfl) ?_
                          refine lv_iadd hx hb dX2_tell_119 ?_
                          refine lv_topi (fun f_33 ef_33 => ?_)
                          obtain rfl : f_33 = nI ((j9) * 16 + 3) := ef_33.trans (nI_add ((j9) * 16) 3)
                          refine lv_iconst (v := (-1)) hx hb dX2_tell_120 (by decide +kernel) ?_
                          refine va_iast hx hb hK hP hD hS 7 1 rfl rfl (vp_in_nI (by omega) (by decide +kernel)) dX2_tell_121 (fun H locs hP hD hS => ?_)
                          have hP : va_P (dC, dI) zz_cl [(h0, .inr (1, [.ref m_room, .ref m_keys, .ref m_known, .ref m_kind, .ref m_keySize, .ref m_valueSize, .ref m_most, .ref m_filled, .ref m_list, .ref m_recordSize, .ref m_state, .ref m_held, .int 0])), (m_known, .inl (cZ, 8, .inl g_12)), (m_kind, .inl (cI, 8, .inl g_13)), (m_keySize, .inl (cI, 8, .inl g_14)), (m_valueSize, .inl (cI, 8, .inl g_15)), (m_most, .inl (cI, 8, .inl g_16)), (m_filled, .inl (cI, 8, .inl g_18)), (m_list, .inl (cI, 128, .inl (upd g_30 (nI ((j9) * 16 + 3)).toNatClampNeg ((-1) : Int32))))] H := hP
                          have hD : va_D A [(h0, .inr (1, [.ref m_room, .ref m_keys, .ref m_known, .ref m_kind, .ref m_keySize, .ref m_valueSize, .ref m_most, .ref m_filled, .ref m_list, .ref m_recordSize, .ref m_state, .ref m_held, .int 0])), (m_known, .inl (cZ, 8, .inl g_12)), (m_kind, .inl (cI, 8, .inl g_13)), (m_keySize, .inl (cI, 8, .inl g_14)), (m_valueSize, .inl (cI, 8, .inl g_15)), (m_most, .inl (cI, 8, .inl g_16)), (m_filled, .inl (cI, 8, .inl g_18)), (m_list, .inl (cI, 128, .inl (upd g_30 (nI ((j9) * 16 + 3)).toNatClampNeg ((-1) : Int32))))] := hD
                          generalize upd g_30 (nI ((j9) * 16 + 3)).toNatClampNeg ((-1) : Int32) = g_34 at hP hD
                          refine lv_iinc (v := 4) (lv' := [(6, .int 4), (0, .ref h0), (1, .int (nI j9)), (2, .int p1), (3, .int p2), (4, .int p3), (5, .int p4)]) hx hb dX2_tell_122 hl (k := 0) rfl (by decide +kernel) (by decide +kernel) rfl (fun ls hl => ?_)
                          refine lv_goto (tgt := 102) hx hb dX2_tell_125 (by decide +kernel) ?_
                          refine lv_iload hx hb dX2_tell_102 (lv_at hl 0 rfl) ?_
                          refine lv_bipush (v := 16) hx hb dX2_tell_104 (by decide +kernel) ?_
                          refine lv_icmp_ge (tgt := 128) hx hb dX2_tell_106 (by decide +kernel) (fun c_35 => ?_) (fun c_35 => ?_)
                          · exact absurd c_35 (by decide +kernel)
                          · refine lv_aload_n hx hb dX2_tell_109 rfl (lv_at hl 1 rfl) ?_
                            refine va_get (D := (dC, dI)) (ci := 1) (v := .ref m_list) (C := RX2) (T := TX2) (N := 13) hx hb hts zz_in_zm_tell_X2 hown hK hP 0 rfl rfl 8 (by decide +kernel) (hts (.fieldLink RX2 38 "FilterHouse$Maps" "list" "[I") (List.mem_of_getElem? (i := 11) rfl)) (fun _ h9 => h9) rfl dX2_tell_110 ?_
                            refine lv_iload_n hx hb dX2_tell_113 rfl (lv_at hl 2 rfl) ?_
                            refine lv_bipush (v := 16) hx hb dX2_tell_114 (by decide +kernel) ?_
                            refine lv_imul hx hb dX2_tell_116 ?_
                            refine lv_topi (fun f_36 ef_36 => ?_)
                            obtain rfl : f_36 = nI ((j9) * 16) := ef_36.trans (pk_mul (j9) 16)
                            refine lv_iload hx hb dX2_tell_117 (lv_at hl 0 rfl) ?_
                            refine lv_iadd hx hb dX2_tell_119 ?_
                            refine lv_topi (fun f_37 ef_37 => ?_)
                            obtain rfl : f_37 = nI ((j9) * 16 + 4) := ef_37.trans (nI_add ((j9) * 16) 4)
                            refine lv_iconst (v := (-1)) hx hb dX2_tell_120 (by decide +kernel) ?_
                            refine va_iast hx hb hK hP hD hS 7 1 rfl rfl (vp_in_nI (by omega) (by decide +kernel)) dX2_tell_121 (fun H locs hP hD hS => ?_)
                            have hP : va_P (dC, dI) zz_cl [(h0, .inr (1, [.ref m_room, .ref m_keys, .ref m_known, .ref m_kind, .ref m_keySize, .ref m_valueSize, .ref m_most, .ref m_filled, .ref m_list, .ref m_recordSize, .ref m_state, .ref m_held, .int 0])), (m_known, .inl (cZ, 8, .inl g_12)), (m_kind, .inl (cI, 8, .inl g_13)), (m_keySize, .inl (cI, 8, .inl g_14)), (m_valueSize, .inl (cI, 8, .inl g_15)), (m_most, .inl (cI, 8, .inl g_16)), (m_filled, .inl (cI, 8, .inl g_18)), (m_list, .inl (cI, 128, .inl (upd g_34 (nI ((j9) * 16 + 4)).toNatClampNeg ((-1) : Int32))))] H := hP
                            have hD : va_D A [(h0, .inr (1, [.ref m_room, .ref m_keys, .ref m_known, .ref m_kind, .ref m_keySize, .ref m_valueSize, .ref m_most, .ref m_filled, .ref m_list, .ref m_recordSize, .ref m_state, .ref m_held, .int 0])), (m_known, .inl (cZ, 8, .inl g_12)), (m_kind, .inl (cI, 8, .inl g_13)), (m_keySize, .inl (cI, 8, .inl g_14)), (m_valueSize, .inl (cI, 8, .inl g_15)), (m_most, .inl (cI, 8, .inl g_16)), (m_filled, .inl (cI, 8, .inl g_18)), (m_list, .inl (cI, 128, .inl (upd g_34 (nI ((j9) * 16 + 4)).toNatClampNeg ((-1) : Int32))))] := hD
                            generalize upd g_34 (nI ((j9) * 16 + 4)).toNatClampNeg ((-1) : Int32) = g_38 at hP hD
                            refine lv_iinc (v := 5) (lv' := [(6, .int 5), (0, .ref h0), (1, .int (nI j9)), (2, .int p1), (3, .int p2), (4, .int p3), (5, .int p4)]) hx hb dX2_tell_122 hl (k := 0) rfl (by decide +kernel) (by decide +kernel) rfl (fun ls hl => ?_)
                            refine lv_goto (tgt := 102) hx hb dX2_tell_125 (by decide +kernel) ?_
                            refine lv_iload hx hb dX2_tell_102 (lv_at hl 0 rfl) ?_
                            refine lv_bipush (v := 16) hx hb dX2_tell_104 (by decide +kernel) ?_
                            refine lv_icmp_ge (tgt := 128) hx hb dX2_tell_106 (by decide +kernel) (fun c_39 => ?_) (fun c_39 => ?_)
                            · exact absurd c_39 (by decide +kernel)
                            · refine lv_aload_n hx hb dX2_tell_109 rfl (lv_at hl 1 rfl) ?_
                              refine va_get (D := (dC, dI)) (ci := 1) (v := .ref m_list) (C := RX2) (T := TX2) (N := 13) hx hb hts zz_in_zm_tell_X2 hown hK hP 0 rfl rfl 8 (by decide +kernel) (hts (.fieldLink RX2 38 "FilterHouse$Maps" "list" "[I") (List.mem_of_getElem? (i := 11) rfl)) (fun _ h9 => h9) rfl dX2_tell_110 ?_
                              refine lv_iload_n hx hb dX2_tell_113 rfl (lv_at hl 2 rfl) ?_
                              refine lv_bipush (v := 16) hx hb dX2_tell_114 (by decide +kernel) ?_
                              refine lv_imul hx hb dX2_tell_116 ?_
                              refine lv_topi (fun f_40 ef_40 => ?_)
                              obtain rfl : f_40 = nI ((j9) * 16) := ef_40.trans (pk_mul (j9) 16)
                              refine lv_iload hx hb dX2_tell_117 (lv_at hl 0 rfl) ?_
                              refine lv_iadd hx hb dX2_tell_119 ?_
                              refine lv_topi (fun f_41 ef_41 => ?_)
                              obtain rfl : f_41 = nI ((j9) * 16 + 5) := ef_41.trans (nI_add ((j9) * 16) 5)
                              refine lv_iconst (v := (-1)) hx hb dX2_tell_120 (by decide +kernel) ?_
                              refine va_iast hx hb hK hP hD hS 7 1 rfl rfl (vp_in_nI (by omega) (by decide +kernel)) dX2_tell_121 (fun H locs hP hD hS => ?_)
                              have hP : va_P (dC, dI) zz_cl [(h0, .inr (1, [.ref m_room, .ref m_keys, .ref m_known, .ref m_kind, .ref m_keySize, .ref m_valueSize, .ref m_most, .ref m_filled, .ref m_list, .ref m_recordSize, .ref m_state, .ref m_held, .int 0])), (m_known, .inl (cZ, 8, .inl g_12)), (m_kind, .inl (cI, 8, .inl g_13)), (m_keySize, .inl (cI, 8, .inl g_14)), (m_valueSize, .inl (cI, 8, .inl g_15)), (m_most, .inl (cI, 8, .inl g_16)), (m_filled, .inl (cI, 8, .inl g_18)), (m_list, .inl (cI, 128, .inl (upd g_38 (nI ((j9) * 16 + 5)).toNatClampNeg ((-1) : Int32))))] H := hP
                              have hD : va_D A [(h0, .inr (1, [.ref m_room, .ref m_keys, .ref m_known, .ref m_kind, .ref m_keySize, .ref m_valueSize, .ref m_most, .ref m_filled, .ref m_list, .ref m_recordSize, .ref m_state, .ref m_held, .int 0])), (m_known, .inl (cZ, 8, .inl g_12)), (m_kind, .inl (cI, 8, .inl g_13)), (m_keySize, .inl (cI, 8, .inl g_14)), (m_valueSize, .inl (cI, 8, .inl g_15)), (m_most, .inl (cI, 8, .inl g_16)), (m_filled, .inl (cI, 8, .inl g_18)), (m_list, .inl (cI, 128, .inl (upd g_38 (nI ((j9) * 16 + 5)).toNatClampNeg ((-1) : Int32))))] := hD
                              generalize upd g_38 (nI ((j9) * 16 + 5)).toNatClampNeg ((-1) : Int32) = g_42 at hP hD
                              refine lv_iinc (v := 6) (lv' := [(6, .int 6), (0, .ref h0), (1, .int (nI j9)), (2, .int p1), (3, .int p2), (4, .int p3), (5, .int p4)]) hx hb dX2_tell_122 hl (k := 0) rfl (by decide +kernel) (by decide +kernel) rfl (fun ls hl => ?_)
                              refine lv_goto (tgt := 102) hx hb dX2_tell_125 (by decide +kernel) ?_
                              refine lv_iload hx hb dX2_tell_102 (lv_at hl 0 rfl) ?_
                              refine lv_bipush (v := 16) hx hb dX2_tell_104 (by decide +kernel) ?_
                              refine lv_icmp_ge (tgt := 128) hx hb dX2_tell_106 (by decide +kernel) (fun c_43 => ?_) (fun c_43 => ?_)
                              · exact absurd c_43 (by decide +kernel)
                              · refine lv_aload_n hx hb dX2_tell_109 rfl (lv_at hl 1 rfl) ?_
                                refine va_get (D := (dC, dI)) (ci := 1) (v := .ref m_list) (C := RX2) (T := TX2) (N := 13) hx hb hts zz_in_zm_tell_X2 hown hK hP 0 rfl rfl 8 (by decide +kernel) (hts (.fieldLink RX2 38 "FilterHouse$Maps" "list" "[I") (List.mem_of_getElem? (i := 11) rfl)) (fun _ h9 => h9) rfl dX2_tell_110 ?_
                                refine lv_iload_n hx hb dX2_tell_113 rfl (lv_at hl 2 rfl) ?_
                                refine lv_bipush (v := 16) hx hb dX2_tell_114 (by decide +kernel) ?_
                                refine lv_imul hx hb dX2_tell_116 ?_
                                refine lv_topi (fun f_44 ef_44 => ?_)
                                obtain rfl : f_44 = nI ((j9) * 16) := ef_44.trans (pk_mul (j9) 16)
                                refine lv_iload hx hb dX2_tell_117 (lv_at hl 0 rfl) ?_
                                refine lv_iadd hx hb dX2_tell_119 ?_
                                refine lv_topi (fun f_45 ef_45 => ?_)
                                obtain rfl : f_45 = nI ((j9) * 16 + 6) := ef_45.trans (nI_add ((j9) * 16) 6)
                                refine lv_iconst (v := (-1)) hx hb dX2_tell_120 (by decide +kernel) ?_
                                refine va_iast hx hb hK hP hD hS 7 1 rfl rfl (vp_in_nI (by omega) (by decide +kernel)) dX2_tell_121 (fun H locs hP hD hS => ?_)
                                have hP : va_P (dC, dI) zz_cl [(h0, .inr (1, [.ref m_room, .ref m_keys, .ref m_known, .ref m_kind, .ref m_keySize, .ref m_valueSize, .ref m_most, .ref m_filled, .ref m_list, .ref m_recordSize, .ref m_state, .ref m_held, .int 0])), (m_known, .inl (cZ, 8, .inl g_12)), (m_kind, .inl (cI, 8, .inl g_13)), (m_keySize, .inl (cI, 8, .inl g_14)), (m_valueSize, .inl (cI, 8, .inl g_15)), (m_most, .inl (cI, 8, .inl g_16)), (m_filled, .inl (cI, 8, .inl g_18)), (m_list, .inl (cI, 128, .inl (upd g_42 (nI ((j9) * 16 + 6)).toNatClampNeg ((-1) : Int32))))] H := hP
                                have hD : va_D A [(h0, .inr (1, [.ref m_room, .ref m_keys, .ref m_known, .ref m_kind, .ref m_keySize, .ref m_valueSize, .ref m_most, .ref m_filled, .ref m_list, .ref m_recordSize, .ref m_state, .ref m_held, .int 0])), (m_known, .inl (cZ, 8, .inl g_12)), (m_kind, .inl (cI, 8, .inl g_13)), (m_keySize, .inl (cI, 8, .inl g_14)), (m_valueSize, .inl (cI, 8, .inl g_15)), (m_most, .inl (cI, 8, .inl g_16)), (m_filled, .inl (cI, 8, .inl g_18)), (m_list, .inl (cI, 128, .inl (upd g_42 (nI ((j9) * 16 + 6)).toNatClampNeg ((-1) : Int32))))] := hD
                                generalize upd g_42 (nI ((j9) * 16 + 6)).toNatClampNeg ((-1) : Int32) = g_46 at hP hD
                                refine lv_iinc (v := 7) (lv' := [(6, .int 7), (0, .ref h0), (1, .int (nI j9)), (2, .int p1), (3, .int p2), (4, .int p3), (5, .int p4)]) hx hb dX2_tell_122 hl (k := 0) rfl (by decide +kernel) (by decide +kernel) rfl (fun ls hl => ?_)
                                refine lv_goto (tgt := 102) hx hb dX2_tell_125 (by decide +kernel) ?_
                                refine lv_iload hx hb dX2_tell_102 (lv_at hl 0 rfl) ?_
                                refine lv_bipush (v := 16) hx hb dX2_tell_104 (by decide +kernel) ?_
                                refine lv_icmp_ge (tgt := 128) hx hb dX2_tell_106 (by decide +kernel) (fun c_47 => ?_) (fun c_47 => ?_)
                                · exact absurd c_47 (by decide +kernel)
                                · refine lv_aload_n hx hb dX2_tell_109 rfl (lv_at hl 1 rfl) ?_
                                  refine va_get (D := (dC, dI)) (ci := 1) (v := .ref m_list) (C := RX2) (T := TX2) (N := 13) hx hb hts zz_in_zm_tell_X2 hown hK hP 0 rfl rfl 8 (by decide +kernel) (hts (.fieldLink RX2 38 "FilterHouse$Maps" "list" "[I") (List.mem_of_getElem? (i := 11) rfl)) (fun _ h9 => h9) rfl dX2_tell_110 ?_
                                  refine lv_iload_n hx hb dX2_tell_113 rfl (lv_at hl 2 rfl) ?_
                                  refine lv_bipush (v := 16) hx hb dX2_tell_114 (by decide +kernel) ?_
                                  refine lv_imul hx hb dX2_tell_116 ?_
                                  refine lv_topi (fun f_48 ef_48 => ?_)
                                  obtain rfl : f_48 = nI ((j9) * 16) := ef_48.trans (pk_mul (j9) 16)
                                  refine lv_iload hx hb dX2_tell_117 (lv_at hl 0 rfl) ?_
                                  refine lv_iadd hx hb dX2_tell_119 ?_
                                  refine lv_topi (fun f_49 ef_49 => ?_)
                                  obtain rfl : f_49 = nI ((j9) * 16 + 7) := ef_49.trans (nI_add ((j9) * 16) 7)
                                  refine lv_iconst (v := (-1)) hx hb dX2_tell_120 (by decide +kernel) ?_
                                  refine va_iast hx hb hK hP hD hS 7 1 rfl rfl (vp_in_nI (by omega) (by decide +kernel)) dX2_tell_121 (fun H locs hP hD hS => ?_)
                                  have hP : va_P (dC, dI) zz_cl [(h0, .inr (1, [.ref m_room, .ref m_keys, .ref m_known, .ref m_kind, .ref m_keySize, .ref m_valueSize, .ref m_most, .ref m_filled, .ref m_list, .ref m_recordSize, .ref m_state, .ref m_held, .int 0])), (m_known, .inl (cZ, 8, .inl g_12)), (m_kind, .inl (cI, 8, .inl g_13)), (m_keySize, .inl (cI, 8, .inl g_14)), (m_valueSize, .inl (cI, 8, .inl g_15)), (m_most, .inl (cI, 8, .inl g_16)), (m_filled, .inl (cI, 8, .inl g_18)), (m_list, .inl (cI, 128, .inl (upd g_46 (nI ((j9) * 16 + 7)).toNatClampNeg ((-1) : Int32))))] H := hP
                                  have hD : va_D A [(h0, .inr (1, [.ref m_room, .ref m_keys, .ref m_known, .ref m_kind, .ref m_keySize, .ref m_valueSize, .ref m_most, .ref m_filled, .ref m_list, .ref m_recordSize, .ref m_state, .ref m_held, .int 0])), (m_known, .inl (cZ, 8, .inl g_12)), (m_kind, .inl (cI, 8, .inl g_13)), (m_keySize, .inl (cI, 8, .inl g_14)), (m_valueSize, .inl (cI, 8, .inl g_15)), (m_most, .inl (cI, 8, .inl g_16)), (m_filled, .inl (cI, 8, .inl g_18)), (m_list, .inl (cI, 128, .inl (upd g_46 (nI ((j9) * 16 + 7)).toNatClampNeg ((-1) : Int32))))] := hD
                                  generalize upd g_46 (nI ((j9) * 16 + 7)).toNatClampNeg ((-1) : Int32) = g_50 at hP hD
                                  refine lv_iinc (v := 8) (lv' := [(6, .int 8), (0, .ref h0), (1, .int (nI j9)), (2, .int p1), (3, .int p2), (4, .int p3), (5, .int p4)]) hx hb dX2_tell_122 hl (k := 0) rfl (by decide +kernel) (by decide +kernel) rfl (fun ls hl => ?_)
                                  refine lv_goto (tgt := 102) hx hb dX2_tell_125 (by decide +kernel) ?_
                                  refine lv_iload hx hb dX2_tell_102 (lv_at hl 0 rfl) ?_
                                  refine lv_bipush (v := 16) hx hb dX2_tell_104 (by decide +kernel) ?_
                                  refine lv_icmp_ge (tgt := 128) hx hb dX2_tell_106 (by decide +kernel) (fun c_51 => ?_) (fun c_51 => ?_)
                                  · exact absurd c_51 (by decide +kernel)
                                  · refine lv_aload_n hx hb dX2_tell_109 rfl (lv_at hl 1 rfl) ?_
                                    refine va_get (D := (dC, dI)) (ci := 1) (v := .ref m_list) (C := RX2) (T := TX2) (N := 13) hx hb hts zz_in_zm_tell_X2 hown hK hP 0 rfl rfl 8 (by decide +kernel) (hts (.fieldLink RX2 38 "FilterHouse$Maps" "list" "[I") (List.mem_of_getElem? (i := 11) rfl)) (fun _ h9 => h9) rfl dX2_tell_110 ?_
                                    refine lv_iload_n hx hb dX2_tell_113 rfl (lv_at hl 2 rfl) ?_
                                    refine lv_bipush (v := 16) hx hb dX2_tell_114 (by decide +kernel) ?_
                                    refine lv_imul hx hb dX2_tell_116 ?_
                                    refine lv_topi (fun f_52 ef_52 => ?_)
                                    obtain rfl : f_52 = nI ((j9) * 16) := ef_52.trans (pk_mul (j9) 16)
                                    refine lv_iload hx hb dX2_tell_117 (lv_at hl 0 rfl) ?_
                                    refine lv_iadd hx hb dX2_tell_119 ?_
                                    refine lv_topi (fun f_53 ef_53 => ?_)
                                    obtain rfl : f_53 = nI ((j9) * 16 + 8) := ef_53.trans (nI_add ((j9) * 16) 8)
                                    refine lv_iconst (v := (-1)) hx hb dX2_tell_120 (by decide +kernel) ?_
                                    refine va_iast hx hb hK hP hD hS 7 1 rfl rfl (vp_in_nI (by omega) (by decide +kernel)) dX2_tell_121 (fun H locs hP hD hS => ?_)
                                    have hP : va_P (dC, dI) zz_cl [(h0, .inr (1, [.ref m_room, .ref m_keys, .ref m_known, .ref m_kind, .ref m_keySize, .ref m_valueSize, .ref m_most, .ref m_filled, .ref m_list, .ref m_recordSize, .ref m_state, .ref m_held, .int 0])), (m_known, .inl (cZ, 8, .inl g_12)), (m_kind, .inl (cI, 8, .inl g_13)), (m_keySize, .inl (cI, 8, .inl g_14)), (m_valueSize, .inl (cI, 8, .inl g_15)), (m_most, .inl (cI, 8, .inl g_16)), (m_filled, .inl (cI, 8, .inl g_18)), (m_list, .inl (cI, 128, .inl (upd g_50 (nI ((j9) * 16 + 8)).toNatClampNeg ((-1) : Int32))))] H := hP
                                    have hD : va_D A [(h0, .inr (1, [.ref m_room, .ref m_keys, .ref m_known, .ref m_kind, .ref m_keySize, .ref m_valueSize, .ref m_most, .ref m_filled, .ref m_list, .ref m_recordSize, .ref m_state, .ref m_held, .int 0])), (m_known, .inl (cZ, 8, .inl g_12)), (m_kind, .inl (cI, 8, .inl g_13)), (m_keySize, .inl (cI, 8, .inl g_14)), (m_valueSize, .inl (cI, 8, .inl g_15)), (m_most, .inl (cI, 8, .inl g_16)), (m_filled, .inl (cI, 8, .inl g_18)), (m_list, .inl (cI, 128, .inl (upd g_50 (nI ((j9) * 16 + 8)).toNatClampNeg ((-1) : Int32))))] := hD
                                    generalize upd g_50 (nI ((j9) * 16 + 8)).toNatClampNeg ((-1) : Int32) = g_54 at hP hD
                                    refine lv_iinc (v := 9) (lv' := [(6, .int 9), (0, .ref h0), (1, .int (nI j9)), (2, .int p1), (3, .int p2), (4, .int p3), (5, .int p4)]) hx hb dX2_tell_122 hl (k := 0) rfl (by decide +kernel) (by decide +kernel) rfl (fun ls hl => ?_)
                                    refine lv_goto (tgt := 102) hx hb dX2_tell_125 (by decide +kernel) ?_
                                    refine lv_iload hx hb dX2_tell_102 (lv_at hl 0 rfl) ?_
                                    refine lv_bipush (v := 16) hx hb dX2_tell_104 (by decide +kernel) ?_
                                    refine lv_icmp_ge (tgt := 128) hx hb dX2_tell_106 (by decide +kernel) (fun c_55 => ?_) (fun c_55 => ?_)
                                    · exact absurd c_55 (by decide +kernel)
                                    · refine lv_aload_n hx hb dX2_tell_109 rfl (lv_at hl 1 rfl) ?_
                                      refine va_get (D := (dC, dI)) (ci := 1) (v := .ref m_list) (C := RX2) (T := TX2) (N := 13) hx hb hts zz_in_zm_tell_X2 hown hK hP 0 rfl rfl 8 (by decide +kernel) (hts (.fieldLink RX2 38 "FilterHouse$Maps" "list" "[I") (List.mem_of_getElem? (i := 11) rfl)) (fun _ h9 => h9) rfl dX2_tell_110 ?_
                                      refine lv_iload_n hx hb dX2_tell_113 rfl (lv_at hl 2 rfl) ?_
                                      refine lv_bipush (v := 16) hx hb dX2_tell_114 (by decide +kernel) ?_
                                      refine lv_imul hx hb dX2_tell_116 ?_
                                      refine lv_topi (fun f_56 ef_56 => ?_)
                                      obtain rfl : f_56 = nI ((j9) * 16) := ef_56.trans (pk_mul (j9) 16)
                                      refine lv_iload hx hb dX2_tell_117 (lv_at hl 0 rfl) ?_
                                      refine lv_iadd hx hb dX2_tell_119 ?_
                                      refine lv_topi (fun f_57 ef_57 => ?_)
                                      obtain rfl : f_57 = nI ((j9) * 16 + 9) := ef_57.trans (nI_add ((j9) * 16) 9)
                                      refine lv_iconst (v := (-1)) hx hb dX2_tell_120 (by decide +kernel) ?_
                                      refine va_iast hx hb hK hP hD hS 7 1 rfl rfl (vp_in_nI (by omega) (by decide +kernel)) dX2_tell_121 (fun H locs hP hD hS => ?_)
                                      have hP : va_P (dC, dI) zz_cl [(h0, .inr (1, [.ref m_room, .ref m_keys, .ref m_known, .ref m_kind, .ref m_keySize, .ref m_valueSize, .ref m_most, .ref m_filled, .ref m_list, .ref m_recordSize, .ref m_state, .ref m_held, .int 0])), (m_known, .inl (cZ, 8, .inl g_12)), (m_kind, .inl (cI, 8, .inl g_13)), (m_keySize, .inl (cI, 8, .inl g_14)), (m_valueSize, .inl (cI, 8, .inl g_15)), (m_most, .inl (cI, 8, .inl g_16)), (m_filled, .inl (cI, 8, .inl g_18)), (m_list, .inl (cI, 128, .inl (upd g_54 (nI ((j9) * 16 + 9)).toNatClampNeg ((-1) : Int32))))] H := hP
                                      have hD : va_D A [(h0, .inr (1, [.ref m_room, .ref m_keys, .ref m_known, .ref m_kind, .ref m_keySize, .ref m_valueSize, .ref m_most, .ref m_filled, .ref m_list, .ref m_recordSize, .ref m_state, .ref m_held, .int 0])), (m_known, .inl (cZ, 8, .inl g_12)), (m_kind, .inl (cI, 8, .inl g_13)), (m_keySize, .inl (cI, 8, .inl g_14)), (m_valueSize, .inl (cI, 8, .inl g_15)), (m_most, .inl (cI, 8, .inl g_16)), (m_filled, .inl (cI, 8, .inl g_18)), (m_list, .inl (cI, 128, .inl (upd g_54 (nI ((j9) * 16 + 9)).toNatClampNeg ((-1) : Int32))))] := hD
                                      generalize upd g_54 (nI ((j9) * 16 + 9)).toNatClampNeg ((-1) : Int32) = g_58 at hP hD
                                      refine lv_iinc (v := 10) (lv' := [(6, .int 10), (0, .ref h0), (1, .int (nI j9)), (2, .int p1), (3, .int p2), (4, .int p3), (5, .int p4)]) hx hb dX2_tell_122 hl (k := 0) rfl (by decide +kernel) (by decide +kernel) rfl (fun ls hl => ?_)
                                      refine lv_goto (tgt := 102) hx hb dX2_tell_125 (by decide +kernel) ?_
                                      refine lv_iload hx hb dX2_tell_102 (lv_at hl 0 rfl) ?_
                                      refine lv_bipush (v := 16) hx hb dX2_tell_104 (by decide +kernel) ?_
                                      refine lv_icmp_ge (tgt := 128) hx hb dX2_tell_106 (by decide +kernel) (fun c_59 => ?_) (fun c_59 => ?_)
                                      · exact absurd c_59 (by decide +kernel)
                                      · refine lv_aload_n hx hb dX2_tell_109 rfl (lv_at hl 1 rfl) ?_
                                        refine va_get (D := (dC, dI)) (ci := 1) (v := .ref m_list) (C := RX2) (T := TX2) (N := 13) hx hb hts zz_in_zm_tell_X2 hown hK hP 0 rfl rfl 8 (by decide +kernel) (hts (.fieldLink RX2 38 "FilterHouse$Maps" "list" "[I") (List.mem_of_getElem? (i := 11) rfl)) (fun _ h9 => h9) rfl dX2_tell_110 ?_
                                        refine lv_iload_n hx hb dX2_tell_113 rfl (lv_at hl 2 rfl) ?_
                                        refine lv_bipush (v := 16) hx hb dX2_tell_114 (by decide +kernel) ?_
                                        refine lv_imul hx hb dX2_tell_116 ?_
                                        refine lv_topi (fun f_60 ef_60 => ?_)
                                        obtain rfl : f_60 = nI ((j9) * 16) := ef_60.trans (pk_mul (j9) 16)
                                        refine lv_iload hx hb dX2_tell_117 (lv_at hl 0 rfl) ?_
                                        refine lv_iadd hx hb dX2_tell_119 ?_
                                        refine lv_topi (fun f_61 ef_61 => ?_)
                                        obtain rfl : f_61 = nI ((j9) * 16 + 10) := ef_61.trans (nI_add ((j9) * 16) 10)
                                        refine lv_iconst (v := (-1)) hx hb dX2_tell_120 (by decide +kernel) ?_
                                        refine va_iast hx hb hK hP hD hS 7 1 rfl rfl (vp_in_nI (by omega) (by decide +kernel)) dX2_tell_121 (fun H locs hP hD hS => ?_)
                                        have hP : va_P (dC, dI) zz_cl [(h0, .inr (1, [.ref m_room, .ref m_keys, .ref m_known, .ref m_kind, .ref m_keySize, .ref m_valueSize, .ref m_most, .ref m_filled, .ref m_list, .ref m_recordSize, .ref m_state, .ref m_held, .int 0])), (m_known, .inl (cZ, 8, .inl g_12)), (m_kind, .inl (cI, 8, .inl g_13)), (m_keySize, .inl (cI, 8, .inl g_14)), (m_valueSize, .inl (cI, 8, .inl g_15)), (m_most, .inl (cI, 8, .inl g_16)), (m_filled, .inl (cI, 8, .inl g_18)), (m_list, .inl (cI, 128, .inl (upd g_58 (nI ((j9) * 16 + 10)).toNatClampNeg ((-1) : Int32))))] H := hP
                                        have hD : va_D A [(h0, .inr (1, [.ref m_room, .ref m_keys, .ref m_known, .ref m_kind, .ref m_keySize, .ref m_valueSize, .ref m_most, .ref m_filled, .ref m_list, .ref m_recordSize, .ref m_state, .ref m_held, .int 0])), (m_known, .inl (cZ, 8, .inl g_12)), (m_kind, .inl (cI, 8, .inl g_13)), (m_keySize, .inl (cI, 8, .inl g_14)), (m_valueSize, .inl (cI, 8, .inl g_15)), (m_most, .inl (cI, 8, .inl g_16)), (m_filled, .inl (cI, 8, .inl g_18)), (m_list, .inl (cI, 128, .inl (upd g_58 (nI ((j9) * 16 + 10)).toNatClampNeg ((-1) : Int32))))] := hD
                                        generalize upd g_58 (nI ((j9) * 16 + 10)).toNatClampNeg ((-1) : Int32) = g_62 at hP hD
                                        refine lv_iinc (v := 11) (lv' := [(6, .int 11), (0, .ref h0), (1, .int (nI j9)), (2, .int p1), (3, .int p2), (4, .int p3), (5, .int p4)]) hx hb dX2_tell_122 hl (k := 0) rfl (by decide +kernel) (by decide +kernel) rfl (fun ls hl => ?_)
                                        refine lv_goto (tgt := 102) hx hb dX2_tell_125 (by decide +kernel) ?_
                                        refine lv_iload hx hb dX2_tell_102 (lv_at hl 0 rfl) ?_
                                        refine lv_bipush (v := 16) hx hb dX2_tell_104 (by decide +kernel) ?_
                                        refine lv_icmp_ge (tgt := 128) hx hb dX2_tell_106 (by decide +kernel) (fun c_63 => ?_) (fun c_63 => ?_)
                                        · exact absurd c_63 (by decide +kernel)
                                        · refine lv_aload_n hx hb dX2_tell_109 rfl (lv_at hl 1 rfl) ?_
                                          refine va_get (D := (dC, dI)) (ci := 1) (v := .ref m_list) (C := RX2) (T := TX2) (N := 13) hx hb hts zz_in_zm_tell_X2 hown hK hP 0 rfl rfl 8 (by decide +kernel) (hts (.fieldLink RX2 38 "FilterHouse$Maps" "list" "[I") (List.mem_of_getElem? (i := 11) rfl)) (fun _ h9 => h9) rfl dX2_tell_110 ?_
                                          refine lv_iload_n hx hb dX2_tell_113 rfl (lv_at hl 2 rfl) ?_
                                          refine lv_bipush (v := 16) hx hb dX2_tell_114 (by decide +kernel) ?_
                                          refine lv_imul hx hb dX2_tell_116 ?_
                                          refine lv_topi (fun f_64 ef_64 => ?_)
                                          obtain rfl : f_64 = nI ((j9) * 16) := ef_64.trans (pk_mul (j9) 16)
                                          refine lv_iload hx hb dX2_tell_117 (lv_at hl 0 rfl) ?_
                                          refine lv_iadd hx hb dX2_tell_119 ?_
                                          refine lv_topi (fun f_65 ef_65 => ?_)
                                          obtain rfl : f_65 = nI ((j9) * 16 + 11) := ef_65.trans (nI_add ((j9) * 16) 11)
                                          refine lv_iconst (v := (-1)) hx hb dX2_tell_120 (by decide +kernel) ?_
                                          refine va_iast hx hb hK hP hD hS 7 1 rfl rfl (vp_in_nI (by omega) (by decide +kernel)) dX2_tell_121 (fun H locs hP hD hS => ?_)
                                          have hP : va_P (dC, dI) zz_cl [(h0, .inr (1, [.ref m_room, .ref m_keys, .ref m_known, .ref m_kind, .ref m_keySize, .ref m_valueSize, .ref m_most, .ref m_filled, .ref m_list, .ref m_recordSize, .ref m_state, .ref m_held, .int 0])), (m_known, .inl (cZ, 8, .inl g_12)), (m_kind, .inl (cI, 8, .inl g_13)), (m_keySize, .inl (cI, 8, .inl g_14)), (m_valueSize, .inl (cI, 8, .inl g_15)), (m_most, .inl (cI, 8, .inl g_16)), (m_filled, .inl (cI, 8, .inl g_18)), (m_list, .inl (cI, 128, .inl (upd g_62 (nI ((j9) * 16 + 11)).toNatClampNeg ((-1) : Int32))))] H := hP
                                          have hD : va_D A [(h0, .inr (1, [.ref m_room, .ref m_keys, .ref m_known, .ref m_kind, .ref m_keySize, .ref m_valueSize, .ref m_most, .ref m_filled, .ref m_list, .ref m_recordSize, .ref m_state, .ref m_held, .int 0])), (m_known, .inl (cZ, 8, .inl g_12)), (m_kind, .inl (cI, 8, .inl g_13)), (m_keySize, .inl (cI, 8, .inl g_14)), (m_valueSize, .inl (cI, 8, .inl g_15)), (m_most, .inl (cI, 8, .inl g_16)), (m_filled, .inl (cI, 8, .inl g_18)), (m_list, .inl (cI, 128, .inl (upd g_62 (nI ((j9) * 16 + 11)).toNatClampNeg ((-1) : Int32))))] := hD
                                          generalize upd g_62 (nI ((j9) * 16 + 11)).toNatClampNeg ((-1) : Int32) = g_66 at hP hD
                                          refine lv_iinc (v := 12) (lv' := [(6, .int 12), (0, .ref h0), (1, .int (nI j9)), (2, .int p1), (3, .int p2), (4, .int p3), (5, .int p4)]) hx hb dX2_tell_122 hl (k := 0) rfl (by decide +kernel) (by decide +kernel) rfl (fun ls hl => ?_)
                                          refine lv_goto (tgt := 102) hx hb dX2_tell_125 (by decide +kernel) ?_
                                          refine lv_iload hx hb dX2_tell_102 (lv_at hl 0 rfl) ?_
                                          refine lv_bipush (v := 16) hx hb dX2_tell_104 (by decide +kernel) ?_
                                          refine lv_icmp_ge (tgt := 128) hx hb dX2_tell_106 (by decide +kernel) (fun c_67 => ?_) (fun c_67 => ?_)
                                          · exact absurd c_67 (by decide +kernel)
                                          · refine lv_aload_n hx hb dX2_tell_109 rfl (lv_at hl 1 rfl) ?_
                                            refine va_get (D := (dC, dI)) (ci := 1) (v := .ref m_list) (C := RX2) (T := TX2) (N := 13) hx hb hts zz_in_zm_tell_X2 hown hK hP 0 rfl rfl 8 (by decide +kernel) (hts (.fieldLink RX2 38 "FilterHouse$Maps" "list" "[I") (List.mem_of_getElem? (i := 11) rfl)) (fun _ h9 => h9) rfl dX2_tell_110 ?_
                                            refine lv_iload_n hx hb dX2_tell_113 rfl (lv_at hl 2 rfl) ?_
                                            refine lv_bipush (v := 16) hx hb dX2_tell_114 (by decide +kernel) ?_
                                            refine lv_imul hx hb dX2_tell_116 ?_
                                            refine lv_topi (fun f_68 ef_68 => ?_)
                                            obtain rfl : f_68 = nI ((j9) * 16) := ef_68.trans (pk_mul (j9) 16)
                                            refine lv_iload hx hb dX2_tell_117 (lv_at hl 0 rfl) ?_
                                            refine lv_iadd hx hb dX2_tell_119 ?_
                                            refine lv_topi (fun f_69 ef_69 => ?_)
                                            obtain rfl : f_69 = nI ((j9) * 16 + 12) := ef_69.trans (nI_add ((j9) * 16) 12)
                                            refine lv_iconst (v := (-1)) hx hb dX2_tell_120 (by decide +kernel) ?_
                                            refine va_iast hx hb hK hP hD hS 7 1 rfl rfl (vp_in_nI (by omega) (by decide +kernel)) dX2_tell_121 (fun H locs hP hD hS => ?_)
                                            have hP : va_P (dC, dI) zz_cl [(h0, .inr (1, [.ref m_room, .ref m_keys, .ref m_known, .ref m_kind, .ref m_keySize, .ref m_valueSize, .ref m_most, .ref m_filled, .ref m_list, .ref m_recordSize, .ref m_state, .ref m_held, .int 0])), (m_known, .inl (cZ, 8, .inl g_12)), (m_kind, .inl (cI, 8, .inl g_13)), (m_keySize, .inl (cI, 8, .inl g_14)), (m_valueSize, .inl (cI, 8, .inl g_15)), (m_most, .inl (cI, 8, .inl g_16)), (m_filled, .inl (cI, 8, .inl g_18)), (m_list, .inl (cI, 128, .inl (upd g_66 (nI ((j9) * 16 + 12)).toNatClampNeg ((-1) : Int32))))] H := hP
                                            have hD : va_D A [(h0, .inr (1, [.ref m_room, .ref m_keys, .ref m_known, .ref m_kind, .ref m_keySize, .ref m_valueSize, .ref m_most, .ref m_filled, .ref m_list, .ref m_recordSize, .ref m_state, .ref m_held, .int 0])), (m_known, .inl (cZ, 8, .inl g_12)), (m_kind, .inl (cI, 8, .inl g_13)), (m_keySize, .inl (cI, 8, .inl g_14)), (m_valueSize, .inl (cI, 8, .inl g_15)), (m_most, .inl (cI, 8, .inl g_16)), (m_filled, .inl (cI, 8, .inl g_18)), (m_list, .inl (cI, 128, .inl (upd g_66 (nI ((j9) * 16 + 12)).toNatClampNeg ((-1) : Int32))))] := hD
                                            generalize upd g_66 (nI ((j9) * 16 + 12)).toNatClampNeg ((-1) : Int32) = g_70 at hP hD
                                            refine lv_iinc (v := 13) (lv' := [(6, .int 13), (0, .ref h0), (1, .int (nI j9)), (2, .int p1), (3, .int p2), (4, .int p3), (5, .int p4)]) hx hb dX2_tell_122 hl (k := 0) rfl (by decide +kernel) (by decide +kernel) rfl (fun ls hl => ?_)
                                            refine lv_goto (tgt := 102) hx hb dX2_tell_125 (by decide +kernel) ?_
                                            refine lv_iload hx hb dX2_tell_102 (lv_at hl 0 rfl) ?_
                                            refine lv_bipush (v := 16) hx hb dX2_tell_104 (by decide +kernel) ?_
                                            refine lv_icmp_ge (tgt := 128) hx hb dX2_tell_106 (by decide +kernel) (fun c_71 => ?_) (fun c_71 => ?_)
                                            · exact absurd c_71 (by decide +kernel)
                                            · refine lv_aload_n hx hb dX2_tell_109 rfl (lv_at hl 1 rfl) ?_
                                              refine va_get (D := (dC, dI)) (ci := 1) (v := .ref m_list) (C := RX2) (T := TX2) (N := 13) hx hb hts zz_in_zm_tell_X2 hown hK hP 0 rfl rfl 8 (by decide +kernel) (hts (.fieldLink RX2 38 "FilterHouse$Maps" "list" "[I") (List.mem_of_getElem? (i := 11) rfl)) (fun _ h9 => h9) rfl dX2_tell_110 ?_
                                              refine lv_iload_n hx hb dX2_tell_113 rfl (lv_at hl 2 rfl) ?_
                                              refine lv_bipush (v := 16) hx hb dX2_tell_114 (by decide +kernel) ?_
                                              refine lv_imul hx hb dX2_tell_116 ?_
                                              refine lv_topi (fun f_72 ef_72 => ?_)
                                              obtain rfl : f_72 = nI ((j9) * 16) := ef_72.trans (pk_mul (j9) 16)
                                              refine lv_iload hx hb dX2_tell_117 (lv_at hl 0 rfl) ?_
                                              refine lv_iadd hx hb dX2_tell_119 ?_
                                              refine lv_topi (fun f_73 ef_73 => ?_)
                                              obtain rfl : f_73 = nI ((j9) * 16 + 13) := ef_73.trans (nI_add ((j9) * 16) 13)
                                              refine lv_iconst (v := (-1)) hx hb dX2_tell_120 (by decide +kernel) ?_
                                              refine va_iast hx hb hK hP hD hS 7 1 rfl rfl (vp_in_nI (by omega) (by decide +kernel)) dX2_tell_121 (fun H locs hP hD hS => ?_)
                                              have hP : va_P (dC, dI) zz_cl [(h0, .inr (1, [.ref m_room, .ref m_keys, .ref m_known, .ref m_kind, .ref m_keySize, .ref m_valueSize, .ref m_most, .ref m_filled, .ref m_list, .ref m_recordSize, .ref m_state, .ref m_held, .int 0])), (m_known, .inl (cZ, 8, .inl g_12)), (m_kind, .inl (cI, 8, .inl g_13)), (m_keySize, .inl (cI, 8, .inl g_14)), (m_valueSize, .inl (cI, 8, .inl g_15)), (m_most, .inl (cI, 8, .inl g_16)), (m_filled, .inl (cI, 8, .inl g_18)), (m_list, .inl (cI, 128, .inl (upd g_70 (nI ((j9) * 16 + 13)).toNatClampNeg ((-1) : Int32))))] H := hP
                                              have hD : va_D A [(h0, .inr (1, [.ref m_room, .ref m_keys, .ref m_known, .ref m_kind, .ref m_keySize, .ref m_valueSize, .ref m_most, .ref m_filled, .ref m_list, .ref m_recordSize, .ref m_state, .ref m_held, .int 0])), (m_known, .inl (cZ, 8, .inl g_12)), (m_kind, .inl (cI, 8, .inl g_13)), (m_keySize, .inl (cI, 8, .inl g_14)), (m_valueSize, .inl (cI, 8, .inl g_15)), (m_most, .inl (cI, 8, .inl g_16)), (m_filled, .inl (cI, 8, .inl g_18)), (m_list, .inl (cI, 128, .inl (upd g_70 (nI ((j9) * 16 + 13)).toNatClampNeg ((-1) : Int32))))] := hD
                                              generalize upd g_70 (nI ((j9) * 16 + 13)).toNatClampNeg ((-1) : Int32) = g_74 at hP hD
                                              refine lv_iinc (v := 14) (lv' := [(6, .int 14), (0, .ref h0), (1, .int (nI j9)), (2, .int p1), (3, .int p2), (4, .int p3), (5, .int p4)]) hx hb dX2_tell_122 hl (k := 0) rfl (by decide +kernel) (by decide +kernel) rfl (fun ls hl => ?_)
                                              refine lv_goto (tgt := 102) hx hb dX2_tell_125 (by decide +kernel) ?_
                                              refine lv_iload hx hb dX2_tell_102 (lv_at hl 0 rfl) ?_
                                              refine lv_bipush (v := 16) hx hb dX2_tell_104 (by decide +kernel) ?_
                                              refine lv_icmp_ge (tgt := 128) hx hb dX2_tell_106 (by decide +kernel) (fun c_75 => ?_) (fun c_75 => ?_)
                                              · exact absurd c_75 (by decide +kernel)
                                              · refine lv_aload_n hx hb dX2_tell_109 rfl (lv_at hl 1 rfl) ?_
                                                refine va_get (D := (dC, dI)) (ci := 1) (v := .ref m_list) (C := RX2) (T := TX2) (N := 13) hx hb hts zz_in_zm_tell_X2 hown hK hP 0 rfl rfl 8 (by decide +kernel) (hts (.fieldLink RX2 38 "FilterHouse$Maps" "list" "[I") (List.mem_of_getElem? (i := 11) rfl)) (fun _ h9 => h9) rfl dX2_tell_110 ?_
                                                refine lv_iload_n hx hb dX2_tell_113 rfl (lv_at hl 2 rfl) ?_
                                                refine lv_bipush (v := 16) hx hb dX2_tell_114 (by decide +kernel) ?_
                                                refine lv_imul hx hb dX2_tell_116 ?_
                                                refine lv_topi (fun f_76 ef_76 => ?_)
                                                obtain rfl : f_76 = nI ((j9) * 16) := ef_76.trans (pk_mul (j9) 16)
                                                refine lv_iload hx hb dX2_tell_117 (lv_at hl 0 rfl) ?_
                                                refine lv_iadd hx hb dX2_tell_119 ?_
                                                refine lv_topi (fun f_77 ef_77 => ?_)
                                                obtain rfl : f_77 = nI ((j9) * 16 + 14) := ef_77.trans (nI_add ((j9) * 16) 14)
                                                refine lv_iconst (v := (-1)) hx hb dX2_tell_120 (by decide +kernel) ?_
                                                refine va_iast hx hb hK hP hD hS 7 1 rfl rfl (vp_in_nI (by omega) (by decide +kernel)) dX2_tell_121 (fun H locs hP hD hS => ?_)
                                                have hP : va_P (dC, dI) zz_cl [(h0, .inr (1, [.ref m_room, .ref m_keys, .ref m_known, .ref m_kind, .ref m_keySize, .ref m_valueSize, .ref m_most, .ref m_filled, .ref m_list, .ref m_recordSize, .ref m_state, .ref m_held, .int 0])), (m_known, .inl (cZ, 8, .inl g_12)), (m_kind, .inl (cI, 8, .inl g_13)), (m_keySize, .inl (cI, 8, .inl g_14)), (m_valueSize, .inl (cI, 8, .inl g_15)), (m_most, .inl (cI, 8, .inl g_16)), (m_filled, .inl (cI, 8, .inl g_18)), (m_list, .inl (cI, 128, .inl (upd g_74 (nI ((j9) * 16 + 14)).toNatClampNeg ((-1) : Int32))))] H := hP
                                                have hD : va_D A [(h0, .inr (1, [.ref m_room, .ref m_keys, .ref m_known, .ref m_kind, .ref m_keySize, .ref m_valueSize, .ref m_most, .ref m_filled, .ref m_list, .ref m_recordSize, .ref m_state, .ref m_held, .int 0])), (m_known, .inl (cZ, 8, .inl g_12)), (m_kind, .inl (cI, 8, .inl g_13)), (m_keySize, .inl (cI, 8, .inl g_14)), (m_valueSize, .inl (cI, 8, .inl g_15)), (m_most, .inl (cI, 8, .inl g_16)), (m_filled, .inl (cI, 8, .inl g_18)), (m_list, .inl (cI, 128, .inl (upd g_74 (nI ((j9) * 16 + 14)).toNatClampNeg ((-1) : Int32))))] := hD
                                                generalize upd g_74 (nI ((j9) * 16 + 14)).toNatClampNeg ((-1) : Int32) = g_78 at hP hD
                                                refine lv_iinc (v := 15) (lv' := [(6, .int 15), (0, .ref h0), (1, .int (nI j9)), (2, .int p1), (3, .int p2), (4, .int p3), (5, .int p4)]) hx hb dX2_tell_122 hl (k := 0) rfl (by decide +kernel) (by decide +kernel) rfl (fun ls hl => ?_)
                                                refine lv_goto (tgt := 102) hx hb dX2_tell_125 (by decide +kernel) ?_
                                                refine lv_iload hx hb dX2_tell_102 (lv_at hl 0 rfl) ?_
                                                refine lv_bipush (v := 16) hx hb dX2_tell_104 (by decide +kernel) ?_
                                                refine lv_icmp_ge (tgt := 128) hx hb dX2_tell_106 (by decide +kernel) (fun c_79 => ?_) (fun c_79 => ?_)
                                                · exact absurd c_79 (by decide +kernel)
                                                · refine lv_aload_n hx hb dX2_tell_109 rfl (lv_at hl 1 rfl) ?_
                                                  refine va_get (D := (dC, dI)) (ci := 1) (v := .ref m_list) (C := RX2) (T := TX2) (N := 13) hx hb hts zz_in_zm_tell_X2 hown hK hP 0 rfl rfl 8 (by decide +kernel) (hts (.fieldLink RX2 38 "FilterHouse$Maps" "list" "[I") (List.mem_of_getElem? (i := 11) rfl)) (fun _ h9 => h9) rfl dX2_tell_110 ?_
                                                  refine lv_iload_n hx hb dX2_tell_113 rfl (lv_at hl 2 rfl) ?_
                                                  refine lv_bipush (v := 16) hx hb dX2_tell_114 (by decide +kernel) ?_
                                                  refine lv_imul hx hb dX2_tell_116 ?_
                                                  refine lv_topi (fun f_80 ef_80 => ?_)
                                                  obtain rfl : f_80 = nI ((j9) * 16) := ef_80.trans (pk_mul (j9) 16)
                                                  refine lv_iload hx hb dX2_tell_117 (lv_at hl 0 rfl) ?_
                                                  refine lv_iadd hx hb dX2_tell_119 ?_
                                                  refine lv_topi (fun f_81 ef_81 => ?_)
                                                  obtain rfl : f_81 = nI ((j9) * 16 + 15) := ef_81.trans (nI_add ((j9) * 16) 15)
                                                  refine lv_iconst (v := (-1)) hx hb dX2_tell_120 (by decide +kernel) ?_
                                                  refine va_iast hx hb hK hP hD hS 7 1 rfl rfl (vp_in_nI (by omega) (by decide +kernel)) dX2_tell_121 (fun H locs hP hD hS => ?_)
                                                  have hP : va_P (dC, dI) zz_cl [(h0, .inr (1, [.ref m_room, .ref m_keys, .ref m_known, .ref m_kind, .ref m_keySize, .ref m_valueSize, .ref m_most, .ref m_filled, .ref m_list, .ref m_recordSize, .ref m_state, .ref m_held, .int 0])), (m_known, .inl (cZ, 8, .inl g_12)), (m_kind, .inl (cI, 8, .inl g_13)), (m_keySize, .inl (cI, 8, .inl g_14)), (m_valueSize, .inl (cI, 8, .inl g_15)), (m_most, .inl (cI, 8, .inl g_16)), (m_filled, .inl (cI, 8, .inl g_18)), (m_list, .inl (cI, 128, .inl (upd g_78 (nI ((j9) * 16 + 15)).toNatClampNeg ((-1) : Int32))))] H := hP
                                                  have hD : va_D A [(h0, .inr (1, [.ref m_room, .ref m_keys, .ref m_known, .ref m_kind, .ref m_keySize, .ref m_valueSize, .ref m_most, .ref m_filled, .ref m_list, .ref m_recordSize, .ref m_state, .ref m_held, .int 0])), (m_known, .inl (cZ, 8, .inl g_12)), (m_kind, .inl (cI, 8, .inl g_13)), (m_keySize, .inl (cI, 8, .inl g_14)), (m_valueSize, .inl (cI, 8, .inl g_15)), (m_most, .inl (cI, 8, .inl g_16)), (m_filled, .inl (cI, 8, .inl g_18)), (m_list, .inl (cI, 128, .inl (upd g_78 (nI ((j9) * 16 + 15)).toNatClampNeg ((-1) : Int32))))] := hD
                                                  generalize upd g_78 (nI ((j9) * 16 + 15)).toNatClampNeg ((-1) : Int32) = g_82 at hP hD
                                                  refine lv_iinc (v := 16) (lv' := [(6, .int 16), (0, .ref h0), (1, .int (nI j9)), (2, .int p1), (3, .int p2), (4, .int p3), (5, .int p4)]) hx hb dX2_tell_122 hl (k := 0) rfl (by decide +kernel) (by decide +kernel) rfl (fun ls hl => ?_)
                                                  refine lv_goto (tgt := 102) hx hb dX2_tell_125 (by decide +kernel) ?_
                                                  refine lv_iload hx hb dX2_tell_102 (lv_at hl 0 rfl) ?_
                                                  refine lv_bipush (v := 16) hx hb dX2_tell_104 (by decide +kernel) ?_
                                                  refine lv_icmp_ge (tgt := 128) hx hb dX2_tell_106 (by decide +kernel) (fun c_83 => ?_) (fun c_83 => ?_)
                                                  · refine lv_iconst (v := 1) hx hb dX2_tell_128 (by decide +kernel) ?_
                                                    exact W.zret (v := 1) (ty := .boolean) hx hb hr rfl (fun t ht hW => ⟨⟨1, (), rfl, Or.inl ⟨rfl, by have qc_1 := mt (fa_lt _ _).mpr c_1; have qc_2 := mt (fa_le _ _).mpr c_2; have qc_4 := (fa_eq _ _).mp c_4; have qc_5 := mt (fa_lt _ _).mpr c_5; have qc_6 := (fa_le _ _).mp c_6; have qc_11 := mt (fa_eq _ _).mpr c_11; have qc_17 := mt (fa_eq _ _).mpr c_17; have qc_19 := mt (fa_le _ _).mpr c_19; have qc_23 := mt (fa_le _ _).mpr c_23; have qc_27 := mt (fa_le _ _).mpr c_27; have qc_31 := mt (fa_le _ _).mpr c_31; have qc_35 := mt (fa_le _ _).mpr c_35; have qc_39 := mt (fa_le _ _).mpr c_39; have qc_43 := mt (fa_le _ _).mpr c_43; have qc_47 := mt (fa_le _ _).mpr c_47; have qc_51 := mt (fa_le _ _).mpr c_51; have qc_55 := mt (fa_le _ _).mpr c_55; have qc_59 := mt (fa_le _ _).mpr c_59; have qc_63 := mt (fa_le _ _).mpr c_63; have qc_67 := mt (fa_le _ _).mpr c_67; have qc_71 := mt (fa_le _ _).mpr c_71; have qc_75 := mt (fa_le _ _).mpr c_75; have qc_79 := mt (fa_le _ _).mpr c_79; have qc_83 := (fa_le _ _).mp c_83; have k0 : (0 : Int32).toInt = 0 := rfl; have k1 : (1 : Int32).toInt = 1 := rfl; have k2 : (2 : Int32).toInt = 2 := rfl; have k3 : (3 : Int32).toInt = 3 := rfl; have k4 : (4 : Int32).toInt = 4 := rfl; have k5 : (5 : Int32).toInt = 5 := rfl; have k6 : (6 : Int32).toInt = 6 := rfl; have k7 : (7 : Int32).toInt = 7 := rfl; have k8 : (8 : Int32).toInt = 8 := rfl; have k9 : (9 : Int32).toInt = 9 := rfl; have k10 : (10 : Int32).toInt = 10 := rfl; have k11 : (11 : Int32).toInt = 11 := rfl; have k12 : (12 : Int32).toInt = 12 := rfl; have k13 : (13 : Int32).toInt = 13 := rfl; have k14 : (14 : Int32).toInt = 14 := rfl; have k15 : (15 : Int32).toInt = 15 := rfl; have k16 : (16 : Int32).toInt = 16 := rfl; omega⟩, trivial⟩, hS.F ht⟩) hS.2.2 dX2_tell_129
                                                  · exact absurd c_83 (by decide +kernel)
                · refine lv_iload hx hb dX2_tell_92 (lv_at hl 5 rfl) ?_
                  refine lv_goto (tgt := 98) hx hb dX2_tell_94 (by decide +kernel) ?_
                  refine va_iast hx hb hK hP hD hS 6 1 rfl rfl (vp_in_nI (by omega) (by decide +kernel)) dX2_tell_98 (fun H locs hP hD hS => ?_)
                  have hP : va_P (dC, dI) zz_cl [(h0, .inr (1, [.ref m_room, .ref m_keys, .ref m_known, .ref m_kind, .ref m_keySize, .ref m_valueSize, .ref m_most, .ref m_filled, .ref m_list, .ref m_recordSize, .ref m_state, .ref m_held, .int 0])), (m_known, .inl (cZ, 8, .inl g_12)), (m_kind, .inl (cI, 8, .inl g_13)), (m_keySize, .inl (cI, 8, .inl g_14)), (m_valueSize, .inl (cI, 8, .inl g_15)), (m_most, .inl (cI, 8, .inl g_16)), (m_filled, .inl (cI, 8, .inl (upd (fun _ => 0) (nI j9).toNatClampNeg p4))), (m_list, .inl (cI, 128, .inl (fun _ => 0)))] H := hP
                  have hD : va_D A [(h0, .inr (1, [.ref m_room, .ref m_keys, .ref m_known, .ref m_kind, .ref m_keySize, .ref m_valueSize, .ref m_most, .ref m_filled, .ref m_list, .ref m_recordSize, .ref m_state, .ref m_held, .int 0])), (m_known, .inl (cZ, 8, .inl g_12)), (m_kind, .inl (cI, 8, .inl g_13)), (m_keySize, .inl (cI, 8, .inl g_14)), (m_valueSize, .inl (cI, 8, .inl g_15)), (m_most, .inl (cI, 8, .inl g_16)), (m_filled, .inl (cI, 8, .inl (upd (fun _ => 0) (nI j9).toNatClampNeg p4))), (m_list, .inl (cI, 128, .inl (fun _ => 0)))] := hD
                  generalize upd (fun _ => 0) (nI j9).toNatClampNeg p4 = g_84 at hP hD
                  refine lv_iconst (v := 0) hx hb dX2_tell_99 (by decide +kernel) ?_
                  refine lv_istore (lv' := [(6, .int 0), (0, .ref h0), (1, .int (nI j9)), (2, .int p1), (3, .int p2), (4, .int p3), (5, .int p4)]) hx hb dX2_tell_100 hl (by decide +kernel) rfl (fun ls hl => ?_)
                  refine lv_iload hx hb dX2_tell_102 (lv_at hl 0 rfl) ?_
                  refine lv_bipush (v := 16) hx hb dX2_tell_104 (by decide +kernel) ?_
                  refine lv_icmp_ge (tgt := 128) hx hb dX2_tell_106 (by decide +kernel) (fun c_85 => ?_) (fun c_85 => ?_)
                  · exact absurd c_85 (by decide +kernel)
                  · refine lv_aload_n hx hb dX2_tell_109 rfl (lv_at hl 1 rfl) ?_
                    refine va_get (D := (dC, dI)) (ci := 1) (v := .ref m_list) (C := RX2) (T := TX2) (N := 13) hx hb hts zz_in_zm_tell_X2 hown hK hP 0 rfl rfl 8 (by decide +kernel) (hts (.fieldLink RX2 38 "FilterHouse$Maps" "list" "[I") (List.mem_of_getElem? (i := 11) rfl)) (fun _ h9 => h9) rfl dX2_tell_110 ?_
                    refine lv_iload_n hx hb dX2_tell_113 rfl (lv_at hl 2 rfl) ?_
                    refine lv_bipush (v := 16) hx hb dX2_tell_114 (by decide +kernel) ?_
                    refine lv_imul hx hb dX2_tell_116 ?_
                    refine lv_topi (fun f_86 ef_86 => ?_)
                    obtain rfl : f_86 = nI ((j9) * 16) := ef_86.trans (pk_mul (j9) 16)
                    refine lv_iload hx hb dX2_tell_117 (lv_at hl 0 rfl) ?_
                    refine lv_iadd hx hb dX2_tell_119 ?_
                    refine lv_topi (fun f_87 ef_87 => ?_)
                    obtain rfl : f_87 = nI ((j9) * 16 + 0) := ef_87.trans (nI_add ((j9) * 16) 0)
                    refine lv_iconst (v := (-1)) hx hb dX2_tell_120 (by decide +kernel) ?_
                    refine va_iast hx hb hK hP hD hS 7 1 rfl rfl (vp_in_nI (by omega) (by decide +kernel)) dX2_tell_121 (fun H locs hP hD hS => ?_)
                    have hP : va_P (dC, dI) zz_cl [(h0, .inr (1, [.ref m_room, .ref m_keys, .ref m_known, .ref m_kind, .ref m_keySize, .ref m_valueSize, .ref m_most, .ref m_filled, .ref m_list, .ref m_recordSize, .ref m_state, .ref m_held, .int 0])), (m_known, .inl (cZ, 8, .inl g_12)), (m_kind, .inl (cI, 8, .inl g_13)), (m_keySize, .inl (cI, 8, .inl g_14)), (m_valueSize, .inl (cI, 8, .inl g_15)), (m_most, .inl (cI, 8, .inl g_16)), (m_filled, .inl (cI, 8, .inl g_84)), (m_list, .inl (cI, 128, .inl (upd (fun _ => 0) (nI ((j9) * 16 + 0)).toNatClampNeg ((-1) : Int32))))] H := hP
                    have hD : va_D A [(h0, .inr (1, [.ref m_room, .ref m_keys, .ref m_known, .ref m_kind, .ref m_keySize, .ref m_valueSize, .ref m_most, .ref m_filled, .ref m_list, .ref m_recordSize, .ref m_state, .ref m_held, .int 0])), (m_known, .inl (cZ, 8, .inl g_12)), (m_kind, .inl (cI, 8, .inl g_13)), (m_keySize, .inl (cI, 8, .inl g_14)), (m_valueSize, .inl (cI, 8, .inl g_15)), (m_most, .inl (cI, 8, .inl g_16)), (m_filled, .inl (cI, 8, .inl g_84)), (m_list, .inl (cI, 128, .inl (upd (fun _ => 0) (nI ((j9) * 16 + 0)).toNatClampNeg ((-1) : Int32))))] := hD
                    generalize upd (fun _ => 0) (nI ((j9) * 16 + 0)).toNatClampNeg ((-1) : Int32) = g_88 at hP hD
                    refine lv_iinc (v := 1) (lv' := [(6, .int 1), (0, .ref h0), (1, .int (nI j9)), (2, .int p1), (3, .int p2), (4, .int p3), (5, .int p4)]) hx hb dX2_tell_122 hl (k := 0) rfl (by decide +kernel) (by decide +kernel) rfl (fun ls hl => ?_)
                    refine lv_goto (tgt := 102) hx hb dX2_tell_125 (by decide +kernel) ?_
                    refine lv_iload hx hb dX2_tell_102 (lv_at hl 0 rfl) ?_
                    refine lv_bipush (v := 16) hx hb dX2_tell_104 (by decide +kernel) ?_
                    refine lv_icmp_ge (tgt := 128) hx hb dX2_tell_106 (by decide +kernel) (fun c_89 => ?_) (fun c_89 => ?_)
                    · exact absurd c_89 (by decide +kernel)
                    · refine lv_aload_n hx hb dX2_tell_109 rfl (lv_at hl 1 rfl) ?_
                      refine va_get (D := (dC, dI)) (ci := 1) (v := .ref m_list) (C := RX2) (T := TX2) (N := 13) hx hb hts zz_in_zm_tell_X2 hown hK hP 0 rfl rfl 8 (by decide +kernel) (hts (.fieldLink RX2 38 "FilterHouse$Maps" "list" "[I") (List.mem_of_getElem? (i := 11) rfl)) (fun _ h9 => h9) rfl dX2_tell_110 ?_
                      refine lv_iload_n hx hb dX2_tell_113 rfl (lv_at hl 2 rfl) ?_
                      refine lv_bipush (v := 16) hx hb dX2_tell_114 (by decide +kernel) ?_
                      refine lv_imul hx hb dX2_tell_116 ?_
                      refine lv_topi (fun f_90 ef_90 => ?_)
                      obtain rfl : f_90 = nI ((j9) * 16) := ef_90.trans (pk_mul (j9) 16)
                      refine lv_iload hx hb dX2_tell_117 (lv_at hl 0 rfl) ?_
                      refine lv_iadd hx hb dX2_tell_119 ?_
                      refine lv_topi (fun f_91 ef_91 => ?_)
                      obtain rfl : f_91 = nI ((j9) * 16 + 1) := ef_91.trans (nI_add ((j9) * 16) 1)
                      refine lv_iconst (v := (-1)) hx hb dX2_tell_120 (by decide +kernel) ?_
                      refine va_iast hx hb hK hP hD hS 7 1 rfl rfl (vp_in_nI (by omega) (by decide +kernel)) dX2_tell_121 (fun H locs hP hD hS => ?_)
                      have hP : va_P (dC, dI) zz_cl [(h0, .inr (1, [.ref m_room, .ref m_keys, .ref m_known, .ref m_kind, .ref m_keySize, .ref m_valueSize, .ref m_most, .ref m_filled, .ref m_list, .ref m_recordSize, .ref m_state, .ref m_held, .int 0])), (m_known, .inl (cZ, 8, .inl g_12)), (m_kind, .inl (cI, 8, .inl g_13)), (m_keySize, .inl (cI, 8, .inl g_14)), (m_valueSize, .inl (cI, 8, .inl g_15)), (m_most, .inl (cI, 8, .inl g_16)), (m_filled, .inl (cI, 8, .inl g_84)), (m_list, .inl (cI, 128, .inl (upd g_88 (nI ((j9) * 16 + 1)).toNatClampNeg ((-1) : Int32))))] H := hP
                      have hD : va_D A [(h0, .inr (1, [.ref m_room, .ref m_keys, .ref m_known, .ref m_kind, .ref m_keySize, .ref m_valueSize, .ref m_most, .ref m_filled, .ref m_list, .ref m_recordSize, .ref m_state, .ref m_held, .int 0])), (m_known, .inl (cZ, 8, .inl g_12)), (m_kind, .inl (cI, 8, .inl g_13)), (m_keySize, .inl (cI, 8, .inl g_14)), (m_valueSize, .inl (cI, 8, .inl g_15)), (m_most, .inl (cI, 8, .inl g_16)), (m_filled, .inl (cI, 8, .inl g_84)), (m_list, .inl (cI, 128, .inl (upd g_88 (nI ((j9) * 16 + 1)).toNatClampNeg ((-1) : Int32))))] := hD
                      generalize upd g_88 (nI ((j9) * 16 + 1)).toNatClampNeg ((-1) : Int32) = g_92 at hP hD
                      refine lv_iinc (v := 2) (lv' := [(6, .int 2), (0, .ref h0), (1, .int (nI j9)), (2, .int p1), (3, .int p2), (4, .int p3), (5, .int p4)]) hx hb dX2_tell_122 hl (k := 0) rfl (by decide +kernel) (by decide +kernel) rfl (fun ls hl => ?_)
                      refine lv_goto (tgt := 102) hx hb dX2_tell_125 (by decide +kernel) ?_
                      refine lv_iload hx hb dX2_tell_102 (lv_at hl 0 rfl) ?_
                      refine lv_bipush (v := 16) hx hb dX2_tell_104 (by decide +kernel) ?_
                      refine lv_icmp_ge (tgt := 128) hx hb dX2_tell_106 (by decide +kernel) (fun c_93 => ?_) (fun c_93 => ?_)
                      · exact absurd c_93 (by decide +kernel)
                      · refine lv_aload_n hx hb dX2_tell_109 rfl (lv_at hl 1 rfl) ?_
                        refine va_get (D := (dC, dI)) (ci := 1) (v := .ref m_list) (C := RX2) (T := TX2) (N := 13) hx hb hts zz_in_zm_tell_X2 hown hK hP 0 rfl rfl 8 (by decide +kernel) (hts (.fieldLink RX2 38 "FilterHouse$Maps" "list" "[I") (List.mem_of_getElem? (i := 11) rfl)) (fun _ h9 => h9) rfl dX2_tell_110 ?_
                        refine lv_iload_n hx hb dX2_tell_113 rfl (lv_at hl 2 rfl) ?_
                        refine lv_bipush (v := 16) hx hb dX2_tell_114 (by decide +kernel) ?_
                        refine lv_imul hx hb dX2_tell_116 ?_
                        refine lv_topi (fun f_94 ef_94 => ?_)
                        obtain rfl : f_94 = nI ((j9) * 16) := ef_94.trans (pk_mul (j9) 16)
                        refine lv_iload hx hb dX2_tell_117 (lv_at hl 0 rfl) ?_
                        refine lv_iadd hx hb dX2_tell_119 ?_
                        refine lv_topi (fun f_95 ef_95 => ?_)
                        obtain rfl : f_95 = nI ((j9) * 16 + 2) := ef_95.trans (nI_add ((j9) * 16) 2)
                        refine lv_iconst (v := (-1)) hx hb dX2_tell_120 (by decide +kernel) ?_
                        refine va_iast hx hb hK hP hD hS 7 1 rfl rfl (vp_in_nI (by omega) (by decide +kernel)) dX2_tell_121 (fun H locs hP hD hS => ?_)
                        have hP : va_P (dC, dI) zz_cl [(h0, .inr (1, [.ref m_room, .ref m_keys, .ref m_known, .ref m_kind, .ref m_keySize, .ref m_valueSize, .ref m_most, .ref m_filled, .ref m_list, .ref m_recordSize, .ref m_state, .ref m_held, .int 0])), (m_known, .inl (cZ, 8, .inl g_12)), (m_kind, .inl (cI, 8, .inl g_13)), (m_keySize, .inl (cI, 8, .inl g_14)), (m_valueSize, .inl (cI, 8, .inl g_15)), (m_most, .inl (cI, 8, .inl g_16)), (m_filled, .inl (cI, 8, .inl g_84)), (m_list, .inl (cI, 128, .inl (upd g_92 (nI ((j9) * 16 + 2)).toNatClampNeg ((-1) : Int32))))] H := hP
                        have hD : va_D A [(h0, .inr (1, [.ref m_room, .ref m_keys, .ref m_known, .ref m_kind, .ref m_keySize, .ref m_valueSize, .ref m_most, .ref m_filled, .ref m_list, .ref m_recordSize, .ref m_state, .ref m_held, .int 0])), (m_known, .inl (cZ, 8, .inl g_12)), (m_kind, .inl (cI, 8, .inl g_13)), (m_keySize, .inl (cI, 8, .inl g_14)), (m_valueSize, .inl (cI, 8, .inl g_15)), (m_most, .inl (cI, 8, .inl g_16)), (m_filled, .inl (cI, 8, .inl g_84)), (m_list, .inl (cI, 128, .inl (upd g_92 (nI ((j9) * 16 + 2)).toNatClampNeg ((-1) : Int32))))] := hD
                        generalize upd g_92 (nI ((j9) * 16 + 2)).toNatClampNeg ((-1) : Int32) = g_96 at hP hD
                        refine lv_iinc (v := 3) (lv' := [(6, .int 3), (0, .ref h0), (1, .int (nI j9)), (2, .int p1), (3, .int p2), (4, .int p3), (5, .int p4)]) hx hb dX2_tell_122 hl (k := 0) rfl (by decide +kernel) (by decide +kernel) rfl (fun ls hl => ?_)
                        refine lv_goto (tgt := 102) hx hb dX2_tell_125 (by decide +kernel) ?_
                        refine lv_iload hx hb dX2_tell_102 (lv_at hl 0 rfl) ?_
                        refine lv_bipush (v := 16) hx hb dX2_tell_104 (by decide +kernel) ?_
                        refine lv_icmp_ge (tgt := 128) hx hb dX2_tell_106 (by decide +kernel) (fun c_97 => ?_) (fun c_97 => ?_)
                        · exact absurd c_97 (by decide +kernel)
                        · refine lv_aload_n hx hb dX2_tell_109 rfl (lv_at hl 1 rfl) ?_
                          refine va_get (D := (dC, dI)) (ci := 1) (v := .ref m_list) (C := RX2) (T := TX2) (N := 13) hx hb hts zz_in_zm_tell_X2 hown hK hP 0 rfl rfl 8 (by decide +kernel) (hts (.fieldLink RX2 38 "FilterHouse$Maps" "list" "[I") (List.mem_of_getElem? (i := 11) rfl)) (fun _ h9 => h9) rfl dX2_tell_110 ?_
                          refine lv_iload_n hx hb dX2_tell_113 rfl (lv_at hl 2 rfl) ?_
                          refine lv_bipush (v := 16) hx hb dX2_tell_114 (by decide +kernel) ?_
                          refine lv_imul hx hb dX2_tell_116 ?_
                          refine lv_topi (fun f_98 ef_98 => ?_)
                          obtain rfl : f_98 = nI ((j9) * 16) := ef_98.trans (pk_mul (j9) 16)
                          refine lv_iload hx hb dX2_tell_117 (lv_at hl 0 rfl) ?_
                          refine lv_iadd hx hb dX2_tell_119 ?_
                          refine lv_topi (fun f_99 ef_99 => ?_)
                          obtain rfl : f_99 = nI ((j9) * 16 + 3) := ef_99.trans (nI_add ((j9) * 16) 3)
                          refine lv_iconst (v := (-1)) hx hb dX2_tell_120 (by decide +kernel) ?_
                          refine va_iast hx hb hK hP hD hS 7 1 rfl rfl (vp_in_nI (by omega) (by decide +kernel)) dX2_tell_121 (fun H locs hP hD hS => ?_)
                          have hP : va_P (dC, dI) zz_cl [(h0, .inr (1, [.ref m_room, .ref m_keys, .ref m_known, .ref m_kind, .ref m_keySize, .ref m_valueSize, .ref m_most, .ref m_filled, .ref m_list, .ref m_recordSize, .ref m_state, .ref m_held, .int 0])), (m_known, .inl (cZ, 8, .inl g_12)), (m_kind, .inl (cI, 8, .inl g_13)), (m_keySize, .inl (cI, 8, .inl g_14)), (m_valueSize, .inl (cI, 8, .inl g_15)), (m_most, .inl (cI, 8, .inl g_16)), (m_filled, .inl (cI, 8, .inl g_84)), (m_list, .inl (cI, 128, .inl (upd g_96 (nI ((j9) * 16 + 3)).toNatClampNeg ((-1) : Int32))))] H := hP
                          have hD : va_D A [(h0, .inr (1, [.ref m_room, .ref m_keys, .ref m_known, .ref m_kind, .ref m_keySize, .ref m_valueSize, .ref m_most, .ref m_filled, .ref m_list, .ref m_recordSize, .ref m_state, .ref m_held, .int 0])), (m_known, .inl (cZ, 8, .inl g_12)), (m_kind, .inl (cI, 8, .inl g_13)), (m_keySize, .inl (cI, 8, .inl g_14)), (m_valueSize, .inl (cI, 8, .inl g_15)), (m_most, .inl (cI, 8, .inl g_16)), (m_filled, .inl (cI, 8, .inl g_84)), (m_list, .inl (cI, 128, .inl (upd g_96 (nI ((j9) * 16 + 3)).toNatClampNeg ((-1) : Int32))))] := hD
                          generalize upd g_96 (nI ((j9) * 16 + 3)).toNatClampNeg ((-1) : Int32) = g_100 at hP hD
                          refine lv_iinc (v := 4) (lv' := [(6, .int 4), (0, .ref h0), (1, .int (nI j9)), (2, .int p1), (3, .int p2), (4, .int p3), (5, .int p4)]) hx hb dX2_tell_122 hl (k := 0) rfl (by decide +kernel) (by decide +kernel) rfl (fun ls hl => ?_)
                          refine lv_goto (tgt := 102) hx hb dX2_tell_125 (by decide +kernel) ?_
                          refine lv_iload hx hb dX2_tell_102 (lv_at hl 0 rfl) ?_
                          refine lv_bipush (v := 16) hx hb dX2_tell_104 (by decide +kernel) ?_
                          refine lv_icmp_ge (tgt := 128) hx hb dX2_tell_106 (by decide +kernel) (fun c_101 => ?_) (fun c_101 => ?_)
                          · exact absurd c_101 (by decide +kernel)
                          · refine lv_aload_n hx hb dX2_tell_109 rfl (lv_at hl 1 rfl) ?_
                            refine va_get (D := (dC, dI)) (ci := 1) (v := .ref m_list) (C := RX2) (T := TX2) (N := 13) hx hb hts zz_in_zm_tell_X2 hown hK hP 0 rfl rfl 8 (by decide +kernel) (hts (.fieldLink RX2 38 "FilterHouse$Maps" "list" "[I") (List.mem_of_getElem? (i := 11) rfl)) (fun _ h9 => h9) rfl dX2_tell_110 ?_
                            refine lv_iload_n hx hb dX2_tell_113 rfl (lv_at hl 2 rfl) ?_
                            refine lv_bipush (v := 16) hx hb dX2_tell_114 (by decide +kernel) ?_
                            refine lv_imul hx hb dX2_tell_116 ?_
                            refine lv_topi (fun f_102 ef_102 => ?_)
                            obtain rfl : f_102 = nI ((j9) * 16) := ef_102.trans (pk_mul (j9) 16)
                            refine lv_iload hx hb dX2_tell_117 (lv_at hl 0 rfl) ?_
                            refine lv_iadd hx hb dX2_tell_119 ?_
                            refine lv_topi (fun f_103 ef_103 => ?_)
                            obtain rfl : f_103 = nI ((j9) * 16 + 4) := ef_103.trans (nI_add ((j9) * 16) 4)
                            refine lv_iconst (v := (-1)) hx hb dX2_tell_120 (by decide +kernel) ?_
                            refine va_iast hx hb hK hP hD hS 7 1 rfl rfl (vp_in_nI (by omega) (by decide +kernel)) dX2_tell_121 (fun H locs hP hD hS => ?_)
                            have hP : va_P (dC, dI) zz_cl [(h0, .inr (1, [.ref m_room, .ref m_keys, .ref m_known, .ref m_kind, .ref m_keySize, .ref m_valueSize, .ref m_most, .ref m_filled, .ref m_list, .ref m_recordSize, .ref m_state, .ref m_held, .int 0])), (m_known, .inl (cZ, 8, .inl g_12)), (m_kind, .inl (cI, 8, .inl g_13)), (m_keySize, .inl (cI, 8, .inl g_14)), (m_valueSize, .inl (cI, 8, .inl g_15)), (m_most, .inl (cI, 8, .inl g_16)), (m_filled, .inl (cI, 8, .inl g_84)), (m_list, .inl (cI, 128, .inl (upd g_100 (nI ((j9) * 16 + 4)).toNatClampNeg ((-1) : Int32))))] H := hP
                            have hD : va_D A [(h0, .inr (1, [.ref m_room, .ref m_keys, .ref m_known, .ref m_kind, .ref m_keySize, .ref m_valueSize, .ref m_most, .ref m_filled, .ref m_list, .ref m_recordSize, .ref m_state, .ref m_held, .int 0])), (m_known, .inl (cZ, 8, .inl g_12)), (m_kind, .inl (cI, 8, .inl g_13)), (m_keySize, .inl (cI, 8, .inl g_14)), (m_valueSize, .inl (cI, 8, .inl g_15)), (m_most, .inl (cI, 8, .inl g_16)), (m_filled, .inl (cI, 8, .inl g_84)), (m_list, .inl (cI, 128, .inl (upd g_100 (nI ((j9) * 16 + 4)).toNatClampNeg ((-1) : Int32))))] := hD
                            generalize upd g_100 (nI ((j9) * 16 + 4)).toNatClampNeg ((-1) : Int32) = g_104 at hP hD
                            refine lv_iinc (v := 5) (lv' := [(6, .int 5), (0, .ref h0), (1, .int (nI j9)), (2, .int p1), (3, .int p2), (4, .int p3), (5, .int p4)]) hx hb dX2_tell_122 hl (k := 0) rfl (by decide +kernel) (by decide +kernel) rfl (fun ls hl => ?_)
                            refine lv_goto (tgt := 102) hx hb dX2_tell_125 (by decide +kernel) ?_
                            refine lv_iload hx hb dX2_tell_102 (lv_at hl 0 rfl) ?_
                            refine lv_bipush (v := 16) hx hb dX2_tell_104 (by decide +kernel) ?_
                            refine lv_icmp_ge (tgt := 128) hx hb dX2_tell_106 (by decide +kernel) (fun c_105 => ?_) (fun c_105 => ?_)
                            · exact absurd c_105 (by decide +kernel)
                            · refine lv_aload_n hx hb dX2_tell_109 rfl (lv_at hl 1 rfl) ?_
                              refine va_get (D := (dC, dI)) (ci := 1) (v := .ref m_list) (C := RX2) (T := TX2) (N := 13) hx hb hts zz_in_zm_tell_X2 hown hK hP 0 rfl rfl 8 (by decide +kernel) (hts (.fieldLink RX2 38 "FilterHouse$Maps" "list" "[I") (List.mem_of_getElem? (i := 11) rfl)) (fun _ h9 => h9) rfl dX2_tell_110 ?_
                              refine lv_iload_n hx hb dX2_tell_113 rfl (lv_at hl 2 rfl) ?_
                              refine lv_bipush (v := 16) hx hb dX2_tell_114 (by decide +kernel) ?_
                              refine lv_imul hx hb dX2_tell_116 ?_
                              refine lv_topi (fun f_106 ef_106 => ?_)
                              obtain rfl : f_106 = nI ((j9) * 16) := ef_106.trans (pk_mul (j9) 16)
                              refine lv_iload hx hb dX2_tell_117 (lv_at hl 0 rfl) ?_
                              refine lv_iadd hx hb dX2_tell_119 ?_
                              refine lv_topi (fun f_107 ef_107 => ?_)
                              obtain rfl : f_107 = nI ((j9) * 16 + 5) := ef_107.trans (nI_add ((j9) * 16) 5)
                              refine lv_iconst (v := (-1)) hx hb dX2_tell_120 (by decide +kernel) ?_
                              refine va_iast hx hb hK hP hD hS 7 1 rfl rfl (vp_in_nI (by omega) (by decide +kernel)) dX2_tell_121 (fun H locs hP hD hS => ?_)
                              have hP : va_P (dC, dI) zz_cl [(h0, .inr (1, [.ref m_room, .ref m_keys, .ref m_known, .ref m_kind, .ref m_keySize, .ref m_valueSize, .ref m_most, .ref m_filled, .ref m_list, .ref m_recordSize, .ref m_state, .ref m_held, .int 0])), (m_known, .inl (cZ, 8, .inl g_12)), (m_kind, .inl (cI, 8, .inl g_13)), (m_keySize, .inl (cI, 8, .inl g_14)), (m_valueSize, .inl (cI, 8, .inl g_15)), (m_most, .inl (cI, 8, .inl g_16)), (m_filled, .inl (cI, 8, .inl g_84)), (m_list, .inl (cI, 128, .inl (upd g_104 (nI ((j9) * 16 + 5)).toNatClampNeg ((-1) : Int32))))] H := hP
                              have hD : va_D A [(h0, .inr (1, [.ref m_room, .ref m_keys, .ref m_known, .ref m_kind, .ref m_keySize, .ref m_valueSize, .ref m_most, .ref m_filled, .ref m_list, .ref m_recordSize, .ref m_state, .ref m_held, .int 0])), (m_known, .inl (cZ, 8, .inl g_12)), (m_kind, .inl (cI, 8, .inl g_13)), (m_keySize, .inl (cI, 8, .inl g_14)), (m_valueSize, .inl (cI, 8, .inl g_15)), (m_most, .inl (cI, 8, .inl g_16)), (m_filled, .inl (cI, 8, .inl g_84)), (m_list, .inl (cI, 128, .inl (upd g_104 (nI ((j9) * 16 + 5)).toNatClampNeg ((-1) : Int32))))] := hD
                              generalize upd g_104 (nI ((j9) * 16 + 5)).toNatClampNeg ((-1) : Int32) = g_108 at hP hD
                              refine lv_iinc (v := 6) (lv' := [(6, .int 6), (0, .ref h0), (1, .int (nI j9)), (2, .int p1), (3, .int p2), (4, .int p3), (5, .int p4)]) hx hb dX2_tell_122 hl (k := 0) rfl (by decide +kernel) (by decide +kernel) rfl (fun ls hl => ?_)
                              refine lv_goto (tgt := 102) hx hb dX2_tell_125 (by decide +kernel) ?_
                              refine lv_iload hx hb dX2_tell_102 (lv_at hl 0 rfl) ?_
                              refine lv_bipush (v := 16) hx hb dX2_tell_104 (by decide +kernel) ?_
                              refine lv_icmp_ge (tgt := 128) hx hb dX2_tell_106 (by decide +kernel) (fun c_109 => ?_) (fun c_109 => ?_)
                              · exact absurd c_109 (by decide +kernel)
                              · refine lv_aload_n hx hb dX2_tell_109 rfl (lv_at hl 1 rfl) ?_
                                refine va_get (D := (dC, dI)) (ci := 1) (v := .ref m_list) (C := RX2) (T := TX2) (N := 13) hx hb hts zz_in_zm_tell_X2 hown hK hP 0 rfl rfl 8 (by decide +kernel) (hts (.fieldLink RX2 38 "FilterHouse$Maps" "list" "[I") (List.mem_of_getElem? (i := 11) rfl)) (fun _ h9 => h9) rfl dX2_tell_110 ?_
                                refine lv_iload_n hx hb dX2_tell_113 rfl (lv_at hl 2 rfl) ?_
                                refine lv_bipush (v := 16) hx hb dX2_tell_114 (by decide +kernel) ?_
                                refine lv_imul hx hb dX2_tell_116 ?_
                                refine lv_topi (fun f_110 ef_110 => ?_)
                                obtain rfl : f_110 = nI ((j9) * 16) := ef_110.trans (pk_mul (j9) 16)
                                refine lv_iload hx hb dX2_tell_117 (lv_at hl 0 rfl) ?_
                                refine lv_iadd hx hb dX2_tell_119 ?_
                                refine lv_topi (fun f_111 ef_111 => ?_)
                                obtain rfl : f_111 = nI ((j9) * 16 + 6) := ef_111.trans (nI_add ((j9) * 16) 6)
                                refine lv_iconst (v := (-1)) hx hb dX2_tell_120 (by decide +kernel) ?_
                                refine va_iast hx hb hK hP hD hS 7 1 rfl rfl (vp_in_nI (by omega) (by decide +kernel)) dX2_tell_121 (fun H locs hP hD hS => ?_)
                                have hP : va_P (dC, dI) zz_cl [(h0, .inr (1, [.ref m_room, .ref m_keys, .ref m_known, .ref m_kind, .ref m_keySize, .ref m_valueSize, .ref m_most, .ref m_filled, .ref m_list, .ref m_recordSize, .ref m_state, .ref m_held, .int 0])), (m_known, .inl (cZ, 8, .inl g_12)), (m_kind, .inl (cI, 8, .inl g_13)), (m_keySize, .inl (cI, 8, .inl g_14)), (m_valueSize, .inl (cI, 8, .inl g_15)), (m_most, .inl (cI, 8, .inl g_16)), (m_filled, .inl (cI, 8, .inl g_84)), (m_list, .inl (cI, 128, .inl (upd g_108 (nI ((j9) * 16 + 6)).toNatClampNeg ((-1) : Int32))))] H := hP
                                have hD : va_D A [(h0, .inr (1, [.ref m_room, .ref m_keys, .ref m_known, .ref m_kind, .ref m_keySize, .ref m_valueSize, .ref m_most, .ref m_filled, .ref m_list, .ref m_recordSize, .ref m_state, .ref m_held, .int 0])), (m_known, .inl (cZ, 8, .inl g_12)), (m_kind, .inl (cI, 8, .inl g_13)), (m_keySize, .inl (cI, 8, .inl g_14)), (m_valueSize, .inl (cI, 8, .inl g_15)), (m_most, .inl (cI, 8, .inl g_16)), (m_filled, .inl (cI, 8, .inl g_84)), (m_list, .inl (cI, 128, .inl (upd g_108 (nI ((j9) * 16 + 6)).toNatClampNeg ((-1) : Int32))))] := hD
                                generalize upd g_108 (nI ((j9) * 16 + 6)).toNatClampNeg ((-1) : Int32) = g_112 at hP hD
                                refine lv_iinc (v := 7) (lv' := [(6, .int 7), (0, .ref h0), (1, .int (nI j9)), (2, .int p1), (3, .int p2), (4, .int p3), (5, .int p4)]) hx hb dX2_tell_122 hl (k := 0) rfl (by decide +kernel) (by decide +kernel) rfl (fun ls hl => ?_)
                                refine lv_goto (tgt := 102) hx hb dX2_tell_125 (by decide +kernel) ?_
                                refine lv_iload hx hb dX2_tell_102 (lv_at hl 0 rfl) ?_
                                refine lv_bipush (v := 16) hx hb dX2_tell_104 (by decide +kernel) ?_
                                refine lv_icmp_ge (tgt := 128) hx hb dX2_tell_106 (by decide +kernel) (fun c_113 => ?_) (fun c_113 => ?_)
                                · exact absurd c_113 (by decide +kernel)
                                · refine lv_aload_n hx hb dX2_tell_109 rfl (lv_at hl 1 rfl) ?_
                                  refine va_get (D := (dC, dI)) (ci := 1) (v := .ref m_list) (C := RX2) (T := TX2) (N := 13) hx hb hts zz_in_zm_tell_X2 hown hK hP 0 rfl rfl 8 (by decide +kernel) (hts (.fieldLink RX2 38 "FilterHouse$Maps" "list" "[I") (List.mem_of_getElem? (i := 11) rfl)) (fun _ h9 => h9) rfl dX2_tell_110 ?_
                                  refine lv_iload_n hx hb dX2_tell_113 rfl (lv_at hl 2 rfl) ?_
                                  refine lv_bipush (v := 16) hx hb dX2_tell_114 (by decide +kernel) ?_
                                  refine lv_imul hx hb dX2_tell_116 ?_
                                  refine lv_topi (fun f_114 ef_114 => ?_)
                                  obtain rfl : f_114 = nI ((j9) * 16) := ef_114.trans (pk_mul (j9) 16)
                                  refine lv_iload hx hb dX2_tell_117 (lv_at hl 0 rfl) ?_
                                  refine lv_iadd hx hb dX2_tell_119 ?_
                                  refine lv_topi (fun f_115 ef_115 => ?_)
                                  obtain rfl : f_115 = nI ((j9) * 16 + 7) := ef_115.trans (nI_add ((j9) * 16) 7)
                                  refine lv_iconst (v := (-1)) hx hb dX2_tell_120 (by decide +kernel) ?_
                                  refine va_iast hx hb hK hP hD hS 7 1 rfl rfl (vp_in_nI (by omega) (by decide +kernel)) dX2_tell_121 (fun H locs hP hD hS => ?_)
                                  have hP : va_P (dC, dI) zz_cl [(h0, .inr (1, [.ref m_room, .ref m_keys, .ref m_known, .ref m_kind, .ref m_keySize, .ref m_valueSize, .ref m_most, .ref m_filled, .ref m_list, .ref m_recordSize, .ref m_state, .ref m_held, .int 0])), (m_known, .inl (cZ, 8, .inl g_12)), (m_kind, .inl (cI, 8, .inl g_13)), (m_keySize, .inl (cI, 8, .inl g_14)), (m_valueSize, .inl (cI, 8, .inl g_15)), (m_most, .inl (cI, 8, .inl g_16)), (m_filled, .inl (cI, 8, .inl g_84)), (m_list, .inl (cI, 128, .inl (upd g_112 (nI ((j9) * 16 + 7)).toNatClampNeg ((-1) : Int32))))] H := hP
                                  have hD : va_D A [(h0, .inr (1, [.ref m_room, .ref m_keys, .ref m_known, .ref m_kind, .ref m_keySize, .ref m_valueSize, .ref m_most, .ref m_filled, .ref m_list, .ref m_recordSize, .ref m_state, .ref m_held, .int 0])), (m_known, .inl (cZ, 8, .inl g_12)), (m_kind, .inl (cI, 8, .inl g_13)), (m_keySize, .inl (cI, 8, .inl g_14)), (m_valueSize, .inl (cI, 8, .inl g_15)), (m_most, .inl (cI, 8, .inl g_16)), (m_filled, .inl (cI, 8, .inl g_84)), (m_list, .inl (cI, 128, .inl (upd g_112 (nI ((j9) * 16 + 7)).toNatClampNeg ((-1) : Int32))))] := hD
                                  generalize upd g_112 (nI ((j9) * 16 + 7)).toNatClampNeg ((-1) : Int32) = g_116 at hP hD
                                  refine lv_iinc (v := 8) (lv' := [(6, .int 8), (0, .ref h0), (1, .int (nI j9)), (2, .int p1), (3, .int p2), (4, .int p3), (5, .int p4)]) hx hb dX2_tell_122 hl (k := 0) rfl (by decide +kernel) (by decide +kernel) rfl (fun ls hl => ?_)
                                  refine lv_goto (tgt := 102) hx hb dX2_tell_125 (by decide +kernel) ?_
                                  refine lv_iload hx hb dX2_tell_102 (lv_at hl 0 rfl) ?_
                                  refine lv_bipush (v := 16) hx hb dX2_tell_104 (by decide +kernel) ?_
                                  refine lv_icmp_ge (tgt := 128) hx hb dX2_tell_106 (by decide +kernel) (fun c_117 => ?_) (fun c_117 => ?_)
                                  · exact absurd c_117 (by decide +kernel)
                                  · refine lv_aload_n hx hb dX2_tell_109 rfl (lv_at hl 1 rfl) ?_
                                    refine va_get (D := (dC, dI)) (ci := 1) (v := .ref m_list) (C := RX2) (T := TX2) (N := 13) hx hb hts zz_in_zm_tell_X2 hown hK hP 0 rfl rfl 8 (by decide +kernel) (hts (.fieldLink RX2 38 "FilterHouse$Maps" "list" "[I") (List.mem_of_getElem? (i := 11) rfl)) (fun _ h9 => h9) rfl dX2_tell_110 ?_
                                    refine lv_iload_n hx hb dX2_tell_113 rfl (lv_at hl 2 rfl) ?_
                                    refine lv_bipush (v := 16) hx hb dX2_tell_114 (by decide +kernel) ?_
                                    refine lv_imul hx hb dX2_tell_116 ?_
                                    refine lv_topi (fun f_118 ef_118 => ?_)
                                    obtain rfl : f_118 = nI ((j9) * 16) := ef_118.trans (pk_mul (j9) 16)
                                    refine lv_iload hx hb dX2_tell_117 (lv_at hl 0 rfl) ?_
                                    refine lv_iadd hx hb dX2_tell_119 ?_
                                    refine lv_topi (fun f_119 ef_119 => ?_)
                                    obtain rfl : f_119 = nI ((j9) * 16 + 8) := ef_119.trans (nI_add ((j9) * 16) 8)
                                    refine lv_iconst (v := (-1)) hx hb dX2_tell_120 (by decide +kernel) ?_
                                    refine va_iast hx hb hK hP hD hS 7 1 rfl rfl (vp_in_nI (by omega) (by decide +kernel)) dX2_tell_121 (fun H locs hP hD hS => ?_)
                                    have hP : va_P (dC, dI) zz_cl [(h0, .inr (1, [.ref m_room, .ref m_keys, .ref m_known, .ref m_kind, .ref m_keySize, .ref m_valueSize, .ref m_most, .ref m_filled, .ref m_list, .ref m_recordSize, .ref m_state, .ref m_held, .int 0])), (m_known, .inl (cZ, 8, .inl g_12)), (m_kind, .inl (cI, 8, .inl g_13)), (m_keySize, .inl (cI, 8, .inl g_14)), (m_valueSize, .inl (cI, 8, .inl g_15)), (m_most, .inl (cI, 8, .inl g_16)), (m_filled, .inl (cI, 8, .inl g_84)), (m_list, .inl (cI, 128, .inl (upd g_116 (nI ((j9) * 16 + 8)).toNatClampNeg ((-1) : Int32))))] H := hP
                                    have hD : va_D A [(h0, .inr (1, [.ref m_room, .ref m_keys, .ref m_known, .ref m_kind, .ref m_keySize, .ref m_valueSize, .ref m_most, .ref m_filled, .ref m_list, .ref m_recordSize, .ref m_state, .ref m_held, .int 0])), (m_known, .inl (cZ, 8, .inl g_12)), (m_kind, .inl (cI, 8, .inl g_13)), (m_keySize, .inl (cI, 8, .inl g_14)), (m_valueSize, .inl (cI, 8, .inl g_15)), (m_most, .inl (cI, 8, .inl g_16)), (m_filled, .inl (cI, 8, .inl g_84)), (m_list, .inl (cI, 128, .inl (upd g_116 (nI ((j9) * 16 + 8)).toNatClampNeg ((-1) : Int32))))] := hD
                                    generalize upd g_116 (nI ((j9) * 16 + 8)).toNatClampNeg ((-1) : Int32) = g_120 at hP hD
                                    refine lv_iinc (v := 9) (lv' := [(6, .int 9), (0, .ref h0), (1, .int (nI j9)), (2, .int p1), (3, .int p2), (4, .int p3), (5, .int p4)]) hx hb dX2_tell_122 hl (k := 0) rfl (by decide +kernel) (by decide +kernel) rfl (fun ls hl => ?_)
                                    refine lv_goto (tgt := 102) hx hb dX2_tell_125 (by decide +kernel) ?_
                                    refine lv_iload hx hb dX2_tell_102 (lv_at hl 0 rfl) ?_
                                    refine lv_bipush (v := 16) hx hb dX2_tell_104 (by decide +kernel) ?_
                                    refine lv_icmp_ge (tgt := 128) hx hb dX2_tell_106 (by decide +kernel) (fun c_121 => ?_) (fun c_121 => ?_)
                                    · exact absurd c_121 (by decide +kernel)
                                    · refine lv_aload_n hx hb dX2_tell_109 rfl (lv_at hl 1 rfl) ?_
                                      refine va_get (D := (dC, dI)) (ci := 1) (v := .ref m_list) (C := RX2) (T := TX2) (N := 13) hx hb hts zz_in_zm_tell_X2 hown hK hP 0 rfl rfl 8 (by decide +kernel) (hts (.fieldLink RX2 38 "FilterHouse$Maps" "list" "[I") (List.mem_of_getElem? (i := 11) rfl)) (fun _ h9 => h9) rfl dX2_tell_110 ?_
                                      refine lv_iload_n hx hb dX2_tell_113 rfl (lv_at hl 2 rfl) ?_
                                      refine lv_bipush (v := 16) hx hb dX2_tell_114 (by decide +kernel) ?_
                                      refine lv_imul hx hb dX2_tell_116 ?_
                                      refine lv_topi (fun f_122 ef_122 => ?_)
                                      obtain rfl : f_122 = nI ((j9) * 16) := ef_122.trans (pk_mul (j9) 16)
                                      refine lv_iload hx hb dX2_tell_117 (lv_at hl 0 rfl) ?_
                                      refine lv_iadd hx hb dX2_tell_119 ?_
                                      refine lv_topi (fun f_123 ef_123 => ?_)
                                      obtain rfl : f_123 = nI ((j9) * 16 + 9) := ef_123.trans (nI_add ((j9) * 16) 9)
                                      refine lv_iconst (v := (-1)) hx hb dX2_tell_120 (by decide +kernel) ?_
                                      refine va_iast hx hb hK hP hD hS 7 1 rfl rfl (vp_in_nI (by omega) (by decide +kernel)) dX2_tell_121 (fun H locs hP hD hS => ?_)
                                      have hP : va_P (dC, dI) zz_cl [(h0, .inr (1, [.ref m_room, .ref m_keys, .ref m_known, .ref m_kind, .ref m_keySize, .ref m_valueSize, .ref m_most, .ref m_filled, .ref m_list, .ref m_recordSize, .ref m_state, .ref m_held, .int 0])), (m_known, .inl (cZ, 8, .inl g_12)), (m_kind, .inl (cI, 8, .inl g_13)), (m_keySize, .inl (cI, 8, .inl g_14)), (m_valueSize, .inl (cI, 8, .inl g_15)), (m_most, .inl (cI, 8, .inl g_16)), (m_filled, .inl (cI, 8, .inl g_84)), (m_list, .inl (cI, 128, .inl (upd g_120 (nI ((j9) * 16 + 9)).toNatClampNeg ((-1) : Int32))))] H := hP
                                      have hD : va_D A [(h0, .inr (1, [.ref m_room, .ref m_keys, .ref m_known, .ref m_kind, .ref m_keySize, .ref m_valueSize, .ref m_most, .ref m_filled, .ref m_list, .ref m_recordSize, .ref m_state, .ref m_held, .int 0])), (m_known, .inl (cZ, 8, .inl g_12)), (m_kind, .inl (cI, 8, .inl g_13)), (m_keySize, .inl (cI, 8, .inl g_14)), (m_valueSize, .inl (cI, 8, .inl g_15)), (m_most, .inl (cI, 8, .inl g_16)), (m_filled, .inl (cI, 8, .inl g_84)), (m_list, .inl (cI, 128, .inl (upd g_120 (nI ((j9) * 16 + 9)).toNatClampNeg ((-1) : Int32))))] := hD
                                      generalize upd g_120 (nI ((j9) * 16 + 9)).toNatClampNeg ((-1) : Int32) = g_124 at hP hD
                                      refine lv_iinc (v := 10) (lv' := [(6, .int 10), (0, .ref h0), (1, .int (nI j9)), (2, .int p1), (3, .int p2), (4, .int p3), (5, .int p4)]) hx hb dX2_tell_122 hl (k := 0) rfl (by decide +kernel) (by decide +kernel) rfl (fun ls hl => ?_)
                                      refine lv_goto (tgt := 102) hx hb dX2_tell_125 (by decide +kernel) ?_
                                      refine lv_iload hx hb dX2_tell_102 (lv_at hl 0 rfl) ?_
                                      refine lv_bipush (v := 16) hx hb dX2_tell_104 (by decide +kernel) ?_
                                      refine lv_icmp_ge (tgt := 128) hx hb dX2_tell_106 (by decide +kernel) (fun c_125 => ?_) (fun c_125 => ?_)
                                      · exact absurd c_125 (by decide +kernel)
                                      · refine lv_aload_n hx hb dX2_tell_109 rfl (lv_at hl 1 rfl) ?_
                                        refine va_get (D := (dC, dI)) (ci := 1) (v := .ref m_list) (C := RX2) (T := TX2) (N := 13) hx hb hts zz_in_zm_tell_X2 hown hK hP 0 rfl rfl 8 (by decide +kernel) (hts (.fieldLink RX2 38 "FilterHouse$Maps" "list" "[I") (List.mem_of_getElem? (i := 11) rfl)) (fun _ h9 => h9) rfl dX2_tell_110 ?_
                                        refine lv_iload_n hx hb dX2_tell_113 rfl (lv_at hl 2 rfl) ?_
                                        refine lv_bipush (v := 16) hx hb dX2_tell_114 (by decide +kernel) ?_
                                        refine lv_imul hx hb dX2_tell_116 ?_
                                        refine lv_topi (fun f_126 ef_126 => ?_)
                                        obtain rfl : f_126 = nI ((j9) * 16) := ef_126.trans (pk_mul (j9) 16)
                                        refine lv_iload hx hb dX2_tell_117 (lv_at hl 0 rfl) ?_
                                        refine lv_iadd hx hb dX2_tell_119 ?_
                                        refine lv_topi (fun f_127 ef_127 => ?_)
                                        obtain rfl : f_127 = nI ((j9) * 16 + 10) := ef_127.trans (nI_add ((j9) * 16) 10)
                                        refine lv_iconst (v := (-1)) hx hb dX2_tell_120 (by decide +kernel) ?_
                                        refine va_iast hx hb hK hP hD hS 7 1 rfl rfl (vp_in_nI (by omega) (by decide +kernel)) dX2_tell_121 (fun H locs hP hD hS => ?_)
                                        have hP : va_P (dC, dI) zz_cl [(h0, .inr (1, [.ref m_room, .ref m_keys, .ref m_known, .ref m_kind, .ref m_keySize, .ref m_valueSize, .ref m_most, .ref m_filled, .ref m_list, .ref m_recordSize, .ref m_state, .ref m_held, .int 0])), (m_known, .inl (cZ, 8, .inl g_12)), (m_kind, .inl (cI, 8, .inl g_13)), (m_keySize, .inl (cI, 8, .inl g_14)), (m_valueSize, .inl (cI, 8, .inl g_15)), (m_most, .inl (cI, 8, .inl g_16)), (m_filled, .inl (cI, 8, .inl g_84)), (m_list, .inl (cI, 128, .inl (upd g_124 (nI ((j9) * 16 + 10)).toNatClampNeg ((-1) : Int32))))] H := hP
                                        have hD : va_D A [(h0, .inr (1, [.ref m_room, .ref m_keys, .ref m_known, .ref m_kind, .ref m_keySize, .ref m_valueSize, .ref m_most, .ref m_filled, .ref m_list, .ref m_recordSize, .ref m_state, .ref m_held, .int 0])), (m_known, .inl (cZ, 8, .inl g_12)), (m_kind, .inl (cI, 8, .inl g_13)), (m_keySize, .inl (cI, 8, .inl g_14)), (m_valueSize, .inl (cI, 8, .inl g_15)), (m_most, .inl (cI, 8, .inl g_16)), (m_filled, .inl (cI, 8, .inl g_84)), (m_list, .inl (cI, 128, .inl (upd g_124 (nI ((j9) * 16 + 10)).toNatClampNeg ((-1) : Int32))))] := hD
                                        generalize upd g_124 (nI ((j9) * 16 + 10)).toNatClampNeg ((-1) : Int32) = g_128 at hP hD
                                        refine lv_iinc (v := 11) (lv' := [(6, .int 11), (0, .ref h0), (1, .int (nI j9)), (2, .int p1), (3, .int p2), (4, .int p3), (5, .int p4)]) hx hb dX2_tell_122 hl (k := 0) rfl (by decide +kernel) (by decide +kernel) rfl (fun ls hl => ?_)
                                        refine lv_goto (tgt := 102) hx hb dX2_tell_125 (by decide +kernel) ?_
                                        refine lv_iload hx hb dX2_tell_102 (lv_at hl 0 rfl) ?_
                                        refine lv_bipush (v := 16) hx hb dX2_tell_104 (by decide +kernel) ?_
                                        refine lv_icmp_ge (tgt := 128) hx hb dX2_tell_106 (by decide +kernel) (fun c_129 => ?_) (fun c_129 => ?_)
                                        · exact absurd c_129 (by decide +kernel)
                                        · refine lv_aload_n hx hb dX2_tell_109 rfl (lv_at hl 1 rfl) ?_
                                          refine va_get (D := (dC, dI)) (ci := 1) (v := .ref m_list) (C := RX2) (T := TX2) (N := 13) hx hb hts zz_in_zm_tell_X2 hown hK hP 0 rfl rfl 8 (by decide +kernel) (hts (.fieldLink RX2 38 "FilterHouse$Maps" "list" "[I") (List.mem_of_getElem? (i := 11) rfl)) (fun _ h9 => h9) rfl dX2_tell_110 ?_
                                          refine lv_iload_n hx hb dX2_tell_113 rfl (lv_at hl 2 rfl) ?_
                                          refine lv_bipush (v := 16) hx hb dX2_tell_114 (by decide +kernel) ?_
                                          refine lv_imul hx hb dX2_tell_116 ?_
                                          refine lv_topi (fun f_130 ef_130 => ?_)
                                          obtain rfl : f_130 = nI ((j9) * 16) := ef_130.trans (pk_mul (j9) 16)
                                          refine lv_iload hx hb dX2_tell_117 (lv_at hl 0 rfl) ?_
                                          refine lv_iadd hx hb dX2_tell_119 ?_
                                          refine lv_topi (fun f_131 ef_131 => ?_)
                                          obtain rfl : f_131 = nI ((j9) * 16 + 11) := ef_131.trans (nI_add ((j9) * 16) 11)
                                          refine lv_iconst (v := (-1)) hx hb dX2_tell_120 (by decide +kernel) ?_
                                          refine va_iast hx hb hK hP hD hS 7 1 rfl rfl (vp_in_nI (by omega) (by decide +kernel)) dX2_tell_121 (fun H locs hP hD hS => ?_)
                                          have hP : va_P (dC, dI) zz_cl [(h0, .inr (1, [.ref m_room, .ref m_keys, .ref m_known, .ref m_kind, .ref m_keySize, .ref m_valueSize, .ref m_most, .ref m_filled, .ref m_list, .ref m_recordSize, .ref m_state, .ref m_held, .int 0])), (m_known, .inl (cZ, 8, .inl g_12)), (m_kind, .inl (cI, 8, .inl g_13)), (m_keySize, .inl (cI, 8, .inl g_14)), (m_valueSize, .inl (cI, 8, .inl g_15)), (m_most, .inl (cI, 8, .inl g_16)), (m_filled, .inl (cI, 8, .inl g_84)), (m_list, .inl (cI, 128, .inl (upd g_128 (nI ((j9) * 16 + 11)).toNatClampNeg ((-1) : Int32))))] H := hP
                                          have hD : va_D A [(h0, .inr (1, [.ref m_room, .ref m_keys, .ref m_known, .ref m_kind, .ref m_keySize, .ref m_valueSize, .ref m_most, .ref m_filled, .ref m_list, .ref m_recordSize, .ref m_state, .ref m_held, .int 0])), (m_known, .inl (cZ, 8, .inl g_12)), (m_kind, .inl (cI, 8, .inl g_13)), (m_keySize, .inl (cI, 8, .inl g_14)), (m_valueSize, .inl (cI, 8, .inl g_15)), (m_most, .inl (cI, 8, .inl g_16)), (m_filled, .inl (cI, 8, .inl g_84)), (m_list, .inl (cI, 128, .inl (upd g_128 (nI ((j9) * 16 + 11)).toNatClampNeg ((-1) : Int32))))] := hD
                                          generalize upd g_128 (nI ((j9) * 16 + 11)).toNatClampNeg ((-1) : Int32) = g_132 at hP hD
                                          refine lv_iinc (v := 12) (lv' := [(6, .int 12), (0, .ref h0), (1, .int (nI j9)), (2, .int p1), (3, .int p2), (4, .int p3), (5, .int p4)]) hx hb dX2_tell_122 hl (k := 0) rfl (by decide +kernel) (by decide +kernel) rfl (fun ls hl => ?_)
                                          refine lv_goto (tgt := 102) hx hb dX2_tell_125 (by decide +kernel) ?_
                                          refine lv_iload hx hb dX2_tell_102 (lv_at hl 0 rfl) ?_
                                          refine lv_bipush (v := 16) hx hb dX2_tell_104 (by decide +kernel) ?_
                                          refine lv_icmp_ge (tgt := 128) hx hb dX2_tell_106 (by decide +kernel) (fun c_133 => ?_) (fun c_133 => ?_)
                                          · exact absurd c_133 (by decide +kernel)
                                          · refine lv_aload_n hx hb dX2_tell_109 rfl (lv_at hl 1 rfl) ?_
                                            refine va_get (D := (dC, dI)) (ci := 1) (v := .ref m_list) (C := RX2) (T := TX2) (N := 13) hx hb hts zz_in_zm_tell_X2 hown hK hP 0 rfl rfl 8 (by decide +kernel) (hts (.fieldLink RX2 38 "FilterHouse$Maps" "list" "[I") (List.mem_of_getElem? (i := 11) rfl)) (fun _ h9 => h9) rfl dX2_tell_110 ?_
                                            refine lv_iload_n hx hb dX2_tell_113 rfl (lv_at hl 2 rfl) ?_
                                            refine lv_bipush (v := 16) hx hb dX2_tell_114 (by decide +kernel) ?_
                                            refine lv_imul hx hb dX2_tell_116 ?_
                                            refine lv_topi (fun f_134 ef_134 => ?_)
                                            obtain rfl : f_134 = nI ((j9) * 16) := ef_134.trans (pk_mul (j9) 16)
                                            refine lv_iload hx hb dX2_tell_117 (lv_at hl 0 rfl) ?_
                                            refine lv_iadd hx hb dX2_tell_119 ?_
                                            refine lv_topi (fun f_135 ef_135 => ?_)
                                            obtain rfl : f_135 = nI ((j9) * 16 + 12) := ef_135.trans (nI_add ((j9) * 16) 12)
                                            refine lv_iconst (v := (-1)) hx hb dX2_tell_120 (by decide +kernel) ?_
                                            refine va_iast hx hb hK hP hD hS 7 1 rfl rfl (vp_in_nI (by omega) (by decide +kernel)) dX2_tell_121 (fun H locs hP hD hS => ?_)
                                            have hP : va_P (dC, dI) zz_cl [(h0, .inr (1, [.ref m_room, .ref m_keys, .ref m_known, .ref m_kind, .ref m_keySize, .ref m_valueSize, .ref m_most, .ref m_filled, .ref m_list, .ref m_recordSize, .ref m_state, .ref m_held, .int 0])), (m_known, .inl (cZ, 8, .inl g_12)), (m_kind, .inl (cI, 8, .inl g_13)), (m_keySize, .inl (cI, 8, .inl g_14)), (m_valueSize, .inl (cI, 8, .inl g_15)), (m_most, .inl (cI, 8, .inl g_16)), (m_filled, .inl (cI, 8, .inl g_84)), (m_list, .inl (cI, 128, .inl (upd g_132 (nI ((j9) * 16 + 12)).toNatClampNeg ((-1) : Int32))))] H := hP
                                            have hD : va_D A [(h0, .inr (1, [.ref m_room, .ref m_keys, .ref m_known, .ref m_kind, .ref m_keySize, .ref m_valueSize, .ref m_most, .ref m_filled, .ref m_list, .ref m_recordSize, .ref m_state, .ref m_held, .int 0])), (m_known, .inl (cZ, 8, .inl g_12)), (m_kind, .inl (cI, 8, .inl g_13)), (m_keySize, .inl (cI, 8, .inl g_14)), (m_valueSize, .inl (cI, 8, .inl g_15)), (m_most, .inl (cI, 8, .inl g_16)), (m_filled, .inl (cI, 8, .inl g_84)), (m_list, .inl (cI, 128, .inl (upd g_132 (nI ((j9) * 16 + 12)).toNatClampNeg ((-1) : Int32))))] := hD
                                            generalize upd g_132 (nI ((j9) * 16 + 12)).toNatClampNeg ((-1) : Int32) = g_136 at hP hD
                                            refine lv_iinc (v := 13) (lv' := [(6, .int 13), (0, .ref h0), (1, .int (nI j9)), (2, .int p1), (3, .int p2), (4, .int p3), (5, .int p4)]) hx hb dX2_tell_122 hl (k := 0) rfl (by decide +kernel) (by decide +kernel) rfl (fun ls hl => ?_)
                                            refine lv_goto (tgt := 102) hx hb dX2_tell_125 (by decide +kernel) ?_
                                            refine lv_iload hx hb dX2_tell_102 (lv_at hl 0 rfl) ?_
                                            refine lv_bipush (v := 16) hx hb dX2_tell_104 (by decide +kernel) ?_
                                            refine lv_icmp_ge (tgt := 128) hx hb dX2_tell_106 (by decide +kernel) (fun c_137 => ?_) (fun c_137 => ?_)
                                            · exact absurd c_137 (by decide +kernel)
                                            · refine lv_aload_n hx hb dX2_tell_109 rfl (lv_at hl 1 rfl) ?_
                                              refine va_get (D := (dC, dI)) (ci := 1) (v := .ref m_list) (C := RX2) (T := TX2) (N := 13) hx hb hts zz_in_zm_tell_X2 hown hK hP 0 rfl rfl 8 (by decide +kernel) (hts (.fieldLink RX2 38 "FilterHouse$Maps" "list" "[I") (List.mem_of_getElem? (i := 11) rfl)) (fun _ h9 => h9) rfl dX2_tell_110 ?_
                                              refine lv_iload_n hx hb dX2_tell_113 rfl (lv_at hl 2 rfl) ?_
                                              refine lv_bipush (v := 16) hx hb dX2_tell_114 (by decide +kernel) ?_
                                              refine lv_imul hx hb dX2_tell_116 ?_
                                              refine lv_topi (fun f_138 ef_138 => ?_)
                                              obtain rfl : f_138 = nI ((j9) * 16) := ef_138.trans (pk_mul (j9) 16)
                                              refine lv_iload hx hb dX2_tell_117 (lv_at hl 0 rfl) ?_
                                              refine lv_iadd hx hb dX2_tell_119 ?_
                                              refine lv_topi (fun f_139 ef_139 => ?_)
                                              obtain rfl : f_139 = nI ((j9) * 16 + 13) := ef_139.trans (nI_add ((j9) * 16) 13)
                                              refine lv_iconst (v := (-1)) hx hb dX2_tell_120 (by decide +kernel) ?_
                                              refine va_iast hx hb hK hP hD hS 7 1 rfl rfl (vp_in_nI (by omega) (by decide +kernel)) dX2_tell_121 (fun H locs hP hD hS => ?_)
                                              have hP : va_P (dC, dI) zz_cl [(h0, .inr (1, [.ref m_room, .ref m_keys, .ref m_known, .ref m_kind, .ref m_keySize, .ref m_valueSize, .ref m_most, .ref m_filled, .ref m_list, .ref m_recordSize, .ref m_state, .ref m_held, .int 0])), (m_known, .inl (cZ, 8, .inl g_12)), (m_kind, .inl (cI, 8, .inl g_13)), (m_keySize, .inl (cI, 8, .inl g_14)), (m_valueSize, .inl (cI, 8, .inl g_15)), (m_most, .inl (cI, 8, .inl g_16)), (m_filled, .inl (cI, 8, .inl g_84)), (m_list, .inl (cI, 128, .inl (upd g_136 (nI ((j9) * 16 + 13)).toNatClampNeg ((-1) : Int32))))] H := hP
                                              have hD : va_D A [(h0, .inr (1, [.ref m_room, .ref m_keys, .ref m_known, .ref m_kind, .ref m_keySize, .ref m_valueSize, .ref m_most, .ref m_filled, .ref m_list, .ref m_recordSize, .ref m_state, .ref m_held, .int 0])), (m_known, .inl (cZ, 8, .inl g_12)), (m_kind, .inl (cI, 8, .inl g_13)), (m_keySize, .inl (cI, 8, .inl g_14)), (m_valueSize, .inl (cI, 8, .inl g_15)), (m_most, .inl (cI, 8, .inl g_16)), (m_filled, .inl (cI, 8, .inl g_84)), (m_list, .inl (cI, 128, .inl (upd g_136 (nI ((j9) * 16 + 13)).toNatClampNeg ((-1) : Int32))))] := hD
                                              generalize upd g_136 (nI ((j9) * 16 + 13)).toNatClampNeg ((-1) : Int32) = g_140 at hP hD
                                              refine lv_iinc (v := 14) (lv' := [(6, .int 14), (0, .ref h0), (1, .int (nI j9)), (2, .int p1), (3, .int p2), (4, .int p3), (5, .int p4)]) hx hb dX2_tell_122 hl (k := 0) rfl (by decide +kernel) (by decide +kernel) rfl (fun ls hl => ?_)
                                              refine lv_goto (tgt := 102) hx hb dX2_tell_125 (by decide +kernel) ?_
                                              refine lv_iload hx hb dX2_tell_102 (lv_at hl 0 rfl) ?_
                                              refine lv_bipush (v := 16) hx hb dX2_tell_104 (by decide +kernel) ?_
                                              refine lv_icmp_ge (tgt := 128) hx hb dX2_tell_106 (by decide +kernel) (fun c_141 => ?_) (fun c_141 => ?_)
                                              · exact absurd c_141 (by decide +kernel)
                                              · refine lv_aload_n hx hb dX2_tell_109 rfl (lv_at hl 1 rfl) ?_
                                                refine va_get (D := (dC, dI)) (ci := 1) (v := .ref m_list) (C := RX2) (T := TX2) (N := 13) hx hb hts zz_in_zm_tell_X2 hown hK hP 0 rfl rfl 8 (by decide +kernel) (hts (.fieldLink RX2 38 "FilterHouse$Maps" "list" "[I") (List.mem_of_getElem? (i := 11) rfl)) (fun _ h9 => h9) rfl dX2_tell_110 ?_
                                                refine lv_iload_n hx hb dX2_tell_113 rfl (lv_at hl 2 rfl) ?_
                                                refine lv_bipush (v := 16) hx hb dX2_tell_114 (by decide +kernel) ?_
                                                refine lv_imul hx hb dX2_tell_116 ?_
                                                refine lv_topi (fun f_142 ef_142 => ?_)
                                                obtain rfl : f_142 = nI ((j9) * 16) := ef_142.trans (pk_mul (j9) 16)
                                                refine lv_iload hx hb dX2_tell_117 (lv_at hl 0 rfl) ?_
                                                refine lv_iadd hx hb dX2_tell_119 ?_
                                                refine lv_topi (fun f_143 ef_143 => ?_)
                                                obtain rfl : f_143 = nI ((j9) * 16 + 14) := ef_143.trans (nI_add ((j9) * 16) 14)
                                                refine lv_iconst (v := (-1)) hx hb dX2_tell_120 (by decide +kernel) ?_
                                                refine va_iast hx hb hK hP hD hS 7 1 rfl rfl (vp_in_nI (by omega) (by decide +kernel)) dX2_tell_121 (fun H locs hP hD hS => ?_)
                                                have hP : va_P (dC, dI) zz_cl [(h0, .inr (1, [.ref m_room, .ref m_keys, .ref m_known, .ref m_kind, .ref m_keySize, .ref m_valueSize, .ref m_most, .ref m_filled, .ref m_list, .ref m_recordSize, .ref m_state, .ref m_held, .int 0])), (m_known, .inl (cZ, 8, .inl g_12)), (m_kind, .inl (cI, 8, .inl g_13)), (m_keySize, .inl (cI, 8, .inl g_14)), (m_valueSize, .inl (cI, 8, .inl g_15)), (m_most, .inl (cI, 8, .inl g_16)), (m_filled, .inl (cI, 8, .inl g_84)), (m_list, .inl (cI, 128, .inl (upd g_140 (nI ((j9) * 16 + 14)).toNatClampNeg ((-1) : Int32))))] H := hP
                                                have hD : va_D A [(h0, .inr (1, [.ref m_room, .ref m_keys, .ref m_known, .ref m_kind, .ref m_keySize, .ref m_valueSize, .ref m_most, .ref m_filled, .ref m_list, .ref m_recordSize, .ref m_state, .ref m_held, .int 0])), (m_known, .inl (cZ, 8, .inl g_12)), (m_kind, .inl (cI, 8, .inl g_13)), (m_keySize, .inl (cI, 8, .inl g_14)), (m_valueSize, .inl (cI, 8, .inl g_15)), (m_most, .inl (cI, 8, .inl g_16)), (m_filled, .inl (cI, 8, .inl g_84)), (m_list, .inl (cI, 128, .inl (upd g_140 (nI ((j9) * 16 + 14)).toNatClampNeg ((-1) : Int32))))] := hD
                                                generalize upd g_140 (nI ((j9) * 16 + 14)).toNatClampNeg ((-1) : Int32) = g_144 at hP hD
                                                refine lv_iinc (v := 15) (lv' := [(6, .int 15), (0, .ref h0), (1, .int (nI j9)), (2, .int p1), (3, .int p2), (4, .int p3), (5, .int p4)]) hx hb dX2_tell_122 hl (k := 0) rfl (by decide +kernel) (by decide +kernel) rfl (fun ls hl => ?_)
                                                refine lv_goto (tgt := 102) hx hb dX2_tell_125 (by decide +kernel) ?_
                                                refine lv_iload hx hb dX2_tell_102 (lv_at hl 0 rfl) ?_
                                                refine lv_bipush (v := 16) hx hb dX2_tell_104 (by decide +kernel) ?_
                                                refine lv_icmp_ge (tgt := 128) hx hb dX2_tell_106 (by decide +kernel) (fun c_145 => ?_) (fun c_145 => ?_)
                                                · exact absurd c_145 (by decide +kernel)
                                                · refine lv_aload_n hx hb dX2_tell_109 rfl (lv_at hl 1 rfl) ?_
                                                  refine va_get (D := (dC, dI)) (ci := 1) (v := .ref m_list) (C := RX2) (T := TX2) (N := 13) hx hb hts zz_in_zm_tell_X2 hown hK hP 0 rfl rfl 8 (by decide +kernel) (hts (.fieldLink RX2 38 "FilterHouse$Maps" "list" "[I") (List.mem_of_getElem? (i := 11) rfl)) (fun _ h9 => h9) rfl dX2_tell_110 ?_
                                                  refine lv_iload_n hx hb dX2_tell_113 rfl (lv_at hl 2 rfl) ?_
                                                  refine lv_bipush (v := 16) hx hb dX2_tell_114 (by decide +kernel) ?_
                                                  refine lv_imul hx hb dX2_tell_116 ?_
                                                  refine lv_topi (fun f_146 ef_146 => ?_)
                                                  obtain rfl : f_146 = nI ((j9) * 16) := ef_146.trans (pk_mul (j9) 16)
                                                  refine lv_iload hx hb dX2_tell_117 (lv_at hl 0 rfl) ?_
                                                  refine lv_iadd hx hb dX2_tell_119 ?_
                                                  refine lv_topi (fun f_147 ef_147 => ?_)
                                                  obtain rfl : f_147 = nI ((j9) * 16 + 15) := ef_147.trans (nI_add ((j9) * 16) 15)
                                                  refine lv_iconst (v := (-1)) hx hb dX2_tell_120 (by decide +kernel) ?_
                                                  refine va_iast hx hb hK hP hD hS 7 1 rfl rfl (vp_in_nI (by omega) (by decide +kernel)) dX2_tell_121 (fun H locs hP hD hS => ?_)
                                                  have hP : va_P (dC, dI) zz_cl [(h0, .inr (1, [.ref m_room, .ref m_keys, .ref m_known, .ref m_kind, .ref m_keySize, .ref m_valueSize, .ref m_most, .ref m_filled, .ref m_list, .ref m_recordSize, .ref m_state, .ref m_held, .int 0])), (m_known, .inl (cZ, 8, .inl g_12)), (m_kind, .inl (cI, 8, .inl g_13)), (m_keySize, .inl (cI, 8, .inl g_14)), (m_valueSize, .inl (cI, 8, .inl g_15)), (m_most, .inl (cI, 8, .inl g_16)), (m_filled, .inl (cI, 8, .inl g_84)), (m_list, .inl (cI, 128, .inl (upd g_144 (nI ((j9) * 16 + 15)).toNatClampNeg ((-1) : Int32))))] H := hP
                                                  have hD : va_D A [(h0, .inr (1, [.ref m_room, .ref m_keys, .ref m_known, .ref m_kind, .ref m_keySize, .ref m_valueSize, .ref m_most, .ref m_filled, .ref m_list, .ref m_recordSize, .ref m_state, .ref m_held, .int 0])), (m_known, .inl (cZ, 8, .inl g_12)), (m_kind, .inl (cI, 8, .inl g_13)), (m_keySize, .inl (cI, 8, .inl g_14)), (m_valueSize, .inl (cI, 8, .inl g_15)), (m_most, .inl (cI, 8, .inl g_16)), (m_filled, .inl (cI, 8, .inl g_84)), (m_list, .inl (cI, 128, .inl (upd g_144 (nI ((j9) * 16 + 15)).toNatClampNeg ((-1) : Int32))))] := hD
                                                  generalize upd g_144 (nI ((j9) * 16 + 15)).toNatClampNeg ((-1) : Int32) = g_148 at hP hD
                                                  refine lv_iinc (v := 16) (lv' := [(6, .int 16), (0, .ref h0), (1, .int (nI j9)), (2, .int p1), (3, .int p2), (4, .int p3), (5, .int p4)]) hx hb dX2_tell_122 hl (k := 0) rfl (by decide +kernel) (by decide +kernel) rfl (fun ls hl => ?_)
                                                  refine lv_goto (tgt := 102) hx hb dX2_tell_125 (by decide +kernel) ?_
                                                  refine lv_iload hx hb dX2_tell_102 (lv_at hl 0 rfl) ?_
                                                  refine lv_bipush (v := 16) hx hb dX2_tell_104 (by decide +kernel) ?_
                                                  refine lv_icmp_ge (tgt := 128) hx hb dX2_tell_106 (by decide +kernel) (fun c_149 => ?_) (fun c_149 => ?_)
                                                  · refine lv_iconst (v := 1) hx hb dX2_tell_128 (by decide +kernel) ?_
                                                    exact W.zret (v := 1) (ty := .boolean) hx hb hr rfl (fun t ht hW => ⟨⟨1, (), rfl, Or.inl ⟨rfl, by have qc_1 := mt (fa_lt _ _).mpr c_1; have qc_2 := mt (fa_le _ _).mpr c_2; have qc_4 := (fa_eq _ _).mp c_4; have qc_5 := mt (fa_lt _ _).mpr c_5; have qc_6 := (fa_le _ _).mp c_6; have qc_11 := mt (fa_eq _ _).mpr c_11; have qc_17 := (fa_eq _ _).mp c_17; have qc_85 := mt (fa_le _ _).mpr c_85; have qc_89 := mt (fa_le _ _).mpr c_89; have qc_93 := mt (fa_le _ _).mpr c_93; have qc_97 := mt (fa_le _ _).mpr c_97; have qc_101 := mt (fa_le _ _).mpr c_101; have qc_105 := mt (fa_le _ _).mpr c_105; have qc_109 := mt (fa_le _ _).mpr c_109; have qc_113 := mt (fa_le _ _).mpr c_113; have qc_117 := mt (fa_le _ _).mpr c_117; have qc_121 := mt (fa_le _ _).mpr c_121; have qc_125 := mt (fa_le _ _).mpr c_125; have qc_129 := mt (fa_le _ _).mpr c_129; have qc_133 := mt (fa_le _ _).mpr c_133; have qc_137 := mt (fa_le _ _).mpr c_137; have qc_141 := mt (fa_le _ _).mpr c_141; have qc_145 := mt (fa_le _ _).mpr c_145; have qc_149 := (fa_le _ _).mp c_149; have k0 : (0 : Int32).toInt = 0 := rfl; have k1 : (1 : Int32).toInt = 1 := rfl; have k2 : (2 : Int32).toInt = 2 := rfl; have k3 : (3 : Int32).toInt = 3 := rfl; have k4 : (4 : Int32).toInt = 4 := rfl; have k5 : (5 : Int32).toInt = 5 := rfl; have k6 : (6 : Int32).toInt = 6 := rfl; have k7 : (7 : Int32).toInt = 7 := rfl; have k8 : (8 : Int32).toInt = 8 := rfl; have k9 : (9 : Int32).toInt = 9 := rfl; have k10 : (10 : Int32).toInt = 10 := rfl; have k11 : (11 : Int32).toInt = 11 := rfl; have k12 : (12 : Int32).toInt = 12 := rfl; have k13 : (13 : Int32).toInt = 13 := rfl; have k14 : (14 : Int32).toInt = 14 := rfl; have k15 : (15 : Int32).toInt = 15 := rfl; have k16 : (16 : Int32).toInt = 16 := rfl; omega⟩, trivial⟩, hS.F ht⟩) hS.2.2 dX2_tell_129
                                                  · exact absurd c_149 (by decide +kernel)
              · exact absurd c_11 (by decide +kernel)
            · refine lv_if_ne (tgt := 46) hx hb dX2_tell_41 (by decide +kernel) (fun c_150 => ?_) (fun c_150 => ?_)
              · exact absurd c_150 (by decide +kernel)
              · refine lv_iconst (v := 0) hx hb dX2_tell_44 (by decide +kernel) ?_
                exact W.zret (v := 0) (ty := .boolean) hx hb hr rfl (fun t ht hW => ⟨⟨0, (), rfl, Or.inr ⟨rfl, by have qc_1 := mt (fa_lt _ _).mpr c_1; have qc_2 := mt (fa_le _ _).mpr c_2; have qc_4 := (fa_eq _ _).mp c_4; have qc_5 := mt (fa_lt _ _).mpr c_5; have qc_6 := (fa_le _ _).mp c_6; have qc_150 := (fa_eq _ _).mp c_150; have k0 : (0 : Int32).toInt = 0 := rfl; have k1 : (1 : Int32).toInt = 1 := rfl; have k8 : (8 : Int32).toInt = 8 := rfl; have k16 : (16 : Int32).toInt = 16 := rfl; omega⟩, trivial⟩, hS.F ht⟩) hS.2.2 dX2_tell_45
          · refine lv_iconst (v := 0) hx hb dX2_tell_32 (by decide +kernel) ?_
            exact W.zret (v := 0) (ty := .boolean) hx hb hr rfl (fun t ht hW => ⟨⟨0, (), rfl, Or.inr ⟨rfl, by have qc_1 := mt (fa_lt _ _).mpr c_1; have qc_2 := mt (fa_le _ _).mpr c_2; have qc_4 := (fa_eq _ _).mp c_4; have qc_5 := mt (fa_lt _ _).mpr c_5; have qc_6 := mt (fa_le _ _).mpr c_6; have k0 : (0 : Int32).toInt = 0 := rfl; have k1 : (1 : Int32).toInt = 1 := rfl; have k8 : (8 : Int32).toInt = 8 := rfl; have k16 : (16 : Int32).toInt = 16 := rfl; omega⟩, trivial⟩, hS.F ht⟩) hS.2.2 dX2_tell_33
def zw_zm_map : List Cond := .code yX11_map cX11_map 6 (some .boolean) :: ([.fieldLink RX11 41 "FilterHouse" "maps" "LFilterHouse$Maps;", .fieldLink RX2 18 "FilterHouse$Maps" "known" "[Z", .code yX2_isShape cX2_isShape 4 (some .boolean), .methodLink RX2 58 yX2_isShape, .static yX2_isShape, .initialized RX2, .fieldLink RX2 22 "FilterHouse$Maps" "kind" "[I", .fieldLink RX2 26 "FilterHouse$Maps" "keySize" "[I", .fieldLink RX2 29 "FilterHouse$Maps" "valueSize" "[I", .fieldLink RX2 32 "FilterHouse$Maps" "most" "[I", .fieldLink RX2 35 "FilterHouse$Maps" "filled" "[I", .fieldLink RX2 38 "FilterHouse$Maps" "list" "[I", .code yX2_tell cX2_tell 7 (some .boolean), .methodLink RX11 137 yX2_tell, .instanceMethod yX2_tell, .selects RX2 yX2_tell yX2_tell] ++ (wsX110 ++ (wsX20 ++ [])))
theorem zz_in_zm_map_X11 : ∀ w ∈ wsX110, w ∈ zw_zm_map := fun w h => List.mem_cons_of_mem _ (List.mem_append_right _ (List.mem_append_left _ h))
theorem zz_in_zm_map_X2 : ∀ w ∈ wsX20, w ∈ zw_zm_map := fun w h => List.mem_cons_of_mem _ (List.mem_append_right _ (List.mem_append_right _ (List.mem_append_left _ h)))
set_option maxRecDepth 20000 in
theorem zz_g_zm_map_zm_tell : GoodIn zw_zm_map zw_zm_tell := goodIn_ca (goodIn_r ([.code yX2_tell cX2_tell 7 (some .boolean), .fieldLink RX2 18 "FilterHouse$Maps" "known" "[Z", .code yX2_isShape cX2_isShape 4 (some .boolean), .methodLink RX2 58 yX2_isShape, .static yX2_isShape, .initialized RX2, .fieldLink RX2 22 "FilterHouse$Maps" "kind" "[I", .fieldLink RX2 26 "FilterHouse$Maps" "keySize" "[I", .fieldLink RX2 29 "FilterHouse$Maps" "valueSize" "[I", .fieldLink RX2 32 "FilterHouse$Maps" "most" "[I", .fieldLink RX2 35 "FilterHouse$Maps" "filled" "[I", .fieldLink RX2 38 "FilterHouse$Maps" "list" "[I"]) [13, 2, 3, 4, 5, 6, 7, 8, 9, 10, 11, 12] rfl (by decide +kernel)) (goodIn_app (goodIn_sub zz_in_zm_map_X2 zz_gw_X2) (goodIn_sub (fun _ h => absurd h List.not_mem_nil) rfl))
set_option maxHeartbeats 1000000 in
set_option maxRecDepth 100000 in
/-- zm_map -/
theorem zm_map (l : Launch) (dC : Nat → ClassId) (dI : Nat → Nat → Nat) (cB cI cJ cZ : ClassId) (h0 h5 m_known m_kind m_keySize m_valueSize m_most m_filled m_list h1 h2 h3 h4 h6 h7 m_room m_keys m_recordSize m_state m_held : Nat) (sz : Nat) (p0 : Int32) (p1 : Int32) (p2 : Int32) (p3 : Int32) (p4 : Int32) : Met l yX11_map zw_zm_map ({ frames := 2, cells := 0, slots := 0, locals := 49 }) (va_Pc [.ref h0, .int p0, .int p1, .int p2, .int p3, .int p4] (fun U => U.heap.size = sz ∧ va_P (dC, dI) zz_cl [(h0, .inr (10, [.ref h1, .int 0, .ref h2, .ref h3, .ref h4, .ref h5, .ref h6, .ref h7])), (h5, .inr (1, [.ref m_room, .ref m_keys, .ref m_known, .ref m_kind, .ref m_keySize, .ref m_valueSize, .ref m_most, .ref m_filled, .ref m_list, .ref m_recordSize, .ref m_state, .ref m_held, .int 0])), (m_known, .inl (cZ, 8, .inl (fun _ => 0))), (m_kind, .inl (cI, 8, .inl (fun _ => 0))), (m_keySize, .inl (cI, 8, .inl (fun _ => 0))), (m_valueSize, .inl (cI, 8, .inl (fun _ => 0))), (m_most, .inl (cI, 8, .inl (fun _ => 0))), (m_filled, .inl (cI, 8, .inl (fun _ => 0))), (m_list, .inl (cI, 128, .inl (fun _ => 0)))] U.heap ∧ va_K (dC, dI) zz_cl [(cB, .byte), (cI, .int), (cJ, .long), (cZ, .boolean)] U ∧ va_D (fun _ => True) [(h0, .inr (10, [.ref h1, .int 0, .ref h2, .ref h3, .ref h4, .ref h5, .ref h6, .ref h7])), (h5, .inr (1, [.ref m_room, .ref m_keys, .ref m_known, .ref m_kind, .ref m_keySize, .ref m_valueSize, .ref m_most, .ref m_filled, .ref m_list, .ref m_recordSize, .ref m_state, .ref m_held, .int 0])), (m_known, .inl (cZ, 8, .inl (fun _ => 0))), (m_kind, .inl (cI, 8, .inl (fun _ => 0))), (m_keySize, .inl (cI, 8, .inl (fun _ => 0))), (m_valueSize, .inl (cI, 8, .inl (fun _ => 0))), (m_most, .inl (cI, 8, .inl (fun _ => 0))), (m_filled, .inl (cI, 8, .inl (fun _ => 0))), (m_list, .inl (cI, 128, .inl (fun _ => 0)))])) (va_Qi (fun (r : Int32) (_ : Unit) => (r = 1 ∧ (0 ≤ p0.toInt ∧ p0.toInt < 8 ∧ 1 ≤ p4.toInt ∧ p4.toInt ≤ 16 ∧ ((p1.toInt = 0 ∧ p2.toInt = 4 ∧ 1 ≤ p3.toInt ∧ p3.toInt ≤ 64) ∨ (p1.toInt = 1 ∧ 1 ≤ p2.toInt ∧ p2.toInt ≤ 16 ∧ 1 ≤ p3.toInt ∧ p3.toInt ≤ 64) ∨ ((p1.toInt = 2 ∨ p1.toInt = 3) ∧ p2.toInt = 0 ∧ p3.toInt = 0)))) ∨ (r = 0 ∧ ¬ (0 ≤ p0.toInt ∧ p0.toInt < 8 ∧ 1 ≤ p4.toInt ∧ p4.toInt ≤ 16 ∧ ((p1.toInt = 0 ∧ p2.toInt = 4 ∧ 1 ≤ p3.toInt ∧ p3.toInt ≤ 64) ∨ (p1.toInt = 1 ∧ 1 ≤ p2.toInt ∧ p2.toInt ≤ 16 ∧ 1 ≤ p3.toInt ∧ p3.toInt ≤ 64) ∨ ((p1.toInt = 2 ∨ p1.toInt = 3) ∧ p2.toInt = 0 ∧ p3.toInt = 0))))) (fun (_ : Unit) _ => True) (va_A [(h0, .inr (10, [.ref h1, .int 0, .ref h2, .ref h3, .ref h4, .ref h5, .ref h6, .ref h7])), (h5, .inr (1, [.ref m_room, .ref m_keys, .ref m_known, .ref m_kind, .ref m_keySize, .ref m_valueSize, .ref m_most, .ref m_filled, .ref m_list, .ref m_recordSize, .ref m_state, .ref m_held, .int 0])), (m_known, .inl (cZ, 8, .inl (fun _ => 0))), (m_kind, .inl (cI, 8, .inl (fun _ => 0))), (m_keySize, .inl (cI, 8, .inl (fun _ => 0))), (m_valueSize, .inl (cI, 8, .inl (fun _ => 0))), (m_most, .inl (cI, 8, .inl (fun _ => 0))), (m_filled, .inl (cI, 8, .inl (fun _ => 0))), (m_list, .inl (cI, 128, .inl (fun _ => 0)))] sz)) 0 0 (va_A [(h0, .inr (10, [.ref h1, .int 0, .ref h2, .ref h3, .ref h4, .ref h5, .ref h6, .ref h7])), (h5, .inr (1, [.ref m_room, .ref m_keys, .ref m_known, .ref m_kind, .ref m_keySize, .ref m_valueSize, .ref m_most, .ref m_filled, .ref m_list, .ref m_recordSize, .ref m_state, .ref m_held, .int 0])), (m_known, .inl (cZ, 8, .inl (fun _ => 0))), (m_kind, .inl (cI, 8, .inl (fun _ => 0))), (m_keySize, .inl (cI, 8, .inl (fun _ => 0))), (m_valueSize, .inl (cI, 8, .inl (fun _ => 0))), (m_most, .inl (cI, 8, .inl (fun _ => 0))), (m_filled, .inl (cI, 8, .inl (fun _ => 0))), (m_list, .inl (cI, 128, .inl (fun _ => 0)))] sz) := by
  refine Met.ofW (cc := cX11_map) (maxL := 6) (ret := (some .boolean)) (by decide +kernel) rfl ?_
  intro p e s m args below meth c s₁ B hml hv
  obtain ⟨rfl, hsz, hP, hK, hD0⟩ := hv
  have hx := B.exec
  have hb := B.bytes
  have hr := B.returns
  have hts := atoms_spec (ws := zw_zm_map) B.pre
  have hown : s.vm.findClass RX11 = some m.cls := findClass_of_methodNamed B.named
  have hlocks := B.notSynchronized
  subst hsz
  have hD := hD0.self (sz := s.heap.size)
  generalize hAe : va_A [(h0, .inr (10, [.ref h1, .int 0, .ref h2, .ref h3, .ref h4, .ref h5, .ref h6, .ref h7])), (h5, .inr (1, [.ref m_room, .ref m_keys, .ref m_known, .ref m_kind, .ref m_keySize, .ref m_valueSize, .ref m_most, .ref m_filled, .ref m_list, .ref m_recordSize, .ref m_state, .ref m_held, .int 0])), (m_known, .inl (cZ, 8, .inl (fun _ => 0))), (m_kind, .inl (cI, 8, .inl (fun _ => 0))), (m_keySize, .inl (cI, 8, .inl (fun _ => 0))), (m_valueSize, .inl (cI, 8, .inl (fun _ => 0))), (m_most, .inl (cI, 8, .inl (fun _ => 0))), (m_filled, .inl (cI, 8, .inl (fun _ => 0))), (m_list, .inl (cI, 128, .inl (fun _ => 0)))] s.heap.size = A at hD ⊢
  have hA : ∀ q : Nat, s.heap.size ≤ q → A q := fun q h => by rw [← hAe]; exact Or.inr h
  have hS : va_S A s.heap s.heap [] := va_S.rf
  have hP : va_P (dC, dI) zz_cl [(h0, .inr (10, [.ref h1, .int 0, .ref h2, .ref h3, .ref h4, .ref h5, .ref h6, .ref h7])), (h5, .inr (1, [.ref m_room, .ref m_keys, .ref m_known, .ref m_kind, .ref m_keySize, .ref m_valueSize, .ref m_most, .ref m_filled, .ref m_list, .ref m_recordSize, .ref m_state, .ref m_held, .int 0])), (m_known, .inl (cZ, 8, .inl (fun _ => 0))), (m_kind, .inl (cI, 8, .inl (fun _ => 0))), (m_keySize, .inl (cI, 8, .inl (fun _ => 0))), (m_valueSize, .inl (cI, 8, .inl (fun _ => 0))), (m_most, .inl (cI, 8, .inl (fun _ => 0))), (m_filled, .inl (cI, 8, .inl (fun _ => 0))), (m_list, .inl (cI, 128, .inl (fun _ => 0)))] s.heap := hP
  have hl := lv_entry ([.ref h0, .int p0, .int p1, .int p2, .int p3, .int p4]) (n := 6) (Nat.le_of_ble_eq_true rfl)
  rw [lg_entry_eq]
  generalize (lg_sl ([.ref h0, .int p0, .int p1, .int p2, .int p3, .int p4]) ++ List.replicate (6 - (lg_sl ([.ref h0, .int p0, .int p1, .int p2, .int p3, .int p4])).length) Slot.unset).toArray = ls at hl ⊢
  have hl : lv_has ls 6 [(0, .ref h0), (1, .int p0), (2, .int p1), (3, .int p2), (4, .int p3), (5, .int p4)] := hl
  refine lv_aload_n hx hb dX11_map_0 rfl (lv_at hl 0 rfl) ?_
  refine va_get (D := (dC, dI)) (ci := 10) (v := .ref h5) (C := RX11) (T := TX11) (N := 8) hx hb hts zz_in_zm_map_X11 hown hK hP 0 rfl rfl 5 (by decide +kernel) (hts (.fieldLink RX11 41 "FilterHouse" "maps" "LFilterHouse$Maps;") (List.mem_of_getElem? (i := 1) rfl)) (fun _ h9 => h9) rfl dX11_map_1 ?_
  refine lv_iload_n hx hb dX11_map_4 rfl (lv_at hl 1 rfl) ?_
  refine lv_iload_n hx hb dX11_map_5 rfl (lv_at hl 2 rfl) ?_
  refine lv_iload_n hx hb dX11_map_6 rfl (lv_at hl 3 rfl) ?_
  refine lv_iload hx hb dX11_map_7 (lv_at hl 4 rfl) ?_
  refine lv_iload hx hb dX11_map_9 (lv_at hl 5 rfl) ?_
  have hPc := hP.sub (ws' := [(h5, .inr (1, [.ref m_room, .ref m_keys, .ref m_known, .ref m_kind, .ref m_keySize, .ref m_valueSize, .ref m_most, .ref m_filled, .ref m_list, .ref m_recordSize, .ref m_state, .ref m_held, .int 0])), (m_known, .inl (cZ, 8, .inl (fun _ => 0))), (m_kind, .inl (cI, 8, .inl (fun _ => 0))), (m_keySize, .inl (cI, 8, .inl (fun _ => 0))), (m_valueSize, .inl (cI, 8, .inl (fun _ => 0))), (m_most, .inl (cI, 8, .inl (fun _ => 0))), (m_filled, .inl (cI, 8, .inl (fun _ => 0))), (m_list, .inl (cI, 128, .inl (fun _ => 0)))]) [1, 2, 3, 4, 5, 6, 7, 8] rfl
  have hDc := hD.sub (ws' := [(h5, .inr (1, [.ref m_room, .ref m_keys, .ref m_known, .ref m_kind, .ref m_keySize, .ref m_valueSize, .ref m_most, .ref m_filled, .ref m_list, .ref m_recordSize, .ref m_state, .ref m_held, .int 0])), (m_known, .inl (cZ, 8, .inl (fun _ => 0))), (m_kind, .inl (cI, 8, .inl (fun _ => 0))), (m_keySize, .inl (cI, 8, .inl (fun _ => 0))), (m_valueSize, .inl (cI, 8, .inl (fun _ => 0))), (m_most, .inl (cI, 8, .inl (fun _ => 0))), (m_filled, .inl (cI, 8, .inl (fun _ => 0))), (m_list, .inl (cI, 128, .inl (fun _ => 0)))]) [1, 2, 3, 4, 5, 6, 7, 8] (by decide +kernel) rfl
  have hFc := va_free (wc := [(h5, .inr (1, [.ref m_room, .ref m_keys, .ref m_known, .ref m_kind, .ref m_keySize, .ref m_valueSize, .ref m_most, .ref m_filled, .ref m_list, .ref m_recordSize, .ref m_state, .ref m_held, .int 0])), (m_known, .inl (cZ, 8, .inl (fun _ => 0))), (m_kind, .inl (cI, 8, .inl (fun _ => 0))), (m_keySize, .inl (cI, 8, .inl (fun _ => 0))), (m_valueSize, .inl (cI, 8, .inl (fun _ => 0))), (m_most, .inl (cI, 8, .inl (fun _ => 0))), (m_filled, .inl (cI, 8, .inl (fun _ => 0))), (m_list, .inl (cI, 128, .inl (fun _ => 0)))]) hD hS hA [1, 2, 3, 4, 5, 6, 7, 8] rfl
  refine va_calli (va_runV (As := [.int p0, .int p1, .int p2, .int p3, .int p4]) (rest := []) ⟨hx, hb, hml, hown, hts⟩ (zm_tell l dC dI cB cI cJ cZ h5 m_known m_kind m_keySize m_valueSize m_most m_filled m_list m_room m_keys m_recordSize m_state m_held s.heap.size p0 p1 p2 p3 p4) (cwV 5 hts (goodIn_app (goodIn_r [.methodLink RX11 137 yX2_tell, .instanceMethod yX2_tell, .selects RX2 yX2_tell yX2_tell, .initialized RX2] [14, 15, 16, 6] rfl (by decide +kernel)) zz_g_zm_map_zm_tell) rfl rfl rfl (by decide +kernel) ⟨Nat.le_of_ble_eq_true rfl, Nat.le_of_ble_eq_true rfl⟩) ⟨fun a U g mk q => by obtain ⟨q0, q1, qP, qK, qD⟩ := q; exact ⟨q0, q1, qP, va_K.moved (u := U) (U := U.calling g mk a) (Vm.Alike.refl U.vm) qK, qD⟩, va_recv hK hPc (ci := 1) (q0 := 0) rfl rfl, fun U hU hW => ⟨rfl, by rw [hU], by rw [hU]; exact hPc, va_K.moved hW.alike hK, hDc.weaken (fun _ _ _ _ => trivial)⟩⟩ rfl rfl hl.1 rfl (lv_room (Nat.le_of_ble_eq_true rfl)) dX11_map_11 ⟨Nat.le_of_ble_eq_true rfl, Nat.le_of_ble_eq_true rfl⟩) hS (fun q _ h => hFc q h) hFc (fun r_1 u_3 t H1 locs ht hvm hw_2 hB hz1 hk1 hS => ?_)
  obtain ⟨hP, hD⟩ := va_join (wr := [(h0, .inr (10, [.ref h1, .int 0, .ref h2, .ref h3, .ref h4, .ref h5, .ref h6, .ref h7]))]) (w1 := []) hP hD [1, 2, 3, 4, 5, 6, 7, 8] [0] rfl rfl (by decide +kernel) (by decide +kernel) hk1 hFc zz_P0 zz_D0
  generalize H1 = H at hP hS ⊢
  have hP : va_P (dC, dI) zz_cl [(h0, .inr (10, [.ref h1, .int 0, .ref h2, .ref h3, .ref h4, .ref h5, .ref h6, .ref h7]))] H := hP
  have hD : va_D A [(h0, .inr (10, [.ref h1, .int 0, .ref h2, .ref h3, .ref h4, .ref h5, .ref h6, .ref h7]))] := hD
  try dsimp only at hw_2
  rcases hw_2 with ⟨rfl, h_4⟩ | ⟨rfl, h_4⟩
  · exact W.zret (v := 1) (ty := .boolean) hx hb hr rfl (fun t ht hW => ⟨⟨1, (), rfl, Or.inl ⟨rfl, by omega⟩, trivial⟩, hS.F ht⟩) hS.2.2 dX11_map_14
  · exact W.zret (v := 0) (ty := .boolean) hx hb hr rfl (fun t ht hW => ⟨⟨0, (), rfl, Or.inr ⟨rfl, by omega⟩, trivial⟩, hS.F ht⟩) hS.2.2 dX11_map_14
def zw_zm_packet : List Cond := .code yX11_packet cX11_packet 2 (some .int) :: ([.fieldLink RX11 13 "FilterHouse" "tapeSize" "I", .code yX11_useTape cX11_useTape 2 (some .int), .methodLink RX11 67 yX11_useTape, .instanceMethod yX11_useTape, .selects RX11 yX11_useTape yX11_useTape, .initialized RX11, .fieldLink RX11 9 "FilterHouse" "tape" "[B", .fieldLink RX11 41 "FilterHouse" "maps" "LFilterHouse$Maps;", .fieldLink RX11 158 "FilterHouse$Maps" "room" "[B", .methodLink RX11 210 arraycopyName, .native arraycopyName, .static arraycopyName, .initialized "java/lang/System", .fieldLink RX11 59 "FilterHouse" "runs" "LFilterHouse$Runs;", .fieldLink RX11 216 "FilterHouse$Runs" "packetSize" "I"] ++ (wsX110 ++ (wsX20 ++ (wsX70 ++ []))))
theorem zz_in_zm_packet_X11 : ∀ w ∈ wsX110, w ∈ zw_zm_packet := fun w h => List.mem_cons_of_mem _ (List.mem_append_right _ (List.mem_append_left _ h))
theorem zz_in_zm_packet_X2 : ∀ w ∈ wsX20, w ∈ zw_zm_packet := fun w h => List.mem_cons_of_mem _ (List.mem_append_right _ (List.mem_append_right _ (List.mem_append_left _ h)))
theorem zz_in_zm_packet_X7 : ∀ w ∈ wsX70, w ∈ zw_zm_packet := fun w h => List.mem_cons_of_mem _ (List.mem_append_right _ (List.mem_append_right _ (List.mem_append_right _ (List.mem_append_left _ h))))
set_option maxRecDepth 20000 in
theorem zz_g_zm_packet_zm_useTape : GoodIn zw_zm_packet zw_zm_useTape := goodIn_ca (goodIn_r ([.code yX11_useTape cX11_useTape 2 (some .int), .fieldLink RX11 13 "FilterHouse" "tapeSize" "I"]) [2, 1] rfl (by decide +kernel)) (goodIn_app (goodIn_sub zz_in_zm_packet_X11 zz_gw_X11) (goodIn_sub (fun _ h => absurd h List.not_mem_nil) rfl))
set_option maxHeartbeats 1000000 in
set_option maxRecDepth 100000 in
/-- zm_packet -/
theorem zm_packet (l : Launch) (dC : Nat → ClassId) (dI : Nat → Nat → Nat) (cB cI cJ cZ : ClassId) (h0 h1 h5 m_room h7 h2 h3 h4 h6 m_keys m_known m_kind m_keySize m_valueSize m_most m_filled m_list m_recordSize m_state m_held h14 h15 h16 h17 h18 : Nat) (sz : Nat) : Met l yX11_packet zw_zm_packet ({ frames := 1, cells := 0, slots := 0, locals := 64 }) (va_Pc [.ref h0] (fun U => U.heap.size = sz ∧ va_P (dC, dI) zz_cl [(h0, .inr (10, [.ref h1, .int 0, .ref h2, .ref h3, .ref h4, .ref h5, .ref h6, .ref h7])), (h1, .inl (cB, 4000, .inl (fun _ => 0))), (h5, .inr (1, [.ref m_room, .ref m_keys, .ref m_known, .ref m_kind, .ref m_keySize, .ref m_valueSize, .ref m_most, .ref m_filled, .ref m_list, .ref m_recordSize, .ref m_state, .ref m_held, .int 0])), (m_room, .inl (cB, 25364, .inl (fun _ => 0))), (h7, .inr (6, [.ref h3, .ref h5, .ref h14, .ref h15, .ref h16, .ref h17, .int 0, .int 0, .int 0, .int 0, .int 0, .int 0, .int 0, .long 1, .long 0, .int 0, .long 0, .ref h18, .int 0]))] U.heap ∧ va_K (dC, dI) zz_cl [(cB, .byte), (cI, .int), (cJ, .long), (cZ, .boolean)] U ∧ va_D (fun _ => True) [(h0, .inr (10, [.ref h1, .int 0, .ref h2, .ref h3, .ref h4, .ref h5, .ref h6, .ref h7])), (h1, .inl (cB, 4000, .inl (fun _ => 0))), (h5, .inr (1, [.ref m_room, .ref m_keys, .ref m_known, .ref m_kind, .ref m_keySize, .ref m_valueSize, .ref m_most, .ref m_filled, .ref m_list, .ref m_recordSize, .ref m_state, .ref m_held, .int 0])), (m_room, .inl (cB, 25364, .inl (fun _ => 0))), (h7, .inr (6, [.ref h3, .ref h5, .ref h14, .ref h15, .ref h16, .ref h17, .int 0, .int 0, .int 0, .int 0, .int 0, .int 0, .int 0, .long 1, .long 0, .int 0, .long 0, .ref h18, .int 0]))])) (va_Qi (fun (r : Int32) (_ : Unit) => r = 0) (fun (_ : Unit) _ => True) (va_A [(h0, .inr (10, [.ref h1, .int 0, .ref h2, .ref h3, .ref h4, .ref h5, .ref h6, .ref h7])), (h1, .inl (cB, 4000, .inl (fun _ => 0))), (h5, .inr (1, [.ref m_room, .ref m_keys, .ref m_known, .ref m_kind, .ref m_keySize, .ref m_valueSize, .ref m_most, .ref m_filled, .ref m_list, .ref m_recordSize, .ref m_state, .ref m_held, .int 0])), (m_room, .inl (cB, 25364, .inl (fun _ => 0))), (h7, .inr (6, [.ref h3, .ref h5, .ref h14, .ref h15, .ref h16, .ref h17, .int 0, .int 0, .int 0, .int 0, .int 0, .int 0, .int 0, .long 1, .long 0, .int 0, .long 0, .ref h18, .int 0]))] sz)) 0 0 (va_A [(h0, .inr (10, [.ref h1, .int 0, .ref h2, .ref h3, .ref h4, .ref h5, .ref h6, .ref h7])), (h1, .inl (cB, 4000, .inl (fun _ => 0))), (h5, .inr (1, [.ref m_room, .ref m_keys, .ref m_known, .ref m_kind, .ref m_keySize, .ref m_valueSize, .ref m_most, .ref m_filled, .ref m_list, .ref m_recordSize, .ref m_state, .ref m_held, .int 0])), (m_room, .inl (cB, 25364, .inl (fun _ => 0))), (h7, .inr (6, [.ref h3, .ref h5, .ref h14, .ref h15, .ref h16, .ref h17, .int 0, .int 0, .int 0, .int 0, .int 0, .int 0, .int 0, .long 1, .long 0, .int 0, .long 0, .ref h18, .int 0]))] sz) := by
  refine Met.ofW (cc := cX11_packet) (maxL := 2) (ret := (some .int)) (by decide +kernel) rfl ?_
  intro p e s m args below meth c s₁ B hml hv
  obtain ⟨rfl, hsz, hP, hK, hD0⟩ := hv
  have hx := B.exec
  have hb := B.bytes
  have hr := B.returns
  have hts := atoms_spec (ws := zw_zm_packet) B.pre
  have hown : s.vm.findClass RX11 = some m.cls := findClass_of_methodNamed B.named
  have hlocks := B.notSynchronized
  subst hsz
  have hD := hD0.self (sz := s.heap.size)
  generalize hAe : va_A [(h0, .inr (10, [.ref h1, .int 0, .ref h2, .ref h3, .ref h4, .ref h5, .ref h6, .ref h7])), (h1, .inl (cB, 4000, .inl (fun _ => 0))), (h5, .inr (1, [.ref m_room, .ref m_keys, .ref m_known, .ref m_kind, .ref m_keySize, .ref m_valueSize, .ref m_most, .ref m_filled, .ref m_list, .ref m_recordSize, .ref m_state, .ref m_held, .int 0])), (m_room, .inl (cB, 25364, .inl (fun _ => 0))), (h7, .inr (6, [.ref h3, .ref h5, .ref h14, .ref h15, .ref h16, .ref h17, .int 0, .int 0, .int 0, .int 0, .int 0, .int 0, .int 0, .long 1, .long 0, .int 0, .long 0, .ref h18, .int 0]))] s.heap.size = A at hD ⊢
  have hA : ∀ q : Nat, s.heap.size ≤ q → A q := fun q h => by rw [← hAe]; exact Or.inr h
  have hS : va_S A s.heap s.heap [] := va_S.rf
  have hP : va_P (dC, dI) zz_cl [(h0, .inr (10, [.ref h1, .int 0, .ref h2, .ref h3, .ref h4, .ref h5, .ref h6, .ref h7])), (h1, .inl (cB, 4000, .inl (fun _ => 0))), (h5, .inr (1, [.ref m_room, .ref m_keys, .ref m_known, .ref m_kind, .ref m_keySize, .ref m_valueSize, .ref m_most, .ref m_filled, .ref m_list, .ref m_recordSize, .ref m_state, .ref m_held, .int 0])), (m_room, .inl (cB, 25364, .inl (fun _ => 0))), (h7, .inr (6, [.ref h3, .ref h5, .ref h14, .ref h15, .ref h16, .ref h17, .int 0, .int 0, .int 0, .int 0, .int 0, .int 0, .int 0, .long 1, .long 0, .int 0, .long 0, .ref h18, .int 0]))] s.heap := hP
  have hl := lv_entry ([.ref h0]) (n := 2) (Nat.le_of_ble_eq_true rfl)
  rw [lg_entry_eq]
  generalize (lg_sl ([.ref h0]) ++ List.replicate (2 - (lg_sl ([.ref h0])).length) Slot.unset).toArray = ls at hl ⊢
  have hl : lv_has ls 2 [(0, .ref h0)] := hl
  refine lv_aload_n hx hb dX11_packet_0 rfl (lv_at hl 0 rfl) ?_
  have hPc := hP.sub (ws' := [(h0, .inr (10, [.ref h1, .int 0, .ref h2, .ref h3, .ref h4, .ref h5, .ref h6, .ref h7]))]) [0] rfl
  have hDc := hD.sub (ws' := [(h0, .inr (10, [.ref h1, .int 0, .ref h2, .ref h3, .ref h4, .ref h5, .ref h6, .ref h7]))]) [0] (by decide +kernel) rfl
  have hFc := va_free (wc := [(h0, .inr (10, [.ref h1, .int 0, .ref h2, .ref h3, .ref h4, .ref h5, .ref h6, .ref h7]))]) hD hS hA [0] rfl
  refine va_calli (va_runV (As := []) (rest := []) ⟨hx, hb, hml, hown, hts⟩ (zm_useTape l dC dI cB cI cJ cZ h0 h1 h2 h3 h4 h5 h6 h7 s.heap.size) (cwV 0 hts (goodIn_app (goodIn_r [.methodLink RX11 67 yX11_useTape, .instanceMethod yX11_useTape, .selects RX11 yX11_useTape yX11_useTape, .initialized RX11] [3, 4, 5, 6] rfl (by decide +kernel)) zz_g_zm_packet_zm_useTape) rfl rfl rfl (by decide +kernel) ⟨Nat.le_of_ble_eq_true rfl, Nat.le_of_ble_eq_true rfl⟩) ⟨fun a U g mk q => by obtain ⟨q0, q1, qP, qK, qD⟩ := q; exact ⟨q0, q1, qP, va_K.moved (u := U) (U := U.calling g mk a) (Vm.Alike.refl U.vm) qK, qD⟩, va_recv hK hPc (ci := 10) (q0 := 0) rfl rfl, fun U hU hW => ⟨rfl, by rw [hU], by rw [hU]; exact hPc, va_K.moved hW.alike hK, hDc.weaken (fun _ _ _ _ => trivial)⟩⟩ rfl rfl hl.1 rfl (lv_room (Nat.le_of_ble_eq_true rfl)) dX11_packet_1 ⟨Nat.le_of_ble_eq_true rfl, Nat.le_of_ble_eq_true rfl⟩) hS (fun q _ h => hFc q h) hFc (fun r_1 u_3 t H1 locs ht hvm hw_2 hB hz1 hk1 hS => ?_)
  obtain ⟨hP1, hD1⟩ := hB
  rw [ht] at hP1
  obtain ⟨hP, hD⟩ := va_join (wr := [(h1, .inl (cB, 4000, .inl (fun _ => 0))), (h5, .inr (1, [.ref m_room, .ref m_keys, .ref m_known, .ref m_kind, .ref m_keySize, .ref m_valueSize, .ref m_most, .ref m_filled, .ref m_list, .ref m_recordSize, .ref m_state, .ref m_held, .int 0])), (m_room, .inl (cB, 25364, .inl (fun _ => 0))), (h7, .inr (6, [.ref h3, .ref h5, .ref h14, .ref h15, .ref h16, .ref h17, .int 0, .int 0, .int 0, .int 0, .int 0, .int 0, .int 0, .long 1, .long 0, .int 0, .long 0, .ref h18, .int 0]))]) (w1 := [(h0, .inr (10, [.ref h1, .int 0, .ref h2, .ref h3, .ref h4, .ref h5, .ref h6, .ref h7]))]) hP hD [0] [1, 2, 3, 4] rfl rfl (by decide +kernel) (by decide +kernel) hk1 hFc hP1 hD1
  generalize H1 = H at hP hS ⊢
  have hP : va_P (dC, dI) zz_cl [(h1, .inl (cB, 4000, .inl (fun _ => 0))), (h5, .inr (1, [.ref m_room, .ref m_keys, .ref m_known, .ref m_kind, .ref m_keySize, .ref m_valueSize, .ref m_most, .ref m_filled, .ref m_list, .ref m_recordSize, .ref m_state, .ref m_held, .int 0])), (m_room, .inl (cB, 25364, .inl (fun _ => 0))), (h7, .inr (6, [.ref h3, .ref h5, .ref h14, .ref h15, .ref h16, .ref h17, .int 0, .int 0, .int 0, .int 0, .int 0, .int 0, .int 0, .long 1, .long 0, .int 0, .long 0, .ref h18, .int 0])), (h0, .inr (10, [.ref h1, .int 0, .ref h2, .ref h3, .ref h4, .ref h5, .ref h6, .ref h7]))] H := hP
  have hD : va_D A [(h1, .inl (cB, 4000, .inl (fun _ => 0))), (h5, .inr (1, [.ref m_room, .ref m_keys, .ref m_known, .ref m_kind, .ref m_keySize, .ref m_valueSize, .ref m_most, .ref m_filled, .ref m_list, .ref m_recordSize, .ref m_state, .ref m_held, .int 0])), (m_room, .inl (cB, 25364, .inl (fun _ => 0))), (h7, .inr (6, [.ref h3, .ref h5, .ref h14, .ref h15, .ref h16, .ref h17, .int 0, .int 0, .int 0, .int 0, .int 0, .int 0, .int 0, .long 1, .long 0, .int 0, .long 0, .ref h18, .int 0])), (h0, .inr (10, [.ref h1, .int 0, .ref h2, .ref h3, .ref h4, .ref h5, .ref h6, .ref h7]))] := hD
  try dsimp only at hw_2
  obtain rfl : r_1 = (0 : Int32) := hw_2
  refine lv_istore_n (lv' := [(1, .int 0), (0, .ref h0)]) hx hb dX11_packet_4 rfl hl (by decide +kernel) rfl (fun ls hl => ?_)
  refine lv_iload_n hx hb dX11_packet_5 rfl (lv_at hl 0 rfl) ?_
  refine lv_sipush (v := 256) hx hb dX11_packet_6 (by decide +kernel) ?_
  refine lv_icmp_le (tgt := 14) hx hb dX11_packet_9 (by decide +kernel) (fun c_4 => ?_) (fun c_4 => ?_)
  · refine lv_aload_n hx hb dX11_packet_14 rfl (lv_at hl 1 rfl) ?_
    refine va_get (D := (dC, dI)) (ci := 10) (v := .ref h1) (C := RX11) (T := TX11) (N := 8) hx hb hts zz_in_zm_packet_X11 hown hK hP 4 rfl rfl 0 (by decide +kernel) (hts (.fieldLink RX11 9 "FilterHouse" "tape" "[B") (List.mem_of_getElem? (i := 7) rfl)) (fun _ h9 => h9) rfl dX11_packet_15 ?_
    refine lv_iconst (v := 0) hx hb dX11_packet_18 (by decide +kernel) ?_
    refine lv_aload_n hx hb dX11_packet_19 rfl (lv_at hl 1 rfl) ?_
    refine va_get (D := (dC, dI)) (ci := 10) (v := .ref h5) (C := RX11) (T := TX11) (N := 8) hx hb hts zz_in_zm_packet_X11 hown hK hP 4 rfl rfl 5 (by decide +kernel) (hts (.fieldLink RX11 41 "FilterHouse" "maps" "LFilterHouse$Maps;") (List.mem_of_getElem? (i := 8) rfl)) (fun _ h9 => h9) rfl dX11_packet_20 ?_
    refine va_get (D := (dC, dI)) (ci := 1) (v := .ref m_room) (C := RX2) (T := TX2) (N := 13) hx hb hts zz_in_zm_packet_X2 hown hK hP 1 rfl rfl 0 (by decide +kernel) (hts (.fieldLink RX11 158 "FilterHouse$Maps" "room" "[B") (List.mem_of_getElem? (i := 9) rfl)) (fun _ h9 => h9) rfl dX11_packet_23 ?_
    refine lv_iconst (v := 0) hx hb dX11_packet_26 (by decide +kernel) ?_
    refine lv_iload_n hx hb dX11_packet_27 rfl (lv_at hl 0 rfl) ?_
    refine va_copyi hx hb (by rw [hml]; exact hl.1.symm) hown (hts (.methodLink RX11 210 arraycopyName) (List.mem_of_getElem? (i := 10) rfl)) (hts (.native arraycopyName) (List.mem_of_getElem? (i := 11) rfl)) (hts (.static arraycopyName) (List.mem_of_getElem? (i := 12) rfl)) (hts (.initialized "java/lang/System") (List.mem_of_getElem? (i := 13) rfl)) hK hP hD hS 0 2 0 0 rfl rfl rfl rfl rfl (by decide +kernel) (by decide +kernel) (by decide +kernel) (by decide +kernel) (by decide +kernel) (fun i9 h9 => absurd h9 (Nat.not_lt_zero _)) (Nat.le_of_ble_eq_true rfl) (by decide +kernel) dX11_packet_28 (fun H locs hP hD hS => ?_)
    have hP : va_P (dC, dI) zz_cl [(h1, .inl (cB, 4000, .inl (fun _ => 0))), (h5, .inr (1, [.ref m_room, .ref m_keys, .ref m_known, .ref m_kind, .ref m_keySize, .ref m_valueSize, .ref m_most, .ref m_filled, .ref m_list, .ref m_recordSize, .ref m_state, .ref m_held, .int 0])), (m_room, .inl (cB, 25364, .inl (va_cpy (α := Int32) (fun _ => 0) (fun _ => 0) (0 : Int32).toNatClampNeg (0 : Int32).toNatClampNeg (0 : Int32).toNatClampNeg))), (h7, .inr (6, [.ref h3, .ref h5, .ref h14, .ref h15, .ref h16, .ref h17, .int 0, .int 0, .int 0, .int 0, .int 0, .int 0, .int 0, .long 1, .long 0, .int 0, .long 0, .ref h18, .int 0])), (h0, .inr (10, [.ref h1, .int 0, .ref h2, .ref h3, .ref h4, .ref h5, .ref h6, .ref h7]))] H := hP
    have hD : va_D A [(h1, .inl (cB, 4000, .inl (fun _ => 0))), (h5, .inr (1, [.ref m_room, .ref m_keys, .ref m_known, .ref m_kind, .ref m_keySize, .ref m_valueSize, .ref m_most, .ref m_filled, .ref m_list, .ref m_recordSize, .ref m_state, .ref m_held, .int 0])), (m_room, .inl (cB, 25364, .inl (va_cpy (α := Int32) (fun _ => 0) (fun _ => 0) (0 : Int32).toNatClampNeg (0 : Int32).toNatClampNeg (0 : Int32).toNatClampNeg))), (h7, .inr (6, [.ref h3, .ref h5, .ref h14, .ref h15, .ref h16, .ref h17, .int 0, .int 0, .int 0, .int 0, .int 0, .int 0, .int 0, .long 1, .long 0, .int 0, .long 0, .ref h18, .int 0])), (h0, .inr (10, [.ref h1, .int 0, .ref h2, .ref h3, .ref h4, .ref h5, .ref h6, .ref h7]))] := hD
    generalize va_cpy (α := Int32) (fun _ => 0) (fun _ => 0) (0 : Int32).toNatClampNeg (0 : Int32).toNatClampNeg (0 : Int32).toNatClampNeg = g_5 at hP hD
    refine lv_aload_n hx hb dX11_packet_31 rfl (lv_at hl 1 rfl) ?_
    refine va_get (D := (dC, dI)) (ci := 10) (v := .ref h7) (C := RX11) (T := TX11) (N := 8) hx hb hts zz_in_zm_packet_X11 hown hK hP 4 rfl rfl 7 (by decide +kernel) (hts (.fieldLink RX11 59 "FilterHouse" "runs" "LFilterHouse$Runs;") (List.mem_of_getElem? (i := 14) rfl)) (fun _ h9 => h9) rfl dX11_packet_32 ?_
    refine lv_iload_n hx hb dX11_packet_35 rfl (lv_at hl 0 rfl) ?_
    refine va_put (D := (dC, dI)) (ci := 6) (v := .int 0) (ty := .int) (C := RX7) (T := TX7) (N := 19) hx hb hts zz_in_zm_packet_X7 tyX7 tyX7_ok nmX7 hown hK hP hD hS 3 rfl rfl 10 (by decide +kernel) (hts (.fieldLink RX11 216 "FilterHouse$Runs" "packetSize" "I") (List.mem_of_getElem? (i := 15) rfl)) (fun _ h9 => h9) rfl (by decide +kernel) rfl rfl (Nat.le_of_ble_eq_true rfl) dX11_packet_36 (fun H locs hP hD hS => ?_)
    have hP : va_P (dC, dI) zz_cl [(h1, .inl (cB, 4000, .inl (fun _ => 0))), (h5, .inr (1, [.ref m_room, .ref m_keys, .ref m_known, .ref m_kind, .ref m_keySize, .ref m_valueSize, .ref m_most, .ref m_filled, .ref m_list, .ref m_recordSize, .ref m_state, .ref m_held, .int 0])), (m_room, .inl (cB, 25364, .inl g_5)), (h7, .inr (6, [.ref h3, .ref h5, .ref h14, .ref h15, .ref h16, .ref h17, .int 0, .int 0, .int 0, .int 0, .int 0, .int 0, .int 0, .long 1, .long 0, .int 0, .long 0, .ref h18, .int 0])), (h0, .inr (10, [.ref h1, .int 0, .ref h2, .ref h3, .ref h4, .ref h5, .ref h6, .ref h7]))] H := hP
    have hD : va_D A [(h1, .inl (cB, 4000, .inl (fun _ => 0))), (h5, .inr (1, [.ref m_room, .ref m_keys, .ref m_known, .ref m_kind, .ref m_keySize, .ref m_valueSize, .ref m_most, .ref m_filled, .ref m_list, .ref m_recordSize, .ref m_state, .ref m_held, .int 0])), (m_room, .inl (cB, 25364, .inl g_5)), (h7, .inr (6, [.ref h3, .ref h5, .ref h14, .ref h15, .ref h16, .ref h17, .int 0, .int 0, .int 0, .int 0, .int 0, .int 0, .int 0, .long 1, .long 0, .int 0, .long 0, .ref h18, .int 0])), (h0, .inr (10, [.ref h1, .int 0, .ref h2, .ref h3, .ref h4, .ref h5, .ref h6, .ref h7]))] := hD
    refine lv_iload_n hx hb dX11_packet_39 rfl (lv_at hl 0 rfl) ?_
    exact W.iret (v := 0) hx hb hr (fun t ht hW => ⟨⟨0, (), rfl, rfl, trivial⟩, hS.F ht⟩) hS.2.2 dX11_packet_40
  · exact absurd c_4 (by decide +kernel)
def zw_zm_addToken : List Cond := .code yX6_addToken cX6_addToken 6 none :: ([.fieldLink RX6 17 "FilterHouse$Reader" "kinds" "[I", .fieldLink RX6 60 "FilterHouse$Reader" "tokens" "I", .fieldLink RX6 21 "FilterHouse$Reader" "begins" "[I", .fieldLink RX6 24 "FilterHouse$Reader" "ends" "[I", .fieldLink RX6 27 "FilterHouse$Reader" "values" "[J"] ++ (wsX60 ++ []))
theorem zz_in_zm_addToken_X6 : ∀ w ∈ wsX60, w ∈ zw_zm_addToken := fun w h => List.mem_cons_of_mem _ (List.mem_append_right _ (List.mem_append_left _ h))
set_option maxHeartbeats 1000000 in
set_option maxRecDepth 100000 in
/-- zm_addToken -/
theorem zm_addToken (l : Launch) (dC : Nat → ClassId) (dI : Nat → Nat → Nat) (cB cI cJ cZ : ClassId) (h0 r_kinds r_begins r_ends r_values r_made h1 r_labels r_links : Nat) (sz : Nat) : Met l yX6_addToken zw_zm_addToken ({ frames := 0, cells := 0, slots := 0, locals := 0 }) (va_Pc [.ref h0, .int 6, .int 0, .int 0, .long 0] (fun U => U.heap.size = sz ∧ va_P (dC, dI) zz_cl [(h0, .inr (5, [.ref r_made, .int 0, .ref h1, .ref r_kinds, .ref r_begins, .ref r_ends, .ref r_values, .int 0, .int 0, .int 0, .ref r_labels, .int 0, .ref r_links, .int 0, .long 0, .long 0, .int 0, .int 0, .int 0])), (r_kinds, .inl (cI, 4001, .inl (fun _ => 0))), (r_begins, .inl (cI, 4001, .inl (fun _ => 0))), (r_ends, .inl (cI, 4001, .inl (fun _ => 0))), (r_values, .inl (cJ, 4001, .inr (.inl (fun _ => 0))))] U.heap ∧ va_K (dC, dI) zz_cl [(cB, .byte), (cI, .int), (cJ, .long), (cZ, .boolean)] U ∧ va_D (fun _ => True) [(h0, .inr (5, [.ref r_made, .int 0, .ref h1, .ref r_kinds, .ref r_begins, .ref r_ends, .ref r_values, .int 0, .int 0, .int 0, .ref r_labels, .int 0, .ref r_links, .int 0, .long 0, .long 0, .int 0, .int 0, .int 0])), (r_kinds, .inl (cI, 4001, .inl (fun _ => 0))), (r_begins, .inl (cI, 4001, .inl (fun _ => 0))), (r_ends, .inl (cI, 4001, .inl (fun _ => 0))), (r_values, .inl (cJ, 4001, .inr (.inl (fun _ => 0))))])) (va_Qv (fun (_ : Unit) => True) (fun (_ : Unit) t => va_P (dC, dI) zz_cl [(h0, .inr (5, [.ref r_made, .int 0, .ref h1, .ref r_kinds, .ref r_begins, .ref r_ends, .ref r_values, .int 1, .int 0, .int 0, .ref r_labels, .int 0, .ref r_links, .int 0, .long 0, .long 0, .int 0, .int 0, .int 0])), (r_kinds, .inl (cI, 4001, .inl (upd (fun _ => 0) (0 : Int32).toNatClampNeg (6 : Int32)))), (r_begins, .inl (cI, 4001, .inl (upd (fun _ => 0) (0 : Int32).toNatClampNeg (0 : Int32)))), (r_ends, .inl (cI, 4001, .inl (upd (fun _ => 0) (0 : Int32).toNatClampNeg (0 : Int32)))), (r_values, .inl (cJ, 4001, .inr (.inl (vp_updL (fun _ => 0) (0 : Int32).toNatClampNeg 0))))] t.heap ∧ va_D (va_A [(h0, .inr (5, [.ref r_made, .int 0, .ref h1, .ref r_kinds, .ref r_begins, .ref r_ends, .ref r_values, .int 0, .int 0, .int 0, .ref r_labels, .int 0, .ref r_links, .int 0, .long 0, .long 0, .int 0, .int 0, .int 0])), (r_kinds, .inl (cI, 4001, .inl (fun _ => 0))), (r_begins, .inl (cI, 4001, .inl (fun _ => 0))), (r_ends, .inl (cI, 4001, .inl (fun _ => 0))), (r_values, .inl (cJ, 4001, .inr (.inl (fun _ => 0))))] sz) [(h0, .inr (5, [.ref r_made, .int 0, .ref h1, .ref r_kinds, .ref r_begins, .ref r_ends, .ref r_values, .int 1, .int 0, .int 0, .ref r_labels, .int 0, .ref r_links, .int 0, .long 0, .long 0, .int 0, .int 0, .int 0])), (r_kinds, .inl (cI, 4001, .inl (upd (fun _ => 0) (0 : Int32).toNatClampNeg (6 : Int32)))), (r_begins, .inl (cI, 4001, .inl (upd (fun _ => 0) (0 : Int32).toNatClampNeg (0 : Int32)))), (r_ends, .inl (cI, 4001, .inl (upd (fun _ => 0) (0 : Int32).toNatClampNeg (0 : Int32)))), (r_values, .inl (cJ, 4001, .inr (.inl (vp_updL (fun _ => 0) (0 : Int32).toNatClampNeg 0))))]) (va_A [(h0, .inr (5, [.ref r_made, .int 0, .ref h1, .ref r_kinds, .ref r_begins, .ref r_ends, .ref r_values, .int 0, .int 0, .int 0, .ref r_labels, .int 0, .ref r_links, .int 0, .long 0, .long 0, .int 0, .int 0, .int 0])), (r_kinds, .inl (cI, 4001, .inl (fun _ => 0))), (r_begins, .inl (cI, 4001, .inl (fun _ => 0))), (r_ends, .inl (cI, 4001, .inl (fun _ => 0))), (r_values, .inl (cJ, 4001, .inr (.inl (fun _ => 0))))] sz)) 0 0 (va_A [(h0, .inr (5, [.ref r_made, .int 0, .ref h1, .ref r_kinds, .ref r_begins, .ref r_ends, .ref r_values, .int 0, .int 0, .int 0, .ref r_labels, .int 0, .ref r_links, .int 0, .long 0, .long 0, .int 0, .int 0, .int 0])), (r_kinds, .inl (cI, 4001, .inl (fun _ => 0))), (r_begins, .inl (cI, 4001, .inl (fun _ => 0))), (r_ends, .inl (cI, 4001, .inl (fun _ => 0))), (r_values, .inl (cJ, 4001, .inr (.inl (fun _ => 0))))] sz) := by
  refine Met.ofW (cc := cX6_addToken) (maxL := 6) (ret := none) (by decide +kernel) rfl ?_
  intro p e s m args below meth c s₁ B hml hv
  obtain ⟨rfl, hsz, hP, hK, hD0⟩ := hv
  have hx := B.exec
  have hb := B.bytes
  have hr := B.returns
  have hts := atoms_spec (ws := zw_zm_addToken) B.pre
  have hown : s.vm.findClass RX6 = some m.cls := findClass_of_methodNamed B.named
  have hlocks := B.notSynchronized
  subst hsz
  have hD := hD0.self (sz := s.heap.size)
  generalize hAe : va_A [(h0, .inr (5, [.ref r_made, .int 0, .ref h1, .ref r_kinds, .ref r_begins, .ref r_ends, .ref r_values, .int 0, .int 0, .int 0, .ref r_labels, .int 0, .ref r_links, .int 0, .long 0, .long 0, .int 0, .int 0, .int 0])), (r_kinds, .inl (cI, 4001, .inl (fun _ => 0))), (r_begins, .inl (cI, 4001, .inl (fun _ => 0))), (r_ends, .inl (cI, 4001, .inl (fun _ => 0))), (r_values, .inl (cJ, 4001, .inr (.inl (fun _ => 0))))] s.heap.size = A at hD ⊢
  have hA : ∀ q : Nat, s.heap.size ≤ q → A q := fun q h => by rw [← hAe]; exact Or.inr h
  have hS : va_S A s.heap s.heap [] := va_S.rf
  have hP : va_P (dC, dI) zz_cl [(h0, .inr (5, [.ref r_made, .int 0, .ref h1, .ref r_kinds, .ref r_begins, .ref r_ends, .ref r_values, .int 0, .int 0, .int 0, .ref r_labels, .int 0, .ref r_links, .int 0, .long 0, .long 0, .int 0, .int 0, .int 0])), (r_kinds, .inl (cI, 4001, .inl (fun _ => 0))), (r_begins, .inl (cI, 4001, .inl (fun _ => 0))), (r_ends, .inl (cI, 4001, .inl (fun _ => 0))), (r_values, .inl (cJ, 4001, .inr (.inl (fun _ => 0))))] s.heap := hP
  have hl := lv_entry ([.ref h0, .int 6, .int 0, .int 0, .long 0]) (n := 6) (Nat.le_of_ble_eq_true rfl)
  rw [lg_entry_eq]
  generalize (lg_sl ([.ref h0, .int 6, .int 0, .int 0, .long 0]) ++ List.replicate (6 - (lg_sl ([.ref h0, .int 6, .int 0, .int 0, .long 0])).length) Slot.unset).toArray = ls at hl ⊢
  have hl : lv_has ls 6 [(0, .ref h0), (1, .int 6), (2, .int 0), (3, .int 0), (4, .long 0)] := hl
  refine lv_aload_n hx hb dX6_addToken_0 rfl (lv_at hl 0 rfl) ?_
  refine va_get (D := (dC, dI)) (ci := 5) (v := .ref r_kinds) (C := RX6) (T := TX6) (N := 19) hx hb hts zz_in_zm_addToken_X6 hown hK hP 0 rfl rfl 3 (by decide +kernel) (hts (.fieldLink RX6 17 "FilterHouse$Reader" "kinds" "[I") (List.mem_of_getElem? (i := 1) rfl)) (fun _ h9 => h9) rfl dX6_addToken_1 ?_
  refine lv_aload_n hx hb dX6_addToken_4 rfl (lv_at hl 0 rfl) ?_
  refine va_get (D := (dC, dI)) (ci := 5) (v := .int 0) (C := RX6) (T := TX6) (N := 19) hx hb hts zz_in_zm_addToken_X6 hown hK hP 0 rfl rfl 7 (by decide +kernel) (hts (.fieldLink RX6 60 "FilterHouse$Reader" "tokens" "I") (List.mem_of_getElem? (i := 2) rfl)) (fun _ h9 => h9) rfl dX6_addToken_5 ?_
  refine lv_iload_n hx hb dX6_addToken_8 rfl (lv_at hl 1 rfl) ?_
  refine va_iast hx hb hK hP hD hS 1 1 rfl rfl (show ¬ ((0 : Int32) < 0 ∨ 4001 ≤ (0 : Int32).toNatClampNeg) by decide +kernel) dX6_addToken_9 (fun H locs hP hD hS => ?_)
  have hP : va_P (dC, dI) zz_cl [(h0, .inr (5, [.ref r_made, .int 0, .ref h1, .ref r_kinds, .ref r_begins, .ref r_ends, .ref r_values, .int 0, .int 0, .int 0, .ref r_labels, .int 0, .ref r_links, .int 0, .long 0, .long 0, .int 0, .int 0, .int 0])), (r_kinds, .inl (cI, 4001, .inl (upd (fun _ => 0) (0 : Int32).toNatClampNeg (6 : Int32)))), (r_begins, .inl (cI, 4001, .inl (fun _ => 0))), (r_ends, .inl (cI, 4001, .inl (fun _ => 0))), (r_values, .inl (cJ, 4001, .inr (.inl (fun _ => 0))))] H := hP
  have hD : va_D A [(h0, .inr (5, [.ref r_made, .int 0, .ref h1, .ref r_kinds, .ref r_begins, .ref r_ends, .ref r_values, .int 0, .int 0, .int 0, .ref r_labels, .int 0, .ref r_links, .int 0, .long 0, .long 0, .int 0, .int 0, .int 0])), (r_kinds, .inl (cI, 4001, .inl (upd (fun _ => 0) (0 : Int32).toNatClampNeg (6 : Int32)))), (r_begins, .inl (cI, 4001, .inl (fun _ => 0))), (r_ends, .inl (cI, 4001, .inl (fun _ => 0))), (r_values, .inl (cJ, 4001, .inr (.inl (fun _ => 0))))] := hD
  refine lv_aload_n hx hb dX6_addToken_10 rfl (lv_at hl 0 rfl) ?_
  refine va_get (D := (dC, dI)) (ci := 5) (v := .ref r_begins) (C := RX6) (T := TX6) (N := 19) hx hb hts zz_in_zm_addToken_X6 hown hK hP 0 rfl rfl 4 (by decide +kernel) (hts (.fieldLink RX6 21 "FilterHouse$Reader" "begins" "[I") (List.mem_of_getElem? (i := 3) rfl)) (fun _ h9 => h9) rfl dX6_addToken_11 ?_
  refine lv_aload_n hx hb dX6_addToken_14 rfl (lv_at hl 0 rfl) ?_
  refine va_get (D := (dC, dI)) (ci := 5) (v := .int 0) (C := RX6) (T := TX6) (N := 19) hx hb hts zz_in_zm_addToken_X6 hown hK hP 0 rfl rfl 7 (by decide +kernel) (hts (.fieldLink RX6 60 "FilterHouse$Reader" "tokens" "I") (List.mem_of_getElem? (i := 2) rfl)) (fun _ h9 => h9) rfl dX6_addToken_15 ?_
  refine lv_iload_n hx hb dX6_addToken_18 rfl (lv_at hl 2 rfl) ?_
  refine va_iast hx hb hK hP hD hS 2 1 rfl rfl (show ¬ ((0 : Int32) < 0 ∨ 4001 ≤ (0 : Int32).toNatClampNeg) by decide +kernel) dX6_addToken_19 (fun H locs hP hD hS => ?_)
  have hP : va_P (dC, dI) zz_cl [(h0, .inr (5, [.ref r_made, .int 0, .ref h1, .ref r_kinds, .ref r_begins, .ref r_ends, .ref r_values, .int 0, .int 0, .int 0, .ref r_labels, .int 0, .ref r_links, .int 0, .long 0, .long 0, .int 0, .int 0, .int 0])), (r_kinds, .inl (cI, 4001, .inl (upd (fun _ => 0) (0 : Int32).toNatClampNeg (6 : Int32)))), (r_begins, .inl (cI, 4001, .inl (upd (fun _ => 0) (0 : Int32).toNatClampNeg (0 : Int32)))), (r_ends, .inl (cI, 4001, .inl (fun _ => 0))), (r_values, .inl (cJ, 4001, .inr (.inl (fun _ => 0))))] H := hP
  have hD : va_D A [(h0, .inr (5, [.ref r_made, .int 0, .ref h1, .ref r_kinds, .ref r_begins, .ref r_ends, .ref r_values, .int 0, .int 0, .int 0, .ref r_labels, .int 0, .ref r_links, .int 0, .long 0, .long 0, .int 0, .int 0, .int 0])), (r_kinds, .inl (cI, 4001, .inl (upd (fun _ => 0) (0 : Int32).toNatClampNeg (6 : Int32)))), (r_begins, .inl (cI, 4001, .inl (upd (fun _ => 0) (0 : Int32).toNatClampNeg (0 : Int32)))), (r_ends, .inl (cI, 4001, .inl (fun _ => 0))), (r_values, .inl (cJ, 4001, .inr (.inl (fun _ => 0))))] := hD
  refine lv_aload_n hx hb dX6_addToken_20 rfl (lv_at hl 0 rfl) ?_
  refine va_get (D := (dC, dI)) (ci := 5) (v := .ref r_ends) (C := RX6) (T := TX6) (N := 19) hx hb hts zz_in_zm_addToken_X6 hown hK hP 0 rfl rfl 5 (by decide +kernel) (hts (.fieldLink RX6 24 "FilterHouse$Reader" "ends" "[I") (List.mem_of_getElem? (i := 4) rfl)) (fun _ h9 => h9) rfl dX6_addToken_21 ?_
  refine lv_aload_n hx hb dX6_addToken_24 rfl (lv_at hl 0 rfl) ?_
  refine va_get (D := (dC, dI)) (ci := 5) (v := .int 0) (C := RX6) (T := TX6) (N := 19) hx hb hts zz_in_zm_addToken_X6 hown hK hP 0 rfl rfl 7 (by decide +kernel) (hts (.fieldLink RX6 60 "FilterHouse$Reader" "tokens" "I") (List.mem_of_getElem? (i := 2) rfl)) (fun _ h9 => h9) rfl dX6_addToken_25 ?_
  refine lv_iload_n hx hb dX6_addToken_28 rfl (lv_at hl 3 rfl) ?_
  refine va_iast hx hb hK hP hD hS 3 1 rfl rfl (show ¬ ((0 : Int32) < 0 ∨ 4001 ≤ (0 : Int32).toNatClampNeg) by decide +kernel) dX6_addToken_29 (fun H locs hP hD hS => ?_)
  have hP : va_P (dC, dI) zz_cl [(h0, .inr (5, [.ref r_made, .int 0, .ref h1, .ref r_kinds, .ref r_begins, .ref r_ends, .ref r_values, .int 0, .int 0, .int 0, .ref r_labels, .int 0, .ref r_links, .int 0, .long 0, .long 0, .int 0, .int 0, .int 0])), (r_kinds, .inl (cI, 4001, .inl (upd (fun _ => 0) (0 : Int32).toNatClampNeg (6 : Int32)))), (r_begins, .inl (cI, 4001, .inl (upd (fun _ => 0) (0 : Int32).toNatClampNeg (0 : Int32)))), (r_ends, .inl (cI, 4001, .inl (upd (fun _ => 0) (0 : Int32).toNatClampNeg (0 : Int32)))), (r_values, .inl (cJ, 4001, .inr (.inl (fun _ => 0))))] H := hP
  have hD : va_D A [(h0, .inr (5, [.ref r_made, .int 0, .ref h1, .ref r_kinds, .ref r_begins, .ref r_ends, .ref r_values, .int 0, .int 0, .int 0, .ref r_labels, .int 0, .ref r_links, .int 0, .long 0, .long 0, .int 0, .int 0, .int 0])), (r_kinds, .inl (cI, 4001, .inl (upd (fun _ => 0) (0 : Int32).toNatClampNeg (6 : Int32)))), (r_begins, .inl (cI, 4001, .inl (upd (fun _ => 0) (0 : Int32).toNatClampNeg (0 : Int32)))), (r_ends, .inl (cI, 4001, .inl (upd (fun _ => 0) (0 : Int32).toNatClampNeg (0 : Int32)))), (r_values, .inl (cJ, 4001, .inr (.inl (fun _ => 0))))] := hD
  refine lv_aload_n hx hb dX6_addToken_30 rfl (lv_at hl 0 rfl) ?_
  refine va_get (D := (dC, dI)) (ci := 5) (v := .ref r_values) (C := RX6) (T := TX6) (N := 19) hx hb hts zz_in_zm_addToken_X6 hown hK hP 0 rfl rfl 6 (by decide +kernel) (hts (.fieldLink RX6 27 "FilterHouse$Reader" "values" "[J") (List.mem_of_getElem? (i := 5) rfl)) (fun _ h9 => h9) rfl dX6_addToken_31 ?_
  refine lv_aload_n hx hb dX6_addToken_34 rfl (lv_at hl 0 rfl) ?_
  refine va_get (D := (dC, dI)) (ci := 5) (v := .int 0) (C := RX6) (T := TX6) (N := 19) hx hb hts zz_in_zm_addToken_X6 hown hK hP 0 rfl rfl 7 (by decide +kernel) (hts (.fieldLink RX6 60 "FilterHouse$Reader" "tokens" "I") (List.mem_of_getElem? (i := 2) rfl)) (fun _ h9 => h9) rfl dX6_addToken_35 ?_
  refine lv_lload hx hb dX6_addToken_38 (lv_at hl 4 rfl) ?_
  refine va_last hx hb hK hP hD hS 4 2 rfl rfl (show ¬ ((0 : Int32) < 0 ∨ 4001 ≤ (0 : Int32).toNatClampNeg) by decide +kernel) dX6_addToken_40 (fun H locs hP hD hS => ?_)
  have hP : va_P (dC, dI) zz_cl [(h0, .inr (5, [.ref r_made, .int 0, .ref h1, .ref r_kinds, .ref r_begins, .ref r_ends, .ref r_values, .int 0, .int 0, .int 0, .ref r_labels, .int 0, .ref r_links, .int 0, .long 0, .long 0, .int 0, .int 0, .int 0])), (r_kinds, .inl (cI, 4001, .inl (upd (fun _ => 0) (0 : Int32).toNatClampNeg (6 : Int32)))), (r_begins, .inl (cI, 4001, .inl (upd (fun _ => 0) (0 : Int32).toNatClampNeg (0 : Int32)))), (r_ends, .inl (cI, 4001, .inl (upd (fun _ => 0) (0 : Int32).toNatClampNeg (0 : Int32)))), (r_values, .inl (cJ, 4001, .inr (.inl (vp_updL (fun _ => 0) (0 : Int32).toNatClampNeg 0))))] H := hP
  have hD : va_D A [(h0, .inr (5, [.ref r_made, .int 0, .ref h1, .ref r_kinds, .ref r_begins, .ref r_ends, .ref r_values, .int 0, .int 0, .int 0, .ref r_labels, .int 0, .ref r_links, .int 0, .long 0, .long 0, .int 0, .int 0, .int 0])), (r_kinds, .inl (cI, 4001, .inl (upd (fun _ => 0) (0 : Int32).toNatClampNeg (6 : Int32)))), (r_begins, .inl (cI, 4001, .inl (upd (fun _ => 0) (0 : Int32).toNatClampNeg (0 : Int32)))), (r_ends, .inl (cI, 4001, .inl (upd (fun _ => 0) (0 : Int32).toNatClampNeg (0 : Int32)))), (r_values, .inl (cJ, 4001, .inr (.inl (vp_updL (fun _ => 0) (0 : Int32).toNatClampNeg 0))))] := hD
  refine lv_aload_n hx hb dX6_addToken_41 rfl (lv_at hl 0 rfl) ?_
  refine lv_dup hx hb dX6_addToken_42 rfl ?_
  refine va_get (D := (dC, dI)) (ci := 5) (v := .int 0) (C := RX6) (T := TX6) (N := 19) hx hb hts zz_in_zm_addToken_X6 hown hK hP 0 rfl rfl 7 (by decide +kernel) (hts (.fieldLink RX6 60 "FilterHouse$Reader" "tokens" "I") (List.mem_of_getElem? (i := 2) rfl)) (fun _ h9 => h9) rfl dX6_addToken_43 ?_
  refine lv_iconst (v := 1) hx hb dX6_addToken_46 (by decide +kernel) ?_
  refine lv_iadd hx hb dX6_addToken_47 ?_
  refine lv_topi (fun f_5 ef_5 => ?_)
  obtain rfl : f_5 = (1 : Int32) := ef_5.trans (by decide +kernel)
  refine va_put (D := (dC, dI)) (ci := 5) (v := .int 1) (ty := .int) (C := RX6) (T := TX6) (N := 19) hx hb hts zz_in_zm_addToken_X6 tyX6 tyX6_ok nmX6 hown hK hP hD hS 0 rfl rfl 7 (by decide +kernel) (hts (.fieldLink RX6 60 "FilterHouse$Reader" "tokens" "I") (List.mem_of_getElem? (i := 2) rfl)) (fun _ h9 => h9) rfl (by decide +kernel) rfl rfl (Nat.le_of_ble_eq_true rfl) dX6_addToken_48 (fun H locs hP hD hS => ?_)
  have hP : va_P (dC, dI) zz_cl [(h0, .inr (5, [.ref r_made, .int 0, .ref h1, .ref r_kinds, .ref r_begins, .ref r_ends, .ref r_values, .int 1, .int 0, .int 0, .ref r_labels, .int 0, .ref r_links, .int 0, .long 0, .long 0, .int 0, .int 0, .int 0])), (r_kinds, .inl (cI, 4001, .inl (upd (fun _ => 0) (0 : Int32).toNatClampNeg (6 : Int32)))), (r_begins, .inl (cI, 4001, .inl (upd (fun _ => 0) (0 : Int32).toNatClampNeg (0 : Int32)))), (r_ends, .inl (cI, 4001, .inl (upd (fun _ => 0) (0 : Int32).toNatClampNeg (0 : Int32)))), (r_values, .inl (cJ, 4001, .inr (.inl (vp_updL (fun _ => 0) (0 : Int32).toNatClampNeg 0))))] H := hP
  have hD : va_D A [(h0, .inr (5, [.ref r_made, .int 0, .ref h1, .ref r_kinds, .ref r_begins, .ref r_ends, .ref r_values, .int 1, .int 0, .int 0, .ref r_labels, .int 0, .ref r_links, .int 0, .long 0, .long 0, .int 0, .int 0, .int 0])), (r_kinds, .inl (cI, 4001, .inl (upd (fun _ => 0) (0 : Int32).toNatClampNeg (6 : Int32)))), (r_begins, .inl (cI, 4001, .inl (upd (fun _ => 0) (0 : Int32).toNatClampNeg (0 : Int32)))), (r_ends, .inl (cI, 4001, .inl (upd (fun _ => 0) (0 : Int32).toNatClampNeg (0 : Int32)))), (r_values, .inl (cJ, 4001, .inr (.inl (vp_updL (fun _ => 0) (0 : Int32).toNatClampNeg 0))))] := hD
  have hP9 := hP.sub (ws' := [(h0, .inr (5, [.ref r_made, .int 0, .ref h1, .ref r_kinds, .ref r_begins, .ref r_ends, .ref r_values, .int 1, .int 0, .int 0, .ref r_labels, .int 0, .ref r_links, .int 0, .long 0, .long 0, .int 0, .int 0, .int 0])), (r_kinds, .inl (cI, 4001, .inl (upd (fun _ => 0) (0 : Int32).toNatClampNeg (6 : Int32)))), (r_begins, .inl (cI, 4001, .inl (upd (fun _ => 0) (0 : Int32).toNatClampNeg (0 : Int32)))), (r_ends, .inl (cI, 4001, .inl (upd (fun _ => 0) (0 : Int32).toNatClampNeg (0 : Int32)))), (r_values, .inl (cJ, 4001, .inr (.inl (vp_updL (fun _ => 0) (0 : Int32).toNatClampNeg 0))))]) [0, 1, 2, 3, 4] rfl
  have hD9 := hD.sub (ws' := [(h0, .inr (5, [.ref r_made, .int 0, .ref h1, .ref r_kinds, .ref r_begins, .ref r_ends, .ref r_values, .int 1, .int 0, .int 0, .ref r_labels, .int 0, .ref r_links, .int 0, .long 0, .long 0, .int 0, .int 0, .int 0])), (r_kinds, .inl (cI, 4001, .inl (upd (fun _ => 0) (0 : Int32).toNatClampNeg (6 : Int32)))), (r_begins, .inl (cI, 4001, .inl (upd (fun _ => 0) (0 : Int32).toNatClampNeg (0 : Int32)))), (r_ends, .inl (cI, 4001, .inl (upd (fun _ => 0) (0 : Int32).toNatClampNeg (0 : Int32)))), (r_values, .inl (cJ, 4001, .inr (.inl (vp_updL (fun _ => 0) (0 : Int32).toNatClampNeg 0))))]) [0, 1, 2, 3, 4] (by decide +kernel) rfl
  exact W.vret hx hb hr (fun t ht hW => ⟨⟨(), rfl, trivial, by rw [ht]; exact hP9, hD9⟩, hS.F ht⟩) hS.2.2 dX6_addToken_51
def zw_zm_findTokens : List Cond := .code yX6_findTokens cX6_findTokens 5 none :: ([.fieldLink RX6 60 "FilterHouse$Reader" "tokens" "I", .fieldLink RX6 17 "FilterHouse$Reader" "kinds" "[I", .fieldLink RX6 21 "FilterHouse$Reader" "begins" "[I", .fieldLink RX6 24 "FilterHouse$Reader" "ends" "[I", .fieldLink RX6 27 "FilterHouse$Reader" "values" "[J", .code yX6_addToken cX6_addToken 6 none, .methodLink RX6 78 yX6_addToken, .instanceMethod yX6_addToken, .selects RX6 yX6_addToken yX6_addToken, .initialized RX6] ++ (wsX60 ++ []))
theorem zz_in_zm_findTokens_X6 : ∀ w ∈ wsX60, w ∈ zw_zm_findTokens := fun w h => List.mem_cons_of_mem _ (List.mem_append_right _ (List.mem_append_left _ h))
set_option maxRecDepth 20000 in
theorem zz_g_zm_findTokens_zm_addToken : GoodIn zw_zm_findTokens zw_zm_addToken := goodIn_ca (goodIn_r ([.code yX6_addToken cX6_addToken 6 none, .fieldLink RX6 17 "FilterHouse$Reader" "kinds" "[I", .fieldLink RX6 60 "FilterHouse$Reader" "tokens" "I", .fieldLink RX6 21 "FilterHouse$Reader" "begins" "[I", .fieldLink RX6 24 "FilterHouse$Reader" "ends" "[I", .fieldLink RX6 27 "FilterHouse$Reader" "values" "[J"]) [6, 2, 1, 3, 4, 5] rfl (by decide +kernel)) (goodIn_app (goodIn_sub zz_in_zm_findTokens_X6 zz_gw_X6) (goodIn_sub (fun _ h => absurd h List.not_mem_nil) rfl))
set_option maxHeartbeats 1000000 in
set_option maxRecDepth 100000 in
/-- zm_findTokens -/
theorem zm_findTokens (l : Launch) (dC : Nat → ClassId) (dI : Nat → Nat → Nat) (cB cI cJ cZ : ClassId) (h0 r_kinds r_begins r_ends r_values r_made h1 r_labels r_links : Nat) (sz : Nat) : Met l yX6_findTokens zw_zm_findTokens ({ frames := 1, cells := 0, slots := 0, locals := 25 }) (va_Pc [.ref h0, .int 0] (fun U => U.heap.size = sz ∧ va_P (dC, dI) zz_cl [(h0, .inr (5, [.ref r_made, .int 0, .ref h1, .ref r_kinds, .ref r_begins, .ref r_ends, .ref r_values, .int 0, .int 0, .int 0, .ref r_labels, .int 0, .ref r_links, .int 0, .long 0, .long 0, .int 0, .int 0, .int 0])), (r_kinds, .inl (cI, 4001, .inl (fun _ => 0))), (r_begins, .inl (cI, 4001, .inl (fun _ => 0))), (r_ends, .inl (cI, 4001, .inl (fun _ => 0))), (r_values, .inl (cJ, 4001, .inr (.inl (fun _ => 0))))] U.heap ∧ va_K (dC, dI) zz_cl [(cB, .byte), (cI, .int), (cJ, .long), (cZ, .boolean)] U ∧ va_D (fun _ => True) [(h0, .inr (5, [.ref r_made, .int 0, .ref h1, .ref r_kinds, .ref r_begins, .ref r_ends, .ref r_values, .int 0, .int 0, .int 0, .ref r_labels, .int 0, .ref r_links, .int 0, .long 0, .long 0, .int 0, .int 0, .int 0])), (r_kinds, .inl (cI, 4001, .inl (fun _ => 0))), (r_begins, .inl (cI, 4001, .inl (fun _ => 0))), (r_ends, .inl (cI, 4001, .inl (fun _ => 0))), (r_values, .inl (cJ, 4001, .inr (.inl (fun _ => 0))))])) (va_Qv (fun (_ : Unit) => True) (fun (_ : Unit) t => va_P (dC, dI) zz_cl [(h0, .inr (5, [.ref r_made, .int 0, .ref h1, .ref r_kinds, .ref r_begins, .ref r_ends, .ref r_values, .int 1, .int 0, .int 0, .ref r_labels, .int 0, .ref r_links, .int 0, .long 0, .long 0, .int 0, .int 0, .int 0])), (r_kinds, .inl (cI, 4001, .inl (upd (fun _ => 0) (0 : Int32).toNatClampNeg (6 : Int32)))), (r_begins, .inl (cI, 4001, .inl (upd (fun _ => 0) (0 : Int32).toNatClampNeg (0 : Int32)))), (r_ends, .inl (cI, 4001, .inl (upd (fun _ => 0) (0 : Int32).toNatClampNeg (0 : Int32)))), (r_values, .inl (cJ, 4001, .inr (.inl (vp_updL (fun _ => 0) (0 : Int32).toNatClampNeg 0))))] t.heap ∧ va_D (va_A [(h0, .inr (5, [.ref r_made, .int 0, .ref h1, .ref r_kinds, .ref r_begins, .ref r_ends, .ref r_values, .int 0, .int 0, .int 0, .ref r_labels, .int 0, .ref r_links, .int 0, .long 0, .long 0, .int 0, .int 0, .int 0])), (r_kinds, .inl (cI, 4001, .inl (fun _ => 0))), (r_begins, .inl (cI, 4001, .inl (fun _ => 0))), (r_ends, .inl (cI, 4001, .inl (fun _ => 0))), (r_values, .inl (cJ, 4001, .inr (.inl (fun _ => 0))))] sz) [(h0, .inr (5, [.ref r_made, .int 0, .ref h1, .ref r_kinds, .ref r_begins, .ref r_ends, .ref r_values, .int 1, .int 0, .int 0, .ref r_labels, .int 0, .ref r_links, .int 0, .long 0, .long 0, .int 0, .int 0, .int 0])), (r_kinds, .inl (cI, 4001, .inl (upd (fun _ => 0) (0 : Int32).toNatClampNeg (6 : Int32)))), (r_begins, .inl (cI, 4001, .inl (upd (fun _ => 0) (0 : Int32).toNatClampNeg (0 : Int32)))), (r_ends, .inl (cI, 4001, .inl (upd (fun _ => 0) (0 : Int32).toNatClampNeg (0 : Int32)))), (r_values, .inl (cJ, 4001, .inr (.inl (vp_updL (fun _ => 0) (0 : Int32).toNatClampNeg 0))))]) (va_A [(h0, .inr (5, [.ref r_made, .int 0, .ref h1, .ref r_kinds, .ref r_begins, .ref r_ends, .ref r_values, .int 0, .int 0, .int 0, .ref r_labels, .int 0, .ref r_links, .int 0, .long 0, .long 0, .int 0, .int 0, .int 0])), (r_kinds, .inl (cI, 4001, .inl (fun _ => 0))), (r_begins, .inl (cI, 4001, .inl (fun _ => 0))), (r_ends, .inl (cI, 4001, .inl (fun _ => 0))), (r_values, .inl (cJ, 4001, .inr (.inl (fun _ => 0))))] sz)) 0 0 (va_A [(h0, .inr (5, [.ref r_made, .int 0, .ref h1, .ref r_kinds, .ref r_begins, .ref r_ends, .ref r_values, .int 0, .int 0, .int 0, .ref r_labels, .int 0, .ref r_links, .int 0, .long 0, .long 0, .int 0, .int 0, .int 0])), (r_kinds, .inl (cI, 4001, .inl (fun _ => 0))), (r_begins, .inl (cI, 4001, .inl (fun _ => 0))), (r_ends, .inl (cI, 4001, .inl (fun _ => 0))), (r_values, .inl (cJ, 4001, .inr (.inl (fun _ => 0))))] sz) := by
  refine Met.ofW (cc := cX6_findTokens) (maxL := 5) (ret := none) (by decide +kernel) rfl ?_
  intro p e s m args below meth c s₁ B hml hv
  obtain ⟨rfl, hsz, hP, hK, hD0⟩ := hv
  have hx := B.exec
  have hb := B.bytes
  have hr := B.returns
  have hts := atoms_spec (ws := zw_zm_findTokens) B.pre
  have hown : s.vm.findClass RX6 = some m.cls := findClass_of_methodNamed B.named
  have hlocks := B.notSynchronized
  subst hsz
  have hD := hD0.self (sz := s.heap.size)
  generalize hAe : va_A [(h0, .inr (5, [.ref r_made, .int 0, .ref h1, .ref r_kinds, .ref r_begins, .ref r_ends, .ref r_values, .int 0, .int 0, .int 0, .ref r_labels, .int 0, .ref r_links, .int 0, .long 0, .long 0, .int 0, .int 0, .int 0])), (r_kinds, .inl (cI, 4001, .inl (fun _ => 0))), (r_begins, .inl (cI, 4001, .inl (fun _ => 0))), (r_ends, .inl (cI, 4001, .inl (fun _ => 0))), (r_values, .inl (cJ, 4001, .inr (.inl (fun _ => 0))))] s.heap.size = A at hD ⊢
  have hA : ∀ q : Nat, s.heap.size ≤ q → A q := fun q h => by rw [← hAe]; exact Or.inr h
  have hS : va_S A s.heap s.heap [] := va_S.rf
  have hP : va_P (dC, dI) zz_cl [(h0, .inr (5, [.ref r_made, .int 0, .ref h1, .ref r_kinds, .ref r_begins, .ref r_ends, .ref r_values, .int 0, .int 0, .int 0, .ref r_labels, .int 0, .ref r_links, .int 0, .long 0, .long 0, .int 0, .int 0, .int 0])), (r_kinds, .inl (cI, 4001, .inl (fun _ => 0))), (r_begins, .inl (cI, 4001, .inl (fun _ => 0))), (r_ends, .inl (cI, 4001, .inl (fun _ => 0))), (r_values, .inl (cJ, 4001, .inr (.inl (fun _ => 0))))] s.heap := hP
  have hl := lv_entry ([.ref h0, .int 0]) (n := 5) (Nat.le_of_ble_eq_true rfl)
  rw [lg_entry_eq]
  generalize (lg_sl ([.ref h0, .int 0]) ++ List.replicate (5 - (lg_sl ([.ref h0, .int 0])).length) Slot.unset).toArray = ls at hl ⊢
  have hl : lv_has ls 5 [(0, .ref h0), (1, .int 0)] := hl
  refine lv_aload_n hx hb dX6_findTokens_0 rfl (lv_at hl 0 rfl) ?_
  refine lv_iconst (v := 0) hx hb dX6_findTokens_1 (by decide +kernel) ?_
  refine va_put (D := (dC, dI)) (ci := 5) (v := .int 0) (ty := .int) (C := RX6) (T := TX6) (N := 19) hx hb hts zz_in_zm_findTokens_X6 tyX6 tyX6_ok nmX6 hown hK hP hD hS 0 rfl rfl 7 (by decide +kernel) (hts (.fieldLink RX6 60 "FilterHouse$Reader" "tokens" "I") (List.mem_of_getElem? (i := 1) rfl)) (fun _ h9 => h9) rfl (by decide +kernel) rfl rfl (Nat.le_of_ble_eq_true rfl) dX6_findTokens_2 (fun H locs hP hD hS => ?_)
  have hP : va_P (dC, dI) zz_cl [(h0, .inr (5, [.ref r_made, .int 0, .ref h1, .ref r_kinds, .ref r_begins, .ref r_ends, .ref r_values, .int 0, .int 0, .int 0, .ref r_labels, .int 0, .ref r_links, .int 0, .long 0, .long 0, .int 0, .int 0, .int 0])), (r_kinds, .inl (cI, 4001, .inl (fun _ => 0))), (r_begins, .inl (cI, 4001, .inl (fun _ => 0))), (r_ends, .inl (cI, 4001, .inl (fun _ => 0))), (r_values, .inl (cJ, 4001, .inr (.inl (fun _ => 0))))] H := hP
  have hD : va_D A [(h0, .inr (5, [.ref r_made, .int 0, .ref h1, .ref r_kinds, .ref r_begins, .ref r_ends, .ref r_values, .int 0, .int 0, .int 0, .ref r_labels, .int 0, .ref r_links, .int 0, .long 0, .long 0, .int 0, .int 0, .int 0])), (r_kinds, .inl (cI, 4001, .inl (fun _ => 0))), (r_begins, .inl (cI, 4001, .inl (fun _ => 0))), (r_ends, .inl (cI, 4001, .inl (fun _ => 0))), (r_values, .inl (cJ, 4001, .inr (.inl (fun _ => 0))))] := hD
  refine lv_iconst (v := 0) hx hb dX6_findTokens_5 (by decide +kernel) ?_
  refine lv_istore_n (lv' := [(2, .int 0), (0, .ref h0), (1, .int 0)]) hx hb dX6_findTokens_6 rfl hl (by decide +kernel) rfl (fun ls hl => ?_)
  refine lv_iconst (v := 0) hx hb dX6_findTokens_7 (by decide +kernel) ?_
  refine lv_istore_n (lv' := [(3, .int 0), (2, .int 0), (0, .ref h0), (1, .int 0)]) hx hb dX6_findTokens_8 rfl hl (by decide +kernel) rfl (fun ls hl => ?_)
  refine lv_iload_n hx hb dX6_findTokens_9 rfl (lv_at hl 0 rfl) ?_
  refine lv_sipush (v := 4000) hx hb dX6_findTokens_10 (by decide +kernel) ?_
  refine lv_icmp_gt (tgt := 85) hx hb dX6_findTokens_13 (by decide +kernel) (fun c_1 => ?_) (fun c_1 => ?_)
  · exact absurd c_1 (by decide +kernel)
  · refine lv_iload_n hx hb dX6_findTokens_16 rfl (lv_at hl 1 rfl) ?_
    refine lv_iload_n hx hb dX6_findTokens_17 rfl (lv_at hl 3 rfl) ?_
    refine lv_icmp_ge (tgt := 85) hx hb dX6_findTokens_18 (by decide +kernel) (fun c_2 => ?_) (fun c_2 => ?_)
    · refine lv_aload_n hx hb dX6_findTokens_85 rfl (lv_at hl 2 rfl) ?_
      refine lv_bipush (v := 6) hx hb dX6_findTokens_86 (by decide +kernel) ?_
      refine lv_iload_n hx hb dX6_findTokens_88 rfl (lv_at hl 3 rfl) ?_
      refine lv_iload_n hx hb dX6_findTokens_89 rfl (lv_at hl 3 rfl) ?_
      refine lv_lconst (v := 0) hx hb dX6_findTokens_90 rfl ?_
      have hPc := hP.sub (ws' := [(h0, .inr (5, [.ref r_made, .int 0, .ref h1, .ref r_kinds, .ref r_begins, .ref r_ends, .ref r_values, .int 0, .int 0, .int 0, .ref r_labels, .int 0, .ref r_links, .int 0, .long 0, .long 0, .int 0, .int 0, .int 0])), (r_kinds, .inl (cI, 4001, .inl (fun _ => 0))), (r_begins, .inl (cI, 4001, .inl (fun _ => 0))), (r_ends, .inl (cI, 4001, .inl (fun _ => 0))), (r_values, .inl (cJ, 4001, .inr (.inl (fun _ => 0))))]) [0, 1, 2, 3, 4] rfl
      have hDc := hD.sub (ws' := [(h0, .inr (5, [.ref r_made, .int 0, .ref h1, .ref r_kinds, .ref r_begins, .ref r_ends, .ref r_values, .int 0, .int 0, .int 0, .ref r_labels, .int 0, .ref r_links, .int 0, .long 0, .long 0, .int 0, .int 0, .int 0])), (r_kinds, .inl (cI, 4001, .inl (fun _ => 0))), (r_begins, .inl (cI, 4001, .inl (fun _ => 0))), (r_ends, .inl (cI, 4001, .inl (fun _ => 0))), (r_values, .inl (cJ, 4001, .inr (.inl (fun _ => 0))))]) [0, 1, 2, 3, 4] (by decide +kernel) rfl
      have hFc := va_free (wc := [(h0, .inr (5, [.ref r_made, .int 0, .ref h1, .ref r_kinds, .ref r_begins, .ref r_ends, .ref r_values, .int 0, .int 0, .int 0, .ref r_labels, .int 0, .ref r_links, .int 0, .long 0, .long 0, .int 0, .int 0, .int 0])), (r_kinds, .inl (cI, 4001, .inl (fun _ => 0))), (r_begins, .inl (cI, 4001, .inl (fun _ => 0))), (r_ends, .inl (cI, 4001, .inl (fun _ => 0))), (r_values, .inl (cJ, 4001, .inr (.inl (fun _ => 0))))]) hD hS hA [0, 1, 2, 3, 4] rfl
      refine va_callv (va_runV (As := [.int 6, .int 0, .int 0, .long 0]) (rest := []) ⟨hx, hb, hml, hown, hts⟩ (zm_addToken l dC dI cB cI cJ cZ h0 r_kinds r_begins r_ends r_values r_made h1 r_labels r_links H.size) (cwV 4 hts (goodIn_app (goodIn_r [.methodLink RX6 78 yX6_addToken, .instanceMethod yX6_addToken, .selects RX6 yX6_addToken yX6_addToken, .initialized RX6] [7, 8, 9, 10] rfl (by decide +kernel)) zz_g_zm_findTokens_zm_addToken) rfl rfl rfl (by decide +kernel) ⟨Nat.le_of_ble_eq_true rfl, Nat.le_of_ble_eq_true rfl⟩) ⟨fun a U g mk q => by obtain ⟨q0, q1, qP, qK, qD⟩ := q; exact ⟨q0, q1, qP, va_K.moved (u := U) (U := U.calling g mk a) (Vm.Alike.refl U.vm) qK, qD⟩, va_recv hK hPc (ci := 5) (q0 := 0) rfl rfl, fun U hU hW => ⟨rfl, by rw [hU], by rw [hU]; exact hPc, va_K.moved hW.alike hK, hDc.weaken (fun _ _ _ _ => trivial)⟩⟩ rfl rfl hl.1 rfl (lv_room (Nat.le_of_ble_eq_true rfl)) dX6_findTokens_91 ⟨Nat.le_of_ble_eq_true rfl, Nat.le_of_ble_eq_true rfl⟩) hS (fun q _ h => hFc q h) hFc (fun u_5 t H1 locs ht hvm hw_4 hB hz1 hk1 hS => ?_)
      obtain ⟨hP1, hD1⟩ := hB
      rw [ht] at hP1
      obtain ⟨hP, hD⟩ := va_join (wr := []) (w1 := [(h0, .inr (5, [.ref r_made, .int 0, .ref h1, .ref r_kinds, .ref r_begins, .ref r_ends, .ref r_values, .int 1, .int 0, .int 0, .ref r_labels, .int 0, .ref r_links, .int 0, .long 0, .long 0, .int 0, .int 0, .int 0])), (r_kinds, .inl (cI, 4001, .inl (upd (fun _ => 0) (0 : Int32).toNatClampNeg (6 : Int32)))), (r_begins, .inl (cI, 4001, .inl (upd (fun _ => 0) (0 : Int32).toNatClampNeg (0 : Int32)))), (r_ends, .inl (cI, 4001, .inl (upd (fun _ => 0) (0 : Int32).toNatClampNeg (0 : Int32)))), (r_values, .inl (cJ, 4001, .inr (.inl (vp_updL (fun _ => 0) (0 : Int32).toNatClampNeg 0))))]) hP hD [0, 1, 2, 3, 4] [] rfl rfl (by decide +kernel) (by decide +kernel) hk1 hFc hP1 hD1
      generalize H1 = H at hP hS ⊢
      have hP : va_P (dC, dI) zz_cl [(h0, .inr (5, [.ref r_made, .int 0, .ref h1, .ref r_kinds, .ref r_begins, .ref r_ends, .ref r_values, .int 1, .int 0, .int 0, .ref r_labels, .int 0, .ref r_links, .int 0, .long 0, .long 0, .int 0, .int 0, .int 0])), (r_kinds, .inl (cI, 4001, .inl (upd (fun _ => 0) (0 : Int32).toNatClampNeg (6 : Int32)))), (r_begins, .inl (cI, 4001, .inl (upd (fun _ => 0) (0 : Int32).toNatClampNeg (0 : Int32)))), (r_ends, .inl (cI, 4001, .inl (upd (fun _ => 0) (0 : Int32).toNatClampNeg (0 : Int32)))), (r_values, .inl (cJ, 4001, .inr (.inl (vp_updL (fun _ => 0) (0 : Int32).toNatClampNeg 0))))] H := hP
      have hD : va_D A [(h0, .inr (5, [.ref r_made, .int 0, .ref h1, .ref r_kinds, .ref r_begins, .ref r_ends, .ref r_values, .int 1, .int 0, .int 0, .ref r_labels, .int 0, .ref r_links, .int 0, .long 0, .long 0, .int 0, .int 0, .int 0])), (r_kinds, .inl (cI, 4001, .inl (upd (fun _ => 0) (0 : Int32).toNatClampNeg (6 : Int32)))), (r_begins, .inl (cI, 4001, .inl (upd (fun _ => 0) (0 : Int32).toNatClampNeg (0 : Int32)))), (r_ends, .inl (cI, 4001, .inl (upd (fun _ => 0) (0 : Int32).toNatClampNeg (0 : Int32)))), (r_values, .inl (cJ, 4001, .inr (.inl (vp_updL (fun _ => 0) (0 : Int32).toNatClampNeg 0))))] := hD
      have hP9 := hP.sub (ws' := [(h0, .inr (5, [.ref r_made, .int 0, .ref h1, .ref r_kinds, .ref r_begins, .ref r_ends, .ref r_values, .int 1, .int 0, .int 0, .ref r_labels, .int 0, .ref r_links, .int 0, .long 0, .long 0, .int 0, .int 0, .int 0])), (r_kinds, .inl (cI, 4001, .inl (upd (fun _ => 0) (0 : Int32).toNatClampNeg (6 : Int32)))), (r_begins, .inl (cI, 4001, .inl (upd (fun _ => 0) (0 : Int32).toNatClampNeg (0 : Int32)))), (r_ends, .inl (cI, 4001, .inl (upd (fun _ => 0) (0 : Int32).toNatClampNeg (0 : Int32)))), (r_values, .inl (cJ, 4001, .inr (.inl (vp_updL (fun _ => 0) (0 : Int32).toNatClampNeg 0))))]) [0, 1, 2, 3, 4] rfl
      have hD9 := hD.sub (ws' := [(h0, .inr (5, [.ref r_made, .int 0, .ref h1, .ref r_kinds, .ref r_begins, .ref r_ends, .ref r_values, .int 1, .int 0, .int 0, .ref r_labels, .int 0, .ref r_links, .int 0, .long 0, .long 0, .int 0, .int 0, .int 0])), (r_kinds, .inl (cI, 4001, .inl (upd (fun _ => 0) (0 : Int32).toNatClampNeg (6 : Int32)))), (r_begins, .inl (cI, 4001, .inl (upd (fun _ => 0) (0 : Int32).toNatClampNeg (0 : Int32)))), (r_ends, .inl (cI, 4001, .inl (upd (fun _ => 0) (0 : Int32).toNatClampNeg (0 : Int32)))), (r_values, .inl (cJ, 4001, .inr (.inl (vp_updL (fun _ => 0) (0 : Int32).toNatClampNeg 0))))]) [0, 1, 2, 3, 4] (by decide +kernel) rfl
      exact W.vret hx hb hr (fun t ht hW => ⟨⟨(), rfl, trivial, by rw [ht]; exact hP9, hD9⟩, hS.F ht⟩) hS.2.2 dX6_findTokens_94
    · exact absurd c_2 (by decide +kernel)
def zw_zm_readLine : List Cond := .code yX6_readLine cX6_readLine 4 (some .boolean) :: ([.fieldLink RX6 17 "FilterHouse$Reader" "kinds" "[I", .fieldLink RX6 44 "FilterHouse$Reader" "at" "I"] ++ (wsX60 ++ []))
theorem zz_in_zm_readLine_X6 : ∀ w ∈ wsX60, w ∈ zw_zm_readLine := fun w h => List.mem_cons_of_mem _ (List.mem_append_right _ (List.mem_append_left _ h))
set_option maxHeartbeats 1000000 in
set_option maxRecDepth 100000 in
/-- zm_readLine -/
theorem zm_readLine (l : Launch) (dC : Nat → ClassId) (dI : Nat → Nat → Nat) (cB cI cJ cZ : ClassId) (h0 r_kinds r_made h1 r_begins r_ends r_values r_labels r_links : Nat) (sz : Nat) : Met l yX6_readLine zw_zm_readLine ({ frames := 0, cells := 0, slots := 0, locals := 0 }) (va_Pc [.ref h0] (fun U => U.heap.size = sz ∧ va_P (dC, dI) zz_cl [(h0, .inr (5, [.ref r_made, .int 0, .ref h1, .ref r_kinds, .ref r_begins, .ref r_ends, .ref r_values, .int 1, .int 0, .int (-1), .ref r_labels, .int 0, .ref r_links, .int 0, .long 0, .long 0, .int 0, .int 0, .int 0])), (r_kinds, .inl (cI, 4001, .inl (upd (fun _ => 0) (0 : Int32).toNatClampNeg (6 : Int32))))] U.heap ∧ va_K (dC, dI) zz_cl [(cB, .byte), (cI, .int), (cJ, .long), (cZ, .boolean)] U ∧ va_D (fun _ => True) [(h0, .inr (5, [.ref r_made, .int 0, .ref h1, .ref r_kinds, .ref r_begins, .ref r_ends, .ref r_values, .int 1, .int 0, .int (-1), .ref r_labels, .int 0, .ref r_links, .int 0, .long 0, .long 0, .int 0, .int 0, .int 0])), (r_kinds, .inl (cI, 4001, .inl (upd (fun _ => 0) (0 : Int32).toNatClampNeg (6 : Int32))))])) (va_Qi (fun (r : Int32) (_ : Unit) => r = 1) (fun (_ : Unit) t => va_P (dC, dI) zz_cl [(h0, .inr (5, [.ref r_made, .int 0, .ref h1, .ref r_kinds, .ref r_begins, .ref r_ends, .ref r_values, .int 1, .int 0, .int (-1), .ref r_labels, .int 0, .ref r_links, .int 0, .long 0, .long 0, .int 0, .int 0, .int 0])), (r_kinds, .inl (cI, 4001, .inl (upd (fun _ => 0) (0 : Int32).toNatClampNeg (6 : Int32))))] t.heap ∧ va_D (va_A [(h0, .inr (5, [.ref r_made, .int 0, .ref h1, .ref r_kinds, .ref r_begins, .ref r_ends, .ref r_values, .int 1, .int 0, .int (-1), .ref r_labels, .int 0, .ref r_links, .int 0, .long 0, .long 0, .int 0, .int 0, .int 0])), (r_kinds, .inl (cI, 4001, .inl (upd (fun _ => 0) (0 : Int32).toNatClampNeg (6 : Int32))))] sz) [(h0, .inr (5, [.ref r_made, .int 0, .ref h1, .ref r_kinds, .ref r_begins, .ref r_ends, .ref r_values, .int 1, .int 0, .int (-1), .ref r_labels, .int 0, .ref r_links, .int 0, .long 0, .long 0, .int 0, .int 0, .int 0])), (r_kinds, .inl (cI, 4001, .inl (upd (fun _ => 0) (0 : Int32).toNatClampNeg (6 : Int32))))]) (va_A [(h0, .inr (5, [.ref r_made, .int 0, .ref h1, .ref r_kinds, .ref r_begins, .ref r_ends, .ref r_values, .int 1, .int 0, .int (-1), .ref r_labels, .int 0, .ref r_links, .int 0, .long 0, .long 0, .int 0, .int 0, .int 0])), (r_kinds, .inl (cI, 4001, .inl (upd (fun _ => 0) (0 : Int32).toNatClampNeg (6 : Int32))))] sz)) 0 0 (va_A [(h0, .inr (5, [.ref r_made, .int 0, .ref h1, .ref r_kinds, .ref r_begins, .ref r_ends, .ref r_values, .int 1, .int 0, .int (-1), .ref r_labels, .int 0, .ref r_links, .int 0, .long 0, .long 0, .int 0, .int 0, .int 0])), (r_kinds, .inl (cI, 4001, .inl (upd (fun _ => 0) (0 : Int32).toNatClampNeg (6 : Int32))))] sz) := by
  refine Met.ofW (cc := cX6_readLine) (maxL := 4) (ret := (some .boolean)) (by decide +kernel) rfl ?_
  intro p e s m args below meth c s₁ B hml hv
  obtain ⟨rfl, hsz, hP, hK, hD0⟩ := hv
  have hx := B.exec
  have hb := B.bytes
  have hr := B.returns
  have hts := atoms_spec (ws := zw_zm_readLine) B.pre
  have hown : s.vm.findClass RX6 = some m.cls := findClass_of_methodNamed B.named
  have hlocks := B.notSynchronized
  subst hsz
  have hD := hD0.self (sz := s.heap.size)
  generalize hAe : va_A [(h0, .inr (5, [.ref r_made, .int 0, .ref h1, .ref r_kinds, .ref r_begins, .ref r_ends, .ref r_values, .int 1, .int 0, .int (-1), .ref r_labels, .int 0, .ref r_links, .int 0, .long 0, .long 0, .int 0, .int 0, .int 0])), (r_kinds, .inl (cI, 4001, .inl (upd (fun _ => 0) (0 : Int32).toNatClampNeg (6 : Int32))))] s.heap.size = A at hD ⊢
  have hA : ∀ q : Nat, s.heap.size ≤ q → A q := fun q h => by rw [← hAe]; exact Or.inr h
  have hS : va_S A s.heap s.heap [] := va_S.rf
  have hP : va_P (dC, dI) zz_cl [(h0, .inr (5, [.ref r_made, .int 0, .ref h1, .ref r_kinds, .ref r_begins, .ref r_ends, .ref r_values, .int 1, .int 0, .int (-1), .ref r_labels, .int 0, .ref r_links, .int 0, .long 0, .long 0, .int 0, .int 0, .int 0])), (r_kinds, .inl (cI, 4001, .inl (upd (fun _ => 0) (0 : Int32).toNatClampNeg (6 : Int32))))] s.heap := hP
  have hl := lv_entry ([.ref h0]) (n := 4) (Nat.le_of_ble_eq_true rfl)
  rw [lg_entry_eq]
  generalize (lg_sl ([.ref h0]) ++ List.replicate (4 - (lg_sl ([.ref h0])).length) Slot.unset).toArray = ls at hl ⊢
  have hl : lv_has ls 4 [(0, .ref h0)] := hl
  refine lv_aload_n hx hb dX6_readLine_0 rfl (lv_at hl 0 rfl) ?_
  refine va_get (D := (dC, dI)) (ci := 5) (v := .ref r_kinds) (C := RX6) (T := TX6) (N := 19) hx hb hts zz_in_zm_readLine_X6 hown hK hP 0 rfl rfl 3 (by decide +kernel) (hts (.fieldLink RX6 17 "FilterHouse$Reader" "kinds" "[I") (List.mem_of_getElem? (i := 1) rfl)) (fun _ h9 => h9) rfl dX6_readLine_1 ?_
  refine lv_aload_n hx hb dX6_readLine_4 rfl (lv_at hl 0 rfl) ?_
  refine va_get (D := (dC, dI)) (ci := 5) (v := .int 0) (C := RX6) (T := TX6) (N := 19) hx hb hts zz_in_zm_readLine_X6 hown hK hP 0 rfl rfl 8 (by decide +kernel) (hts (.fieldLink RX6 44 "FilterHouse$Reader" "at" "I") (List.mem_of_getElem? (i := 2) rfl)) (fun _ h9 => h9) rfl dX6_readLine_5 ?_
  refine va_iald hx hb hK hP 1 1 rfl rfl (show ¬ ((0 : Int32) < 0 ∨ 4001 ≤ (0 : Int32).toNatClampNeg) by decide +kernel) dX6_readLine_8 ?_
  refine lv_topi (fun f_1 ef_1 => ?_)
  obtain rfl : f_1 = (6 : Int32) := ef_1.trans (by decide +kernel)
  refine lv_iconst (v := 1) hx hb dX6_readLine_9 (by decide +kernel) ?_
  refine lv_icmp_ne (tgt := 25) hx hb dX6_readLine_10 (by decide +kernel) (fun c_2 => ?_) (fun c_2 => ?_)
  · refine lv_iconst (v := 0) hx hb dX6_readLine_25 (by decide +kernel) ?_
    refine lv_istore_n (lv' := [(1, .int 0), (0, .ref h0)]) hx hb dX6_readLine_26 rfl hl (by decide +kernel) rfl (fun ls hl => ?_)
    refine lv_iload_n hx hb dX6_readLine_27 rfl (lv_at hl 0 rfl) ?_
    refine lv_if_eq (tgt := 133) hx hb dX6_readLine_28 (by decide +kernel) (fun c_3 => ?_) (fun c_3 => ?_)
    · refine lv_aload_n hx hb dX6_readLine_133 rfl (lv_at hl 1 rfl) ?_
      refine va_get (D := (dC, dI)) (ci := 5) (v := .ref r_kinds) (C := RX6) (T := TX6) (N := 19) hx hb hts zz_in_zm_readLine_X6 hown hK hP 0 rfl rfl 3 (by decide +kernel) (hts (.fieldLink RX6 17 "FilterHouse$Reader" "kinds" "[I") (List.mem_of_getElem? (i := 1) rfl)) (fun _ h9 => h9) rfl dX6_readLine_134 ?_
      refine lv_aload_n hx hb dX6_readLine_137 rfl (lv_at hl 1 rfl) ?_
      refine va_get (D := (dC, dI)) (ci := 5) (v := .int 0) (C := RX6) (T := TX6) (N := 19) hx hb hts zz_in_zm_readLine_X6 hown hK hP 0 rfl rfl 8 (by decide +kernel) (hts (.fieldLink RX6 44 "FilterHouse$Reader" "at" "I") (List.mem_of_getElem? (i := 2) rfl)) (fun _ h9 => h9) rfl dX6_readLine_138 ?_
      refine va_iald hx hb hK hP 1 1 rfl rfl (show ¬ ((0 : Int32) < 0 ∨ 4001 ≤ (0 : Int32).toNatClampNeg) by decide +kernel) dX6_readLine_141 ?_
      refine lv_topi (fun f_4 ef_4 => ?_)
      obtain rfl : f_4 = (6 : Int32) := ef_4.trans (by decide +kernel)
      refine lv_iconst (v := 5) hx hb dX6_readLine_142 (by decide +kernel) ?_
      refine lv_icmp_eq (tgt := 160) hx hb dX6_readLine_143 (by decide +kernel) (fun c_5 => ?_) (fun c_5 => ?_)
      · exact absurd c_5 (by decide +kernel)
      · refine lv_aload_n hx hb dX6_readLine_146 rfl (lv_at hl 1 rfl) ?_
        refine va_get (D := (dC, dI)) (ci := 5) (v := .ref r_kinds) (C := RX6) (T := TX6) (N := 19) hx hb hts zz_in_zm_readLine_X6 hown hK hP 0 rfl rfl 3 (by decide +kernel) (hts (.fieldLink RX6 17 "FilterHouse$Reader" "kinds" "[I") (List.mem_of_getElem? (i := 1) rfl)) (fun _ h9 => h9) rfl dX6_readLine_147 ?_
        refine lv_aload_n hx hb dX6_readLine_150 rfl (lv_at hl 1 rfl) ?_
        refine va_get (D := (dC, dI)) (ci := 5) (v := .int 0) (C := RX6) (T := TX6) (N := 19) hx hb hts zz_in_zm_readLine_X6 hown hK hP 0 rfl rfl 8 (by decide +kernel) (hts (.fieldLink RX6 44 "FilterHouse$Reader" "at" "I") (List.mem_of_getElem? (i := 2) rfl)) (fun _ h9 => h9) rfl dX6_readLine_151 ?_
        refine va_iald hx hb hK hP 1 1 rfl rfl (show ¬ ((0 : Int32) < 0 ∨ 4001 ≤ (0 : Int32).toNatClampNeg) by decide +kernel) dX6_readLine_154 ?_
        refine lv_topi (fun f_6 ef_6 => ?_)
        obtain rfl : f_6 = (6 : Int32) := ef_6.trans (by decide +kernel)
        refine lv_bipush (v := 6) hx hb dX6_readLine_155 (by decide +kernel) ?_
        refine lv_icmp_ne (tgt := 162) hx hb dX6_readLine_157 (by decide +kernel) (fun c_7 => ?_) (fun c_7 => ?_)
        · exact absurd c_7 (by decide +kernel)
        · refine lv_iconst (v := 1) hx hb dX6_readLine_160 (by decide +kernel) ?_
          have hP9 := hP.sub (ws' := [(h0, .inr (5, [.ref r_made, .int 0, .ref h1, .ref r_kinds, .ref r_begins, .ref r_ends, .ref r_values, .int 1, .int 0, .int (-1), .ref r_labels, .int 0, .ref r_links, .int 0, .long 0, .long 0, .int 0, .int 0, .int 0])), (r_kinds, .inl (cI, 4001, .inl (upd (fun _ => 0) (0 : Int32).toNatClampNeg (6 : Int32))))]) [0, 1] rfl
          have hD9 := hD.sub (ws' := [(h0, .inr (5, [.ref r_made, .int 0, .ref h1, .ref r_kinds, .ref r_begins, .ref r_ends, .ref r_values, .int 1, .int 0, .int (-1), .ref r_labels, .int 0, .ref r_links, .int 0, .long 0, .long 0, .int 0, .int 0, .int 0])), (r_kinds, .inl (cI, 4001, .inl (upd (fun _ => 0) (0 : Int32).toNatClampNeg (6 : Int32))))]) [0, 1] (by decide +kernel) rfl
          exact W.zret (v := 1) (ty := .boolean) hx hb hr rfl (fun t ht hW => ⟨⟨1, (), rfl, rfl, by rw [ht]; exact hP9, hD9⟩, hS.F ht⟩) hS.2.2 dX6_readLine_161
    · exact absurd c_3 (by decide +kernel)
  · exact absurd c_2 (by decide +kernel)
def zw_zm_resolve : List Cond := .code yX6_resolve cX6_resolve 4 none :: ([.fieldLink RX6 54 "FilterHouse$Reader" "linkCount" "I"] ++ (wsX60 ++ []))
theorem zz_in_zm_resolve_X6 : ∀ w ∈ wsX60, w ∈ zw_zm_resolve := fun w h => List.mem_cons_of_mem _ (List.mem_append_right _ (List.mem_append_left _ h))
set_option maxHeartbeats 1000000 in
set_option maxRecDepth 100000 in
/-- zm_resolve -/
theorem zm_resolve (l : Launch) (dC : Nat → ClassId) (dI : Nat → Nat → Nat) (cB cI cJ cZ : ClassId) (h0 r_made h1 r_kinds r_begins r_ends r_values r_labels r_links : Nat) (sz : Nat) : Met l yX6_resolve zw_zm_resolve ({ frames := 0, cells := 0, slots := 0, locals := 0 }) (va_Pc [.ref h0] (fun U => U.heap.size = sz ∧ va_P (dC, dI) zz_cl [(h0, .inr (5, [.ref r_made, .int 0, .ref h1, .ref r_kinds, .ref r_begins, .ref r_ends, .ref r_values, .int 1, .int 0, .int (-1), .ref r_labels, .int 0, .ref r_links, .int 0, .long 0, .long 0, .int 0, .int 0, .int 0]))] U.heap ∧ va_K (dC, dI) zz_cl [(cB, .byte), (cI, .int), (cJ, .long), (cZ, .boolean)] U ∧ va_D (fun _ => True) [(h0, .inr (5, [.ref r_made, .int 0, .ref h1, .ref r_kinds, .ref r_begins, .ref r_ends, .ref r_values, .int 1, .int 0, .int (-1), .ref r_labels, .int 0, .ref r_links, .int 0, .long 0, .long 0, .int 0, .int 0, .int 0]))])) (va_Qv (fun (_ : Unit) => True) (fun (_ : Unit) t => va_P (dC, dI) zz_cl [(h0, .inr (5, [.ref r_made, .int 0, .ref h1, .ref r_kinds, .ref r_begins, .ref r_ends, .ref r_values, .int 1, .int 0, .int (-1), .ref r_labels, .int 0, .ref r_links, .int 0, .long 0, .long 0, .int 0, .int 0, .int 0]))] t.heap ∧ va_D (va_A [(h0, .inr (5, [.ref r_made, .int 0, .ref h1, .ref r_kinds, .ref r_begins, .ref r_ends, .ref r_values, .int 1, .int 0, .int (-1), .ref r_labels, .int 0, .ref r_links, .int 0, .long 0, .long 0, .int 0, .int 0, .int 0]))] sz) [(h0, .inr (5, [.ref r_made, .int 0, .ref h1, .ref r_kinds, .ref r_begins, .ref r_ends, .ref r_values, .int 1, .int 0, .int (-1), .ref r_labels, .int 0, .ref r_links, .int 0, .long 0, .long 0, .int 0, .int 0, .int 0]))]) (va_A [(h0, .inr (5, [.ref r_made, .int 0, .ref h1, .ref r_kinds, .ref r_begins, .ref r_ends, .ref r_values, .int 1, .int 0, .int (-1), .ref r_labels, .int 0, .ref r_links, .int 0, .long 0, .long 0, .int 0, .int 0, .int 0]))] sz)) 0 0 (va_A [(h0, .inr (5, [.ref r_made, .int 0, .ref h1, .ref r_kinds, .ref r_begins, .ref r_ends, .ref r_values, .int 1, .int 0, .int (-1), .ref r_labels, .int 0, .ref r_links, .int 0, .long 0, .long 0, .int 0, .int 0, .int 0]))] sz) := by
  refine Met.ofW (cc := cX6_resolve) (maxL := 4) (ret := none) (by decide +kernel) rfl ?_
  intro p e s m args below meth c s₁ B hml hv
  obtain ⟨rfl, hsz, hP, hK, hD0⟩ := hv
  have hx := B.exec
  have hb := B.bytes
  have hr := B.returns
  have hts := atoms_spec (ws := zw_zm_resolve) B.pre
  have hown : s.vm.findClass RX6 = some m.cls := findClass_of_methodNamed B.named
  have hlocks := B.notSynchronized
  subst hsz
  have hD := hD0.self (sz := s.heap.size)
  generalize hAe : va_A [(h0, .inr (5, [.ref r_made, .int 0, .ref h1, .ref r_kinds, .ref r_begins, .ref r_ends, .ref r_values, .int 1, .int 0, .int (-1), .ref r_labels, .int 0, .ref r_links, .int 0, .long 0, .long 0, .int 0, .int 0, .int 0]))] s.heap.size = A at hD ⊢
  have hA : ∀ q : Nat, s.heap.size ≤ q → A q := fun q h => by rw [← hAe]; exact Or.inr h
  have hS : va_S A s.heap s.heap [] := va_S.rf
  have hP : va_P (dC, dI) zz_cl [(h0, .inr (5, [.ref r_made, .int 0, .ref h1, .ref r_kinds, .ref r_begins, .ref r_ends, .ref r_values, .int 1, .int 0, .int (-1), .ref r_labels, .int 0, .ref r_links, .int 0, .long 0, .long 0, .int 0, .int 0, .int 0]))] s.heap := hP
  have hl := lv_entry ([.ref h0]) (n := 4) (Nat.le_of_ble_eq_true rfl)
  rw [lg_entry_eq]
  generalize (lg_sl ([.ref h0]) ++ List.replicate (4 - (lg_sl ([.ref h0])).length) Slot.unset).toArray = ls at hl ⊢
  have hl : lv_has ls 4 [(0, .ref h0)] := hl
  refine lv_iconst (v := 0) hx hb dX6_resolve_0 (by decide +kernel) ?_
  refine lv_istore_n (lv' := [(1, .int 0), (0, .ref h0)]) hx hb dX6_resolve_1 rfl hl (by decide +kernel) rfl (fun ls hl => ?_)
  refine lv_iload_n hx hb dX6_resolve_2 rfl (lv_at hl 0 rfl) ?_
  refine lv_aload_n hx hb dX6_resolve_3 rfl (lv_at hl 1 rfl) ?_
  refine va_get (D := (dC, dI)) (ci := 5) (v := .int 0) (C := RX6) (T := TX6) (N := 19) hx hb hts zz_in_zm_resolve_X6 hown hK hP 0 rfl rfl 13 (by decide +kernel) (hts (.fieldLink RX6 54 "FilterHouse$Reader" "linkCount" "I") (List.mem_of_getElem? (i := 1) rfl)) (fun _ h9 => h9) rfl dX6_resolve_4 ?_
  refine lv_icmp_ge (tgt := 90) hx hb dX6_resolve_7 (by decide +kernel) (fun c_1 => ?_) (fun c_1 => ?_)
  · have hP9 := hP.sub (ws' := [(h0, .inr (5, [.ref r_made, .int 0, .ref h1, .ref r_kinds, .ref r_begins, .ref r_ends, .ref r_values, .int 1, .int 0, .int (-1), .ref r_labels, .int 0, .ref r_links, .int 0, .long 0, .long 0, .int 0, .int 0, .int 0]))]) [0] rfl
    have hD9 := hD.sub (ws' := [(h0, .inr (5, [.ref r_made, .int 0, .ref h1, .ref r_kinds, .ref r_begins, .ref r_ends, .ref r_values, .int 1, .int 0, .int (-1), .ref r_labels, .int 0, .ref r_links, .int 0, .long 0, .long 0, .int 0, .int 0, .int 0]))]) [0] (by decide +kernel) rfl
    exact W.vret hx hb hr (fun t ht hW => ⟨⟨(), rfl, trivial, by rw [ht]; exact hP9, hD9⟩, hS.F ht⟩) hS.2.2 dX6_resolve_90
  · exact absurd c_1 (by decide +kernel)
def zw_zm_read : List Cond := .code yX6_read cX6_read 4 (some .int) :: ([.fieldLink RX6 36 "FilterHouse$Reader" "text" "[B", .fieldLink RX6 60 "FilterHouse$Reader" "tokens" "I", .fieldLink RX6 17 "FilterHouse$Reader" "kinds" "[I", .fieldLink RX6 21 "FilterHouse$Reader" "begins" "[I", .fieldLink RX6 24 "FilterHouse$Reader" "ends" "[I", .fieldLink RX6 27 "FilterHouse$Reader" "values" "[J", .code yX6_addToken cX6_addToken 6 none, .methodLink RX6 78 yX6_addToken, .instanceMethod yX6_addToken, .selects RX6 yX6_addToken yX6_addToken, .initialized RX6, .code yX6_findTokens cX6_findTokens 5 none, .methodLink RX6 40 yX6_findTokens, .instanceMethod yX6_findTokens, .selects RX6 yX6_findTokens yX6_findTokens, .fieldLink RX6 44 "FilterHouse$Reader" "at" "I", .fieldLink RX6 48 "FilterHouse$Reader" "count" "I", .fieldLink RX6 51 "FilterHouse$Reader" "labelCount" "I", .fieldLink RX6 54 "FilterHouse$Reader" "linkCount" "I", .fieldLink RX6 57 "FilterHouse$Reader" "wrong" "I", .code yX6_readLine cX6_readLine 4 (some .boolean), .methodLink RX6 63 yX6_readLine, .instanceMethod yX6_readLine, .selects RX6 yX6_readLine yX6_readLine, .code yX6_resolve cX6_resolve 4 none, .methodLink RX6 67 yX6_resolve, .instanceMethod yX6_resolve, .selects RX6 yX6_resolve yX6_resolve] ++ (wsX60 ++ []))
theorem zz_in_zm_read_X6 : ∀ w ∈ wsX60, w ∈ zw_zm_read := fun w h => List.mem_cons_of_mem _ (List.mem_append_right _ (List.mem_append_left _ h))
set_option maxRecDepth 20000 in
theorem zz_g_zm_read_zm_findTokens : GoodIn zw_zm_read zw_zm_findTokens := goodIn_ca (goodIn_r ([.code yX6_findTokens cX6_findTokens 5 none, .fieldLink RX6 60 "FilterHouse$Reader" "tokens" "I", .fieldLink RX6 17 "FilterHouse$Reader" "kinds" "[I", .fieldLink RX6 21 "FilterHouse$Reader" "begins" "[I", .fieldLink RX6 24 "FilterHouse$Reader" "ends" "[I", .fieldLink RX6 27 "FilterHouse$Reader" "values" "[J", .code yX6_addToken cX6_addToken 6 none, .methodLink RX6 78 yX6_addToken, .instanceMethod yX6_addToken, .selects RX6 yX6_addToken yX6_addToken, .initialized RX6]) [12, 2, 3, 4, 5, 6, 7, 8, 9, 10, 11] rfl (by decide +kernel)) (goodIn_app (goodIn_sub zz_in_zm_read_X6 zz_gw_X6) (goodIn_sub (fun _ h => absurd h List.not_mem_nil) rfl))
set_option maxRecDepth 20000 in
theorem zz_g_zm_read_zm_readLine : GoodIn zw_zm_read zw_zm_readLine := goodIn_ca (goodIn_r ([.code yX6_readLine cX6_readLine 4 (some .boolean), .fieldLink RX6 17 "FilterHouse$Reader" "kinds" "[I", .fieldLink RX6 44 "FilterHouse$Reader" "at" "I"]) [21, 3, 16] rfl (by decide +kernel)) (goodIn_app (goodIn_sub zz_in_zm_read_X6 zz_gw_X6) (goodIn_sub (fun _ h => absurd h List.not_mem_nil) rfl))
set_option maxRecDepth 20000 in
theorem zz_g_zm_read_zm_resolve : GoodIn zw_zm_read zw_zm_resolve := goodIn_ca (goodIn_r ([.code yX6_resolve cX6_resolve 4 none, .fieldLink RX6 54 "FilterHouse$Reader" "linkCount" "I"]) [25, 19] rfl (by decide +kernel)) (goodIn_app (goodIn_sub zz_in_zm_read_X6 zz_gw_X6) (goodIn_sub (fun _ h => absurd h List.not_mem_nil) rfl))
set_option maxHeartbeats 1000000 in
set_option maxRecDepth 100000 in
/-- zm_read -/
theorem zm_read (l : Launch) (dC : Nat → ClassId) (dI : Nat → Nat → Nat) (cB cI cJ cZ : ClassId) (h0 r_kinds r_begins r_ends r_values r_made r_labels r_links h1 : Nat) (sz : Nat) : Met l yX6_read zw_zm_read ({ frames := 2, cells := 0, slots := 0, locals := 49 }) (va_Pc [.ref h0, .ref h1, .int 0] (fun U => U.heap.size = sz ∧ va_P (dC, dI) zz_cl [(h0, .inr (5, [.ref r_made, .int 0, .null, .ref r_kinds, .ref r_begins, .ref r_ends, .ref r_values, .int 0, .int 0, .int 0, .ref r_labels, .int 0, .ref r_links, .int 0, .long 0, .long 0, .int 0, .int 0, .int 0])), (r_kinds, .inl (cI, 4001, .inl (fun _ => 0))), (r_begins, .inl (cI, 4001, .inl (fun _ => 0))), (r_ends, .inl (cI, 4001, .inl (fun _ => 0))), (r_values, .inl (cJ, 4001, .inr (.inl (fun _ => 0))))] U.heap ∧ va_K (dC, dI) zz_cl [(cB, .byte), (cI, .int), (cJ, .long), (cZ, .boolean)] U ∧ va_D (fun _ => True) [(h0, .inr (5, [.ref r_made, .int 0, .null, .ref r_kinds, .ref r_begins, .ref r_ends, .ref r_values, .int 0, .int 0, .int 0, .ref r_labels, .int 0, .ref r_links, .int 0, .long 0, .long 0, .int 0, .int 0, .int 0])), (r_kinds, .inl (cI, 4001, .inl (fun _ => 0))), (r_begins, .inl (cI, 4001, .inl (fun _ => 0))), (r_ends, .inl (cI, 4001, .inl (fun _ => 0))), (r_values, .inl (cJ, 4001, .inr (.inl (fun _ => 0))))])) (va_Qi (fun (r : Int32) (_ : Unit) => r = (-10)) (fun (_ : Unit) _ => True) (va_A [(h0, .inr (5, [.ref r_made, .int 0, .null, .ref r_kinds, .ref r_begins, .ref r_ends, .ref r_values, .int 0, .int 0, .int 0, .ref r_labels, .int 0, .ref r_links, .int 0, .long 0, .long 0, .int 0, .int 0, .int 0])), (r_kinds, .inl (cI, 4001, .inl (fun _ => 0))), (r_begins, .inl (cI, 4001, .inl (fun _ => 0))), (r_ends, .inl (cI, 4001, .inl (fun _ => 0))), (r_values, .inl (cJ, 4001, .inr (.inl (fun _ => 0))))] sz)) 0 0 (va_A [(h0, .inr (5, [.ref r_made, .int 0, .null, .ref r_kinds, .ref r_begins, .ref r_ends, .ref r_values, .int 0, .int 0, .int 0, .ref r_labels, .int 0, .ref r_links, .int 0, .long 0, .long 0, .int 0, .int 0, .int 0])), (r_kinds, .inl (cI, 4001, .inl (fun _ => 0))), (r_begins, .inl (cI, 4001, .inl (fun _ => 0))), (r_ends, .inl (cI, 4001, .inl (fun _ => 0))), (r_values, .inl (cJ, 4001, .inr (.inl (fun _ => 0))))] sz) := by
  refine Met.ofW (cc := cX6_read) (maxL := 4) (ret := (some .int)) (by decide +kernel) rfl ?_
  intro p e s m args below meth c s₁ B hml hv
  obtain ⟨rfl, hsz, hP, hK, hD0⟩ := hv
  have hx := B.exec
  have hb := B.bytes
  have hr := B.returns
  have hts := atoms_spec (ws := zw_zm_read) B.pre
  have hown : s.vm.findClass RX6 = some m.cls := findClass_of_methodNamed B.named
  have hlocks := B.notSynchronized
  subst hsz
  have hD := hD0.self (sz := s.heap.size)
  generalize hAe : va_A [(h0, .inr (5, [.ref r_made, .int 0, .null, .ref r_kinds, .ref r_begins, .ref r_ends, .ref r_values, .int 0, .int 0, .int 0, .ref r_labels, .int 0, .ref r_links, .int 0, .long 0, .long 0, .int 0, .int 0, .int 0])), (r_kinds, .inl (cI, 4001, .inl (fun _ => 0))), (r_begins, .inl (cI, 4001, .inl (fun _ => 0))), (r_ends, .inl (cI, 4001, .inl (fun _ => 0))), (r_values, .inl (cJ, 4001, .inr (.inl (fun _ => 0))))] s.heap.size = A at hD ⊢
  have hA : ∀ q : Nat, s.heap.size ≤ q → A q := fun q h => by rw [← hAe]; exact Or.inr h
  have hS : va_S A s.heap s.heap [] := va_S.rf
  have hP : va_P (dC, dI) zz_cl [(h0, .inr (5, [.ref r_made, .int 0, .null, .ref r_kinds, .ref r_begins, .ref r_ends, .ref r_values, .int 0, .int 0, .int 0, .ref r_labels, .int 0, .ref r_links, .int 0, .long 0, .long 0, .int 0, .int 0, .int 0])), (r_kinds, .inl (cI, 4001, .inl (fun _ => 0))), (r_begins, .inl (cI, 4001, .inl (fun _ => 0))), (r_ends, .inl (cI, 4001, .inl (fun _ => 0))), (r_values, .inl (cJ, 4001, .inr (.inl (fun _ => 0))))] s.heap := hP
  have hl := lv_entry ([.ref h0, .ref h1, .int 0]) (n := 4) (Nat.le_of_ble_eq_true rfl)
  rw [lg_entry_eq]
  generalize (lg_sl ([.ref h0, .ref h1, .int 0]) ++ List.replicate (4 - (lg_sl ([.ref h0, .ref h1, .int 0])).length) Slot.unset).toArray = ls at hl ⊢
  have hl : lv_has ls 4 [(0, .ref h0), (1, .ref h1), (2, .int 0)] := hl
  refine lv_aload_n hx hb dX6_read_0 rfl (lv_at hl 0 rfl) ?_
  refine lv_aload_n hx hb dX6_read_1 rfl (lv_at hl 1 rfl) ?_
  refine va_put (D := (dC, dI)) (ci := 5) (v := .ref h1) (ty := (.array .byte)) (C := RX6) (T := TX6) (N := 19) hx hb hts zz_in_zm_read_X6 tyX6 tyX6_ok nmX6 hown hK hP hD hS 0 rfl rfl 2 (by decide +kernel) (hts (.fieldLink RX6 36 "FilterHouse$Reader" "text" "[B") (List.mem_of_getElem? (i := 1) rfl)) (fun _ h9 => h9) rfl (by decide +kernel) rfl rfl (Nat.le_of_ble_eq_true rfl) dX6_read_2 (fun H locs hP hD hS => ?_)
  have hP : va_P (dC, dI) zz_cl [(h0, .inr (5, [.ref r_made, .int 0, .ref h1, .ref r_kinds, .ref r_begins, .ref r_ends, .ref r_values, .int 0, .int 0, .int 0, .ref r_labels, .int 0, .ref r_links, .int 0, .long 0, .long 0, .int 0, .int 0, .int 0])), (r_kinds, .inl (cI, 4001, .inl (fun _ => 0))), (r_begins, .inl (cI, 4001, .inl (fun _ => 0))), (r_ends, .inl (cI, 4001, .inl (fun _ => 0))), (r_values, .inl (cJ, 4001, .inr (.inl (fun _ => 0))))] H := hP
  have hD : va_D A [(h0, .inr (5, [.ref r_made, .int 0, .ref h1, .ref r_kinds, .ref r_begins, .ref r_ends, .ref r_values, .int 0, .int 0, .int 0, .ref r_labels, .int 0, .ref r_links, .int 0, .long 0, .long 0, .int 0, .int 0, .int 0])), (r_kinds, .inl (cI, 4001, .inl (fun _ => 0))), (r_begins, .inl (cI, 4001, .inl (fun _ => 0))), (r_ends, .inl (cI, 4001, .inl (fun _ => 0))), (r_values, .inl (cJ, 4001, .inr (.inl (fun _ => 0))))] := hD
  refine lv_aload_n hx hb dX6_read_5 rfl (lv_at hl 0 rfl) ?_
  refine lv_iload_n hx hb dX6_read_6 rfl (lv_at hl 2 rfl) ?_
  have hPc := hP.sub (ws' := [(h0, .inr (5, [.ref r_made, .int 0, .ref h1, .ref r_kinds, .ref r_begins, .ref r_ends, .ref r_values, .int 0, .int 0, .int 0, .ref r_labels, .int 0, .ref r_links, .int 0, .long 0, .long 0, .int 0, .int 0, .int 0])), (r_kinds, .inl (cI, 4001, .inl (fun _ => 0))), (r_begins, .inl (cI, 4001, .inl (fun _ => 0))), (r_ends, .inl (cI, 4001, .inl (fun _ => 0))), (r_values, .inl (cJ, 4001, .inr (.inl (fun _ => 0))))]) [0, 1, 2, 3, 4] rfl
  have hDc := hD.sub (ws' := [(h0, .inr (5, [.ref r_made, .int 0, .ref h1, .ref r_kinds, .ref r_begins, .ref r_ends, .ref r_values, .int 0, .int 0, .int 0, .ref r_labels, .int 0, .ref r_links, .int 0, .long 0, .long 0, .int 0, .int 0, .int 0])), (r_kinds, .inl (cI, 4001, .inl (fun _ => 0))), (r_begins, .inl (cI, 4001, .inl (fun _ => 0))), (r_ends, .inl (cI, 4001, .inl (fun _ => 0))), (r_values, .inl (cJ, 4001, .inr (.inl (fun _ => 0))))]) [0, 1, 2, 3, 4] (by decide +kernel) rfl
  have hFc := va_free (wc := [(h0, .inr (5, [.ref r_made, .int 0, .ref h1, .ref r_kinds, .ref r_begins, .ref r_ends, .ref r_values, .int 0, .int 0, .int 0, .ref r_labels, .int 0, .ref r_links, .int 0, .long 0, .long 0, .int 0, .int 0, .int 0])), (r_kinds, .inl (cI, 4001, .inl (fun _ => 0))), (r_begins, .inl (cI, 4001, .inl (fun _ => 0))), (r_ends, .inl (cI, 4001, .inl (fun _ => 0))), (r_values, .inl (cJ, 4001, .inr (.inl (fun _ => 0))))]) hD hS hA [0, 1, 2, 3, 4] rfl
  refine va_callv (va_runV (As := [.int 0]) (rest := []) ⟨hx, hb, hml, hown, hts⟩ (zm_findTokens l dC dI cB cI cJ cZ h0 r_kinds r_begins r_ends r_values r_made h1 r_labels r_links H.size) (cwV 1 hts (goodIn_app (goodIn_r [.methodLink RX6 40 yX6_findTokens, .instanceMethod yX6_findTokens, .selects RX6 yX6_findTokens yX6_findTokens, .initialized RX6] [13, 14, 15, 11] rfl (by decide +kernel)) zz_g_zm_read_zm_findTokens) rfl rfl rfl (by decide +kernel) ⟨Nat.le_of_ble_eq_true rfl, Nat.le_of_ble_eq_true rfl⟩) ⟨fun a U g mk q => by obtain ⟨q0, q1, qP, qK, qD⟩ := q; exact ⟨q0, q1, qP, va_K.moved (u := U) (U := U.calling g mk a) (Vm.Alike.refl U.vm) qK, qD⟩, va_recv hK hPc (ci := 5) (q0 := 0) rfl rfl, fun U hU hW => ⟨rfl, by rw [hU], by rw [hU]; exact hPc, va_K.moved hW.alike hK, hDc.weaken (fun _ _ _ _ => trivial)⟩⟩ rfl rfl hl.1 rfl (lv_room (Nat.le_of_ble_eq_true rfl)) dX6_read_7 ⟨Nat.le_of_ble_eq_true rfl, Nat.le_of_ble_eq_true rfl⟩) hS (fun q _ h => hFc q h) hFc (fun u_3 t H1 locs ht hvm hw_2 hB hz1 hk1 hS => ?_)
  obtain ⟨hP1, hD1⟩ := hB
  rw [ht] at hP1
  obtain ⟨hP, hD⟩ := va_join (wr := []) (w1 := [(h0, .inr (5, [.ref r_made, .int 0, .ref h1, .ref r_kinds, .ref r_begins, .ref r_ends, .ref r_values, .int 1, .int 0, .int 0, .ref r_labels, .int 0, .ref r_links, .int 0, .long 0, .long 0, .int 0, .int 0, .int 0])), (r_kinds, .inl (cI, 4001, .inl (upd (fun _ => 0) (0 : Int32).toNatClampNeg (6 : Int32)))), (r_begins, .inl (cI, 4001, .inl (upd (fun _ => 0) (0 : Int32).toNatClampNeg (0 : Int32)))), (r_ends, .inl (cI, 4001, .inl (upd (fun _ => 0) (0 : Int32).toNatClampNeg (0 : Int32)))), (r_values, .inl (cJ, 4001, .inr (.inl (vp_updL (fun _ => 0) (0 : Int32).toNatClampNeg 0))))]) hP hD [0, 1, 2, 3, 4] [] rfl rfl (by decide +kernel) (by decide +kernel) hk1 hFc hP1 hD1
  generalize H1 = H at hP hS ⊢
  have hP : va_P (dC, dI) zz_cl [(h0, .inr (5, [.ref r_made, .int 0, .ref h1, .ref r_kinds, .ref r_begins, .ref r_ends, .ref r_values, .int 1, .int 0, .int 0, .ref r_labels, .int 0, .ref r_links, .int 0, .long 0, .long 0, .int 0, .int 0, .int 0])), (r_kinds, .inl (cI, 4001, .inl (upd (fun _ => 0) (0 : Int32).toNatClampNeg (6 : Int32)))), (r_begins, .inl (cI, 4001, .inl (upd (fun _ => 0) (0 : Int32).toNatClampNeg (0 : Int32)))), (r_ends, .inl (cI, 4001, .inl (upd (fun _ => 0) (0 : Int32).toNatClampNeg (0 : Int32)))), (r_values, .inl (cJ, 4001, .inr (.inl (vp_updL (fun _ => 0) (0 : Int32).toNatClampNeg 0))))] H := hP
  have hD : va_D A [(h0, .inr (5, [.ref r_made, .int 0, .ref h1, .ref r_kinds, .ref r_begins, .ref r_ends, .ref r_values, .int 1, .int 0, .int 0, .ref r_labels, .int 0, .ref r_links, .int 0, .long 0, .long 0, .int 0, .int 0, .int 0])), (r_kinds, .inl (cI, 4001, .inl (upd (fun _ => 0) (0 : Int32).toNatClampNeg (6 : Int32)))), (r_begins, .inl (cI, 4001, .inl (upd (fun _ => 0) (0 : Int32).toNatClampNeg (0 : Int32)))), (r_ends, .inl (cI, 4001, .inl (upd (fun _ => 0) (0 : Int32).toNatClampNeg (0 : Int32)))), (r_values, .inl (cJ, 4001, .inr (.inl (vp_updL (fun _ => 0) (0 : Int32).toNatClampNeg 0))))] := hD
  refine lv_aload_n hx hb dX6_read_10 rfl (lv_at hl 0 rfl) ?_
  refine lv_iconst (v := 0) hx hb dX6_read_11 (by decide +kernel) ?_
  refine va_put (D := (dC, dI)) (ci := 5) (v := .int 0) (ty := .int) (C := RX6) (T := TX6) (N := 19) hx hb hts zz_in_zm_read_X6 tyX6 tyX6_ok nmX6 hown hK hP hD hS 0 rfl rfl 8 (by decide +kernel) (hts (.fieldLink RX6 44 "FilterHouse$Reader" "at" "I") (List.mem_of_getElem? (i := 16) rfl)) (fun _ h9 => h9) rfl (by decide +kernel) rfl rfl (Nat.le_of_ble_eq_true rfl) dX6_read_12 (fun H locs hP hD hS => ?_)
  have hP : va_P (dC, dI) zz_cl [(h0, .inr (5, [.ref r_made, .int 0, .ref h1, .ref r_kinds, .ref r_begins, .ref r_ends, .ref r_values, .int 1, .int 0, .int 0, .ref r_labels, .int 0, .ref r_links, .int 0, .long 0, .long 0, .int 0, .int 0, .int 0])), (r_kinds, .inl (cI, 4001, .inl (upd (fun _ => 0) (0 : Int32).toNatClampNeg (6 : Int32)))), (r_begins, .inl (cI, 4001, .inl (upd (fun _ => 0) (0 : Int32).toNatClampNeg (0 : Int32)))), (r_ends, .inl (cI, 4001, .inl (upd (fun _ => 0) (0 : Int32).toNatClampNeg (0 : Int32)))), (r_values, .inl (cJ, 4001, .inr (.inl (vp_updL (fun _ => 0) (0 : Int32).toNatClampNeg 0))))] H := hP
  have hD : va_D A [(h0, .inr (5, [.ref r_made, .int 0, .ref h1, .ref r_kinds, .ref r_begins, .ref r_ends, .ref r_values, .int 1, .int 0, .int 0, .ref r_labels, .int 0, .ref r_links, .int 0, .long 0, .long 0, .int 0, .int 0, .int 0])), (r_kinds, .inl (cI, 4001, .inl (upd (fun _ => 0) (0 : Int32).toNatClampNeg (6 : Int32)))), (r_begins, .inl (cI, 4001, .inl (upd (fun _ => 0) (0 : Int32).toNatClampNeg (0 : Int32)))), (r_ends, .inl (cI, 4001, .inl (upd (fun _ => 0) (0 : Int32).toNatClampNeg (0 : Int32)))), (r_values, .inl (cJ, 4001, .inr (.inl (vp_updL (fun _ => 0) (0 : Int32).toNatClampNeg 0))))] := hD
  refine lv_aload_n hx hb dX6_read_15 rfl (lv_at hl 0 rfl) ?_
  refine lv_iconst (v := 0) hx hb dX6_read_16 (by decide +kernel) ?_
  refine va_put (D := (dC, dI)) (ci := 5) (v := .int 0) (ty := .int) (C := RX6) (T := TX6) (N := 19) hx hb hts zz_in_zm_read_X6 tyX6 tyX6_ok nmX6 hown hK hP hD hS 0 rfl rfl 1 (by decide +kernel) (hts (.fieldLink RX6 48 "FilterHouse$Reader" "count" "I") (List.mem_of_getElem? (i := 17) rfl)) (fun _ h9 => h9) rfl (by decide +kernel) rfl rfl (Nat.le_of_ble_eq_true rfl) dX6_read_17 (fun H locs hP hD hS => ?_)
  have hP : va_P (dC, dI) zz_cl [(h0, .inr (5, [.ref r_made, .int 0, .ref h1, .ref r_kinds, .ref r_begins, .ref r_ends, .ref r_values, .int 1, .int 0, .int 0, .ref r_labels, .int 0, .ref r_links, .int 0, .long 0, .long 0, .int 0, .int 0, .int 0])), (r_kinds, .inl (cI, 4001, .inl (upd (fun _ => 0) (0 : Int32).toNatClampNeg (6 : Int32)))), (r_begins, .inl (cI, 4001, .inl (upd (fun _ => 0) (0 : Int32).toNatClampNeg (0 : Int32)))), (r_ends, .inl (cI, 4001, .inl (upd (fun _ => 0) (0 : Int32).toNatClampNeg (0 : Int32)))), (r_values, .inl (cJ, 4001, .inr (.inl (vp_updL (fun _ => 0) (0 : Int32).toNatClampNeg 0))))] H := hP
  have hD : va_D A [(h0, .inr (5, [.ref r_made, .int 0, .ref h1, .ref r_kinds, .ref r_begins, .ref r_ends, .ref r_values, .int 1, .int 0, .int 0, .ref r_labels, .int 0, .ref r_links, .int 0, .long 0, .long 0, .int 0, .int 0, .int 0])), (r_kinds, .inl (cI, 4001, .inl (upd (fun _ => 0) (0 : Int32).toNatClampNeg (6 : Int32)))), (r_begins, .inl (cI, 4001, .inl (upd (fun _ => 0) (0 : Int32).toNatClampNeg (0 : Int32)))), (r_ends, .inl (cI, 4001, .inl (upd (fun _ => 0) (0 : Int32).toNatClampNeg (0 : Int32)))), (r_values, .inl (cJ, 4001, .inr (.inl (vp_updL (fun _ => 0) (0 : Int32).toNatClampNeg 0))))] := hD
  refine lv_aload_n hx hb dX6_read_20 rfl (lv_at hl 0 rfl) ?_
  refine lv_iconst (v := 0) hx hb dX6_read_21 (by decide +kernel) ?_
  refine va_put (D := (dC, dI)) (ci := 5) (v := .int 0) (ty := .int) (C := RX6) (T := TX6) (N := 19) hx hb hts zz_in_zm_read_X6 tyX6 tyX6_ok nmX6 hown hK hP hD hS 0 rfl rfl 11 (by decide +kernel) (hts (.fieldLink RX6 51 "FilterHouse$Reader" "labelCount" "I") (List.mem_of_getElem? (i := 18) rfl)) (fun _ h9 => h9) rfl (by decide +kernel) rfl rfl (Nat.le_of_ble_eq_true rfl) dX6_read_22 (fun H locs hP hD hS => ?_)
  have hP : va_P (dC, dI) zz_cl [(h0, .inr (5, [.ref r_made, .int 0, .ref h1, .ref r_kinds, .ref r_begins, .ref r_ends, .ref r_values, .int 1, .int 0, .int 0, .ref r_labels, .int 0, .ref r_links, .int 0, .long 0, .long 0, .int 0, .int 0, .int 0])), (r_kinds, .inl (cI, 4001, .inl (upd (fun _ => 0) (0 : Int32).toNatClampNeg (6 : Int32)))), (r_begins, .inl (cI, 4001, .inl (upd (fun _ => 0) (0 : Int32).toNatClampNeg (0 : Int32)))), (r_ends, .inl (cI, 4001, .inl (upd (fun _ => 0) (0 : Int32).toNatClampNeg (0 : Int32)))), (r_values, .inl (cJ, 4001, .inr (.inl (vp_updL (fun _ => 0) (0 : Int32).toNatClampNeg 0))))] H := hP
  have hD : va_D A [(h0, .inr (5, [.ref r_made, .int 0, .ref h1, .ref r_kinds, .ref r_begins, .ref r_ends, .ref r_values, .int 1, .int 0, .int 0, .ref r_labels, .int 0, .ref r_links, .int 0, .long 0, .long 0, .int 0, .int 0, .int 0])), (r_kinds, .inl (cI, 4001, .inl (upd (fun _ => 0) (0 : Int32).toNatClampNeg (6 : Int32)))), (r_begins, .inl (cI, 4001, .inl (upd (fun _ => 0) (0 : Int32).toNatClampNeg (0 : Int32)))), (r_ends, .inl (cI, 4001, .inl (upd (fun _ => 0) (0 : Int32).toNatClampNeg (0 : Int32)))), (r_values, .inl (cJ, 4001, .inr (.inl (vp_updL (fun _ => 0) (0 : Int32).toNatClampNeg 0))))] := hD
  refine lv_aload_n hx hb dX6_read_25 rfl (lv_at hl 0 rfl) ?_
  refine lv_iconst (v := 0) hx hb dX6_read_26 (by decide +kernel) ?_
  refine va_put (D := (dC, dI)) (ci := 5) (v := .int 0) (ty := .int) (C := RX6) (T := TX6) (N := 19) hx hb hts zz_in_zm_read_X6 tyX6 tyX6_ok nmX6 hown hK hP hD hS 0 rfl rfl 13 (by decide +kernel) (hts (.fieldLink RX6 54 "FilterHouse$Reader" "linkCount" "I") (List.mem_of_getElem? (i := 19) rfl)) (fun _ h9 => h9) rfl (by decide +kernel) rfl rfl (Nat.le_of_ble_eq_true rfl) dX6_read_27 (fun H locs hP hD hS => ?_)
  have hP : va_P (dC, dI) zz_cl [(h0, .inr (5, [.ref r_made, .int 0, .ref h1, .ref r_kinds, .ref r_begins, .ref r_ends, .ref r_values, .int 1, .int 0, .int 0, .ref r_labels, .int 0, .ref r_links, .int 0, .long 0, .long 0, .int 0, .int 0, .int 0])), (r_kinds, .inl (cI, 4001, .inl (upd (fun _ => 0) (0 : Int32).toNatClampNeg (6 : Int32)))), (r_begins, .inl (cI, 4001, .inl (upd (fun _ => 0) (0 : Int32).toNatClampNeg (0 : Int32)))), (r_ends, .inl (cI, 4001, .inl (upd (fun _ => 0) (0 : Int32).toNatClampNeg (0 : Int32)))), (r_values, .inl (cJ, 4001, .inr (.inl (vp_updL (fun _ => 0) (0 : Int32).toNatClampNeg 0))))] H := hP
  have hD : va_D A [(h0, .inr (5, [.ref r_made, .int 0, .ref h1, .ref r_kinds, .ref r_begins, .ref r_ends, .ref r_values, .int 1, .int 0, .int 0, .ref r_labels, .int 0, .ref r_links, .int 0, .long 0, .long 0, .int 0, .int 0, .int 0])), (r_kinds, .inl (cI, 4001, .inl (upd (fun _ => 0) (0 : Int32).toNatClampNeg (6 : Int32)))), (r_begins, .inl (cI, 4001, .inl (upd (fun _ => 0) (0 : Int32).toNatClampNeg (0 : Int32)))), (r_ends, .inl (cI, 4001, .inl (upd (fun _ => 0) (0 : Int32).toNatClampNeg (0 : Int32)))), (r_values, .inl (cJ, 4001, .inr (.inl (vp_updL (fun _ => 0) (0 : Int32).toNatClampNeg 0))))] := hD
  refine lv_aload_n hx hb dX6_read_30 rfl (lv_at hl 0 rfl) ?_
  refine lv_iconst (v := (-1)) hx hb dX6_read_31 (by decide +kernel) ?_
  refine va_put (D := (dC, dI)) (ci := 5) (v := .int (-1)) (ty := .int) (C := RX6) (T := TX6) (N := 19) hx hb hts zz_in_zm_read_X6 tyX6 tyX6_ok nmX6 hown hK hP hD hS 0 rfl rfl 9 (by decide +kernel) (hts (.fieldLink RX6 57 "FilterHouse$Reader" "wrong" "I") (List.mem_of_getElem? (i := 20) rfl)) (fun _ h9 => h9) rfl (by decide +kernel) rfl rfl (Nat.le_of_ble_eq_true rfl) dX6_read_32 (fun H locs hP hD hS => ?_)
  have hP : va_P (dC, dI) zz_cl [(h0, .inr (5, [.ref r_made, .int 0, .ref h1, .ref r_kinds, .ref r_begins, .ref r_ends, .ref r_values, .int 1, .int 0, .int (-1), .ref r_labels, .int 0, .ref r_links, .int 0, .long 0, .long 0, .int 0, .int 0, .int 0])), (r_kinds, .inl (cI, 4001, .inl (upd (fun _ => 0) (0 : Int32).toNatClampNeg (6 : Int32)))), (r_begins, .inl (cI, 4001, .inl (upd (fun _ => 0) (0 : Int32).toNatClampNeg (0 : Int32)))), (r_ends, .inl (cI, 4001, .inl (upd (fun _ => 0) (0 : Int32).toNatClampNeg (0 : Int32)))), (r_values, .inl (cJ, 4001, .inr (.inl (vp_updL (fun _ => 0) (0 : Int32).toNatClampNeg 0))))] H := hP
  have hD : va_D A [(h0, .inr (5, [.ref r_made, .int 0, .ref h1, .ref r_kinds, .ref r_begins, .ref r_ends, .ref r_values, .int 1, .int 0, .int (-1), .ref r_labels, .int 0, .ref r_links, .int 0, .long 0, .long 0, .int 0, .int 0, .int 0])), (r_kinds, .inl (cI, 4001, .inl (upd (fun _ => 0) (0 : Int32).toNatClampNeg (6 : Int32)))), (r_begins, .inl (cI, 4001, .inl (upd (fun _ => 0) (0 : Int32).toNatClampNeg (0 : Int32)))), (r_ends, .inl (cI, 4001, .inl (upd (fun _ => 0) (0 : Int32).toNatClampNeg (0 : Int32)))), (r_values, .inl (cJ, 4001, .inr (.inl (vp_updL (fun _ => 0) (0 : Int32).toNatClampNeg 0))))] := hD
  refine lv_iconst (v := 0) hx hb dX6_read_35 (by decide +kernel) ?_
  refine lv_istore_n (lv' := [(3, .int 0), (0, .ref h0), (1, .ref h1), (2, .int 0)]) hx hb dX6_read_36 rfl hl (by decide +kernel) rfl (fun ls hl => ?_)
  refine lv_iload_n hx hb dX6_read_37 rfl (lv_at hl 0 rfl) ?_
  refine lv_aload_n hx hb dX6_read_38 rfl (lv_at hl 1 rfl) ?_
  refine va_get (D := (dC, dI)) (ci := 5) (v := .int 1) (C := RX6) (T := TX6) (N := 19) hx hb hts zz_in_zm_read_X6 hown hK hP 0 rfl rfl 7 (by decide +kernel) (hts (.fieldLink RX6 60 "FilterHouse$Reader" "tokens" "I") (List.mem_of_getElem? (i := 2) rfl)) (fun _ h9 => h9) rfl dX6_read_39 ?_
  refine lv_icmp_gt (tgt := 85) hx hb dX6_read_42 (by decide +kernel) (fun c_4 => ?_) (fun c_4 => ?_)
  · exact absurd c_4 (by decide +kernel)
  · refine lv_aload_n hx hb dX6_read_45 rfl (lv_at hl 1 rfl) ?_
    have hPc := hP.sub (ws' := [(h0, .inr (5, [.ref r_made, .int 0, .ref h1, .ref r_kinds, .ref r_begins, .ref r_ends, .ref r_values, .int 1, .int 0, .int (-1), .ref r_labels, .int 0, .ref r_links, .int 0, .long 0, .long 0, .int 0, .int 0, .int 0])), (r_kinds, .inl (cI, 4001, .inl (upd (fun _ => 0) (0 : Int32).toNatClampNeg (6 : Int32))))]) [0, 1] rfl
    have hDc := hD.sub (ws' := [(h0, .inr (5, [.ref r_made, .int 0, .ref h1, .ref r_kinds, .ref r_begins, .ref r_ends, .ref r_values, .int 1, .int 0, .int (-1), .ref r_labels, .int 0, .ref r_links, .int 0, .long 0, .long 0, .int 0, .int 0, .int 0])), (r_kinds, .inl (cI, 4001, .inl (upd (fun _ => 0) (0 : Int32).toNatClampNeg (6 : Int32))))]) [0, 1] (by decide +kernel) rfl
    have hFc := va_free (wc := [(h0, .inr (5, [.ref r_made, .int 0, .ref h1, .ref r_kinds, .ref r_begins, .ref r_ends, .ref r_values, .int 1, .int 0, .int (-1), .ref r_labels, .int 0, .ref r_links, .int 0, .long 0, .long 0, .int 0, .int 0, .int 0])), (r_kinds, .inl (cI, 4001, .inl (upd (fun _ => 0) (0 : Int32).toNatClampNeg (6 : Int32))))]) hD hS hA [0, 1] rfl
    refine va_calli (va_runV (As := []) (rest := []) ⟨hx, hb, hml, hown, hts⟩ (zm_readLine l dC dI cB cI cJ cZ h0 r_kinds r_made h1 r_begins r_ends r_values r_labels r_links H.size) (cwV 0 hts (goodIn_app (goodIn_r [.methodLink RX6 63 yX6_readLine, .instanceMethod yX6_readLine, .selects RX6 yX6_readLine yX6_readLine, .initialized RX6] [22, 23, 24, 11] rfl (by decide +kernel)) zz_g_zm_read_zm_readLine) rfl rfl rfl (by decide +kernel) ⟨Nat.le_of_ble_eq_true rfl, Nat.le_of_ble_eq_true rfl⟩) ⟨fun a U g mk q => by obtain ⟨q0, q1, qP, qK, qD⟩ := q; exact ⟨q0, q1, qP, va_K.moved (u := U) (U := U.calling g mk a) (Vm.Alike.refl U.vm) qK, qD⟩, va_recv hK hPc (ci := 5) (q0 := 0) rfl rfl, fun U hU hW => ⟨rfl, by rw [hU], by rw [hU]; exact hPc, va_K.moved hW.alike hK, hDc.weaken (fun _ _ _ _ => trivial)⟩⟩ rfl rfl hl.1 rfl (lv_room (Nat.le_of_ble_eq_true rfl)) dX6_read_46 ⟨Nat.le_of_ble_eq_true rfl, Nat.le_of_ble_eq_true rfl⟩) hS (fun q _ h => hFc q h) hFc (fun r_5 u_7 t H1 locs ht hvm hw_6 hB hz1 hk1 hS => ?_)
    obtain ⟨hP1, hD1⟩ := hB
    rw [ht] at hP1
    obtain ⟨hP, hD⟩ := va_join (wr := [(r_begins, .inl (cI, 4001, .inl (upd (fun _ => 0) (0 : Int32).toNatClampNeg (0 : Int32)))), (r_ends, .inl (cI, 4001, .inl (upd (fun _ => 0) (0 : Int32).toNatClampNeg (0 : Int32)))), (r_values, .inl (cJ, 4001, .inr (.inl (vp_updL (fun _ => 0) (0 : Int32).toNatClampNeg 0))))]) (w1 := [(h0, .inr (5, [.ref r_made, .int 0, .ref h1, .ref r_kinds, .ref r_begins, .ref r_ends, .ref r_values, .int 1, .int 0, .int (-1), .ref r_labels, .int 0, .ref r_links, .int 0, .long 0, .long 0, .int 0, .int 0, .int 0])), (r_kinds, .inl (cI, 4001, .inl (upd (fun _ => 0) (0 : Int32).toNatClampNeg (6 : Int32))))]) hP hD [0, 1] [2, 3, 4] rfl rfl (by decide +kernel) (by decide +kernel) hk1 hFc hP1 hD1
    generalize H1 = H at hP hS ⊢
    have hP : va_P (dC, dI) zz_cl [(r_begins, .inl (cI, 4001, .inl (upd (fun _ => 0) (0 : Int32).toNatClampNeg (0 : Int32)))), (r_ends, .inl (cI, 4001, .inl (upd (fun _ => 0) (0 : Int32).toNatClampNeg (0 : Int32)))), (r_values, .inl (cJ, 4001, .inr (.inl (vp_updL (fun _ => 0) (0 : Int32).toNatClampNeg 0)))), (h0, .inr (5, [.ref r_made, .int 0, .ref h1, .ref r_kinds, .ref r_begins, .ref r_ends, .ref r_values, .int 1, .int 0, .int (-1), .ref r_labels, .int 0, .ref r_links, .int 0, .long 0, .long 0, .int 0, .int 0, .int 0])), (r_kinds, .inl (cI, 4001, .inl (upd (fun _ => 0) (0 : Int32).toNatClampNeg (6 : Int32))))] H := hP
    have hD : va_D A [(r_begins, .inl (cI, 4001, .inl (upd (fun _ => 0) (0 : Int32).toNatClampNeg (0 : Int32)))), (r_ends, .inl (cI, 4001, .inl (upd (fun _ => 0) (0 : Int32).toNatClampNeg (0 : Int32)))), (r_values, .inl (cJ, 4001, .inr (.inl (vp_updL (fun _ => 0) (0 : Int32).toNatClampNeg 0)))), (h0, .inr (5, [.ref r_made, .int 0, .ref h1, .ref r_kinds, .ref r_begins, .ref r_ends, .ref r_values, .int 1, .int 0, .int (-1), .ref r_labels, .int 0, .ref r_links, .int 0, .long 0, .long 0, .int 0, .int 0, .int 0])), (r_kinds, .inl (cI, 4001, .inl (upd (fun _ => 0) (0 : Int32).toNatClampNeg (6 : Int32))))] := hD
    try dsimp only at hw_6
    obtain rfl : r_5 = (1 : Int32) := hw_6
    refine lv_if_eq (tgt := 85) hx hb dX6_read_49 (by decide +kernel) (fun c_8 => ?_) (fun c_8 => ?_)
    · exact absurd c_8 (by decide +kernel)
    · refine lv_aload_n hx hb dX6_read_52 rfl (lv_at hl 1 rfl) ?_
      refine va_get (D := (dC, dI)) (ci := 5) (v := .ref r_kinds) (C := RX6) (T := TX6) (N := 19) hx hb hts zz_in_zm_read_X6 hown hK hP 3 rfl rfl 3 (by decide +kernel) (hts (.fieldLink RX6 17 "FilterHouse$Reader" "kinds" "[I") (List.mem_of_getElem? (i := 3) rfl)) (fun _ h9 => h9) rfl dX6_read_53 ?_
      refine lv_aload_n hx hb dX6_read_56 rfl (lv_at hl 1 rfl) ?_
      refine va_get (D := (dC, dI)) (ci := 5) (v := .int 0) (C := RX6) (T := TX6) (N := 19) hx hb hts zz_in_zm_read_X6 hown hK hP 3 rfl rfl 8 (by decide +kernel) (hts (.fieldLink RX6 44 "FilterHouse$Reader" "at" "I") (List.mem_of_getElem? (i := 16) rfl)) (fun _ h9 => h9) rfl dX6_read_57 ?_
      refine va_iald hx hb hK hP 4 1 rfl rfl (show ¬ ((0 : Int32) < 0 ∨ 4001 ≤ (0 : Int32).toNatClampNeg) by decide +kernel) dX6_read_60 ?_
      refine lv_topi (fun f_9 ef_9 => ?_)
      obtain rfl : f_9 = (6 : Int32) := ef_9.trans (by decide +kernel)
      refine lv_bipush (v := 6) hx hb dX6_read_61 (by decide +kernel) ?_
      refine lv_icmp_ne (tgt := 69) hx hb dX6_read_63 (by decide +kernel) (fun c_10 => ?_) (fun c_10 => ?_)
      · exact absurd c_10 (by decide +kernel)
      · refine lv_goto (tgt := 85) hx hb dX6_read_66 (by decide +kernel) ?_
        refine lv_aload_n hx hb dX6_read_85 rfl (lv_at hl 1 rfl) ?_
        refine va_get (D := (dC, dI)) (ci := 5) (v := .int (-1)) (C := RX6) (T := TX6) (N := 19) hx hb hts zz_in_zm_read_X6 hown hK hP 3 rfl rfl 9 (by decide +kernel) (hts (.fieldLink RX6 57 "FilterHouse$Reader" "wrong" "I") (List.mem_of_getElem? (i := 20) rfl)) (fun _ h9 => h9) rfl dX6_read_86 ?_
        refine lv_if_ge (tgt := 96) hx hb dX6_read_89 (by decide +kernel) (fun c_11 => ?_) (fun c_11 => ?_)
        · exact absurd c_11 (by decide +kernel)
        · refine lv_aload_n hx hb dX6_read_92 rfl (lv_at hl 1 rfl) ?_
          have hPc := hP.sub (ws' := [(h0, .inr (5, [.ref r_made, .int 0, .ref h1, .ref r_kinds, .ref r_begins, .ref r_ends, .ref r_values, .int 1, .int 0, .int (-1), .ref r_labels, .int 0, .ref r_links, .int 0, .long 0, .long 0, .int 0, .int 0, .int 0]))]) [3] rfl
          have hDc := hD.sub (ws' := [(h0, .inr (5, [.ref r_made, .int 0, .ref h1, .ref r_kinds, .ref r_begins, .ref r_ends, .ref r_values, .int 1, .int 0, .int (-1), .ref r_labels, .int 0, .ref r_links, .int 0, .long 0, .long 0, .int 0, .int 0, .int 0]))]) [3] (by decide +kernel) rfl
          have hFc := va_free (wc := [(h0, .inr (5, [.ref r_made, .int 0, .ref h1, .ref r_kinds, .ref r_begins, .ref r_ends, .ref r_values, .int 1, .int 0, .int (-1), .ref r_labels, .int 0, .ref r_links, .int 0, .long 0, .long 0, .int 0, .int 0, .int 0]))]) hD hS hA [3] rfl
          refine va_callv (va_runV (As := []) (rest := []) ⟨hx, hb, hml, hown, hts⟩ (zm_resolve l dC dI cB cI cJ cZ h0 r_made h1 r_kinds r_begins r_ends r_values r_labels r_links H.size) (cwV 0 hts (goodIn_app (goodIn_r [.methodLink RX6 67 yX6_resolve, .instanceMethod yX6_resolve, .selects RX6 yX6_resolve yX6_resolve, .initialized RX6] [26, 27, 28, 11] rfl (by decide +kernel)) zz_g_zm_read_zm_resolve) rfl rfl rfl (by decide +kernel) ⟨Nat.le_of_ble_eq_true rfl, Nat.le_of_ble_eq_true rfl⟩) ⟨fun a U g mk q => by obtain ⟨q0, q1, qP, qK, qD⟩ := q; exact ⟨q0, q1, qP, va_K.moved (u := U) (U := U.calling g mk a) (Vm.Alike.refl U.vm) qK, qD⟩, va_recv hK hPc (ci := 5) (q0 := 0) rfl rfl, fun U hU hW => ⟨rfl, by rw [hU], by rw [hU]; exact hPc, va_K.moved hW.alike hK, hDc.weaken (fun _ _ _ _ => trivial)⟩⟩ rfl rfl hl.1 rfl (lv_room (Nat.le_of_ble_eq_true rfl)) dX6_read_93 ⟨Nat.le_of_ble_eq_true rfl, Nat.le_of_ble_eq_true rfl⟩) hS (fun q _ h => hFc q h) hFc (fun u_14 t H1 locs ht hvm hw_13 hB hz1 hk1 hS => ?_)
          obtain ⟨hP1, hD1⟩ := hB
          rw [ht] at hP1
          obtain ⟨hP, hD⟩ := va_join (wr := [(r_begins, .inl (cI, 4001, .inl (upd (fun _ => 0) (0 : Int32).toNatClampNeg (0 : Int32)))), (r_ends, .inl (cI, 4001, .inl (upd (fun _ => 0) (0 : Int32).toNatClampNeg (0 : Int32)))), (r_values, .inl (cJ, 4001, .inr (.inl (vp_updL (fun _ => 0) (0 : Int32).toNatClampNeg 0)))), (r_kinds, .inl (cI, 4001, .inl (upd (fun _ => 0) (0 : Int32).toNatClampNeg (6 : Int32))))]) (w1 := [(h0, .inr (5, [.ref r_made, .int 0, .ref h1, .ref r_kinds, .ref r_begins, .ref r_ends, .ref r_values, .int 1, .int 0, .int (-1), .ref r_labels, .int 0, .ref r_links, .int 0, .long 0, .long 0, .int 0, .int 0, .int 0]))]) hP hD [3] [0, 1, 2, 4] rfl rfl (by decide +kernel) (by decide +kernel) hk1 hFc hP1 hD1
          generalize H1 = H at hP hS ⊢
          have hP : va_P (dC, dI) zz_cl [(r_begins, .inl (cI, 4001, .inl (upd (fun _ => 0) (0 : Int32).toNatClampNeg (0 : Int32)))), (r_ends, .inl (cI, 4001, .inl (upd (fun _ => 0) (0 : Int32).toNatClampNeg (0 : Int32)))), (r_values, .inl (cJ, 4001, .inr (.inl (vp_updL (fun _ => 0) (0 : Int32).toNatClampNeg 0)))), (r_kinds, .inl (cI, 4001, .inl (upd (fun _ => 0) (0 : Int32).toNatClampNeg (6 : Int32)))), (h0, .inr (5, [.ref r_made, .int 0, .ref h1, .ref r_kinds, .ref r_begins, .ref r_ends, .ref r_values, .int 1, .int 0, .int (-1), .ref r_labels, .int 0, .ref r_links, .int 0, .long 0, .long 0, .int 0, .int 0, .int 0]))] H := hP
          have hD : va_D A [(r_begins, .inl (cI, 4001, .inl (upd (fun _ => 0) (0 : Int32).toNatClampNeg (0 : Int32)))), (r_ends, .inl (cI, 4001, .inl (upd (fun _ => 0) (0 : Int32).toNatClampNeg (0 : Int32)))), (r_values, .inl (cJ, 4001, .inr (.inl (vp_updL (fun _ => 0) (0 : Int32).toNatClampNeg 0)))), (r_kinds, .inl (cI, 4001, .inl (upd (fun _ => 0) (0 : Int32).toNatClampNeg (6 : Int32)))), (h0, .inr (5, [.ref r_made, .int 0, .ref h1, .ref r_kinds, .ref r_begins, .ref r_ends, .ref r_values, .int 1, .int 0, .int (-1), .ref r_labels, .int 0, .ref r_links, .int 0, .long 0, .long 0, .int 0, .int 0, .int 0]))] := hD
          refine lv_aload_n hx hb dX6_read_96 rfl (lv_at hl 1 rfl) ?_
          refine va_get (D := (dC, dI)) (ci := 5) (v := .int (-1)) (C := RX6) (T := TX6) (N := 19) hx hb hts zz_in_zm_read_X6 hown hK hP 4 rfl rfl 9 (by decide +kernel) (hts (.fieldLink RX6 57 "FilterHouse$Reader" "wrong" "I") (List.mem_of_getElem? (i := 20) rfl)) (fun _ h9 => h9) rfl dX6_read_97 ?_
          refine lv_if_ge (tgt := 115) hx hb dX6_read_100 (by decide +kernel) (fun c_15 => ?_) (fun c_15 => ?_)
          · exact absurd c_15 (by decide +kernel)
          · refine lv_aload_n hx hb dX6_read_103 rfl (lv_at hl 1 rfl) ?_
            refine va_get (D := (dC, dI)) (ci := 5) (v := .int 0) (C := RX6) (T := TX6) (N := 19) hx hb hts zz_in_zm_read_X6 hown hK hP 4 rfl rfl 1 (by decide +kernel) (hts (.fieldLink RX6 48 "FilterHouse$Reader" "count" "I") (List.mem_of_getElem? (i := 17) rfl)) (fun _ h9 => h9) rfl dX6_read_104 ?_
            refine lv_if_ne (tgt := 115) hx hb dX6_read_107 (by decide +kernel) (fun c_16 => ?_) (fun c_16 => ?_)
            · exact absurd c_16 (by decide +kernel)
            · refine lv_aload_n hx hb dX6_read_110 rfl (lv_at hl 1 rfl) ?_
              refine lv_iload_n hx hb dX6_read_111 rfl (lv_at hl 3 rfl) ?_
              refine va_put (D := (dC, dI)) (ci := 5) (v := .int 0) (ty := .int) (C := RX6) (T := TX6) (N := 19) hx hb hts zz_in_zm_read_X6 tyX6 tyX6_ok nmX6 hown hK hP hD hS 4 rfl rfl 9 (by decide +kernel) (hts (.fieldLink RX6 57 "FilterHouse$Reader" "wrong" "I") (List.mem_of_getElem? (i := 20) rfl)) (fun _ h9 => h9) rfl (by decide +kernel) rfl rfl (Nat.le_of_ble_eq_true rfl) dX6_read_112 (fun H locs hP hD hS => ?_)
              have hP : va_P (dC, dI) zz_cl [(r_begins, .inl (cI, 4001, .inl (upd (fun _ => 0) (0 : Int32).toNatClampNeg (0 : Int32)))), (r_ends, .inl (cI, 4001, .inl (upd (fun _ => 0) (0 : Int32).toNatClampNeg (0 : Int32)))), (r_values, .inl (cJ, 4001, .inr (.inl (vp_updL (fun _ => 0) (0 : Int32).toNatClampNeg 0)))), (r_kinds, .inl (cI, 4001, .inl (upd (fun _ => 0) (0 : Int32).toNatClampNeg (6 : Int32)))), (h0, .inr (5, [.ref r_made, .int 0, .ref h1, .ref r_kinds, .ref r_begins, .ref r_ends, .ref r_values, .int 1, .int 0, .int 0, .ref r_labels, .int 0, .ref r_links, .int 0, .long 0, .long 0, .int 0, .int 0, .int 0]))] H := hP
              have hD : va_D A [(r_begins, .inl (cI, 4001, .inl (upd (fun _ => 0) (0 : Int32).toNatClampNeg (0 : Int32)))), (r_ends, .inl (cI, 4001, .inl (upd (fun _ => 0) (0 : Int32).toNatClampNeg (0 : Int32)))), (r_values, .inl (cJ, 4001, .inr (.inl (vp_updL (fun _ => 0) (0 : Int32).toNatClampNeg 0)))), (r_kinds, .inl (cI, 4001, .inl (upd (fun _ => 0) (0 : Int32).toNatClampNeg (6 : Int32)))), (h0, .inr (5, [.ref r_made, .int 0, .ref h1, .ref r_kinds, .ref r_begins, .ref r_ends, .ref r_values, .int 1, .int 0, .int 0, .ref r_labels, .int 0, .ref r_links, .int 0, .long 0, .long 0, .int 0, .int 0, .int 0]))] := hD
              refine lv_aload_n hx hb dX6_read_115 rfl (lv_at hl 1 rfl) ?_
              refine va_get (D := (dC, dI)) (ci := 5) (v := .int 0) (C := RX6) (T := TX6) (N := 19) hx hb hts zz_in_zm_read_X6 hown hK hP 4 rfl rfl 9 (by decide +kernel) (hts (.fieldLink RX6 57 "FilterHouse$Reader" "wrong" "I") (List.mem_of_getElem? (i := 20) rfl)) (fun _ h9 => h9) rfl dX6_read_116 ?_
              refine lv_if_ge (tgt := 129) hx hb dX6_read_119 (by decide +kernel) (fun c_17 => ?_) (fun c_17 => ?_)
              · refine lv_bipush (v := (-10)) hx hb dX6_read_129 (by decide +kernel) ?_
                refine lv_aload_n hx hb dX6_read_131 rfl (lv_at hl 1 rfl) ?_
                refine va_get (D := (dC, dI)) (ci := 5) (v := .int 0) (C := RX6) (T := TX6) (N := 19) hx hb hts zz_in_zm_read_X6 hown hK hP 4 rfl rfl 9 (by decide +kernel) (hts (.fieldLink RX6 57 "FilterHouse$Reader" "wrong" "I") (List.mem_of_getElem? (i := 20) rfl)) (fun _ h9 => h9) rfl dX6_read_132 ?_
                refine lv_isub hx hb dX6_read_135 ?_
                refine lv_topi (fun f_18 ef_18 => ?_)
                obtain rfl : f_18 = ((-10) : Int32) := ef_18.trans (by decide +kernel)
                exact W.iret (v := (-10)) hx hb hr (fun t ht hW => ⟨⟨(-10), (), rfl, rfl, trivial⟩, hS.F ht⟩) hS.2.2 dX6_read_136
              · exact absurd c_17 (by decide +kernel)
def zw_zm_assemble : List Cond := .code yX11_assemble cX11_assemble 4 (some .int) :: ([.fieldLink RX11 13 "FilterHouse" "tapeSize" "I", .code yX11_useTape cX11_useTape 2 (some .int), .methodLink RX11 67 yX11_useTape, .instanceMethod yX11_useTape, .selects RX11 yX11_useTape yX11_useTape, .initialized RX11, .code yX8_isSlot cX8_isSlot 1 (some .boolean), .methodLink RX11 71 yX8_isSlot, .static yX8_isSlot, .initialized RX8, .fieldLink RX11 34 "FilterHouse" "reader" "LFilterHouse$Reader;", .fieldLink RX11 9 "FilterHouse" "tape" "[B", .fieldLink RX6 36 "FilterHouse$Reader" "text" "[B", .fieldLink RX6 60 "FilterHouse$Reader" "tokens" "I", .fieldLink RX6 17 "FilterHouse$Reader" "kinds" "[I", .fieldLink RX6 21 "FilterHouse$Reader" "begins" "[I", .fieldLink RX6 24 "FilterHouse$Reader" "ends" "[I", .fieldLink RX6 27 "FilterHouse$Reader" "values" "[J", .code yX6_addToken cX6_addToken 6 none, .methodLink RX6 78 yX6_addToken, .instanceMethod yX6_addToken, .selects RX6 yX6_addToken yX6_addToken, .initialized RX6, .code yX6_findTokens cX6_findTokens 5 none, .methodLink RX6 40 yX6_findTokens, .instanceMethod yX6_findTokens, .selects RX6 yX6_findTokens yX6_findTokens, .fieldLink RX6 44 "FilterHouse$Reader" "at" "I", .fieldLink RX6 48 "FilterHouse$Reader" "count" "I", .fieldLink RX6 51 "FilterHouse$Reader" "labelCount" "I", .fieldLink RX6 54 "FilterHouse$Reader" "linkCount" "I", .fieldLink RX6 57 "FilterHouse$Reader" "wrong" "I", .code yX6_readLine cX6_readLine 4 (some .boolean), .methodLink RX6 63 yX6_readLine, .instanceMethod yX6_readLine, .selects RX6 yX6_readLine yX6_readLine, .code yX6_resolve cX6_resolve 4 none, .methodLink RX6 67 yX6_resolve, .instanceMethod yX6_resolve, .selects RX6 yX6_resolve yX6_resolve, .code yX6_read cX6_read 4 (some .int), .methodLink RX11 75 yX6_read, .instanceMethod yX6_read, .selects RX6 yX6_read yX6_read] ++ (wsX110 ++ (wsX60 ++ [])))
theorem zz_in_zm_assemble_X11 : ∀ w ∈ wsX110, w ∈ zw_zm_assemble := fun w h => List.mem_cons_of_mem _ (List.mem_append_right _ (List.mem_append_left _ h))
theorem zz_in_zm_assemble_X6 : ∀ w ∈ wsX60, w ∈ zw_zm_assemble := fun w h => List.mem_cons_of_mem _ (List.mem_append_right _ (List.mem_append_right _ (List.mem_append_left _ h)))
set_option maxRecDepth 20000 in
theorem zz_g_zm_assemble_zm_useTape : GoodIn zw_zm_assemble zw_zm_useTape := goodIn_ca (goodIn_r ([.code yX11_useTape cX11_useTape 2 (some .int), .fieldLink RX11 13 "FilterHouse" "tapeSize" "I"]) [2, 1] rfl (by decide +kernel)) (goodIn_app (goodIn_sub zz_in_zm_assemble_X11 zz_gw_X11) (goodIn_sub (fun _ h => absurd h List.not_mem_nil) rfl))
set_option maxRecDepth 20000 in
theorem zz_g_zm_assemble_zm_isSlot : GoodIn zw_zm_assemble zw_zm_isSlot := goodIn_ca (goodIn_r ([.code yX8_isSlot cX8_isSlot 1 (some .boolean)]) [7] rfl (by decide +kernel)) (goodIn_sub (fun _ h => absurd h List.not_mem_nil) rfl)
set_option maxRecDepth 20000 in
theorem zz_g_zm_assemble_zm_read : GoodIn zw_zm_assemble zw_zm_read := goodIn_ca (goodIn_r ([.code yX6_read cX6_read 4 (some .int), .fieldLink RX6 36 "FilterHouse$Reader" "text" "[B", .fieldLink RX6 60 "FilterHouse$Reader" "tokens" "I", .fieldLink RX6 17 "FilterHouse$Reader" "kinds" "[I", .fieldLink RX6 21 "FilterHouse$Reader" "begins" "[I", .fieldLink RX6 24 "FilterHouse$Reader" "ends" "[I", .fieldLink RX6 27 "FilterHouse$Reader" "values" "[J", .code yX6_addToken cX6_addToken 6 none, .methodLink RX6 78 yX6_addToken, .instanceMethod yX6_addToken, .selects RX6 yX6_addToken yX6_addToken, .initialized RX6, .code yX6_findTokens cX6_findTokens 5 none, .methodLink RX6 40 yX6_findTokens, .instanceMethod yX6_findTokens, .selects RX6 yX6_findTokens yX6_findTokens, .fieldLink RX6 44 "FilterHouse$Reader" "at" "I", .fieldLink RX6 48 "FilterHouse$Reader" "count" "I", .fieldLink RX6 51 "FilterHouse$Reader" "labelCount" "I", .fieldLink RX6 54 "FilterHouse$Reader" "linkCount" "I", .fieldLink RX6 57 "FilterHouse$Reader" "wrong" "I", .code yX6_readLine cX6_readLine 4 (some .boolean), .methodLink RX6 63 yX6_readLine, .instanceMethod yX6_readLine, .selects RX6 yX6_readLine yX6_readLine, .code yX6_resolve cX6_resolve 4 none, .methodLink RX6 67 yX6_resolve, .instanceMethod yX6_resolve, .selects RX6 yX6_resolve yX6_resolve]) [41, 13, 14, 15, 16, 17, 18, 19, 20, 21, 22, 23, 24, 25, 26, 27, 28, 29, 30, 31, 32, 33, 34, 35, 36, 37, 38, 39, 40] rfl (by decide +kernel)) (goodIn_app (goodIn_sub zz_in_zm_assemble_X6 zz_gw_X6) (goodIn_sub (fun _ h => absurd h List.not_mem_nil) rfl))
set_option maxHeartbeats 1000000 in
set_option maxRecDepth 100000 in
/-- zm_assemble -/
theorem zm_assemble (l : Launch) (dC : Nat → ClassId) (dI : Nat → Nat → Nat) (cB cI cJ cZ : ClassId) (h0 h4 r_kinds r_begins r_ends r_values h1 h2 h3 h5 h6 h7 r_made r_labels r_links : Nat) (sz : Nat) (p0 : Int32) : Met l yX11_assemble zw_zm_assemble ({ frames := 3, cells := 0, slots := 0, locals := 72 }) (va_Pc [.ref h0, .int p0] (fun U => U.heap.size = sz ∧ va_P (dC, dI) zz_cl [(h0, .inr (10, [.ref h1, .int 0, .ref h2, .ref h3, .ref h4, .ref h5, .ref h6, .ref h7])), (h4, .inr (5, [.ref r_made, .int 0, .null, .ref r_kinds, .ref r_begins, .ref r_ends, .ref r_values, .int 0, .int 0, .int 0, .ref r_labels, .int 0, .ref r_links, .int 0, .long 0, .long 0, .int 0, .int 0, .int 0])), (r_kinds, .inl (cI, 4001, .inl (fun _ => 0))), (r_begins, .inl (cI, 4001, .inl (fun _ => 0))), (r_ends, .inl (cI, 4001, .inl (fun _ => 0))), (r_values, .inl (cJ, 4001, .inr (.inl (fun _ => 0))))] U.heap ∧ va_K (dC, dI) zz_cl [(cB, .byte), (cI, .int), (cJ, .long), (cZ, .boolean)] U ∧ va_D (fun _ => True) [(h0, .inr (10, [.ref h1, .int 0, .ref h2, .ref h3, .ref h4, .ref h5, .ref h6, .ref h7])), (h4, .inr (5, [.ref r_made, .int 0, .null, .ref r_kinds, .ref r_begins, .ref r_ends, .ref r_values, .int 0, .int 0, .int 0, .ref r_labels, .int 0, .ref r_links, .int 0, .long 0, .long 0, .int 0, .int 0, .int 0])), (r_kinds, .inl (cI, 4001, .inl (fun _ => 0))), (r_begins, .inl (cI, 4001, .inl (fun _ => 0))), (r_ends, .inl (cI, 4001, .inl (fun _ => 0))), (r_values, .inl (cJ, 4001, .inr (.inl (fun _ => 0))))])) (va_Qi (fun (r : Int32) (_ : Unit) => (r = (-10) ∧ (0 ≤ p0.toInt ∧ p0.toInt < 8)) ∨ (r = (-1) ∧ ¬ (0 ≤ p0.toInt ∧ p0.toInt < 8))) (fun (_ : Unit) _ => True) (va_A [(h0, .inr (10, [.ref h1, .int 0, .ref h2, .ref h3, .ref h4, .ref h5, .ref h6, .ref h7])), (h4, .inr (5, [.ref r_made, .int 0, .null, .ref r_kinds, .ref r_begins, .ref r_ends, .ref r_values, .int 0, .int 0, .int 0, .ref r_labels, .int 0, .ref r_links, .int 0, .long 0, .long 0, .int 0, .int 0, .int 0])), (r_kinds, .inl (cI, 4001, .inl (fun _ => 0))), (r_begins, .inl (cI, 4001, .inl (fun _ => 0))), (r_ends, .inl (cI, 4001, .inl (fun _ => 0))), (r_values, .inl (cJ, 4001, .inr (.inl (fun _ => 0))))] sz)) 0 0 (va_A [(h0, .inr (10, [.ref h1, .int 0, .ref h2, .ref h3, .ref h4, .ref h5, .ref h6, .ref h7])), (h4, .inr (5, [.ref r_made, .int 0, .null, .ref r_kinds, .ref r_begins, .ref r_ends, .ref r_values, .int 0, .int 0, .int 0, .ref r_labels, .int 0, .ref r_links, .int 0, .long 0, .long 0, .int 0, .int 0, .int 0])), (r_kinds, .inl (cI, 4001, .inl (fun _ => 0))), (r_begins, .inl (cI, 4001, .inl (fun _ => 0))), (r_ends, .inl (cI, 4001, .inl (fun _ => 0))), (r_values, .inl (cJ, 4001, .inr (.inl (fun _ => 0))))] sz) := by
  refine Met.ofW (cc := cX11_assemble) (maxL := 4) (ret := (some .int)) (by decide +kernel) rfl ?_
  intro p e s m args below meth c s₁ B hml hv
  obtain ⟨rfl, hsz, hP, hK, hD0⟩ := hv
  have hx := B.exec
  have hb := B.bytes
  have hr := B.returns
  have hts := atoms_spec (ws := zw_zm_assemble) B.pre
  have hown : s.vm.findClass RX11 = some m.cls := findClass_of_methodNamed B.named
  have hlocks := B.notSynchronized
  subst hsz
  have hD := hD0.self (sz := s.heap.size)
  generalize hAe : va_A [(h0, .inr (10, [.ref h1, .int 0, .ref h2, .ref h3, .ref h4, .ref h5, .ref h6, .ref h7])), (h4, .inr (5, [.ref r_made, .int 0, .null, .ref r_kinds, .ref r_begins, .ref r_ends, .ref r_values, .int 0, .int 0, .int 0, .ref r_labels, .int 0, .ref r_links, .int 0, .long 0, .long 0, .int 0, .int 0, .int 0])), (r_kinds, .inl (cI, 4001, .inl (fun _ => 0))), (r_begins, .inl (cI, 4001, .inl (fun _ => 0))), (r_ends, .inl (cI, 4001, .inl (fun _ => 0))), (r_values, .inl (cJ, 4001, .inr (.inl (fun _ => 0))))] s.heap.size = A at hD ⊢
  have hA : ∀ q : Nat, s.heap.size ≤ q → A q := fun q h => by rw [← hAe]; exact Or.inr h
  have hS : va_S A s.heap s.heap [] := va_S.rf
  have hP : va_P (dC, dI) zz_cl [(h0, .inr (10, [.ref h1, .int 0, .ref h2, .ref h3, .ref h4, .ref h5, .ref h6, .ref h7])), (h4, .inr (5, [.ref r_made, .int 0, .null, .ref r_kinds, .ref r_begins, .ref r_ends, .ref r_values, .int 0, .int 0, .int 0, .ref r_labels, .int 0, .ref r_links, .int 0, .long 0, .long 0, .int 0, .int 0, .int 0])), (r_kinds, .inl (cI, 4001, .inl (fun _ => 0))), (r_begins, .inl (cI, 4001, .inl (fun _ => 0))), (r_ends, .inl (cI, 4001, .inl (fun _ => 0))), (r_values, .inl (cJ, 4001, .inr (.inl (fun _ => 0))))] s.heap := hP
  have hl := lv_entry ([.ref h0, .int p0]) (n := 4) (Nat.le_of_ble_eq_true rfl)
  rw [lg_entry_eq]
  generalize (lg_sl ([.ref h0, .int p0]) ++ List.replicate (4 - (lg_sl ([.ref h0, .int p0])).length) Slot.unset).toArray = ls at hl ⊢
  have hl : lv_has ls 4 [(0, .ref h0), (1, .int p0)] := hl
  refine lv_aload_n hx hb dX11_assemble_0 rfl (lv_at hl 0 rfl) ?_
  have hPc := hP.sub (ws' := [(h0, .inr (10, [.ref h1, .int 0, .ref h2, .ref h3, .ref h4, .ref h5, .ref h6, .ref h7]))]) [0] rfl
  have hDc := hD.sub (ws' := [(h0, .inr (10, [.ref h1, .int 0, .ref h2, .ref h3, .ref h4, .ref h5, .ref h6, .ref h7]))]) [0] (by decide +kernel) rfl
  have hFc := va_free (wc := [(h0, .inr (10, [.ref h1, .int 0, .ref h2, .ref h3, .ref h4, .ref h5, .ref h6, .ref h7]))]) hD hS hA [0] rfl
  refine va_calli (va_runV (As := []) (rest := []) ⟨hx, hb, hml, hown, hts⟩ (zm_useTape l dC dI cB cI cJ cZ h0 h1 h2 h3 h4 h5 h6 h7 s.heap.size) (cwV 0 hts (goodIn_app (goodIn_r [.methodLink RX11 67 yX11_useTape, .instanceMethod yX11_useTape, .selects RX11 yX11_useTape yX11_useTape, .initialized RX11] [3, 4, 5, 6] rfl (by decide +kernel)) zz_g_zm_assemble_zm_useTape) rfl rfl rfl (by decide +kernel) ⟨Nat.le_of_ble_eq_true rfl, Nat.le_of_ble_eq_true rfl⟩) ⟨fun a U g mk q => by obtain ⟨q0, q1, qP, qK, qD⟩ := q; exact ⟨q0, q1, qP, va_K.moved (u := U) (U := U.calling g mk a) (Vm.Alike.refl U.vm) qK, qD⟩, va_recv hK hPc (ci := 10) (q0 := 0) rfl rfl, fun U hU hW => ⟨rfl, by rw [hU], by rw [hU]; exact hPc, va_K.moved hW.alike hK, hDc.weaken (fun _ _ _ _ => trivial)⟩⟩ rfl rfl hl.1 rfl (lv_room (Nat.le_of_ble_eq_true rfl)) dX11_assemble_1 ⟨Nat.le_of_ble_eq_true rfl, Nat.le_of_ble_eq_true rfl⟩) hS (fun q _ h => hFc q h) hFc (fun r_1 u_3 t H1 locs ht hvm hw_2 hB hz1 hk1 hS => ?_)
  obtain ⟨hP1, hD1⟩ := hB
  rw [ht] at hP1
  obtain ⟨hP, hD⟩ := va_join (wr := [(h4, .inr (5, [.ref r_made, .int 0, .null, .ref r_kinds, .ref r_begins, .ref r_ends, .ref r_values, .int 0, .int 0, .int 0, .ref r_labels, .int 0, .ref r_links, .int 0, .long 0, .long 0, .int 0, .int 0, .int 0])), (r_kinds, .inl (cI, 4001, .inl (fun _ => 0))), (r_begins, .inl (cI, 4001, .inl (fun _ => 0))), (r_ends, .inl (cI, 4001, .inl (fun _ => 0))), (r_values, .inl (cJ, 4001, .inr (.inl (fun _ => 0))))]) (w1 := [(h0, .inr (10, [.ref h1, .int 0, .ref h2, .ref h3, .ref h4, .ref h5, .ref h6, .ref h7]))]) hP hD [0] [1, 2, 3, 4, 5] rfl rfl (by decide +kernel) (by decide +kernel) hk1 hFc hP1 hD1
  generalize H1 = H at hP hS ⊢
  have hP : va_P (dC, dI) zz_cl [(h4, .inr (5, [.ref r_made, .int 0, .null, .ref r_kinds, .ref r_begins, .ref r_ends, .ref r_values, .int 0, .int 0, .int 0, .ref r_labels, .int 0, .ref r_links, .int 0, .long 0, .long 0, .int 0, .int 0, .int 0])), (r_kinds, .inl (cI, 4001, .inl (fun _ => 0))), (r_begins, .inl (cI, 4001, .inl (fun _ => 0))), (r_ends, .inl (cI, 4001, .inl (fun _ => 0))), (r_values, .inl (cJ, 4001, .inr (.inl (fun _ => 0)))), (h0, .inr (10, [.ref h1, .int 0, .ref h2, .ref h3, .ref h4, .ref h5, .ref h6, .ref h7]))] H := hP
  have hD : va_D A [(h4, .inr (5, [.ref r_made, .int 0, .null, .ref r_kinds, .ref r_begins, .ref r_ends, .ref r_values, .int 0, .int 0, .int 0, .ref r_labels, .int 0, .ref r_links, .int 0, .long 0, .long 0, .int 0, .int 0, .int 0])), (r_kinds, .inl (cI, 4001, .inl (fun _ => 0))), (r_begins, .inl (cI, 4001, .inl (fun _ => 0))), (r_ends, .inl (cI, 4001, .inl (fun _ => 0))), (r_values, .inl (cJ, 4001, .inr (.inl (fun _ => 0)))), (h0, .inr (10, [.ref h1, .int 0, .ref h2, .ref h3, .ref h4, .ref h5, .ref h6, .ref h7]))] := hD
  try dsimp only at hw_2
  obtain rfl : r_1 = (0 : Int32) := hw_2
  refine lv_istore_n (lv' := [(2, .int 0), (0, .ref h0), (1, .int p0)]) hx hb dX11_assemble_4 rfl hl (by decide +kernel) rfl (fun ls hl => ?_)
  refine lv_iload_n hx hb dX11_assemble_5 rfl (lv_at hl 2 rfl) ?_
  have hPc := hP.sub (ws' := []) [] rfl
  have hDc := hD.sub (ws' := []) [] (by decide +kernel) rfl
  have hFc := va_free (wc := []) hD hS hA [] rfl
  refine va_calli (va_runS (As := [.int p0]) (rest := []) ⟨hx, hb, hml, hown, hts⟩ (zm_isSlot l dC dI cB cI cJ cZ  H.size p0) (va_cwS 1 hts (goodIn_app (goodIn_r [.methodLink RX11 71 yX8_isSlot, .static yX8_isSlot, .initialized RX8] [8, 9, 10] rfl (by decide +kernel)) zz_g_zm_assemble_zm_isSlot) rfl rfl rfl (by decide +kernel) ⟨Nat.le_of_ble_eq_true rfl, Nat.le_of_ble_eq_true rfl⟩) ⟨fun a U g mk q => by obtain ⟨q0, q1, qP, qK, qD⟩ := q; exact ⟨q0, q1, qP, va_K.moved (u := U) (U := U.calling g mk a) (Vm.Alike.refl U.vm) qK, qD⟩, fun U hU hW => ⟨rfl, by rw [hU], by rw [hU]; exact hPc, va_K.moved hW.alike hK, hDc.weaken (fun _ _ _ _ => trivial)⟩⟩ rfl rfl hl.1 rfl (lv_room (Nat.le_of_ble_eq_true rfl)) dX11_assemble_6 ⟨Nat.le_of_ble_eq_true rfl, Nat.le_of_ble_eq_true rfl⟩) hS (fun q _ h => hFc q h) hFc (fun r_4 u_6 t H1 locs ht hvm hw_5 hB hz1 hk1 hS => ?_)
  obtain ⟨hP, hD⟩ := va_join (wr := [(h4, .inr (5, [.ref r_made, .int 0, .null, .ref r_kinds, .ref r_begins, .ref r_ends, .ref r_values, .int 0, .int 0, .int 0, .ref r_labels, .int 0, .ref r_links, .int 0, .long 0, .long 0, .int 0, .int 0, .int 0])), (r_kinds, .inl (cI, 4001, .inl (fun _ => 0))), (r_begins, .inl (cI, 4001, .inl (fun _ => 0))), (r_ends, .inl (cI, 4001, .inl (fun _ => 0))), (r_values, .inl (cJ, 4001, .inr (.inl (fun _ => 0)))), (h0, .inr (10, [.ref h1, .int 0, .ref h2, .ref h3, .ref h4, .ref h5, .ref h6, .ref h7]))]) (w1 := []) hP hD [] [0, 1, 2, 3, 4, 5] rfl rfl (by decide +kernel) (by decide +kernel) hk1 hFc zz_P0 zz_D0
  generalize H1 = H at hP hS ⊢
  have hP : va_P (dC, dI) zz_cl [(h4, .inr (5, [.ref r_made, .int 0, .null, .ref r_kinds, .ref r_begins, .ref r_ends, .ref r_values, .int 0, .int 0, .int 0, .ref r_labels, .int 0, .ref r_links, .int 0, .long 0, .long 0, .int 0, .int 0, .int 0])), (r_kinds, .inl (cI, 4001, .inl (fun _ => 0))), (r_begins, .inl (cI, 4001, .inl (fun _ => 0))), (r_ends, .inl (cI, 4001, .inl (fun _ => 0))), (r_values, .inl (cJ, 4001, .inr (.inl (fun _ => 0)))), (h0, .inr (10, [.ref h1, .int 0, .ref h2, .ref h3, .ref h4, .ref h5, .ref h6, .ref h7]))] H := hP
  have hD : va_D A [(h4, .inr (5, [.ref r_made, .int 0, .null, .ref r_kinds, .ref r_begins, .ref r_ends, .ref r_values, .int 0, .int 0, .int 0, .ref r_labels, .int 0, .ref r_links, .int 0, .long 0, .long 0, .int 0, .int 0, .int 0])), (r_kinds, .inl (cI, 4001, .inl (fun _ => 0))), (r_begins, .inl (cI, 4001, .inl (fun _ => 0))), (r_ends, .inl (cI, 4001, .inl (fun _ => 0))), (r_values, .inl (cJ, 4001, .inr (.inl (fun _ => 0)))), (h0, .inr (10, [.ref h1, .int 0, .ref h2, .ref h3, .ref h4, .ref h5, .ref h6, .ref h7]))] := hD
  try dsimp only at hw_5
  rcases hw_5 with ⟨rfl, h_7⟩ | ⟨rfl, h_7⟩
  · refine lv_if_ne (tgt := 14) hx hb dX11_assemble_9 (by decide +kernel) (fun c_8 => ?_) (fun c_8 => ?_)
    · refine lv_aload_n hx hb dX11_assemble_14 rfl (lv_at hl 1 rfl) ?_
      refine va_get (D := (dC, dI)) (ci := 10) (v := .ref h4) (C := RX11) (T := TX11) (N := 8) hx hb hts zz_in_zm_assemble_X11 hown hK hP 5 rfl rfl 4 (by decide +kernel) (hts (.fieldLink RX11 34 "FilterHouse" "reader" "LFilterHouse$Reader;") (List.mem_of_getElem? (i := 11) rfl)) (fun _ h9 => h9) rfl dX11_assemble_15 ?_
      refine lv_aload_n hx hb dX11_assemble_18 rfl (lv_at hl 1 rfl) ?_
      refine va_get (D := (dC, dI)) (ci := 10) (v := .ref h1) (C := RX11) (T := TX11) (N := 8) hx hb hts zz_in_zm_assemble_X11 hown hK hP 5 rfl rfl 0 (by decide +kernel) (hts (.fieldLink RX11 9 "FilterHouse" "tape" "[B") (List.mem_of_getElem? (i := 12) rfl)) (fun _ h9 => h9) rfl dX11_assemble_19 ?_
      refine lv_iload_n hx hb dX11_assemble_22 rfl (lv_at hl 0 rfl) ?_
      have hPc := hP.sub (ws' := [(h4, .inr (5, [.ref r_made, .int 0, .null, .ref r_kinds, .ref r_begins, .ref r_ends, .ref r_values, .int 0, .int 0, .int 0, .ref r_labels, .int 0, .ref r_links, .int 0, .long 0, .long 0, .int 0, .int 0, .int 0])), (r_kinds, .inl (cI, 4001, .inl (fun _ => 0))), (r_begins, .inl (cI, 4001, .inl (fun _ => 0))), (r_ends, .inl (cI, 4001, .inl (fun _ => 0))), (r_values, .inl (cJ, 4001, .inr (.inl (fun _ => 0))))]) [0, 1, 2, 3, 4] rfl
      have hDc := hD.sub (ws' := [(h4, .inr (5, [.ref r_made, .int 0, .null, .ref r_kinds, .ref r_begins, .ref r_ends, .ref r_values, .int 0, .int 0, .int 0, .ref r_labels, .int 0, .ref r_links, .int 0, .long 0, .long 0, .int 0, .int 0, .int 0])), (r_kinds, .inl (cI, 4001, .inl (fun _ => 0))), (r_begins, .inl (cI, 4001, .inl (fun _ => 0))), (r_ends, .inl (cI, 4001, .inl (fun _ => 0))), (r_values, .inl (cJ, 4001, .inr (.inl (fun _ => 0))))]) [0, 1, 2, 3, 4] (by decide +kernel) rfl
      have hFc := va_free (wc := [(h4, .inr (5, [.ref r_made, .int 0, .null, .ref r_kinds, .ref r_begins, .ref r_ends, .ref r_values, .int 0, .int 0, .int 0, .ref r_labels, .int 0, .ref r_links, .int 0, .long 0, .long 0, .int 0, .int 0, .int 0])), (r_kinds, .inl (cI, 4001, .inl (fun _ => 0))), (r_begins, .inl (cI, 4001, .inl (fun _ => 0))), (r_ends, .inl (cI, 4001, .inl (fun _ => 0))), (r_values, .inl (cJ, 4001, .inr (.inl (fun _ => 0))))]) hD hS hA [0, 1, 2, 3, 4] rfl
      refine va_calli (va_runV (As := [.ref h1, .int 0]) (rest := []) ⟨hx, hb, hml, hown, hts⟩ (zm_read l dC dI cB cI cJ cZ h4 r_kinds r_begins r_ends r_values r_made r_labels r_links h1 H.size) (cwV 2 hts (goodIn_app (goodIn_r [.methodLink RX11 75 yX6_read, .instanceMethod yX6_read, .selects RX6 yX6_read yX6_read, .initialized RX6] [42, 43, 44, 23] rfl (by decide +kernel)) zz_g_zm_assemble_zm_read) rfl rfl rfl (by decide +kernel) ⟨Nat.le_of_ble_eq_true rfl, Nat.le_of_ble_eq_true rfl⟩) ⟨fun a U g mk q => by obtain ⟨q0, q1, qP, qK, qD⟩ := q; exact ⟨q0, q1, qP, va_K.moved (u := U) (U := U.calling g mk a) (Vm.Alike.refl U.vm) qK, qD⟩, va_recv hK hPc (ci := 5) (q0 := 0) rfl rfl, fun U hU hW => ⟨rfl, by rw [hU], by rw [hU]; exact hPc, va_K.moved hW.alike hK, hDc.weaken (fun _ _ _ _ => trivial)⟩⟩ rfl rfl hl.1 rfl (lv_room (Nat.le_of_ble_eq_true rfl)) dX11_assemble_23 ⟨Nat.le_of_ble_eq_true rfl, Nat.le_of_ble_eq_true rfl⟩) hS (fun q _ h => hFc q h) hFc (fun r_9 u_11 t H1 locs ht hvm hw_10 hB hz1 hk1 hS => ?_)
      obtain ⟨hP, hD⟩ := va_join (wr := [(h0, .inr (10, [.ref h1, .int 0, .ref h2, .ref h3, .ref h4, .ref h5, .ref h6, .ref h7]))]) (w1 := []) hP hD [0, 1, 2, 3, 4] [5] rfl rfl (by decide +kernel) (by decide +kernel) hk1 hFc zz_P0 zz_D0
      generalize H1 = H at hP hS ⊢
      have hP : va_P (dC, dI) zz_cl [(h0, .inr (10, [.ref h1, .int 0, .ref h2, .ref h3, .ref h4, .ref h5, .ref h6, .ref h7]))] H := hP
      have hD : va_D A [(h0, .inr (10, [.ref h1, .int 0, .ref h2, .ref h3, .ref h4, .ref h5, .ref h6, .ref h7]))] := hD
      try dsimp only at hw_10
      obtain rfl : r_9 = ((-10) : Int32) := hw_10
      refine lv_istore_n (lv' := [(3, .int (-10)), (2, .int 0), (0, .ref h0), (1, .int p0)]) hx hb dX11_assemble_26 rfl hl (by decide +kernel) rfl (fun ls hl => ?_)
      refine lv_iload_n hx hb dX11_assemble_27 rfl (lv_at hl 0 rfl) ?_
      refine lv_if_le (tgt := 47) hx hb dX11_assemble_28 (by decide +kernel) (fun c_12 => ?_) (fun c_12 => ?_)
      · refine lv_iload_n hx hb dX11_assemble_47 rfl (lv_at hl 0 rfl) ?_
        exact W.iret (v := (-10)) hx hb hr (fun t ht hW => ⟨⟨(-10), (), rfl, Or.inl ⟨rfl, by omega⟩, trivial⟩, hS.F ht⟩) hS.2.2 dX11_assemble_48
      · exact absurd c_12 (by decide +kernel)
    · exact absurd c_8 (by decide +kernel)
  · refine lv_if_ne (tgt := 14) hx hb dX11_assemble_9 (by decide +kernel) (fun c_13 => ?_) (fun c_13 => ?_)
    · exact absurd c_13 (by decide +kernel)
    · refine lv_iconst (v := (-1)) hx hb dX11_assemble_12 (by decide +kernel) ?_
      exact W.iret (v := (-1)) hx hb hr (fun t ht hW => ⟨⟨(-1), (), rfl, Or.inr ⟨rfl, by omega⟩, trivial⟩, hS.F ht⟩) hS.2.2 dX11_assemble_13
