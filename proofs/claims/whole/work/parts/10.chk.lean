/-! ===== what is checked of each instruction ===== -/
def flM : List (Nat × Nat × Nat × Nat) := flT.map (·.2)
def mlM : List (Nat × Nat × Nat) := mlT.map (·.2)
def kiM : List (Nat × Nat × Int) := kiT.map (·.2)
def kjM : List (Nat × Nat × Int) := kjT.map (·.2)
def ksM : List (Nat × Nat × Nat) := ksT.map (·.2)
theorem flA {q : Nat × Nat × Nat × Nat} (h : q ∈ flM) : flW q ∈ tbG := by
  obtain ⟨x, hx, rfl⟩ := List.mem_map.mp h
  exact tbG_in (gapW_mem flW flT lw_tbl fl_ok x hx) rfl
theorem mlA {q : Nat × Nat × Nat} (h : q ∈ mlM) : mlW q ∈ tbG := by
  obtain ⟨x, hx, rfl⟩ := List.mem_map.mp h
  exact tbG_in (gapW_mem mlW mlT lw_tbl ml_ok x hx) rfl
theorem kiA {q : Nat × Nat × Int} (h : q ∈ kiM) : kiW q ∈ tbG := by
  obtain ⟨x, hx, rfl⟩ := List.mem_map.mp h
  exact tbG_in (gapW_mem kiW kiT lw_tbl ki_ok x hx) rfl
theorem kjA {q : Nat × Nat × Int} (h : q ∈ kjM) : kjW q ∈ tbG := by
  obtain ⟨x, hx, rfl⟩ := List.mem_map.mp h
  exact tbG_in (gapW_mem kjW kjT lw_tbl kj_ok x hx) rfl
theorem ksA {q : Nat × Nat × Nat} (h : q ∈ ksM) : ksW q ∈ lw_tbl := by
  obtain ⟨x, hx, rfl⟩ := List.mem_map.mp h
  exact gapW_mem ksW ksT lw_tbl ks_ok x hx
def sfM : List (Nat × Nat × Nat) := sfT.map (·.2)
def gsM : List (Nat × Nat) := gsT.map (·.2)
def bcM : List (Nat × Nat) := bcT.map (·.2)
theorem sfA {q : Nat × Nat × Nat} (h : q ∈ sfM) : sfW q ∈ tbG := by
  obtain ⟨x, hx, rfl⟩ := List.mem_map.mp h
  exact tbG_in (gapW_mem sfW sfT lw_tbl sf_ok x hx) rfl
theorem gsA {q : Nat × Nat} (h : q ∈ gsM) : gsW q ∈ tbG := by
  obtain ⟨x, hx, rfl⟩ := List.mem_map.mp h
  exact tbG_in (gapW_mem gsW gsT lw_tbl gs_ok x hx) rfl
theorem bcA {q : Nat × Nat} (h : q ∈ bcM) : bcW q ∈ tbG := by
  obtain ⟨x, hx, rfl⟩ := List.mem_map.mp h
  exact tbG_in (gapW_mem bcW bcT lw_tbl bc_ok x hx) rfl
def isM : List Nat := isT.map (·.2)
def imM : List Nat := imT.map (·.2)
def slM : List Nat := slT.map (·.2)
def inM : List Nat := iniT.map (·.2)
theorem isA {q : Nat} (h : q ∈ isM) : isW q ∈ tbG := by
  obtain ⟨x, hx, rfl⟩ := List.mem_map.mp h
  exact tbG_in (gapW_mem isW isT lw_tbl is_ok x hx) rfl
theorem imA {q : Nat} (h : q ∈ imM) : imW q ∈ tbG := by
  obtain ⟨x, hx, rfl⟩ := List.mem_map.mp h
  exact tbG_in (gapW_mem imW imT lw_tbl im_ok x hx) rfl
theorem slA {q : Nat} (h : q ∈ slM) : slW q ∈ tbG := by
  obtain ⟨x, hx, rfl⟩ := List.mem_map.mp h
  exact tbG_in (gapW_mem slW slT lw_tbl sl_ok x hx) rfl
theorem inA {q : Nat} (h : q ∈ inM) : iniW q ∈ tbG := by
  obtain ⟨x, hx, rfl⟩ := List.mem_map.mp h
  exact tbG_in (gapW_mem iniW iniT lw_tbl ini_ok x hx) rfl
theorem cdB {m : Nat} (h : m ∈ cdL) : cdW m ∈ tbG := tbG_in (cdA m h) rfl
/-- methods that may be called: their words stand in the tables -/
def ca0 (m : Nat) : Prop := cdW m ∈ tbG ∧ iniW (owM m) ∈ tbG ∧ (yN m).cls = owS (owM m) ∧ plainFor (yN m) = true ∧ (yN m).cls ≠ "java/lang/invoke/MethodHandle" ∧ (yN m).cls ≠ "java/lang/invoke/VarHandle" ∧ (parseMethodDescriptor (yN m).desc).map (fun d => d.parameters.length) = some (psN m)
def caS (m : Nat) : Prop := ca0 m ∧ isW m ∈ tbG
def caV (m : Nat) : Prop := ca0 m ∧ imW m ∈ tbG ∧ slW m ∈ tbG ∧ (owM m < 12 ∨ owM m = 30)
theorem ow_0 : plainName (owS 0) = true ∧ owS 0 ≠ "java/lang/invoke/MethodHandle" ∧ owS 0 ≠ "java/lang/invoke/VarHandle" := by decide +kernel
theorem ow_1 : plainName (owS 1) = true ∧ owS 1 ≠ "java/lang/invoke/MethodHandle" ∧ owS 1 ≠ "java/lang/invoke/VarHandle" := by decide +kernel
theorem ow_2 : plainName (owS 2) = true ∧ owS 2 ≠ "java/lang/invoke/MethodHandle" ∧ owS 2 ≠ "java/lang/invoke/VarHandle" := by decide +kernel
theorem ow_3 : plainName (owS 3) = true ∧ owS 3 ≠ "java/lang/invoke/MethodHandle" ∧ owS 3 ≠ "java/lang/invoke/VarHandle" := by decide +kernel
theorem ow_4 : plainName (owS 4) = true ∧ owS 4 ≠ "java/lang/invoke/MethodHandle" ∧ owS 4 ≠ "java/lang/invoke/VarHandle" := by decide +kernel
theorem ow_5 : plainName (owS 5) = true ∧ owS 5 ≠ "java/lang/invoke/MethodHandle" ∧ owS 5 ≠ "java/lang/invoke/VarHandle" := by decide +kernel
theorem ow_6 : plainName (owS 6) = true ∧ owS 6 ≠ "java/lang/invoke/MethodHandle" ∧ owS 6 ≠ "java/lang/invoke/VarHandle" := by decide +kernel
theorem ow_7 : plainName (owS 7) = true ∧ owS 7 ≠ "java/lang/invoke/MethodHandle" ∧ owS 7 ≠ "java/lang/invoke/VarHandle" := by decide +kernel
theorem ow_8 : plainName (owS 8) = true ∧ owS 8 ≠ "java/lang/invoke/MethodHandle" ∧ owS 8 ≠ "java/lang/invoke/VarHandle" := by decide +kernel
theorem ow_9 : plainName (owS 9) = true ∧ owS 9 ≠ "java/lang/invoke/MethodHandle" ∧ owS 9 ≠ "java/lang/invoke/VarHandle" := by decide +kernel
theorem ow_10 : plainName (owS 10) = true ∧ owS 10 ≠ "java/lang/invoke/MethodHandle" ∧ owS 10 ≠ "java/lang/invoke/VarHandle" := by decide +kernel
theorem ow_11 : plainName (owS 11) = true ∧ owS 11 ≠ "java/lang/invoke/MethodHandle" ∧ owS 11 ≠ "java/lang/invoke/VarHandle" := by decide +kernel
theorem ow_12 : plainName (owS 12) = true ∧ owS 12 ≠ "java/lang/invoke/MethodHandle" ∧ owS 12 ≠ "java/lang/invoke/VarHandle" := by decide +kernel
theorem ow_14 : plainName (owS 14) = true ∧ owS 14 ≠ "java/lang/invoke/MethodHandle" ∧ owS 14 ≠ "java/lang/invoke/VarHandle" := by decide +kernel
theorem ow_15 : plainName (owS 15) = true ∧ owS 15 ≠ "java/lang/invoke/MethodHandle" ∧ owS 15 ≠ "java/lang/invoke/VarHandle" := by decide +kernel
theorem ow_16 : True ∧ owS 16 ≠ "java/lang/invoke/MethodHandle" ∧ owS 16 ≠ "java/lang/invoke/VarHandle" := by decide +kernel
theorem ow_17 : plainName (owS 17) = true ∧ owS 17 ≠ "java/lang/invoke/MethodHandle" ∧ owS 17 ≠ "java/lang/invoke/VarHandle" := by decide +kernel
theorem ow_30 : plainName (owS 30) = true ∧ owS 30 ≠ "java/lang/invoke/MethodHandle" ∧ owS 30 ≠ "java/lang/invoke/VarHandle" := by decide +kernel
set_option maxRecDepth 100000 in
theorem ca_0 : caS 0 := ⟨⟨cdB (by decide +kernel), inA (by decide +kernel), rfl, plainFor_of_name ow_12.1, ow_12.2.1, ow_12.2.2, by decide +kernel⟩, isA (by decide +kernel)⟩
set_option maxRecDepth 100000 in
theorem ca_1 : caS 1 := ⟨⟨cdB (by decide +kernel), inA (by decide +kernel), rfl, plainFor_of_name ow_12.1, ow_12.2.1, ow_12.2.2, by decide +kernel⟩, isA (by decide +kernel)⟩
set_option maxRecDepth 100000 in
theorem ca_2 : caS 2 := ⟨⟨cdB (by decide +kernel), inA (by decide +kernel), rfl, plainFor_of_name ow_12.1, ow_12.2.1, ow_12.2.2, by decide +kernel⟩, isA (by decide +kernel)⟩
set_option maxRecDepth 100000 in
theorem ca_3 : caS 3 := ⟨⟨cdB (by decide +kernel), inA (by decide +kernel), rfl, plainFor_of_name ow_12.1, ow_12.2.1, ow_12.2.2, by decide +kernel⟩, isA (by decide +kernel)⟩
set_option maxRecDepth 100000 in
theorem ca_4 : caS 4 := ⟨⟨cdB (by decide +kernel), inA (by decide +kernel), rfl, plainFor_of_name ow_12.1, ow_12.2.1, ow_12.2.2, by decide +kernel⟩, isA (by decide +kernel)⟩
set_option maxRecDepth 100000 in
theorem ca_5 : caS 5 := ⟨⟨cdB (by decide +kernel), inA (by decide +kernel), rfl, plainFor_of_name ow_12.1, ow_12.2.1, ow_12.2.2, by decide +kernel⟩, isA (by decide +kernel)⟩
set_option maxRecDepth 100000 in
theorem ca_6 : caS 6 := ⟨⟨cdB (by decide +kernel), inA (by decide +kernel), rfl, plainFor_of_name ow_12.1, ow_12.2.1, ow_12.2.2, by decide +kernel⟩, isA (by decide +kernel)⟩
set_option maxRecDepth 100000 in
theorem ca_7 : caS 7 := ⟨⟨cdB (by decide +kernel), inA (by decide +kernel), rfl, plainFor_of_name ow_12.1, ow_12.2.1, ow_12.2.2, by decide +kernel⟩, isA (by decide +kernel)⟩
set_option maxRecDepth 100000 in
theorem ca_8 : caS 8 := ⟨⟨cdB (by decide +kernel), inA (by decide +kernel), rfl, plainFor_of_name ow_12.1, ow_12.2.1, ow_12.2.2, by decide +kernel⟩, isA (by decide +kernel)⟩
set_option maxRecDepth 100000 in
theorem ca_9 : caS 9 := ⟨⟨cdB (by decide +kernel), inA (by decide +kernel), rfl, plainFor_of_name ow_12.1, ow_12.2.1, ow_12.2.2, by decide +kernel⟩, isA (by decide +kernel)⟩
set_option maxRecDepth 100000 in
theorem ca_10 : caS 10 := ⟨⟨cdB (by decide +kernel), inA (by decide +kernel), rfl, plainFor_of_name ow_12.1, ow_12.2.1, ow_12.2.2, by decide +kernel⟩, isA (by decide +kernel)⟩
set_option maxRecDepth 100000 in
theorem ca_11 : caS 11 := ⟨⟨cdB (by decide +kernel), inA (by decide +kernel), rfl, plainFor_of_name ow_12.1, ow_12.2.1, ow_12.2.2, by decide +kernel⟩, isA (by decide +kernel)⟩
set_option maxRecDepth 100000 in
theorem ca_12 : caS 12 := ⟨⟨cdB (by decide +kernel), inA (by decide +kernel), rfl, plainFor_of_name ow_12.1, ow_12.2.1, ow_12.2.2, by decide +kernel⟩, isA (by decide +kernel)⟩
set_option maxRecDepth 100000 in
theorem ca_13 : caS 13 := ⟨⟨cdB (by decide +kernel), inA (by decide +kernel), rfl, plainFor_of_name ow_12.1, ow_12.2.1, ow_12.2.2, by decide +kernel⟩, isA (by decide +kernel)⟩
set_option maxRecDepth 100000 in
theorem ca_14 : caS 14 := ⟨⟨cdB (by decide +kernel), inA (by decide +kernel), rfl, plainFor_of_name ow_12.1, ow_12.2.1, ow_12.2.2, by decide +kernel⟩, isA (by decide +kernel)⟩
set_option maxRecDepth 100000 in
theorem ca_15 : caS 15 := ⟨⟨cdB (by decide +kernel), inA (by decide +kernel), rfl, plainFor_of_name ow_12.1, ow_12.2.1, ow_12.2.2, by decide +kernel⟩, isA (by decide +kernel)⟩
set_option maxRecDepth 100000 in
theorem ca_16 : caS 16 := ⟨⟨cdB (by decide +kernel), inA (by decide +kernel), rfl, plainFor_of_name ow_12.1, ow_12.2.1, ow_12.2.2, by decide +kernel⟩, isA (by decide +kernel)⟩
set_option maxRecDepth 100000 in
theorem ca_17 : caS 17 := ⟨⟨cdB (by decide +kernel), inA (by decide +kernel), rfl, plainFor_of_name ow_12.1, ow_12.2.1, ow_12.2.2, by decide +kernel⟩, isA (by decide +kernel)⟩
set_option maxRecDepth 100000 in
theorem ca_18 : caS 18 := ⟨⟨cdB (by decide +kernel), inA (by decide +kernel), rfl, plainFor_of_name ow_12.1, ow_12.2.1, ow_12.2.2, by decide +kernel⟩, isA (by decide +kernel)⟩
set_option maxRecDepth 100000 in
theorem ca_19 : caS 19 := ⟨⟨cdB (by decide +kernel), inA (by decide +kernel), rfl, plainFor_of_name ow_12.1, ow_12.2.1, ow_12.2.2, by decide +kernel⟩, isA (by decide +kernel)⟩
set_option maxRecDepth 100000 in
theorem ca_20 : caS 20 := ⟨⟨cdB (by decide +kernel), inA (by decide +kernel), rfl, plainFor_of_name ow_12.1, ow_12.2.1, ow_12.2.2, by decide +kernel⟩, isA (by decide +kernel)⟩
set_option maxRecDepth 100000 in
theorem ca_21 : caS 21 := ⟨⟨cdB (by decide +kernel), inA (by decide +kernel), rfl, plainFor_of_name ow_12.1, ow_12.2.1, ow_12.2.2, by decide +kernel⟩, isA (by decide +kernel)⟩
set_option maxRecDepth 100000 in
theorem ca_22 : caS 22 := ⟨⟨cdB (by decide +kernel), inA (by decide +kernel), rfl, plainFor_of_name ow_12.1, ow_12.2.1, ow_12.2.2, by decide +kernel⟩, isA (by decide +kernel)⟩
set_option maxRecDepth 100000 in
theorem ca_23 : caS 23 := ⟨⟨cdB (by decide +kernel), inA (by decide +kernel), rfl, plainFor_of_name ow_12.1, ow_12.2.1, ow_12.2.2, by decide +kernel⟩, isA (by decide +kernel)⟩
set_option maxRecDepth 100000 in
theorem ca_24 : caS 24 := ⟨⟨cdB (by decide +kernel), inA (by decide +kernel), rfl, plainFor_of_name ow_12.1, ow_12.2.1, ow_12.2.2, by decide +kernel⟩, isA (by decide +kernel)⟩
set_option maxRecDepth 100000 in
theorem ca_25 : caS 25 := ⟨⟨cdB (by decide +kernel), inA (by decide +kernel), rfl, plainFor_of_name ow_12.1, ow_12.2.1, ow_12.2.2, by decide +kernel⟩, isA (by decide +kernel)⟩
set_option maxRecDepth 100000 in
theorem ca_26 : caS 26 := ⟨⟨cdB (by decide +kernel), inA (by decide +kernel), rfl, plainFor_of_name ow_12.1, ow_12.2.1, ow_12.2.2, by decide +kernel⟩, isA (by decide +kernel)⟩
set_option maxRecDepth 100000 in
theorem ca_27 : caV 27 := ⟨⟨cdB (by decide +kernel), inA (by decide +kernel), rfl, plainFor_of_name ow_0.1, ow_0.2.1, ow_0.2.2, by decide +kernel⟩, imA (by decide +kernel), slA (by decide +kernel), by decide +kernel⟩
set_option maxRecDepth 100000 in
theorem ca_28 : caV 28 := ⟨⟨cdB (by decide +kernel), inA (by decide +kernel), rfl, plainFor_of_name ow_0.1, ow_0.2.1, ow_0.2.2, by decide +kernel⟩, imA (by decide +kernel), slA (by decide +kernel), by decide +kernel⟩
set_option maxRecDepth 100000 in
theorem ca_29 : caV 29 := ⟨⟨cdB (by decide +kernel), inA (by decide +kernel), rfl, plainFor_of_name ow_0.1, ow_0.2.1, ow_0.2.2, by decide +kernel⟩, imA (by decide +kernel), slA (by decide +kernel), by decide +kernel⟩
set_option maxRecDepth 100000 in
theorem ca_30 : caV 30 := ⟨⟨cdB (by decide +kernel), inA (by decide +kernel), rfl, plainFor_of_name ow_0.1, ow_0.2.1, ow_0.2.2, by decide +kernel⟩, imA (by decide +kernel), slA (by decide +kernel), by decide +kernel⟩
set_option maxRecDepth 100000 in
theorem ca_31 : caV 31 := ⟨⟨cdB (by decide +kernel), inA (by decide +kernel), rfl, plainFor_of_name ow_0.1, ow_0.2.1, ow_0.2.2, by decide +kernel⟩, imA (by decide +kernel), slA (by decide +kernel), by decide +kernel⟩
set_option maxRecDepth 100000 in
theorem ca_32 : caV 32 := ⟨⟨cdB (by decide +kernel), inA (by decide +kernel), rfl, plainFor_of_name ow_0.1, ow_0.2.1, ow_0.2.2, by decide +kernel⟩, imA (by decide +kernel), slA (by decide +kernel), by decide +kernel⟩
set_option maxRecDepth 100000 in
theorem ca_33 : caV 33 := ⟨⟨cdB (by decide +kernel), inA (by decide +kernel), rfl, plainFor_of_name ow_0.1, ow_0.2.1, ow_0.2.2, by decide +kernel⟩, imA (by decide +kernel), slA (by decide +kernel), by decide +kernel⟩
set_option maxRecDepth 100000 in
theorem ca_34 : caV 34 := ⟨⟨cdB (by decide +kernel), inA (by decide +kernel), rfl, plainFor_of_name ow_0.1, ow_0.2.1, ow_0.2.2, by decide +kernel⟩, imA (by decide +kernel), slA (by decide +kernel), by decide +kernel⟩
set_option maxRecDepth 100000 in
theorem ca_35 : caV 35 := ⟨⟨cdB (by decide +kernel), inA (by decide +kernel), rfl, plainFor_of_name ow_0.1, ow_0.2.1, ow_0.2.2, by decide +kernel⟩, imA (by decide +kernel), slA (by decide +kernel), by decide +kernel⟩
set_option maxRecDepth 100000 in
theorem ca_36 : caV 36 := ⟨⟨cdB (by decide +kernel), inA (by decide +kernel), rfl, plainFor_of_name ow_0.1, ow_0.2.1, ow_0.2.2, by decide +kernel⟩, imA (by decide +kernel), slA (by decide +kernel), by decide +kernel⟩
set_option maxRecDepth 100000 in
theorem ca_37 : caV 37 := ⟨⟨cdB (by decide +kernel), inA (by decide +kernel), rfl, plainFor_of_name ow_0.1, ow_0.2.1, ow_0.2.2, by decide +kernel⟩, imA (by decide +kernel), slA (by decide +kernel), by decide +kernel⟩
set_option maxRecDepth 100000 in
theorem ca_38 : caV 38 := ⟨⟨cdB (by decide +kernel), inA (by decide +kernel), rfl, plainFor_of_name ow_0.1, ow_0.2.1, ow_0.2.2, by decide +kernel⟩, imA (by decide +kernel), slA (by decide +kernel), by decide +kernel⟩
set_option maxRecDepth 100000 in
theorem ca_39 : caV 39 := ⟨⟨cdB (by decide +kernel), inA (by decide +kernel), rfl, plainFor_of_name ow_0.1, ow_0.2.1, ow_0.2.2, by decide +kernel⟩, imA (by decide +kernel), slA (by decide +kernel), by decide +kernel⟩
set_option maxRecDepth 100000 in
theorem ca_40 : caV 40 := ⟨⟨cdB (by decide +kernel), inA (by decide +kernel), rfl, plainFor_of_name ow_0.1, ow_0.2.1, ow_0.2.2, by decide +kernel⟩, imA (by decide +kernel), slA (by decide +kernel), by decide +kernel⟩
set_option maxRecDepth 100000 in
theorem ca_41 : caS 41 := ⟨⟨cdB (by decide +kernel), inA (by decide +kernel), rfl, plainFor_of_name ow_1.1, ow_1.2.1, ow_1.2.2, by decide +kernel⟩, isA (by decide +kernel)⟩
set_option maxRecDepth 100000 in
theorem ca_42 : caS 42 := ⟨⟨cdB (by decide +kernel), inA (by decide +kernel), rfl, plainFor_of_name ow_1.1, ow_1.2.1, ow_1.2.2, by decide +kernel⟩, isA (by decide +kernel)⟩
set_option maxRecDepth 100000 in
theorem ca_43 : caS 43 := ⟨⟨cdB (by decide +kernel), inA (by decide +kernel), rfl, plainFor_of_name ow_1.1, ow_1.2.1, ow_1.2.2, by decide +kernel⟩, isA (by decide +kernel)⟩
set_option maxRecDepth 100000 in
theorem ca_44 : caV 44 := ⟨⟨cdB (by decide +kernel), inA (by decide +kernel), rfl, plainFor_of_name ow_1.1, ow_1.2.1, ow_1.2.2, by decide +kernel⟩, imA (by decide +kernel), slA (by decide +kernel), by decide +kernel⟩
set_option maxRecDepth 100000 in
theorem ca_45 : caV 45 := ⟨⟨cdB (by decide +kernel), inA (by decide +kernel), rfl, plainFor_of_name ow_1.1, ow_1.2.1, ow_1.2.2, by decide +kernel⟩, imA (by decide +kernel), slA (by decide +kernel), by decide +kernel⟩
set_option maxRecDepth 100000 in
theorem ca_46 : caV 46 := ⟨⟨cdB (by decide +kernel), inA (by decide +kernel), rfl, plainFor_of_name ow_1.1, ow_1.2.1, ow_1.2.2, by decide +kernel⟩, imA (by decide +kernel), slA (by decide +kernel), by decide +kernel⟩
set_option maxRecDepth 100000 in
theorem ca_47 : caV 47 := ⟨⟨cdB (by decide +kernel), inA (by decide +kernel), rfl, plainFor_of_name ow_1.1, ow_1.2.1, ow_1.2.2, by decide +kernel⟩, imA (by decide +kernel), slA (by decide +kernel), by decide +kernel⟩
set_option maxRecDepth 100000 in
theorem ca_48 : caS 48 := ⟨⟨cdB (by decide +kernel), inA (by decide +kernel), rfl, plainFor_of_name ow_1.1, ow_1.2.1, ow_1.2.2, by decide +kernel⟩, isA (by decide +kernel)⟩
set_option maxRecDepth 100000 in
theorem ca_49 : caV 49 := ⟨⟨cdB (by decide +kernel), inA (by decide +kernel), rfl, plainFor_of_name ow_1.1, ow_1.2.1, ow_1.2.2, by decide +kernel⟩, imA (by decide +kernel), slA (by decide +kernel), by decide +kernel⟩
set_option maxRecDepth 100000 in
theorem ca_50 : caV 50 := ⟨⟨cdB (by decide +kernel), inA (by decide +kernel), rfl, plainFor_of_name ow_1.1, ow_1.2.1, ow_1.2.2, by decide +kernel⟩, imA (by decide +kernel), slA (by decide +kernel), by decide +kernel⟩
set_option maxRecDepth 100000 in
theorem ca_51 : caV 51 := ⟨⟨cdB (by decide +kernel), inA (by decide +kernel), rfl, plainFor_of_name ow_1.1, ow_1.2.1, ow_1.2.2, by decide +kernel⟩, imA (by decide +kernel), slA (by decide +kernel), by decide +kernel⟩
set_option maxRecDepth 100000 in
theorem ca_52 : caV 52 := ⟨⟨cdB (by decide +kernel), inA (by decide +kernel), rfl, plainFor_of_name ow_1.1, ow_1.2.1, ow_1.2.2, by decide +kernel⟩, imA (by decide +kernel), slA (by decide +kernel), by decide +kernel⟩
set_option maxRecDepth 100000 in
theorem ca_53 : caV 53 := ⟨⟨cdB (by decide +kernel), inA (by decide +kernel), rfl, plainFor_of_name ow_1.1, ow_1.2.1, ow_1.2.2, by decide +kernel⟩, imA (by decide +kernel), slA (by decide +kernel), by decide +kernel⟩
set_option maxRecDepth 100000 in
theorem ca_54 : caV 54 := ⟨⟨cdB (by decide +kernel), inA (by decide +kernel), rfl, plainFor_of_name ow_1.1, ow_1.2.1, ow_1.2.2, by decide +kernel⟩, imA (by decide +kernel), slA (by decide +kernel), by decide +kernel⟩
set_option maxRecDepth 100000 in
theorem ca_55 : caV 55 := ⟨⟨cdB (by decide +kernel), inA (by decide +kernel), rfl, plainFor_of_name ow_1.1, ow_1.2.1, ow_1.2.2, by decide +kernel⟩, imA (by decide +kernel), slA (by decide +kernel), by decide +kernel⟩
set_option maxRecDepth 100000 in
theorem ca_56 : caV 56 := ⟨⟨cdB (by decide +kernel), inA (by decide +kernel), rfl, plainFor_of_name ow_1.1, ow_1.2.1, ow_1.2.2, by decide +kernel⟩, imA (by decide +kernel), slA (by decide +kernel), by decide +kernel⟩
set_option maxRecDepth 100000 in
theorem ca_57 : caV 57 := ⟨⟨cdB (by decide +kernel), inA (by decide +kernel), rfl, plainFor_of_name ow_1.1, ow_1.2.1, ow_1.2.2, by decide +kernel⟩, imA (by decide +kernel), slA (by decide +kernel), by decide +kernel⟩
set_option maxRecDepth 100000 in
theorem ca_58 : caV 58 := ⟨⟨cdB (by decide +kernel), inA (by decide +kernel), rfl, plainFor_of_name ow_1.1, ow_1.2.1, ow_1.2.2, by decide +kernel⟩, imA (by decide +kernel), slA (by decide +kernel), by decide +kernel⟩
set_option maxRecDepth 100000 in
theorem ca_59 : caV 59 := ⟨⟨cdB (by decide +kernel), inA (by decide +kernel), rfl, plainFor_of_name ow_1.1, ow_1.2.1, ow_1.2.2, by decide +kernel⟩, imA (by decide +kernel), slA (by decide +kernel), by decide +kernel⟩
set_option maxRecDepth 100000 in
theorem ca_60 : caV 60 := ⟨⟨cdB (by decide +kernel), inA (by decide +kernel), rfl, plainFor_of_name ow_1.1, ow_1.2.1, ow_1.2.2, by decide +kernel⟩, imA (by decide +kernel), slA (by decide +kernel), by decide +kernel⟩
set_option maxRecDepth 100000 in
theorem ca_61 : caV 61 := ⟨⟨cdB (by decide +kernel), inA (by decide +kernel), rfl, plainFor_of_name ow_2.1, ow_2.2.1, ow_2.2.2, by decide +kernel⟩, imA (by decide +kernel), slA (by decide +kernel), by decide +kernel⟩
set_option maxRecDepth 100000 in
theorem ca_62 : caV 62 := ⟨⟨cdB (by decide +kernel), inA (by decide +kernel), rfl, plainFor_of_name ow_2.1, ow_2.2.1, ow_2.2.2, by decide +kernel⟩, imA (by decide +kernel), slA (by decide +kernel), by decide +kernel⟩
set_option maxRecDepth 100000 in
theorem ca_63 : caV 63 := ⟨⟨cdB (by decide +kernel), inA (by decide +kernel), rfl, plainFor_of_name ow_2.1, ow_2.2.1, ow_2.2.2, by decide +kernel⟩, imA (by decide +kernel), slA (by decide +kernel), by decide +kernel⟩
set_option maxRecDepth 100000 in
theorem ca_64 : caV 64 := ⟨⟨cdB (by decide +kernel), inA (by decide +kernel), rfl, plainFor_of_name ow_2.1, ow_2.2.1, ow_2.2.2, by decide +kernel⟩, imA (by decide +kernel), slA (by decide +kernel), by decide +kernel⟩
set_option maxRecDepth 100000 in
theorem ca_65 : caV 65 := ⟨⟨cdB (by decide +kernel), inA (by decide +kernel), rfl, plainFor_of_name ow_2.1, ow_2.2.1, ow_2.2.2, by decide +kernel⟩, imA (by decide +kernel), slA (by decide +kernel), by decide +kernel⟩
set_option maxRecDepth 100000 in
theorem ca_66 : caV 66 := ⟨⟨cdB (by decide +kernel), inA (by decide +kernel), rfl, plainFor_of_name ow_2.1, ow_2.2.1, ow_2.2.2, by decide +kernel⟩, imA (by decide +kernel), slA (by decide +kernel), by decide +kernel⟩
set_option maxRecDepth 100000 in
theorem ca_67 : caV 67 := ⟨⟨cdB (by decide +kernel), inA (by decide +kernel), rfl, plainFor_of_name ow_2.1, ow_2.2.1, ow_2.2.2, by decide +kernel⟩, imA (by decide +kernel), slA (by decide +kernel), by decide +kernel⟩
set_option maxRecDepth 100000 in
theorem ca_68 : caV 68 := ⟨⟨cdB (by decide +kernel), inA (by decide +kernel), rfl, plainFor_of_name ow_2.1, ow_2.2.1, ow_2.2.2, by decide +kernel⟩, imA (by decide +kernel), slA (by decide +kernel), by decide +kernel⟩
set_option maxRecDepth 100000 in
theorem ca_69 : caV 69 := ⟨⟨cdB (by decide +kernel), inA (by decide +kernel), rfl, plainFor_of_name ow_2.1, ow_2.2.1, ow_2.2.2, by decide +kernel⟩, imA (by decide +kernel), slA (by decide +kernel), by decide +kernel⟩
set_option maxRecDepth 100000 in
theorem ca_70 : caS 70 := ⟨⟨cdB (by decide +kernel), inA (by decide +kernel), rfl, plainFor_of_name ow_2.1, ow_2.2.1, ow_2.2.2, by decide +kernel⟩, isA (by decide +kernel)⟩
set_option maxRecDepth 100000 in
theorem ca_71 : caS 71 := ⟨⟨cdB (by decide +kernel), inA (by decide +kernel), rfl, plainFor_of_name ow_2.1, ow_2.2.1, ow_2.2.2, by decide +kernel⟩, isA (by decide +kernel)⟩
set_option maxRecDepth 100000 in
theorem ca_72 : caV 72 := ⟨⟨cdB (by decide +kernel), inA (by decide +kernel), rfl, plainFor_of_name ow_2.1, ow_2.2.1, ow_2.2.2, by decide +kernel⟩, imA (by decide +kernel), slA (by decide +kernel), by decide +kernel⟩
set_option maxRecDepth 100000 in
theorem ca_73 : caV 73 := ⟨⟨cdB (by decide +kernel), inA (by decide +kernel), rfl, plainFor_of_name ow_2.1, ow_2.2.1, ow_2.2.2, by decide +kernel⟩, imA (by decide +kernel), slA (by decide +kernel), by decide +kernel⟩
set_option maxRecDepth 100000 in
theorem ca_74 : caS 74 := ⟨⟨cdB (by decide +kernel), inA (by decide +kernel), rfl, plainFor_of_name ow_2.1, ow_2.2.1, ow_2.2.2, by decide +kernel⟩, isA (by decide +kernel)⟩
set_option maxRecDepth 100000 in
theorem ca_75 : caV 75 := ⟨⟨cdB (by decide +kernel), inA (by decide +kernel), rfl, plainFor_of_name ow_2.1, ow_2.2.1, ow_2.2.2, by decide +kernel⟩, imA (by decide +kernel), slA (by decide +kernel), by decide +kernel⟩
set_option maxRecDepth 100000 in
theorem ca_76 : caV 76 := ⟨⟨cdB (by decide +kernel), inA (by decide +kernel), rfl, plainFor_of_name ow_2.1, ow_2.2.1, ow_2.2.2, by decide +kernel⟩, imA (by decide +kernel), slA (by decide +kernel), by decide +kernel⟩
set_option maxRecDepth 100000 in
theorem ca_77 : caV 77 := ⟨⟨cdB (by decide +kernel), inA (by decide +kernel), rfl, plainFor_of_name ow_2.1, ow_2.2.1, ow_2.2.2, by decide +kernel⟩, imA (by decide +kernel), slA (by decide +kernel), by decide +kernel⟩
set_option maxRecDepth 100000 in
theorem ca_78 : caV 78 := ⟨⟨cdB (by decide +kernel), inA (by decide +kernel), rfl, plainFor_of_name ow_2.1, ow_2.2.1, ow_2.2.2, by decide +kernel⟩, imA (by decide +kernel), slA (by decide +kernel), by decide +kernel⟩
set_option maxRecDepth 100000 in
theorem ca_79 : caV 79 := ⟨⟨cdB (by decide +kernel), inA (by decide +kernel), rfl, plainFor_of_name ow_2.1, ow_2.2.1, ow_2.2.2, by decide +kernel⟩, imA (by decide +kernel), slA (by decide +kernel), by decide +kernel⟩
set_option maxRecDepth 100000 in
theorem ca_80 : caV 80 := ⟨⟨cdB (by decide +kernel), inA (by decide +kernel), rfl, plainFor_of_name ow_2.1, ow_2.2.1, ow_2.2.2, by decide +kernel⟩, imA (by decide +kernel), slA (by decide +kernel), by decide +kernel⟩
set_option maxRecDepth 100000 in
theorem ca_81 : caV 81 := ⟨⟨cdB (by decide +kernel), inA (by decide +kernel), rfl, plainFor_of_name ow_2.1, ow_2.2.1, ow_2.2.2, by decide +kernel⟩, imA (by decide +kernel), slA (by decide +kernel), by decide +kernel⟩
set_option maxRecDepth 100000 in
theorem ca_82 : caV 82 := ⟨⟨cdB (by decide +kernel), inA (by decide +kernel), rfl, plainFor_of_name ow_2.1, ow_2.2.1, ow_2.2.2, by decide +kernel⟩, imA (by decide +kernel), slA (by decide +kernel), by decide +kernel⟩
set_option maxRecDepth 100000 in
theorem ca_83 : caV 83 := ⟨⟨cdB (by decide +kernel), inA (by decide +kernel), rfl, plainFor_of_name ow_2.1, ow_2.2.1, ow_2.2.2, by decide +kernel⟩, imA (by decide +kernel), slA (by decide +kernel), by decide +kernel⟩
set_option maxRecDepth 100000 in
theorem ca_84 : caV 84 := ⟨⟨cdB (by decide +kernel), inA (by decide +kernel), rfl, plainFor_of_name ow_2.1, ow_2.2.1, ow_2.2.2, by decide +kernel⟩, imA (by decide +kernel), slA (by decide +kernel), by decide +kernel⟩
set_option maxRecDepth 100000 in
theorem ca_85 : caV 85 := ⟨⟨cdB (by decide +kernel), inA (by decide +kernel), rfl, plainFor_of_name ow_2.1, ow_2.2.1, ow_2.2.2, by decide +kernel⟩, imA (by decide +kernel), slA (by decide +kernel), by decide +kernel⟩
set_option maxRecDepth 100000 in
theorem ca_86 : caV 86 := ⟨⟨cdB (by decide +kernel), inA (by decide +kernel), rfl, plainFor_of_name ow_2.1, ow_2.2.1, ow_2.2.2, by decide +kernel⟩, imA (by decide +kernel), slA (by decide +kernel), by decide +kernel⟩
set_option maxRecDepth 100000 in
theorem ca_87 : caV 87 := ⟨⟨cdB (by decide +kernel), inA (by decide +kernel), rfl, plainFor_of_name ow_2.1, ow_2.2.1, ow_2.2.2, by decide +kernel⟩, imA (by decide +kernel), slA (by decide +kernel), by decide +kernel⟩
set_option maxRecDepth 100000 in
theorem ca_88 : caV 88 := ⟨⟨cdB (by decide +kernel), inA (by decide +kernel), rfl, plainFor_of_name ow_2.1, ow_2.2.1, ow_2.2.2, by decide +kernel⟩, imA (by decide +kernel), slA (by decide +kernel), by decide +kernel⟩
set_option maxRecDepth 100000 in
theorem ca_89 : caV 89 := ⟨⟨cdB (by decide +kernel), inA (by decide +kernel), rfl, plainFor_of_name ow_2.1, ow_2.2.1, ow_2.2.2, by decide +kernel⟩, imA (by decide +kernel), slA (by decide +kernel), by decide +kernel⟩
set_option maxRecDepth 100000 in
theorem ca_90 : caV 90 := ⟨⟨cdB (by decide +kernel), inA (by decide +kernel), rfl, plainFor_of_name ow_2.1, ow_2.2.1, ow_2.2.2, by decide +kernel⟩, imA (by decide +kernel), slA (by decide +kernel), by decide +kernel⟩
set_option maxRecDepth 100000 in
theorem ca_91 : caV 91 := ⟨⟨cdB (by decide +kernel), inA (by decide +kernel), rfl, plainFor_of_name ow_3.1, ow_3.2.1, ow_3.2.2, by decide +kernel⟩, imA (by decide +kernel), slA (by decide +kernel), by decide +kernel⟩
set_option maxRecDepth 100000 in
theorem ca_92 : caV 92 := ⟨⟨cdB (by decide +kernel), inA (by decide +kernel), rfl, plainFor_of_name ow_3.1, ow_3.2.1, ow_3.2.2, by decide +kernel⟩, imA (by decide +kernel), slA (by decide +kernel), by decide +kernel⟩
set_option maxRecDepth 100000 in
theorem ca_93 : caV 93 := ⟨⟨cdB (by decide +kernel), inA (by decide +kernel), rfl, plainFor_of_name ow_3.1, ow_3.2.1, ow_3.2.2, by decide +kernel⟩, imA (by decide +kernel), slA (by decide +kernel), by decide +kernel⟩
set_option maxRecDepth 100000 in
theorem ca_94 : caV 94 := ⟨⟨cdB (by decide +kernel), inA (by decide +kernel), rfl, plainFor_of_name ow_3.1, ow_3.2.1, ow_3.2.2, by decide +kernel⟩, imA (by decide +kernel), slA (by decide +kernel), by decide +kernel⟩
set_option maxRecDepth 100000 in
theorem ca_95 : caV 95 := ⟨⟨cdB (by decide +kernel), inA (by decide +kernel), rfl, plainFor_of_name ow_3.1, ow_3.2.1, ow_3.2.2, by decide +kernel⟩, imA (by decide +kernel), slA (by decide +kernel), by decide +kernel⟩
set_option maxRecDepth 100000 in
theorem ca_96 : caV 96 := ⟨⟨cdB (by decide +kernel), inA (by decide +kernel), rfl, plainFor_of_name ow_3.1, ow_3.2.1, ow_3.2.2, by decide +kernel⟩, imA (by decide +kernel), slA (by decide +kernel), by decide +kernel⟩
set_option maxRecDepth 100000 in
theorem ca_97 : caV 97 := ⟨⟨cdB (by decide +kernel), inA (by decide +kernel), rfl, plainFor_of_name ow_3.1, ow_3.2.1, ow_3.2.2, by decide +kernel⟩, imA (by decide +kernel), slA (by decide +kernel), by decide +kernel⟩
set_option maxRecDepth 100000 in
theorem ca_98 : caV 98 := ⟨⟨cdB (by decide +kernel), inA (by decide +kernel), rfl, plainFor_of_name ow_3.1, ow_3.2.1, ow_3.2.2, by decide +kernel⟩, imA (by decide +kernel), slA (by decide +kernel), by decide +kernel⟩
set_option maxRecDepth 100000 in
theorem ca_99 : caV 99 := ⟨⟨cdB (by decide +kernel), inA (by decide +kernel), rfl, plainFor_of_name ow_3.1, ow_3.2.1, ow_3.2.2, by decide +kernel⟩, imA (by decide +kernel), slA (by decide +kernel), by decide +kernel⟩
set_option maxRecDepth 100000 in
theorem ca_100 : caV 100 := ⟨⟨cdB (by decide +kernel), inA (by decide +kernel), rfl, plainFor_of_name ow_3.1, ow_3.2.1, ow_3.2.2, by decide +kernel⟩, imA (by decide +kernel), slA (by decide +kernel), by decide +kernel⟩
set_option maxRecDepth 100000 in
theorem ca_101 : caV 101 := ⟨⟨cdB (by decide +kernel), inA (by decide +kernel), rfl, plainFor_of_name ow_3.1, ow_3.2.1, ow_3.2.2, by decide +kernel⟩, imA (by decide +kernel), slA (by decide +kernel), by decide +kernel⟩
set_option maxRecDepth 100000 in
theorem ca_102 : caV 102 := ⟨⟨cdB (by decide +kernel), inA (by decide +kernel), rfl, plainFor_of_name ow_3.1, ow_3.2.1, ow_3.2.2, by decide +kernel⟩, imA (by decide +kernel), slA (by decide +kernel), by decide +kernel⟩
set_option maxRecDepth 100000 in
theorem ca_103 : caV 103 := ⟨⟨cdB (by decide +kernel), inA (by decide +kernel), rfl, plainFor_of_name ow_3.1, ow_3.2.1, ow_3.2.2, by decide +kernel⟩, imA (by decide +kernel), slA (by decide +kernel), by decide +kernel⟩
set_option maxRecDepth 100000 in
theorem ca_104 : caV 104 := ⟨⟨cdB (by decide +kernel), inA (by decide +kernel), rfl, plainFor_of_name ow_3.1, ow_3.2.1, ow_3.2.2, by decide +kernel⟩, imA (by decide +kernel), slA (by decide +kernel), by decide +kernel⟩
set_option maxRecDepth 100000 in
theorem ca_105 : caS 105 := ⟨⟨cdB (by decide +kernel), inA (by decide +kernel), rfl, plainFor_of_name ow_3.1, ow_3.2.1, ow_3.2.2, by decide +kernel⟩, isA (by decide +kernel)⟩
set_option maxRecDepth 100000 in
theorem ca_106 : caV 106 := ⟨⟨cdB (by decide +kernel), inA (by decide +kernel), rfl, plainFor_of_name ow_3.1, ow_3.2.1, ow_3.2.2, by decide +kernel⟩, imA (by decide +kernel), slA (by decide +kernel), by decide +kernel⟩
set_option maxRecDepth 100000 in
theorem ca_107 : caV 107 := ⟨⟨cdB (by decide +kernel), inA (by decide +kernel), rfl, plainFor_of_name ow_3.1, ow_3.2.1, ow_3.2.2, by decide +kernel⟩, imA (by decide +kernel), slA (by decide +kernel), by decide +kernel⟩
set_option maxRecDepth 100000 in
theorem ca_108 : caS 108 := ⟨⟨cdB (by decide +kernel), inA (by decide +kernel), rfl, plainFor_of_name ow_3.1, ow_3.2.1, ow_3.2.2, by decide +kernel⟩, isA (by decide +kernel)⟩
set_option maxRecDepth 100000 in
theorem ca_109 : caV 109 := ⟨⟨cdB (by decide +kernel), inA (by decide +kernel), rfl, plainFor_of_name ow_3.1, ow_3.2.1, ow_3.2.2, by decide +kernel⟩, imA (by decide +kernel), slA (by decide +kernel), by decide +kernel⟩
set_option maxRecDepth 100000 in
theorem ca_110 : caS 110 := ⟨⟨cdB (by decide +kernel), inA (by decide +kernel), rfl, plainFor_of_name ow_3.1, ow_3.2.1, ow_3.2.2, by decide +kernel⟩, isA (by decide +kernel)⟩
set_option maxRecDepth 100000 in
theorem ca_111 : caV 111 := ⟨⟨cdB (by decide +kernel), inA (by decide +kernel), rfl, plainFor_of_name ow_4.1, ow_4.2.1, ow_4.2.2, by decide +kernel⟩, imA (by decide +kernel), slA (by decide +kernel), by decide +kernel⟩
set_option maxRecDepth 100000 in
theorem ca_112 : caV 112 := ⟨⟨cdB (by decide +kernel), inA (by decide +kernel), rfl, plainFor_of_name ow_4.1, ow_4.2.1, ow_4.2.2, by decide +kernel⟩, imA (by decide +kernel), slA (by decide +kernel), by decide +kernel⟩
set_option maxRecDepth 100000 in
theorem ca_113 : caV 113 := ⟨⟨cdB (by decide +kernel), inA (by decide +kernel), rfl, plainFor_of_name ow_4.1, ow_4.2.1, ow_4.2.2, by decide +kernel⟩, imA (by decide +kernel), slA (by decide +kernel), by decide +kernel⟩
set_option maxRecDepth 100000 in
theorem ca_114 : caV 114 := ⟨⟨cdB (by decide +kernel), inA (by decide +kernel), rfl, plainFor_of_name ow_4.1, ow_4.2.1, ow_4.2.2, by decide +kernel⟩, imA (by decide +kernel), slA (by decide +kernel), by decide +kernel⟩
set_option maxRecDepth 100000 in
theorem ca_115 : caV 115 := ⟨⟨cdB (by decide +kernel), inA (by decide +kernel), rfl, plainFor_of_name ow_4.1, ow_4.2.1, ow_4.2.2, by decide +kernel⟩, imA (by decide +kernel), slA (by decide +kernel), by decide +kernel⟩
set_option maxRecDepth 100000 in
theorem ca_116 : caV 116 := ⟨⟨cdB (by decide +kernel), inA (by decide +kernel), rfl, plainFor_of_name ow_4.1, ow_4.2.1, ow_4.2.2, by decide +kernel⟩, imA (by decide +kernel), slA (by decide +kernel), by decide +kernel⟩
set_option maxRecDepth 100000 in
theorem ca_117 : caV 117 := ⟨⟨cdB (by decide +kernel), inA (by decide +kernel), rfl, plainFor_of_name ow_4.1, ow_4.2.1, ow_4.2.2, by decide +kernel⟩, imA (by decide +kernel), slA (by decide +kernel), by decide +kernel⟩
set_option maxRecDepth 100000 in
theorem ca_118 : caV 118 := ⟨⟨cdB (by decide +kernel), inA (by decide +kernel), rfl, plainFor_of_name ow_4.1, ow_4.2.1, ow_4.2.2, by decide +kernel⟩, imA (by decide +kernel), slA (by decide +kernel), by decide +kernel⟩
set_option maxRecDepth 100000 in
theorem ca_119 : caS 119 := ⟨⟨cdB (by decide +kernel), inA (by decide +kernel), rfl, plainFor_of_name ow_4.1, ow_4.2.1, ow_4.2.2, by decide +kernel⟩, isA (by decide +kernel)⟩
set_option maxRecDepth 100000 in
theorem ca_120 : caV 120 := ⟨⟨cdB (by decide +kernel), inA (by decide +kernel), rfl, plainFor_of_name ow_4.1, ow_4.2.1, ow_4.2.2, by decide +kernel⟩, imA (by decide +kernel), slA (by decide +kernel), by decide +kernel⟩
set_option maxRecDepth 100000 in
theorem ca_121 : caV 121 := ⟨⟨cdB (by decide +kernel), inA (by decide +kernel), rfl, plainFor_of_name ow_4.1, ow_4.2.1, ow_4.2.2, by decide +kernel⟩, imA (by decide +kernel), slA (by decide +kernel), by decide +kernel⟩
set_option maxRecDepth 100000 in
theorem ca_122 : caV 122 := ⟨⟨cdB (by decide +kernel), inA (by decide +kernel), rfl, plainFor_of_name ow_4.1, ow_4.2.1, ow_4.2.2, by decide +kernel⟩, imA (by decide +kernel), slA (by decide +kernel), by decide +kernel⟩
set_option maxRecDepth 100000 in
theorem ca_123 : caV 123 := ⟨⟨cdB (by decide +kernel), inA (by decide +kernel), rfl, plainFor_of_name ow_4.1, ow_4.2.1, ow_4.2.2, by decide +kernel⟩, imA (by decide +kernel), slA (by decide +kernel), by decide +kernel⟩
set_option maxRecDepth 100000 in
theorem ca_124 : caV 124 := ⟨⟨cdB (by decide +kernel), inA (by decide +kernel), rfl, plainFor_of_name ow_4.1, ow_4.2.1, ow_4.2.2, by decide +kernel⟩, imA (by decide +kernel), slA (by decide +kernel), by decide +kernel⟩
set_option maxRecDepth 100000 in
theorem ca_125 : caV 125 := ⟨⟨cdB (by decide +kernel), inA (by decide +kernel), rfl, plainFor_of_name ow_4.1, ow_4.2.1, ow_4.2.2, by decide +kernel⟩, imA (by decide +kernel), slA (by decide +kernel), by decide +kernel⟩
set_option maxRecDepth 100000 in
theorem ca_126 : caV 126 := ⟨⟨cdB (by decide +kernel), inA (by decide +kernel), rfl, plainFor_of_name ow_4.1, ow_4.2.1, ow_4.2.2, by decide +kernel⟩, imA (by decide +kernel), slA (by decide +kernel), by decide +kernel⟩
set_option maxRecDepth 100000 in
theorem ca_127 : caS 127 := ⟨⟨cdB (by decide +kernel), inA (by decide +kernel), rfl, plainFor_of_name ow_4.1, ow_4.2.1, ow_4.2.2, by decide +kernel⟩, isA (by decide +kernel)⟩
set_option maxRecDepth 100000 in
theorem ca_128 : caV 128 := ⟨⟨cdB (by decide +kernel), inA (by decide +kernel), rfl, plainFor_of_name ow_4.1, ow_4.2.1, ow_4.2.2, by decide +kernel⟩, imA (by decide +kernel), slA (by decide +kernel), by decide +kernel⟩
set_option maxRecDepth 100000 in
theorem ca_129 : caS 129 := ⟨⟨cdB (by decide +kernel), inA (by decide +kernel), rfl, plainFor_of_name ow_4.1, ow_4.2.1, ow_4.2.2, by decide +kernel⟩, isA (by decide +kernel)⟩
set_option maxRecDepth 100000 in
theorem ca_130 : caS 130 := ⟨⟨cdB (by decide +kernel), inA (by decide +kernel), rfl, plainFor_of_name ow_4.1, ow_4.2.1, ow_4.2.2, by decide +kernel⟩, isA (by decide +kernel)⟩
set_option maxRecDepth 100000 in
theorem ca_131 : caS 131 := ⟨⟨cdB (by decide +kernel), inA (by decide +kernel), rfl, plainFor_of_name ow_4.1, ow_4.2.1, ow_4.2.2, by decide +kernel⟩, isA (by decide +kernel)⟩
set_option maxRecDepth 100000 in
theorem ca_132 : caV 132 := ⟨⟨cdB (by decide +kernel), inA (by decide +kernel), rfl, plainFor_of_name ow_5.1, ow_5.2.1, ow_5.2.2, by decide +kernel⟩, imA (by decide +kernel), slA (by decide +kernel), by decide +kernel⟩
set_option maxRecDepth 100000 in
theorem ca_133 : caV 133 := ⟨⟨cdB (by decide +kernel), inA (by decide +kernel), rfl, plainFor_of_name ow_5.1, ow_5.2.1, ow_5.2.2, by decide +kernel⟩, imA (by decide +kernel), slA (by decide +kernel), by decide +kernel⟩
set_option maxRecDepth 100000 in
theorem ca_134 : caV 134 := ⟨⟨cdB (by decide +kernel), inA (by decide +kernel), rfl, plainFor_of_name ow_5.1, ow_5.2.1, ow_5.2.2, by decide +kernel⟩, imA (by decide +kernel), slA (by decide +kernel), by decide +kernel⟩
set_option maxRecDepth 100000 in
theorem ca_135 : caV 135 := ⟨⟨cdB (by decide +kernel), inA (by decide +kernel), rfl, plainFor_of_name ow_5.1, ow_5.2.1, ow_5.2.2, by decide +kernel⟩, imA (by decide +kernel), slA (by decide +kernel), by decide +kernel⟩
set_option maxRecDepth 100000 in
theorem ca_136 : caV 136 := ⟨⟨cdB (by decide +kernel), inA (by decide +kernel), rfl, plainFor_of_name ow_5.1, ow_5.2.1, ow_5.2.2, by decide +kernel⟩, imA (by decide +kernel), slA (by decide +kernel), by decide +kernel⟩
set_option maxRecDepth 100000 in
theorem ca_137 : caS 137 := ⟨⟨cdB (by decide +kernel), inA (by decide +kernel), rfl, plainFor_of_name ow_5.1, ow_5.2.1, ow_5.2.2, by decide +kernel⟩, isA (by decide +kernel)⟩
set_option maxRecDepth 100000 in
theorem ca_138 : caS 138 := ⟨⟨cdB (by decide +kernel), inA (by decide +kernel), rfl, plainFor_of_name ow_5.1, ow_5.2.1, ow_5.2.2, by decide +kernel⟩, isA (by decide +kernel)⟩
set_option maxRecDepth 100000 in
theorem ca_139 : caS 139 := ⟨⟨cdB (by decide +kernel), inA (by decide +kernel), rfl, plainFor_of_name ow_5.1, ow_5.2.1, ow_5.2.2, by decide +kernel⟩, isA (by decide +kernel)⟩
set_option maxRecDepth 100000 in
theorem ca_140 : caV 140 := ⟨⟨cdB (by decide +kernel), inA (by decide +kernel), rfl, plainFor_of_name ow_5.1, ow_5.2.1, ow_5.2.2, by decide +kernel⟩, imA (by decide +kernel), slA (by decide +kernel), by decide +kernel⟩
set_option maxRecDepth 100000 in
theorem ca_141 : caV 141 := ⟨⟨cdB (by decide +kernel), inA (by decide +kernel), rfl, plainFor_of_name ow_5.1, ow_5.2.1, ow_5.2.2, by decide +kernel⟩, imA (by decide +kernel), slA (by decide +kernel), by decide +kernel⟩
set_option maxRecDepth 100000 in
theorem ca_142 : caS 142 := ⟨⟨cdB (by decide +kernel), inA (by decide +kernel), rfl, plainFor_of_name ow_5.1, ow_5.2.1, ow_5.2.2, by decide +kernel⟩, isA (by decide +kernel)⟩
set_option maxRecDepth 100000 in
theorem ca_143 : caS 143 := ⟨⟨cdB (by decide +kernel), inA (by decide +kernel), rfl, plainFor_of_name ow_5.1, ow_5.2.1, ow_5.2.2, by decide +kernel⟩, isA (by decide +kernel)⟩
set_option maxRecDepth 100000 in
theorem ca_144 : caV 144 := ⟨⟨cdB (by decide +kernel), inA (by decide +kernel), rfl, plainFor_of_name ow_5.1, ow_5.2.1, ow_5.2.2, by decide +kernel⟩, imA (by decide +kernel), slA (by decide +kernel), by decide +kernel⟩
set_option maxRecDepth 100000 in
theorem ca_145 : caV 145 := ⟨⟨cdB (by decide +kernel), inA (by decide +kernel), rfl, plainFor_of_name ow_5.1, ow_5.2.1, ow_5.2.2, by decide +kernel⟩, imA (by decide +kernel), slA (by decide +kernel), by decide +kernel⟩
set_option maxRecDepth 100000 in
theorem ca_146 : caV 146 := ⟨⟨cdB (by decide +kernel), inA (by decide +kernel), rfl, plainFor_of_name ow_5.1, ow_5.2.1, ow_5.2.2, by decide +kernel⟩, imA (by decide +kernel), slA (by decide +kernel), by decide +kernel⟩
set_option maxRecDepth 100000 in
theorem ca_147 : caV 147 := ⟨⟨cdB (by decide +kernel), inA (by decide +kernel), rfl, plainFor_of_name ow_5.1, ow_5.2.1, ow_5.2.2, by decide +kernel⟩, imA (by decide +kernel), slA (by decide +kernel), by decide +kernel⟩
set_option maxRecDepth 100000 in
theorem ca_148 : caV 148 := ⟨⟨cdB (by decide +kernel), inA (by decide +kernel), rfl, plainFor_of_name ow_5.1, ow_5.2.1, ow_5.2.2, by decide +kernel⟩, imA (by decide +kernel), slA (by decide +kernel), by decide +kernel⟩
set_option maxRecDepth 100000 in
theorem ca_149 : caV 149 := ⟨⟨cdB (by decide +kernel), inA (by decide +kernel), rfl, plainFor_of_name ow_5.1, ow_5.2.1, ow_5.2.2, by decide +kernel⟩, imA (by decide +kernel), slA (by decide +kernel), by decide +kernel⟩
set_option maxRecDepth 100000 in
theorem ca_150 : caV 150 := ⟨⟨cdB (by decide +kernel), inA (by decide +kernel), rfl, plainFor_of_name ow_5.1, ow_5.2.1, ow_5.2.2, by decide +kernel⟩, imA (by decide +kernel), slA (by decide +kernel), by decide +kernel⟩
set_option maxRecDepth 100000 in
theorem ca_151 : caV 151 := ⟨⟨cdB (by decide +kernel), inA (by decide +kernel), rfl, plainFor_of_name ow_5.1, ow_5.2.1, ow_5.2.2, by decide +kernel⟩, imA (by decide +kernel), slA (by decide +kernel), by decide +kernel⟩
set_option maxRecDepth 100000 in
theorem ca_152 : caV 152 := ⟨⟨cdB (by decide +kernel), inA (by decide +kernel), rfl, plainFor_of_name ow_5.1, ow_5.2.1, ow_5.2.2, by decide +kernel⟩, imA (by decide +kernel), slA (by decide +kernel), by decide +kernel⟩
set_option maxRecDepth 100000 in
theorem ca_153 : caV 153 := ⟨⟨cdB (by decide +kernel), inA (by decide +kernel), rfl, plainFor_of_name ow_5.1, ow_5.2.1, ow_5.2.2, by decide +kernel⟩, imA (by decide +kernel), slA (by decide +kernel), by decide +kernel⟩
set_option maxRecDepth 100000 in
theorem ca_154 : caV 154 := ⟨⟨cdB (by decide +kernel), inA (by decide +kernel), rfl, plainFor_of_name ow_5.1, ow_5.2.1, ow_5.2.2, by decide +kernel⟩, imA (by decide +kernel), slA (by decide +kernel), by decide +kernel⟩
set_option maxRecDepth 100000 in
theorem ca_155 : caS 155 := ⟨⟨cdB (by decide +kernel), inA (by decide +kernel), rfl, plainFor_of_name ow_5.1, ow_5.2.1, ow_5.2.2, by decide +kernel⟩, isA (by decide +kernel)⟩
set_option maxRecDepth 100000 in
theorem ca_156 : caV 156 := ⟨⟨cdB (by decide +kernel), inA (by decide +kernel), rfl, plainFor_of_name ow_5.1, ow_5.2.1, ow_5.2.2, by decide +kernel⟩, imA (by decide +kernel), slA (by decide +kernel), by decide +kernel⟩
set_option maxRecDepth 100000 in
theorem ca_157 : caV 157 := ⟨⟨cdB (by decide +kernel), inA (by decide +kernel), rfl, plainFor_of_name ow_5.1, ow_5.2.1, ow_5.2.2, by decide +kernel⟩, imA (by decide +kernel), slA (by decide +kernel), by decide +kernel⟩
set_option maxRecDepth 100000 in
theorem ca_158 : caV 158 := ⟨⟨cdB (by decide +kernel), inA (by decide +kernel), rfl, plainFor_of_name ow_5.1, ow_5.2.1, ow_5.2.2, by decide +kernel⟩, imA (by decide +kernel), slA (by decide +kernel), by decide +kernel⟩
set_option maxRecDepth 100000 in
theorem ca_159 : caV 159 := ⟨⟨cdB (by decide +kernel), inA (by decide +kernel), rfl, plainFor_of_name ow_5.1, ow_5.2.1, ow_5.2.2, by decide +kernel⟩, imA (by decide +kernel), slA (by decide +kernel), by decide +kernel⟩
set_option maxRecDepth 100000 in
theorem ca_160 : caV 160 := ⟨⟨cdB (by decide +kernel), inA (by decide +kernel), rfl, plainFor_of_name ow_5.1, ow_5.2.1, ow_5.2.2, by decide +kernel⟩, imA (by decide +kernel), slA (by decide +kernel), by decide +kernel⟩
set_option maxRecDepth 100000 in
theorem ca_161 : caV 161 := ⟨⟨cdB (by decide +kernel), inA (by decide +kernel), rfl, plainFor_of_name ow_5.1, ow_5.2.1, ow_5.2.2, by decide +kernel⟩, imA (by decide +kernel), slA (by decide +kernel), by decide +kernel⟩
set_option maxRecDepth 100000 in
theorem ca_162 : caV 162 := ⟨⟨cdB (by decide +kernel), inA (by decide +kernel), rfl, plainFor_of_name ow_5.1, ow_5.2.1, ow_5.2.2, by decide +kernel⟩, imA (by decide +kernel), slA (by decide +kernel), by decide +kernel⟩
set_option maxRecDepth 100000 in
theorem ca_163 : caV 163 := ⟨⟨cdB (by decide +kernel), inA (by decide +kernel), rfl, plainFor_of_name ow_5.1, ow_5.2.1, ow_5.2.2, by decide +kernel⟩, imA (by decide +kernel), slA (by decide +kernel), by decide +kernel⟩
set_option maxRecDepth 100000 in
theorem ca_164 : caV 164 := ⟨⟨cdB (by decide +kernel), inA (by decide +kernel), rfl, plainFor_of_name ow_5.1, ow_5.2.1, ow_5.2.2, by decide +kernel⟩, imA (by decide +kernel), slA (by decide +kernel), by decide +kernel⟩
set_option maxRecDepth 100000 in
theorem ca_165 : caV 165 := ⟨⟨cdB (by decide +kernel), inA (by decide +kernel), rfl, plainFor_of_name ow_5.1, ow_5.2.1, ow_5.2.2, by decide +kernel⟩, imA (by decide +kernel), slA (by decide +kernel), by decide +kernel⟩
set_option maxRecDepth 100000 in
theorem ca_166 : caV 166 := ⟨⟨cdB (by decide +kernel), inA (by decide +kernel), rfl, plainFor_of_name ow_5.1, ow_5.2.1, ow_5.2.2, by decide +kernel⟩, imA (by decide +kernel), slA (by decide +kernel), by decide +kernel⟩
set_option maxRecDepth 100000 in
theorem ca_167 : caV 167 := ⟨⟨cdB (by decide +kernel), inA (by decide +kernel), rfl, plainFor_of_name ow_5.1, ow_5.2.1, ow_5.2.2, by decide +kernel⟩, imA (by decide +kernel), slA (by decide +kernel), by decide +kernel⟩
set_option maxRecDepth 100000 in
theorem ca_168 : caV 168 := ⟨⟨cdB (by decide +kernel), inA (by decide +kernel), rfl, plainFor_of_name ow_5.1, ow_5.2.1, ow_5.2.2, by decide +kernel⟩, imA (by decide +kernel), slA (by decide +kernel), by decide +kernel⟩
set_option maxRecDepth 100000 in
theorem ca_169 : caV 169 := ⟨⟨cdB (by decide +kernel), inA (by decide +kernel), rfl, plainFor_of_name ow_5.1, ow_5.2.1, ow_5.2.2, by decide +kernel⟩, imA (by decide +kernel), slA (by decide +kernel), by decide +kernel⟩
set_option maxRecDepth 100000 in
theorem ca_170 : caV 170 := ⟨⟨cdB (by decide +kernel), inA (by decide +kernel), rfl, plainFor_of_name ow_5.1, ow_5.2.1, ow_5.2.2, by decide +kernel⟩, imA (by decide +kernel), slA (by decide +kernel), by decide +kernel⟩
set_option maxRecDepth 100000 in
theorem ca_171 : caV 171 := ⟨⟨cdB (by decide +kernel), inA (by decide +kernel), rfl, plainFor_of_name ow_5.1, ow_5.2.1, ow_5.2.2, by decide +kernel⟩, imA (by decide +kernel), slA (by decide +kernel), by decide +kernel⟩
set_option maxRecDepth 100000 in
theorem ca_172 : caV 172 := ⟨⟨cdB (by decide +kernel), inA (by decide +kernel), rfl, plainFor_of_name ow_5.1, ow_5.2.1, ow_5.2.2, by decide +kernel⟩, imA (by decide +kernel), slA (by decide +kernel), by decide +kernel⟩
set_option maxRecDepth 100000 in
theorem ca_173 : caV 173 := ⟨⟨cdB (by decide +kernel), inA (by decide +kernel), rfl, plainFor_of_name ow_5.1, ow_5.2.1, ow_5.2.2, by decide +kernel⟩, imA (by decide +kernel), slA (by decide +kernel), by decide +kernel⟩
set_option maxRecDepth 100000 in
theorem ca_174 : caV 174 := ⟨⟨cdB (by decide +kernel), inA (by decide +kernel), rfl, plainFor_of_name ow_5.1, ow_5.2.1, ow_5.2.2, by decide +kernel⟩, imA (by decide +kernel), slA (by decide +kernel), by decide +kernel⟩
set_option maxRecDepth 100000 in
theorem ca_175 : caV 175 := ⟨⟨cdB (by decide +kernel), inA (by decide +kernel), rfl, plainFor_of_name ow_5.1, ow_5.2.1, ow_5.2.2, by decide +kernel⟩, imA (by decide +kernel), slA (by decide +kernel), by decide +kernel⟩
set_option maxRecDepth 100000 in
theorem ca_176 : caV 176 := ⟨⟨cdB (by decide +kernel), inA (by decide +kernel), rfl, plainFor_of_name ow_5.1, ow_5.2.1, ow_5.2.2, by decide +kernel⟩, imA (by decide +kernel), slA (by decide +kernel), by decide +kernel⟩
set_option maxRecDepth 100000 in
theorem ca_177 : caV 177 := ⟨⟨cdB (by decide +kernel), inA (by decide +kernel), rfl, plainFor_of_name ow_5.1, ow_5.2.1, ow_5.2.2, by decide +kernel⟩, imA (by decide +kernel), slA (by decide +kernel), by decide +kernel⟩
set_option maxRecDepth 100000 in
theorem ca_178 : caV 178 := ⟨⟨cdB (by decide +kernel), inA (by decide +kernel), rfl, plainFor_of_name ow_5.1, ow_5.2.1, ow_5.2.2, by decide +kernel⟩, imA (by decide +kernel), slA (by decide +kernel), by decide +kernel⟩
set_option maxRecDepth 100000 in
theorem ca_179 : caV 179 := ⟨⟨cdB (by decide +kernel), inA (by decide +kernel), rfl, plainFor_of_name ow_6.1, ow_6.2.1, ow_6.2.2, by decide +kernel⟩, imA (by decide +kernel), slA (by decide +kernel), by decide +kernel⟩
set_option maxRecDepth 100000 in
theorem ca_180 : caV 180 := ⟨⟨cdB (by decide +kernel), inA (by decide +kernel), rfl, plainFor_of_name ow_6.1, ow_6.2.1, ow_6.2.2, by decide +kernel⟩, imA (by decide +kernel), slA (by decide +kernel), by decide +kernel⟩
set_option maxRecDepth 100000 in
theorem ca_181 : caV 181 := ⟨⟨cdB (by decide +kernel), inA (by decide +kernel), rfl, plainFor_of_name ow_6.1, ow_6.2.1, ow_6.2.2, by decide +kernel⟩, imA (by decide +kernel), slA (by decide +kernel), by decide +kernel⟩
set_option maxRecDepth 100000 in
theorem ca_182 : caV 182 := ⟨⟨cdB (by decide +kernel), inA (by decide +kernel), rfl, plainFor_of_name ow_6.1, ow_6.2.1, ow_6.2.2, by decide +kernel⟩, imA (by decide +kernel), slA (by decide +kernel), by decide +kernel⟩
set_option maxRecDepth 100000 in
theorem ca_183 : caV 183 := ⟨⟨cdB (by decide +kernel), inA (by decide +kernel), rfl, plainFor_of_name ow_6.1, ow_6.2.1, ow_6.2.2, by decide +kernel⟩, imA (by decide +kernel), slA (by decide +kernel), by decide +kernel⟩
set_option maxRecDepth 100000 in
theorem ca_184 : caV 184 := ⟨⟨cdB (by decide +kernel), inA (by decide +kernel), rfl, plainFor_of_name ow_6.1, ow_6.2.1, ow_6.2.2, by decide +kernel⟩, imA (by decide +kernel), slA (by decide +kernel), by decide +kernel⟩
set_option maxRecDepth 100000 in
theorem ca_185 : caV 185 := ⟨⟨cdB (by decide +kernel), inA (by decide +kernel), rfl, plainFor_of_name ow_6.1, ow_6.2.1, ow_6.2.2, by decide +kernel⟩, imA (by decide +kernel), slA (by decide +kernel), by decide +kernel⟩
set_option maxRecDepth 100000 in
theorem ca_186 : caV 186 := ⟨⟨cdB (by decide +kernel), inA (by decide +kernel), rfl, plainFor_of_name ow_6.1, ow_6.2.1, ow_6.2.2, by decide +kernel⟩, imA (by decide +kernel), slA (by decide +kernel), by decide +kernel⟩
set_option maxRecDepth 100000 in
theorem ca_187 : caS 187 := ⟨⟨cdB (by decide +kernel), inA (by decide +kernel), rfl, plainFor_of_name ow_6.1, ow_6.2.1, ow_6.2.2, by decide +kernel⟩, isA (by decide +kernel)⟩
set_option maxRecDepth 100000 in
theorem ca_188 : caV 188 := ⟨⟨cdB (by decide +kernel), inA (by decide +kernel), rfl, plainFor_of_name ow_6.1, ow_6.2.1, ow_6.2.2, by decide +kernel⟩, imA (by decide +kernel), slA (by decide +kernel), by decide +kernel⟩
set_option maxRecDepth 100000 in
theorem ca_189 : caV 189 := ⟨⟨cdB (by decide +kernel), inA (by decide +kernel), rfl, plainFor_of_name ow_6.1, ow_6.2.1, ow_6.2.2, by decide +kernel⟩, imA (by decide +kernel), slA (by decide +kernel), by decide +kernel⟩
set_option maxRecDepth 100000 in
theorem ca_190 : caV 190 := ⟨⟨cdB (by decide +kernel), inA (by decide +kernel), rfl, plainFor_of_name ow_6.1, ow_6.2.1, ow_6.2.2, by decide +kernel⟩, imA (by decide +kernel), slA (by decide +kernel), by decide +kernel⟩
set_option maxRecDepth 100000 in
theorem ca_191 : caV 191 := ⟨⟨cdB (by decide +kernel), inA (by decide +kernel), rfl, plainFor_of_name ow_6.1, ow_6.2.1, ow_6.2.2, by decide +kernel⟩, imA (by decide +kernel), slA (by decide +kernel), by decide +kernel⟩
set_option maxRecDepth 100000 in
theorem ca_192 : caS 192 := ⟨⟨cdB (by decide +kernel), inA (by decide +kernel), rfl, plainFor_of_name ow_6.1, ow_6.2.1, ow_6.2.2, by decide +kernel⟩, isA (by decide +kernel)⟩
set_option maxRecDepth 100000 in
theorem ca_193 : caV 193 := ⟨⟨cdB (by decide +kernel), inA (by decide +kernel), rfl, plainFor_of_name ow_6.1, ow_6.2.1, ow_6.2.2, by decide +kernel⟩, imA (by decide +kernel), slA (by decide +kernel), by decide +kernel⟩
set_option maxRecDepth 100000 in
theorem ca_194 : caV 194 := ⟨⟨cdB (by decide +kernel), inA (by decide +kernel), rfl, plainFor_of_name ow_6.1, ow_6.2.1, ow_6.2.2, by decide +kernel⟩, imA (by decide +kernel), slA (by decide +kernel), by decide +kernel⟩
set_option maxRecDepth 100000 in
theorem ca_195 : caV 195 := ⟨⟨cdB (by decide +kernel), inA (by decide +kernel), rfl, plainFor_of_name ow_6.1, ow_6.2.1, ow_6.2.2, by decide +kernel⟩, imA (by decide +kernel), slA (by decide +kernel), by decide +kernel⟩
set_option maxRecDepth 100000 in
theorem ca_196 : caV 196 := ⟨⟨cdB (by decide +kernel), inA (by decide +kernel), rfl, plainFor_of_name ow_6.1, ow_6.2.1, ow_6.2.2, by decide +kernel⟩, imA (by decide +kernel), slA (by decide +kernel), by decide +kernel⟩
set_option maxRecDepth 100000 in
theorem ca_197 : caV 197 := ⟨⟨cdB (by decide +kernel), inA (by decide +kernel), rfl, plainFor_of_name ow_6.1, ow_6.2.1, ow_6.2.2, by decide +kernel⟩, imA (by decide +kernel), slA (by decide +kernel), by decide +kernel⟩
set_option maxRecDepth 100000 in
theorem ca_198 : caV 198 := ⟨⟨cdB (by decide +kernel), inA (by decide +kernel), rfl, plainFor_of_name ow_6.1, ow_6.2.1, ow_6.2.2, by decide +kernel⟩, imA (by decide +kernel), slA (by decide +kernel), by decide +kernel⟩
set_option maxRecDepth 100000 in
theorem ca_199 : caV 199 := ⟨⟨cdB (by decide +kernel), inA (by decide +kernel), rfl, plainFor_of_name ow_6.1, ow_6.2.1, ow_6.2.2, by decide +kernel⟩, imA (by decide +kernel), slA (by decide +kernel), by decide +kernel⟩
set_option maxRecDepth 100000 in
theorem ca_200 : caV 200 := ⟨⟨cdB (by decide +kernel), inA (by decide +kernel), rfl, plainFor_of_name ow_6.1, ow_6.2.1, ow_6.2.2, by decide +kernel⟩, imA (by decide +kernel), slA (by decide +kernel), by decide +kernel⟩
set_option maxRecDepth 100000 in
theorem ca_201 : caV 201 := ⟨⟨cdB (by decide +kernel), inA (by decide +kernel), rfl, plainFor_of_name ow_6.1, ow_6.2.1, ow_6.2.2, by decide +kernel⟩, imA (by decide +kernel), slA (by decide +kernel), by decide +kernel⟩
set_option maxRecDepth 100000 in
theorem ca_202 : caV 202 := ⟨⟨cdB (by decide +kernel), inA (by decide +kernel), rfl, plainFor_of_name ow_6.1, ow_6.2.1, ow_6.2.2, by decide +kernel⟩, imA (by decide +kernel), slA (by decide +kernel), by decide +kernel⟩
set_option maxRecDepth 100000 in
theorem ca_203 : caV 203 := ⟨⟨cdB (by decide +kernel), inA (by decide +kernel), rfl, plainFor_of_name ow_6.1, ow_6.2.1, ow_6.2.2, by decide +kernel⟩, imA (by decide +kernel), slA (by decide +kernel), by decide +kernel⟩
set_option maxRecDepth 100000 in
theorem ca_204 : caV 204 := ⟨⟨cdB (by decide +kernel), inA (by decide +kernel), rfl, plainFor_of_name ow_6.1, ow_6.2.1, ow_6.2.2, by decide +kernel⟩, imA (by decide +kernel), slA (by decide +kernel), by decide +kernel⟩
set_option maxRecDepth 100000 in
theorem ca_205 : caS 205 := ⟨⟨cdB (by decide +kernel), inA (by decide +kernel), rfl, plainFor_of_name ow_7.1, ow_7.2.1, ow_7.2.2, by decide +kernel⟩, isA (by decide +kernel)⟩
set_option maxRecDepth 100000 in
theorem ca_206 : caV 206 := ⟨⟨cdB (by decide +kernel), inA (by decide +kernel), rfl, plainFor_of_name ow_7.1, ow_7.2.1, ow_7.2.2, by decide +kernel⟩, imA (by decide +kernel), slA (by decide +kernel), by decide +kernel⟩
set_option maxRecDepth 100000 in
theorem ca_207 : caV 207 := ⟨⟨cdB (by decide +kernel), inA (by decide +kernel), rfl, plainFor_of_name ow_7.1, ow_7.2.1, ow_7.2.2, by decide +kernel⟩, imA (by decide +kernel), slA (by decide +kernel), by decide +kernel⟩
set_option maxRecDepth 100000 in
theorem ca_208 : caV 208 := ⟨⟨cdB (by decide +kernel), inA (by decide +kernel), rfl, plainFor_of_name ow_7.1, ow_7.2.1, ow_7.2.2, by decide +kernel⟩, imA (by decide +kernel), slA (by decide +kernel), by decide +kernel⟩
set_option maxRecDepth 100000 in
theorem ca_209 : caV 209 := ⟨⟨cdB (by decide +kernel), inA (by decide +kernel), rfl, plainFor_of_name ow_8.1, ow_8.2.1, ow_8.2.2, by decide +kernel⟩, imA (by decide +kernel), slA (by decide +kernel), by decide +kernel⟩
set_option maxRecDepth 100000 in
theorem ca_210 : caV 210 := ⟨⟨cdB (by decide +kernel), inA (by decide +kernel), rfl, plainFor_of_name ow_8.1, ow_8.2.1, ow_8.2.2, by decide +kernel⟩, imA (by decide +kernel), slA (by decide +kernel), by decide +kernel⟩
set_option maxRecDepth 100000 in
theorem ca_211 : caV 211 := ⟨⟨cdB (by decide +kernel), inA (by decide +kernel), rfl, plainFor_of_name ow_8.1, ow_8.2.1, ow_8.2.2, by decide +kernel⟩, imA (by decide +kernel), slA (by decide +kernel), by decide +kernel⟩
set_option maxRecDepth 100000 in
theorem ca_212 : caV 212 := ⟨⟨cdB (by decide +kernel), inA (by decide +kernel), rfl, plainFor_of_name ow_8.1, ow_8.2.1, ow_8.2.2, by decide +kernel⟩, imA (by decide +kernel), slA (by decide +kernel), by decide +kernel⟩
set_option maxRecDepth 100000 in
theorem ca_213 : caS 213 := ⟨⟨cdB (by decide +kernel), inA (by decide +kernel), rfl, plainFor_of_name ow_8.1, ow_8.2.1, ow_8.2.2, by decide +kernel⟩, isA (by decide +kernel)⟩
set_option maxRecDepth 100000 in
theorem ca_214 : caV 214 := ⟨⟨cdB (by decide +kernel), inA (by decide +kernel), rfl, plainFor_of_name ow_8.1, ow_8.2.1, ow_8.2.2, by decide +kernel⟩, imA (by decide +kernel), slA (by decide +kernel), by decide +kernel⟩
set_option maxRecDepth 100000 in
theorem ca_215 : caV 215 := ⟨⟨cdB (by decide +kernel), inA (by decide +kernel), rfl, plainFor_of_name ow_8.1, ow_8.2.1, ow_8.2.2, by decide +kernel⟩, imA (by decide +kernel), slA (by decide +kernel), by decide +kernel⟩
set_option maxRecDepth 100000 in
theorem ca_216 : caV 216 := ⟨⟨cdB (by decide +kernel), inA (by decide +kernel), rfl, plainFor_of_name ow_8.1, ow_8.2.1, ow_8.2.2, by decide +kernel⟩, imA (by decide +kernel), slA (by decide +kernel), by decide +kernel⟩
set_option maxRecDepth 100000 in
theorem ca_217 : caV 217 := ⟨⟨cdB (by decide +kernel), inA (by decide +kernel), rfl, plainFor_of_name ow_8.1, ow_8.2.1, ow_8.2.2, by decide +kernel⟩, imA (by decide +kernel), slA (by decide +kernel), by decide +kernel⟩
set_option maxRecDepth 100000 in
theorem ca_218 : caV 218 := ⟨⟨cdB (by decide +kernel), inA (by decide +kernel), rfl, plainFor_of_name ow_8.1, ow_8.2.1, ow_8.2.2, by decide +kernel⟩, imA (by decide +kernel), slA (by decide +kernel), by decide +kernel⟩
set_option maxRecDepth 100000 in
theorem ca_219 : caV 219 := ⟨⟨cdB (by decide +kernel), inA (by decide +kernel), rfl, plainFor_of_name ow_8.1, ow_8.2.1, ow_8.2.2, by decide +kernel⟩, imA (by decide +kernel), slA (by decide +kernel), by decide +kernel⟩
set_option maxRecDepth 100000 in
theorem ca_220 : caV 220 := ⟨⟨cdB (by decide +kernel), inA (by decide +kernel), rfl, plainFor_of_name ow_8.1, ow_8.2.1, ow_8.2.2, by decide +kernel⟩, imA (by decide +kernel), slA (by decide +kernel), by decide +kernel⟩
set_option maxRecDepth 100000 in
theorem ca_221 : caV 221 := ⟨⟨cdB (by decide +kernel), inA (by decide +kernel), rfl, plainFor_of_name ow_8.1, ow_8.2.1, ow_8.2.2, by decide +kernel⟩, imA (by decide +kernel), slA (by decide +kernel), by decide +kernel⟩
set_option maxRecDepth 100000 in
theorem ca_222 : caV 222 := ⟨⟨cdB (by decide +kernel), inA (by decide +kernel), rfl, plainFor_of_name ow_8.1, ow_8.2.1, ow_8.2.2, by decide +kernel⟩, imA (by decide +kernel), slA (by decide +kernel), by decide +kernel⟩
set_option maxRecDepth 100000 in
theorem ca_223 : caV 223 := ⟨⟨cdB (by decide +kernel), inA (by decide +kernel), rfl, plainFor_of_name ow_8.1, ow_8.2.1, ow_8.2.2, by decide +kernel⟩, imA (by decide +kernel), slA (by decide +kernel), by decide +kernel⟩
set_option maxRecDepth 100000 in
theorem ca_224 : caV 224 := ⟨⟨cdB (by decide +kernel), inA (by decide +kernel), rfl, plainFor_of_name ow_8.1, ow_8.2.1, ow_8.2.2, by decide +kernel⟩, imA (by decide +kernel), slA (by decide +kernel), by decide +kernel⟩
set_option maxRecDepth 100000 in
theorem ca_225 : caV 225 := ⟨⟨cdB (by decide +kernel), inA (by decide +kernel), rfl, plainFor_of_name ow_8.1, ow_8.2.1, ow_8.2.2, by decide +kernel⟩, imA (by decide +kernel), slA (by decide +kernel), by decide +kernel⟩
set_option maxRecDepth 100000 in
theorem ca_226 : caV 226 := ⟨⟨cdB (by decide +kernel), inA (by decide +kernel), rfl, plainFor_of_name ow_8.1, ow_8.2.1, ow_8.2.2, by decide +kernel⟩, imA (by decide +kernel), slA (by decide +kernel), by decide +kernel⟩
set_option maxRecDepth 100000 in
theorem ca_227 : caV 227 := ⟨⟨cdB (by decide +kernel), inA (by decide +kernel), rfl, plainFor_of_name ow_8.1, ow_8.2.1, ow_8.2.2, by decide +kernel⟩, imA (by decide +kernel), slA (by decide +kernel), by decide +kernel⟩
set_option maxRecDepth 100000 in
theorem ca_228 : caV 228 := ⟨⟨cdB (by decide +kernel), inA (by decide +kernel), rfl, plainFor_of_name ow_8.1, ow_8.2.1, ow_8.2.2, by decide +kernel⟩, imA (by decide +kernel), slA (by decide +kernel), by decide +kernel⟩
set_option maxRecDepth 100000 in
theorem ca_229 : caV 229 := ⟨⟨cdB (by decide +kernel), inA (by decide +kernel), rfl, plainFor_of_name ow_8.1, ow_8.2.1, ow_8.2.2, by decide +kernel⟩, imA (by decide +kernel), slA (by decide +kernel), by decide +kernel⟩
set_option maxRecDepth 100000 in
theorem ca_230 : caV 230 := ⟨⟨cdB (by decide +kernel), inA (by decide +kernel), rfl, plainFor_of_name ow_8.1, ow_8.2.1, ow_8.2.2, by decide +kernel⟩, imA (by decide +kernel), slA (by decide +kernel), by decide +kernel⟩
set_option maxRecDepth 100000 in
theorem ca_231 : caV 231 := ⟨⟨cdB (by decide +kernel), inA (by decide +kernel), rfl, plainFor_of_name ow_8.1, ow_8.2.1, ow_8.2.2, by decide +kernel⟩, imA (by decide +kernel), slA (by decide +kernel), by decide +kernel⟩
set_option maxRecDepth 100000 in
theorem ca_232 : caV 232 := ⟨⟨cdB (by decide +kernel), inA (by decide +kernel), rfl, plainFor_of_name ow_8.1, ow_8.2.1, ow_8.2.2, by decide +kernel⟩, imA (by decide +kernel), slA (by decide +kernel), by decide +kernel⟩
set_option maxRecDepth 100000 in
theorem ca_233 : caV 233 := ⟨⟨cdB (by decide +kernel), inA (by decide +kernel), rfl, plainFor_of_name ow_8.1, ow_8.2.1, ow_8.2.2, by decide +kernel⟩, imA (by decide +kernel), slA (by decide +kernel), by decide +kernel⟩
set_option maxRecDepth 100000 in
theorem ca_234 : caV 234 := ⟨⟨cdB (by decide +kernel), inA (by decide +kernel), rfl, plainFor_of_name ow_8.1, ow_8.2.1, ow_8.2.2, by decide +kernel⟩, imA (by decide +kernel), slA (by decide +kernel), by decide +kernel⟩
set_option maxRecDepth 100000 in
theorem ca_235 : caV 235 := ⟨⟨cdB (by decide +kernel), inA (by decide +kernel), rfl, plainFor_of_name ow_8.1, ow_8.2.1, ow_8.2.2, by decide +kernel⟩, imA (by decide +kernel), slA (by decide +kernel), by decide +kernel⟩
set_option maxRecDepth 100000 in
theorem ca_236 : caV 236 := ⟨⟨cdB (by decide +kernel), inA (by decide +kernel), rfl, plainFor_of_name ow_8.1, ow_8.2.1, ow_8.2.2, by decide +kernel⟩, imA (by decide +kernel), slA (by decide +kernel), by decide +kernel⟩
set_option maxRecDepth 100000 in
theorem ca_237 : caV 237 := ⟨⟨cdB (by decide +kernel), inA (by decide +kernel), rfl, plainFor_of_name ow_8.1, ow_8.2.1, ow_8.2.2, by decide +kernel⟩, imA (by decide +kernel), slA (by decide +kernel), by decide +kernel⟩
set_option maxRecDepth 100000 in
theorem ca_238 : caS 238 := ⟨⟨cdB (by decide +kernel), inA (by decide +kernel), rfl, plainFor_of_name ow_8.1, ow_8.2.1, ow_8.2.2, by decide +kernel⟩, isA (by decide +kernel)⟩
set_option maxRecDepth 100000 in
theorem ca_239 : caV 239 := ⟨⟨cdB (by decide +kernel), inA (by decide +kernel), rfl, plainFor_of_name ow_9.1, ow_9.2.1, ow_9.2.2, by decide +kernel⟩, imA (by decide +kernel), slA (by decide +kernel), by decide +kernel⟩
set_option maxRecDepth 100000 in
theorem ca_240 : caV 240 := ⟨⟨cdB (by decide +kernel), inA (by decide +kernel), rfl, plainFor_of_name ow_9.1, ow_9.2.1, ow_9.2.2, by decide +kernel⟩, imA (by decide +kernel), slA (by decide +kernel), by decide +kernel⟩
set_option maxRecDepth 100000 in
theorem ca_241 : caV 241 := ⟨⟨cdB (by decide +kernel), inA (by decide +kernel), rfl, plainFor_of_name ow_9.1, ow_9.2.1, ow_9.2.2, by decide +kernel⟩, imA (by decide +kernel), slA (by decide +kernel), by decide +kernel⟩
set_option maxRecDepth 100000 in
theorem ca_242 : caV 242 := ⟨⟨cdB (by decide +kernel), inA (by decide +kernel), rfl, plainFor_of_name ow_9.1, ow_9.2.1, ow_9.2.2, by decide +kernel⟩, imA (by decide +kernel), slA (by decide +kernel), by decide +kernel⟩
set_option maxRecDepth 100000 in
theorem ca_243 : caV 243 := ⟨⟨cdB (by decide +kernel), inA (by decide +kernel), rfl, plainFor_of_name ow_9.1, ow_9.2.1, ow_9.2.2, by decide +kernel⟩, imA (by decide +kernel), slA (by decide +kernel), by decide +kernel⟩
set_option maxRecDepth 100000 in
theorem ca_244 : caS 244 := ⟨⟨cdB (by decide +kernel), inA (by decide +kernel), rfl, plainFor_of_name ow_9.1, ow_9.2.1, ow_9.2.2, by decide +kernel⟩, isA (by decide +kernel)⟩
set_option maxRecDepth 100000 in
theorem ca_245 : caS 245 := ⟨⟨cdB (by decide +kernel), inA (by decide +kernel), rfl, plainFor_of_name ow_9.1, ow_9.2.1, ow_9.2.2, by decide +kernel⟩, isA (by decide +kernel)⟩
set_option maxRecDepth 100000 in
theorem ca_246 : caV 246 := ⟨⟨cdB (by decide +kernel), inA (by decide +kernel), rfl, plainFor_of_name ow_9.1, ow_9.2.1, ow_9.2.2, by decide +kernel⟩, imA (by decide +kernel), slA (by decide +kernel), by decide +kernel⟩
set_option maxRecDepth 100000 in
theorem ca_247 : caV 247 := ⟨⟨cdB (by decide +kernel), inA (by decide +kernel), rfl, plainFor_of_name ow_9.1, ow_9.2.1, ow_9.2.2, by decide +kernel⟩, imA (by decide +kernel), slA (by decide +kernel), by decide +kernel⟩
set_option maxRecDepth 100000 in
theorem ca_248 : caV 248 := ⟨⟨cdB (by decide +kernel), inA (by decide +kernel), rfl, plainFor_of_name ow_9.1, ow_9.2.1, ow_9.2.2, by decide +kernel⟩, imA (by decide +kernel), slA (by decide +kernel), by decide +kernel⟩
set_option maxRecDepth 100000 in
theorem ca_249 : caV 249 := ⟨⟨cdB (by decide +kernel), inA (by decide +kernel), rfl, plainFor_of_name ow_9.1, ow_9.2.1, ow_9.2.2, by decide +kernel⟩, imA (by decide +kernel), slA (by decide +kernel), by decide +kernel⟩
set_option maxRecDepth 100000 in
theorem ca_250 : caV 250 := ⟨⟨cdB (by decide +kernel), inA (by decide +kernel), rfl, plainFor_of_name ow_9.1, ow_9.2.1, ow_9.2.2, by decide +kernel⟩, imA (by decide +kernel), slA (by decide +kernel), by decide +kernel⟩
set_option maxRecDepth 100000 in
theorem ca_251 : caV 251 := ⟨⟨cdB (by decide +kernel), inA (by decide +kernel), rfl, plainFor_of_name ow_9.1, ow_9.2.1, ow_9.2.2, by decide +kernel⟩, imA (by decide +kernel), slA (by decide +kernel), by decide +kernel⟩
set_option maxRecDepth 100000 in
theorem ca_252 : caV 252 := ⟨⟨cdB (by decide +kernel), inA (by decide +kernel), rfl, plainFor_of_name ow_9.1, ow_9.2.1, ow_9.2.2, by decide +kernel⟩, imA (by decide +kernel), slA (by decide +kernel), by decide +kernel⟩
set_option maxRecDepth 100000 in
theorem ca_253 : caV 253 := ⟨⟨cdB (by decide +kernel), inA (by decide +kernel), rfl, plainFor_of_name ow_9.1, ow_9.2.1, ow_9.2.2, by decide +kernel⟩, imA (by decide +kernel), slA (by decide +kernel), by decide +kernel⟩
set_option maxRecDepth 100000 in
theorem ca_254 : caV 254 := ⟨⟨cdB (by decide +kernel), inA (by decide +kernel), rfl, plainFor_of_name ow_9.1, ow_9.2.1, ow_9.2.2, by decide +kernel⟩, imA (by decide +kernel), slA (by decide +kernel), by decide +kernel⟩
set_option maxRecDepth 100000 in
theorem ca_255 : caV 255 := ⟨⟨cdB (by decide +kernel), inA (by decide +kernel), rfl, plainFor_of_name ow_9.1, ow_9.2.1, ow_9.2.2, by decide +kernel⟩, imA (by decide +kernel), slA (by decide +kernel), by decide +kernel⟩
set_option maxRecDepth 100000 in
theorem ca_256 : caV 256 := ⟨⟨cdB (by decide +kernel), inA (by decide +kernel), rfl, plainFor_of_name ow_9.1, ow_9.2.1, ow_9.2.2, by decide +kernel⟩, imA (by decide +kernel), slA (by decide +kernel), by decide +kernel⟩
set_option maxRecDepth 100000 in
theorem ca_257 : caV 257 := ⟨⟨cdB (by decide +kernel), inA (by decide +kernel), rfl, plainFor_of_name ow_9.1, ow_9.2.1, ow_9.2.2, by decide +kernel⟩, imA (by decide +kernel), slA (by decide +kernel), by decide +kernel⟩
set_option maxRecDepth 100000 in
theorem ca_258 : caV 258 := ⟨⟨cdB (by decide +kernel), inA (by decide +kernel), rfl, plainFor_of_name ow_9.1, ow_9.2.1, ow_9.2.2, by decide +kernel⟩, imA (by decide +kernel), slA (by decide +kernel), by decide +kernel⟩
set_option maxRecDepth 100000 in
theorem ca_259 : caV 259 := ⟨⟨cdB (by decide +kernel), inA (by decide +kernel), rfl, plainFor_of_name ow_9.1, ow_9.2.1, ow_9.2.2, by decide +kernel⟩, imA (by decide +kernel), slA (by decide +kernel), by decide +kernel⟩
set_option maxRecDepth 100000 in
theorem ca_260 : caV 260 := ⟨⟨cdB (by decide +kernel), inA (by decide +kernel), rfl, plainFor_of_name ow_9.1, ow_9.2.1, ow_9.2.2, by decide +kernel⟩, imA (by decide +kernel), slA (by decide +kernel), by decide +kernel⟩
set_option maxRecDepth 100000 in
theorem ca_261 : caV 261 := ⟨⟨cdB (by decide +kernel), inA (by decide +kernel), rfl, plainFor_of_name ow_9.1, ow_9.2.1, ow_9.2.2, by decide +kernel⟩, imA (by decide +kernel), slA (by decide +kernel), by decide +kernel⟩
set_option maxRecDepth 100000 in
theorem ca_262 : caV 262 := ⟨⟨cdB (by decide +kernel), inA (by decide +kernel), rfl, plainFor_of_name ow_9.1, ow_9.2.1, ow_9.2.2, by decide +kernel⟩, imA (by decide +kernel), slA (by decide +kernel), by decide +kernel⟩
set_option maxRecDepth 100000 in
theorem ca_263 : caV 263 := ⟨⟨cdB (by decide +kernel), inA (by decide +kernel), rfl, plainFor_of_name ow_9.1, ow_9.2.1, ow_9.2.2, by decide +kernel⟩, imA (by decide +kernel), slA (by decide +kernel), by decide +kernel⟩
set_option maxRecDepth 100000 in
theorem ca_264 : caV 264 := ⟨⟨cdB (by decide +kernel), inA (by decide +kernel), rfl, plainFor_of_name ow_9.1, ow_9.2.1, ow_9.2.2, by decide +kernel⟩, imA (by decide +kernel), slA (by decide +kernel), by decide +kernel⟩
set_option maxRecDepth 100000 in
theorem ca_265 : caV 265 := ⟨⟨cdB (by decide +kernel), inA (by decide +kernel), rfl, plainFor_of_name ow_9.1, ow_9.2.1, ow_9.2.2, by decide +kernel⟩, imA (by decide +kernel), slA (by decide +kernel), by decide +kernel⟩
set_option maxRecDepth 100000 in
theorem ca_266 : caS 266 := ⟨⟨cdB (by decide +kernel), inA (by decide +kernel), rfl, plainFor_of_name ow_9.1, ow_9.2.1, ow_9.2.2, by decide +kernel⟩, isA (by decide +kernel)⟩
set_option maxRecDepth 100000 in
theorem ca_267 : caV 267 := ⟨⟨cdB (by decide +kernel), inA (by decide +kernel), rfl, plainFor_of_name ow_9.1, ow_9.2.1, ow_9.2.2, by decide +kernel⟩, imA (by decide +kernel), slA (by decide +kernel), by decide +kernel⟩
set_option maxRecDepth 100000 in
theorem ca_268 : caS 268 := ⟨⟨cdB (by decide +kernel), inA (by decide +kernel), rfl, plainFor_of_name ow_9.1, ow_9.2.1, ow_9.2.2, by decide +kernel⟩, isA (by decide +kernel)⟩
set_option maxRecDepth 100000 in
theorem ca_269 : caS 269 := ⟨⟨cdB (by decide +kernel), inA (by decide +kernel), rfl, plainFor_of_name ow_9.1, ow_9.2.1, ow_9.2.2, by decide +kernel⟩, isA (by decide +kernel)⟩
set_option maxRecDepth 100000 in
theorem ca_270 : caS 270 := ⟨⟨cdB (by decide +kernel), inA (by decide +kernel), rfl, plainFor_of_name ow_9.1, ow_9.2.1, ow_9.2.2, by decide +kernel⟩, isA (by decide +kernel)⟩
set_option maxRecDepth 100000 in
theorem ca_271 : caS 271 := ⟨⟨cdB (by decide +kernel), inA (by decide +kernel), rfl, plainFor_of_name ow_9.1, ow_9.2.1, ow_9.2.2, by decide +kernel⟩, isA (by decide +kernel)⟩
set_option maxRecDepth 100000 in
theorem ca_272 : caS 272 := ⟨⟨cdB (by decide +kernel), inA (by decide +kernel), rfl, plainFor_of_name ow_9.1, ow_9.2.1, ow_9.2.2, by decide +kernel⟩, isA (by decide +kernel)⟩
set_option maxRecDepth 100000 in
theorem ca_273 : caV 273 := ⟨⟨cdB (by decide +kernel), inA (by decide +kernel), rfl, plainFor_of_name ow_9.1, ow_9.2.1, ow_9.2.2, by decide +kernel⟩, imA (by decide +kernel), slA (by decide +kernel), by decide +kernel⟩
set_option maxRecDepth 100000 in
theorem ca_274 : caV 274 := ⟨⟨cdB (by decide +kernel), inA (by decide +kernel), rfl, plainFor_of_name ow_9.1, ow_9.2.1, ow_9.2.2, by decide +kernel⟩, imA (by decide +kernel), slA (by decide +kernel), by decide +kernel⟩
set_option maxRecDepth 100000 in
theorem ca_275 : caS 275 := ⟨⟨cdB (by decide +kernel), inA (by decide +kernel), rfl, plainFor_of_name ow_9.1, ow_9.2.1, ow_9.2.2, by decide +kernel⟩, isA (by decide +kernel)⟩
set_option maxRecDepth 100000 in
theorem ca_276 : caS 276 := ⟨⟨cdB (by decide +kernel), inA (by decide +kernel), rfl, plainFor_of_name ow_9.1, ow_9.2.1, ow_9.2.2, by decide +kernel⟩, isA (by decide +kernel)⟩
set_option maxRecDepth 100000 in
theorem ca_277 : caS 277 := ⟨⟨cdB (by decide +kernel), inA (by decide +kernel), rfl, plainFor_of_name ow_9.1, ow_9.2.1, ow_9.2.2, by decide +kernel⟩, isA (by decide +kernel)⟩
set_option maxRecDepth 100000 in
theorem ca_278 : caV 278 := ⟨⟨cdB (by decide +kernel), inA (by decide +kernel), rfl, plainFor_of_name ow_9.1, ow_9.2.1, ow_9.2.2, by decide +kernel⟩, imA (by decide +kernel), slA (by decide +kernel), by decide +kernel⟩
set_option maxRecDepth 100000 in
theorem ca_279 : caS 279 := ⟨⟨cdB (by decide +kernel), inA (by decide +kernel), rfl, plainFor_of_name ow_9.1, ow_9.2.1, ow_9.2.2, by decide +kernel⟩, isA (by decide +kernel)⟩
set_option maxRecDepth 100000 in
theorem ca_280 : caV 280 := ⟨⟨cdB (by decide +kernel), inA (by decide +kernel), rfl, plainFor_of_name ow_9.1, ow_9.2.1, ow_9.2.2, by decide +kernel⟩, imA (by decide +kernel), slA (by decide +kernel), by decide +kernel⟩
set_option maxRecDepth 100000 in
theorem ca_281 : caV 281 := ⟨⟨cdB (by decide +kernel), inA (by decide +kernel), rfl, plainFor_of_name ow_9.1, ow_9.2.1, ow_9.2.2, by decide +kernel⟩, imA (by decide +kernel), slA (by decide +kernel), by decide +kernel⟩
set_option maxRecDepth 100000 in
theorem ca_282 : caS 282 := ⟨⟨cdB (by decide +kernel), inA (by decide +kernel), rfl, plainFor_of_name ow_9.1, ow_9.2.1, ow_9.2.2, by decide +kernel⟩, isA (by decide +kernel)⟩
set_option maxRecDepth 100000 in
theorem ca_283 : caV 283 := ⟨⟨cdB (by decide +kernel), inA (by decide +kernel), rfl, plainFor_of_name ow_9.1, ow_9.2.1, ow_9.2.2, by decide +kernel⟩, imA (by decide +kernel), slA (by decide +kernel), by decide +kernel⟩
set_option maxRecDepth 100000 in
theorem ca_284 : caV 284 := ⟨⟨cdB (by decide +kernel), inA (by decide +kernel), rfl, plainFor_of_name ow_9.1, ow_9.2.1, ow_9.2.2, by decide +kernel⟩, imA (by decide +kernel), slA (by decide +kernel), by decide +kernel⟩
set_option maxRecDepth 100000 in
theorem ca_285 : caV 285 := ⟨⟨cdB (by decide +kernel), inA (by decide +kernel), rfl, plainFor_of_name ow_9.1, ow_9.2.1, ow_9.2.2, by decide +kernel⟩, imA (by decide +kernel), slA (by decide +kernel), by decide +kernel⟩
set_option maxRecDepth 100000 in
theorem ca_286 : caV 286 := ⟨⟨cdB (by decide +kernel), inA (by decide +kernel), rfl, plainFor_of_name ow_9.1, ow_9.2.1, ow_9.2.2, by decide +kernel⟩, imA (by decide +kernel), slA (by decide +kernel), by decide +kernel⟩
set_option maxRecDepth 100000 in
theorem ca_287 : caV 287 := ⟨⟨cdB (by decide +kernel), inA (by decide +kernel), rfl, plainFor_of_name ow_9.1, ow_9.2.1, ow_9.2.2, by decide +kernel⟩, imA (by decide +kernel), slA (by decide +kernel), by decide +kernel⟩
set_option maxRecDepth 100000 in
theorem ca_288 : caV 288 := ⟨⟨cdB (by decide +kernel), inA (by decide +kernel), rfl, plainFor_of_name ow_9.1, ow_9.2.1, ow_9.2.2, by decide +kernel⟩, imA (by decide +kernel), slA (by decide +kernel), by decide +kernel⟩
set_option maxRecDepth 100000 in
theorem ca_289 : caV 289 := ⟨⟨cdB (by decide +kernel), inA (by decide +kernel), rfl, plainFor_of_name ow_9.1, ow_9.2.1, ow_9.2.2, by decide +kernel⟩, imA (by decide +kernel), slA (by decide +kernel), by decide +kernel⟩
set_option maxRecDepth 100000 in
theorem ca_290 : caV 290 := ⟨⟨cdB (by decide +kernel), inA (by decide +kernel), rfl, plainFor_of_name ow_9.1, ow_9.2.1, ow_9.2.2, by decide +kernel⟩, imA (by decide +kernel), slA (by decide +kernel), by decide +kernel⟩
set_option maxRecDepth 100000 in
theorem ca_291 : caV 291 := ⟨⟨cdB (by decide +kernel), inA (by decide +kernel), rfl, plainFor_of_name ow_10.1, ow_10.2.1, ow_10.2.2, by decide +kernel⟩, imA (by decide +kernel), slA (by decide +kernel), by decide +kernel⟩
set_option maxRecDepth 100000 in
theorem ca_292 : caV 292 := ⟨⟨cdB (by decide +kernel), inA (by decide +kernel), rfl, plainFor_of_name ow_10.1, ow_10.2.1, ow_10.2.2, by decide +kernel⟩, imA (by decide +kernel), slA (by decide +kernel), by decide +kernel⟩
set_option maxRecDepth 100000 in
theorem ca_293 : caV 293 := ⟨⟨cdB (by decide +kernel), inA (by decide +kernel), rfl, plainFor_of_name ow_10.1, ow_10.2.1, ow_10.2.2, by decide +kernel⟩, imA (by decide +kernel), slA (by decide +kernel), by decide +kernel⟩
set_option maxRecDepth 100000 in
theorem ca_294 : caV 294 := ⟨⟨cdB (by decide +kernel), inA (by decide +kernel), rfl, plainFor_of_name ow_10.1, ow_10.2.1, ow_10.2.2, by decide +kernel⟩, imA (by decide +kernel), slA (by decide +kernel), by decide +kernel⟩
set_option maxRecDepth 100000 in
theorem ca_295 : caV 295 := ⟨⟨cdB (by decide +kernel), inA (by decide +kernel), rfl, plainFor_of_name ow_10.1, ow_10.2.1, ow_10.2.2, by decide +kernel⟩, imA (by decide +kernel), slA (by decide +kernel), by decide +kernel⟩
set_option maxRecDepth 100000 in
theorem ca_296 : caV 296 := ⟨⟨cdB (by decide +kernel), inA (by decide +kernel), rfl, plainFor_of_name ow_10.1, ow_10.2.1, ow_10.2.2, by decide +kernel⟩, imA (by decide +kernel), slA (by decide +kernel), by decide +kernel⟩
set_option maxRecDepth 100000 in
theorem ca_297 : caV 297 := ⟨⟨cdB (by decide +kernel), inA (by decide +kernel), rfl, plainFor_of_name ow_10.1, ow_10.2.1, ow_10.2.2, by decide +kernel⟩, imA (by decide +kernel), slA (by decide +kernel), by decide +kernel⟩
set_option maxRecDepth 100000 in
theorem ca_298 : caV 298 := ⟨⟨cdB (by decide +kernel), inA (by decide +kernel), rfl, plainFor_of_name ow_10.1, ow_10.2.1, ow_10.2.2, by decide +kernel⟩, imA (by decide +kernel), slA (by decide +kernel), by decide +kernel⟩
set_option maxRecDepth 100000 in
theorem ca_299 : caV 299 := ⟨⟨cdB (by decide +kernel), inA (by decide +kernel), rfl, plainFor_of_name ow_10.1, ow_10.2.1, ow_10.2.2, by decide +kernel⟩, imA (by decide +kernel), slA (by decide +kernel), by decide +kernel⟩
set_option maxRecDepth 100000 in
theorem ca_300 : caV 300 := ⟨⟨cdB (by decide +kernel), inA (by decide +kernel), rfl, plainFor_of_name ow_10.1, ow_10.2.1, ow_10.2.2, by decide +kernel⟩, imA (by decide +kernel), slA (by decide +kernel), by decide +kernel⟩
set_option maxRecDepth 100000 in
theorem ca_301 : caV 301 := ⟨⟨cdB (by decide +kernel), inA (by decide +kernel), rfl, plainFor_of_name ow_10.1, ow_10.2.1, ow_10.2.2, by decide +kernel⟩, imA (by decide +kernel), slA (by decide +kernel), by decide +kernel⟩
set_option maxRecDepth 100000 in
theorem ca_302 : caV 302 := ⟨⟨cdB (by decide +kernel), inA (by decide +kernel), rfl, plainFor_of_name ow_10.1, ow_10.2.1, ow_10.2.2, by decide +kernel⟩, imA (by decide +kernel), slA (by decide +kernel), by decide +kernel⟩
set_option maxRecDepth 100000 in
theorem ca_303 : caV 303 := ⟨⟨cdB (by decide +kernel), inA (by decide +kernel), rfl, plainFor_of_name ow_10.1, ow_10.2.1, ow_10.2.2, by decide +kernel⟩, imA (by decide +kernel), slA (by decide +kernel), by decide +kernel⟩
set_option maxRecDepth 100000 in
theorem ca_304 : caV 304 := ⟨⟨cdB (by decide +kernel), inA (by decide +kernel), rfl, plainFor_of_name ow_10.1, ow_10.2.1, ow_10.2.2, by decide +kernel⟩, imA (by decide +kernel), slA (by decide +kernel), by decide +kernel⟩
set_option maxRecDepth 100000 in
theorem ca_305 : caV 305 := ⟨⟨cdB (by decide +kernel), inA (by decide +kernel), rfl, plainFor_of_name ow_10.1, ow_10.2.1, ow_10.2.2, by decide +kernel⟩, imA (by decide +kernel), slA (by decide +kernel), by decide +kernel⟩
set_option maxRecDepth 100000 in
theorem ca_306 : caV 306 := ⟨⟨cdB (by decide +kernel), inA (by decide +kernel), rfl, plainFor_of_name ow_10.1, ow_10.2.1, ow_10.2.2, by decide +kernel⟩, imA (by decide +kernel), slA (by decide +kernel), by decide +kernel⟩
set_option maxRecDepth 100000 in
theorem ca_307 : caV 307 := ⟨⟨cdB (by decide +kernel), inA (by decide +kernel), rfl, plainFor_of_name ow_10.1, ow_10.2.1, ow_10.2.2, by decide +kernel⟩, imA (by decide +kernel), slA (by decide +kernel), by decide +kernel⟩
set_option maxRecDepth 100000 in
theorem ca_308 : caV 308 := ⟨⟨cdB (by decide +kernel), inA (by decide +kernel), rfl, plainFor_of_name ow_10.1, ow_10.2.1, ow_10.2.2, by decide +kernel⟩, imA (by decide +kernel), slA (by decide +kernel), by decide +kernel⟩
set_option maxRecDepth 100000 in
theorem ca_309 : caV 309 := ⟨⟨cdB (by decide +kernel), inA (by decide +kernel), rfl, plainFor_of_name ow_10.1, ow_10.2.1, ow_10.2.2, by decide +kernel⟩, imA (by decide +kernel), slA (by decide +kernel), by decide +kernel⟩
set_option maxRecDepth 100000 in
theorem ca_310 : caV 310 := ⟨⟨cdB (by decide +kernel), inA (by decide +kernel), rfl, plainFor_of_name ow_10.1, ow_10.2.1, ow_10.2.2, by decide +kernel⟩, imA (by decide +kernel), slA (by decide +kernel), by decide +kernel⟩
set_option maxRecDepth 100000 in
theorem ca_311 : caV 311 := ⟨⟨cdB (by decide +kernel), inA (by decide +kernel), rfl, plainFor_of_name ow_10.1, ow_10.2.1, ow_10.2.2, by decide +kernel⟩, imA (by decide +kernel), slA (by decide +kernel), by decide +kernel⟩
set_option maxRecDepth 100000 in
theorem ca_312 : caV 312 := ⟨⟨cdB (by decide +kernel), inA (by decide +kernel), rfl, plainFor_of_name ow_10.1, ow_10.2.1, ow_10.2.2, by decide +kernel⟩, imA (by decide +kernel), slA (by decide +kernel), by decide +kernel⟩
set_option maxRecDepth 100000 in
theorem ca_313 : caV 313 := ⟨⟨cdB (by decide +kernel), inA (by decide +kernel), rfl, plainFor_of_name ow_10.1, ow_10.2.1, ow_10.2.2, by decide +kernel⟩, imA (by decide +kernel), slA (by decide +kernel), by decide +kernel⟩
set_option maxRecDepth 100000 in
theorem ca_314 : caV 314 := ⟨⟨cdB (by decide +kernel), inA (by decide +kernel), rfl, plainFor_of_name ow_10.1, ow_10.2.1, ow_10.2.2, by decide +kernel⟩, imA (by decide +kernel), slA (by decide +kernel), by decide +kernel⟩
set_option maxRecDepth 100000 in
theorem ca_315 : caV 315 := ⟨⟨cdB (by decide +kernel), inA (by decide +kernel), rfl, plainFor_of_name ow_10.1, ow_10.2.1, ow_10.2.2, by decide +kernel⟩, imA (by decide +kernel), slA (by decide +kernel), by decide +kernel⟩
set_option maxRecDepth 100000 in
theorem ca_316 : caV 316 := ⟨⟨cdB (by decide +kernel), inA (by decide +kernel), rfl, plainFor_of_name ow_10.1, ow_10.2.1, ow_10.2.2, by decide +kernel⟩, imA (by decide +kernel), slA (by decide +kernel), by decide +kernel⟩
set_option maxRecDepth 100000 in
theorem ca_317 : caV 317 := ⟨⟨cdB (by decide +kernel), inA (by decide +kernel), rfl, plainFor_of_name ow_10.1, ow_10.2.1, ow_10.2.2, by decide +kernel⟩, imA (by decide +kernel), slA (by decide +kernel), by decide +kernel⟩
set_option maxRecDepth 100000 in
theorem ca_318 : caV 318 := ⟨⟨cdB (by decide +kernel), inA (by decide +kernel), rfl, plainFor_of_name ow_10.1, ow_10.2.1, ow_10.2.2, by decide +kernel⟩, imA (by decide +kernel), slA (by decide +kernel), by decide +kernel⟩
set_option maxRecDepth 100000 in
theorem ca_319 : caV 319 := ⟨⟨cdB (by decide +kernel), inA (by decide +kernel), rfl, plainFor_of_name ow_10.1, ow_10.2.1, ow_10.2.2, by decide +kernel⟩, imA (by decide +kernel), slA (by decide +kernel), by decide +kernel⟩
set_option maxRecDepth 100000 in
theorem ca_320 : caV 320 := ⟨⟨cdB (by decide +kernel), inA (by decide +kernel), rfl, plainFor_of_name ow_10.1, ow_10.2.1, ow_10.2.2, by decide +kernel⟩, imA (by decide +kernel), slA (by decide +kernel), by decide +kernel⟩
set_option maxRecDepth 100000 in
theorem ca_321 : caV 321 := ⟨⟨cdB (by decide +kernel), inA (by decide +kernel), rfl, plainFor_of_name ow_10.1, ow_10.2.1, ow_10.2.2, by decide +kernel⟩, imA (by decide +kernel), slA (by decide +kernel), by decide +kernel⟩
set_option maxRecDepth 100000 in
theorem ca_322 : caV 322 := ⟨⟨cdB (by decide +kernel), inA (by decide +kernel), rfl, plainFor_of_name ow_10.1, ow_10.2.1, ow_10.2.2, by decide +kernel⟩, imA (by decide +kernel), slA (by decide +kernel), by decide +kernel⟩
set_option maxRecDepth 100000 in
theorem ca_323 : caV 323 := ⟨⟨cdB (by decide +kernel), inA (by decide +kernel), rfl, plainFor_of_name ow_10.1, ow_10.2.1, ow_10.2.2, by decide +kernel⟩, imA (by decide +kernel), slA (by decide +kernel), by decide +kernel⟩
set_option maxRecDepth 100000 in
theorem ca_324 : caV 324 := ⟨⟨cdB (by decide +kernel), inA (by decide +kernel), rfl, plainFor_of_name ow_10.1, ow_10.2.1, ow_10.2.2, by decide +kernel⟩, imA (by decide +kernel), slA (by decide +kernel), by decide +kernel⟩
set_option maxRecDepth 100000 in
theorem ca_325 : caV 325 := ⟨⟨cdB (by decide +kernel), inA (by decide +kernel), rfl, plainFor_of_name ow_10.1, ow_10.2.1, ow_10.2.2, by decide +kernel⟩, imA (by decide +kernel), slA (by decide +kernel), by decide +kernel⟩
set_option maxRecDepth 100000 in
theorem ca_326 : caV 326 := ⟨⟨cdB (by decide +kernel), inA (by decide +kernel), rfl, plainFor_of_name ow_10.1, ow_10.2.1, ow_10.2.2, by decide +kernel⟩, imA (by decide +kernel), slA (by decide +kernel), by decide +kernel⟩
set_option maxRecDepth 100000 in
theorem ca_327 : caV 327 := ⟨⟨cdB (by decide +kernel), inA (by decide +kernel), rfl, plainFor_of_name ow_11.1, ow_11.2.1, ow_11.2.2, by decide +kernel⟩, imA (by decide +kernel), slA (by decide +kernel), by decide +kernel⟩
set_option maxRecDepth 100000 in
theorem ca_328 : caV 328 := ⟨⟨cdB (by decide +kernel), inA (by decide +kernel), rfl, plainFor_of_name ow_11.1, ow_11.2.1, ow_11.2.2, by decide +kernel⟩, imA (by decide +kernel), slA (by decide +kernel), by decide +kernel⟩
set_option maxRecDepth 100000 in
theorem ca_329 : caV 329 := ⟨⟨cdB (by decide +kernel), inA (by decide +kernel), rfl, plainFor_of_name ow_11.1, ow_11.2.1, ow_11.2.2, by decide +kernel⟩, imA (by decide +kernel), slA (by decide +kernel), by decide +kernel⟩
set_option maxRecDepth 100000 in
theorem ca_330 : caV 330 := ⟨⟨cdB (by decide +kernel), inA (by decide +kernel), rfl, plainFor_of_name ow_11.1, ow_11.2.1, ow_11.2.2, by decide +kernel⟩, imA (by decide +kernel), slA (by decide +kernel), by decide +kernel⟩
set_option maxRecDepth 100000 in
theorem ca_331 : caS 331 := ⟨⟨cdB (by decide +kernel), inA (by decide +kernel), rfl, plainFor_of_name ow_11.1, ow_11.2.1, ow_11.2.2, by decide +kernel⟩, isA (by decide +kernel)⟩
set_option maxRecDepth 100000 in
theorem ca_332 : caS 332 := ⟨⟨cdB (by decide +kernel), inA (by decide +kernel), rfl, plainFor_of_name ow_11.1, ow_11.2.1, ow_11.2.2, by decide +kernel⟩, isA (by decide +kernel)⟩
set_option maxRecDepth 100000 in
theorem ca_333 : caS 333 := ⟨⟨cdB (by decide +kernel), inA (by decide +kernel), rfl, plainFor_of_name ow_11.1, ow_11.2.1, ow_11.2.2, by decide +kernel⟩, isA (by decide +kernel)⟩
set_option maxRecDepth 100000 in
theorem ca_334 : caS 334 := ⟨⟨cdB (by decide +kernel), inA (by decide +kernel), rfl, plainFor_of_name ow_11.1, ow_11.2.1, ow_11.2.2, by decide +kernel⟩, isA (by decide +kernel)⟩
set_option maxRecDepth 100000 in
theorem ca_335 : caS 335 := ⟨⟨cdB (by decide +kernel), inA (by decide +kernel), rfl, plainFor_of_name ow_11.1, ow_11.2.1, ow_11.2.2, by decide +kernel⟩, isA (by decide +kernel)⟩
set_option maxRecDepth 100000 in
theorem ca_336 : caS 336 := ⟨⟨cdB (by decide +kernel), inA (by decide +kernel), rfl, plainFor_of_name ow_11.1, ow_11.2.1, ow_11.2.2, by decide +kernel⟩, isA (by decide +kernel)⟩
set_option maxRecDepth 100000 in
theorem ca_337 : caS 337 := ⟨⟨cdB (by decide +kernel), inA (by decide +kernel), rfl, plainFor_of_name ow_11.1, ow_11.2.1, ow_11.2.2, by decide +kernel⟩, isA (by decide +kernel)⟩
set_option maxRecDepth 100000 in
theorem ca_338 : caS 338 := ⟨⟨cdB (by decide +kernel), inA (by decide +kernel), rfl, plainFor_of_name ow_11.1, ow_11.2.1, ow_11.2.2, by decide +kernel⟩, isA (by decide +kernel)⟩
set_option maxRecDepth 100000 in
theorem ca_339 : caS 339 := ⟨⟨cdB (by decide +kernel), inA (by decide +kernel), rfl, plainFor_of_name ow_11.1, ow_11.2.1, ow_11.2.2, by decide +kernel⟩, isA (by decide +kernel)⟩
set_option maxRecDepth 100000 in
theorem ca_340 : caS 340 := ⟨⟨cdB (by decide +kernel), inA (by decide +kernel), rfl, plainFor_of_name ow_11.1, ow_11.2.1, ow_11.2.2, by decide +kernel⟩, isA (by decide +kernel)⟩
set_option maxRecDepth 100000 in
theorem ca_341 : caS 341 := ⟨⟨cdB (by decide +kernel), inA (by decide +kernel), rfl, plainFor_of_name ow_11.1, ow_11.2.1, ow_11.2.2, by decide +kernel⟩, isA (by decide +kernel)⟩
set_option maxRecDepth 100000 in
theorem ca_342 : caS 342 := ⟨⟨cdB (by decide +kernel), inA (by decide +kernel), rfl, plainFor_of_name ow_11.1, ow_11.2.1, ow_11.2.2, by decide +kernel⟩, isA (by decide +kernel)⟩
set_option maxRecDepth 100000 in
theorem ca_343 : caS 343 := ⟨⟨cdB (by decide +kernel), inA (by decide +kernel), rfl, plainFor_of_name ow_11.1, ow_11.2.1, ow_11.2.2, by decide +kernel⟩, isA (by decide +kernel)⟩
set_option maxRecDepth 100000 in
theorem ca_344 : caS 344 := ⟨⟨cdB (by decide +kernel), inA (by decide +kernel), rfl, plainFor_of_name ow_11.1, ow_11.2.1, ow_11.2.2, by decide +kernel⟩, isA (by decide +kernel)⟩
set_option maxRecDepth 100000 in
theorem ca_345 : caV 345 := ⟨⟨cdB (by decide +kernel), inA (by decide +kernel), rfl, plainFor_of_name ow_11.1, ow_11.2.1, ow_11.2.2, by decide +kernel⟩, imA (by decide +kernel), slA (by decide +kernel), by decide +kernel⟩
set_option maxRecDepth 100000 in
theorem ca_346 : caV 346 := ⟨⟨cdB (by decide +kernel), inA (by decide +kernel), rfl, plainFor_of_name ow_11.1, ow_11.2.1, ow_11.2.2, by decide +kernel⟩, imA (by decide +kernel), slA (by decide +kernel), by decide +kernel⟩
set_option maxRecDepth 100000 in
theorem ca_347 : caV 347 := ⟨⟨cdB (by decide +kernel), inA (by decide +kernel), rfl, plainFor_of_name ow_11.1, ow_11.2.1, ow_11.2.2, by decide +kernel⟩, imA (by decide +kernel), slA (by decide +kernel), by decide +kernel⟩
set_option maxRecDepth 100000 in
theorem ca_348 : caV 348 := ⟨⟨cdB (by decide +kernel), inA (by decide +kernel), rfl, plainFor_of_name ow_11.1, ow_11.2.1, ow_11.2.2, by decide +kernel⟩, imA (by decide +kernel), slA (by decide +kernel), by decide +kernel⟩
set_option maxRecDepth 100000 in
theorem ca_349 : caV 349 := ⟨⟨cdB (by decide +kernel), inA (by decide +kernel), rfl, plainFor_of_name ow_11.1, ow_11.2.1, ow_11.2.2, by decide +kernel⟩, imA (by decide +kernel), slA (by decide +kernel), by decide +kernel⟩
set_option maxRecDepth 100000 in
theorem ca_350 : caV 350 := ⟨⟨cdB (by decide +kernel), inA (by decide +kernel), rfl, plainFor_of_name ow_11.1, ow_11.2.1, ow_11.2.2, by decide +kernel⟩, imA (by decide +kernel), slA (by decide +kernel), by decide +kernel⟩
set_option maxRecDepth 100000 in
theorem ca_351 : caV 351 := ⟨⟨cdB (by decide +kernel), inA (by decide +kernel), rfl, plainFor_of_name ow_11.1, ow_11.2.1, ow_11.2.2, by decide +kernel⟩, imA (by decide +kernel), slA (by decide +kernel), by decide +kernel⟩
set_option maxRecDepth 100000 in
theorem ca_352 : caS 352 := ⟨⟨cdB (by decide +kernel), inA (by decide +kernel), rfl, plainFor_of_name ow_11.1, ow_11.2.1, ow_11.2.2, by decide +kernel⟩, isA (by decide +kernel)⟩
set_option maxRecDepth 100000 in
theorem ca_353 : caS 353 := ⟨⟨cdB (by decide +kernel), inA (by decide +kernel), rfl, plainFor_of_name ow_11.1, ow_11.2.1, ow_11.2.2, by decide +kernel⟩, isA (by decide +kernel)⟩
set_option maxRecDepth 100000 in
theorem ca_354 : caS 354 := ⟨⟨cdB (by decide +kernel), inA (by decide +kernel), rfl, plainFor_of_name ow_11.1, ow_11.2.1, ow_11.2.2, by decide +kernel⟩, isA (by decide +kernel)⟩
set_option maxRecDepth 100000 in
theorem ca_355 : caV 355 := ⟨⟨cdB (by decide +kernel), inA (by decide +kernel), rfl, plainFor_of_name ow_11.1, ow_11.2.1, ow_11.2.2, by decide +kernel⟩, imA (by decide +kernel), slA (by decide +kernel), by decide +kernel⟩
set_option maxRecDepth 100000 in
theorem ca_356 : caV 356 := ⟨⟨cdB (by decide +kernel), inA (by decide +kernel), rfl, plainFor_of_name ow_11.1, ow_11.2.1, ow_11.2.2, by decide +kernel⟩, imA (by decide +kernel), slA (by decide +kernel), by decide +kernel⟩
set_option maxRecDepth 100000 in
theorem ca_357 : caV 357 := ⟨⟨cdB (by decide +kernel), inA (by decide +kernel), rfl, plainFor_of_name ow_11.1, ow_11.2.1, ow_11.2.2, by decide +kernel⟩, imA (by decide +kernel), slA (by decide +kernel), by decide +kernel⟩
set_option maxRecDepth 100000 in
theorem ca_358 : caV 358 := ⟨⟨cdB (by decide +kernel), inA (by decide +kernel), rfl, plainFor_of_name ow_11.1, ow_11.2.1, ow_11.2.2, by decide +kernel⟩, imA (by decide +kernel), slA (by decide +kernel), by decide +kernel⟩
set_option maxRecDepth 100000 in
theorem ca_359 : caV 359 := ⟨⟨cdB (by decide +kernel), inA (by decide +kernel), rfl, plainFor_of_name ow_11.1, ow_11.2.1, ow_11.2.2, by decide +kernel⟩, imA (by decide +kernel), slA (by decide +kernel), by decide +kernel⟩
set_option maxRecDepth 100000 in
theorem ca_360 : caV 360 := ⟨⟨cdB (by decide +kernel), inA (by decide +kernel), rfl, plainFor_of_name ow_11.1, ow_11.2.1, ow_11.2.2, by decide +kernel⟩, imA (by decide +kernel), slA (by decide +kernel), by decide +kernel⟩
set_option maxRecDepth 100000 in
theorem ca_361 : caV 361 := ⟨⟨cdB (by decide +kernel), inA (by decide +kernel), rfl, plainFor_of_name ow_11.1, ow_11.2.1, ow_11.2.2, by decide +kernel⟩, imA (by decide +kernel), slA (by decide +kernel), by decide +kernel⟩
set_option maxRecDepth 100000 in
theorem ca_362 : caV 362 := ⟨⟨cdB (by decide +kernel), inA (by decide +kernel), rfl, plainFor_of_name ow_11.1, ow_11.2.1, ow_11.2.2, by decide +kernel⟩, imA (by decide +kernel), slA (by decide +kernel), by decide +kernel⟩
set_option maxRecDepth 100000 in
theorem ca_363 : caV 363 := ⟨⟨cdB (by decide +kernel), inA (by decide +kernel), rfl, plainFor_of_name ow_11.1, ow_11.2.1, ow_11.2.2, by decide +kernel⟩, imA (by decide +kernel), slA (by decide +kernel), by decide +kernel⟩
set_option maxRecDepth 100000 in
theorem ca_364 : caV 364 := ⟨⟨cdB (by decide +kernel), inA (by decide +kernel), rfl, plainFor_of_name ow_11.1, ow_11.2.1, ow_11.2.2, by decide +kernel⟩, imA (by decide +kernel), slA (by decide +kernel), by decide +kernel⟩
set_option maxRecDepth 100000 in
theorem ca_365 : caV 365 := ⟨⟨cdB (by decide +kernel), inA (by decide +kernel), rfl, plainFor_of_name ow_11.1, ow_11.2.1, ow_11.2.2, by decide +kernel⟩, imA (by decide +kernel), slA (by decide +kernel), by decide +kernel⟩
set_option maxRecDepth 100000 in
theorem ca_366 : caV 366 := ⟨⟨cdB (by decide +kernel), inA (by decide +kernel), rfl, plainFor_of_name ow_11.1, ow_11.2.1, ow_11.2.2, by decide +kernel⟩, imA (by decide +kernel), slA (by decide +kernel), by decide +kernel⟩
set_option maxRecDepth 100000 in
theorem ca_367 : caV 367 := ⟨⟨cdB (by decide +kernel), inA (by decide +kernel), rfl, plainFor_of_name ow_11.1, ow_11.2.1, ow_11.2.2, by decide +kernel⟩, imA (by decide +kernel), slA (by decide +kernel), by decide +kernel⟩
set_option maxRecDepth 100000 in
theorem ca_368 : caV 368 := ⟨⟨cdB (by decide +kernel), inA (by decide +kernel), rfl, plainFor_of_name ow_11.1, ow_11.2.1, ow_11.2.2, by decide +kernel⟩, imA (by decide +kernel), slA (by decide +kernel), by decide +kernel⟩
set_option maxRecDepth 100000 in
theorem ca_369 : caV 369 := ⟨⟨cdB (by decide +kernel), inA (by decide +kernel), rfl, plainFor_of_name ow_11.1, ow_11.2.1, ow_11.2.2, by decide +kernel⟩, imA (by decide +kernel), slA (by decide +kernel), by decide +kernel⟩
set_option maxRecDepth 100000 in
theorem ca_370 : caV 370 := ⟨⟨cdB (by decide +kernel), inA (by decide +kernel), rfl, plainFor_of_name ow_11.1, ow_11.2.1, ow_11.2.2, by decide +kernel⟩, imA (by decide +kernel), slA (by decide +kernel), by decide +kernel⟩
set_option maxRecDepth 100000 in
theorem ca_371 : caV 371 := ⟨⟨cdB (by decide +kernel), inA (by decide +kernel), rfl, plainFor_of_name ow_11.1, ow_11.2.1, ow_11.2.2, by decide +kernel⟩, imA (by decide +kernel), slA (by decide +kernel), by decide +kernel⟩
set_option maxRecDepth 100000 in
theorem ca_372 : caV 372 := ⟨⟨cdB (by decide +kernel), inA (by decide +kernel), rfl, plainFor_of_name ow_11.1, ow_11.2.1, ow_11.2.2, by decide +kernel⟩, imA (by decide +kernel), slA (by decide +kernel), by decide +kernel⟩
set_option maxRecDepth 100000 in
theorem ca_373 : caV 373 := ⟨⟨cdB (by decide +kernel), inA (by decide +kernel), rfl, plainFor_of_name ow_11.1, ow_11.2.1, ow_11.2.2, by decide +kernel⟩, imA (by decide +kernel), slA (by decide +kernel), by decide +kernel⟩
set_option maxRecDepth 100000 in
theorem ca_374 : caV 374 := ⟨⟨cdB (by decide +kernel), inA (by decide +kernel), rfl, plainFor_of_name ow_11.1, ow_11.2.1, ow_11.2.2, by decide +kernel⟩, imA (by decide +kernel), slA (by decide +kernel), by decide +kernel⟩
set_option maxRecDepth 100000 in
theorem ca_375 : caV 375 := ⟨⟨cdB (by decide +kernel), inA (by decide +kernel), rfl, plainFor_of_name ow_11.1, ow_11.2.1, ow_11.2.2, by decide +kernel⟩, imA (by decide +kernel), slA (by decide +kernel), by decide +kernel⟩
set_option maxRecDepth 100000 in
theorem ca_376 : caV 376 := ⟨⟨cdB (by decide +kernel), inA (by decide +kernel), rfl, plainFor_of_name ow_11.1, ow_11.2.1, ow_11.2.2, by decide +kernel⟩, imA (by decide +kernel), slA (by decide +kernel), by decide +kernel⟩
set_option maxRecDepth 100000 in
theorem ca_377 : caV 377 := ⟨⟨cdB (by decide +kernel), inA (by decide +kernel), rfl, plainFor_of_name ow_11.1, ow_11.2.1, ow_11.2.2, by decide +kernel⟩, imA (by decide +kernel), slA (by decide +kernel), by decide +kernel⟩
set_option maxRecDepth 100000 in
theorem ca_378 : caS 378 := ⟨⟨cdB (by decide +kernel), inA (by decide +kernel), rfl, plainFor_of_name ow_11.1, ow_11.2.1, ow_11.2.2, by decide +kernel⟩, isA (by decide +kernel)⟩
set_option maxRecDepth 100000 in
theorem ca_379 : caV 379 := ⟨⟨cdB (by decide +kernel), inA (by decide +kernel), rfl, plainFor_of_name ow_11.1, ow_11.2.1, ow_11.2.2, by decide +kernel⟩, imA (by decide +kernel), slA (by decide +kernel), by decide +kernel⟩
set_option maxRecDepth 100000 in
theorem ca_380 : caV 380 := ⟨⟨cdB (by decide +kernel), inA (by decide +kernel), rfl, plainFor_of_name ow_11.1, ow_11.2.1, ow_11.2.2, by decide +kernel⟩, imA (by decide +kernel), slA (by decide +kernel), by decide +kernel⟩
set_option maxRecDepth 100000 in
theorem ca_381 : caV 381 := ⟨⟨cdB (by decide +kernel), inA (by decide +kernel), rfl, plainFor_of_name ow_11.1, ow_11.2.1, ow_11.2.2, by decide +kernel⟩, imA (by decide +kernel), slA (by decide +kernel), by decide +kernel⟩
set_option maxRecDepth 100000 in
theorem ca_382 : caV 382 := ⟨⟨cdB (by decide +kernel), inA (by decide +kernel), rfl, plainFor_of_name ow_11.1, ow_11.2.1, ow_11.2.2, by decide +kernel⟩, imA (by decide +kernel), slA (by decide +kernel), by decide +kernel⟩
set_option maxRecDepth 100000 in
theorem ca_383 : caV 383 := ⟨⟨cdB (by decide +kernel), inA (by decide +kernel), rfl, plainFor_of_name ow_11.1, ow_11.2.1, ow_11.2.2, by decide +kernel⟩, imA (by decide +kernel), slA (by decide +kernel), by decide +kernel⟩
set_option maxRecDepth 100000 in
theorem ca_384 : caV 384 := ⟨⟨cdB (by decide +kernel), inA (by decide +kernel), rfl, plainFor_of_name ow_11.1, ow_11.2.1, ow_11.2.2, by decide +kernel⟩, imA (by decide +kernel), slA (by decide +kernel), by decide +kernel⟩
set_option maxRecDepth 100000 in
theorem ca_385 : caV 385 := ⟨⟨cdB (by decide +kernel), inA (by decide +kernel), rfl, plainFor_of_name ow_11.1, ow_11.2.1, ow_11.2.2, by decide +kernel⟩, imA (by decide +kernel), slA (by decide +kernel), by decide +kernel⟩
set_option maxRecDepth 100000 in
theorem ca_386 : caV 386 := ⟨⟨cdB (by decide +kernel), inA (by decide +kernel), rfl, plainFor_of_name ow_11.1, ow_11.2.1, ow_11.2.2, by decide +kernel⟩, imA (by decide +kernel), slA (by decide +kernel), by decide +kernel⟩
set_option maxRecDepth 100000 in
theorem ca_387 : caV 387 := ⟨⟨cdB (by decide +kernel), inA (by decide +kernel), rfl, plainFor_of_name ow_11.1, ow_11.2.1, ow_11.2.2, by decide +kernel⟩, imA (by decide +kernel), slA (by decide +kernel), by decide +kernel⟩
set_option maxRecDepth 100000 in
theorem ca_388 : caV 388 := ⟨⟨cdB (by decide +kernel), inA (by decide +kernel), rfl, plainFor_of_name ow_11.1, ow_11.2.1, ow_11.2.2, by decide +kernel⟩, imA (by decide +kernel), slA (by decide +kernel), by decide +kernel⟩
set_option maxRecDepth 100000 in
theorem ca_389 : caS 389 := ⟨⟨cdB (by decide +kernel), inA (by decide +kernel), rfl, plainFor_of_name ow_11.1, ow_11.2.1, ow_11.2.2, by decide +kernel⟩, isA (by decide +kernel)⟩
set_option maxRecDepth 100000 in
theorem ca_390 : caV 390 := ⟨⟨cdB (by decide +kernel), inA (by decide +kernel), rfl, plainFor_of_name ow_11.1, ow_11.2.1, ow_11.2.2, by decide +kernel⟩, imA (by decide +kernel), slA (by decide +kernel), by decide +kernel⟩
set_option maxRecDepth 100000 in
theorem ca_391 : caV 391 := ⟨⟨cdB (by decide +kernel), inA (by decide +kernel), rfl, plainFor_of_name ow_11.1, ow_11.2.1, ow_11.2.2, by decide +kernel⟩, imA (by decide +kernel), slA (by decide +kernel), by decide +kernel⟩
set_option maxRecDepth 100000 in
theorem ca_392 : caV 392 := ⟨⟨cdB (by decide +kernel), inA (by decide +kernel), rfl, plainFor_of_name ow_11.1, ow_11.2.1, ow_11.2.2, by decide +kernel⟩, imA (by decide +kernel), slA (by decide +kernel), by decide +kernel⟩
set_option maxRecDepth 100000 in
theorem ca_393 : caV 393 := ⟨⟨cdB (by decide +kernel), inA (by decide +kernel), rfl, plainFor_of_name ow_11.1, ow_11.2.1, ow_11.2.2, by decide +kernel⟩, imA (by decide +kernel), slA (by decide +kernel), by decide +kernel⟩
set_option maxRecDepth 100000 in
theorem ca_394 : caV 394 := ⟨⟨cdB (by decide +kernel), inA (by decide +kernel), rfl, plainFor_of_name ow_11.1, ow_11.2.1, ow_11.2.2, by decide +kernel⟩, imA (by decide +kernel), slA (by decide +kernel), by decide +kernel⟩
set_option maxRecDepth 100000 in
theorem ca_395 : caV 395 := ⟨⟨cdB (by decide +kernel), inA (by decide +kernel), rfl, plainFor_of_name ow_11.1, ow_11.2.1, ow_11.2.2, by decide +kernel⟩, imA (by decide +kernel), slA (by decide +kernel), by decide +kernel⟩
set_option maxRecDepth 100000 in
theorem ca_396 : caS 396 := ⟨⟨cdB (by decide +kernel), inA (by decide +kernel), rfl, plainFor_of_name ow_11.1, ow_11.2.1, ow_11.2.2, by decide +kernel⟩, isA (by decide +kernel)⟩
set_option maxRecDepth 100000 in
theorem ca_397 : caV 397 := ⟨⟨cdB (by decide +kernel), inA (by decide +kernel), rfl, plainFor_of_name ow_11.1, ow_11.2.1, ow_11.2.2, by decide +kernel⟩, imA (by decide +kernel), slA (by decide +kernel), by decide +kernel⟩
set_option maxRecDepth 100000 in
theorem ca_398 : caV 398 := ⟨⟨cdB (by decide +kernel), inA (by decide +kernel), rfl, plainFor_of_name ow_11.1, ow_11.2.1, ow_11.2.2, by decide +kernel⟩, imA (by decide +kernel), slA (by decide +kernel), by decide +kernel⟩
set_option maxRecDepth 100000 in
theorem ca_399 : caV 399 := ⟨⟨cdB (by decide +kernel), inA (by decide +kernel), rfl, plainFor_of_name ow_11.1, ow_11.2.1, ow_11.2.2, by decide +kernel⟩, imA (by decide +kernel), slA (by decide +kernel), by decide +kernel⟩
set_option maxRecDepth 100000 in
theorem ca_400 : caV 400 := ⟨⟨cdB (by decide +kernel), inA (by decide +kernel), rfl, plainFor_of_name ow_11.1, ow_11.2.1, ow_11.2.2, by decide +kernel⟩, imA (by decide +kernel), slA (by decide +kernel), by decide +kernel⟩
set_option maxRecDepth 100000 in
theorem ca_401 : caV 401 := ⟨⟨cdB (by decide +kernel), inA (by decide +kernel), rfl, plainFor_of_name ow_11.1, ow_11.2.1, ow_11.2.2, by decide +kernel⟩, imA (by decide +kernel), slA (by decide +kernel), by decide +kernel⟩
set_option maxRecDepth 100000 in
theorem ca_402 : caV 402 := ⟨⟨cdB (by decide +kernel), inA (by decide +kernel), rfl, plainFor_of_name ow_11.1, ow_11.2.1, ow_11.2.2, by decide +kernel⟩, imA (by decide +kernel), slA (by decide +kernel), by decide +kernel⟩
set_option maxRecDepth 100000 in
theorem ca_403 : caS 403 := ⟨⟨cdB (by decide +kernel), inA (by decide +kernel), rfl, plainFor_of_name ow_11.1, ow_11.2.1, ow_11.2.2, by decide +kernel⟩, isA (by decide +kernel)⟩
set_option maxRecDepth 100000 in
theorem ca_404 : caS 404 := ⟨⟨cdB (by decide +kernel), inA (by decide +kernel), rfl, plainFor_of_name ow_11.1, ow_11.2.1, ow_11.2.2, by decide +kernel⟩, isA (by decide +kernel)⟩
set_option maxRecDepth 100000 in
theorem ca_405 : caV 405 := ⟨⟨cdB (by decide +kernel), inA (by decide +kernel), rfl, plainFor_of_name ow_11.1, ow_11.2.1, ow_11.2.2, by decide +kernel⟩, imA (by decide +kernel), slA (by decide +kernel), by decide +kernel⟩
set_option maxRecDepth 100000 in
theorem ca_406 : caV 406 := ⟨⟨cdB (by decide +kernel), inA (by decide +kernel), rfl, plainFor_of_name ow_11.1, ow_11.2.1, ow_11.2.2, by decide +kernel⟩, imA (by decide +kernel), slA (by decide +kernel), by decide +kernel⟩
set_option maxRecDepth 100000 in
theorem ca_407 : caV 407 := ⟨⟨cdB (by decide +kernel), inA (by decide +kernel), rfl, plainFor_of_name ow_11.1, ow_11.2.1, ow_11.2.2, by decide +kernel⟩, imA (by decide +kernel), slA (by decide +kernel), by decide +kernel⟩
set_option maxRecDepth 100000 in
theorem ca_408 : caV 408 := ⟨⟨cdB (by decide +kernel), inA (by decide +kernel), rfl, plainFor_of_name ow_11.1, ow_11.2.1, ow_11.2.2, by decide +kernel⟩, imA (by decide +kernel), slA (by decide +kernel), by decide +kernel⟩
set_option maxRecDepth 100000 in
theorem ca_409 : caV 409 := ⟨⟨cdB (by decide +kernel), inA (by decide +kernel), rfl, plainFor_of_name ow_11.1, ow_11.2.1, ow_11.2.2, by decide +kernel⟩, imA (by decide +kernel), slA (by decide +kernel), by decide +kernel⟩
set_option maxRecDepth 100000 in
theorem ca_410 : caV 410 := ⟨⟨cdB (by decide +kernel), inA (by decide +kernel), rfl, plainFor_of_name ow_11.1, ow_11.2.1, ow_11.2.2, by decide +kernel⟩, imA (by decide +kernel), slA (by decide +kernel), by decide +kernel⟩
set_option maxRecDepth 100000 in
theorem ca_411 : caV 411 := ⟨⟨cdB (by decide +kernel), inA (by decide +kernel), rfl, plainFor_of_name ow_11.1, ow_11.2.1, ow_11.2.2, by decide +kernel⟩, imA (by decide +kernel), slA (by decide +kernel), by decide +kernel⟩
set_option maxRecDepth 100000 in
theorem ca_412 : caV 412 := ⟨⟨cdB (by decide +kernel), inA (by decide +kernel), rfl, plainFor_of_name ow_11.1, ow_11.2.1, ow_11.2.2, by decide +kernel⟩, imA (by decide +kernel), slA (by decide +kernel), by decide +kernel⟩
set_option maxRecDepth 100000 in
theorem ca_413 : caV 413 := ⟨⟨cdB (by decide +kernel), inA (by decide +kernel), rfl, plainFor_of_name ow_11.1, ow_11.2.1, ow_11.2.2, by decide +kernel⟩, imA (by decide +kernel), slA (by decide +kernel), by decide +kernel⟩
set_option maxRecDepth 100000 in
theorem ca_414 : caV 414 := ⟨⟨cdB (by decide +kernel), inA (by decide +kernel), rfl, plainFor_of_name ow_11.1, ow_11.2.1, ow_11.2.2, by decide +kernel⟩, imA (by decide +kernel), slA (by decide +kernel), by decide +kernel⟩
set_option maxRecDepth 100000 in
theorem ca_415 : caV 415 := ⟨⟨cdB (by decide +kernel), inA (by decide +kernel), rfl, plainFor_of_name ow_11.1, ow_11.2.1, ow_11.2.2, by decide +kernel⟩, imA (by decide +kernel), slA (by decide +kernel), by decide +kernel⟩
set_option maxRecDepth 100000 in
theorem ca_416 : caV 416 := ⟨⟨cdB (by decide +kernel), inA (by decide +kernel), rfl, plainFor_of_name ow_11.1, ow_11.2.1, ow_11.2.2, by decide +kernel⟩, imA (by decide +kernel), slA (by decide +kernel), by decide +kernel⟩
set_option maxRecDepth 100000 in
theorem ca_417 : caV 417 := ⟨⟨cdB (by decide +kernel), inA (by decide +kernel), rfl, plainFor_of_name ow_11.1, ow_11.2.1, ow_11.2.2, by decide +kernel⟩, imA (by decide +kernel), slA (by decide +kernel), by decide +kernel⟩
set_option maxRecDepth 100000 in
theorem ca_418 : caV 418 := ⟨⟨cdB (by decide +kernel), inA (by decide +kernel), rfl, plainFor_of_name ow_11.1, ow_11.2.1, ow_11.2.2, by decide +kernel⟩, imA (by decide +kernel), slA (by decide +kernel), by decide +kernel⟩
set_option maxRecDepth 100000 in
theorem ca_419 : caV 419 := ⟨⟨cdB (by decide +kernel), inA (by decide +kernel), rfl, plainFor_of_name ow_11.1, ow_11.2.1, ow_11.2.2, by decide +kernel⟩, imA (by decide +kernel), slA (by decide +kernel), by decide +kernel⟩
set_option maxRecDepth 100000 in
theorem ca_420 : caV 420 := ⟨⟨cdB (by decide +kernel), inA (by decide +kernel), rfl, plainFor_of_name ow_11.1, ow_11.2.1, ow_11.2.2, by decide +kernel⟩, imA (by decide +kernel), slA (by decide +kernel), by decide +kernel⟩
set_option maxRecDepth 100000 in
theorem ca_421 : caV 421 := ⟨⟨cdB (by decide +kernel), inA (by decide +kernel), rfl, plainFor_of_name ow_11.1, ow_11.2.1, ow_11.2.2, by decide +kernel⟩, imA (by decide +kernel), slA (by decide +kernel), by decide +kernel⟩
set_option maxRecDepth 100000 in
theorem ca_422 : caV 422 := ⟨⟨cdB (by decide +kernel), inA (by decide +kernel), rfl, plainFor_of_name ow_11.1, ow_11.2.1, ow_11.2.2, by decide +kernel⟩, imA (by decide +kernel), slA (by decide +kernel), by decide +kernel⟩
set_option maxRecDepth 100000 in
theorem ca_423 : caS 423 := ⟨⟨cdB (by decide +kernel), inA (by decide +kernel), rfl, plainFor_of_name ow_11.1, ow_11.2.1, ow_11.2.2, by decide +kernel⟩, isA (by decide +kernel)⟩
set_option maxRecDepth 100000 in
theorem ca_424 : caS 424 := ⟨⟨cdB (by decide +kernel), inA (by decide +kernel), rfl, plainFor_of_name ow_11.1, ow_11.2.1, ow_11.2.2, by decide +kernel⟩, isA (by decide +kernel)⟩
set_option maxRecDepth 100000 in
theorem ca_425 : caS 425 := ⟨⟨cdB (by decide +kernel), inA (by decide +kernel), rfl, plainFor_of_name ow_11.1, ow_11.2.1, ow_11.2.2, by decide +kernel⟩, isA (by decide +kernel)⟩
set_option maxRecDepth 100000 in
theorem ca_426 : caS 426 := ⟨⟨cdB (by decide +kernel), inA (by decide +kernel), rfl, plainFor_of_name ow_11.1, ow_11.2.1, ow_11.2.2, by decide +kernel⟩, isA (by decide +kernel)⟩
set_option maxRecDepth 100000 in
theorem ca_427 : caS 427 := ⟨⟨cdB (by decide +kernel), inA (by decide +kernel), rfl, plainFor_of_name ow_11.1, ow_11.2.1, ow_11.2.2, by decide +kernel⟩, isA (by decide +kernel)⟩
set_option maxRecDepth 100000 in
theorem ca_428 : caS 428 := ⟨⟨cdB (by decide +kernel), inA (by decide +kernel), rfl, plainFor_of_name ow_11.1, ow_11.2.1, ow_11.2.2, by decide +kernel⟩, isA (by decide +kernel)⟩
set_option maxRecDepth 100000 in
theorem ca_429 : caS 429 := ⟨⟨cdB (by decide +kernel), inA (by decide +kernel), rfl, plainFor_of_name ow_11.1, ow_11.2.1, ow_11.2.2, by decide +kernel⟩, isA (by decide +kernel)⟩
set_option maxRecDepth 100000 in
theorem ca_430 : caV 430 := ⟨⟨cdB (by decide +kernel), inA (by decide +kernel), rfl, plainFor_of_name ow_11.1, ow_11.2.1, ow_11.2.2, by decide +kernel⟩, imA (by decide +kernel), slA (by decide +kernel), by decide +kernel⟩
set_option maxRecDepth 100000 in
theorem ca_431 : caV 431 := ⟨⟨cdB (by decide +kernel), inA (by decide +kernel), rfl, plainFor_of_name ow_11.1, ow_11.2.1, ow_11.2.2, by decide +kernel⟩, imA (by decide +kernel), slA (by decide +kernel), by decide +kernel⟩
set_option maxRecDepth 100000 in
theorem ca_432 : caV 432 := ⟨⟨cdB (by decide +kernel), inA (by decide +kernel), rfl, plainFor_of_name ow_11.1, ow_11.2.1, ow_11.2.2, by decide +kernel⟩, imA (by decide +kernel), slA (by decide +kernel), by decide +kernel⟩
set_option maxRecDepth 100000 in
theorem ca_433 : caV 433 := ⟨⟨cdB (by decide +kernel), inA (by decide +kernel), rfl, plainFor_of_name ow_11.1, ow_11.2.1, ow_11.2.2, by decide +kernel⟩, imA (by decide +kernel), slA (by decide +kernel), by decide +kernel⟩
set_option maxRecDepth 100000 in
theorem ca_434 : caV 434 := ⟨⟨cdB (by decide +kernel), inA (by decide +kernel), rfl, plainFor_of_name ow_11.1, ow_11.2.1, ow_11.2.2, by decide +kernel⟩, imA (by decide +kernel), slA (by decide +kernel), by decide +kernel⟩
set_option maxRecDepth 100000 in
theorem ca_435 : caV 435 := ⟨⟨cdB (by decide +kernel), inA (by decide +kernel), rfl, plainFor_of_name ow_11.1, ow_11.2.1, ow_11.2.2, by decide +kernel⟩, imA (by decide +kernel), slA (by decide +kernel), by decide +kernel⟩
set_option maxRecDepth 100000 in
theorem ca_436 : caV 436 := ⟨⟨cdB (by decide +kernel), inA (by decide +kernel), rfl, plainFor_of_name ow_11.1, ow_11.2.1, ow_11.2.2, by decide +kernel⟩, imA (by decide +kernel), slA (by decide +kernel), by decide +kernel⟩
set_option maxRecDepth 100000 in
theorem ca_437 : caV 437 := ⟨⟨cdB (by decide +kernel), inA (by decide +kernel), rfl, plainFor_of_name ow_11.1, ow_11.2.1, ow_11.2.2, by decide +kernel⟩, imA (by decide +kernel), slA (by decide +kernel), by decide +kernel⟩
set_option maxRecDepth 100000 in
theorem ca_438 : caV 438 := ⟨⟨cdB (by decide +kernel), inA (by decide +kernel), rfl, plainFor_of_name ow_11.1, ow_11.2.1, ow_11.2.2, by decide +kernel⟩, imA (by decide +kernel), slA (by decide +kernel), by decide +kernel⟩
set_option maxRecDepth 100000 in
theorem ca_439 : caV 439 := ⟨⟨cdB (by decide +kernel), inA (by decide +kernel), rfl, plainFor_of_name ow_11.1, ow_11.2.1, ow_11.2.2, by decide +kernel⟩, imA (by decide +kernel), slA (by decide +kernel), by decide +kernel⟩
set_option maxRecDepth 100000 in
theorem ca_440 : caS 440 := ⟨⟨cdB (by decide +kernel), inA (by decide +kernel), rfl, plainFor_of_name ow_11.1, ow_11.2.1, ow_11.2.2, by decide +kernel⟩, isA (by decide +kernel)⟩
set_option maxRecDepth 100000 in
theorem ca_441 : caS 441 := ⟨⟨cdB (by decide +kernel), inA (by decide +kernel), rfl, plainFor_of_name ow_11.1, ow_11.2.1, ow_11.2.2, by decide +kernel⟩, isA (by decide +kernel)⟩
set_option maxRecDepth 100000 in
theorem ca_442 : caV 442 := ⟨⟨cdB (by decide +kernel), inA (by decide +kernel), rfl, plainFor_of_name ow_11.1, ow_11.2.1, ow_11.2.2, by decide +kernel⟩, imA (by decide +kernel), slA (by decide +kernel), by decide +kernel⟩
set_option maxRecDepth 100000 in
theorem ca_443 : caV 443 := ⟨⟨cdB (by decide +kernel), inA (by decide +kernel), rfl, plainFor_of_name ow_11.1, ow_11.2.1, ow_11.2.2, by decide +kernel⟩, imA (by decide +kernel), slA (by decide +kernel), by decide +kernel⟩
set_option maxRecDepth 100000 in
theorem ca_444 : caS 444 := ⟨⟨cdB (by decide +kernel), inA (by decide +kernel), rfl, plainFor_of_name ow_11.1, ow_11.2.1, ow_11.2.2, by decide +kernel⟩, isA (by decide +kernel)⟩
set_option maxRecDepth 100000 in
theorem ca_445 : caS 445 := ⟨⟨cdB (by decide +kernel), inA (by decide +kernel), rfl, plainFor_of_name ow_11.1, ow_11.2.1, ow_11.2.2, by decide +kernel⟩, isA (by decide +kernel)⟩
set_option maxRecDepth 100000 in
theorem ca_446 : caS 446 := ⟨⟨cdB (by decide +kernel), inA (by decide +kernel), rfl, plainFor_of_name ow_11.1, ow_11.2.1, ow_11.2.2, by decide +kernel⟩, isA (by decide +kernel)⟩
set_option maxRecDepth 100000 in
theorem ca_447 : caV 447 := ⟨⟨cdB (by decide +kernel), inA (by decide +kernel), rfl, plainFor_of_name ow_11.1, ow_11.2.1, ow_11.2.2, by decide +kernel⟩, imA (by decide +kernel), slA (by decide +kernel), by decide +kernel⟩
set_option maxRecDepth 100000 in
theorem ca_448 : caV 448 := ⟨⟨cdB (by decide +kernel), inA (by decide +kernel), rfl, plainFor_of_name ow_11.1, ow_11.2.1, ow_11.2.2, by decide +kernel⟩, imA (by decide +kernel), slA (by decide +kernel), by decide +kernel⟩
set_option maxRecDepth 100000 in
theorem ca_449 : caV 449 := ⟨⟨cdB (by decide +kernel), inA (by decide +kernel), rfl, plainFor_of_name ow_11.1, ow_11.2.1, ow_11.2.2, by decide +kernel⟩, imA (by decide +kernel), slA (by decide +kernel), by decide +kernel⟩
set_option maxRecDepth 100000 in
theorem ca_450 : caS 450 := ⟨⟨cdB (by decide +kernel), inA (by decide +kernel), rfl, plainFor_of_name ow_11.1, ow_11.2.1, ow_11.2.2, by decide +kernel⟩, isA (by decide +kernel)⟩
set_option maxRecDepth 100000 in
theorem ca_451 : caV 451 := ⟨⟨cdB (by decide +kernel), inA (by decide +kernel), rfl, plainFor_of_name ow_11.1, ow_11.2.1, ow_11.2.2, by decide +kernel⟩, imA (by decide +kernel), slA (by decide +kernel), by decide +kernel⟩
set_option maxRecDepth 100000 in
theorem ca_452 : caV 452 := ⟨⟨cdB (by decide +kernel), inA (by decide +kernel), rfl, plainFor_of_name ow_11.1, ow_11.2.1, ow_11.2.2, by decide +kernel⟩, imA (by decide +kernel), slA (by decide +kernel), by decide +kernel⟩
set_option maxRecDepth 100000 in
theorem ca_453 : caV 453 := ⟨⟨cdB (by decide +kernel), inA (by decide +kernel), rfl, plainFor_of_name ow_11.1, ow_11.2.1, ow_11.2.2, by decide +kernel⟩, imA (by decide +kernel), slA (by decide +kernel), by decide +kernel⟩
set_option maxRecDepth 100000 in
theorem ca_454 : caV 454 := ⟨⟨cdB (by decide +kernel), inA (by decide +kernel), rfl, plainFor_of_name ow_11.1, ow_11.2.1, ow_11.2.2, by decide +kernel⟩, imA (by decide +kernel), slA (by decide +kernel), by decide +kernel⟩
set_option maxRecDepth 100000 in
theorem ca_455 : caV 455 := ⟨⟨cdB (by decide +kernel), inA (by decide +kernel), rfl, plainFor_of_name ow_11.1, ow_11.2.1, ow_11.2.2, by decide +kernel⟩, imA (by decide +kernel), slA (by decide +kernel), by decide +kernel⟩
set_option maxRecDepth 100000 in
theorem ca_456 : caV 456 := ⟨⟨cdB (by decide +kernel), inA (by decide +kernel), rfl, plainFor_of_name ow_11.1, ow_11.2.1, ow_11.2.2, by decide +kernel⟩, imA (by decide +kernel), slA (by decide +kernel), by decide +kernel⟩
set_option maxRecDepth 100000 in
theorem ca_457 : caV 457 := ⟨⟨cdB (by decide +kernel), inA (by decide +kernel), rfl, plainFor_of_name ow_11.1, ow_11.2.1, ow_11.2.2, by decide +kernel⟩, imA (by decide +kernel), slA (by decide +kernel), by decide +kernel⟩
set_option maxRecDepth 100000 in
theorem ca_458 : caV 458 := ⟨⟨cdB (by decide +kernel), inA (by decide +kernel), rfl, plainFor_of_name ow_11.1, ow_11.2.1, ow_11.2.2, by decide +kernel⟩, imA (by decide +kernel), slA (by decide +kernel), by decide +kernel⟩
set_option maxRecDepth 100000 in
theorem ca_459 : caV 459 := ⟨⟨cdB (by decide +kernel), inA (by decide +kernel), rfl, plainFor_of_name ow_11.1, ow_11.2.1, ow_11.2.2, by decide +kernel⟩, imA (by decide +kernel), slA (by decide +kernel), by decide +kernel⟩
set_option maxRecDepth 100000 in
theorem ca_460 : caV 460 := ⟨⟨cdB (by decide +kernel), inA (by decide +kernel), rfl, plainFor_of_name ow_11.1, ow_11.2.1, ow_11.2.2, by decide +kernel⟩, imA (by decide +kernel), slA (by decide +kernel), by decide +kernel⟩
set_option maxRecDepth 100000 in
theorem ca_461 : caV 461 := ⟨⟨cdB (by decide +kernel), inA (by decide +kernel), rfl, plainFor_of_name ow_11.1, ow_11.2.1, ow_11.2.2, by decide +kernel⟩, imA (by decide +kernel), slA (by decide +kernel), by decide +kernel⟩
set_option maxRecDepth 100000 in
theorem ca_462 : caV 462 := ⟨⟨cdB (by decide +kernel), inA (by decide +kernel), rfl, plainFor_of_name ow_11.1, ow_11.2.1, ow_11.2.2, by decide +kernel⟩, imA (by decide +kernel), slA (by decide +kernel), by decide +kernel⟩
set_option maxRecDepth 100000 in
theorem ca_463 : caV 463 := ⟨⟨cdB (by decide +kernel), inA (by decide +kernel), rfl, plainFor_of_name ow_11.1, ow_11.2.1, ow_11.2.2, by decide +kernel⟩, imA (by decide +kernel), slA (by decide +kernel), by decide +kernel⟩
set_option maxRecDepth 100000 in
theorem ca_464 : caV 464 := ⟨⟨cdB (by decide +kernel), inA (by decide +kernel), rfl, plainFor_of_name ow_11.1, ow_11.2.1, ow_11.2.2, by decide +kernel⟩, imA (by decide +kernel), slA (by decide +kernel), by decide +kernel⟩
set_option maxRecDepth 100000 in
theorem ca_465 : caV 465 := ⟨⟨cdB (by decide +kernel), inA (by decide +kernel), rfl, plainFor_of_name ow_11.1, ow_11.2.1, ow_11.2.2, by decide +kernel⟩, imA (by decide +kernel), slA (by decide +kernel), by decide +kernel⟩
set_option maxRecDepth 100000 in
theorem ca_466 : caV 466 := ⟨⟨cdB (by decide +kernel), inA (by decide +kernel), rfl, plainFor_of_name ow_11.1, ow_11.2.1, ow_11.2.2, by decide +kernel⟩, imA (by decide +kernel), slA (by decide +kernel), by decide +kernel⟩
set_option maxRecDepth 100000 in
theorem ca_467 : caV 467 := ⟨⟨cdB (by decide +kernel), inA (by decide +kernel), rfl, plainFor_of_name ow_11.1, ow_11.2.1, ow_11.2.2, by decide +kernel⟩, imA (by decide +kernel), slA (by decide +kernel), by decide +kernel⟩
set_option maxRecDepth 100000 in
theorem ca_468 : caV 468 := ⟨⟨cdB (by decide +kernel), inA (by decide +kernel), rfl, plainFor_of_name ow_11.1, ow_11.2.1, ow_11.2.2, by decide +kernel⟩, imA (by decide +kernel), slA (by decide +kernel), by decide +kernel⟩
set_option maxRecDepth 100000 in
theorem ca_469 : caV 469 := ⟨⟨cdB (by decide +kernel), inA (by decide +kernel), rfl, plainFor_of_name ow_11.1, ow_11.2.1, ow_11.2.2, by decide +kernel⟩, imA (by decide +kernel), slA (by decide +kernel), by decide +kernel⟩
set_option maxRecDepth 100000 in
theorem ca_470 : caV 470 := ⟨⟨cdB (by decide +kernel), inA (by decide +kernel), rfl, plainFor_of_name ow_11.1, ow_11.2.1, ow_11.2.2, by decide +kernel⟩, imA (by decide +kernel), slA (by decide +kernel), by decide +kernel⟩
set_option maxRecDepth 100000 in
theorem ca_471 : caV 471 := ⟨⟨cdB (by decide +kernel), inA (by decide +kernel), rfl, plainFor_of_name ow_11.1, ow_11.2.1, ow_11.2.2, by decide +kernel⟩, imA (by decide +kernel), slA (by decide +kernel), by decide +kernel⟩
set_option maxRecDepth 100000 in
theorem ca_472 : caV 472 := ⟨⟨cdB (by decide +kernel), inA (by decide +kernel), rfl, plainFor_of_name ow_11.1, ow_11.2.1, ow_11.2.2, by decide +kernel⟩, imA (by decide +kernel), slA (by decide +kernel), by decide +kernel⟩
set_option maxRecDepth 100000 in
theorem ca_473 : caV 473 := ⟨⟨cdB (by decide +kernel), inA (by decide +kernel), rfl, plainFor_of_name ow_11.1, ow_11.2.1, ow_11.2.2, by decide +kernel⟩, imA (by decide +kernel), slA (by decide +kernel), by decide +kernel⟩
set_option maxRecDepth 100000 in
theorem ca_474 : caV 474 := ⟨⟨cdB (by decide +kernel), inA (by decide +kernel), rfl, plainFor_of_name ow_11.1, ow_11.2.1, ow_11.2.2, by decide +kernel⟩, imA (by decide +kernel), slA (by decide +kernel), by decide +kernel⟩
set_option maxRecDepth 100000 in
theorem ca_475 : caV 475 := ⟨⟨cdB (by decide +kernel), inA (by decide +kernel), rfl, plainFor_of_name ow_11.1, ow_11.2.1, ow_11.2.2, by decide +kernel⟩, imA (by decide +kernel), slA (by decide +kernel), by decide +kernel⟩
set_option maxRecDepth 100000 in
theorem ca_476 : caS 476 := ⟨⟨cdB (by decide +kernel), inA (by decide +kernel), rfl, plainFor_of_name ow_11.1, ow_11.2.1, ow_11.2.2, by decide +kernel⟩, isA (by decide +kernel)⟩
set_option maxRecDepth 100000 in
theorem ca_477 : caS 477 := ⟨⟨cdB (by decide +kernel), inA (by decide +kernel), rfl, plainFor_of_name ow_11.1, ow_11.2.1, ow_11.2.2, by decide +kernel⟩, isA (by decide +kernel)⟩
set_option maxRecDepth 100000 in
theorem ca_478 : caV 478 := ⟨⟨cdB (by decide +kernel), inA (by decide +kernel), rfl, plainFor_of_name ow_11.1, ow_11.2.1, ow_11.2.2, by decide +kernel⟩, imA (by decide +kernel), slA (by decide +kernel), by decide +kernel⟩
set_option maxRecDepth 100000 in
theorem ca_479 : caS 479 := ⟨⟨cdB (by decide +kernel), inA (by decide +kernel), rfl, plainFor_of_name ow_11.1, ow_11.2.1, ow_11.2.2, by decide +kernel⟩, isA (by decide +kernel)⟩
set_option maxRecDepth 100000 in
theorem ca_480 : caV 480 := ⟨⟨cdB (by decide +kernel), inA (by decide +kernel), rfl, plainFor_of_name ow_11.1, ow_11.2.1, ow_11.2.2, by decide +kernel⟩, imA (by decide +kernel), slA (by decide +kernel), by decide +kernel⟩
set_option maxRecDepth 100000 in
theorem ca_481 : caV 481 := ⟨⟨cdB (by decide +kernel), inA (by decide +kernel), rfl, plainFor_of_name ow_11.1, ow_11.2.1, ow_11.2.2, by decide +kernel⟩, imA (by decide +kernel), slA (by decide +kernel), by decide +kernel⟩
set_option maxRecDepth 100000 in
theorem ca_482 : caV 482 := ⟨⟨cdB (by decide +kernel), inA (by decide +kernel), rfl, plainFor_of_name ow_11.1, ow_11.2.1, ow_11.2.2, by decide +kernel⟩, imA (by decide +kernel), slA (by decide +kernel), by decide +kernel⟩
set_option maxRecDepth 100000 in
theorem ca_483 : caV 483 := ⟨⟨cdB (by decide +kernel), inA (by decide +kernel), rfl, plainFor_of_name ow_11.1, ow_11.2.1, ow_11.2.2, by decide +kernel⟩, imA (by decide +kernel), slA (by decide +kernel), by decide +kernel⟩
set_option maxRecDepth 100000 in
theorem ca_484 : caV 484 := ⟨⟨cdB (by decide +kernel), inA (by decide +kernel), rfl, plainFor_of_name ow_11.1, ow_11.2.1, ow_11.2.2, by decide +kernel⟩, imA (by decide +kernel), slA (by decide +kernel), by decide +kernel⟩
set_option maxRecDepth 100000 in
theorem ca_485 : caV 485 := ⟨⟨cdB (by decide +kernel), inA (by decide +kernel), rfl, plainFor_of_name ow_11.1, ow_11.2.1, ow_11.2.2, by decide +kernel⟩, imA (by decide +kernel), slA (by decide +kernel), by decide +kernel⟩
set_option maxRecDepth 100000 in
theorem ca_486 : caV 486 := ⟨⟨cdB (by decide +kernel), inA (by decide +kernel), rfl, plainFor_of_name ow_11.1, ow_11.2.1, ow_11.2.2, by decide +kernel⟩, imA (by decide +kernel), slA (by decide +kernel), by decide +kernel⟩
set_option maxRecDepth 100000 in
theorem ca_487 : caV 487 := ⟨⟨cdB (by decide +kernel), inA (by decide +kernel), rfl, plainFor_of_name ow_11.1, ow_11.2.1, ow_11.2.2, by decide +kernel⟩, imA (by decide +kernel), slA (by decide +kernel), by decide +kernel⟩
set_option maxRecDepth 100000 in
theorem ca_488 : caV 488 := ⟨⟨cdB (by decide +kernel), inA (by decide +kernel), rfl, plainFor_of_name ow_11.1, ow_11.2.1, ow_11.2.2, by decide +kernel⟩, imA (by decide +kernel), slA (by decide +kernel), by decide +kernel⟩
set_option maxRecDepth 100000 in
theorem ca_489 : caV 489 := ⟨⟨cdB (by decide +kernel), inA (by decide +kernel), rfl, plainFor_of_name ow_11.1, ow_11.2.1, ow_11.2.2, by decide +kernel⟩, imA (by decide +kernel), slA (by decide +kernel), by decide +kernel⟩
set_option maxRecDepth 100000 in
theorem ca_490 : caV 490 := ⟨⟨cdB (by decide +kernel), inA (by decide +kernel), rfl, plainFor_of_name ow_11.1, ow_11.2.1, ow_11.2.2, by decide +kernel⟩, imA (by decide +kernel), slA (by decide +kernel), by decide +kernel⟩
set_option maxRecDepth 100000 in
theorem ca_491 : caV 491 := ⟨⟨cdB (by decide +kernel), inA (by decide +kernel), rfl, plainFor_of_name ow_11.1, ow_11.2.1, ow_11.2.2, by decide +kernel⟩, imA (by decide +kernel), slA (by decide +kernel), by decide +kernel⟩
set_option maxRecDepth 100000 in
theorem ca_492 : caV 492 := ⟨⟨cdB (by decide +kernel), inA (by decide +kernel), rfl, plainFor_of_name ow_11.1, ow_11.2.1, ow_11.2.2, by decide +kernel⟩, imA (by decide +kernel), slA (by decide +kernel), by decide +kernel⟩
set_option maxRecDepth 100000 in
theorem ca_493 : caV 493 := ⟨⟨cdB (by decide +kernel), inA (by decide +kernel), rfl, plainFor_of_name ow_11.1, ow_11.2.1, ow_11.2.2, by decide +kernel⟩, imA (by decide +kernel), slA (by decide +kernel), by decide +kernel⟩
set_option maxRecDepth 100000 in
theorem ca_494 : caV 494 := ⟨⟨cdB (by decide +kernel), inA (by decide +kernel), rfl, plainFor_of_name ow_11.1, ow_11.2.1, ow_11.2.2, by decide +kernel⟩, imA (by decide +kernel), slA (by decide +kernel), by decide +kernel⟩
set_option maxRecDepth 100000 in
theorem ca_495 : caV 495 := ⟨⟨cdB (by decide +kernel), inA (by decide +kernel), rfl, plainFor_of_name ow_11.1, ow_11.2.1, ow_11.2.2, by decide +kernel⟩, imA (by decide +kernel), slA (by decide +kernel), by decide +kernel⟩
set_option maxRecDepth 100000 in
theorem ca_496 : caV 496 := ⟨⟨cdB (by decide +kernel), inA (by decide +kernel), rfl, plainFor_of_name ow_11.1, ow_11.2.1, ow_11.2.2, by decide +kernel⟩, imA (by decide +kernel), slA (by decide +kernel), by decide +kernel⟩
set_option maxRecDepth 100000 in
theorem ca_497 : caV 497 := ⟨⟨cdB (by decide +kernel), inA (by decide +kernel), rfl, plainFor_of_name ow_11.1, ow_11.2.1, ow_11.2.2, by decide +kernel⟩, imA (by decide +kernel), slA (by decide +kernel), by decide +kernel⟩
set_option maxRecDepth 100000 in
theorem ca_498 : caV 498 := ⟨⟨cdB (by decide +kernel), inA (by decide +kernel), rfl, plainFor_of_name ow_11.1, ow_11.2.1, ow_11.2.2, by decide +kernel⟩, imA (by decide +kernel), slA (by decide +kernel), by decide +kernel⟩
set_option maxRecDepth 100000 in
theorem ca_499 : caV 499 := ⟨⟨cdB (by decide +kernel), inA (by decide +kernel), rfl, plainFor_of_name ow_11.1, ow_11.2.1, ow_11.2.2, by decide +kernel⟩, imA (by decide +kernel), slA (by decide +kernel), by decide +kernel⟩
set_option maxRecDepth 100000 in
theorem ca_500 : caV 500 := ⟨⟨cdB (by decide +kernel), inA (by decide +kernel), rfl, plainFor_of_name ow_11.1, ow_11.2.1, ow_11.2.2, by decide +kernel⟩, imA (by decide +kernel), slA (by decide +kernel), by decide +kernel⟩
set_option maxRecDepth 100000 in
theorem ca_501 : caV 501 := ⟨⟨cdB (by decide +kernel), inA (by decide +kernel), rfl, plainFor_of_name ow_11.1, ow_11.2.1, ow_11.2.2, by decide +kernel⟩, imA (by decide +kernel), slA (by decide +kernel), by decide +kernel⟩
set_option maxRecDepth 100000 in
theorem ca_502 : caV 502 := ⟨⟨cdB (by decide +kernel), inA (by decide +kernel), rfl, plainFor_of_name ow_11.1, ow_11.2.1, ow_11.2.2, by decide +kernel⟩, imA (by decide +kernel), slA (by decide +kernel), by decide +kernel⟩
set_option maxRecDepth 100000 in
theorem ca_503 : caV 503 := ⟨⟨cdB (by decide +kernel), inA (by decide +kernel), rfl, plainFor_of_name ow_11.1, ow_11.2.1, ow_11.2.2, by decide +kernel⟩, imA (by decide +kernel), slA (by decide +kernel), by decide +kernel⟩
set_option maxRecDepth 100000 in
theorem ca_504 : caV 504 := ⟨⟨cdB (by decide +kernel), inA (by decide +kernel), rfl, plainFor_of_name ow_11.1, ow_11.2.1, ow_11.2.2, by decide +kernel⟩, imA (by decide +kernel), slA (by decide +kernel), by decide +kernel⟩
set_option maxRecDepth 100000 in
theorem ca_505 : caV 505 := ⟨⟨cdB (by decide +kernel), inA (by decide +kernel), rfl, plainFor_of_name ow_11.1, ow_11.2.1, ow_11.2.2, by decide +kernel⟩, imA (by decide +kernel), slA (by decide +kernel), by decide +kernel⟩
set_option maxRecDepth 100000 in
theorem ca_506 : caV 506 := ⟨⟨cdB (by decide +kernel), inA (by decide +kernel), rfl, plainFor_of_name ow_11.1, ow_11.2.1, ow_11.2.2, by decide +kernel⟩, imA (by decide +kernel), slA (by decide +kernel), by decide +kernel⟩
set_option maxRecDepth 100000 in
theorem ca_507 : caV 507 := ⟨⟨cdB (by decide +kernel), inA (by decide +kernel), rfl, plainFor_of_name ow_11.1, ow_11.2.1, ow_11.2.2, by decide +kernel⟩, imA (by decide +kernel), slA (by decide +kernel), by decide +kernel⟩
set_option maxRecDepth 100000 in
theorem ca_508 : caS 508 := ⟨⟨cdB (by decide +kernel), inA (by decide +kernel), rfl, plainFor_of_name ow_11.1, ow_11.2.1, ow_11.2.2, by decide +kernel⟩, isA (by decide +kernel)⟩
set_option maxRecDepth 100000 in
theorem ca_509 : caV 509 := ⟨⟨cdB (by decide +kernel), inA (by decide +kernel), rfl, plainFor_of_name ow_11.1, ow_11.2.1, ow_11.2.2, by decide +kernel⟩, imA (by decide +kernel), slA (by decide +kernel), by decide +kernel⟩
set_option maxRecDepth 100000 in
theorem ca_510 : caV 510 := ⟨⟨cdB (by decide +kernel), inA (by decide +kernel), rfl, plainFor_of_name ow_11.1, ow_11.2.1, ow_11.2.2, by decide +kernel⟩, imA (by decide +kernel), slA (by decide +kernel), by decide +kernel⟩
set_option maxRecDepth 100000 in
theorem ca_511 : caV 511 := ⟨⟨cdB (by decide +kernel), inA (by decide +kernel), rfl, plainFor_of_name ow_11.1, ow_11.2.1, ow_11.2.2, by decide +kernel⟩, imA (by decide +kernel), slA (by decide +kernel), by decide +kernel⟩
set_option maxRecDepth 100000 in
theorem ca_512 : caV 512 := ⟨⟨cdB (by decide +kernel), inA (by decide +kernel), rfl, plainFor_of_name ow_11.1, ow_11.2.1, ow_11.2.2, by decide +kernel⟩, imA (by decide +kernel), slA (by decide +kernel), by decide +kernel⟩
set_option maxRecDepth 100000 in
theorem ca_513 : caV 513 := ⟨⟨cdB (by decide +kernel), inA (by decide +kernel), rfl, plainFor_of_name ow_11.1, ow_11.2.1, ow_11.2.2, by decide +kernel⟩, imA (by decide +kernel), slA (by decide +kernel), by decide +kernel⟩
set_option maxRecDepth 100000 in
theorem ca_514 : caV 514 := ⟨⟨cdB (by decide +kernel), inA (by decide +kernel), rfl, plainFor_of_name ow_11.1, ow_11.2.1, ow_11.2.2, by decide +kernel⟩, imA (by decide +kernel), slA (by decide +kernel), by decide +kernel⟩
set_option maxRecDepth 100000 in
theorem ca_515 : caV 515 := ⟨⟨cdB (by decide +kernel), inA (by decide +kernel), rfl, plainFor_of_name ow_11.1, ow_11.2.1, ow_11.2.2, by decide +kernel⟩, imA (by decide +kernel), slA (by decide +kernel), by decide +kernel⟩
set_option maxRecDepth 100000 in
theorem ca_516 : caV 516 := ⟨⟨cdB (by decide +kernel), inA (by decide +kernel), rfl, plainFor_of_name ow_11.1, ow_11.2.1, ow_11.2.2, by decide +kernel⟩, imA (by decide +kernel), slA (by decide +kernel), by decide +kernel⟩
set_option maxRecDepth 100000 in
theorem ca_517 : caV 517 := ⟨⟨cdB (by decide +kernel), inA (by decide +kernel), rfl, plainFor_of_name ow_11.1, ow_11.2.1, ow_11.2.2, by decide +kernel⟩, imA (by decide +kernel), slA (by decide +kernel), by decide +kernel⟩
set_option maxRecDepth 100000 in
theorem ca_518 : caV 518 := ⟨⟨cdB (by decide +kernel), inA (by decide +kernel), rfl, plainFor_of_name ow_11.1, ow_11.2.1, ow_11.2.2, by decide +kernel⟩, imA (by decide +kernel), slA (by decide +kernel), by decide +kernel⟩
set_option maxRecDepth 100000 in
theorem ca_519 : caV 519 := ⟨⟨cdB (by decide +kernel), inA (by decide +kernel), rfl, plainFor_of_name ow_11.1, ow_11.2.1, ow_11.2.2, by decide +kernel⟩, imA (by decide +kernel), slA (by decide +kernel), by decide +kernel⟩
set_option maxRecDepth 100000 in
theorem ca_520 : caV 520 := ⟨⟨cdB (by decide +kernel), inA (by decide +kernel), rfl, plainFor_of_name ow_11.1, ow_11.2.1, ow_11.2.2, by decide +kernel⟩, imA (by decide +kernel), slA (by decide +kernel), by decide +kernel⟩
set_option maxRecDepth 100000 in
theorem ca_521 : caV 521 := ⟨⟨cdB (by decide +kernel), inA (by decide +kernel), rfl, plainFor_of_name ow_11.1, ow_11.2.1, ow_11.2.2, by decide +kernel⟩, imA (by decide +kernel), slA (by decide +kernel), by decide +kernel⟩
set_option maxRecDepth 100000 in
theorem ca_522 : caV 522 := ⟨⟨cdB (by decide +kernel), inA (by decide +kernel), rfl, plainFor_of_name ow_11.1, ow_11.2.1, ow_11.2.2, by decide +kernel⟩, imA (by decide +kernel), slA (by decide +kernel), by decide +kernel⟩
set_option maxRecDepth 100000 in
theorem ca_523 : caV 523 := ⟨⟨cdB (by decide +kernel), inA (by decide +kernel), rfl, plainFor_of_name ow_11.1, ow_11.2.1, ow_11.2.2, by decide +kernel⟩, imA (by decide +kernel), slA (by decide +kernel), by decide +kernel⟩
set_option maxRecDepth 100000 in
theorem ca_524 : caV 524 := ⟨⟨cdB (by decide +kernel), inA (by decide +kernel), rfl, plainFor_of_name ow_11.1, ow_11.2.1, ow_11.2.2, by decide +kernel⟩, imA (by decide +kernel), slA (by decide +kernel), by decide +kernel⟩
set_option maxRecDepth 100000 in
theorem ca_525 : caV 525 := ⟨⟨cdB (by decide +kernel), inA (by decide +kernel), rfl, plainFor_of_name ow_11.1, ow_11.2.1, ow_11.2.2, by decide +kernel⟩, imA (by decide +kernel), slA (by decide +kernel), by decide +kernel⟩
set_option maxRecDepth 100000 in
theorem ca_526 : caV 526 := ⟨⟨cdB (by decide +kernel), inA (by decide +kernel), rfl, plainFor_of_name ow_11.1, ow_11.2.1, ow_11.2.2, by decide +kernel⟩, imA (by decide +kernel), slA (by decide +kernel), by decide +kernel⟩
set_option maxRecDepth 100000 in
theorem ca_527 : caV 527 := ⟨⟨cdB (by decide +kernel), inA (by decide +kernel), rfl, plainFor_of_name ow_11.1, ow_11.2.1, ow_11.2.2, by decide +kernel⟩, imA (by decide +kernel), slA (by decide +kernel), by decide +kernel⟩
set_option maxRecDepth 100000 in
theorem ca_528 : caV 528 := ⟨⟨cdB (by decide +kernel), inA (by decide +kernel), rfl, plainFor_of_name ow_11.1, ow_11.2.1, ow_11.2.2, by decide +kernel⟩, imA (by decide +kernel), slA (by decide +kernel), by decide +kernel⟩
set_option maxRecDepth 100000 in
theorem ca_529 : caV 529 := ⟨⟨cdB (by decide +kernel), inA (by decide +kernel), rfl, plainFor_of_name ow_11.1, ow_11.2.1, ow_11.2.2, by decide +kernel⟩, imA (by decide +kernel), slA (by decide +kernel), by decide +kernel⟩
set_option maxRecDepth 100000 in
theorem ca_530 : caV 530 := ⟨⟨cdB (by decide +kernel), inA (by decide +kernel), rfl, plainFor_of_name ow_11.1, ow_11.2.1, ow_11.2.2, by decide +kernel⟩, imA (by decide +kernel), slA (by decide +kernel), by decide +kernel⟩
set_option maxRecDepth 100000 in
theorem ca_531 : caV 531 := ⟨⟨cdB (by decide +kernel), inA (by decide +kernel), rfl, plainFor_of_name ow_11.1, ow_11.2.1, ow_11.2.2, by decide +kernel⟩, imA (by decide +kernel), slA (by decide +kernel), by decide +kernel⟩
set_option maxRecDepth 100000 in
theorem ca_532 : caV 532 := ⟨⟨cdB (by decide +kernel), inA (by decide +kernel), rfl, plainFor_of_name ow_11.1, ow_11.2.1, ow_11.2.2, by decide +kernel⟩, imA (by decide +kernel), slA (by decide +kernel), by decide +kernel⟩
set_option maxRecDepth 100000 in
theorem ca_533 : caV 533 := ⟨⟨cdB (by decide +kernel), inA (by decide +kernel), rfl, plainFor_of_name ow_11.1, ow_11.2.1, ow_11.2.2, by decide +kernel⟩, imA (by decide +kernel), slA (by decide +kernel), by decide +kernel⟩
set_option maxRecDepth 100000 in
theorem ca_534 : caV 534 := ⟨⟨cdB (by decide +kernel), inA (by decide +kernel), rfl, plainFor_of_name ow_11.1, ow_11.2.1, ow_11.2.2, by decide +kernel⟩, imA (by decide +kernel), slA (by decide +kernel), by decide +kernel⟩
set_option maxRecDepth 100000 in
theorem ca_535 : caV 535 := ⟨⟨cdB (by decide +kernel), inA (by decide +kernel), rfl, plainFor_of_name ow_11.1, ow_11.2.1, ow_11.2.2, by decide +kernel⟩, imA (by decide +kernel), slA (by decide +kernel), by decide +kernel⟩
set_option maxRecDepth 100000 in
theorem ca_536 : caV 536 := ⟨⟨cdB (by decide +kernel), inA (by decide +kernel), rfl, plainFor_of_name ow_11.1, ow_11.2.1, ow_11.2.2, by decide +kernel⟩, imA (by decide +kernel), slA (by decide +kernel), by decide +kernel⟩
set_option maxRecDepth 100000 in
theorem ca_537 : caV 537 := ⟨⟨cdB (by decide +kernel), inA (by decide +kernel), rfl, plainFor_of_name ow_11.1, ow_11.2.1, ow_11.2.2, by decide +kernel⟩, imA (by decide +kernel), slA (by decide +kernel), by decide +kernel⟩
set_option maxRecDepth 100000 in
theorem ca_538 : caV 538 := ⟨⟨cdB (by decide +kernel), inA (by decide +kernel), rfl, plainFor_of_name ow_11.1, ow_11.2.1, ow_11.2.2, by decide +kernel⟩, imA (by decide +kernel), slA (by decide +kernel), by decide +kernel⟩
set_option maxRecDepth 100000 in
theorem ca_539 : caV 539 := ⟨⟨cdB (by decide +kernel), inA (by decide +kernel), rfl, plainFor_of_name ow_11.1, ow_11.2.1, ow_11.2.2, by decide +kernel⟩, imA (by decide +kernel), slA (by decide +kernel), by decide +kernel⟩
set_option maxRecDepth 100000 in
theorem ca_540 : caV 540 := ⟨⟨cdB (by decide +kernel), inA (by decide +kernel), rfl, plainFor_of_name ow_11.1, ow_11.2.1, ow_11.2.2, by decide +kernel⟩, imA (by decide +kernel), slA (by decide +kernel), by decide +kernel⟩
set_option maxRecDepth 100000 in
theorem ca_541 : caV 541 := ⟨⟨cdB (by decide +kernel), inA (by decide +kernel), rfl, plainFor_of_name ow_11.1, ow_11.2.1, ow_11.2.2, by decide +kernel⟩, imA (by decide +kernel), slA (by decide +kernel), by decide +kernel⟩
set_option maxRecDepth 100000 in
theorem ca_542 : caV 542 := ⟨⟨cdB (by decide +kernel), inA (by decide +kernel), rfl, plainFor_of_name ow_11.1, ow_11.2.1, ow_11.2.2, by decide +kernel⟩, imA (by decide +kernel), slA (by decide +kernel), by decide +kernel⟩
set_option maxRecDepth 100000 in
theorem ca_543 : caV 543 := ⟨⟨cdB (by decide +kernel), inA (by decide +kernel), rfl, plainFor_of_name ow_11.1, ow_11.2.1, ow_11.2.2, by decide +kernel⟩, imA (by decide +kernel), slA (by decide +kernel), by decide +kernel⟩
set_option maxRecDepth 100000 in
theorem ca_544 : caV 544 := ⟨⟨cdB (by decide +kernel), inA (by decide +kernel), rfl, plainFor_of_name ow_11.1, ow_11.2.1, ow_11.2.2, by decide +kernel⟩, imA (by decide +kernel), slA (by decide +kernel), by decide +kernel⟩
set_option maxRecDepth 100000 in
theorem ca_545 : caV 545 := ⟨⟨cdB (by decide +kernel), inA (by decide +kernel), rfl, plainFor_of_name ow_11.1, ow_11.2.1, ow_11.2.2, by decide +kernel⟩, imA (by decide +kernel), slA (by decide +kernel), by decide +kernel⟩
set_option maxRecDepth 100000 in
theorem ca_546 : caV 546 := ⟨⟨cdB (by decide +kernel), inA (by decide +kernel), rfl, plainFor_of_name ow_11.1, ow_11.2.1, ow_11.2.2, by decide +kernel⟩, imA (by decide +kernel), slA (by decide +kernel), by decide +kernel⟩
set_option maxRecDepth 100000 in
theorem ca_547 : caV 547 := ⟨⟨cdB (by decide +kernel), inA (by decide +kernel), rfl, plainFor_of_name ow_11.1, ow_11.2.1, ow_11.2.2, by decide +kernel⟩, imA (by decide +kernel), slA (by decide +kernel), by decide +kernel⟩
set_option maxRecDepth 100000 in
theorem ca_548 : caV 548 := ⟨⟨cdB (by decide +kernel), inA (by decide +kernel), rfl, plainFor_of_name ow_11.1, ow_11.2.1, ow_11.2.2, by decide +kernel⟩, imA (by decide +kernel), slA (by decide +kernel), by decide +kernel⟩
set_option maxRecDepth 100000 in
theorem ca_549 : caS 549 := ⟨⟨cdB (by decide +kernel), inA (by decide +kernel), rfl, plainFor_of_name ow_11.1, ow_11.2.1, ow_11.2.2, by decide +kernel⟩, isA (by decide +kernel)⟩
set_option maxRecDepth 100000 in
theorem ca_550 : caV 550 := ⟨⟨cdB (by decide +kernel), inA (by decide +kernel), rfl, plainFor_of_name ow_11.1, ow_11.2.1, ow_11.2.2, by decide +kernel⟩, imA (by decide +kernel), slA (by decide +kernel), by decide +kernel⟩
set_option maxRecDepth 100000 in
theorem ca_551 : caV 551 := ⟨⟨cdB (by decide +kernel), inA (by decide +kernel), rfl, plainFor_of_name ow_11.1, ow_11.2.1, ow_11.2.2, by decide +kernel⟩, imA (by decide +kernel), slA (by decide +kernel), by decide +kernel⟩
set_option maxRecDepth 100000 in
theorem ca_552 : caV 552 := ⟨⟨cdB (by decide +kernel), inA (by decide +kernel), rfl, plainFor_of_name ow_11.1, ow_11.2.1, ow_11.2.2, by decide +kernel⟩, imA (by decide +kernel), slA (by decide +kernel), by decide +kernel⟩
set_option maxRecDepth 100000 in
theorem ca_553 : caV 553 := ⟨⟨cdB (by decide +kernel), inA (by decide +kernel), rfl, plainFor_of_name ow_11.1, ow_11.2.1, ow_11.2.2, by decide +kernel⟩, imA (by decide +kernel), slA (by decide +kernel), by decide +kernel⟩
set_option maxRecDepth 100000 in
theorem ca_554 : caV 554 := ⟨⟨cdB (by decide +kernel), inA (by decide +kernel), rfl, plainFor_of_name ow_11.1, ow_11.2.1, ow_11.2.2, by decide +kernel⟩, imA (by decide +kernel), slA (by decide +kernel), by decide +kernel⟩
set_option maxRecDepth 100000 in
theorem ca_555 : caV 555 := ⟨⟨cdB (by decide +kernel), inA (by decide +kernel), rfl, plainFor_of_name ow_11.1, ow_11.2.1, ow_11.2.2, by decide +kernel⟩, imA (by decide +kernel), slA (by decide +kernel), by decide +kernel⟩
set_option maxRecDepth 100000 in
theorem ca_556 : caV 556 := ⟨⟨cdB (by decide +kernel), inA (by decide +kernel), rfl, plainFor_of_name ow_11.1, ow_11.2.1, ow_11.2.2, by decide +kernel⟩, imA (by decide +kernel), slA (by decide +kernel), by decide +kernel⟩
set_option maxRecDepth 100000 in
theorem ca_557 : caV 557 := ⟨⟨cdB (by decide +kernel), inA (by decide +kernel), rfl, plainFor_of_name ow_11.1, ow_11.2.1, ow_11.2.2, by decide +kernel⟩, imA (by decide +kernel), slA (by decide +kernel), by decide +kernel⟩
set_option maxRecDepth 100000 in
theorem ca_558 : caV 558 := ⟨⟨cdB (by decide +kernel), inA (by decide +kernel), rfl, plainFor_of_name ow_11.1, ow_11.2.1, ow_11.2.2, by decide +kernel⟩, imA (by decide +kernel), slA (by decide +kernel), by decide +kernel⟩
set_option maxRecDepth 100000 in
theorem ca_559 : caV 559 := ⟨⟨cdB (by decide +kernel), inA (by decide +kernel), rfl, plainFor_of_name ow_11.1, ow_11.2.1, ow_11.2.2, by decide +kernel⟩, imA (by decide +kernel), slA (by decide +kernel), by decide +kernel⟩
set_option maxRecDepth 100000 in
theorem ca_560 : caV 560 := ⟨⟨cdB (by decide +kernel), inA (by decide +kernel), rfl, plainFor_of_name ow_11.1, ow_11.2.1, ow_11.2.2, by decide +kernel⟩, imA (by decide +kernel), slA (by decide +kernel), by decide +kernel⟩
set_option maxRecDepth 100000 in
theorem ca_561 : caS 561 := ⟨⟨cdB (by decide +kernel), inA (by decide +kernel), rfl, plainFor_of_name ow_11.1, ow_11.2.1, ow_11.2.2, by decide +kernel⟩, isA (by decide +kernel)⟩
set_option maxRecDepth 100000 in
theorem ca_562 : caV 562 := ⟨⟨cdB (by decide +kernel), inA (by decide +kernel), rfl, plainFor_of_name ow_11.1, ow_11.2.1, ow_11.2.2, by decide +kernel⟩, imA (by decide +kernel), slA (by decide +kernel), by decide +kernel⟩
set_option maxRecDepth 100000 in
theorem ca_563 : caV 563 := ⟨⟨cdB (by decide +kernel), inA (by decide +kernel), rfl, plainFor_of_name ow_11.1, ow_11.2.1, ow_11.2.2, by decide +kernel⟩, imA (by decide +kernel), slA (by decide +kernel), by decide +kernel⟩
set_option maxRecDepth 100000 in
theorem ca_564 : caV 564 := ⟨⟨cdB (by decide +kernel), inA (by decide +kernel), rfl, plainFor_of_name ow_11.1, ow_11.2.1, ow_11.2.2, by decide +kernel⟩, imA (by decide +kernel), slA (by decide +kernel), by decide +kernel⟩
set_option maxRecDepth 100000 in
theorem ca_565 : caV 565 := ⟨⟨cdB (by decide +kernel), inA (by decide +kernel), rfl, plainFor_of_name ow_11.1, ow_11.2.1, ow_11.2.2, by decide +kernel⟩, imA (by decide +kernel), slA (by decide +kernel), by decide +kernel⟩
set_option maxRecDepth 100000 in
theorem ca_566 : caV 566 := ⟨⟨cdB (by decide +kernel), inA (by decide +kernel), rfl, plainFor_of_name ow_11.1, ow_11.2.1, ow_11.2.2, by decide +kernel⟩, imA (by decide +kernel), slA (by decide +kernel), by decide +kernel⟩
set_option maxRecDepth 100000 in
theorem ca_567 : caV 567 := ⟨⟨cdB (by decide +kernel), inA (by decide +kernel), rfl, plainFor_of_name ow_11.1, ow_11.2.1, ow_11.2.2, by decide +kernel⟩, imA (by decide +kernel), slA (by decide +kernel), by decide +kernel⟩
set_option maxRecDepth 100000 in
theorem ca_568 : caV 568 := ⟨⟨cdB (by decide +kernel), inA (by decide +kernel), rfl, plainFor_of_name ow_11.1, ow_11.2.1, ow_11.2.2, by decide +kernel⟩, imA (by decide +kernel), slA (by decide +kernel), by decide +kernel⟩
set_option maxRecDepth 100000 in
theorem ca_569 : caS 569 := ⟨⟨cdB (by decide +kernel), inA (by decide +kernel), rfl, plainFor_of_name ow_15.1, ow_15.2.1, ow_15.2.2, by decide +kernel⟩, isA (by decide +kernel)⟩
set_option maxRecDepth 100000 in
theorem ca_570 : caS 570 := ⟨⟨cdB (by decide +kernel), inA (by decide +kernel), rfl, by decide +kernel, ow_16.2.1, ow_16.2.2, by decide +kernel⟩, isA (by decide +kernel)⟩
set_option maxRecDepth 100000 in
theorem ca_571 : caS 571 := ⟨⟨cdB (by decide +kernel), inA (by decide +kernel), rfl, by decide +kernel, ow_16.2.1, ow_16.2.2, by decide +kernel⟩, isA (by decide +kernel)⟩
set_option maxRecDepth 100000 in
theorem ca_572 : caS 572 := ⟨⟨cdB (by decide +kernel), inA (by decide +kernel), rfl, by decide +kernel, ow_16.2.1, ow_16.2.2, by decide +kernel⟩, isA (by decide +kernel)⟩
set_option maxRecDepth 100000 in
theorem ca_573 : caV 573 := ⟨⟨cdB (by decide +kernel), inA (by decide +kernel), rfl, plainFor_of_name ow_30.1, ow_30.2.1, ow_30.2.2, by decide +kernel⟩, imA (by decide +kernel), slA (by decide +kernel), by decide +kernel⟩
set_option maxRecDepth 100000 in
theorem ca_574 : caV 574 := ⟨⟨cdB (by decide +kernel), inA (by decide +kernel), rfl, plainFor_of_name ow_30.1, ow_30.2.1, ow_30.2.2, by decide +kernel⟩, imA (by decide +kernel), slA (by decide +kernel), by decide +kernel⟩
set_option maxRecDepth 100000 in
theorem ca_575 : caV 575 := ⟨⟨cdB (by decide +kernel), inA (by decide +kernel), rfl, plainFor_of_name ow_30.1, ow_30.2.1, ow_30.2.2, by decide +kernel⟩, imA (by decide +kernel), slA (by decide +kernel), by decide +kernel⟩
set_option maxRecDepth 100000 in
theorem ca_576 : caV 576 := ⟨⟨cdB (by decide +kernel), inA (by decide +kernel), rfl, plainFor_of_name ow_30.1, ow_30.2.1, ow_30.2.2, by decide +kernel⟩, imA (by decide +kernel), slA (by decide +kernel), by decide +kernel⟩
set_option maxRecDepth 100000 in
theorem ca_577 : caS 577 := ⟨⟨cdB (by decide +kernel), inA (by decide +kernel), rfl, plainFor_of_name ow_17.1, ow_17.2.1, ow_17.2.2, by decide +kernel⟩, isA (by decide +kernel)⟩
set_option maxRecDepth 100000 in
theorem ca_578 : caS 578 := ⟨⟨cdB (by decide +kernel), inA (by decide +kernel), rfl, plainFor_of_name ow_14.1, ow_14.2.1, ow_14.2.2, by decide +kernel⟩, isA (by decide +kernel)⟩
set_option maxRecDepth 100000 in
theorem ca_579 : caS 579 := ⟨⟨cdB (by decide +kernel), inA (by decide +kernel), rfl, plainFor_of_name ow_14.1, ow_14.2.1, ow_14.2.2, by decide +kernel⟩, isA (by decide +kernel)⟩
set_option maxRecDepth 100000 in
theorem ca_580 : caS 580 := ⟨⟨cdB (by decide +kernel), inA (by decide +kernel), rfl, plainFor_of_name ow_14.1, ow_14.2.1, ow_14.2.2, by decide +kernel⟩, isA (by decide +kernel)⟩
set_option maxRecDepth 100000 in
theorem ca_581 : caS 581 := ⟨⟨cdB (by decide +kernel), inA (by decide +kernel), rfl, plainFor_of_name ow_14.1, ow_14.2.1, ow_14.2.2, by decide +kernel⟩, isA (by decide +kernel)⟩
set_option maxRecDepth 100000 in
theorem ca_582 : caS 582 := ⟨⟨cdB (by decide +kernel), inA (by decide +kernel), rfl, plainFor_of_name ow_14.1, ow_14.2.1, ow_14.2.2, by decide +kernel⟩, isA (by decide +kernel)⟩
def csL0 : List Nat := [0, 1, 2, 3, 4, 5, 6, 7, 8, 9, 10, 11, 12, 13, 14, 15, 16, 17, 18, 19, 20, 21, 22, 23, 24, 25, 26, 41, 42, 43, 48, 70, 71, 74, 105, 108, 110, 119, 127, 129]
theorem csA0 : ∀ m ∈ csL0, caS m := List.forall_mem_cons.mpr ⟨ca_0, List.forall_mem_cons.mpr ⟨ca_1, List.forall_mem_cons.mpr ⟨ca_2, List.forall_mem_cons.mpr ⟨ca_3, List.forall_mem_cons.mpr ⟨ca_4, List.forall_mem_cons.mpr ⟨ca_5, List.forall_mem_cons.mpr ⟨ca_6, List.forall_mem_cons.mpr ⟨ca_7, List.forall_mem_cons.mpr ⟨ca_8, List.forall_mem_cons.mpr ⟨ca_9, List.forall_mem_cons.mpr ⟨ca_10, List.forall_mem_cons.mpr ⟨ca_11, List.forall_mem_cons.mpr ⟨ca_12, List.forall_mem_cons.mpr ⟨ca_13, List.forall_mem_cons.mpr ⟨ca_14, List.forall_mem_cons.mpr ⟨ca_15, List.forall_mem_cons.mpr ⟨ca_16, List.forall_mem_cons.mpr ⟨ca_17, List.forall_mem_cons.mpr ⟨ca_18, List.forall_mem_cons.mpr ⟨ca_19, List.forall_mem_cons.mpr ⟨ca_20, List.forall_mem_cons.mpr ⟨ca_21, List.forall_mem_cons.mpr ⟨ca_22, List.forall_mem_cons.mpr ⟨ca_23, List.forall_mem_cons.mpr ⟨ca_24, List.forall_mem_cons.mpr ⟨ca_25, List.forall_mem_cons.mpr ⟨ca_26, List.forall_mem_cons.mpr ⟨ca_41, List.forall_mem_cons.mpr ⟨ca_42, List.forall_mem_cons.mpr ⟨ca_43, List.forall_mem_cons.mpr ⟨ca_48, List.forall_mem_cons.mpr ⟨ca_70, List.forall_mem_cons.mpr ⟨ca_71, List.forall_mem_cons.mpr ⟨ca_74, List.forall_mem_cons.mpr ⟨ca_105, List.forall_mem_cons.mpr ⟨ca_108, List.forall_mem_cons.mpr ⟨ca_110, List.forall_mem_cons.mpr ⟨ca_119, List.forall_mem_cons.mpr ⟨ca_127, List.forall_mem_cons.mpr ⟨ca_129, (fun _ h => absurd h List.not_mem_nil)⟩⟩⟩⟩⟩⟩⟩⟩⟩⟩⟩⟩⟩⟩⟩⟩⟩⟩⟩⟩⟩⟩⟩⟩⟩⟩⟩⟩⟩⟩⟩⟩⟩⟩⟩⟩⟩⟩⟩⟩
def csL1 : List Nat := [130, 131, 137, 138, 139, 142, 143, 155, 187, 192, 205, 213, 238, 244, 245, 266, 268, 269, 270, 271, 272, 275, 276, 277, 279, 282, 331, 332, 333, 334, 335, 336, 337, 338, 339, 340, 341, 342, 343, 344]
theorem csA1 : ∀ m ∈ csL1, caS m := List.forall_mem_cons.mpr ⟨ca_130, List.forall_mem_cons.mpr ⟨ca_131, List.forall_mem_cons.mpr ⟨ca_137, List.forall_mem_cons.mpr ⟨ca_138, List.forall_mem_cons.mpr ⟨ca_139, List.forall_mem_cons.mpr ⟨ca_142, List.forall_mem_cons.mpr ⟨ca_143, List.forall_mem_cons.mpr ⟨ca_155, List.forall_mem_cons.mpr ⟨ca_187, List.forall_mem_cons.mpr ⟨ca_192, List.forall_mem_cons.mpr ⟨ca_205, List.forall_mem_cons.mpr ⟨ca_213, List.forall_mem_cons.mpr ⟨ca_238, List.forall_mem_cons.mpr ⟨ca_244, List.forall_mem_cons.mpr ⟨ca_245, List.forall_mem_cons.mpr ⟨ca_266, List.forall_mem_cons.mpr ⟨ca_268, List.forall_mem_cons.mpr ⟨ca_269, List.forall_mem_cons.mpr ⟨ca_270, List.forall_mem_cons.mpr ⟨ca_271, List.forall_mem_cons.mpr ⟨ca_272, List.forall_mem_cons.mpr ⟨ca_275, List.forall_mem_cons.mpr ⟨ca_276, List.forall_mem_cons.mpr ⟨ca_277, List.forall_mem_cons.mpr ⟨ca_279, List.forall_mem_cons.mpr ⟨ca_282, List.forall_mem_cons.mpr ⟨ca_331, List.forall_mem_cons.mpr ⟨ca_332, List.forall_mem_cons.mpr ⟨ca_333, List.forall_mem_cons.mpr ⟨ca_334, List.forall_mem_cons.mpr ⟨ca_335, List.forall_mem_cons.mpr ⟨ca_336, List.forall_mem_cons.mpr ⟨ca_337, List.forall_mem_cons.mpr ⟨ca_338, List.forall_mem_cons.mpr ⟨ca_339, List.forall_mem_cons.mpr ⟨ca_340, List.forall_mem_cons.mpr ⟨ca_341, List.forall_mem_cons.mpr ⟨ca_342, List.forall_mem_cons.mpr ⟨ca_343, List.forall_mem_cons.mpr ⟨ca_344, (fun _ h => absurd h List.not_mem_nil)⟩⟩⟩⟩⟩⟩⟩⟩⟩⟩⟩⟩⟩⟩⟩⟩⟩⟩⟩⟩⟩⟩⟩⟩⟩⟩⟩⟩⟩⟩⟩⟩⟩⟩⟩⟩⟩⟩⟩⟩
def csL2 : List Nat := [352, 353, 354, 378, 389, 396, 403, 404, 423, 424, 425, 426, 427, 428, 429, 440, 441, 444, 445, 446, 450, 476, 477, 479, 508, 549, 561, 569, 570, 571, 572, 577, 578, 579, 580, 581, 582]
theorem csA2 : ∀ m ∈ csL2, caS m := List.forall_mem_cons.mpr ⟨ca_352, List.forall_mem_cons.mpr ⟨ca_353, List.forall_mem_cons.mpr ⟨ca_354, List.forall_mem_cons.mpr ⟨ca_378, List.forall_mem_cons.mpr ⟨ca_389, List.forall_mem_cons.mpr ⟨ca_396, List.forall_mem_cons.mpr ⟨ca_403, List.forall_mem_cons.mpr ⟨ca_404, List.forall_mem_cons.mpr ⟨ca_423, List.forall_mem_cons.mpr ⟨ca_424, List.forall_mem_cons.mpr ⟨ca_425, List.forall_mem_cons.mpr ⟨ca_426, List.forall_mem_cons.mpr ⟨ca_427, List.forall_mem_cons.mpr ⟨ca_428, List.forall_mem_cons.mpr ⟨ca_429, List.forall_mem_cons.mpr ⟨ca_440, List.forall_mem_cons.mpr ⟨ca_441, List.forall_mem_cons.mpr ⟨ca_444, List.forall_mem_cons.mpr ⟨ca_445, List.forall_mem_cons.mpr ⟨ca_446, List.forall_mem_cons.mpr ⟨ca_450, List.forall_mem_cons.mpr ⟨ca_476, List.forall_mem_cons.mpr ⟨ca_477, List.forall_mem_cons.mpr ⟨ca_479, List.forall_mem_cons.mpr ⟨ca_508, List.forall_mem_cons.mpr ⟨ca_549, List.forall_mem_cons.mpr ⟨ca_561, List.forall_mem_cons.mpr ⟨ca_569, List.forall_mem_cons.mpr ⟨ca_570, List.forall_mem_cons.mpr ⟨ca_571, List.forall_mem_cons.mpr ⟨ca_572, List.forall_mem_cons.mpr ⟨ca_577, List.forall_mem_cons.mpr ⟨ca_578, List.forall_mem_cons.mpr ⟨ca_579, List.forall_mem_cons.mpr ⟨ca_580, List.forall_mem_cons.mpr ⟨ca_581, List.forall_mem_cons.mpr ⟨ca_582, (fun _ h => absurd h List.not_mem_nil)⟩⟩⟩⟩⟩⟩⟩⟩⟩⟩⟩⟩⟩⟩⟩⟩⟩⟩⟩⟩⟩⟩⟩⟩⟩⟩⟩⟩⟩⟩⟩⟩⟩⟩⟩⟩⟩
def csL : List Nat := csL0 ++ (csL1 ++ (csL2))
theorem csA : ∀ m ∈ csL, caS m := List.forall_mem_append.mpr ⟨csA0, List.forall_mem_append.mpr ⟨csA1, csA2⟩⟩
def cvL0 : List Nat := [27, 28, 29, 30, 31, 32, 33, 34, 35, 36, 37, 38, 39, 40, 44, 45, 46, 47, 49, 50, 51, 52, 53, 54, 55, 56, 57, 58, 59, 60, 61, 62, 63, 64, 65, 66, 67, 68, 69, 72]
theorem cvA0 : ∀ m ∈ cvL0, caV m := List.forall_mem_cons.mpr ⟨ca_27, List.forall_mem_cons.mpr ⟨ca_28, List.forall_mem_cons.mpr ⟨ca_29, List.forall_mem_cons.mpr ⟨ca_30, List.forall_mem_cons.mpr ⟨ca_31, List.forall_mem_cons.mpr ⟨ca_32, List.forall_mem_cons.mpr ⟨ca_33, List.forall_mem_cons.mpr ⟨ca_34, List.forall_mem_cons.mpr ⟨ca_35, List.forall_mem_cons.mpr ⟨ca_36, List.forall_mem_cons.mpr ⟨ca_37, List.forall_mem_cons.mpr ⟨ca_38, List.forall_mem_cons.mpr ⟨ca_39, List.forall_mem_cons.mpr ⟨ca_40, List.forall_mem_cons.mpr ⟨ca_44, List.forall_mem_cons.mpr ⟨ca_45, List.forall_mem_cons.mpr ⟨ca_46, List.forall_mem_cons.mpr ⟨ca_47, List.forall_mem_cons.mpr ⟨ca_49, List.forall_mem_cons.mpr ⟨ca_50, List.forall_mem_cons.mpr ⟨ca_51, List.forall_mem_cons.mpr ⟨ca_52, List.forall_mem_cons.mpr ⟨ca_53, List.forall_mem_cons.mpr ⟨ca_54, List.forall_mem_cons.mpr ⟨ca_55, List.forall_mem_cons.mpr ⟨ca_56, List.forall_mem_cons.mpr ⟨ca_57, List.forall_mem_cons.mpr ⟨ca_58, List.forall_mem_cons.mpr ⟨ca_59, List.forall_mem_cons.mpr ⟨ca_60, List.forall_mem_cons.mpr ⟨ca_61, List.forall_mem_cons.mpr ⟨ca_62, List.forall_mem_cons.mpr ⟨ca_63, List.forall_mem_cons.mpr ⟨ca_64, List.forall_mem_cons.mpr ⟨ca_65, List.forall_mem_cons.mpr ⟨ca_66, List.forall_mem_cons.mpr ⟨ca_67, List.forall_mem_cons.mpr ⟨ca_68, List.forall_mem_cons.mpr ⟨ca_69, List.forall_mem_cons.mpr ⟨ca_72, (fun _ h => absurd h List.not_mem_nil)⟩⟩⟩⟩⟩⟩⟩⟩⟩⟩⟩⟩⟩⟩⟩⟩⟩⟩⟩⟩⟩⟩⟩⟩⟩⟩⟩⟩⟩⟩⟩⟩⟩⟩⟩⟩⟩⟩⟩⟩
def cvL1 : List Nat := [73, 75, 76, 77, 78, 79, 80, 81, 82, 83, 84, 85, 86, 87, 88, 89, 90, 91, 92, 93, 94, 95, 96, 97, 98, 99, 100, 101, 102, 103, 104, 106, 107, 109, 111, 112, 113, 114, 115, 116]
theorem cvA1 : ∀ m ∈ cvL1, caV m := List.forall_mem_cons.mpr ⟨ca_73, List.forall_mem_cons.mpr ⟨ca_75, List.forall_mem_cons.mpr ⟨ca_76, List.forall_mem_cons.mpr ⟨ca_77, List.forall_mem_cons.mpr ⟨ca_78, List.forall_mem_cons.mpr ⟨ca_79, List.forall_mem_cons.mpr ⟨ca_80, List.forall_mem_cons.mpr ⟨ca_81, List.forall_mem_cons.mpr ⟨ca_82, List.forall_mem_cons.mpr ⟨ca_83, List.forall_mem_cons.mpr ⟨ca_84, List.forall_mem_cons.mpr ⟨ca_85, List.forall_mem_cons.mpr ⟨ca_86, List.forall_mem_cons.mpr ⟨ca_87, List.forall_mem_cons.mpr ⟨ca_88, List.forall_mem_cons.mpr ⟨ca_89, List.forall_mem_cons.mpr ⟨ca_90, List.forall_mem_cons.mpr ⟨ca_91, List.forall_mem_cons.mpr ⟨ca_92, List.forall_mem_cons.mpr ⟨ca_93, List.forall_mem_cons.mpr ⟨ca_94, List.forall_mem_cons.mpr ⟨ca_95, List.forall_mem_cons.mpr ⟨ca_96, List.forall_mem_cons.mpr ⟨ca_97, List.forall_mem_cons.mpr ⟨ca_98, List.forall_mem_cons.mpr ⟨ca_99, List.forall_mem_cons.mpr ⟨ca_100, List.forall_mem_cons.mpr ⟨ca_101, List.forall_mem_cons.mpr ⟨ca_102, List.forall_mem_cons.mpr ⟨ca_103, List.forall_mem_cons.mpr ⟨ca_104, List.forall_mem_cons.mpr ⟨ca_106, List.forall_mem_cons.mpr ⟨ca_107, List.forall_mem_cons.mpr ⟨ca_109, List.forall_mem_cons.mpr ⟨ca_111, List.forall_mem_cons.mpr ⟨ca_112, List.forall_mem_cons.mpr ⟨ca_113, List.forall_mem_cons.mpr ⟨ca_114, List.forall_mem_cons.mpr ⟨ca_115, List.forall_mem_cons.mpr ⟨ca_116, (fun _ h => absurd h List.not_mem_nil)⟩⟩⟩⟩⟩⟩⟩⟩⟩⟩⟩⟩⟩⟩⟩⟩⟩⟩⟩⟩⟩⟩⟩⟩⟩⟩⟩⟩⟩⟩⟩⟩⟩⟩⟩⟩⟩⟩⟩⟩
def cvL2 : List Nat := [117, 118, 120, 121, 122, 123, 124, 125, 126, 128, 132, 133, 134, 135, 136, 140, 141, 144, 145, 146, 147, 148, 149, 150, 151, 152, 153, 154, 156, 157, 158, 159, 160, 161, 162, 163, 164, 165, 166, 167]
theorem cvA2 : ∀ m ∈ cvL2, caV m := List.forall_mem_cons.mpr ⟨ca_117, List.forall_mem_cons.mpr ⟨ca_118, List.forall_mem_cons.mpr ⟨ca_120, List.forall_mem_cons.mpr ⟨ca_121, List.forall_mem_cons.mpr ⟨ca_122, List.forall_mem_cons.mpr ⟨ca_123, List.forall_mem_cons.mpr ⟨ca_124, List.forall_mem_cons.mpr ⟨ca_125, List.forall_mem_cons.mpr ⟨ca_126, List.forall_mem_cons.mpr ⟨ca_128, List.forall_mem_cons.mpr ⟨ca_132, List.forall_mem_cons.mpr ⟨ca_133, List.forall_mem_cons.mpr ⟨ca_134, List.forall_mem_cons.mpr ⟨ca_135, List.forall_mem_cons.mpr ⟨ca_136, List.forall_mem_cons.mpr ⟨ca_140, List.forall_mem_cons.mpr ⟨ca_141, List.forall_mem_cons.mpr ⟨ca_144, List.forall_mem_cons.mpr ⟨ca_145, List.forall_mem_cons.mpr ⟨ca_146, List.forall_mem_cons.mpr ⟨ca_147, List.forall_mem_cons.mpr ⟨ca_148, List.forall_mem_cons.mpr ⟨ca_149, List.forall_mem_cons.mpr ⟨ca_150, List.forall_mem_cons.mpr ⟨ca_151, List.forall_mem_cons.mpr ⟨ca_152, List.forall_mem_cons.mpr ⟨ca_153, List.forall_mem_cons.mpr ⟨ca_154, List.forall_mem_cons.mpr ⟨ca_156, List.forall_mem_cons.mpr ⟨ca_157, List.forall_mem_cons.mpr ⟨ca_158, List.forall_mem_cons.mpr ⟨ca_159, List.forall_mem_cons.mpr ⟨ca_160, List.forall_mem_cons.mpr ⟨ca_161, List.forall_mem_cons.mpr ⟨ca_162, List.forall_mem_cons.mpr ⟨ca_163, List.forall_mem_cons.mpr ⟨ca_164, List.forall_mem_cons.mpr ⟨ca_165, List.forall_mem_cons.mpr ⟨ca_166, List.forall_mem_cons.mpr ⟨ca_167, (fun _ h => absurd h List.not_mem_nil)⟩⟩⟩⟩⟩⟩⟩⟩⟩⟩⟩⟩⟩⟩⟩⟩⟩⟩⟩⟩⟩⟩⟩⟩⟩⟩⟩⟩⟩⟩⟩⟩⟩⟩⟩⟩⟩⟩⟩⟩
def cvL3 : List Nat := [168, 169, 170, 171, 172, 173, 174, 175, 176, 177, 178, 179, 180, 181, 182, 183, 184, 185, 186, 188, 189, 190, 191, 193, 194, 195, 196, 197, 198, 199, 200, 201, 202, 203, 204, 206, 207, 208, 209, 210]
theorem cvA3 : ∀ m ∈ cvL3, caV m := List.forall_mem_cons.mpr ⟨ca_168, List.forall_mem_cons.mpr ⟨ca_169, List.forall_mem_cons.mpr ⟨ca_170, List.forall_mem_cons.mpr ⟨ca_171, List.forall_mem_cons.mpr ⟨ca_172, List.forall_mem_cons.mpr ⟨ca_173, List.forall_mem_cons.mpr ⟨ca_174, List.forall_mem_cons.mpr ⟨ca_175, List.forall_mem_cons.mpr ⟨ca_176, List.forall_mem_cons.mpr ⟨ca_177, List.forall_mem_cons.mpr ⟨ca_178, List.forall_mem_cons.mpr ⟨ca_179, List.forall_mem_cons.mpr ⟨ca_180, List.forall_mem_cons.mpr ⟨ca_181, List.forall_mem_cons.mpr ⟨ca_182, List.forall_mem_cons.mpr ⟨ca_183, List.forall_mem_cons.mpr ⟨ca_184, List.forall_mem_cons.mpr ⟨ca_185, List.forall_mem_cons.mpr ⟨ca_186, List.forall_mem_cons.mpr ⟨ca_188, List.forall_mem_cons.mpr ⟨ca_189, List.forall_mem_cons.mpr ⟨ca_190, List.forall_mem_cons.mpr ⟨ca_191, List.forall_mem_cons.mpr ⟨ca_193, List.forall_mem_cons.mpr ⟨ca_194, List.forall_mem_cons.mpr ⟨ca_195, List.forall_mem_cons.mpr ⟨ca_196, List.forall_mem_cons.mpr ⟨ca_197, List.forall_mem_cons.mpr ⟨ca_198, List.forall_mem_cons.mpr ⟨ca_199, List.forall_mem_cons.mpr ⟨ca_200, List.forall_mem_cons.mpr ⟨ca_201, List.forall_mem_cons.mpr ⟨ca_202, List.forall_mem_cons.mpr ⟨ca_203, List.forall_mem_cons.mpr ⟨ca_204, List.forall_mem_cons.mpr ⟨ca_206, List.forall_mem_cons.mpr ⟨ca_207, List.forall_mem_cons.mpr ⟨ca_208, List.forall_mem_cons.mpr ⟨ca_209, List.forall_mem_cons.mpr ⟨ca_210, (fun _ h => absurd h List.not_mem_nil)⟩⟩⟩⟩⟩⟩⟩⟩⟩⟩⟩⟩⟩⟩⟩⟩⟩⟩⟩⟩⟩⟩⟩⟩⟩⟩⟩⟩⟩⟩⟩⟩⟩⟩⟩⟩⟩⟩⟩⟩
def cvL4 : List Nat := [211, 212, 214, 215, 216, 217, 218, 219, 220, 221, 222, 223, 224, 225, 226, 227, 228, 229, 230, 231, 232, 233, 234, 235, 236, 237, 239, 240, 241, 242, 243, 246, 247, 248, 249, 250, 251, 252, 253, 254]
theorem cvA4 : ∀ m ∈ cvL4, caV m := List.forall_mem_cons.mpr ⟨ca_211, List.forall_mem_cons.mpr ⟨ca_212, List.forall_mem_cons.mpr ⟨ca_214, List.forall_mem_cons.mpr ⟨ca_215, List.forall_mem_cons.mpr ⟨ca_216, List.forall_mem_cons.mpr ⟨ca_217, List.forall_mem_cons.mpr ⟨ca_218, List.forall_mem_cons.mpr ⟨ca_219, List.forall_mem_cons.mpr ⟨ca_220, List.forall_mem_cons.mpr ⟨ca_221, List.forall_mem_cons.mpr ⟨ca_222, List.forall_mem_cons.mpr ⟨ca_223, List.forall_mem_cons.mpr ⟨ca_224, List.forall_mem_cons.mpr ⟨ca_225, List.forall_mem_cons.mpr ⟨ca_226, List.forall_mem_cons.mpr ⟨ca_227, List.forall_mem_cons.mpr ⟨ca_228, List.forall_mem_cons.mpr ⟨ca_229, List.forall_mem_cons.mpr ⟨ca_230, List.forall_mem_cons.mpr ⟨ca_231, List.forall_mem_cons.mpr ⟨ca_232, List.forall_mem_cons.mpr ⟨ca_233, List.forall_mem_cons.mpr ⟨ca_234, List.forall_mem_cons.mpr ⟨ca_235, List.forall_mem_cons.mpr ⟨ca_236, List.forall_mem_cons.mpr ⟨ca_237, List.forall_mem_cons.mpr ⟨ca_239, List.forall_mem_cons.mpr ⟨ca_240, List.forall_mem_cons.mpr ⟨ca_241, List.forall_mem_cons.mpr ⟨ca_242, List.forall_mem_cons.mpr ⟨ca_243, List.forall_mem_cons.mpr ⟨ca_246, List.forall_mem_cons.mpr ⟨ca_247, List.forall_mem_cons.mpr ⟨ca_248, List.forall_mem_cons.mpr ⟨ca_249, List.forall_mem_cons.mpr ⟨ca_250, List.forall_mem_cons.mpr ⟨ca_251, List.forall_mem_cons.mpr ⟨ca_252, List.forall_mem_cons.mpr ⟨ca_253, List.forall_mem_cons.mpr ⟨ca_254, (fun _ h => absurd h List.not_mem_nil)⟩⟩⟩⟩⟩⟩⟩⟩⟩⟩⟩⟩⟩⟩⟩⟩⟩⟩⟩⟩⟩⟩⟩⟩⟩⟩⟩⟩⟩⟩⟩⟩⟩⟩⟩⟩⟩⟩⟩⟩
def cvL5 : List Nat := [255, 256, 257, 258, 259, 260, 261, 262, 263, 264, 265, 267, 273, 274, 278, 280, 281, 283, 284, 285, 286, 287, 288, 289, 290, 291, 292, 293, 294, 295, 296, 297, 298, 299, 300, 301, 302, 303, 304, 305]
theorem cvA5 : ∀ m ∈ cvL5, caV m := List.forall_mem_cons.mpr ⟨ca_255, List.forall_mem_cons.mpr ⟨ca_256, List.forall_mem_cons.mpr ⟨ca_257, List.forall_mem_cons.mpr ⟨ca_258, List.forall_mem_cons.mpr ⟨ca_259, List.forall_mem_cons.mpr ⟨ca_260, List.forall_mem_cons.mpr ⟨ca_261, List.forall_mem_cons.mpr ⟨ca_262, List.forall_mem_cons.mpr ⟨ca_263, List.forall_mem_cons.mpr ⟨ca_264, List.forall_mem_cons.mpr ⟨ca_265, List.forall_mem_cons.mpr ⟨ca_267, List.forall_mem_cons.mpr ⟨ca_273, List.forall_mem_cons.mpr ⟨ca_274, List.forall_mem_cons.mpr ⟨ca_278, List.forall_mem_cons.mpr ⟨ca_280, List.forall_mem_cons.mpr ⟨ca_281, List.forall_mem_cons.mpr ⟨ca_283, List.forall_mem_cons.mpr ⟨ca_284, List.forall_mem_cons.mpr ⟨ca_285, List.forall_mem_cons.mpr ⟨ca_286, List.forall_mem_cons.mpr ⟨ca_287, List.forall_mem_cons.mpr ⟨ca_288, List.forall_mem_cons.mpr ⟨ca_289, List.forall_mem_cons.mpr ⟨ca_290, List.forall_mem_cons.mpr ⟨ca_291, List.forall_mem_cons.mpr ⟨ca_292, List.forall_mem_cons.mpr ⟨ca_293, List.forall_mem_cons.mpr ⟨ca_294, List.forall_mem_cons.mpr ⟨ca_295, List.forall_mem_cons.mpr ⟨ca_296, List.forall_mem_cons.mpr ⟨ca_297, List.forall_mem_cons.mpr ⟨ca_298, List.forall_mem_cons.mpr ⟨ca_299, List.forall_mem_cons.mpr ⟨ca_300, List.forall_mem_cons.mpr ⟨ca_301, List.forall_mem_cons.mpr ⟨ca_302, List.forall_mem_cons.mpr ⟨ca_303, List.forall_mem_cons.mpr ⟨ca_304, List.forall_mem_cons.mpr ⟨ca_305, (fun _ h => absurd h List.not_mem_nil)⟩⟩⟩⟩⟩⟩⟩⟩⟩⟩⟩⟩⟩⟩⟩⟩⟩⟩⟩⟩⟩⟩⟩⟩⟩⟩⟩⟩⟩⟩⟩⟩⟩⟩⟩⟩⟩⟩⟩⟩
def cvL6 : List Nat := [306, 307, 308, 309, 310, 311, 312, 313, 314, 315, 316, 317, 318, 319, 320, 321, 322, 323, 324, 325, 326, 327, 328, 329, 330, 345, 346, 347, 348, 349, 350, 351, 355, 356, 357, 358, 359, 360, 361, 362]
theorem cvA6 : ∀ m ∈ cvL6, caV m := List.forall_mem_cons.mpr ⟨ca_306, List.forall_mem_cons.mpr ⟨ca_307, List.forall_mem_cons.mpr ⟨ca_308, List.forall_mem_cons.mpr ⟨ca_309, List.forall_mem_cons.mpr ⟨ca_310, List.forall_mem_cons.mpr ⟨ca_311, List.forall_mem_cons.mpr ⟨ca_312, List.forall_mem_cons.mpr ⟨ca_313, List.forall_mem_cons.mpr ⟨ca_314, List.forall_mem_cons.mpr ⟨ca_315, List.forall_mem_cons.mpr ⟨ca_316, List.forall_mem_cons.mpr ⟨ca_317, List.forall_mem_cons.mpr ⟨ca_318, List.forall_mem_cons.mpr ⟨ca_319, List.forall_mem_cons.mpr ⟨ca_320, List.forall_mem_cons.mpr ⟨ca_321, List.forall_mem_cons.mpr ⟨ca_322, List.forall_mem_cons.mpr ⟨ca_323, List.forall_mem_cons.mpr ⟨ca_324, List.forall_mem_cons.mpr ⟨ca_325, List.forall_mem_cons.mpr ⟨ca_326, List.forall_mem_cons.mpr ⟨ca_327, List.forall_mem_cons.mpr ⟨ca_328, List.forall_mem_cons.mpr ⟨ca_329, List.forall_mem_cons.mpr ⟨ca_330, List.forall_mem_cons.mpr ⟨ca_345, List.forall_mem_cons.mpr ⟨ca_346, List.forall_mem_cons.mpr ⟨ca_347, List.forall_mem_cons.mpr ⟨ca_348, List.forall_mem_cons.mpr ⟨ca_349, List.forall_mem_cons.mpr ⟨ca_350, List.forall_mem_cons.mpr ⟨ca_351, List.forall_mem_cons.mpr ⟨ca_355, List.forall_mem_cons.mpr ⟨ca_356, List.forall_mem_cons.mpr ⟨ca_357, List.forall_mem_cons.mpr ⟨ca_358, List.forall_mem_cons.mpr ⟨ca_359, List.forall_mem_cons.mpr ⟨ca_360, List.forall_mem_cons.mpr ⟨ca_361, List.forall_mem_cons.mpr ⟨ca_362, (fun _ h => absurd h List.not_mem_nil)⟩⟩⟩⟩⟩⟩⟩⟩⟩⟩⟩⟩⟩⟩⟩⟩⟩⟩⟩⟩⟩⟩⟩⟩⟩⟩⟩⟩⟩⟩⟩⟩⟩⟩⟩⟩⟩⟩⟩⟩
def cvL7 : List Nat := [363, 364, 365, 366, 367, 368, 369, 370, 371, 372, 373, 374, 375, 376, 377, 379, 380, 381, 382, 383, 384, 385, 386, 387, 388, 390, 391, 392, 393, 394, 395, 397, 398, 399, 400, 401, 402, 405, 406, 407]
theorem cvA7 : ∀ m ∈ cvL7, caV m := List.forall_mem_cons.mpr ⟨ca_363, List.forall_mem_cons.mpr ⟨ca_364, List.forall_mem_cons.mpr ⟨ca_365, List.forall_mem_cons.mpr ⟨ca_366, List.forall_mem_cons.mpr ⟨ca_367, List.forall_mem_cons.mpr ⟨ca_368, List.forall_mem_cons.mpr ⟨ca_369, List.forall_mem_cons.mpr ⟨ca_370, List.forall_mem_cons.mpr ⟨ca_371, List.forall_mem_cons.mpr ⟨ca_372, List.forall_mem_cons.mpr ⟨ca_373, List.forall_mem_cons.mpr ⟨ca_374, List.forall_mem_cons.mpr ⟨ca_375, List.forall_mem_cons.mpr ⟨ca_376, List.forall_mem_cons.mpr ⟨ca_377, List.forall_mem_cons.mpr ⟨ca_379, List.forall_mem_cons.mpr ⟨ca_380, List.forall_mem_cons.mpr ⟨ca_381, List.forall_mem_cons.mpr ⟨ca_382, List.forall_mem_cons.mpr ⟨ca_383, List.forall_mem_cons.mpr ⟨ca_384, List.forall_mem_cons.mpr ⟨ca_385, List.forall_mem_cons.mpr ⟨ca_386, List.forall_mem_cons.mpr ⟨ca_387, List.forall_mem_cons.mpr ⟨ca_388, List.forall_mem_cons.mpr ⟨ca_390, List.forall_mem_cons.mpr ⟨ca_391, List.forall_mem_cons.mpr ⟨ca_392, List.forall_mem_cons.mpr ⟨ca_393, List.forall_mem_cons.mpr ⟨ca_394, List.forall_mem_cons.mpr ⟨ca_395, List.forall_mem_cons.mpr ⟨ca_397, List.forall_mem_cons.mpr ⟨ca_398, List.forall_mem_cons.mpr ⟨ca_399, List.forall_mem_cons.mpr ⟨ca_400, List.forall_mem_cons.mpr ⟨ca_401, List.forall_mem_cons.mpr ⟨ca_402, List.forall_mem_cons.mpr ⟨ca_405, List.forall_mem_cons.mpr ⟨ca_406, List.forall_mem_cons.mpr ⟨ca_407, (fun _ h => absurd h List.not_mem_nil)⟩⟩⟩⟩⟩⟩⟩⟩⟩⟩⟩⟩⟩⟩⟩⟩⟩⟩⟩⟩⟩⟩⟩⟩⟩⟩⟩⟩⟩⟩⟩⟩⟩⟩⟩⟩⟩⟩⟩⟩
def cvL8 : List Nat := [408, 409, 410, 411, 412, 413, 414, 415, 416, 417, 418, 419, 420, 421, 422, 430, 431, 432, 433, 434, 435, 436, 437, 438, 439, 442, 443, 447, 448, 449, 451, 452, 453, 454, 455, 456, 457, 458, 459, 460]
theorem cvA8 : ∀ m ∈ cvL8, caV m := List.forall_mem_cons.mpr ⟨ca_408, List.forall_mem_cons.mpr ⟨ca_409, List.forall_mem_cons.mpr ⟨ca_410, List.forall_mem_cons.mpr ⟨ca_411, List.forall_mem_cons.mpr ⟨ca_412, List.forall_mem_cons.mpr ⟨ca_413, List.forall_mem_cons.mpr ⟨ca_414, List.forall_mem_cons.mpr ⟨ca_415, List.forall_mem_cons.mpr ⟨ca_416, List.forall_mem_cons.mpr ⟨ca_417, List.forall_mem_cons.mpr ⟨ca_418, List.forall_mem_cons.mpr ⟨ca_419, List.forall_mem_cons.mpr ⟨ca_420, List.forall_mem_cons.mpr ⟨ca_421, List.forall_mem_cons.mpr ⟨ca_422, List.forall_mem_cons.mpr ⟨ca_430, List.forall_mem_cons.mpr ⟨ca_431, List.forall_mem_cons.mpr ⟨ca_432, List.forall_mem_cons.mpr ⟨ca_433, List.forall_mem_cons.mpr ⟨ca_434, List.forall_mem_cons.mpr ⟨ca_435, List.forall_mem_cons.mpr ⟨ca_436, List.forall_mem_cons.mpr ⟨ca_437, List.forall_mem_cons.mpr ⟨ca_438, List.forall_mem_cons.mpr ⟨ca_439, List.forall_mem_cons.mpr ⟨ca_442, List.forall_mem_cons.mpr ⟨ca_443, List.forall_mem_cons.mpr ⟨ca_447, List.forall_mem_cons.mpr ⟨ca_448, List.forall_mem_cons.mpr ⟨ca_449, List.forall_mem_cons.mpr ⟨ca_451, List.forall_mem_cons.mpr ⟨ca_452, List.forall_mem_cons.mpr ⟨ca_453, List.forall_mem_cons.mpr ⟨ca_454, List.forall_mem_cons.mpr ⟨ca_455, List.forall_mem_cons.mpr ⟨ca_456, List.forall_mem_cons.mpr ⟨ca_457, List.forall_mem_cons.mpr ⟨ca_458, List.forall_mem_cons.mpr ⟨ca_459, List.forall_mem_cons.mpr ⟨ca_460, (fun _ h => absurd h List.not_mem_nil)⟩⟩⟩⟩⟩⟩⟩⟩⟩⟩⟩⟩⟩⟩⟩⟩⟩⟩⟩⟩⟩⟩⟩⟩⟩⟩⟩⟩⟩⟩⟩⟩⟩⟩⟩⟩⟩⟩⟩⟩
def cvL9 : List Nat := [461, 462, 463, 464, 465, 466, 467, 468, 469, 470, 471, 472, 473, 474, 475, 478, 480, 481, 482, 483, 484, 485, 486, 487, 488, 489, 490, 491, 492, 493, 494, 495, 496, 497, 498, 499, 500, 501, 502, 503]
theorem cvA9 : ∀ m ∈ cvL9, caV m := List.forall_mem_cons.mpr ⟨ca_461, List.forall_mem_cons.mpr ⟨ca_462, List.forall_mem_cons.mpr ⟨ca_463, List.forall_mem_cons.mpr ⟨ca_464, List.forall_mem_cons.mpr ⟨ca_465, List.forall_mem_cons.mpr ⟨ca_466, List.forall_mem_cons.mpr ⟨ca_467, List.forall_mem_cons.mpr ⟨ca_468, List.forall_mem_cons.mpr ⟨ca_469, List.forall_mem_cons.mpr ⟨ca_470, List.forall_mem_cons.mpr ⟨ca_471, List.forall_mem_cons.mpr ⟨ca_472, List.forall_mem_cons.mpr ⟨ca_473, List.forall_mem_cons.mpr ⟨ca_474, List.forall_mem_cons.mpr ⟨ca_475, List.forall_mem_cons.mpr ⟨ca_478, List.forall_mem_cons.mpr ⟨ca_480, List.forall_mem_cons.mpr ⟨ca_481, List.forall_mem_cons.mpr ⟨ca_482, List.forall_mem_cons.mpr ⟨ca_483, List.forall_mem_cons.mpr ⟨ca_484, List.forall_mem_cons.mpr ⟨ca_485, List.forall_mem_cons.mpr ⟨ca_486, List.forall_mem_cons.mpr ⟨ca_487, List.forall_mem_cons.mpr ⟨ca_488, List.forall_mem_cons.mpr ⟨ca_489, List.forall_mem_cons.mpr ⟨ca_490, List.forall_mem_cons.mpr ⟨ca_491, List.forall_mem_cons.mpr ⟨ca_492, List.forall_mem_cons.mpr ⟨ca_493, List.forall_mem_cons.mpr ⟨ca_494, List.forall_mem_cons.mpr ⟨ca_495, List.forall_mem_cons.mpr ⟨ca_496, List.forall_mem_cons.mpr ⟨ca_497, List.forall_mem_cons.mpr ⟨ca_498, List.forall_mem_cons.mpr ⟨ca_499, List.forall_mem_cons.mpr ⟨ca_500, List.forall_mem_cons.mpr ⟨ca_501, List.forall_mem_cons.mpr ⟨ca_502, List.forall_mem_cons.mpr ⟨ca_503, (fun _ h => absurd h List.not_mem_nil)⟩⟩⟩⟩⟩⟩⟩⟩⟩⟩⟩⟩⟩⟩⟩⟩⟩⟩⟩⟩⟩⟩⟩⟩⟩⟩⟩⟩⟩⟩⟩⟩⟩⟩⟩⟩⟩⟩⟩⟩
def cvL10 : List Nat := [504, 505, 506, 507, 509, 510, 511, 512, 513, 514, 515, 516, 517, 518, 519, 520, 521, 522, 523, 524, 525, 526, 527, 528, 529, 530, 531, 532, 533, 534, 535, 536, 537, 538, 539, 540, 541, 542, 543, 544]
theorem cvA10 : ∀ m ∈ cvL10, caV m := List.forall_mem_cons.mpr ⟨ca_504, List.forall_mem_cons.mpr ⟨ca_505, List.forall_mem_cons.mpr ⟨ca_506, List.forall_mem_cons.mpr ⟨ca_507, List.forall_mem_cons.mpr ⟨ca_509, List.forall_mem_cons.mpr ⟨ca_510, List.forall_mem_cons.mpr ⟨ca_511, List.forall_mem_cons.mpr ⟨ca_512, List.forall_mem_cons.mpr ⟨ca_513, List.forall_mem_cons.mpr ⟨ca_514, List.forall_mem_cons.mpr ⟨ca_515, List.forall_mem_cons.mpr ⟨ca_516, List.forall_mem_cons.mpr ⟨ca_517, List.forall_mem_cons.mpr ⟨ca_518, List.forall_mem_cons.mpr ⟨ca_519, List.forall_mem_cons.mpr ⟨ca_520, List.forall_mem_cons.mpr ⟨ca_521, List.forall_mem_cons.mpr ⟨ca_522, List.forall_mem_cons.mpr ⟨ca_523, List.forall_mem_cons.mpr ⟨ca_524, List.forall_mem_cons.mpr ⟨ca_525, List.forall_mem_cons.mpr ⟨ca_526, List.forall_mem_cons.mpr ⟨ca_527, List.forall_mem_cons.mpr ⟨ca_528, List.forall_mem_cons.mpr ⟨ca_529, List.forall_mem_cons.mpr ⟨ca_530, List.forall_mem_cons.mpr ⟨ca_531, List.forall_mem_cons.mpr ⟨ca_532, List.forall_mem_cons.mpr ⟨ca_533, List.forall_mem_cons.mpr ⟨ca_534, List.forall_mem_cons.mpr ⟨ca_535, List.forall_mem_cons.mpr ⟨ca_536, List.forall_mem_cons.mpr ⟨ca_537, List.forall_mem_cons.mpr ⟨ca_538, List.forall_mem_cons.mpr ⟨ca_539, List.forall_mem_cons.mpr ⟨ca_540, List.forall_mem_cons.mpr ⟨ca_541, List.forall_mem_cons.mpr ⟨ca_542, List.forall_mem_cons.mpr ⟨ca_543, List.forall_mem_cons.mpr ⟨ca_544, (fun _ h => absurd h List.not_mem_nil)⟩⟩⟩⟩⟩⟩⟩⟩⟩⟩⟩⟩⟩⟩⟩⟩⟩⟩⟩⟩⟩⟩⟩⟩⟩⟩⟩⟩⟩⟩⟩⟩⟩⟩⟩⟩⟩⟩⟩⟩
def cvL11 : List Nat := [545, 546, 547, 548, 550, 551, 552, 553, 554, 555, 556, 557, 558, 559, 560, 562, 563, 564, 565, 566, 567, 568, 573, 574, 575, 576]
theorem cvA11 : ∀ m ∈ cvL11, caV m := List.forall_mem_cons.mpr ⟨ca_545, List.forall_mem_cons.mpr ⟨ca_546, List.forall_mem_cons.mpr ⟨ca_547, List.forall_mem_cons.mpr ⟨ca_548, List.forall_mem_cons.mpr ⟨ca_550, List.forall_mem_cons.mpr ⟨ca_551, List.forall_mem_cons.mpr ⟨ca_552, List.forall_mem_cons.mpr ⟨ca_553, List.forall_mem_cons.mpr ⟨ca_554, List.forall_mem_cons.mpr ⟨ca_555, List.forall_mem_cons.mpr ⟨ca_556, List.forall_mem_cons.mpr ⟨ca_557, List.forall_mem_cons.mpr ⟨ca_558, List.forall_mem_cons.mpr ⟨ca_559, List.forall_mem_cons.mpr ⟨ca_560, List.forall_mem_cons.mpr ⟨ca_562, List.forall_mem_cons.mpr ⟨ca_563, List.forall_mem_cons.mpr ⟨ca_564, List.forall_mem_cons.mpr ⟨ca_565, List.forall_mem_cons.mpr ⟨ca_566, List.forall_mem_cons.mpr ⟨ca_567, List.forall_mem_cons.mpr ⟨ca_568, List.forall_mem_cons.mpr ⟨ca_573, List.forall_mem_cons.mpr ⟨ca_574, List.forall_mem_cons.mpr ⟨ca_575, List.forall_mem_cons.mpr ⟨ca_576, (fun _ h => absurd h List.not_mem_nil)⟩⟩⟩⟩⟩⟩⟩⟩⟩⟩⟩⟩⟩⟩⟩⟩⟩⟩⟩⟩⟩⟩⟩⟩⟩⟩
def cvL : List Nat := cvL0 ++ (cvL1 ++ (cvL2 ++ (cvL3 ++ (cvL4 ++ (cvL5 ++ (cvL6 ++ (cvL7 ++ (cvL8 ++ (cvL9 ++ (cvL10 ++ (cvL11)))))))))))
theorem cvA : ∀ m ∈ cvL, caV m := List.forall_mem_append.mpr ⟨cvA0, List.forall_mem_append.mpr ⟨cvA1, List.forall_mem_append.mpr ⟨cvA2, List.forall_mem_append.mpr ⟨cvA3, List.forall_mem_append.mpr ⟨cvA4, List.forall_mem_append.mpr ⟨cvA5, List.forall_mem_append.mpr ⟨cvA6, List.forall_mem_append.mpr ⟨cvA7, List.forall_mem_append.mpr ⟨cvA8, List.forall_mem_append.mpr ⟨cvA9, List.forall_mem_append.mpr ⟨cvA10, cvA11⟩⟩⟩⟩⟩⟩⟩⟩⟩⟩⟩
def tgK (pc : Nat) (off : Int) (a : Nat) : Bool := decide ((pc : Int) + off = (a : Int))
def swK (pc : Nat) : List (Int × Nat) → List (Int × Int) → Bool
  | [], [] => true
  | q :: t, p :: u => decide (q.1 = p.1) && tgK pc p.2 q.2 && swK pc t u
  | _, _ => false
def rmK (m a : Nat) : Bool := decide (frM a + 1 ≤ frM m) && decide (10 + (mX a + 11) + loM a ≤ loM m)
def chkI (m : Nat) (x : Ins) : Bool := match x with
  | (i, pc, a, b, k, t) => match i with
    | .istore_n n => decide (n.val < mX m)
    | .istore n => decide (n < mX m)
    | .astore_n n => decide (n.val < mX m)
    | .astore n => decide (n < mX m)
    | .lstore_n n => decide (n.val + 1 < mX m)
    | .lstore n => decide (n + 1 < mX m)
    | .iinc n _ => decide (n < mX m)
    | .iconst n => decide (-1 ≤ n ∧ n ≤ 5)
    | .bipush n => decide (-128 ≤ n ∧ n < 128)
    | .sipush n => decide (-32768 ≤ n ∧ n < 32768)
    | .ldc j => (match t with
      | (v, _) :: _ => if k = 0 then decide ((owM m, j, v) ∈ kiM) && decide (-2147483648 ≤ v ∧ v < 2147483648) else decide ((owM m, j, a) ∈ ksM) && decide (a < stN)
      | [] => true)
    | .ldc_w j => (match t with
      | (v, _) :: _ => if k = 0 then decide ((owM m, j, v) ∈ kiM) && decide (-2147483648 ≤ v ∧ v < 2147483648) else decide ((owM m, j, a) ∈ ksM) && decide (a < stN)
      | [] => true)
    | .ldc2_w j => (match t with
      | (v, _) :: _ => decide ((owM m, j, v) ∈ kjM)
      | [] => true)
    | .ifCond _ o => tgK pc o a
    | .if_icmp _ o => tgK pc o a
    | .if_acmp _ o => tgK pc o a && decide (k = 0)
    | .ifnull o => tgK pc o a
    | .ifnonnull o => tgK pc o a
    | .goto o => tgK pc o a
    | .tableswitch d lo hi offs => tgK pc d a && decide (hi = lo + offs.size - 1) && swK pc t ((List.range offs.size).map fun (j : Nat) => (lo + (j : Int), offs.getD j 0))
    | .lookupswitch d ps => tgK pc d a && swK pc t ps.toList && (ps.toList.zip (ps.toList.drop 1)).all (fun (a, next) => a.1 < next.1)
    | .getfield j => if a = 30 then decide ((owM m, j, b) ∈ sfM) && decide (b < 2) && decide (k = 7 + b) else decide ((owM m, j, a, b) ∈ flM) && decide (a < 12) && decide (b < clN a) && decide (fkK a b = k)
    | .putfield j => decide ((owM m, j, a, b) ∈ flM) && decide (a < 12) && decide (b < clN a) && decide (fkK a b = k)
    | .getstatic j => (match t with
      | (v, _) :: _ => decide ((owM m, j) ∈ gsM) && decide (v = 1)
      | [] => true)
    | .iaload => decide (a = 3 ∨ a = 9)
    | .baload => decide (a = 1 ∨ a = 2 ∨ a = 8)
    | .laload => decide (a = 4)
    | .aaload => decide (5 ≤ a ∧ a ≤ 7)
    | .iastore => decide (a = 3)
    | .bastore => decide (a = 1 ∨ a = 2)
    | .lastore => true
    | .aastore => decide (a = 5 ∨ a = 7)
    | .arraylength => decide ((1 ≤ a ∧ a ≤ 4) ∨ a = 8 ∨ a = 9)
    | .invokevirtual j => (match t with
      | [] => decide ((owM m, j, a) ∈ mlM) && decide (a ∈ cvL) && decide (psN a = b) && decide (owM a = k) && rmK m a
      | _ => true)
    | .invokestatic j => (match t with
      | [] => decide ((owM m, j, a) ∈ mlM) && decide (a ∈ csL) && decide (psN a = b) && rmK m a
      | (1, _) :: _ => decide ((owM m, j) ∈ bcM) && decide (a = 1 ∨ a = 3 ∨ a = 4) && decide (3 ≤ frM m ∧ 60 ≤ loM m)
      | (2, _) :: _ => decide (owM m = 17 ∧ j = 9) && decide (3 ≤ frM m ∧ 60 ≤ loM m)
      | _ => true)
    | .ireturn => (match k with
      | 0 => decide (rN m = some .int)
      | 1 => decide (rN m = some .boolean)
      | 2 => decide (rN m = some .char)
      | _ => decide (rN m = some .byte))
    | .newarray q => decide (q = .int)
    | .new j => decide (a = 8 → owM m = 0 ∧ j = 3 ∧ 3 ≤ frM m ∧ 60 ≤ loM m)
    | .invokespecial j => decide (owM m = 0 → j = 52)
    | .lreturn => decide (rN m = some .long)
    | .areturn => (match rN m with
      | some (.object _) => true
      | some (.array _) => true
      | _ => false)
    | .return_ => decide (rN m = none)
    | _ => true
/-- how long an instruction is -/
def ilK (i : Instr) (n : Nat) : Bool := match i with
  | .tableswitch _ _ _ _ => true
  | .lookupswitch _ _ => true
  | .bipush _ => decide (n = 2)
  | .iload _ => decide (n = 2)
  | .lload _ => decide (n = 2)
  | .aload _ => decide (n = 2)
  | .istore _ => decide (n = 2)
  | .lstore _ => decide (n = 2)
  | .astore _ => decide (n = 2)
  | .ldc _ => decide (n = 2)
  | .newarray _ => decide (n = 2)
  | .sipush _ => decide (n = 3)
  | .ldc_w _ => decide (n = 3)
  | .ldc2_w _ => decide (n = 3)
  | .iinc _ _ => decide (n = 3)
  | .ifCond _ _ => decide (n = 3)
  | .if_icmp _ _ => decide (n = 3)
  | .if_acmp _ _ => decide (n = 3)
  | .ifnull _ => decide (n = 3)
  | .ifnonnull _ => decide (n = 3)
  | .goto _ => decide (n = 3)
  | .getfield _ => decide (n = 3)
  | .putfield _ => decide (n = 3)
  | .getstatic _ => decide (n = 3)
  | .invokevirtual _ => decide (n = 3)
  | .invokestatic _ => decide (n = 3)
  | .invokespecial _ => decide (n = 3)
  | .new _ => decide (n = 3)
  | .invokedynamic _ => true
  | _ => decide (n = 1)
/-- a stretch of code, from pc on, is the method's -/
def sq (m : Nat) : Nat → List Ins → Prop
  | _, [] => True
  | pc, x :: r => (x.1 = .nop ∧ sq m pc r) ∨ (x.1 ≠ .nop ∧ x.2.1 = pc ∧ ∃ n, decode (bN m) pc = .ok (x.1, n) ∧ ilK x.1 n = true ∧ chkI m x = true ∧ sq m (pc + n) r)
def chkL (m : Nat) : Nat → List Ins → Nat → Bool
  | pc, [], e => decide (pc = e)
  | pc, x :: r, e => if x.1 = .nop then chkL m pc r e else decide (x.2.1 = pc) && (match decode (bN m) pc with
    | .ok q => decide (q.1 = x.1) && ilK x.1 q.2 && chkI m x && chkL m (pc + q.2) r e
    | .error _ => false)
theorem sq_app {m : Nat} : ∀ {xs r : List Ins} {pc e : Nat}, chkL m pc xs e = true → sq m e r → sq m pc (xs ++ r)
  | [], r, pc, e, h, hr => by
    have : pc = e := by simpa [chkL] using h
    subst this
    exact hr
  | x :: xs, r, pc, e, h, hr => by
    unfold chkL at h
    split at h
    · rename_i h0
      exact Or.inl ⟨h0, sq_app h hr⟩
    · rename_i h0
      simp only [Bool.and_eq_true, decide_eq_true_eq] at h
      obtain ⟨h1, h2⟩ := h
      split at h2
      · rename_i q hq
        simp only [Bool.and_eq_true, decide_eq_true_eq] at h2
        exact Or.inr ⟨h0, h1, q.2, by rw [hq, ← h2.1.1.1], h2.1.1.2, h2.1.2, sq_app h2.2 hr⟩
      · cases h2
theorem sq_take {m pc e : Nat} (k : Nat) {B : List Ins} (h : chkL m pc (B.take k) e = true) (hr : sq m e (B.drop k)) : sq m pc B := by
  have := sq_app h hr
  rwa [List.take_append_drop] at this
