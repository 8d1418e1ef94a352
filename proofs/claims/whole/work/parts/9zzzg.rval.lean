/-! ===== the reference: what stands behind REG = ===== -/
/-- a statement's fields at first; D stands -/
def stZ (σ : MS) (d : Int) : Prop := gI σ 80 27 = d ∧ gI σ 80 28 = 0 ∧ gI σ 80 29 = 0 ∧ gI σ 80 30 = 0 ∧ gI σ 80 31 = 0 ∧ gI σ 80 33 = 0
section RVA
variable {t : Nat → Int} {n i j k m : Nat} {σ τ ρ υ : MS} {c d e o w x x1 x2 x3 y s g r B : Int} {v : B64} {q : B64 × Int} {T : TK}
theorem stZ_q (h : stZ σ d) (f : rqW τ σ) : stZ τ d := ⟨(f.1 _ _ (by omega)).trans h.1, (f.1 _ _ (by omega)).trans h.2.1, (f.1 _ _ (by omega)).trans h.2.2.1, (f.1 _ _ (by omega)).trans h.2.2.2.1, (f.1 _ _ (by omega)).trans h.2.2.2.2.1, (f.1 _ _ (by omega)).trans h.2.2.2.2.2⟩
theorem fO_ {s s' : Nat} (h : ¬ s' = s) : gI (sI σ 80 s x) 80 s' = gI σ 80 s' := by rw [gI_sI, if_neg (by omega)]
theorem fS_ {s : Nat} : gI (sI σ 80 s x) 80 s = x := by rw [gI_sI, if_pos ⟨rfl, rfl⟩]
theorem orT_k (h : ¬ (orT t T).1 < 0) : tK T = 2 := by
  refine Classical.byContradiction fun c => h ?_
  have n : ∀ j, ¬ nmP' t T j := fun j z => c (nm_k z)
  unfold orT
  rw [if_neg (n 62), if_neg (n 65), if_neg (n 68), if_neg (n 63), if_neg (n 66), if_neg (n 69), if_neg (n 64), if_neg (n 67), if_neg (n 70)]
  decide
/-- a number behind REG = -/
theorem T381 {m : Int} (h : RG σ t n k) (z : stZ σ (iAnd r 15)) (hw : w = wOf r) (hB : B = bOf r) : okc (MM 381 [mR (some 80), mI w, mI B, mI m] σ) none (fun τ => oR (pPln t (tks t n) r m k) (eR σ τ) (stP t n σ τ)) := by
  rw [M381, e381_0]
  unfold pPln
  by_cases c3 : tK (tks t n k) = 3 ∧ tkS (tks t n k) = 0
  · rw [if_neg (show ¬ ¬ (tK (tks t n k) = 3 ∧ tkS (tks t n k) = 0) from fun z => z c3), T372g h c3]
    simp only [Option.bind_some, Option.toList_some, Option.toList_none, List.cons_append, List.nil_append]
    rw [e381_4]
    refine okc_b (T373g h (by rw [c3.1]; decide)) fun τ1 p1 => ?_
    rw [RG_10 h, RG_12 h c3.1]
    show okc (RR (lkB tb381) (B381_20, [some (mR (some 80)), some (mI w), some (mI B), some (mI m), some (mI (tB (tks t n k) : Int)), some (mL (tV (tks t n k))), none], [], τ1)) none _
    obtain ⟨V, hV⟩ : ∃ V, V = tV (tks t n k) := ⟨_, rfl⟩
    obtain ⟨b, hb⟩ : ∃ b : Nat, b = tB (tks t n k) := ⟨_, rfl⟩
    rw [← hV, ← hb]
    have g1 : RG τ1 t n (k + 1) := p1.2
    have f1 : rfn τ1 σ := rfn_W p1.1
    have z1 := stZ_q z p1.1
    have bad : gI (sI τ1 80 14 (b : Int)) 80 14 = (b : Int) := by rw [gI_sI, if_pos ⟨rfl, rfl⟩]
    have bad0 : 0 ≤ gI (sI τ1 80 14 (b : Int)) 80 14 := by rw [bad]; omega
    -- ll
    have s63 : ∀ ρ : MS, ((gI ρ 80 14 = (b : Int) ∧ rfn ρ (sI τ1 80 14 (b : Int))) → okc (RR (lkB tb381) (B381_63, [some (mR (some 80)), some (mI w), some (mI B), some (mI m), some (mI (b : Int)), some (mL V), none], [], ρ)) none (fun τ => eR σ τ (b : Int))) := fun ρ hρ => by
      have s75 : ∀ y : B64, okc (RR (lkB tb381) (B381_75, [some (mR (some 80)), some (mI w), some (mI B), some (mI m), some (mI (b : Int)), some (mL V), none], [mL y], ρ)) none (fun τ => eR σ τ (b : Int)) := fun y => by
        have hb0 : gI (sI (sL (sI (sI ρ 80 26 24) 80 30 (lI y)) 80 32 (y &&& iL (-4294967296))) 80 33 1) 80 14 = (b : Int) := by
          rw [fO_ (by decide), gI_sL, fO_ (by decide), fO_ (by decide)]
          exact hρ.1
        rw [e381_75, e381_100, T373b (by rw [hb0]; omega)]
        simp only [Option.bind_some, Option.toList_some, Option.toList_none, List.cons_append, List.nil_append]
        rw [e381_109]
        exact okc_s ⟨rfr_t (rfr_I ⟨by omega, by omega⟩) (rfr_t rfr_L (rfr_t (rfr_I ⟨by omega, by omega⟩) (rfr_t (rfr_I ⟨by omega, by omega⟩) (rfr_t (rfr_n hρ.2) (rfr_t rfr_14 (rfr_n f1)))))), hb0, by omega⟩
      rw [e381_63]
      by_cases cm : m = 0
      · rw [if_pos cm]
        exact s75 _
      · rw [if_neg cm]
        exact s75 _
    have s110 : okc (RR (lkB tb381) (B381_110, [some (mR (some 80)), some (mI w), some (mI B), some (mI m), some (mI (b : Int)), some (mL V), none], [], τ1)) none (fun τ => oR (if (if m = 0 then iL 4294967295 else iL 2147483648) < V then .inl (b : Int) else .inr (((iOr 176 (bOf r), iAnd r 15, 0, 0, lI (sgV m V)), (0, 0, 0), none), k + 1)) (eR σ τ) (stP t n σ τ)) := by
      obtain ⟨Y, hY⟩ : ∃ Y, Y = if m = 0 then iL 4294967295 else iL 2147483648 := ⟨_, rfl⟩
      have s123 : RR (lkB tb381) (B381_110, [some (mR (some 80)), some (mI w), some (mI B), some (mI m), some (mI (b : Int)), some (mL V), none], [], τ1) = RR (lkB tb381) (B381_123, [some (mR (some 80)), some (mI w), some (mI B), some (mI m), some (mI (b : Int)), some (mL V), none], [mL Y], τ1) := by
        rw [e381_110, hY]
        by_cases cm : m = 0
        · rw [if_pos cm, if_pos cm]
        · rw [if_neg cm, if_neg cm]
      have s137 : ∀ ρ : MS, RR (lkB tb381) (B381_137, [some (mR (some 80)), some (mI w), some (mI B), some (mI m), some (mI (b : Int)), some (mL V), none], [], ρ) = some (none, sI (sI ρ 80 26 (iOr 176 B)) 80 30 (lI (sgV m V))) := fun ρ => by
        rw [e381_137]
        unfold sgV
        by_cases cm : m = 0
        · rw [if_pos cm, if_pos cm]
        · rw [if_neg cm, if_neg cm]
      rw [s123, ← hY, e381_123, T389]
      simp only [Option.bind_some, Option.toList_some, Option.toList_none, List.cons_append, List.nil_append]
      rw [e381_128]
      by_cases cl : Y < V
      · rw [b2_yes cl, if_neg n10, if_pos cl, T359g g1.2.2]
        simp only [Option.bind_some, Option.toList_some, Option.toList_none, List.cons_append, List.nil_append]
        rw [s137]
        exact okc_s ⟨rfr_t (rfr_I ⟨by omega, by omega⟩) (rfr_t (rfr_I ⟨by omega, by omega⟩) (rfr_t rfr_14 (rfr_n f1))), by rw [fO_ (by decide), fO_ (by decide)]; exact bad, by omega⟩
      · rw [b2_no cl, if_pos y00, if_neg cl, s137, hB]
        refine okc_s ⟨rfr_t (rfr_I ⟨by omega, by omega⟩) (rfr_t (rfr_I ⟨by omega, by omega⟩) (rfr_n f1)), RG_I (RG_I g1 (by omega)) (by omega), ⟨?_, ?_, ?_, ?_, ?_⟩, ⟨?_, fun a => (a.elim (fun a => absurd rfl a) (fun a => absurd rfl a)), ?_⟩, lnR_n (rfn_t (rfn_I ⟨by omega, by omega⟩) (rfn_t (rfn_I ⟨by omega, by omega⟩) f1))⟩
        · rw [fO_ (by decide), fS_]
        · rw [fO_ (by decide), fO_ (by decide)]; exact z1.1
        · rw [fO_ (by decide), fO_ (by decide)]; exact z1.2.1
        · rw [fO_ (by decide), fO_ (by decide)]; exact z1.2.2.1
        · rw [fS_]
        · rw [fO_ (by decide), fO_ (by decide)]; exact z1.2.2.2.2.1
        · rw [fO_ (by decide), fO_ (by decide)]; exact z1.2.2.2.2.2
    rw [e381_20, T358g g1.2.2]
    simp only [Option.bind_some, Option.toList_some, Option.toList_none, List.cons_append, List.nil_append]
    rw [e381_24, if_pos n10]
    by_cases c16 : r < 16
    · have w0 : w = 0 := by rw [hw]; exact if_pos c16
      rw [if_neg (show ¬ ¬ w = 0 from fun z => z w0), N362 g1 (by decide)]
      simp only [Option.bind_some, Option.toList_some, Option.toList_none, List.cons_append, List.nil_append]
      rw [e381_39]
      by_cases cl : nmP' t (tks t n (k + 1)) 71
      · rw [b2_yes cl, if_neg n10, if_pos (show r < 16 ∧ nmP' t (tks t n (k + 1)) 71 from ⟨c16, cl⟩)]
        have well : (¬ (¬ m = 0 ∧ iL (-9223372036854775808) < V)) → okc (RR (lkB tb381) (B381_63, [some (mR (some 80)), some (mI w), some (mI B), some (mI m), some (mI (b : Int)), some (mL V), none], [], τ1)) none (fun τ => oR (if ¬ m = 0 ∧ iL (-9223372036854775808) < V then .inl (b : Int) else .inr (((24, iAnd r 15, 0, 0, lI (sgV m V)), (0, sgV m V &&& iL (-4294967296), 1), none), k + 2)) (eR σ τ) (stP t n σ τ)) := fun ng => by
          rw [if_neg ng]
          obtain ⟨X, hX⟩ : ∃ X, X = sgV m V := ⟨_, rfl⟩
          have s75 : okc (RR (lkB tb381) (B381_75, [some (mR (some 80)), some (mI w), some (mI B), some (mI m), some (mI (b : Int)), some (mL V), none], [mL X], τ1)) none (fun τ => stP t n σ τ (((24, iAnd r 15, 0, 0, lI X), (0, X &&& iL (-4294967296), 1), none), k + 2)) := by
            rw [e381_75, e381_100]
            have gg : RG (sI (sL (sI (sI τ1 80 26 24) 80 30 (lI X)) 80 32 (X &&& iL (-4294967296))) 80 33 1) t n (k + 1) := RG_I (RG_Lx (RG_I (RG_I g1 (by omega)) (by omega)) (by omega)) (by omega)
            have ff : rfn (sI (sL (sI (sI τ1 80 26 24) 80 30 (lI X)) 80 32 (X &&& iL (-4294967296))) 80 33 1) σ := rfn_t (rfn_I ⟨by omega, by omega⟩) (rfn_t rfn_L (rfn_t (rfn_I ⟨by omega, by omega⟩) (rfn_t (rfn_I ⟨by omega, by omega⟩) f1)))
            refine okc_b (T373g gg (by rw [nm_k cl]; decide)) fun τ2 p2 => ?_
            show okc (RR (lkB tb381) (B381_109, [some (mR (some 80)), some (mI w), some (mI B), some (mI m), some (mI (b : Int)), some (mL X), none], [], τ2)) none _
            rw [e381_109]
            refine okc_s ⟨rfr_n (rfn_t (rfn_W p2.1) ff), p2.2, ⟨?_, ?_, ?_, ?_, ?_⟩, ⟨?_, fun a => ?_, ?_⟩, lnR_n (rfn_t (rfn_W p2.1) ff)⟩
            · rw [p2.1.1 _ _ (by omega), fO_ (by decide), gI_sL, fO_ (by decide), fS_]
            · rw [p2.1.1 _ _ (by omega), fO_ (by decide), gI_sL, fO_ (by decide), fO_ (by decide)]; exact z1.1
            · rw [p2.1.1 _ _ (by omega), fO_ (by decide), gI_sL, fO_ (by decide), fO_ (by decide)]; exact z1.2.1
            · rw [p2.1.1 _ _ (by omega), fO_ (by decide), gI_sL, fO_ (by decide), fO_ (by decide)]; exact z1.2.2.1
            · rw [p2.1.1 _ _ (by omega), fO_ (by decide), gI_sL, fS_]
            · rw [p2.1.1 _ _ (by omega), fO_ (by decide), gI_sL, fO_ (by decide), fO_ (by decide)]; exact z1.2.2.2.2.1
            · rw [p2.1.2.1 _ _ (by omega), gL_sI, gL_sL, if_pos ⟨rfl, rfl⟩]
            · rw [p2.1.1 _ _ (by omega), fS_]
          rw [e381_63, ← hX]
          unfold sgV at hX
          by_cases cm : m = 0
          · rw [if_pos cm] at hX
            rw [if_pos cm]
            subst hX
            exact s75
          · rw [if_neg cm] at hX
            rw [if_neg cm]
            subst hX
            exact s75
        by_cases cm : m = 0
        · rw [if_pos cm]
          exact well (fun z => z.1 cm)
        · rw [if_neg cm, T389]
          simp only [Option.bind_some, Option.toList_some, Option.toList_none, List.cons_append, List.nil_append]
          rw [e381_54]
          by_cases cx : iL (-9223372036854775808) < V
          · rw [b2_yes cx, if_neg n10, if_pos (show ¬ m = 0 ∧ iL (-9223372036854775808) < V from ⟨cm, cx⟩), T359g g1.2.2]
            simp only [Option.bind_some, Option.toList_some, Option.toList_none, List.cons_append, List.nil_append]
            exact s63 _ ⟨bad, rfn_r _⟩
          · rw [b2_no cx, if_pos y00]
            exact well (fun z => cx z.2)
      · rw [b2_no cl, if_pos y00, if_neg (show ¬ (r < 16 ∧ nmP' t (tks t n (k + 1)) 71) from fun z => cl z.2)]
        exact s110
    · have w1 : w = 1 := by rw [hw]; exact if_neg c16
      rw [if_pos (show ¬ w = 0 by omega), if_neg (show ¬ (r < 16 ∧ nmP' t (tks t n (k + 1)) 71) from fun z => c16 z.1)]
      exact s110
  · have hb := rqE_0 (mis h)
    rw [if_pos (show ¬ (tK (tks t n k) = 3 ∧ tkS (tks t n k) = 0) from c3), T372e h c3]
    simp only [Option.bind_some, Option.toList_some, Option.toList_none, List.cons_append, List.nil_append]
    rw [e381_4, T373b hb]
    simp only [Option.bind_some, Option.toList_some, Option.toList_none, List.cons_append, List.nil_append]
    rw [e381_20, T358b hb]
    simp only [Option.bind_some, Option.toList_some, Option.toList_none, List.cons_append, List.nil_append]
    rw [e381_24, if_neg (fun z => z y00)]
    exact okc_s (eR_m h (rfr_r _))
/-- le16 and so on -/
theorem last_of {L : List Nat} {c : Int} (h : nmB t T L = true) (hl : 1 ≤ L.length) (hc : ((L.getD (L.length - 1) 0 : Nat) : Int) = c) : t (tE T - 1) = c := by
  obtain ⟨a, b⟩ := nm_l h
  have e := b (L.length - 1) (by omega)
  rwa [show tB T + (L.length - 1) = tE T - 1 by omega, hc] at e
theorem st_62 : strAt 62 = [108, 101, 49, 54] := by decide +kernel
theorem st_63 : strAt 63 = [98, 101, 49, 54] := by decide +kernel
theorem st_64 : strAt 64 = [98, 115, 119, 97, 112, 49, 54] := by decide +kernel
theorem st_65 : strAt 65 = [108, 101, 51, 50] := by decide +kernel
theorem st_66 : strAt 66 = [98, 101, 51, 50] := by decide +kernel
theorem st_67 : strAt 67 = [98, 115, 119, 97, 112, 51, 50] := by decide +kernel
theorem st_68 : strAt 68 = [108, 101, 54, 52] := by decide +kernel
theorem st_69 : strAt 69 = [98, 101, 54, 52] := by decide +kernel
theorem st_70 : strAt 70 = [98, 115, 119, 97, 112, 54, 52] := by decide +kernel
theorem T380 (h : RG σ t n k) (z : stZ σ (iAnd r 15)) (hr : 0 ≤ r) (hw : w = wOf r) : okc (MM 380 [mR (some 80), mI r, mI w] σ) none (fun τ => oR (if (orT t (tks t n k)).1 < 0 ∨ ¬ r < 16 then .inl (tB (tks t n k) : Int) else if ¬ rgR t (tks t n (k + 1)) = r then .inl (tB (tks t n (k + 1)) : Int) else .inr ((((orT t (tks t n k)).1, iAnd r 15, 0, 0, (orT t (tks t n k)).2), (0, 0, 0), none), k + 2)) (eR σ τ) (stP t n σ τ)) := by
  obtain ⟨T, hT⟩ : ∃ T, T = tks t n k := ⟨_, rfl⟩
  have le := tks_le (t := t) (n := n) k
  have n4 := h.1.2.1
  have N := fun j (hj : j < 117) => N362 h hj
  rw [← hT] at N le
  rw [← hT]
  -- what it is
  have s109 : ∀ o : Int, o = (orT t T).1 → (0 ≤ o → (t (tE T - 1) = 54 ∧ (orT t T).2 = 16) ∨ (t (tE T - 1) = 50 ∧ (orT t T).2 = 32) ∨ (t (tE T - 1) = 52 ∧ (orT t T).2 = 64)) → okc (RR (lkB tb380) (B380_109, [some (mR (some 80)), some (mI r), some (mI w), none, none], [mI o], σ)) none (fun τ => oR (if (orT t T).1 < 0 ∨ ¬ r < 16 then .inl (tB T : Int) else if ¬ rgR t (tks t n (k + 1)) = r then .inl (tB (tks t n (k + 1)) : Int) else .inr ((((orT t T).1, iAnd r 15, 0, 0, (orT t T).2), (0, 0, 0), none), k + 2)) (eR σ τ) (stP t n σ τ)) := fun o ho hs => by
    rw [← ho]
    have s118 : ∀ y : Int, okc (RR (lkB tb380) (B380_118, [some (mR (some 80)), some (mI r), some (mI w), some (mI y), none], [], σ)) none (fun τ => eR σ τ (tB T : Int)) := fun y => by
      rw [e380_118, T359g h.2.2, RG_10 h, ← hT]
      simp only [Option.bind_some, Option.toList_some, Option.toList_none, List.cons_append, List.nil_append]
      rw [e380_126]
      have := eR_m h (rfr_r _)
      rw [← hT] at this
      exact okc_s this
    rw [e380_109]
    by_cases o0 : o < 0
    · rw [if_pos o0, if_pos (Or.inl o0)]
      exact s118 o
    · rw [if_neg o0, hw]
      by_cases c16 : r < 16
      · have w0 : wOf r = 0 := if_pos c16
        have k2 : tK T = 2 := orT_k (t := t) (by omega)
        have lt : tB T < tE T := by
          have := tks_lt (t := t) (n := n) (k := k) (by rw [← hT, k2]; decide)
          rw [← hT] at this
          exact this.1
        have l8 : gI σ 80 8 = (tE T : Int) := by
          have := RG_8 h (by rw [← hT, k2]; decide)
          rwa [← hT] at this
        have gT : ∀ j, gI σ 81 j = t j := h.1.2.2.1
        have w1 : w32 ((tE T : Int) - 1) = ((tE T - 1 : Nat) : Int) := w32_sub (a := 1) (by omega) (by omega)
        have u81 : Option.isSome (some 81) = true ∧ ab σ 1 81 ((tE T - 1 : Nat) : Int) := g81' (by omega)
        have s167 : ∀ y4 : Int, okc (RR (lkB tb380) (B380_167, [some (mR (some 80)), some (mI r), some (mI (wOf r)), some (mI o), some (mI y4)], [mI (orT t T).2, mR (some 80)], σ)) none (fun τ => oR (if ¬ rgR t (tks t n (k + 1)) = r then .inl (tB (tks t n (k + 1)) : Int) else .inr (((o, iAnd r 15, 0, 0, (orT t T).2), (0, 0, 0), none), k + 2)) (eR σ τ) (stP t n σ τ)) := fun y4 => by
          rw [e380_167]
          refine okc_b (A355 (RG_I (RG_I h (by omega)) (by omega)) (by rw [← hT, k2]; decide)) fun τ1 p1 => ?_
          show okc (RR (lkB tb380) (B380_179, [some (mR (some 80)), some (mI r), some (mI (wOf r)), some (mI o), some (mI y4)], [], τ1)) none _
          have f1 : rfn τ1 σ := rfn_t (rfn_W p1.1) (rfn_t (rfn_I ⟨by omega, by omega⟩) (rfn_I ⟨by omega, by omega⟩))
          rw [e380_179, T364 p1.2]
          simp only [Option.bind_some, Option.toList_some, Option.toList_none, List.cons_append, List.nil_append]
          rw [e380_183]
          by_cases cr : rgR t (tks t n (k + 1)) = r
          · have k3 : tK (tks t n (k + 1)) = 2 := rgR_n (t := t) (by omega)
            rw [if_pos cr, if_neg (show ¬ ¬ rgR t (tks t n (k + 1)) = r from fun z => z cr), e380_195]
            refine okc_b (T373g p1.2 (by rw [k3]; decide)) fun τ2 p2 => ?_
            show okc (RR (lkB tb380) (B380_199, [some (mR (some 80)), some (mI r), some (mI (wOf r)), some (mI o), some (mI y4)], [], τ2)) none _
            rw [e380_199]
            have f2 : rfn τ2 σ := rfn_t (rfn_W p2.1) f1
            refine okc_s ⟨rfr_n f2, p2.2, ⟨?_, ?_, ?_, ?_, ?_⟩, ⟨?_, fun a => (a.elim (fun a => absurd rfl a) (fun a => absurd rfl a)), ?_⟩, lnR_n f2⟩
            · rw [p2.1.1 _ _ (by omega), p1.1.1 _ _ (by omega), fS_]
            · rw [p2.1.1 _ _ (by omega), p1.1.1 _ _ (by omega), fO_ (by decide), fO_ (by decide)]; exact z.1
            · rw [p2.1.1 _ _ (by omega), p1.1.1 _ _ (by omega), fO_ (by decide), fO_ (by decide)]; exact z.2.1
            · rw [p2.1.1 _ _ (by omega), p1.1.1 _ _ (by omega), fO_ (by decide), fO_ (by decide)]; exact z.2.2.1
            · rw [p2.1.1 _ _ (by omega), p1.1.1 _ _ (by omega), fO_ (by decide), fS_]
            · rw [p2.1.1 _ _ (by omega), p1.1.1 _ _ (by omega), fO_ (by decide), fO_ (by decide)]; exact z.2.2.2.2.1
            · rw [p2.1.1 _ _ (by omega), p1.1.1 _ _ (by omega), fO_ (by decide), fO_ (by decide)]; exact z.2.2.2.2.2
          · rw [if_neg cr, if_pos (show ¬ rgR t (tks t n (k + 1)) = r from cr), T359g p1.2.2.2, RG_10 p1.2]
            simp only [Option.bind_some, Option.toList_some, Option.toList_none, List.cons_append, List.nil_append]
            rw [e380_195, T373b (rqE_0 (mis p1.2))]
            simp only [Option.bind_some, Option.toList_some, Option.toList_none, List.cons_append, List.nil_append]
            rw [e380_199]
            exact okc_s (eR_m p1.2 (rfr_n f1))
        rw [if_pos w0, if_neg (show ¬ (o < 0 ∨ ¬ r < 16) by omega), l8, w1, if_pos u81, Int.toNat_natCast, gT]
        rcases hs (by omega) with ⟨a1, a2⟩ | ⟨a1, a2⟩ | ⟨a1, a2⟩
        · rw [a1, if_neg (show ¬ ¬ (54 : Int) = 54 by decide)]
          have := s167 54
          rw [a2] at this ⊢
          exact this
        · rw [a1, if_pos (show ¬ (50 : Int) = 54 by decide), if_neg (show ¬ ¬ (50 : Int) = 50 by decide)]
          have := s167 50
          rw [a2] at this ⊢
          exact this
        · rw [a1, if_pos (show ¬ (52 : Int) = 54 by decide), if_pos (show ¬ (52 : Int) = 50 by decide)]
          have := s167 52
          rw [a2] at this ⊢
          exact this
      · have w1 : wOf r = 1 := if_neg c16
        rw [w1, if_neg n10, ← w1, ← hw, if_pos (Or.inr c16)]
        exact s118 o
  rw [M380, e380_0, N 62 (by decide)]
  simp only [Option.bind_some, Option.toList_some, Option.toList_none, List.cons_append, List.nil_append]
  rw [e380_7]
  by_cases b62 : nmP' t T 62
  · have eo : orT t T = (212, 16) := by
      unfold orT
      rw [if_pos b62]
    rw [b2_yes b62, if_pos n10, e380_30]
    exact s109 212 (by rw [eo]) (fun _ => Or.inl ⟨last_of b62 (by rw [st_62]; decide) (by rw [st_62]; decide), by rw [eo]⟩)
  · rw [b2_no b62, if_neg (fun z => z y00), N 65 (by decide)]
    simp only [Option.bind_some, Option.toList_some, Option.toList_none, List.cons_append, List.nil_append]
    rw [e380_17]
    by_cases b65 : nmP' t T 65
    · have eo : orT t T = (212, 32) := by
        unfold orT
        rw [if_neg b62, if_pos b65]
      rw [b2_yes b65, if_pos n10, e380_30]
      exact s109 212 (by rw [eo]) (fun _ => Or.inr (Or.inl ⟨last_of b65 (by rw [st_65]; decide) (by rw [st_65]; decide), by rw [eo]⟩))
    · rw [b2_no b65, if_neg (fun z => z y00), N 68 (by decide)]
      simp only [Option.bind_some, Option.toList_some, Option.toList_none, List.cons_append, List.nil_append]
      rw [e380_27]
      by_cases b68 : nmP' t T 68
      · have eo : orT t T = (212, 64) := by
          unfold orT
          rw [if_neg b62, if_neg b65, if_pos b68]
        rw [b2_yes b68, if_neg n10, e380_30]
        exact s109 212 (by rw [eo]) (fun _ => Or.inr (Or.inr ⟨last_of b68 (by rw [st_68]; decide) (by rw [st_68]; decide), by rw [eo]⟩))
      · rw [b2_no b68, if_pos y00, N 63 (by decide)]
        simp only [Option.bind_some, Option.toList_some, Option.toList_none, List.cons_append, List.nil_append]
        rw [e380_43]
        by_cases b63 : nmP' t T 63
        · have eo : orT t T = (220, 16) := by
            unfold orT
            rw [if_neg b62, if_neg b65, if_neg b68, if_pos b63]
          rw [b2_yes b63, if_pos n10, e380_66]
          exact s109 220 (by rw [eo]) (fun _ => Or.inl ⟨last_of b63 (by rw [st_63]; decide) (by rw [st_63]; decide), by rw [eo]⟩)
        · rw [b2_no b63, if_neg (fun z => z y00), N 66 (by decide)]
          simp only [Option.bind_some, Option.toList_some, Option.toList_none, List.cons_append, List.nil_append]
          rw [e380_53]
          by_cases b66 : nmP' t T 66
          · have eo : orT t T = (220, 32) := by
              unfold orT
              rw [if_neg b62, if_neg b65, if_neg b68, if_neg b63, if_pos b66]
            rw [b2_yes b66, if_pos n10, e380_66]
            exact s109 220 (by rw [eo]) (fun _ => Or.inr (Or.inl ⟨last_of b66 (by rw [st_66]; decide) (by rw [st_66]; decide), by rw [eo]⟩))
          · rw [b2_no b66, if_neg (fun z => z y00), N 69 (by decide)]
            simp only [Option.bind_some, Option.toList_some, Option.toList_none, List.cons_append, List.nil_append]
            rw [e380_63]
            by_cases b69 : nmP' t T 69
            · have eo : orT t T = (220, 64) := by
                unfold orT
                rw [if_neg b62, if_neg b65, if_neg b68, if_neg b63, if_neg b66, if_pos b69]
              rw [b2_yes b69, if_neg n10, e380_66]
              exact s109 220 (by rw [eo]) (fun _ => Or.inr (Or.inr ⟨last_of b69 (by rw [st_69]; decide) (by rw [st_69]; decide), by rw [eo]⟩))
            · rw [b2_no b69, if_pos y00, N 64 (by decide)]
              simp only [Option.bind_some, Option.toList_some, Option.toList_none, List.cons_append, List.nil_append]
              rw [e380_79]
              by_cases b64 : nmP' t T 64
              · have eo : orT t T = (215, 16) := by
                  unfold orT
                  rw [if_neg b62, if_neg b65, if_neg b68, if_neg b63, if_neg b66, if_neg b69, if_pos b64]
                rw [b2_yes b64, if_pos n10, e380_102]
                exact s109 215 (by rw [eo]) (fun _ => Or.inl ⟨last_of b64 (by rw [st_64]; decide) (by rw [st_64]; decide), by rw [eo]⟩)
              · rw [b2_no b64, if_neg (fun z => z y00), N 67 (by decide)]
                simp only [Option.bind_some, Option.toList_some, Option.toList_none, List.cons_append, List.nil_append]
                rw [e380_89]
                by_cases b67 : nmP' t T 67
                · have eo : orT t T = (215, 32) := by
                    unfold orT
                    rw [if_neg b62, if_neg b65, if_neg b68, if_neg b63, if_neg b66, if_neg b69, if_neg b64, if_pos b67]
                  rw [b2_yes b67, if_pos n10, e380_102]
                  exact s109 215 (by rw [eo]) (fun _ => Or.inr (Or.inl ⟨last_of b67 (by rw [st_67]; decide) (by rw [st_67]; decide), by rw [eo]⟩))
                · rw [b2_no b67, if_neg (fun z => z y00), N 70 (by decide)]
                  simp only [Option.bind_some, Option.toList_some, Option.toList_none, List.cons_append, List.nil_append]
                  rw [e380_99]
                  by_cases b70 : nmP' t T 70
                  · have eo : orT t T = (215, 64) := by
                      unfold orT
                      rw [if_neg b62, if_neg b65, if_neg b68, if_neg b63, if_neg b66, if_neg b69, if_neg b64, if_neg b67, if_pos b70]
                    rw [b2_yes b70, if_neg n10, e380_102]
                    exact s109 215 (by rw [eo]) (fun _ => Or.inr (Or.inr ⟨last_of b70 (by rw [st_70]; decide) (by rw [st_70]; decide), by rw [eo]⟩))
                  · have eo : orT t T = (-1, 0) := by
                      unfold orT
                      rw [if_neg b62, if_neg b65, if_neg b68, if_neg b63, if_neg b66, if_neg b69, if_neg b64, if_neg b67, if_neg b70]
                    rw [b2_no b70, if_pos y00]
                    exact s109 (-1) (by rw [eo]) (fun z => by omega)
end RVA
