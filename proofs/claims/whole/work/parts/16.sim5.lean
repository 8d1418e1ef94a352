set_option maxHeartbeats 3000000 in
set_option maxRecDepth 20000 in
theorem sim (l : Launch) (hsq : ∀ a, a ∈ csL ∨ a ∈ cvL → ∀ b, sq a b (tG a b)) : ∀ n, SimN l n := by
  intro n
  induction n with
  | zero =>
    intro p e R s m args below meth c Q A D cA M r σ' cE sE n0 ad0 C hqt hsX hlim hret sfx pc ls st σ ad H locs cells slots LS hrun0 hS hl hv hlv hq
    cases hrun0
  | succ n ih =>
    intro p e R s m args below meth c Q A D cA M r σ' cE sE n0 ad0 C hqt hsX hlim hret sfx pc ls st σ ad H locs cells slots LS hrun0 hS hl hv hlv hq
    have IH := ih p e R s m args below meth c Q A D cA M r σ' cE sE n0 ad0 C hqt hsX hlim hret
    obtain ⟨hx, hb, hml, hown, hts, hK, hA, hR1, hR2, hR3, hAX⟩ := id C
    have hsX1 : sX ad σ.2.2.2.2.2 A s s.heap := by
      have hsc : σ'.2.2.2.2.2 = σ.2.2.2.2.2 := (run_mo _ _ _ _ hrun0).2.2
      rw [← hsc]
      exact sX_ext (fun k hk => hS.2.2.2.2.1.2 k (Or.inr hk)) hsX
    cases sfx with
    | nil => exact (run_nil hrun0).elim
    | cons x rr =>
    obtain ⟨i, pc', a, b, k, t⟩ := x
    rcases hq with ⟨h0, hq'⟩ | ⟨h0, hpc, n1, hd, hN, hc, hq'⟩
    · have h0 : i = .nop := h0
      subst h0
      have hrun := run_nx hrun0 rfl
      exact IH _ _ _ _ _ _ _ _ _ _ _ hrun hS hl hv hlv hq'
    have hpc : pc' = pc := hpc
    subst hpc
    cases i with
    | iload_n j =>
      obtain ⟨x, hj, hrun⟩ := iLdI hrun0 rfl
      have hn : n1 = 1 := by simpa [ilK] using hN
      subst hn
      refine lv_iload_n hx hb hd rfl (loc_get hl hj) ?_
      exact IH _ _ _ _ _ _ _ _ _ _ _ hrun hS hl (ok2 (hlv _ (mem_get hj)) hv) hlv hq'
    | iload j =>
      obtain ⟨x, hj, hrun⟩ := iLdI hrun0 rfl
      have hn : n1 = 2 := by simpa [ilK] using hN
      subst hn
      refine lv_iload hx hb hd (loc_get hl hj) ?_
      exact IH _ _ _ _ _ _ _ _ _ _ _ hrun hS hl (ok2 (hlv _ (mem_get hj)) hv) hlv hq'
    | lload_n j =>
      obtain ⟨x, hj, hrun⟩ := iLdL hrun0 rfl
      have hn : n1 = 1 := by simpa [ilK] using hN
      subst hn
      refine lv_lload_n hx hb hd rfl (loc_get hl hj) ?_
      exact IH _ _ _ _ _ _ _ _ _ _ _ hrun hS hl (ok2 (hlv _ (mem_get hj)) hv) hlv hq'
    | lload j =>
      obtain ⟨x, hj, hrun⟩ := iLdL hrun0 rfl
      have hn : n1 = 2 := by simpa [ilK] using hN
      subst hn
      refine lv_lload hx hb hd (loc_get hl hj) ?_
      exact IH _ _ _ _ _ _ _ _ _ _ _ hrun hS hl (ok2 (hlv _ (mem_get hj)) hv) hlv hq'
    | aload_n j =>
      obtain ⟨x, hj, hrun⟩ := iLdR hrun0 rfl
      have hn : n1 = 1 := by simpa [ilK] using hN
      subst hn
      cases x with
      | some x =>
        refine lv_aload_n hx hb hd rfl (loc_get hl hj) ?_
        exact IH _ _ _ _ _ _ _ _ _ _ _ hrun hS hl (ok2 (hlv _ (mem_get hj)) hv) hlv hq'
      | none =>
        refine lv_aload_nN hx hb hd rfl (loc_get hl hj) ?_
        exact IH _ _ _ _ _ _ _ _ _ _ _ hrun hS hl (ok2 (hlv _ (mem_get hj)) hv) hlv hq'
    | aload j =>
      obtain ⟨x, hj, hrun⟩ := iLdR hrun0 rfl
      have hn : n1 = 2 := by simpa [ilK] using hN
      subst hn
      cases x with
      | some x =>
        refine lv_aload hx hb hd (loc_get hl hj) ?_
        exact IH _ _ _ _ _ _ _ _ _ _ _ hrun hS hl (ok2 (hlv _ (mem_get hj)) hv) hlv hq'
      | none =>
        refine lv_aloadN hx hb hd (loc_get hl hj) ?_
        exact IH _ _ _ _ _ _ _ _ _ _ _ hrun hS hl (ok2 (hlv _ (mem_get hj)) hv) hlv hq'
    | istore_n j =>
      obtain ⟨x, s', rfl, hrun⟩ := iStI hrun0 rfl
      have hn : n1 = 1 := by simpa [ilK] using hN
      subst hn
      refine lv_istore_n hx hb hd rfl hl (of_decide_eq_true hc) rfl (fun LS' hl' => ?_)
      exact IH _ _ _ _ _ _ _ _ _ _ _ hrun hS (lv_less hl' loc_l1) (ok_t hv) (l1_ok hlv (ok_h hv)) hq'
    | istore j =>
      obtain ⟨x, s', rfl, hrun⟩ := iStI hrun0 rfl
      have hn : n1 = 2 := by simpa [ilK] using hN
      subst hn
      refine lv_istore hx hb hd hl (of_decide_eq_true hc) rfl (fun LS' hl' => ?_)
      exact IH _ _ _ _ _ _ _ _ _ _ _ hrun hS (lv_less hl' loc_l1) (ok_t hv) (l1_ok hlv (ok_h hv)) hq'
    | lstore_n j =>
      obtain ⟨x, s', rfl, hrun⟩ := iStL hrun0 rfl
      have hn : n1 = 1 := by simpa [ilK] using hN
      subst hn
      refine lv_lstore_n hx hb hd rfl hl (of_decide_eq_true hc) rfl (fun LS' hl' => ?_)
      exact IH _ _ _ _ _ _ _ _ _ _ _ hrun hS (lv_less hl' loc_l2) (ok_t hv) (l2_ok hlv (ok_h hv)) hq'
    | lstore j =>
      obtain ⟨x, s', rfl, hrun⟩ := iStL hrun0 rfl
      have hn : n1 = 2 := by simpa [ilK] using hN
      subst hn
      refine lv_lstore hx hb hd hl (of_decide_eq_true hc) rfl (fun LS' hl' => ?_)
      exact IH _ _ _ _ _ _ _ _ _ _ _ hrun hS (lv_less hl' loc_l2) (ok_t hv) (l2_ok hlv (ok_h hv)) hq'
    | astore_n j =>
      obtain ⟨x, s', rfl, hrun⟩ := iStR hrun0 rfl
      have hn : n1 = 1 := by simpa [ilK] using hN
      subst hn
      cases x with
      | some x =>
        refine lv_astore_n hx hb hd rfl hl (of_decide_eq_true hc) rfl (fun LS' hl' => ?_)
        exact IH _ _ _ _ _ _ _ _ _ _ _ hrun hS (lv_less hl' loc_l1) (ok_t hv) (l1_ok hlv (ok_h hv)) hq'
      | none =>
        refine lv_astore_nN hx hb hd rfl hl (of_decide_eq_true hc) rfl (fun LS' hl' => ?_)
        exact IH _ _ _ _ _ _ _ _ _ _ _ hrun hS (lv_less hl' loc_l1) (ok_t hv) (l1_ok hlv (ok_h hv)) hq'
    | astore j =>
      obtain ⟨x, s', rfl, hrun⟩ := iStR hrun0 rfl
      have hn : n1 = 2 := by simpa [ilK] using hN
      subst hn
      cases x with
      | some x =>
        refine lv_astore hx hb hd hl (of_decide_eq_true hc) rfl (fun LS' hl' => ?_)
        exact IH _ _ _ _ _ _ _ _ _ _ _ hrun hS (lv_less hl' loc_l1) (ok_t hv) (l1_ok hlv (ok_h hv)) hq'
      | none =>
        refine lv_astoreN hx hb hd hl (of_decide_eq_true hc) rfl (fun LS' hl' => ?_)
        exact IH _ _ _ _ _ _ _ _ _ _ _ hrun hS (lv_less hl' loc_l1) (ok_t hv) (l1_ok hlv (ok_h hv)) hq'
    | iinc j d =>
      obtain ⟨x, hj, hrun⟩ := iInc hrun0 rfl
      have hn : n1 = 3 := by simpa [ilK] using hN
      subst hn
      obtain ⟨kk, hkk⟩ := List.mem_iff_getElem?.mp (locL_mem.mpr ⟨_, hj, rfl⟩ : (j, rV ad (mI x)) ∈ locL ad ls)
      refine lv_iinc (v := rI (w32 (x + d))) hx hb hd hl (k := kk) hkk (rI_add x d) (of_decide_eq_true hc) rfl (fun LS' hl' => ?_)
      exact IH _ _ _ _ _ _ _ _ _ _ _ hrun hS (lv_less hl' loc_l1) hv (l1_ok hlv (w32_in _)) hq'
    | iconst v =>
      have hrun := run_nx hrun0 rfl
      have hn : n1 = 1 := by simpa [ilK] using hN
      subst hn
      have hv1 := of_decide_eq_true hc
      refine lv_iconst (v := rI v) hx hb hd rfl ?_
      exact IH _ _ _ _ _ _ _ _ _ _ _ hrun hS hl (ok2 (by show inR v; unfold inR; omega) hv) hlv hq'
    | bipush v =>
      have hrun := run_nx hrun0 rfl
      have hn : n1 = 2 := by simpa [ilK] using hN
      subst hn
      have hv1 := of_decide_eq_true hc
      refine lv_bipush (v := rI v) hx hb hd (by rw [show Int8.ofInt v = (rI v).toInt8 from Int32.toInt8_ofInt.symm, rI_i2b]; congr 1; unfold w8; rw [Int.bmod_def]; omega) ?_
      exact IH _ _ _ _ _ _ _ _ _ _ _ hrun hS hl (ok2 (by show inR v; unfold inR; omega) hv) hlv hq'
    | sipush v =>
      have hrun := run_nx hrun0 rfl
      have hn : n1 = 3 := by simpa [ilK] using hN
      subst hn
      have hv1 := of_decide_eq_true hc
      have hin : inR v := by unfold inR; omega
      refine lv_sipush (v := rI v) hx hb hd (by rw [show Int16.ofInt v = (rI v).toInt16 from Int32.toInt16_ofInt.symm, rI_i2s hin]; congr 1; unfold w16; rw [Int.bmod_def]; omega) ?_
      exact IH _ _ _ _ _ _ _ _ _ _ _ hrun hS hl (ok2 hin hv) hlv hq'
    | lconst v =>
      have hrun := run_nx hrun0 rfl
      have hn : n1 = 1 := by simpa [ilK] using hN
      subst hn
      refine lv_lconst (v := rJ (BitVec.ofNat 64 v.val)) hx hb hd rfl ?_
      exact IH _ _ _ _ _ _ _ _ _ _ _ hrun hS hl (ok2 True.intro hv) hlv hq'
    | aconst_null =>
      have hrun := run_nx hrun0 rfl
      have hn : n1 = 1 := by simpa [ilK] using hN
      subst hn
      refine lv_null hx hb hd ?_
      exact IH _ _ _ _ _ _ _ _ _ _ _ hrun hS hl (ok2 (fun j h => by cases h) hv) hlv hq'
    | ldc j =>
      obtain ⟨v, b', t', rfl, hrun⟩ := iLdc hrun0 rfl
      have hn : n1 = 2 := by simpa [ilK] using hN
      subst hn
      rcases hrun with ⟨h0, hrun⟩ | ⟨h0, hrun⟩
      · subst h0
        simp only [chkI, if_pos, Bool.and_eq_true, decide_eq_true_eq] at hc
        refine lv_ldc (v := rI v) hx hb hown (hts _ (kiA hc.1)) hd ?_
        exact IH _ _ _ _ _ _ _ _ _ _ _ hrun hS hl (ok2 (by show inR v; unfold inR; omega) hv) hlv hq'
      · simp only [chkI, if_neg h0, Bool.and_eq_true, decide_eq_true_eq] at hc
        have hk9 : vk_R (owS (owM M)) j (stT.getD a "") (ad (strK + a)) s := hsX1.2.2.1 (owM M, j, a) hc.1
        refine va_ldcS hx hb hown hk9 hd ?_
        exact IH _ _ _ _ _ _ _ _ _ _ _ hrun hS hl (ok2 (fun j e => Or.inr (by cases e; exact Nat.le_trans (show scrK ≤ strK by decide) (Nat.le_add_right _ _))) hv) hlv hq'
    | ldc_w j =>
      obtain ⟨v, b', t', rfl, hrun⟩ := iLdc hrun0 rfl
      have hn : n1 = 3 := by simpa [ilK] using hN
      subst hn
      rcases hrun with ⟨h0, hrun⟩ | ⟨h0, hrun⟩
      · subst h0
        simp only [chkI, if_pos, Bool.and_eq_true, decide_eq_true_eq] at hc
        refine lv_ldcw (v := rI v) hx hb hown (hts _ (kiA hc.1)) hd ?_
        exact IH _ _ _ _ _ _ _ _ _ _ _ hrun hS hl (ok2 (by show inR v; unfold inR; omega) hv) hlv hq'
      · simp only [chkI, if_neg h0, Bool.and_eq_true, decide_eq_true_eq] at hc
        have hk9 : vk_R (owS (owM M)) j (stT.getD a "") (ad (strK + a)) s := hsX1.2.2.1 (owM M, j, a) hc.1
        refine va_ldcSw hx hb hown hk9 hd ?_
        exact IH _ _ _ _ _ _ _ _ _ _ _ hrun hS hl (ok2 (fun j e => Or.inr (by cases e; exact Nat.le_trans (show scrK ≤ strK by decide) (Nat.le_add_right _ _))) hv) hlv hq'
    | ldc2_w j =>
      obtain ⟨v, b', t', rfl, hrun⟩ := iLd2 hrun0 rfl
      have hn : n1 = 3 := by simpa [ilK] using hN
      subst hn
      refine lv_ldc2 (v := rJ (iL v)) hx hb hown (hts _ (kjA (of_decide_eq_true hc))) hd ?_
      exact IH _ _ _ _ _ _ _ _ _ _ _ hrun hS hl (ok2 True.intro hv) hlv hq'
    | iadd =>
      obtain ⟨y, x, s', rfl, hrun⟩ := iBI hrun0 rfl
      have hn : n1 = 1 := by simpa [ilK] using hN
      subst hn
      refine lv_iadd hx hb hd ?_
      rw [rI_add]
      exact IH _ _ _ _ _ _ _ _ _ _ _ hrun hS hl (ok2 (w32_in _) (ok_t (ok_t hv))) hlv hq'
    | isub =>
      obtain ⟨y, x, s', rfl, hrun⟩ := iBI hrun0 rfl
      have hn : n1 = 1 := by simpa [ilK] using hN
      subst hn
      refine lv_isub hx hb hd ?_
      rw [rI_sub]
      exact IH _ _ _ _ _ _ _ _ _ _ _ hrun hS hl (ok2 (w32_in _) (ok_t (ok_t hv))) hlv hq'
    | imul =>
      obtain ⟨y, x, s', rfl, hrun⟩ := iBI hrun0 rfl
      have hn : n1 = 1 := by simpa [ilK] using hN
      subst hn
      refine lv_imul hx hb hd ?_
      rw [rI_mul]
      exact IH _ _ _ _ _ _ _ _ _ _ _ hrun hS hl (ok2 (w32_in _) (ok_t (ok_t hv))) hlv hq'
    | iand =>
      obtain ⟨y, x, s', rfl, hrun⟩ := iBI hrun0 rfl
      have hn : n1 = 1 := by simpa [ilK] using hN
      subst hn
      refine lv_iand hx hb hd ?_
      rw [rI_and]
      exact IH _ _ _ _ _ _ _ _ _ _ _ hrun hS hl (ok2 (b32_in _) (ok_t (ok_t hv))) hlv hq'
    | ior =>
      obtain ⟨y, x, s', rfl, hrun⟩ := iBI hrun0 rfl
      have hn : n1 = 1 := by simpa [ilK] using hN
      subst hn
      refine lv_ior hx hb hd ?_
      rw [rI_or]
      exact IH _ _ _ _ _ _ _ _ _ _ _ hrun hS hl (ok2 (b32_in _) (ok_t (ok_t hv))) hlv hq'
    | ixor =>
      obtain ⟨y, x, s', rfl, hrun⟩ := iBI hrun0 rfl
      have hn : n1 = 1 := by simpa [ilK] using hN
      subst hn
      refine lv_ixor hx hb hd ?_
      rw [rI_xor]
      exact IH _ _ _ _ _ _ _ _ _ _ _ hrun hS hl (ok2 (b32_in _) (ok_t (ok_t hv))) hlv hq'
    | ishl =>
      obtain ⟨y, x, s', rfl, hrun⟩ := iBI hrun0 rfl
      have hn : n1 = 1 := by simpa [ilK] using hN
      subst hn
      refine lv_ishl hx hb hd ?_
      rw [rI_shl (ok_h hv)]
      exact IH _ _ _ _ _ _ _ _ _ _ _ hrun hS hl (ok2 (w32_in _) (ok_t (ok_t hv))) hlv hq'
    | ishr =>
      obtain ⟨y, x, s', rfl, hrun⟩ := iBI hrun0 rfl
      have hn : n1 = 1 := by simpa [ilK] using hN
      subst hn
      refine lv_ishr hx hb hd ?_
      rw [(rI_shr (ok_h (ok_t hv)) (ok_h hv)).1]
      exact IH _ _ _ _ _ _ _ _ _ _ _ hrun hS hl (ok2 ((rI_shr (ok_h (ok_t hv)) (ok_h hv)).2) (ok_t (ok_t hv))) hlv hq'
    | idiv =>
      obtain ⟨y, x, s', rfl, h0, hrun⟩ := iBD hrun0 rfl
      have hn : n1 = 1 := by simpa [ilK] using hN
      subst hn
      refine lv_idiv hx hb hd (fun z => h0 ((rI_inj (ok_h hv) (y := 0) (by unfold inR; omega)).mp z)) ?_
      rw [rI_div (ok_h (ok_t hv)) (ok_h hv)]
      exact IH _ _ _ _ _ _ _ _ _ _ _ hrun hS hl (ok2 (w32_in _) (ok_t (ok_t hv))) hlv hq'
    | irem =>
      obtain ⟨y, x, s', rfl, h0, hrun⟩ := iBD hrun0 rfl
      have hn : n1 = 1 := by simpa [ilK] using hN
      subst hn
      refine lv_irem hx hb hd (fun z => h0 ((rI_inj (ok_h hv) (y := 0) (by unfold inR; omega)).mp z)) ?_
      rw [rI_rem (ok_h (ok_t hv)) (ok_h hv)]
      exact IH _ _ _ _ _ _ _ _ _ _ _ hrun hS hl (ok2 (tmod_in (ok_h (ok_t hv)) (ok_h hv)) (ok_t (ok_t hv))) hlv hq'
    | ineg =>
      obtain ⟨x, s', rfl, hrun⟩ := iUI hrun0 rfl
      have hn : n1 = 1 := by simpa [ilK] using hN
      subst hn
      refine lv_ineg hx hb hd ?_
      rw [rI_negv]
      exact IH _ _ _ _ _ _ _ _ _ _ _ hrun hS hl (ok2 (w32_in _) (ok_t hv)) hlv hq'
    | i2b =>
      obtain ⟨x, s', rfl, hrun⟩ := iUI hrun0 rfl
      have hn : n1 = 1 := by simpa [ilK] using hN
      subst hn
      refine lv_i2b hx hb hd (rI_i2b x) ?_
      exact IH _ _ _ _ _ _ _ _ _ _ _ hrun hS hl (ok2 (in8 (w8_in _)) (ok_t hv)) hlv hq'
    | i2s =>
      obtain ⟨x, s', rfl, hrun⟩ := iUI hrun0 rfl
      have hn : n1 = 1 := by simpa [ilK] using hN
      subst hn
      refine lv_i2s hx hb hd (rI_i2s (ok_h hv)) ?_
      exact IH _ _ _ _ _ _ _ _ _ _ _ hrun hS hl (ok2 (by show inR (w16 x); have := w16_in x; unfold inR; omega) (ok_t hv)) hlv hq'
    | ladd =>
      obtain ⟨y, x, s', rfl, hrun⟩ := iBL hrun0 rfl
      have hn : n1 = 1 := by simpa [ilK] using hN
      subst hn
      refine lv_ladd hx hb hd ?_
      exact IH _ _ _ _ _ _ _ _ _ _ _ hrun hS hl (ok2 True.intro (ok_t (ok_t hv))) hlv hq'
    | lsub =>
      obtain ⟨y, x, s', rfl, hrun⟩ := iBL hrun0 rfl
      have hn : n1 = 1 := by simpa [ilK] using hN
      subst hn
      refine lv_lsub hx hb hd ?_
      exact IH _ _ _ _ _ _ _ _ _ _ _ hrun hS hl (ok2 True.intro (ok_t (ok_t hv))) hlv hq'
    | lmul =>
      obtain ⟨y, x, s', rfl, hrun⟩ := iBL hrun0 rfl
      have hn : n1 = 1 := by simpa [ilK] using hN
      subst hn
      refine lv_lmul hx hb hd ?_
      exact IH _ _ _ _ _ _ _ _ _ _ _ hrun hS hl (ok2 True.intro (ok_t (ok_t hv))) hlv hq'
    | land =>
      obtain ⟨y, x, s', rfl, hrun⟩ := iBL hrun0 rfl
      have hn : n1 = 1 := by simpa [ilK] using hN
      subst hn
      refine lv_land hx hb hd ?_
      exact IH _ _ _ _ _ _ _ _ _ _ _ hrun hS hl (ok2 True.intro (ok_t (ok_t hv))) hlv hq'
    | lor =>
      obtain ⟨y, x, s', rfl, hrun⟩ := iBL hrun0 rfl
      have hn : n1 = 1 := by simpa [ilK] using hN
      subst hn
      refine lv_lor hx hb hd ?_
      exact IH _ _ _ _ _ _ _ _ _ _ _ hrun hS hl (ok2 True.intro (ok_t (ok_t hv))) hlv hq'
    | lxor =>
      obtain ⟨y, x, s', rfl, hrun⟩ := iBL hrun0 rfl
      have hn : n1 = 1 := by simpa [ilK] using hN
      subst hn
      refine lv_lxor hx hb hd ?_
      exact IH _ _ _ _ _ _ _ _ _ _ _ hrun hS hl (ok2 True.intro (ok_t (ok_t hv))) hlv hq'
    | ldiv =>
      obtain ⟨y, x, s', rfl, h0, hrun⟩ := iBE hrun0 rfl
      have hn : n1 = 1 := by simpa [ilK] using hN
      subst hn
      refine lv_ldiv hx hb hd (fun z => h0 (rJ_inj.mp z)) ?_
      rw [rJ_div]
      exact IH _ _ _ _ _ _ _ _ _ _ _ hrun hS hl (ok2 True.intro (ok_t (ok_t hv))) hlv hq'
    | lrem =>
      obtain ⟨y, x, s', rfl, h0, hrun⟩ := iBE hrun0 rfl
      have hn : n1 = 1 := by simpa [ilK] using hN
      subst hn
      refine lv_lrem hx hb hd (fun z => h0 (rJ_inj.mp z)) ?_
      rw [rJ_rem]
      exact IH _ _ _ _ _ _ _ _ _ _ _ hrun hS hl (ok2 True.intro (ok_t (ok_t hv))) hlv hq'
    | lshl =>
      obtain ⟨y, x, s', rfl, hrun⟩ := iBS hrun0 rfl
      have hn : n1 = 1 := by simpa [ilK] using hN
      subst hn
      refine lv_lshl hx hb hd (rJ_shl x (ok_h hv)) ?_
      exact IH _ _ _ _ _ _ _ _ _ _ _ hrun hS hl (ok2 True.intro (ok_t (ok_t hv))) hlv hq'
    | lshr =>
      obtain ⟨y, x, s', rfl, hrun⟩ := iBS hrun0 rfl
      have hn : n1 = 1 := by simpa [ilK] using hN
      subst hn
      refine lv_lshr hx hb hd (rJ_shr x (ok_h hv)) ?_
      exact IH _ _ _ _ _ _ _ _ _ _ _ hrun hS hl (ok2 True.intro (ok_t (ok_t hv))) hlv hq'
    | lushr =>
      obtain ⟨y, x, s', rfl, hrun⟩ := iBS hrun0 rfl
      have hn : n1 = 1 := by simpa [ilK] using hN
      subst hn
      refine lv_lushr hx hb hd (rJ_ushr x (ok_h hv)) ?_
      exact IH _ _ _ _ _ _ _ _ _ _ _ hrun hS hl (ok2 True.intro (ok_t (ok_t hv))) hlv hq'
    | i2c =>
      obtain ⟨x, s', rfl, hrun⟩ := iUI hrun0 rfl
      have hn : n1 = 1 := by simpa [ilK] using hN
      subst hn
      refine lv_i2c hx hb hd (rI_i2c x) ?_
      exact IH _ _ _ _ _ _ _ _ _ _ _ hrun hS hl (ok2 (by show inR (x % 65536); unfold inR; omega) (ok_t hv)) hlv hq'
    | getstatic j =>
      cases t with
      | nil => exact (run_no hrun0 rfl).elim
      | cons q tt =>
        obtain ⟨v, b'⟩ := q
        have hrun := run_nx hrun0 rfl
        have hn : n1 = 3 := by simpa [ilK] using hN
        subst hn
        simp only [chkI, Bool.and_eq_true, decide_eq_true_eq] at hc
        obtain ⟨hc1, rfl⟩ := hc
        obtain ⟨hP, hD, hH, hO, hS5⟩ := id hS
        have hl9 : (Jvm.Cond.fieldLink (owS (owM M)) j "java/lang/String" "COMPACT_STRINGS" "Z").before args s = true := hts _ (gsA hc1)
        refine va_gets hx hb hsX1.2.1 hH hown hl9 (fun _ h => h) hd ?_
        rw [show (1 : Int32) = rI 1 from rI1.symm]
        exact IH _ _ _ _ _ _ _ _ _ _ _ hrun hS hl (ok2 (by show inR 1; unfold inR; omega) hv) hlv hq'
    | lneg =>
      obtain ⟨x, s', rfl, hrun⟩ := iLng hrun0 rfl
      have hn : n1 = 1 := by simpa [ilK] using hN
      subst hn
      refine lv_lneg hx hb hd ?_
      exact IH _ _ _ _ _ _ _ _ _ _ _ hrun hS hl (ok2 True.intro (ok_t hv)) hlv hq'
    | i2l =>
      obtain ⟨x, s', rfl, hrun⟩ := iI2l hrun0 rfl
      have hn : n1 = 1 := by simpa [ilK] using hN
      subst hn
      refine lv_i2l hx hb hd (rI_i2l (ok_h hv)) ?_
      exact IH _ _ _ _ _ _ _ _ _ _ _ hrun hS hl (ok2 True.intro (ok_t hv)) hlv hq'
    | l2i =>
      obtain ⟨x, s', rfl, hrun⟩ := iL2i hrun0 rfl
      have hn : n1 = 1 := by simpa [ilK] using hN
      subst hn
      refine lv_l2i hx hb hd (rJ_l2i x) ?_
      exact IH _ _ _ _ _ _ _ _ _ _ _ hrun hS hl (ok2 (w32_in _) (ok_t hv)) hlv hq'
    | dup =>
      obtain ⟨v, s', rfl, hcat, hrun⟩ := iDup hrun0 rfl
      have hn : n1 = 1 := by simpa [ilK] using hN
      subst hn
      refine lv_dup hx hb hd (rV_cat1 hcat) ?_
      exact IH _ _ _ _ _ _ _ _ _ _ _ hrun hS hl (ok2 (ok_h hv) hv) hlv hq'
    | dup2 =>
      have hrun := iDup2 hrun0 rfl
      have hn : n1 = 1 := by simpa [ilK] using hN
      subst hn
      rcases hrun with ⟨x, s', rfl, hrun⟩ | ⟨y, x, s', rfl, hrun⟩
      · refine lv_dup2_2 hx hb hd rfl ?_
        exact IH _ _ _ _ _ _ _ _ _ _ _ hrun hS hl (ok2 (ok_h hv) hv) hlv hq'
      · refine lv_dup2_11 hx hb hd rfl (rV_cat1 (v := mR x) (fun b => by simp)) ?_
        exact IH _ _ _ _ _ _ _ _ _ _ _ hrun hS hl (ok2 (ok_h hv) (ok2 (ok_h (ok_t hv)) hv)) hlv hq'
    | pop =>
      obtain ⟨v, s', rfl, hcat, hrun⟩ := iPop hrun0 rfl
      have hn : n1 = 1 := by simpa [ilK] using hN
      subst hn
      refine lv_pop hx hb hd (rV_cat1 hcat) ?_
      exact IH _ _ _ _ _ _ _ _ _ _ _ hrun hS hl (ok_t hv) hlv hq'
    | pop2 =>
      obtain ⟨v, s', rfl, hrun⟩ := iPop2 hrun0 rfl
      have hn : n1 = 1 := by simpa [ilK] using hN
      subst hn
      refine lv_pop2_2 hx hb hd rfl ?_
      exact IH _ _ _ _ _ _ _ _ _ _ _ hrun hS hl (ok_t hv) hlv hq'
    | dup_x1 =>
      obtain ⟨y, x, s', rfl, hrun⟩ := iDx1 hrun0 rfl
      have hn : n1 = 1 := by simpa [ilK] using hN
      subst hn
      refine lv_dup_x1 hx hb hd rfl (rV_cat1 (v := mR x) (fun b => by simp)) ?_
      exact IH _ _ _ _ _ _ _ _ _ _ _ hrun hS hl (ok2 (ok_h hv) (ok2 (ok_h (ok_t hv)) (ok2 (ok_h hv) (ok_t (ok_t hv))))) hlv hq'
    | dup2_x1 =>
      obtain ⟨y, x, s', rfl, hrun⟩ := iD2x hrun0 rfl
      have hn : n1 = 1 := by simpa [ilK] using hN
      subst hn
      refine lv_dup2_x1_2 hx hb hd rfl (rV_cat1 (v := mR x) (fun b => by simp)) ?_
      exact IH _ _ _ _ _ _ _ _ _ _ _ hrun hS hl (ok2 (ok_h hv) (ok2 (ok_h (ok_t hv)) (ok2 (ok_h hv) (ok_t (ok_t hv))))) hlv hq'
    | ifCond cc o =>
      obtain ⟨x, s', rfl, hrun⟩ := iIf1 hrun0 rfl
      have hn : n1 = 3 := by simpa [ilK] using hN
      subst hn
      have hx1 : inR x := ok_h hv
      have h00 : inR 0 := by unfold inR; omega
      cases cc with
      | eq =>
        refine lv_if_eq hx hb hd (tgK_ok hc) (fun z => ?_) (fun z => ?_)
        · rcases hrun with ⟨h, hrun⟩ | ⟨h, hrun⟩
          · exact IH _ _ _ _ _ _ _ _ _ _ _ hrun hS hl (ok_t hv) hlv (hqt _)
          · exact absurd ((rI_inj hx1 h00).mp z) h
        · rcases hrun with ⟨h, hrun⟩ | ⟨h, hrun⟩
          · exact absurd ((rI_inj hx1 h00).mpr h) z
          · exact IH _ _ _ _ _ _ _ _ _ _ _ hrun hS hl (ok_t hv) hlv hq'
      | ne =>
        refine lv_if_ne hx hb hd (tgK_ok hc) (fun z => ?_) (fun z => ?_)
        · rcases hrun with ⟨h, hrun⟩ | ⟨h, hrun⟩
          · exact IH _ _ _ _ _ _ _ _ _ _ _ hrun hS hl (ok_t hv) hlv (hqt _)
          · exact absurd ((not_congr (rI_inj hx1 h00)).mp z) h
        · rcases hrun with ⟨h, hrun⟩ | ⟨h, hrun⟩
          · exact absurd ((rI_inj hx1 h00).mp z) h
          · exact IH _ _ _ _ _ _ _ _ _ _ _ hrun hS hl (ok_t hv) hlv hq'
      | lt =>
        refine lv_if_lt hx hb hd (tgK_ok hc) (fun z => ?_) (fun z => ?_)
        · rcases hrun with ⟨h, hrun⟩ | ⟨h, hrun⟩
          · exact IH _ _ _ _ _ _ _ _ _ _ _ hrun hS hl (ok_t hv) hlv (hqt _)
          · exact absurd ((rI_lt hx1 h00).mp z) h
        · rcases hrun with ⟨h, hrun⟩ | ⟨h, hrun⟩
          · exact absurd ((rI_lt hx1 h00).mpr h) z
          · exact IH _ _ _ _ _ _ _ _ _ _ _ hrun hS hl (ok_t hv) hlv hq'
      | ge =>
        refine lv_if_ge hx hb hd (tgK_ok hc) (fun z => ?_) (fun z => ?_)
        · rcases hrun with ⟨h, hrun⟩ | ⟨h, hrun⟩
          · exact IH _ _ _ _ _ _ _ _ _ _ _ hrun hS hl (ok_t hv) hlv (hqt _)
          · exact absurd ((rI_le h00 hx1).mp z) h
        · rcases hrun with ⟨h, hrun⟩ | ⟨h, hrun⟩
          · exact absurd ((rI_le h00 hx1).mpr h) z
          · exact IH _ _ _ _ _ _ _ _ _ _ _ hrun hS hl (ok_t hv) hlv hq'
      | gt =>
        refine lv_if_gt hx hb hd (tgK_ok hc) (fun z => ?_) (fun z => ?_)
        · rcases hrun with ⟨h, hrun⟩ | ⟨h, hrun⟩
          · exact IH _ _ _ _ _ _ _ _ _ _ _ hrun hS hl (ok_t hv) hlv (hqt _)
          · exact absurd ((rI_lt h00 hx1).mp z) h
        · rcases hrun with ⟨h, hrun⟩ | ⟨h, hrun⟩
          · exact absurd ((rI_lt h00 hx1).mpr h) z
          · exact IH _ _ _ _ _ _ _ _ _ _ _ hrun hS hl (ok_t hv) hlv hq'
      | le =>
        refine lv_if_le hx hb hd (tgK_ok hc) (fun z => ?_) (fun z => ?_)
        · rcases hrun with ⟨h, hrun⟩ | ⟨h, hrun⟩
          · exact IH _ _ _ _ _ _ _ _ _ _ _ hrun hS hl (ok_t hv) hlv (hqt _)
          · exact absurd ((rI_le hx1 h00).mp z) h
        · rcases hrun with ⟨h, hrun⟩ | ⟨h, hrun⟩
          · exact absurd ((rI_le hx1 h00).mpr h) z
          · exact IH _ _ _ _ _ _ _ _ _ _ _ hrun hS hl (ok_t hv) hlv hq'
    | if_icmp cc o =>
      obtain ⟨y, x, s', rfl, hrun⟩ := iIf2 hrun0 rfl
      have hn : n1 = 3 := by simpa [ilK] using hN
      subst hn
      have hx1 : inR x := ok_h (ok_t hv)
      have hy1 : inR y := ok_h hv
      cases cc with
      | eq =>
        refine lv_icmp_eq hx hb hd (tgK_ok hc) (fun z => ?_) (fun z => ?_)
        · rcases hrun with ⟨h, hrun⟩ | ⟨h, hrun⟩
          · exact IH _ _ _ _ _ _ _ _ _ _ _ hrun hS hl (ok_t (ok_t hv)) hlv (hqt _)
          · exact absurd ((rI_inj hx1 hy1).mp z) h
        · rcases hrun with ⟨h, hrun⟩ | ⟨h, hrun⟩
          · exact absurd ((rI_inj hx1 hy1).mpr h) z
          · exact IH _ _ _ _ _ _ _ _ _ _ _ hrun hS hl (ok_t (ok_t hv)) hlv hq'
      | ne =>
        refine lv_icmp_ne hx hb hd (tgK_ok hc) (fun z => ?_) (fun z => ?_)
        · rcases hrun with ⟨h, hrun⟩ | ⟨h, hrun⟩
          · exact IH _ _ _ _ _ _ _ _ _ _ _ hrun hS hl (ok_t (ok_t hv)) hlv (hqt _)
          · exact absurd ((not_congr (rI_inj hx1 hy1)).mp z) h
        · rcases hrun with ⟨h, hrun⟩ | ⟨h, hrun⟩
          · exact absurd ((rI_inj hx1 hy1).mp z) h
          · exact IH _ _ _ _ _ _ _ _ _ _ _ hrun hS hl (ok_t (ok_t hv)) hlv hq'
      | lt =>
        refine lv_icmp_lt hx hb hd (tgK_ok hc) (fun z => ?_) (fun z => ?_)
        · rcases hrun with ⟨h, hrun⟩ | ⟨h, hrun⟩
          · exact IH _ _ _ _ _ _ _ _ _ _ _ hrun hS hl (ok_t (ok_t hv)) hlv (hqt _)
          · exact absurd ((rI_lt hx1 hy1).mp z) h
        · rcases hrun with ⟨h, hrun⟩ | ⟨h, hrun⟩
          · exact absurd ((rI_lt hx1 hy1).mpr h) z
          · exact IH _ _ _ _ _ _ _ _ _ _ _ hrun hS hl (ok_t (ok_t hv)) hlv hq'
      | ge =>
        refine lv_icmp_ge hx hb hd (tgK_ok hc) (fun z => ?_) (fun z => ?_)
        · rcases hrun with ⟨h, hrun⟩ | ⟨h, hrun⟩
          · exact IH _ _ _ _ _ _ _ _ _ _ _ hrun hS hl (ok_t (ok_t hv)) hlv (hqt _)
          · exact absurd ((rI_le hy1 hx1).mp z) h
        · rcases hrun with ⟨h, hrun⟩ | ⟨h, hrun⟩
          · exact absurd ((rI_le hy1 hx1).mpr h) z
          · exact IH _ _ _ _ _ _ _ _ _ _ _ hrun hS hl (ok_t (ok_t hv)) hlv hq'
      | gt =>
        refine lv_icmp_gt hx hb hd (tgK_ok hc) (fun z => ?_) (fun z => ?_)
        · rcases hrun with ⟨h, hrun⟩ | ⟨h, hrun⟩
          · exact IH _ _ _ _ _ _ _ _ _ _ _ hrun hS hl (ok_t (ok_t hv)) hlv (hqt _)
          · exact absurd ((rI_lt hy1 hx1).mp z) h
        · rcases hrun with ⟨h, hrun⟩ | ⟨h, hrun⟩
          · exact absurd ((rI_lt hy1 hx1).mpr h) z
          · exact IH _ _ _ _ _ _ _ _ _ _ _ hrun hS hl (ok_t (ok_t hv)) hlv hq'
      | le =>
        refine lv_icmp_le hx hb hd (tgK_ok hc) (fun z => ?_) (fun z => ?_)
        · rcases hrun with ⟨h, hrun⟩ | ⟨h, hrun⟩
          · exact IH _ _ _ _ _ _ _ _ _ _ _ hrun hS hl (ok_t (ok_t hv)) hlv (hqt _)
          · exact absurd ((rI_le hx1 hy1).mp z) h
        · rcases hrun with ⟨h, hrun⟩ | ⟨h, hrun⟩
          · exact absurd ((rI_le hx1 hy1).mpr h) z
          · exact IH _ _ _ _ _ _ _ _ _ _ _ hrun hS hl (ok_t (ok_t hv)) hlv hq'
    | lcmp =>
      obtain ⟨cc, o, p2, a2, b2, k2, t2, r2, y, x, s', rfl, rfl, hrun⟩ := iLcm hrun0 rfl
      have hn : n1 = 1 := by simpa [ilK] using hN
      subst hn
      rcases hq' with ⟨z, -⟩ | ⟨-, hp2, n2, hd2, hN2, hc2, hq2⟩
      · cases z
      have hp2 : p2 = pc' + 1 := hp2
      subst hp2
      have hn2 : n2 = 3 := by simpa [ilK] using hN2
      subst hn2
      refine W.lcmp hx hb hd ?_
      cases cc with
      | eq =>
        refine lv_if_eq hx hb hd2 (tgK_ok hc2) (fun z => ?_) (fun z => ?_)
        · rcases hrun with ⟨h, hrun⟩ | ⟨h, hrun⟩
          · exact IH _ _ _ _ _ _ _ _ _ _ _ hrun hS hl (ok_t (ok_t hv)) hlv (hqt _)
          · exact absurd (((lg_cmp_eq (rJ x) (rJ y)).trans rJ_inj).mp z) h
        · rcases hrun with ⟨h, hrun⟩ | ⟨h, hrun⟩
          · exact absurd (((lg_cmp_eq (rJ x) (rJ y)).trans rJ_inj).mpr h) z
          · exact IH _ _ _ _ _ _ _ _ _ _ _ hrun hS hl (ok_t (ok_t hv)) hlv hq2
      | ne =>
        refine lv_if_ne hx hb hd2 (tgK_ok hc2) (fun z => ?_) (fun z => ?_)
        · rcases hrun with ⟨h, hrun⟩ | ⟨h, hrun⟩
          · exact IH _ _ _ _ _ _ _ _ _ _ _ hrun hS hl (ok_t (ok_t hv)) hlv (hqt _)
          · exact absurd ((not_congr ((lg_cmp_eq (rJ x) (rJ y)).trans rJ_inj)).mp z) h
        · rcases hrun with ⟨h, hrun⟩ | ⟨h, hrun⟩
          · exact absurd (((lg_cmp_eq (rJ x) (rJ y)).trans rJ_inj).mp z) h
          · exact IH _ _ _ _ _ _ _ _ _ _ _ hrun hS hl (ok_t (ok_t hv)) hlv hq2
      | lt =>
        refine lv_if_lt hx hb hd2 (tgK_ok hc2) (fun z => ?_) (fun z => ?_)
        · rcases hrun with ⟨h, hrun⟩ | ⟨h, hrun⟩
          · exact IH _ _ _ _ _ _ _ _ _ _ _ hrun hS hl (ok_t (ok_t hv)) hlv (hqt _)
          · exact absurd (((lg_cmp_lt (rJ x) (rJ y)).trans rJ_lt).mp z) h
        · rcases hrun with ⟨h, hrun⟩ | ⟨h, hrun⟩
          · exact absurd (((lg_cmp_lt (rJ x) (rJ y)).trans rJ_lt).mpr h) z
          · exact IH _ _ _ _ _ _ _ _ _ _ _ hrun hS hl (ok_t (ok_t hv)) hlv hq2
      | ge =>
        refine lv_if_ge hx hb hd2 (tgK_ok hc2) (fun z => ?_) (fun z => ?_)
        · rcases hrun with ⟨h, hrun⟩ | ⟨h, hrun⟩
          · exact IH _ _ _ _ _ _ _ _ _ _ _ hrun hS hl (ok_t (ok_t hv)) hlv (hqt _)
          · exact absurd (((lg_cmp_ge (rJ x) (rJ y)).trans rJ_le).mp z) h
        · rcases hrun with ⟨h, hrun⟩ | ⟨h, hrun⟩
          · exact absurd (((lg_cmp_ge (rJ x) (rJ y)).trans rJ_le).mpr h) z
          · exact IH _ _ _ _ _ _ _ _ _ _ _ hrun hS hl (ok_t (ok_t hv)) hlv hq2
      | gt =>
        refine lv_if_gt hx hb hd2 (tgK_ok hc2) (fun z => ?_) (fun z => ?_)
        · rcases hrun with ⟨h, hrun⟩ | ⟨h, hrun⟩
          · exact IH _ _ _ _ _ _ _ _ _ _ _ hrun hS hl (ok_t (ok_t hv)) hlv (hqt _)
          · exact absurd (((lg_cmp_gt (rJ x) (rJ y)).trans rJ_lt).mp z) h
        · rcases hrun with ⟨h, hrun⟩ | ⟨h, hrun⟩
          · exact absurd (((lg_cmp_gt (rJ x) (rJ y)).trans rJ_lt).mpr h) z
          · exact IH _ _ _ _ _ _ _ _ _ _ _ hrun hS hl (ok_t (ok_t hv)) hlv hq2
      | le =>
        refine lv_if_le hx hb hd2 (tgK_ok hc2) (fun z => ?_) (fun z => ?_)
        · rcases hrun with ⟨h, hrun⟩ | ⟨h, hrun⟩
          · exact IH _ _ _ _ _ _ _ _ _ _ _ hrun hS hl (ok_t (ok_t hv)) hlv (hqt _)
          · exact absurd (((lg_cmp_le (rJ x) (rJ y)).trans rJ_le).mp z) h
        · rcases hrun with ⟨h, hrun⟩ | ⟨h, hrun⟩
          · exact absurd (((lg_cmp_le (rJ x) (rJ y)).trans rJ_le).mpr h) z
          · exact IH _ _ _ _ _ _ _ _ _ _ _ hrun hS hl (ok_t (ok_t hv)) hlv hq2
    | if_acmp cc o =>
      simp only [chkI, Bool.and_eq_true, decide_eq_true_eq] at hc
      obtain ⟨y, x, s', rfl, hx2, hy2, hrun⟩ := iAcm hrun0 rfl hc.2
      have hn : n1 = 3 := by simpa [ilK] using hN
      subst hn
      have hrc := iAcm1 hrun
      clear hrun
      have hc := hc.1
      obtain ⟨hP, hD, hH, hO, hS5⟩ := id hS
      have hlt : ∀ {v : Option Nat} {q : Nat}, ak σ 2 v → v = some q → q < nC σ := fun {v q} h e => by
        subst e
        have e28 : (kd σ q).1 = 28 := h rfl
        exact kd_lt hO (by omega)
      have hinj : x = y ↔ x.map ad = y.map ad := by
        refine ⟨fun h => by rw [h], fun h => ?_⟩
        cases x with
        | none => cases y with
          | none => rfl
          | some y => cases h
        | some x => cases y with
          | none => cases h
          | some y =>
            have hxl := hlt hx2 rfl
            have hyl := hlt hy2 rfl
            rw [hD.1 x y _ _ (mW_get hxl) (mW_get hyl) (Option.some.inj h)]
      rcases hrc with ⟨rfl, hrun⟩ | ⟨rfl, hrun⟩
      · refine lv_acmp_eq (rx := x.map ad) (ry := y.map ad) hx hb hd (tgK_ok hc) (fun z => ?_) (fun z => ?_)
        · rcases hrun with ⟨h, hrun⟩ | ⟨h, hrun⟩
          · exact IH _ _ _ _ _ _ _ _ _ _ _ hrun hS hl (ok_t (ok_t hv)) hlv (hqt _)
          · exact absurd (hinj.mpr z) h
        · rcases hrun with ⟨h, hrun⟩ | ⟨h, hrun⟩
          · exact absurd (hinj.mp h) z
          · exact IH _ _ _ _ _ _ _ _ _ _ _ hrun hS hl (ok_t (ok_t hv)) hlv hq'
      · refine lv_acmp_ne (rx := x.map ad) (ry := y.map ad) hx hb hd (tgK_ok hc) (fun z => ?_) (fun z => ?_)
        · rcases hrun with ⟨h, hrun⟩ | ⟨h, hrun⟩
          · exact IH _ _ _ _ _ _ _ _ _ _ _ hrun hS hl (ok_t (ok_t hv)) hlv (hqt _)
          · exact absurd (hinj.mp (Classical.not_not.mp h)) z
        · rcases hrun with ⟨h, hrun⟩ | ⟨h, hrun⟩
          · exact absurd (hinj.mpr z) h
          · exact IH _ _ _ _ _ _ _ _ _ _ _ hrun hS hl (ok_t (ok_t hv)) hlv hq'
    | ifnull o =>
      obtain ⟨x, s', rfl, hrun⟩ := iNul hrun0 rfl
      have hn : n1 = 3 := by simpa [ilK] using hN
      subst hn
      cases x with
      | some x =>
        rcases hrun with ⟨h, hrun⟩ | ⟨h, hrun⟩
        · cases h
        · refine lv_ifnull hx hb hd ?_
          exact IH _ _ _ _ _ _ _ _ _ _ _ hrun hS hl (ok_t hv) hlv hq'
      | none =>
        rcases hrun with ⟨h, hrun⟩ | ⟨h, hrun⟩
        · refine lv_ifnullN hx hb hd (tgK_ok hc) ?_
          exact IH _ _ _ _ _ _ _ _ _ _ _ hrun hS hl (ok_t hv) hlv (hqt _)
        · exact absurd rfl h
    | ifnonnull o =>
      obtain ⟨x, s', rfl, hrun⟩ := iNul hrun0 rfl
      have hn : n1 = 3 := by simpa [ilK] using hN
      subst hn
      cases x with
      | some x =>
        rcases hrun with ⟨h, hrun⟩ | ⟨h, hrun⟩
        · refine lv_ifnonnull hx hb hd (tgK_ok hc) ?_
          exact IH _ _ _ _ _ _ _ _ _ _ _ hrun hS hl (ok_t hv) hlv (hqt _)
        · exact absurd rfl h
      | none =>
        rcases hrun with ⟨h, hrun⟩ | ⟨h, hrun⟩
        · cases h
        · refine lv_ifnonnullN hx hb hd ?_
          exact IH _ _ _ _ _ _ _ _ _ _ _ hrun hS hl (ok_t hv) hlv hq'
    | goto o =>
      have hrun := run_nx hrun0 rfl
      have hn : n1 = 3 := by simpa [ilK] using hN
      subst hn
      refine lv_goto hx hb hd (tgK_ok hc) ?_
      exact IH _ _ _ _ _ _ _ _ _ _ _ hrun hS hl hv hlv (hqt _)
    | tableswitch d lo hi offs =>
      obtain ⟨x, s', rfl, hrun⟩ := iSwi hrun0 rfl
      simp only [chkI, Bool.and_eq_true, decide_eq_true_eq] at hc
      obtain ⟨⟨hc1, hc2⟩, hc3⟩ := hc
      obtain ⟨o, g1, -, g3⟩ := swK_ok (x := x) hc1 hc3
      have hx1 : (rI x).toInt = x := rI_toInt (ok_h hv)
      rcases g3 with g3 | ⟨rfl, g3⟩
      · obtain ⟨j, hj, e⟩ := List.mem_map.mp g3
        have hj := List.mem_range.mp hj
        obtain ⟨e1, e2⟩ := Prod.mk.inj e
        refine lv_tableIn hx hb hd (by rw [hx1]; omega) (by rw [hx1]; omega) (off := o) (by rw [hx1, show (x - lo).toNat = j by omega, ← e2]; simp [hj]) g1 ?_
        exact IH _ _ _ _ _ _ _ _ _ _ _ hrun hS hl (ok_t hv) hlv (hqt _)
      · refine lv_tableOut hx hb hd (by
          rw [hx1]
          by_cases h1 : x < lo
          · exact Or.inl h1
          · by_cases h2 : hi < x
            · exact Or.inr h2
            · exfalso
              refine g3 _ (List.mem_map.mpr ⟨(x - lo).toNat, List.mem_range.mpr (by omega), Prod.ext ?_ rfl⟩)
              show lo + ((x - lo).toNat : Int) = x
              omega) g1 ?_
        exact IH _ _ _ _ _ _ _ _ _ _ _ hrun hS hl (ok_t hv) hlv (hqt _)
    | lookupswitch d ps =>
      obtain ⟨x, s', rfl, hrun⟩ := iSwi hrun0 rfl
      simp only [chkI, Bool.and_eq_true] at hc
      obtain ⟨⟨hc1, hc2⟩, hc3⟩ := hc
      obtain ⟨o, g1, g2, -⟩ := swK_ok (x := x) hc1 hc2
      refine lv_lookup hx hb hd hc3 (by rw [rI_toInt (ok_h hv)]; exact g2) g1 ?_
      exact IH _ _ _ _ _ _ _ _ _ _ _ hrun hS hl (ok_t hv) hlv (hqt _)
    | getfield j =>
      obtain ⟨kk, s', rfl, hkd, hrun⟩ := iGet hrun0 rfl
      have hn : n1 = 3 := by simpa [ilK] using hN
      subst hn
      obtain ⟨hP, hD, hH, hO, hS5⟩ := id hS
      by_cases h30 : a = 30
      · simp only [chkI, if_pos h30, Bool.and_eq_true, decide_eq_true_eq] at hc
        obtain ⟨⟨hc1, hc2⟩, hc3⟩ := hc
        obtain ⟨j0, hj0, rfl⟩ := kd_50 (k := kk) hO (by omega)
        have hbb : b = 0 ∨ b = 1 := by omega
        rcases hbb with rfl | rfl
        · have hk7 : k = 7 := hc3
          subst hk7
          have e7 : gF σ a 0 (strK + j0) 7 = mR (some (strB + j0)) := by
            show mR (some (strB + (strK + j0 - strK))) = _
            rw [Nat.add_sub_cancel_left]
          rw [e7] at hrun
          have hl9 : (Jvm.Cond.fieldLink (owS (owM M)) j "java/lang/String" "value" "[B").before args s = true := hts _ (sfA hc1)
          have hs9 : va_OF "java/lang/String" "value" "[B" (.ref (ad (strB + j0))) (ad (strK + j0)) A s s.heap := (hsX1.1.1 j0 hj0).2.2.1
          refine vk_getf hx hb hs9 hH hown hl9 (fun _ h => h) hd ?_
          exact IH _ _ _ _ _ _ _ _ _ _ _ hrun hS hl (ok2 (fun j e => Or.inr (by cases e; exact Nat.le_trans (show scrK ≤ strB by decide) (Nat.le_add_right _ _))) (ok_t hv)) hlv hq'
        · have hk8 : k = 8 := hc3
          subst hk8
          have hl9 : (Jvm.Cond.fieldLink (owS (owM M)) j "java/lang/String" "coder" "B").before args s = true := hts _ (sfA hc1)
          have hs9 : va_OF "java/lang/String" "coder" "B" (.int 0) (ad (strK + j0)) A s s.heap := (hsX1.1.1 j0 hj0).2.1
          refine vk_getf hx hb hs9 hH hown hl9 (fun _ h => h) hd ?_
          rw [show (0 : Int32) = rI 0 from rI0.symm]
          exact IH _ _ _ _ _ _ _ _ _ _ _ hrun hS hl (ok2 (by show inR 0; unfold inR; omega) (ok_t hv)) hlv hq'
      · simp only [chkI, if_neg h30, Bool.and_eq_true, decide_eq_true_eq] at hc
        obtain ⟨⟨⟨hc1, hc2⟩, hc3⟩, hc4⟩ := hc
        have hkl : kk < nC σ := kd_lt hO (by omega)
        refine va_get (D := D) (ci := a) hx hb hts (lyA hc2) hown hK hP kk (fs := (List.range (clN a)).map (rF ad σ a kk)) (by rw [mW_get hkl, mE_obj hkd]) (clA a hc2) b hc3 (hts _ (flA hc1)) (fun _ h => h) (v := rF ad σ a kk b) (by rw [List.getElem?_map, List.getElem?_range hc3]; rfl) hd ?_
        rw [show rF ad σ a kk b = rV ad (gF σ a b kk k) by rw [← hc4]; exact rF_gF hc2 hc3]
        exact IH _ _ _ _ _ _ _ _ _ _ _ hrun hS hl (ok2 (gF_ok hO hc2 hc3 hc4 hkd) (ok_t hv)) hlv hq'
    | putfield j =>
      obtain ⟨kk, s', hkd, hrun⟩ := iPut hrun0 rfl
      have hn : n1 = 3 := by simpa [ilK] using hN
      subst hn
      simp only [chkI, Bool.and_eq_true, decide_eq_true_eq] at hc
      obtain ⟨⟨⟨hc1, hc2⟩, hc3⟩, hc4⟩ := hc
      obtain ⟨hP, hD, hH, hO, hS5⟩ := id hS
      have hkl : kk < nC σ := kd_lt hO (by omega)
      obtain ⟨f0, f1, f4, f2⟩ := fk_put hc2 hc3
      rcases hrun with ⟨v, rfl, hk, hrun⟩ | ⟨v, rfl, hk, hrun⟩ | ⟨v, rfl, hk, hak, hrun⟩
      · have hn8 : (kd σ kk).1 ≠ 1 := by omega
        have ht : ((clT a) b).2.2.2 = false ∧ narrow (tyT a b) (.int (rI v)) = .int (rI v) ∧ fits (tyT a b) (.int (rI v)) = true := by
          rcases hk with h0 | ⟨h0, hbl⟩
          · obtain ⟨g1, g2⟩ := f0 (hc4.trans h0)
            rw [g1]
            exact ⟨g2, rfl, rfl⟩
          · obtain ⟨g1, g2⟩ := f4 (hc4.trans h0)
            rw [g1]
            rcases hbl with rfl | rfl <;> exact ⟨g2, rfl, rfl⟩
        refine va_put (D := D) (ci := a) (ty := tyT a b) hx hb hts (lyA hc2) (tyT a) (tyA a hc2) (nmA a hc2) hown hK hP hD hH kk (fs := (List.range (clN a)).map (rF ad σ a kk)) (by rw [mW_get hkl, mE_obj hkd]) (clA a hc2) b hc3 (hts _ (flA hc1)) (fun _ h => h) ht.1 (tyA a hc2 b hc3) ht.2.1 ht.2.2 (by simpa using hc3) hd (fun H1 locs1 hP1 hD1 hS1 => ?_)
        refine IH _ _ _ _ _ _ _ _ _ _ _ hrun ⟨?_, ?_, hS1, mOk_sI hO (ok_h hv) (fun z => absurd z hn8), hS5⟩ hl (ok_t (ok_t hv)) hlv hq'
        · rw [← mW_set (cA := cA) (ad := ad) (σ := σ) (σ' := sI σ kk b v) rfl (fun j hj => mE_sI_ne hj), mE_put_i hkd (hk.imp (fun h => hc4.trans h) (fun h => hc4.trans h.1))]; exact hP1
        · rw [← mW_set (cA := cA) (ad := ad) (σ := σ) (σ' := sI σ kk b v) rfl (fun j hj => mE_sI_ne hj), mE_put_i hkd (hk.imp (fun h => hc4.trans h) (fun h => hc4.trans h.1))]; exact hD1
      · obtain ⟨g1, g2⟩ := f1 (hc4.trans hk)
        refine va_put (D := D) (ci := a) (ty := tyT a b) hx hb hts (lyA hc2) (tyT a) (tyA a hc2) (nmA a hc2) hown hK hP hD hH kk (fs := (List.range (clN a)).map (rF ad σ a kk)) (by rw [mW_get hkl, mE_obj hkd]) (clA a hc2) b hc3 (hts _ (flA hc1)) (fun _ h => h) g2 (tyA a hc2 b hc3) (by rw [g1]; rfl) (by rw [g1]; rfl) (by simpa using hc3) hd (fun H1 locs1 hP1 hD1 hS1 => ?_)
        refine IH _ _ _ _ _ _ _ _ _ _ _ hrun ⟨?_, ?_, hS1, mOk_sL hO, hS5⟩ hl (ok_t (ok_t hv)) hlv hq'
        · rw [← mW_set (cA := cA) (ad := ad) (σ := σ) (σ' := sL σ kk b v) rfl (fun j hj => mE_sL_ne hj), mE_put_l hkd (hc4.trans hk)]; exact hP1
        · rw [← mW_set (cA := cA) (ad := ad) (σ := σ) (σ' := sL σ kk b v) rfl (fun j hj => mE_sL_ne hj), mE_put_l hkd (hc4.trans hk)]; exact hD1
      · have hk2 : fkK a b = 2 ∨ fkK a b = 5 ∨ fkK a b = 6 := by rw [hc4]; exact hk
        obtain ⟨g1, g2⟩ := f2 hk2
        have hvl : ∀ j, v = some j → j < nC σ := fun j hj => by
          subst hj
          have h1 := hak rfl
          have h2 : (kd σ j).1 = if k = 2 then 28 else if k = 5 then 1 else 3 := h1
          refine kd_lt hO ?_
          split at h2
          · omega
          · split at h2 <;> omega
        have hnf : narrow (tyT a b) (rV ad (mR v)) = rV ad (mR v) ∧ fits (tyT a b) (rV ad (mR v)) = true := by
          rcases g1 with ⟨q, e⟩ | ⟨q, e⟩ <;> (rw [e]; cases v <;> exact ⟨rfl, rfl⟩)
        refine va_put (D := D) (ci := a) (ty := tyT a b) hx hb hts (lyA hc2) (tyT a) (tyA a hc2) (nmA a hc2) hown hK hP hD hH kk (fs := (List.range (clN a)).map (rF ad σ a kk)) (by rw [mW_get hkl, mE_obj hkd]) (clA a hc2) b hc3 (hts _ (flA hc1)) (fun _ h => h) g2 (tyA a hc2 b hc3) hnf.1 hnf.2 (by simpa using hc3) hd (fun H1 locs1 hP1 hD1 hS1 => ?_)
        refine IH _ _ _ _ _ _ _ _ _ _ _ hrun ⟨?_, ?_, hS1, mOk_sR hO hvl, hS5⟩ hl (ok_t (ok_t hv)) hlv hq'
        · rw [← mW_set (cA := cA) (ad := ad) (σ := σ) (σ' := sR σ kk b v) rfl (fun j hj => mE_sR_ne hj), mE_put_r hkd hk2]; exact hP1
        · rw [← mW_set (cA := cA) (ad := ad) (σ := σ) (σ' := sR σ kk b v) rfl (fun j hj => mE_sR_ne hj), mE_put_r hkd hk2]; exact hD1
    | iaload =>
      obtain ⟨i, kk, s', rfl, hab, hrun⟩ := iALd hrun0 rfl
      have hn : n1 = 1 := by simpa [ilK] using hN
      subst hn
      have ha3 : a = 3 ∨ a = 9 := of_decide_eq_true hc
      obtain ⟨hP, hD, hH, hO, hS5⟩ := id hS
      have hi := ok_h hv
      rcases ha3 with rfl | rfl
      · have hkl : kk < nC σ := kd_lt hO (by omega)
        refine va_iald hx hb hK hP kk 2 (by rw [mW_get hkl, mE_ints hab.1 (by omega)]) rfl (rI_vin hi hab.2.1 hab.2.2) hd ?_
        rw [rI_nat hi]
        exact IH _ _ _ _ _ _ _ _ _ _ _ hrun hS hl (ok2 (hO.2.2.1 _ _) (ok_t (ok_t hv))) hlv hq'
      · obtain ⟨e9, hl9⟩ := kd_9 hO hab.1
        subst e9
        refine va_ti hx hb hsX1.2.2.2.1 hH (rI_vin hi hab.2.1 (by have := hab.2.2; rwa [hl9] at this)) rfl hd ?_
        rw [rI_nat hi]
        exact IH _ _ _ _ _ _ _ _ _ _ _ hrun hS hl (ok2 (hsX1.2.2.2.2.1 _) (ok_t (ok_t hv))) hlv hq'
    | baload =>
      obtain ⟨i, kk, s', rfl, hab, hrun⟩ := iALd hrun0 rfl
      have hn : n1 = 1 := by simpa [ilK] using hN
      subst hn
      have ha3 : a = 1 ∨ a = 2 ∨ a = 8 := of_decide_eq_true hc
      obtain ⟨hP, hD, hH, hO, hS5⟩ := id hS
      have hi := ok_h hv
      by_cases h8 : a = 8
      · subst h8
        obtain ⟨j0, hj0, rfl, hl8⟩ := kd_8 hO hab.1
        have hrun : run n (tG M) (rr, ls, mI (((strAt (strB + j0 - strB)).getD i.toNat 0 : Nat) : Int) :: s', σ) = some (r, σ') := hrun
        rw [Nat.add_sub_cancel_left] at hrun
        have hs9 : va_T .byte (ad (strB + j0)) (stLn.getD j0 0) (fun i => .int ((stBy.getD j0 []).getD i 0)) A s s.heap := (hsX1.1.1 j0 hj0).2.2.2
        refine va_tb hx hb hs9 hH (rI_vin hi hab.2.1 (by have := hab.2.2; rw [hl8] at this; rw [stLn_at]; exact this)) rfl hd ?_
        rw [rI_nat hi, stBy_at]
        exact IH _ _ _ _ _ _ _ _ _ _ _ hrun hS hl (ok2 (by have := st_lt j0 i.toNat; show inR _; unfold inR; omega) (ok_t (ok_t hv))) hlv hq'
      have hkl : kk < nC σ := kd_lt hO (by omega)
      have ha3 : a = 1 ∨ a = 2 := by omega
      rcases ha3 with rfl | rfl
      · refine va_bald hx hb hK hP kk 0 (by rw [mW_get hkl, mE_ints hab.1 (by omega)]) rfl (rI_vin hi hab.2.1 hab.2.2) hd ?_
        rw [rI_nat hi]
        exact IH _ _ _ _ _ _ _ _ _ _ _ hrun hS hl (ok2 (hO.2.2.1 _ _) (ok_t (ok_t hv))) hlv hq'
      · refine va_zald hx hb hK hP kk 1 (by rw [mW_get hkl, mE_ints hab.1 (by omega)]) rfl (rI_vin hi hab.2.1 hab.2.2) hd ?_
        rw [rI_nat hi]
        exact IH _ _ _ _ _ _ _ _ _ _ _ hrun hS hl (ok2 (hO.2.2.1 _ _) (ok_t (ok_t hv))) hlv hq'
    | laload =>
      obtain ⟨i, kk, s', rfl, hab, hrun⟩ := iALd hrun0 rfl
      have hn : n1 = 1 := by simpa [ilK] using hN
      subst hn
      have ha3 : a = 4 := of_decide_eq_true hc
      subst ha3
      obtain ⟨hP, hD, hH, hO, hS5⟩ := id hS
      have hkl : kk < nC σ := kd_lt hO (by omega)
      have hi := ok_h hv
      refine va_lald hx hb hK hP kk 3 (by rw [mW_get hkl, mE_longs hab.1]) rfl (rI_vin hi hab.2.1 hab.2.2) hd ?_
      rw [rI_nat hi]
      exact IH _ _ _ _ _ _ _ _ _ _ _ hrun hS hl (ok2 True.intro (ok_t (ok_t hv))) hlv hq'
    | aaload =>
      obtain ⟨i, kk, s', rfl, hab, hrun⟩ := iALd hrun0 rfl
      have hn : n1 = 1 := by simpa [ilK] using hN
      subst hn
      have ha3 : 5 ≤ a ∧ a ≤ 7 := of_decide_eq_true hc
      obtain ⟨hP, hD, hH, hO, hS5⟩ := id hS
      have hkl : kk < nC σ := kd_lt hO (by omega)
      have hi := ok_h hv
      have ht : ∃ ty, (tysL cA)[a - 1]? = some (cA a, ty) ∧ ty.isReference = true := by
        have : a = 5 ∨ a = 6 ∨ a = 7 := by omega
        rcases this with rfl | rfl | rfl <;> exact ⟨_, rfl, rfl⟩
      obtain ⟨ty, ht1, ht2⟩ := ht
      rw [if_neg (by omega), if_neg (by omega), if_neg (by omega), if_pos ha3] at hrun
      refine va_aldA hx hb hK hP kk (a - 1) (by rw [mW_get hkl, mE_refs hab.1 ha3.1 ha3.2]) ht1 ht2 (rI_vin hi hab.2.1 hab.2.2) hd ?_
      rw [rI_nat hi]
      exact IH _ _ _ _ _ _ _ _ _ _ _ hrun hS hl (ok2 (fun j e => Or.inl (hO.2.2.2.1 _ _ _ e)) (ok_t (ok_t hv))) hlv hq'
    | iastore =>
      obtain ⟨v, i, kk, s', rfl, hab, hrun⟩ := iASt hrun0 rfl
      have hn : n1 = 1 := by simpa [ilK] using hN
      subst hn
      have ha3 : a = 3 := of_decide_eq_true hc
      subst ha3
      obtain ⟨hP, hD, hH, hO, hS5⟩ := id hS
      have hkl : kk < nC σ := kd_lt hO (by omega)
      have hi := ok_h (ok_t hv)
      refine va_iast hx hb hK hP hD hH kk 2 (by rw [mW_get hkl, mE_ints hab.1 (by omega)]) rfl (rI_vin hi hab.2.1 hab.2.2) hd (fun H1 locs1 hP1 hD1 hS1 => ?_)
      rw [rI_nat hi] at hP1 hD1
      have hrun : run n (tG M) (rr, ls, s', sI σ kk i.toNat v) = some (r, σ') := hrun
      refine IH _ _ _ _ _ _ _ _ _ _ _ hrun ⟨?_, ?_, hS1, mOk_sI hO (ok_h hv) (fun z => by omega), hS5⟩ hl (ok_t (ok_t (ok_t hv))) hlv hq'
      · rw [← mW_set (cA := cA) (ad := ad) (σ := σ) (σ' := sI σ kk i.toNat v) rfl (fun j hj => mE_sI_ne hj), mE_ist hab.1 (by omega)]; exact hP1
      · rw [← mW_set (cA := cA) (ad := ad) (σ := σ) (σ' := sI σ kk i.toNat v) rfl (fun j hj => mE_sI_ne hj), mE_ist hab.1 (by omega)]; exact hD1
    | bastore =>
      obtain ⟨v, i, kk, s', rfl, hab, hrun⟩ := iASt hrun0 rfl
      have hn : n1 = 1 := by simpa [ilK] using hN
      subst hn
      have ha3 : a = 1 ∨ a = 2 := of_decide_eq_true hc
      obtain ⟨hP, hD, hH, hO, hS5⟩ := id hS
      have hkl : kk < nC σ := kd_lt hO (by omega)
      have hi := ok_h (ok_t hv)
      rcases ha3 with rfl | rfl
      · refine va_bast hx hb hK hP hD hH kk 0 (by rw [mW_get hkl, mE_ints hab.1 (by omega)]) rfl (rI_vin hi hab.2.1 hab.2.2) hd (fun H1 locs1 hP1 hD1 hS1 => ?_)
        rw [rI_nat hi, nar_byte] at hP1 hD1
        have hrun : run n (tG M) (rr, ls, s', sI σ kk i.toNat (w8 v)) = some (r, σ') := hrun
        refine IH _ _ _ _ _ _ _ _ _ _ _ hrun ⟨?_, ?_, hS1, mOk_sI hO (in8 (w8_in v)) (fun z => w8_in v), hS5⟩ hl (ok_t (ok_t (ok_t hv))) hlv hq'
        · rw [← mW_set (cA := cA) (ad := ad) (σ := σ) (σ' := sI σ kk i.toNat (w8 v)) rfl (fun j hj => mE_sI_ne hj), mE_ist hab.1 (by omega)]; exact hP1
        · rw [← mW_set (cA := cA) (ad := ad) (σ := σ) (σ' := sI σ kk i.toNat (w8 v)) rfl (fun j hj => mE_sI_ne hj), mE_ist hab.1 (by omega)]; exact hD1
      · refine va_zast hx hb hK hP hD hH kk 1 (by rw [mW_get hkl, mE_ints hab.1 (by omega)]) rfl (rI_vin hi hab.2.1 hab.2.2) hd (fun H1 locs1 hP1 hD1 hS1 => ?_)
        rw [rI_nat hi, nar_bool] at hP1 hD1
        have hrun : run n (tG M) (rr, ls, s', sI σ kk i.toNat (v % 2)) = some (r, σ') := hrun
        refine IH _ _ _ _ _ _ _ _ _ _ _ hrun ⟨?_, ?_, hS1, mOk_sI hO (by unfold inR; omega) (fun z => by omega), hS5⟩ hl (ok_t (ok_t (ok_t hv))) hlv hq'
        · rw [← mW_set (cA := cA) (ad := ad) (σ := σ) (σ' := sI σ kk i.toNat (v % 2)) rfl (fun j hj => mE_sI_ne hj), mE_ist hab.1 (by omega)]; exact hP1
        · rw [← mW_set (cA := cA) (ad := ad) (σ := σ) (σ' := sI σ kk i.toNat (v % 2)) rfl (fun j hj => mE_sI_ne hj), mE_ist hab.1 (by omega)]; exact hD1
    | lastore =>
      obtain ⟨v, i, kk, s', rfl, hab, hrun⟩ := iAStL hrun0 rfl
      have hn : n1 = 1 := by simpa [ilK] using hN
      subst hn
      obtain ⟨hP, hD, hH, hO, hS5⟩ := id hS
      have hkl : kk < nC σ := kd_lt hO (by omega)
      have hi := ok_h (ok_t hv)
      refine va_last hx hb hK hP hD hH kk 3 (by rw [mW_get hkl, mE_longs hab.1]) rfl (rI_vin hi hab.2.1 hab.2.2) hd (fun H1 locs1 hP1 hD1 hS1 => ?_)
      rw [rI_nat hi] at hP1 hD1
      have hrun : run n (tG M) (rr, ls, s', sL σ kk i.toNat v) = some (r, σ') := hrun
      refine IH _ _ _ _ _ _ _ _ _ _ _ hrun ⟨?_, ?_, hS1, mOk_sL hO, hS5⟩ hl (ok_t (ok_t (ok_t hv))) hlv hq'
      · rw [← mW_set (cA := cA) (ad := ad) (σ := σ) (σ' := sL σ kk i.toNat v) rfl (fun j hj => mE_sL_ne hj), mE_lst hab.1]; exact hP1
      · rw [← mW_set (cA := cA) (ad := ad) (σ := σ) (σ' := sL σ kk i.toNat v) rfl (fun j hj => mE_sL_ne hj), mE_lst hab.1]; exact hD1
    | aastore =>
      obtain ⟨v, i, kk, s', rfl, hab, haq, hrun⟩ := iAStR hrun0 rfl
      have hn : n1 = 1 := by simpa [ilK] using hN
      subst hn
      have ha3 : a = 5 ∨ a = 7 := of_decide_eq_true hc
      obtain ⟨hP, hD, hH, hO, hS5⟩ := id hS
      have hkl : kk < nC σ := kd_lt hO (by omega)
      have hi := ok_h (ok_t hv)
      by_cases h5 : a = 5
      · subst h5
        cases v with
        | none =>
          refine va_astqN (C := "FilterHouse$State") hx hb hK hP hD hH kk 4 (by rw [mW_get hkl, mE_refs hab.1 (by omega) (by omega)]) rfl (rI_vin hi hab.2.1 hab.2.2) hd (fun H1 locs1 hP1 hD1 hS1 => ?_)
          rw [rI_nat hi] at hP1 hD1
          have hrun : run n (tG M) (rr, ls, s', sR σ kk i.toNat none) = some (r, σ') := hrun
          refine IH _ _ _ _ _ _ _ _ _ _ _ hrun ⟨?_, ?_, hS1, mOk_sR hO (fun j e => by cases e), hS5⟩ hl (ok_t (ok_t (ok_t hv))) hlv hq'
          · rw [← mW_set (cA := cA) (ad := ad) (σ := σ) (σ' := sR σ kk i.toNat none) rfl (fun j hj => mE_sR_ne hj), mE_rst hab.1 (by omega) (by omega)]; exact hP1
          · rw [← mW_set (cA := cA) (ad := ad) (σ := σ) (σ' := sR σ kk i.toNat none) rfl (fun j hj => mE_sR_ne hj), mE_rst hab.1 (by omega) (by omega)]; exact hD1
        | some v =>
          have e28 : (kd σ v).1 = 20 + 8 := haq rfl
          have hvl : v < nC σ := kd_lt hO (by omega)
          refine va_astq hx hb hK hP hD hH kk 4 v 8 (r := (clR 8, clT 8, clN 8)) (by rw [mW_get hkl, mE_refs hab.1 (by omega) (by omega)]) rfl (by rw [mW_get hvl, mE_obj e28]) (clA 8 (by omega)) (rI_vin hi hab.2.1 hab.2.2) hd (fun H1 locs1 hP1 hD1 hS1 => ?_)
          rw [rI_nat hi] at hP1 hD1
          have hrun : run n (tG M) (rr, ls, s', sR σ kk i.toNat (some v)) = some (r, σ') := hrun
          refine IH _ _ _ _ _ _ _ _ _ _ _ hrun ⟨?_, ?_, hS1, mOk_sR hO (fun j e => by cases e; exact hvl), hS5⟩ hl (ok_t (ok_t (ok_t hv))) hlv hq'
          · rw [← mW_set (cA := cA) (ad := ad) (σ := σ) (σ' := sR σ kk i.toNat (some v)) rfl (fun j hj => mE_sR_ne hj), mE_rst hab.1 (by omega) (by omega)]; exact hP1
          · rw [← mW_set (cA := cA) (ad := ad) (σ := σ) (σ' := sR σ kk i.toNat (some v)) rfl (fun j hj => mE_sR_ne hj), mE_rst hab.1 (by omega) (by omega)]; exact hD1
      by_cases h7 : a = 7
      · subst h7
        cases v with
        | none =>
          refine va_ast7N (ty := .array .int) hx hb hK hP hD hH kk 6 rfl (by rw [mW_get hkl, mE_refs hab.1 (by omega) (by omega)]) rfl (rI_vin hi hab.2.1 hab.2.2) hd (fun H1 locs1 hP1 hD1 hS1 => ?_)
          rw [rI_nat hi] at hP1 hD1
          have hrun : run n (tG M) (rr, ls, s', sR σ kk i.toNat none) = some (r, σ') := hrun
          refine IH _ _ _ _ _ _ _ _ _ _ _ hrun ⟨?_, ?_, hS1, mOk_sR hO (fun j e => by cases e), hS5⟩ hl (ok_t (ok_t (ok_t hv))) hlv hq'
          · rw [← mW_set (cA := cA) (ad := ad) (σ := σ) (σ' := sR σ kk i.toNat none) rfl (fun j hj => mE_sR_ne hj), mE_rst hab.1 (by omega) (by omega)]; exact hP1
          · rw [← mW_set (cA := cA) (ad := ad) (σ := σ) (σ' := sR σ kk i.toNat none) rfl (fun j hj => mE_sR_ne hj), mE_rst hab.1 (by omega) (by omega)]; exact hD1
        | some v =>
          have e3 : (kd σ v).1 = 3 := haq rfl
          have hvl : v < nC σ := kd_lt hO (by omega)
          obtain ⟨k7, kI7, g1, g2, g3, g4⟩ := id hAX
          refine va_ast7 hx hb hK hP hD hH kk 6 v g1 g2 g3 g4 (by rw [mW_get hkl, mE_refs hab.1 (by omega) (by omega)]) (by rw [mW_get hvl, mE_ints e3 (by omega)]) (rI_vin hi hab.2.1 hab.2.2) hd (fun H1 locs1 hP1 hD1 hS1 => ?_)
          rw [rI_nat hi] at hP1 hD1
          have hrun : run n (tG M) (rr, ls, s', sR σ kk i.toNat (some v)) = some (r, σ') := hrun
          refine IH _ _ _ _ _ _ _ _ _ _ _ hrun ⟨?_, ?_, hS1, mOk_sR hO (fun j e => by cases e; exact hvl), hS5⟩ hl (ok_t (ok_t (ok_t hv))) hlv hq'
          · rw [← mW_set (cA := cA) (ad := ad) (σ := σ) (σ' := sR σ kk i.toNat (some v)) rfl (fun j hj => mE_sR_ne hj), mE_rst hab.1 (by omega) (by omega)]; exact hP1
          · rw [← mW_set (cA := cA) (ad := ad) (σ := σ) (σ' := sR σ kk i.toNat (some v)) rfl (fun j hj => mE_sR_ne hj), mE_rst hab.1 (by omega) (by omega)]; exact hD1
      · omega
    | arraylength =>
      obtain ⟨kk, s', rfl, hkd, hrun⟩ := iLen hrun0 rfl
      have hn : n1 = 1 := by simpa [ilK] using hN
      subst hn
      have ha3 : (1 ≤ a ∧ a ≤ 4) ∨ a = 8 ∨ a = 9 := of_decide_eq_true hc
      obtain ⟨hP, hD, hH, hO, hS5⟩ := id hS
      have hlen := hO.2.2.2.2.2.2.2.1 kk
      by_cases h8 : a = 8
      · subst h8
        obtain ⟨j0, hj0, rfl, hl8⟩ := kd_8 hO hkd
        have hs9 : va_T .byte (ad (strB + j0)) (stLn.getD j0 0) (fun i => .int ((stBy.getD j0 []).getD i 0)) A s s.heap := (hsX1.1.1 j0 hj0).2.2.2
        refine va_tlen hx hb hs9 hH (v := rI ((kd σ (strB + j0)).2 : Int)) (by rw [hl8, stLn_at]; exact Int32.ofInt_eq_ofNat.symm) hd ?_
        exact IH _ _ _ _ _ _ _ _ _ _ _ hrun hS hl (ok2 (by show inR _; unfold inR; omega) (ok_t hv)) hlv hq'
      by_cases h9 : a = 9
      · subst h9
        obtain ⟨e9, hl9⟩ := kd_9 hO hkd
        subst e9
        refine va_tlen hx hb hsX1.2.2.2.1 hH (v := rI ((kd σ scrK).2 : Int)) (by rw [hl9]; exact Int32.ofInt_eq_ofNat.symm) hd ?_
        exact IH _ _ _ _ _ _ _ _ _ _ _ hrun hS hl (ok2 (by show inR _; unfold inR; omega) (ok_t hv)) hlv hq'
      have hkl : kk < nC σ := kd_lt hO (by omega)
      have ht : ∃ ty y, (tysL cA)[a - 1]? = some (cA a, ty) ∧ mE cA ad σ kk = .inl (cA a, (kd σ kk).2, y) := by
        have : a = 1 ∨ a = 2 ∨ a = 3 ∨ a = 4 := by omega
        rcases this with rfl | rfl | rfl | rfl
        · exact ⟨_, _, rfl, mE_ints hkd (by omega)⟩
        · exact ⟨_, _, rfl, mE_ints hkd (by omega)⟩
        · exact ⟨_, _, rfl, mE_ints hkd (by omega)⟩
        · exact ⟨_, _, rfl, mE_longs hkd⟩
      obtain ⟨ty, y, ht1, ht2⟩ := ht
      refine va_alen hx hb hK hP kk (a - 1) (by rw [mW_get hkl, ht2]) ht1 (v := rI ((kd σ kk).2 : Int)) Int32.ofInt_eq_ofNat.symm hd ?_
      exact IH _ _ _ _ _ _ _ _ _ _ _ hrun hS hl (ok2 (by show inR _; unfold inR; omega) (ok_t hv)) hlv hq'
    | newarray t0 =>
      obtain ⟨s', rfl, hrun⟩ := iNwa hrun0 rfl
      have hn : n1 = 2 := by simpa [ilK] using hN
      subst hn
      have ha3 : t0 = .int := of_decide_eq_true hc
      subst ha3
      obtain ⟨hP, hD, hH, hO, hS4, hS5, hS6⟩ := id hS
      have hm1 := run_mo _ _ _ _ hrun
      have hn1 : nC σ + 1 ≤ nC σ' := hm1.1
      have ht1 : tS σ + 4800 ≤ tS σ' := hm1.2.1
      have hl1 : nC (alI σ 4800) < scrK := Nat.lt_of_le_of_lt hm1.1 hlim
      have hs' : ∀ v ∈ s', vOk σ v := ok_t hv
      have h48 : inR 4800 := by unfold inR; omega
      refine zz_newa (atype := .int) (t0 := 2) (cy := cA 3) (ty := .int) (a0 := (4800, .inl (fun _ => 0))) (N' := 4800) hx hb (hts (.arrayClass .int) cy4) rfl rfl (fun _ h9 => h9) hK hP hD hH hA (fun _ => zz_ar_int _ _) (fun q => by have := (rI_neg h48).mp q; omega) (by rw [rI_nat h48]; rfl) (Nat.le_of_ble_eq_true rfl) (by omega) (by omega) hd (fun q H1 hP1 hD1 hS1 => ?_)
      have hext : ∀ k, (k < nC σ ∨ scrK ≤ k) → (fun k => if k = nC σ then q else ad k) k = ad k := fun k h => if_neg (by have := hO.2.1; omega)
      rw [← rV_exts hext hs']
      have e9 : rV (fun k => if k = nC σ then q else ad k) (mR (some (nC σ))) = .ref q := by
        show Value.ref (if nC σ = nC σ then q else ad (nC σ)) = _
        rw [if_pos rfl]
      have hg := IH _ _ _ _ _ (fun k => if k = nC σ then q else ad k) _ _ _ _ _ hrun ⟨by rw [mW_I hO hl1]; exact hP1, by rw [mW_I hO hl1]; exact hD1, hS1, ok_I hO hl1, ⟨Nat.le_trans hS4.1 (Nat.le_succ _), fun k hk => (hext k (hk.imp (fun h => Nat.lt_of_lt_of_le h hS4.1) id)).trans (hS4.2 k hk)⟩, (by show cells + 1 + nC σ' = cE + (nC σ + 1); omega), (by show slots + 4800 + tS σ' = sE + (tS σ + 4800); omega)⟩ (loc_ext hext hlv hl) (ok2 (fun j e => Or.inl (by cases e; exact Nat.lt_succ_self _)) (fun v h => vOk_mono (Nat.le_succ _) (hs' v h))) (fun v h => vOk_mono (Nat.le_succ _) (hlv v h)) hq'
      rw [List.map_cons, e9] at hg
      exact hg
    | new j =>
      obtain ⟨z1, j2, z2, r2, rfl, rfl, hw7, hrun⟩ := iNew hrun0 rfl
      have hn : n1 = 3 := by simpa [ilK] using hN
      subst hn
      have hc8 : owM M = 0 ∧ j = 3 ∧ 3 ≤ frM M ∧ 60 ≤ loM M := of_decide_eq_true hc rfl
      obtain ⟨ho0, hj3, hf3, hl60⟩ := hc8
      subst hj3
      rcases hq' with ⟨h9, -⟩ | ⟨-, hpc1, n2, hd1, hN1, hc1, hq'⟩
      · exact absurd h9 (by intro z; cases z)
      have hn2 : n2 = 1 := by simpa [ilK] using hN1
      subst hn2
      rcases hq' with ⟨h9, -⟩ | ⟨-, hpc2, n3, hd2, hN2, hc2, hq'⟩
      · exact absurd h9 (by intro z; cases z)
      have hn3 : n3 = 3 := by simpa [ilK] using hN2
      subst hn3
      have hj52 : j2 = 52 := of_decide_eq_true hc2 ho0
      subst hj52
      obtain ⟨hP, hD, hH, hO, hS4, hS5, hS6⟩ := id hS
      have hm1 := run_mo _ _ _ _ hrun
      have hn1 : nC σ + 4 ≤ nC σ' := hm1.1
      have ht1 : tS σ + 1267 ≤ tS σ' := hm1.2.1
      have hl1 : nC (alS σ) < scrK := Nat.lt_of_le_of_lt hm1.1 hlim
      have hown9 : s.vm.findClass RX1 = some m.cls := by rw [ho0] at hown; exact hown
      refine va_newS hx hb hml hown9 hts hl hK hP hD hH hA ⟨by omega, by omega⟩ (by omega) (by omega) (by rw [st_W]; exact hw7) hd hd1 hd2 (fun q q1 q2 q3 H1 locs1 hP1 hD1 hS1 => ?_)
      have hext : ∀ k, (k < nC σ ∨ scrK ≤ k) → adS ad (nC σ) q q1 q2 q3 k = ad k := fun k h => adS_o (by have : nC σ + 4 < scrK := hl1; omega)
      rw [← rV_exts hext hv]
      have e9 : rV (adS ad (nC σ) q q1 q2 q3) (mR (some (nC σ))) = .ref q := by
        show Value.ref (adS ad (nC σ) q q1 q2 q3 (nC σ)) = _
        rw [adS0]
      have hg := IH _ _ _ _ _ (adS ad (nC σ) q q1 q2 q3) _ _ _ _ _ hrun ⟨by rw [mW_S hO hl1]; exact hP1, by rw [mW_S hO hl1]; exact hD1, hS1, ok_S hO hl1, ⟨Nat.le_trans hS4.1 (Nat.le_add_right _ 4), fun k hk => (hext k (hk.imp (fun h => Nat.lt_of_lt_of_le h hS4.1) id)).trans (hS4.2 k hk)⟩, (by show cells + 4 + nC σ' = cE + (nC σ + 4); omega), (by show slots + 1267 + tS σ' = sE + (tS σ + 1267); omega)⟩ (loc_ext hext hlv hl) (ok2 (fun j e => Or.inl (by cases e; exact Nat.lt_add_of_pos_right (by decide))) (fun v h => vOk_mono (Nat.le_add_right _ 4) (hv v h))) (fun v h => vOk_mono (Nat.le_add_right _ 4) (hlv v h)) hq'
      rw [List.map_cons, e9] at hg
      exact hg
    | invokevirtual j =>
      cases t with
      | cons t0 tt => exact (run_no hrun0 rfl).elim
      | nil =>
        have h := iCal hrun0 rfl
        have hn : n1 = 3 := by simpa [ilK] using hN
        subst hn
        simp only [chkI, Bool.and_eq_true, decide_eq_true_eq] at hc
        obtain ⟨⟨⟨⟨hc1, hc2⟩, hc3⟩, hc4⟩, hc5⟩ := hc
        obtain ⟨hca, hcb1, hcb2, hcb3⟩ := cvA a hc2
        obtain ⟨hP, hD, hH, hO, hS4, hS5, hS6⟩ := id hS
        rcases h with ⟨h9, -⟩ | ⟨-, kk, s', hdrop, hw8, hkd, q, hr1, hr2⟩
        · exact absurd h9 (by omega)
        · obtain ⟨e1, e2, e3⟩ := take_succ hdrop
          rw [e1] at hr1
          have hst : ∀ v ∈ st, vOk σ v := hv
          have has : ∀ v ∈ mR (some kk) :: (st.take b).reverse, vOk σ v := fun v h => hst v (by
            rw [e2]
            rcases List.mem_cons.mp h with h | h
            · exact List.mem_append_right _ (by rw [h]; exact List.mem_cons_self)
            · exact List.mem_append_left _ (List.mem_reverse.mp h))
          have hs' : ∀ v ∈ s', vOk σ v := fun v h => hst v (by rw [e2]; exact List.mem_append_right _ (List.mem_cons_of_mem _ h))
          obtain ⟨q1, q2⟩ := q
          have hm1 := run_mo _ _ _ _ hr1
          have hm2 := run_mo _ _ _ _ hr2
          have hm1 : nC σ ≤ nC q2 ∧ tS σ ≤ tS q2 ∧ q2.2.2.2.2.2 = σ.2.2.2.2.2 := by
            have : (enC a (mR (some kk) :: (st.take b).reverse) σ).2.2.2 = σ := by unfold enC; split <;> rfl
            rw [this] at hm1
            exact hm1
          have hm2 : nC q2 ≤ nC σ' ∧ tS q2 ≤ tS σ' ∧ σ'.2.2.2.2.2 = q2.2.2.2.2.2 := hm2
          have hsub : ∀ q, va_A (mW cA ad σ) H.size q → A q := fun q h => by
            rcases h with ⟨k, e, h⟩ | h
            · exact hD.2 k _ h
            · exact hA q (Nat.le_trans hH.1 h)
          have hM := call_Met (D := D) (cA := cA) (ad := ad) (sz := H.size) ih hca (hsq a (Or.inr hc2)) hO has hr1 (Nat.lt_of_le_of_lt hm2.1 hlim)
          have hstk : st.map (rV ad) = (((st.take b).reverse.map (rV ad)).reverse) ++ .ref (ad kk) :: s'.map (rV ad) := by
            rw [← List.map_reverse, List.reverse_reverse]
            rw (occs := .pos [1]) [e2]
            rw [List.map_append]
            rfl
          rw [hstk]
          refine va_callG (runV_d (C := (yN a).cls) (b := ad kk) (As := (st.take b).reverse.map (rV ad)) (rest := s'.map (rV ad)) (nL := mX M) ⟨hx, hb, hml, hown, hts⟩ hM ⟨callB_M hts hca hc1 hc5 hR1, hts _ hcb1, hts _ hcb2⟩ (callL_M hc5 hR1) ⟨pcM_blind, ?_, fun U hU hW => ⟨rfl, by rw [hU], by rw [hU]; exact hP, va_K.moved hW.alike hK, hD.weaken (fun _ _ _ _ => trivial), by rw [hU]; exact sX_narrow (sX_kept (sX_moved hW hsX1) hH.2.1) hsub, arX_moved hW.alike hAX⟩⟩ rfl (by rw [List.length_map, List.length_reverse, List.length_take, hc3]; omega) hl.1 rfl (lv_roomD (by rw [st_W]; exact hw8)) hd ⟨by omega, by omega⟩) hD hH hA (fun q h => h) (fun ad' H1 locs1 hext hP1 hD1 hO1 hvo hS1 => ?_)
          · by_cases h30 : k = 30
            · obtain ⟨j0, hj0, rfl⟩ := kd_50 (k := kk) hO (by omega)
              have h9 : ∃ cell : Cell, H[ad (strK + j0)]? = some cell ∧ cell.vm.isStatics = false ∧ s.vm.findClass "java/lang/String" = some cell.cls := vk_recv (adK := fun j => ad (strK + j)) (i := j0) hsX1.1 hj0 hH
              rw [hca.2.2.1, hc4, h30]
              exact h9
            have hkl : kk < nC σ := kd_lt hO (by omega)
            have := va_recv hK hP (clA k (by omega)) (q0 := kk) (fs := (List.range (clN k)).map (rF ad σ k kk)) (by rw [mW_get hkl, mE_obj hkd])
            rw [hca.2.2.1, hc4, ← clO k (by omega)]
            exact this
          · rw [← rV_exts hext hs', ← List.map_append]
            refine IH _ _ _ _ _ _ _ _ _ _ _ hr2 ⟨hP1, hD1, hS1, hO1, ⟨Nat.le_trans hS4.1 hm1.1, fun k hk => (hext k (hk.imp (fun h => Nat.lt_of_lt_of_le h hS4.1) id)).trans (hS4.2 k hk)⟩, (by show cells + (nC q2 - nC σ) + nC σ' = cE + nC q2; omega), (by show slots + (tS q2 - tS σ) + tS σ' = sE + tS q2; omega)⟩ (loc_ext hext hlv hl) (fun v h => ?_) (fun v h => vOk_mono hm1.1 (hlv v h)) hq'
            rcases List.mem_append.mp h with h | h
            · cases q1 with
              | none => cases h
              | some z => exact hvo v (by rw [List.mem_singleton.mp h])
            · exact vOk_mono hm1.1 (hs' v h)
    | invokestatic j =>
      cases t with
      | cons t0 tt =>
        obtain ⟨tk, t9⟩ := t0
        have hn : n1 = 3 := by simpa [ilK] using hN
        subst hn
        by_cases ht1 : tk = 1
        · subst ht1
          obtain ⟨n9, dp, y, sp, x, s', rfl, hw8, hac, hrun⟩ := iCpy hrun0 rfl
          simp only [chkI, Bool.and_eq_true, decide_eq_true_eq] at hc
          obtain ⟨⟨hc1, hc2⟩, hc3⟩ := hc
          obtain ⟨hP, hD, hH, hO, hS5⟩ := id hS
          obtain ⟨⟨hx1, hy1⟩, ⟨p1, p2, p3⟩, p4, p5⟩ := hac
          have hkx : x < nC σ := kd_lt hO (by omega)
          have hky : y < nC σ := kd_lt hO (by omega)
          have v1 : inR n9 := ok_h hv
          have v2 : inR dp := ok_h (ok_t hv)
          have v3 : inR sp := ok_h (ok_t (ok_t (ok_t hv)))
          have hs' : ∀ v ∈ s', vOk σ v := ok_t (ok_t (ok_t (ok_t (ok_t hv))))
          have hf : 1 ≤ R.frames := by omega
          have hl9 : (Jvm.Cond.methodLink (owS (owM M)) j arraycopyName).before args s = true := hts _ (bcA hc1)
          have hlc : ((s'.map (rV ad)).map fun v => v.category).sum + (nativeFrameWords "java/lang/System" "arraycopy" 5 + 11) ≤ R.locals := by rw [st_W, arc_w]; omega
          have hni : ∀ z, 0 ≤ z → inR z → ¬ rI z < 0 := fun z h1 h2 q => by have := (rI_neg h2).mp q; omega
          have h45 : (rI sp).toNatClampNeg + (rI n9).toNatClampNeg ≤ (kd σ x).2 := by rw [rI_nat v3, rI_nat v1]; omega
          have h55 : (rI dp).toNatClampNeg + (rI n9).toNatClampNeg ≤ (kd σ y).2 := by rw [rI_nat v2, rI_nat v1]; omega
          by_cases h4 : a = 4
          · subst h4
            have hrun : run n (tG M) (rr, ls, s', cpL σ x sp y dp n9) = some (r, σ') := hrun
            refine va_copyl (ty := .long) (f := fun i => rJ (gL σ x i)) (g := fun i => rJ (gL σ y i)) (n0 := (kd σ x).2) (n1 := (kd σ y).2) (c0 := cA 4) (c1 := cA 4) hx hb (hml.trans hl.1.symm) hown hl9 (hts _ cy3) (hts _ cy2) (hts _ cy1) hK hP hD hH x y 3 3 (by rw [mW_get hkx, mE_longs hx1]) (by rw [mW_get hky, mE_longs hy1]) rfl rfl rfl (hni _ p1 v3) (hni _ p2 v2) (hni _ p3 v1) h45 h55 (fun _ _ => rfl) hf hlc hd (fun H1 locs1 hP1 hD1 hS1 => ?_)
            rw [rI_nat v1, rI_nat v2, rI_nat v3] at hP1 hD1
            refine IH _ _ _ _ _ _ _ _ _ _ _ hrun ⟨?_, ?_, hS1, mOk_cpL hO, hS5⟩ hl hs' hlv hq'
            · rw [← mW_set (cA := cA) (ad := ad) (σ := σ) (σ' := cpL σ x sp y dp n9) (k := y) rfl (fun j hj => mE_cpL_ne hj), mE_cpL hy1 p1 p2 p3]; exact hP1
            · rw [← mW_set (cA := cA) (ad := ad) (σ := σ) (σ' := cpL σ x sp y dp n9) (k := y) rfl (fun j hj => mE_cpL_ne hj), mE_cpL hy1 p1 p2 p3]; exact hD1
          rw [if_neg h4] at hrun
          have ha2 : a = 1 ∨ a = 3 := by omega
          rcases ha2 with rfl | rfl
          · refine va_copyi (ty := .byte) (f := fun i => rI (gI σ x i)) (g := fun i => rI (gI σ y i)) (n0 := (kd σ x).2) (n1 := (kd σ y).2) (c0 := cA 1) (c1 := cA 1) hx hb (hml.trans hl.1.symm) hown hl9 (hts _ cy3) (hts _ cy2) (hts _ cy1) hK hP hD hH x y 0 0 (by rw [mW_get hkx, mE_ints hx1 (by omega)]) (by rw [mW_get hky, mE_ints hy1 (by omega)]) rfl rfl rfl (hni _ p1 v3) (hni _ p2 v2) (hni _ p3 v1) h45 h55 (fun i _ => fits_b (hO.2.2.2.2.2.1 x ((rI sp).toNatClampNeg + i) hx1)) hf hlc hd (fun H1 locs1 hP1 hD1 hS1 => ?_)
            rw [rI_nat v1, rI_nat v2, rI_nat v3] at hP1 hD1
            refine IH _ _ _ _ _ _ _ _ _ _ _ hrun ⟨?_, ?_, hS1, mOk_cpI hO (fun _ => hx1), hS5⟩ hl hs' hlv hq'
            · rw [← mW_set (cA := cA) (ad := ad) (σ := σ) (σ' := cpI σ x sp y dp n9) (k := y) rfl (fun j hj => mE_cpI_ne hj), mE_cpI hy1 (by omega) p1 p2 p3]; exact hP1
            · rw [← mW_set (cA := cA) (ad := ad) (σ := σ) (σ' := cpI σ x sp y dp n9) (k := y) rfl (fun j hj => mE_cpI_ne hj), mE_cpI hy1 (by omega) p1 p2 p3]; exact hD1
          · refine va_copyi (ty := .int) (f := fun i => rI (gI σ x i)) (g := fun i => rI (gI σ y i)) (n0 := (kd σ x).2) (n1 := (kd σ y).2) (c0 := cA 3) (c1 := cA 3) hx hb (hml.trans hl.1.symm) hown hl9 (hts _ cy3) (hts _ cy2) (hts _ cy1) hK hP hD hH x y 2 2 (by rw [mW_get hkx, mE_ints hx1 (by omega)]) (by rw [mW_get hky, mE_ints hy1 (by omega)]) rfl rfl rfl (hni _ p1 v3) (hni _ p2 v2) (hni _ p3 v1) h45 h55 (fun _ _ => rfl) hf hlc hd (fun H1 locs1 hP1 hD1 hS1 => ?_)
            rw [rI_nat v1, rI_nat v2, rI_nat v3] at hP1 hD1
            refine IH _ _ _ _ _ _ _ _ _ _ _ hrun ⟨?_, ?_, hS1, mOk_cpI hO (fun z => by omega), hS5⟩ hl hs' hlv hq'
            · rw [← mW_set (cA := cA) (ad := ad) (σ := σ) (σ' := cpI σ x sp y dp n9) (k := y) rfl (fun j hj => mE_cpI_ne hj), mE_cpI hy1 (by omega) p1 p2 p3]; exact hP1
            · rw [← mW_set (cA := cA) (ad := ad) (σ := σ) (σ' := cpI σ x sp y dp n9) (k := y) rfl (fun j hj => mE_cpI_ne hj), mE_cpI hy1 (by omega) p1 p2 p3]; exact hD1
        · by_cases ht2 : tk = 2
          · subst ht2
            obtain ⟨y, x, s', rfl, hxy, hw8, hrun⟩ := iChx hrun0 rfl
            simp only [chkI, Bool.and_eq_true, decide_eq_true_eq] at hc
            obtain ⟨⟨hc1, hc2⟩, hc3⟩ := hc
            subst hc2
            have hown9 : s.vm.findClass "java/lang/StringLatin1" = some m.cls := by rw [hc1] at hown; exact hown
            obtain ⟨hP, hD, hH, hO, hS4, hS5, hS6⟩ := id hS
            have hs' : ∀ v ∈ s', vOk σ v := ok_t (ok_t hv)
            have hm2 := run_mo _ _ _ _ hrun
            have hm21 : nC σ ≤ nC σ' := hm2.1
            have hm22 : tS σ ≤ tS σ' := hm2.2.1
            have hsub : ∀ q, va_A (mW cA ad σ) H.size q → A q := fun q h => by
              rcases h with ⟨k, e, h⟩ | h
              · exact hD.2 k _ h
              · exact hA q (Nat.le_trans hH.1 h)
            refine va_callG (σ' := σ) (r := none) (va_runS (y := yCk) (own := "java/lang/StringLatin1") (index := 9) (As := [.int (rI x), .int (rI y)]) (rest := s'.map (rV ad)) (nL := mX M) (n := 2) ⟨hx, hb, hml, hown9, hts⟩ (ck_Met hO (ok_h (ok_t hv)) (ok_h hv) hxy) ⟨⟨rfl, rfl, ?_, ?_, pay_in hts (fun w hw => ?_), List.mem_cons_self, hts _ ckA3, hts (iniW 30) (inA (by decide +kernel)), ⟨by decide, by decide⟩, fun sig hsig => ?_, hts _ ckA1⟩, hts _ ckA2⟩ ⟨pcK_blind, fun U hU hW => ⟨rfl, by rw [hU], by rw [hU]; exact hP, va_K.moved hW.alike hK, hD.weaken (fun _ _ _ _ => trivial), by rw [hU]; exact va_Zq.narrow (va_Zq.kept (va_Zq.moved hW.alike hsX1.2.2.2.2.2) hH.2.1) hsub⟩⟩ rfl rfl hl.1 rfl (lv_room (by rw [st_W]; exact hw8)) hd ⟨by omega, by omega⟩) hD hH hA (fun q h => h) (fun ad' H1 locs1 hext hP1 hD1 hO1 hvo hS1 => ?_)
            · show 1 + 1 ≤ R.frames
              omega
            · show 8 + (2 + 11) + 22 ≤ R.locals
              omega
            · rcases List.mem_cons.mp hw with e | h
              · rw [e]; exact ⟨ckA3, good_of_word (tbG_good ckA3)⟩
              · exact ⟨h, good_of_word (tbG_good h)⟩
            · have e : (parseMethodDescriptor yCk.desc).map (fun d => d.parameters.length) = some 2 := by decide +kernel
              rw [hsig] at e
              exact (Option.some.inj e).symm
            · rw [← rV_exts hext hs']
              exact IH _ _ _ _ _ _ _ _ _ _ _ hrun ⟨hP1, hD1, hS1, hO1, ⟨hS4.1, fun k hk => (hext k (hk.imp (fun h => Nat.lt_of_lt_of_le h hS4.1) id)).trans (hS4.2 k hk)⟩, hS5, hS6⟩ (loc_ext hext hlv hl) hs' hlv hq'
          · refine (run_no hrun0 ?_).elim
            simp only [mstep]
            split
            · rename_i h9; cases h9
            · rename_i h9; cases h9; exact absurd rfl ht1
            · rename_i h9; cases h9; exact absurd rfl ht2
            · rfl
      | nil =>
        have h := iCal hrun0 rfl
        have hn : n1 = 3 := by simpa [ilK] using hN
        subst hn
        simp only [chkI, Bool.and_eq_true, decide_eq_true_eq] at hc
        obtain ⟨⟨⟨hc1, hc2⟩, hc3⟩, hc5⟩ := hc
        obtain ⟨hca, hcb1⟩ := csA a hc2
        obtain ⟨hP, hD, hH, hO, hS4, hS5, hS6⟩ := id hS
        rcases h with ⟨-, hbl, hw8, q, hr1, hr2⟩ | ⟨h9, -⟩
        · have hst : ∀ v ∈ st, vOk σ v := hv
          have has : ∀ v ∈ (st.take b).reverse, vOk σ v := fun v h => hst v (List.mem_of_mem_take (List.mem_reverse.mp h))
          have hs' : ∀ v ∈ st.drop b, vOk σ v := fun v h => hst v (List.mem_of_mem_drop h)
          obtain ⟨q1, q2⟩ := q
          have hm1 := run_mo _ _ _ _ hr1
          have hm2 := run_mo _ _ _ _ hr2
          have hm1 : nC σ ≤ nC q2 ∧ tS σ ≤ tS q2 ∧ q2.2.2.2.2.2 = σ.2.2.2.2.2 := by
            have : (enC a ((st.take b).reverse) σ).2.2.2 = σ := by unfold enC; split <;> rfl
            rw [this] at hm1
            exact hm1
          have hm2 : nC q2 ≤ nC σ' ∧ tS q2 ≤ tS σ' ∧ σ'.2.2.2.2.2 = q2.2.2.2.2.2 := hm2
          have hsub : ∀ q, va_A (mW cA ad σ) H.size q → A q := fun q h => by
            rcases h with ⟨k, e, h⟩ | h
            · exact hD.2 k _ h
            · exact hA q (Nat.le_trans hH.1 h)
          have hM := call_Met (D := D) (cA := cA) (ad := ad) (sz := H.size) ih hca (hsq a (Or.inl hc2)) hO has hr1 (Nat.lt_of_le_of_lt hm2.1 hlim)
          have hstk : st.map (rV ad) = (((st.take b).reverse.map (rV ad)).reverse) ++ (st.drop b).map (rV ad) := by
            rw [← List.map_reverse, List.reverse_reverse, ← List.map_append, List.take_append_drop]
          rw [hstk]
          refine va_callG (runS_d (As := (st.take b).reverse.map (rV ad)) (rest := (st.drop b).map (rV ad)) (nL := mX M) ⟨hx, hb, hml, hown, hts⟩ hM ⟨callB_M hts hca hc1 hc5 hR1, hts _ hcb1⟩ (callL_M hc5 hR1) ⟨pcM_blind, fun U hU hW => ⟨rfl, by rw [hU], by rw [hU]; exact hP, va_K.moved hW.alike hK, hD.weaken (fun _ _ _ _ => trivial), by rw [hU]; exact sX_narrow (sX_kept (sX_moved hW hsX1) hH.2.1) hsub, arX_moved hW.alike hAX⟩⟩ rfl (by rw [List.length_map, List.length_reverse, List.length_take, hc3]; omega) hl.1 rfl (lv_roomD (by rw [st_W]; exact hw8)) hd ⟨by omega, by omega⟩) hD hH hA (fun q h => h) (fun ad' H1 locs1 hext hP1 hD1 hO1 hvo hS1 => ?_)
          rw [← rV_exts hext hs', ← List.map_append]
          refine IH _ _ _ _ _ _ _ _ _ _ _ hr2 ⟨hP1, hD1, hS1, hO1, ⟨Nat.le_trans hS4.1 hm1.1, fun k hk => (hext k (hk.imp (fun h => Nat.lt_of_lt_of_le h hS4.1) id)).trans (hS4.2 k hk)⟩, (by show cells + (nC q2 - nC σ) + nC σ' = cE + nC q2; omega), (by show slots + (tS q2 - tS σ) + tS σ' = sE + tS q2; omega)⟩ (loc_ext hext hlv hl) (fun v h => ?_) (fun v h => vOk_mono hm1.1 (hlv v h)) hq'
          rcases List.mem_append.mp h with h | h
          · cases q1 with
            | none => cases h
            | some z => exact hvo v (by rw [List.mem_singleton.mp h])
          · exact vOk_mono hm1.1 (hs' v h)
        · exact absurd rfl h9
    | ireturn =>
      obtain ⟨x, rfl, hk, e⟩ := iRtI hrun0 rfl
      have hn : n1 = 1 := by simpa [ilK] using hN
      subst hn
      cases e
      obtain ⟨hP, hD, hH, hO, hS4, hS5, hS6⟩ := id hS
      have e1 : cells = cE := by omega
      have e2 : slots = sE := by omega
      subst e1; subst e2
      refine hret ad H locs pc' LS hS ⟨hd, ?_⟩ (fun v h => by cases h; exact ok_h hv)
      simp only [chkI] at hc
      rcases hk with rfl | ⟨rfl, hk⟩ | ⟨rfl, hk⟩ | ⟨k0, k1, k2, hk⟩
      · exact Or.inl (of_decide_eq_true hc)
      · exact Or.inr (Or.inl ⟨of_decide_eq_true hc, hk⟩)
      · exact Or.inr (Or.inr (Or.inl ⟨of_decide_eq_true hc, hk⟩))
      · refine Or.inr (Or.inr (Or.inr ⟨?_, hk⟩))
        split at hc
        · exact absurd rfl k0
        · exact absurd rfl k1
        · exact absurd rfl k2
        · exact of_decide_eq_true hc
    | lreturn =>
      obtain ⟨x, rfl, e⟩ := iRtL hrun0 rfl
      have hn : n1 = 1 := by simpa [ilK] using hN
      subst hn
      cases e
      obtain ⟨hP, hD, hH, hO, hS4, hS5, hS6⟩ := id hS
      have e1 : cells = cE := by omega
      have e2 : slots = sE := by omega
      subst e1; subst e2
      exact hret ad H locs pc' LS hS ⟨hd, of_decide_eq_true hc⟩ (fun v h => by cases h; exact ok_h hv)
    | areturn =>
      obtain ⟨x, rfl, e⟩ := iRtR hrun0 rfl
      have hn : n1 = 1 := by simpa [ilK] using hN
      subst hn
      cases e
      obtain ⟨hP, hD, hH, hO, hS4, hS5, hS6⟩ := id hS
      have e1 : cells = cE := by omega
      have e2 : slots = sE := by omega
      subst e1; subst e2
      refine hret ad H locs pc' LS hS ⟨hd, ?_⟩ (fun v h => by cases h; exact ok_h hv)
      simp only [chkI] at hc
      split at hc
      · rename_i q hq
        exact Or.inl ⟨q, hq⟩
      · rename_i q hq
        exact Or.inr ⟨q, hq⟩
      · cases hc
    | return_ =>
      obtain ⟨rfl, e⟩ := iRtV hrun0 rfl
      have hn : n1 = 1 := by simpa [ilK] using hN
      subst hn
      cases e
      obtain ⟨hP, hD, hH, hO, hS4, hS5, hS6⟩ := id hS
      have e1 : cells = cE := by omega
      have e2 : slots = sE := by omega
      subst e1; subst e2
      exact hret ad H locs pc' LS hS ⟨hd, of_decide_eq_true hc⟩ (fun v h => by cases h)
    | nop => exact absurd rfl h0
    | _ => exact (run_no hrun0 rfl).elim
