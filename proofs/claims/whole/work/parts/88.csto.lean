/-! ===== the class's stores, exchanges ===== -/
section CSTO
variable {τ σ ρ : MS} {k j pl : Nat} {E : EV} {w : B64} {S : ST} {t a b n z : Int} {v : VL}
abbrev stV (S : ST) (w : B64) : VL := if fL w = 3 then rgV S (sRr w) else numV (cstN (BitVec.ofInt 64 (fI w)))
theorem spo_q {T : ST} (h : crq τ σ k) (hT : CSt τ k T) (ht : gI σ 40 8 = t) : spo σ τ k j 0 T (gI σ 40 4) t := ⟨sfq_c h, fun _ => ⟨hT, h.1 _ _, h.1 _ _, (h.1 _ _).trans ht⟩⟩
/-- into a stack -/
theorem T258 {f b : Nat} (H : SC σ k j E w) (hS : CSt σ k S) (P : PX S E t) (ht : gI σ 40 8 = t) (hd : fD w ≤ 10) (hs : fL w = 3 → fS w ≤ 10) (k3 : vk (rgV S (dR w)) = 3) (hf : vw (rgV S (dR w)) = (f : Int)) (hb : vo (rgV S (dR w)) + fO w + 128 = (b : Int)) (fF : f < sF S) (bl' : b + bytN w ≤ 128) (v0 : ¬ vk (stV S w) = 0) :
    okc (MM 258 [mR (some 40), mI ((pR S (dR w) : Nat) : Int), mI (b2 (fL w = 3)), mI (vk (stV S w))] σ) (some (mI (if ¬ vk (stV S w) = 1 ∧ (¬ (bytN w = 8 ∧ b % 8 = 0) ∨ vk (stV S w) = 3 ∧ (f : Int) < vw (stV S w)) then 7 else 0)))
      (fun τ => spo σ τ k j (if ¬ vk (stV S w) = 1 ∧ (¬ (bytN w = 8 ∧ b % 8 = 0) ∨ vk (stV S w) = 3 ∧ (f : Int) < vw (stV S w)) then 7 else 0) (if bytN w = 8 ∧ b % 8 = 0 then (sF S, upV (sV S) (26 * f + 10 + b / 8) (stV S w), sB S, sH S) else putB S f b (bytN w) (bytN w)) (gI σ 40 4) t) := by
  have F := PX_F P
  have bn := bytN_c w
  have hd' := dR_10 hd
  have l := pR_lt F hd'
  have hv := cAt_rg hS F.1 hd'
  have l7 : pR S (dR w) + 7 < 100000 := by omega
  have l8 : pR S (dR w) + 8 < 100000 := by omega
  have g7 := gSt (sc_k H) (show pR S (dR w) + 7 < 1188 by omega)
  have g8 := gSt (sc_k H) (show pR S (dR w) + 8 < 1188 by omega)
  have r7 : gL σ (k + 1 + 0) (pR S (dR w) + 7) + iL (fO w) = iL (vo (rgV S (dR w)) + fO w) := by rw [rd_7 hv, iLa]
  have r8 : gL σ (k + 1 + 0) (pR S (dR w) + 8) = iL (f : Int) := by rw [rd_8 hv, hf]
  obtain ⟨a, ha⟩ : ∃ a, a = vo (rgV S (dR w)) + fO w := ⟨_, rfl⟩
  rw [← ha] at r7 hb
  have rg3 : vk (stV S w) = 3 → fL w = 3 := fun z => by
    by_cases q : fL w = 3
    · exact q
    · have e : stV S w = numV (cstN (BitVec.ofInt 64 (fI w))) := if_neg q
      rw [e] at z
      exact absurd (show (1 : Int) = 3 from z) (by decide)
  have b8 : (((bytN w : Nat) : Int) = 8) = (bytN w = 8) := by
    apply propext
    omega
  have s44 : MM 258 [mR (some 40), mI ((pR S (dR w) : Nat) : Int), mI (b2 (fL w = 3)), mI (vk (stV S w))] σ = RR (lkB tb258) (B258_44, [some (mR (some 40)), some (mI ((pR S (dR w) : Nat) : Int)), some (mI (b2 (fL w = 3))), some (mI (vk (stV S w))), some (mL (iL (f : Int))), none, some (mL (iL a)), none, none], [mI ((bytN w : Nat) : Int)], σ) := by
    simp only [M258, e258_0, e258_33, Option.getD_some, Option.bind_some, Option.toList_some, Option.toList_none, List.cons_append, List.nil_append, and_self, and_true, true_and, false_and, and_false, ite_self, not_true_eq_false, not_false_eq_true, reduceIte, Nat.reduceEqDiff, ab_I, ab_L, ab_R, ao_I, ao_L, ao_R, gL_sL, gI_sI, gR_sR, gI_sL, gI_sR, gL_sI, gL_sR, gR_sI, gR_sL, sc_h H, sc_ao H, wp7 l7, wp8 l8, g7, g8, Int.toNat_natCast, sc_w H, T3, r7, r8, sc_p H, T5]
  rw [s44]
  -- a stack that is farther up
  by_cases up : vk (stV S w) = 3 ∧ (f : Int) < vw (stV S w)
  · rw [if_pos (show ¬ vk (stV S w) = 1 ∧ (¬ (bytN w = 8 ∧ b % 8 = 0) ∨ vk (stV S w) = 3 ∧ (f : Int) < vw (stV S w)) from ⟨by omega, Or.inr up⟩)]
    have l3 := rg3 up.1
    have er : stV S w = rgV S (sRr w) := if_pos l3
    have hs' := sR_10 (hs l3)
    have ls := pR_lt F hs'
    have l8s : pR S (sRr w) + 8 < 100000 := by omega
    have g8s := gSt (sc_k H) (show pR S (sRr w) + 8 < 1188 by omega)
    have r8s := rd_8 (cAt_rg hS F.1 hs')
    have wv := (okW_r P hs').2.2.1
    rw [er] at up
    have nl : ¬ BitVec.toInt (iL (vw (rgV S (sRr w)))) ≤ BitVec.toInt (iL (f : Int)) := by
      rw [iLt (by omega) (by omega), iLt (by omega) (by omega)]
      omega
    refine okc_o (τ := σ) ?_ (spo_e (by decide))
    rw [er]
    simp only [e258_44, e258_62, Option.getD_some, Option.bind_some, Option.toList_some, Option.toList_none, List.cons_append, List.nil_append, and_self, and_true, true_and, false_and, and_false, ite_self, not_true_eq_false, not_false_eq_true, reduceIte, Nat.reduceEqDiff, ab_I, ab_L, ab_R, ao_I, ao_L, ao_R, gL_sL, gI_sI, gR_sR, gI_sL, gI_sR, gL_sI, gL_sR, gR_sI, gR_sL, up.1, sc_h H, sc_ao H, T242 H hS F (hs l3), wp8 l8s, g8s, Int.toNat_natCast, r8s, nl]
  · have s75 : RR (lkB tb258) (B258_44, [some (mR (some 40)), some (mI ((pR S (dR w) : Nat) : Int)), some (mI (b2 (fL w = 3))), some (mI (vk (stV S w))), some (mL (iL (f : Int))), none, some (mL (iL a)), none, none], [mI ((bytN w : Nat) : Int)], σ) = RR (lkB tb258) (B258_75, [some (mR (some 40)), some (mI ((pR S (dR w) : Nat) : Int)), some (mI (b2 (fL w = 3))), some (mI (vk (stV S w))), some (mL (iL (f : Int))), none, some (mL (iL a)), none, some (mI ((bytN w : Nat) : Int))], [], σ) := by
      by_cases v3 : vk (stV S w) = 3
      · have l3 := rg3 v3
        have er : stV S w = rgV S (sRr w) := if_pos l3
        have hs' := sR_10 (hs l3)
        have ls := pR_lt F hs'
        have l8s : pR S (sRr w) + 8 < 100000 := by omega
        have g8s := gSt (sc_k H) (show pR S (sRr w) + 8 < 1188 by omega)
        have r8s := rd_8 (cAt_rg hS F.1 hs')
        have wv := (okW_r P hs').2.2.1
        have nu : ¬ (f : Int) < vw (rgV S (sRr w)) := fun z => up ⟨v3, by rw [er]; exact z⟩
        have le : BitVec.toInt (iL (vw (rgV S (sRr w)))) ≤ BitVec.toInt (iL (f : Int)) := by
          rw [iLt (by omega) (by omega), iLt (by omega) (by omega)]
          omega
        rw [v3]
        simp only [e258_44, e258_62, Option.getD_some, Option.bind_some, Option.toList_some, Option.toList_none, List.cons_append, List.nil_append, and_self, and_true, true_and, false_and, and_false, ite_self, not_true_eq_false, not_false_eq_true, reduceIte, Nat.reduceEqDiff, ab_I, ab_L, ab_R, ao_I, ao_L, ao_R, gL_sL, gI_sI, gR_sR, gI_sL, gI_sR, gL_sI, gL_sR, gR_sI, gR_sL, sc_h H, sc_ao H, T242 H hS F (hs l3), wp8 l8s, g8s, Int.toNat_natCast, r8s, le]
      · simp only [e258_44, Option.getD_some, Option.bind_some, Option.toList_some, Option.toList_none, List.cons_append, List.nil_append, and_self, and_true, true_and, false_and, and_false, ite_self, not_true_eq_false, not_false_eq_true, reduceIte, Nat.reduceEqDiff, ab_I, ab_L, ab_R, ao_I, ao_L, ao_R, gL_sL, gI_sI, gR_sR, gI_sL, gI_sR, gL_sI, gL_sR, gR_sI, gR_sL, v3]
    rw [s75]
    -- whole or bytes
    have whole : ∀ (τ1 : MS) (o : Option Rs), bytN w = 8 ∧ b % 8 = 0 → o = some (some (mI 0), τ1) → (∃ σ1, nfq σ1 σ ∧ cxV τ1 σ1 k (297 * f + 121 + 11 * (b / 8)) (stV S w)) → okc o (some (mI (if ¬ vk (stV S w) = 1 ∧ (¬ (bytN w = 8 ∧ b % 8 = 0) ∨ vk (stV S w) = 3 ∧ (f : Int) < vw (stV S w)) then 7 else 0)))
      (fun τ => spo σ τ k j (if ¬ vk (stV S w) = 1 ∧ (¬ (bytN w = 8 ∧ b % 8 = 0) ∨ vk (stV S w) = 3 ∧ (f : Int) < vw (stV S w)) then 7 else 0) (if bytN w = 8 ∧ b % 8 = 0 then (sF S, upV (sV S) (26 * f + 10 + b / 8) (stV S w), sB S, sH S) else putB S f b (bytN w) (bytN w)) (gI σ 40 4) t) := fun τ1 o wh e h => by
      obtain ⟨σ1, q1, q2⟩ := h
      rw [if_neg (show ¬ (¬ vk (stV S w) = 1 ∧ (¬ (bytN w = 8 ∧ b % 8 = 0) ∨ vk (stV S w) = 3 ∧ (f : Int) < vw (stV S w))) from fun z => z.2.elim (fun y => y wh) up), if_pos wh]
      refine okc_o e ⟨sfq_t (sfq_v q2) (sfq_n q1), fun _ => ⟨CSt_p F.2 (CSt_n (sc_c H) q1 hS) fF (by omega) q2, (q2.1 _ _).trans (q1.1 _ _), (q2.1 _ _).trans (q1.1 _ _), ((q2.1 _ _).trans (q1.1 _ _)).trans ht⟩⟩
    have bytes : ∀ (σ1 : MS) (o : Option Rs), nfq σ1 σ → ¬ (bytN w = 8 ∧ b % 8 = 0) → (vk (stV S w) = 1 → ∀ τ', MM 227 [mR (some k), mL (iL (f : Int)), mL (iL a), mL (iL ((bytN w : Nat) : Int)), mL (iL ((bytN w : Nat) : Int))] σ1 = some (none, τ') → o = some (some (mI 0), τ')) → (¬ vk (stV S w) = 1 → o = some (some (mI 7), σ1)) → okc o (some (mI (if ¬ vk (stV S w) = 1 ∧ (¬ (bytN w = 8 ∧ b % 8 = 0) ∨ vk (stV S w) = 3 ∧ (f : Int) < vw (stV S w)) then 7 else 0)))
      (fun τ => spo σ τ k j (if ¬ vk (stV S w) = 1 ∧ (¬ (bytN w = 8 ∧ b % 8 = 0) ∨ vk (stV S w) = 3 ∧ (f : Int) < vw (stV S w)) then 7 else 0) (if bytN w = 8 ∧ b % 8 = 0 then (sF S, upV (sV S) (26 * f + 10 + b / 8) (stV S w), sB S, sH S) else putB S f b (bytN w) (bytN w)) (gI σ 40 4) t) := fun σ1 o q1 nw e1 e2 => by
      by_cases v1 : vk (stV S w) = 1
      · rw [if_neg (show ¬ (¬ vk (stV S w) = 1 ∧ (¬ (bytN w = 8 ∧ b % 8 = 0) ∨ vk (stV S w) = 3 ∧ (f : Int) < vw (stV S w))) from fun z => z.1 v1), if_neg nw]
        have H1 := SC_n q1 H
        obtain ⟨τ, e27, c27, q27⟩ := T227 (b := b) (n := bytN w) (c := bytN w) (a := a) (sc_k H1) (CSt_n (sc_c H) q1 hS) P.2.1 (fun i hi => (okW_S P.1 P.2.1 P.2.2.1 P.2.2.2 hi).1) F.2 fF hb bl' (Nat.le_refl _)
        exact okc_o (e1 v1 τ e27) ⟨sfq_t (sfq_c q27) (sfq_n q1), fun _ => ⟨c27, (q27.1 _ _).trans (q1.1 _ _), (q27.1 _ _).trans (q1.1 _ _), ((q27.1 _ _).trans (q1.1 _ _)).trans ht⟩⟩
      · rw [if_pos (show ¬ vk (stV S w) = 1 ∧ (¬ (bytN w = 8 ∧ b % 8 = 0) ∨ vk (stV S w) = 3 ∧ (f : Int) < vw (stV S w)) from ⟨v1, Or.inl nw⟩)]
        exact okc_o (e2 v1) (spo_f (by decide) (sfq_n q1))
    by_cases l3 : fL w = 3
    · have er : stV S w = rgV S (sRr w) := if_pos l3
      have hs' := sR_10 (hs l3)
      obtain ⟨τ, t24, q24⟩ := T224 (f := f) (b := b) (c := ((bytN w : Nat) : Int)) (a := a) (pl := pR S (sRr w)) (sc_k H) (by omega) hb (by omega) (fun _ => by omega) (pR_lt F hs') (cAt_rg hS F.1 hs')
      rw [b2_yes l3]
      by_cases wh : bytN w = 8 ∧ b % 8 = 0
      · have wh' : ((bytN w : Nat) : Int) = 8 ∧ b % 8 = 0 := ⟨by rw [b8]; exact wh.1, wh.2⟩
        rw [if_pos wh'] at q24
        rw [b2_yes wh'] at t24
        refine whole τ _ wh ?_ ⟨σ, nfq_r σ, by rw [er]; exact q24⟩
        simp only [e258_75, e258_93, e258_96, Option.getD_some, Option.bind_some, Option.toList_some, Option.toList_none, List.cons_append, List.nil_append, and_self, and_true, true_and, false_and, and_false, ite_self, not_true_eq_false, not_false_eq_true, reduceIte, Nat.reduceEqDiff, ab_I, ab_L, ab_R, ao_I, ao_L, ao_R, gL_sL, gI_sI, gR_sR, gI_sL, gI_sR, gL_sI, gL_sR, gR_sI, gR_sL, oneI, T242 H hS F (hs l3), sc_h H, sc_ao H, t24]
      · have wh' : ¬ (((bytN w : Nat) : Int) = 8 ∧ b % 8 = 0) := fun z => wh ⟨by rw [← b8]; exact z.1, z.2⟩
        rw [if_neg wh'] at q24
        rw [b2_no wh', q24] at t24
        refine bytes σ _ (nfq_r σ) wh (fun v1 τ' e27 => ?_) (fun v1 => ?_)
        · simp only [e258_75, e258_93, e258_96, e258_163, Option.getD_some, Option.bind_some, Option.toList_some, Option.toList_none, List.cons_append, List.nil_append, and_self, and_true, true_and, false_and, and_false, ite_self, not_true_eq_false, not_false_eq_true, reduceIte, Nat.reduceEqDiff, ab_I, ab_L, ab_R, ao_I, ao_L, ao_R, gL_sL, gI_sI, gR_sR, gI_sL, gI_sR, gL_sI, gL_sR, gR_sI, gR_sL, oneI, T242 H hS F (hs l3), sc_h H, sc_ao H, t24, v1, e27]
        · simp only [e258_75, e258_93, e258_96, Option.getD_some, Option.bind_some, Option.toList_some, Option.toList_none, List.cons_append, List.nil_append, and_self, and_true, true_and, false_and, and_false, ite_self, not_true_eq_false, not_false_eq_true, reduceIte, Nat.reduceEqDiff, ab_I, ab_L, ab_R, ao_I, ao_L, ao_R, gL_sL, gI_sI, gR_sR, gI_sL, gI_sR, gL_sI, gL_sR, gR_sI, gR_sL, oneI, T242 H hS F (hs l3), sc_h H, sc_ao H, t24, v1]
    · have er : stV S w = numV (cstN (BitVec.ofInt 64 (fI w))) := if_neg l3
      have t61 := T61 (σ := σ) (k := 42) (x1 := iL (fI w)) (kc_42 σ)
      have q1 : nfq (wC σ 42 (cstN (iL (fI w)))) σ := nfq_w (by omega)
      have H1 := SC_n q1 H
      have sc := sc_c H
      obtain ⟨τ, t25, q25⟩ := T225 (f := f) (b := b) (c := ((bytN w : Nat) : Int)) (a := a) (j := 42) (sc_k H1) (by omega) hb (by omega) (fun _ => by omega) (kc_42 (wC σ 42 (cstN (iL (fI w))))) (by omega)
      rw [b2_no l3]
      by_cases wh : bytN w = 8 ∧ b % 8 = 0
      · have wh' : ((bytN w : Nat) : Int) = 8 ∧ b % 8 = 0 := ⟨by rw [b8]; exact wh.1, wh.2⟩
        rw [if_pos wh', rC_wC, if_pos rfl] at q25
        rw [b2_yes wh'] at t25
        refine whole τ _ wh ?_ ⟨_, q1, by rw [er]; exact q25⟩
        simp only [e258_75, e258_112, e258_116, e258_133, Option.getD_some, Option.bind_some, Option.toList_some, Option.toList_none, List.cons_append, List.nil_append, and_self, and_true, true_and, false_and, and_false, ite_self, not_true_eq_false, not_false_eq_true, reduceIte, Nat.reduceEqDiff, ab_I, ab_L, ab_R, ao_I, ao_L, ao_R, gL_sL, gI_sI, gR_sR, gI_sL, gI_sR, gL_sI, gL_sR, gR_sI, gR_sL, oneI, sc_w H, T4, aoR 42 (kc_42 _), t61, sc_h H1, sc_ao H1, t25]
      · have wh' : ¬ (((bytN w : Nat) : Int) = 8 ∧ b % 8 = 0) := fun z => wh ⟨by rw [← b8]; exact z.1, z.2⟩
        rw [if_neg wh'] at q25
        rw [b2_no wh', q25] at t25
        refine bytes _ _ q1 wh (fun v1 τ' e27 => ?_) (fun v1 => ?_)
        · simp only [e258_75, e258_112, e258_116, e258_133, e258_163, Option.getD_some, Option.bind_some, Option.toList_some, Option.toList_none, List.cons_append, List.nil_append, and_self, and_true, true_and, false_and, and_false, ite_self, not_true_eq_false, not_false_eq_true, reduceIte, Nat.reduceEqDiff, ab_I, ab_L, ab_R, ao_I, ao_L, ao_R, gL_sL, gI_sI, gR_sR, gI_sL, gI_sR, gL_sI, gL_sR, gR_sI, gR_sL, sc_w H, T4, aoR 42 (kc_42 _), t61, sc_h H1, sc_ao H1, t25, v1, e27]
        · simp only [e258_75, e258_112, e258_116, e258_133, Option.getD_some, Option.bind_some, Option.toList_some, Option.toList_none, List.cons_append, List.nil_append, and_self, and_true, true_and, false_and, and_false, ite_self, not_true_eq_false, not_false_eq_true, reduceIte, Nat.reduceEqDiff, ab_I, ab_L, ab_R, ao_I, ao_L, ao_R, gL_sL, gI_sI, gR_sR, gI_sL, gI_sR, gL_sI, gL_sR, gR_sI, gR_sL, sc_w H, T4, aoR 42 (kc_42 _), t61, sc_h H1, sc_ao H1, t25, v1]
theorem T257 (H : SC σ k j E w) (hS : CSt σ k S) (P : PX S E t) (ht : gI σ 40 8 = t) (hw : okMem w) (hl : fL w = 2 ∨ fL w = 3 ∧ fM w = 96) : okc (MM 257 [mR (some 40)] σ) (some (mI (stoV E S w).1)) (fun τ => spo σ τ k j (stoV E S w).1 (stoV E S w).2 (gI σ 40 4) t) := by
  have F := PX_F P
  have hd : fD w ≤ 10 := by
    unfold okMem at hw
    rw [if_neg (by omega)] at hw
    rcases hl with q | q
    · rw [if_pos q] at hw
      exact hw.2.1
    · rw [if_neg (by omega), if_pos q.2] at hw
      exact hw.1
  have hs : fL w = 3 → fS w ≤ 10 := fun q => by
    unfold okMem at hw
    rw [if_neg (by omega), if_neg (by omega), if_pos (by omega)] at hw
    exact hw.2.1
  have hd' := dR_10 hd
  have l := pR_lt F hd'
  have hv := cAt_rg hS F.1 hd'
  have wv := okW_r P hd'
  have ov := rV_ok P.1 hd'
  have bn := bytN_c w
  have fo := fO_r w
  have t41 := T241 H hS F hd
  have t14 := T214r H hS P hd'
  have fof := okV_f P.1 hd'
  have s50 : MM 257 [mR (some 40)] σ = RR (lkB tb257) (B257_50, [some (mR (some 40)), some (mI ((pR S (dR w) : Nat) : Int)), some (mI (vk (rgV S (dR w)))), some (mI (b2 (fL w = 3))), none], [mI (vk (stV S w))], σ) := by
    by_cases l3 : fL w = 3
    · have er : stV S w = rgV S (sRr w) := if_pos l3
      have ts := T214r H hS P (r := sRr w) (sR_10 (hs l3))
      rw [b2_yes l3, er]
      simp only [M257, e257_0, e257_4, e257_13, e257_30, e257_43, e257_46, Option.getD_some, Option.bind_some, Option.toList_some, Option.toList_none, List.cons_append, List.nil_append, and_self, and_true, true_and, false_and, and_false, ite_self, not_true_eq_false, not_false_eq_true, reduceIte, Nat.reduceEqDiff, ab_I, ab_L, ab_R, ao_I, ao_L, ao_R, gL_sL, gI_sI, gR_sR, gI_sL, gI_sR, gL_sI, gL_sR, gR_sI, gR_sL, t41, sc_h H, sc_ao H, t14, sc_p H, m7, l3, oneI, T242 H hS F (hs l3), ts]
    · have er : stV S w = numV (cstN (BitVec.ofInt 64 (fI w))) := if_neg l3
      have e1 : vk (stV S w) = 1 := by rw [er]; rfl
      rw [b2_no l3, e1]
      simp only [M257, e257_0, e257_4, e257_13, e257_30, Option.getD_some, Option.bind_some, Option.toList_some, Option.toList_none, List.cons_append, List.nil_append, and_self, and_true, true_and, false_and, and_false, ite_self, not_true_eq_false, not_false_eq_true, reduceIte, Nat.reduceEqDiff, ab_I, ab_L, ab_R, ao_I, ao_L, ao_R, gL_sL, gI_sI, gR_sR, gI_sL, gI_sR, gL_sI, gL_sR, gR_sI, gR_sL, t41, sc_h H, sc_ao H, t14, sc_p H, m7, l3]
  rw [s50]
  have sto : stoV E S w = (if vk (rgV S (dR w)) = 0 then (3, S)
    else if vk (stV S w) = 0 then (3, S)
    else if vk (rgV S (dR w)) = 2 then
      (if ¬ bytN w = 4 ∨ ¬ fO w = 12 then (9, S)
       else if ¬ vk (stV S w) = 1 then (7, S) else (0, S))
    else if ¬ plcF (rgV S (dR w)) = 0 then (plcF (rgV S (dR w)), S)
    else if ¬ room E (rgV S (dR w)) (fO w) (bytN w) then (5, S)
    else if ¬ vk (stV S w) = 1 ∧ (¬ (vk (rgV S (dR w)) = 3 ∧ bytN w = 8 ∧ (vo (rgV S (dR w)) + fO w + 128) % 8 = 0) ∨ vk (stV S w) = 3 ∧ vw (rgV S (dR w)) < vw (stV S w)) then (7, S)
    else if vk (rgV S (dR w)) = 3 ∧ bytN w = 8 ∧ (vo (rgV S (dR w)) + fO w + 128) % 8 = 0 then
      (0, (sF S, upV (sV S) (26 * (vw (rgV S (dR w))).toNat + 10 + (vo (rgV S (dR w)) + fO w + 128).toNat / 8) (stV S w), sB S, sH S))
    else if vk (rgV S (dR w)) = 3 then (0, putB S (vw (rgV S (dR w))).toNat (vo (rgV S (dR w)) + fO w + 128).toNat (bytN w) (bytN w))
    else (0, S)) := rfl
  rw [sto]
  clear sto s50
  have t58 := fun (f b : Nat) => T258 (f := f) (b := b) H hS P ht hd hs
  obtain ⟨V, hV⟩ : ∃ V, V = stV S w := ⟨_, rfl⟩
  rw [← hV] at t58 ⊢
  have go : ∀ {x : Int}, gI σ 40 8 = t → x = 0 → spo σ σ k j x S (gI σ 40 4) t := fun q z => by
    subst z
    have := spo_0 (j := j) hS
    rwa [q] at this
  generalize hv' : rgV S (dR w) = v at *
  by_cases c0 : vk v = 0
  · rw [if_pos c0]
    refine okc_o (τ := σ) ?_ (spo_e (by show ¬ (3 : Int) = 0; decide))
    simp only [e257_50, Option.getD_some, Option.bind_some, Option.toList_some, Option.toList_none, List.cons_append, List.nil_append, and_self, and_true, true_and, false_and, and_false, ite_self, not_true_eq_false, not_false_eq_true, reduceIte, Nat.reduceEqDiff, ab_I, ab_L, ab_R, ao_I, ao_L, ao_R, gL_sL, gI_sI, gR_sR, gI_sL, gI_sR, gL_sI, gL_sR, gR_sI, gR_sL, c0]
  · rw [if_neg c0]
    by_cases d0 : vk V = 0
    · rw [if_pos d0]
      refine okc_o (τ := σ) ?_ (spo_e (by show ¬ (3 : Int) = 0; decide))
      simp only [e257_50, Option.getD_some, Option.bind_some, Option.toList_some, Option.toList_none, List.cons_append, List.nil_append, and_self, and_true, true_and, false_and, and_false, ite_self, not_true_eq_false, not_false_eq_true, reduceIte, Nat.reduceEqDiff, ab_I, ab_L, ab_R, ao_I, ao_L, ao_R, gL_sL, gI_sI, gR_sR, gI_sL, gI_sR, gL_sI, gL_sR, gR_sI, gR_sL, c0, d0]
    · rw [if_neg d0]
      by_cases mb : isMb v
      · have n2 : ¬ vk v = 2 := by have mb : vk v = 6 ∨ vk v = 10 := mb; omega
        have pf : plcF v = 14 := if_pos mb
        rw [if_neg n2, pf, if_pos (by decide)]
        refine okc_o (τ := σ) ?_ (spo_e (by show ¬ (14 : Int) = 0; decide))
        have mb' : vk v = 6 ∨ vk v = 10 := mb
        simp only [e257_50, e257_67, Option.getD_some, Option.bind_some, Option.toList_some, Option.toList_none, List.cons_append, List.nil_append, and_self, and_true, true_and, false_and, and_false, ite_self, not_true_eq_false, not_false_eq_true, reduceIte, Nat.reduceEqDiff, ab_I, ab_L, ab_R, ao_I, ao_L, ao_R, gL_sL, gI_sI, gR_sR, gI_sL, gI_sR, gL_sI, gL_sR, gR_sI, gR_sL, c0, d0, T244, b2_0', mb']
      · have mb' : ¬ (vk v = 6 ∨ vk v = 10) := mb
        by_cases c2 : vk v = 2
        · rw [if_pos c2]
          have o26 : ¬ ((2 : Int) = 6 ∨ (2 : Int) = 10) := by decide
          by_cases b4 : bytN w = 4
          · have b4' : ((bytN w : Nat) : Int) = 4 := by omega
            by_cases o12 : fO w = 12
            · rw [if_neg (fun z => z.elim (fun y => y b4) (fun y => y o12))]
              by_cases d1 : vk V = 1
              · rw [if_neg (not_not_intro d1)]
                refine okc_o (τ := σ) ?_ (go ht rfl)
                simp only [e257_50, e257_67, e257_85, e257_96, e257_139, Option.getD_some, Option.bind_some, Option.toList_some, Option.toList_none, List.cons_append, List.nil_append, and_self, and_true, true_and, false_and, and_false, ite_self, not_true_eq_false, not_false_eq_true, reduceIte, Nat.reduceEqDiff, ab_I, ab_L, ab_R, ao_I, ao_L, ao_R, gL_sL, gI_sI, gR_sR, gI_sL, gI_sR, gL_sI, gL_sR, gR_sI, gR_sL, c2, Int.reduceEq, d0, T244, b2_0', o26, or_self, sc_p H, T5, b4', sc_w H, T3, o12, eq_true d1, oneI]
              · rw [if_pos d1]
                refine okc_o (τ := σ) ?_ (spo_e (by show ¬ (7 : Int) = 0; decide))
                simp only [e257_50, e257_67, e257_85, e257_96, e257_139, Option.getD_some, Option.bind_some, Option.toList_some, Option.toList_none, List.cons_append, List.nil_append, and_self, and_true, true_and, false_and, and_false, ite_self, not_true_eq_false, not_false_eq_true, reduceIte, Nat.reduceEqDiff, ab_I, ab_L, ab_R, ao_I, ao_L, ao_R, gL_sL, gI_sI, gR_sR, gI_sL, gI_sR, gL_sI, gL_sR, gR_sI, gR_sL, c2, Int.reduceEq, d0, T244, b2_0', o26, or_self, sc_p H, T5, b4', sc_w H, T3, o12, d1]
            · rw [if_pos (Or.inr o12)]
              refine okc_o (τ := σ) ?_ (spo_e (by show ¬ (9 : Int) = 0; decide))
              simp only [e257_50, e257_67, e257_85, e257_96, Option.getD_some, Option.bind_some, Option.toList_some, Option.toList_none, List.cons_append, List.nil_append, and_self, and_true, true_and, false_and, and_false, ite_self, not_true_eq_false, not_false_eq_true, reduceIte, Nat.reduceEqDiff, ab_I, ab_L, ab_R, ao_I, ao_L, ao_R, gL_sL, gI_sI, gR_sR, gI_sL, gI_sR, gL_sI, gL_sR, gR_sI, gR_sL, c2, Int.reduceEq, d0, T244, b2_0', o26, or_self, sc_p H, T5, b4', sc_w H, T3, o12]
          · have b4' : ¬ ((bytN w : Nat) : Int) = 4 := by omega
            rw [if_pos (Or.inl b4)]
            refine okc_o (τ := σ) ?_ (spo_e (by show ¬ (9 : Int) = 0; decide))
            simp only [e257_50, e257_67, e257_85, Option.getD_some, Option.bind_some, Option.toList_some, Option.toList_none, List.cons_append, List.nil_append, and_self, and_true, true_and, false_and, and_false, ite_self, not_true_eq_false, not_false_eq_true, reduceIte, Nat.reduceEqDiff, ab_I, ab_L, ab_R, ao_I, ao_L, ao_R, gL_sL, gI_sI, gR_sR, gI_sL, gI_sR, gL_sI, gL_sR, gR_sI, gR_sL, c2, Int.reduceEq, d0, T244, b2_0', o26, or_self, sc_p H, T5, b4']
        · rw [if_neg c2]
          by_cases mv : mvs v
          · have pf : plcF v = 0 := by
              unfold plcF
              rw [if_neg mb, if_neg (not_not_intro mv)]
            rw [pf, if_neg (by decide)]
            have mv' : vk v = 3 ∨ vk v = 5 ∨ vk v = 7 ∨ vk v = 9 := mv
            have t53 := T253 (b := fO w) (n := ((bytN w : Nat) : Int)) H l hv wv ov mv (by omega) (by omega)
            by_cases rm : room E v (fO w) ((bytN w : Nat) : Int)
            · rw [if_neg (not_not_intro rm)]
              rw [b2_yes rm] at t53
              have s139 : RR (lkB tb257) (B257_50, [some (mR (some 40)), some (mI ((pR S (dR w) : Nat) : Int)), some (mI (vk v)), some (mI (b2 (fL w = 3))), none], [mI (vk V)], σ) = RR (lkB tb257) (B257_139, [some (mR (some 40)), some (mI ((pR S (dR w) : Nat) : Int)), some (mI (vk v)), some (mI (b2 (fL w = 3))), some (mI (vk V))], [], σ) := by
                simp only [e257_50, e257_67, e257_108, e257_122, e257_130, e257_134, Option.getD_some, Option.bind_some, Option.toList_some, Option.toList_none, List.cons_append, List.nil_append, and_self, and_true, true_and, false_and, and_false, ite_self, not_true_eq_false, not_false_eq_true, reduceIte, Nat.reduceEqDiff, ab_I, ab_L, ab_R, ao_I, ao_L, ao_R, gL_sL, gI_sI, gR_sR, gI_sL, gI_sR, gL_sI, gL_sR, gR_sI, gR_sL, c0, d0, T244, b2_0', mb', c2, T245, b2_n', mv', sc_w H, T3, sc_p H, T5, t53, oneI]
              rw [s139]
              by_cases k3 : vk v = 3
              · have ff := fof k3
                have rm' : -128 ≤ vo v + fO w ∧ vo v + fO w ≤ -((bytN w : Nat) : Int) := by
                  unfold room at rm
                  rwa [if_pos k3] at rm
                obtain ⟨f, hf⟩ : ∃ f, f = (vw v).toNat := ⟨_, rfl⟩
                obtain ⟨b, hb⟩ : ∃ b, b = (vo v + fO w + 128).toNat := ⟨_, rfl⟩
                have ef : vw v = (f : Int) := by omega
                have eb : vo v + fO w + 128 = (b : Int) := by omega
                have mb8 : ((vo v + fO w + 128) % 8 = 0) = (b % 8 = 0) := by
                  apply propext
                  omega
                obtain ⟨τ, t58, q58⟩ := t58 f b k3 ef eb (by omega) (by omega) d0
                rw [← hf, ← hb, ef]
                simp only [mb8]
                have ec : (¬ vk V = 1 ∧ (¬ (vk v = 3 ∧ bytN w = 8 ∧ b % 8 = 0) ∨ vk V = 3 ∧ (f : Int) < vw V)) = (¬ vk V = 1 ∧ (¬ (bytN w = 8 ∧ b % 8 = 0) ∨ vk V = 3 ∧ (f : Int) < vw V)) := by
                  apply propext
                  constructor
                  · rintro ⟨y1, y2⟩
                    exact ⟨y1, y2.imp (fun y z => y ⟨k3, z⟩) id⟩
                  · rintro ⟨y1, y2⟩
                    exact ⟨y1, y2.imp (fun y z => y z.2) id⟩
                have s : RR (lkB tb257) (B257_139, [some (mR (some 40)), some (mI ((pR S (dR w) : Nat) : Int)), some (mI (vk v)), some (mI (b2 (fL w = 3))), some (mI (vk V))], [], σ) = some (some (mI (if ¬ vk V = 1 ∧ (¬ (bytN w = 8 ∧ b % 8 = 0) ∨ vk V = 3 ∧ (f : Int) < vw V) then 7 else 0)), τ) := by
                  simp only [e257_139, e257_152, Option.getD_some, Option.bind_some, Option.toList_some, Option.toList_none, List.cons_append, List.nil_append, and_self, and_true, true_and, false_and, and_false, ite_self, not_true_eq_false, not_false_eq_true, reduceIte, Nat.reduceEqDiff, ab_I, ab_L, ab_R, ao_I, ao_L, ao_R, gL_sL, gI_sI, gR_sR, gI_sL, gI_sR, gL_sI, gL_sR, gR_sI, gR_sL, k3, t58]
                rw [s]
                simp only [ec]
                by_cases up : ¬ vk V = 1 ∧ (¬ (bytN w = 8 ∧ b % 8 = 0) ∨ vk V = 3 ∧ (f : Int) < vw V)
                · rw [if_pos up] at q58 ⊢
                  rw [if_pos up]
                  exact okc_s ⟨q58.1, fun z => absurd (show (7 : Int) = 0 from z) (by decide)⟩
                · rw [if_neg up] at q58 ⊢
                  rw [if_neg up]
                  by_cases wh : bytN w = 8 ∧ b % 8 = 0
                  · rw [if_pos wh] at q58
                    rw [if_pos (show vk v = 3 ∧ bytN w = 8 ∧ b % 8 = 0 from ⟨k3, wh⟩)]
                    exact okc_s q58
                  · rw [if_neg wh] at q58
                    rw [if_neg (show ¬ (vk v = 3 ∧ bytN w = 8 ∧ b % 8 = 0) from fun z => wh z.2), if_pos k3]
                    exact okc_s q58
              · by_cases d1 : vk V = 1
                · rw [if_neg (show ¬ (¬ vk V = 1 ∧ (¬ (vk v = 3 ∧ bytN w = 8 ∧ (vo v + fO w + 128) % 8 = 0) ∨ vk V = 3 ∧ vw v < vw V)) from fun z => z.1 d1), if_neg (fun z => k3 z.1), if_neg k3]
                  refine okc_o (τ := σ) ?_ (go ht rfl)
                  simp only [e257_139, Option.getD_some, Option.bind_some, Option.toList_some, Option.toList_none, List.cons_append, List.nil_append, and_self, and_true, true_and, false_and, and_false, ite_self, not_true_eq_false, not_false_eq_true, reduceIte, Nat.reduceEqDiff, ab_I, ab_L, ab_R, ao_I, ao_L, ao_R, gL_sL, gI_sI, gR_sR, gI_sL, gI_sR, gL_sI, gL_sR, gR_sI, gR_sL, k3, d1]
                · rw [if_pos (show ¬ vk V = 1 ∧ (¬ (vk v = 3 ∧ bytN w = 8 ∧ (vo v + fO w + 128) % 8 = 0) ∨ vk V = 3 ∧ vw v < vw V) from ⟨d1, Or.inl (fun z => k3 z.1)⟩)]
                  refine okc_o (τ := σ) ?_ (spo_e (by show ¬ (7 : Int) = 0; decide))
                  simp only [e257_139, Option.getD_some, Option.bind_some, Option.toList_some, Option.toList_none, List.cons_append, List.nil_append, and_self, and_true, true_and, false_and, and_false, ite_self, not_true_eq_false, not_false_eq_true, reduceIte, Nat.reduceEqDiff, ab_I, ab_L, ab_R, ao_I, ao_L, ao_R, gL_sL, gI_sI, gR_sR, gI_sL, gI_sR, gL_sI, gL_sR, gR_sI, gR_sL, k3, d1]
            · rw [if_pos rm]
              rw [b2_no rm] at t53
              refine okc_o (τ := σ) ?_ (spo_e (by show ¬ (5 : Int) = 0; decide))
              simp only [e257_50, e257_67, e257_108, e257_122, e257_130, e257_134, Option.getD_some, Option.bind_some, Option.toList_some, Option.toList_none, List.cons_append, List.nil_append, and_self, and_true, true_and, false_and, and_false, ite_self, not_true_eq_false, not_false_eq_true, reduceIte, Nat.reduceEqDiff, ab_I, ab_L, ab_R, ao_I, ao_L, ao_R, gL_sL, gI_sI, gR_sR, gI_sL, gI_sR, gL_sI, gL_sR, gR_sI, gR_sL, c0, d0, T244, b2_0', mb', c2, T245, b2_n', mv', sc_w H, T3, sc_p H, T5, t53]
          · have pf : plcF v = 4 := by
              unfold plcF
              rw [if_neg mb, if_pos mv]
            have mv' : ¬ (vk v = 3 ∨ vk v = 5 ∨ vk v = 7 ∨ vk v = 9) := mv
            rw [pf, if_pos (by decide)]
            refine okc_o (τ := σ) ?_ (spo_e (by show ¬ (4 : Int) = 0; decide))
            simp only [e257_50, e257_67, e257_108, Option.getD_some, Option.bind_some, Option.toList_some, Option.toList_none, List.cons_append, List.nil_append, and_self, and_true, true_and, false_and, and_false, ite_self, not_true_eq_false, not_false_eq_true, reduceIte, Nat.reduceEqDiff, ab_I, ab_L, ab_R, ao_I, ao_L, ao_R, gL_sL, gI_sI, gR_sR, gI_sL, gI_sR, gL_sI, gL_sR, gR_sI, gR_sL, c0, d0, T244, b2_0', mb', c2, T245, b2_n', mv']
theorem T259 (H : SC σ k j E w) (hS : CSt σ k S) (P : PX S E t) (ht : gI σ 40 8 = t) (hw : okMem w) (hl : fL w = 3 ∧ fM w = 192) : okc (MM 259 [mR (some 40)] σ) (some (mI (swpV E S w).1)) (fun τ => spo σ τ k j (swpV E S w).1 (swpV E S w).2 (gI σ 40 4) t) := by
  have F := PX_F P
  unfold okMem at hw
  rw [if_neg (by omega), if_neg (by omega), if_neg (by omega)] at hw
  obtain ⟨⟨-, hd⟩, hi⟩ := hw
  have hs : fS w ≤ 10 := by rcases hi with q | q <;> omega
  have hs9 : fI w % 2 = 1 → ¬ fI w = 241 → fS w ≤ 9 := fun z1 z2 => by
    rcases hi with q | q
    · rcases q.1 with q | q | q | q | q <;> omega
    · exact q.2
  have e1 : iAnd (fI w) 1 = fI w % 2 := by
    rcases hi with q | q
    · rcases q.1 with q | q | q | q | q <;> rw [q] <;> decide
    · rcases q.1 with q | q | q | q | q <;> rw [q] <;> decide
  have hd' := dR_10 hd
  have hs' := sR_10 hs
  have l := pR_lt F hd'
  have hv := cAt_rg hS F.1 hd'
  have wv := okW_r P hd'
  have ov := rV_ok P.1 hd'
  have bn := bytN_c w
  have fo := fO_r w
  have t41 := T241 H hS F hd
  have t42 := T242 H hS F hs
  have t14 := T214r H hS P hd'
  have t14s := T214r H hS P hs'
  have t14z := T214r H hS P (show 0 ≤ 10 by decide)
  have t12z : MM 212 [mR (some k), mI 0] σ = some (some (mI ((pR S 0 : Nat) : Int)), σ) := T212r H hS P (show 0 ≤ 10 by decide)
  have fof := okV_f P.1 hd'
  have l7 : pR S (dR w) + 7 < 100000 := by omega
  have l8 : pR S (dR w) + 8 < 100000 := by omega
  have g7 := gSt (sc_k H) (show pR S (dR w) + 7 < 1188 by omega)
  have g8 := gSt (sc_k H) (show pR S (dR w) + 8 < 1188 by omega)
  obtain ⟨ck, hck⟩ : ∃ ck : Int, ck = (if fI w = 241 then vk (rgV S 0) else 1) := ⟨_, rfl⟩
  have s81 : MM 259 [mR (some 40)] σ = RR (lkB tb259) (B259_81, [some (mR (some 40)), some (mI (fI w)), some (mI (b2 (fI w = 241))), some (mI ((pR S (dR w) : Nat) : Int)), some (mI (vk (rgV S (dR w)))), some (mI ((bytN w : Nat) : Int)), some (mI ck), none, none, none, none, none], [mI (vk (rgV S (sRr w)))], σ) := by
    by_cases q : fI w = 241
    · rw [if_pos q] at hck
      rw [hck]
      simp only [M259, e259_0, e259_7, e259_20, e259_25, e259_34, e259_43, e259_61, e259_64, e259_68, e259_78, Option.getD_some, Option.bind_some, Option.toList_some, Option.toList_none, List.cons_append, List.nil_append, and_self, and_true, true_and, false_and, and_false, ite_self, not_true_eq_false, not_false_eq_true, reduceIte, Nat.reduceEqDiff, ab_I, ab_L, ab_R, ao_I, ao_L, ao_R, gL_sL, gI_sI, gR_sR, gI_sL, gI_sR, gL_sI, gL_sR, gR_sI, gR_sL, sc_w H, T4, q, t41, sc_h H, sc_ao H, t14, sc_p H, T5, b2_yes trivial, oneI, t12z, t14z, t42, t14s]
    · rw [if_neg q] at hck
      rw [hck]
      simp only [M259, e259_0, e259_7, e259_20, e259_25, e259_34, e259_43, e259_68, e259_78, Option.getD_some, Option.bind_some, Option.toList_some, Option.toList_none, List.cons_append, List.nil_append, and_self, and_true, true_and, false_and, and_false, ite_self, not_true_eq_false, not_false_eq_true, reduceIte, Nat.reduceEqDiff, ab_I, ab_L, ab_R, ao_I, ao_L, ao_R, gL_sL, gI_sI, gR_sR, gI_sL, gI_sR, gL_sI, gL_sR, gR_sI, gR_sL, sc_w H, T4, q, t41, sc_h H, sc_ao H, t14, sc_p H, T5, b2_no not_false, t42, t14s]
  rw [s81]
  clear s81
  unfold swpV
  have hk0 : (vk (rgV S (dR w)) = 0 ∨ (fI w = 241 ∧ vk (rgV S 0) = 0) ∨ vk (rgV S (sRr w)) = 0) = (vk (rgV S (dR w)) = 0 ∨ ck = 0 ∨ vk (rgV S (sRr w)) = 0) := by
    apply propext
    rw [hck]
    by_cases q : fI w = 241
    · rw [if_pos q]
      constructor
      · rintro (y | y | y)
        · exact Or.inl y
        · exact Or.inr (Or.inl y.2)
        · exact Or.inr (Or.inr y)
      · rintro (y | y | y)
        · exact Or.inl y
        · exact Or.inr (Or.inl ⟨q, y⟩)
        · exact Or.inr (Or.inr y)
    · rw [if_neg q]
      constructor
      · rintro (y | y | y)
        · exact Or.inl y
        · exact absurd y.1 q
        · exact Or.inr (Or.inr y)
      · rintro (y | y | y)
        · exact Or.inl y
        · omega
        · exact Or.inr (Or.inr y)
  have hk1 : (¬ vk (rgV S (sRr w)) = 1 ∨ fI w = 241 ∧ ¬ vk (rgV S 0) = 1) = (¬ vk (rgV S (sRr w)) = 1 ∨ ¬ ck = 1) := by
    apply propext
    rw [hck]
    by_cases q : fI w = 241
    · rw [if_pos q]
      exact ⟨fun y => y.imp id (fun z => z.2), fun y => y.imp id (fun z => ⟨q, z⟩)⟩
    · rw [if_neg q]
      exact ⟨fun y => y.imp id (fun z => absurd z.1 q), fun y => y.imp id (fun z => absurd rfl z)⟩
  simp only [hk0, hk1]
  by_cases u0 : vk (rgV S (dR w)) = 0 ∨ ck = 0 ∨ vk (rgV S (sRr w)) = 0
  · rw [if_pos u0]
    refine okc_o (τ := σ) ?_ (spo_e (by show ¬ (3 : Int) = 0; decide))
    by_cases a0 : vk (rgV S (dR w)) = 0
    · simp only [e259_81, Option.getD_some, Option.bind_some, Option.toList_some, Option.toList_none, List.cons_append, List.nil_append, and_self, and_true, true_and, false_and, and_false, ite_self, not_true_eq_false, not_false_eq_true, reduceIte, Nat.reduceEqDiff, ab_I, ab_L, ab_R, ao_I, ao_L, ao_R, gL_sL, gI_sI, gR_sR, gI_sL, gI_sR, gL_sI, gL_sR, gR_sI, gR_sL, a0]
    · by_cases b0 : ck = 0
      · simp only [e259_81, Option.getD_some, Option.bind_some, Option.toList_some, Option.toList_none, List.cons_append, List.nil_append, and_self, and_true, true_and, false_and, and_false, ite_self, not_true_eq_false, not_false_eq_true, reduceIte, Nat.reduceEqDiff, ab_I, ab_L, ab_R, ao_I, ao_L, ao_R, gL_sL, gI_sI, gR_sR, gI_sL, gI_sR, gL_sI, gL_sR, gR_sI, gR_sL, a0, b0]
      · have d0 : vk (rgV S (sRr w)) = 0 := (u0.resolve_left a0).resolve_left b0
        simp only [e259_81, Option.getD_some, Option.bind_some, Option.toList_some, Option.toList_none, List.cons_append, List.nil_append, and_self, and_true, true_and, false_and, and_false, ite_self, not_true_eq_false, not_false_eq_true, reduceIte, Nat.reduceEqDiff, ab_I, ab_L, ab_R, ao_I, ao_L, ao_R, gL_sL, gI_sI, gR_sR, gI_sL, gI_sR, gL_sI, gL_sR, gR_sI, gR_sL, a0, b0, d0]
  · rw [if_neg u0]
    have a0 : ¬ vk (rgV S (dR w)) = 0 := fun z => u0 (Or.inl z)
    have b0 : ¬ ck = 0 := fun z => u0 (Or.inr (Or.inl z))
    have d0 : ¬ vk (rgV S (sRr w)) = 0 := fun z => u0 (Or.inr (Or.inr z))
    by_cases mb : isMb (rgV S (dR w))
    · rw [if_pos mb]
      refine okc_o (τ := σ) ?_ (spo_e (by show ¬ (14 : Int) = 0; decide))
      have mb' : vk (rgV S (dR w)) = 6 ∨ vk (rgV S (dR w)) = 10 := mb
      simp only [e259_81, e259_105, Option.getD_some, Option.bind_some, Option.toList_some, Option.toList_none, List.cons_append, List.nil_append, and_self, and_true, true_and, false_and, and_false, ite_self, not_true_eq_false, not_false_eq_true, reduceIte, Nat.reduceEqDiff, ab_I, ab_L, ab_R, ao_I, ao_L, ao_R, gL_sL, gI_sI, gR_sR, gI_sL, gI_sR, gL_sI, gL_sR, gR_sI, gR_sL, a0, b0, d0, T244, b2_0', mb']
    · rw [if_neg mb]
      have mb' : ¬ (vk (rgV S (dR w)) = 6 ∨ vk (rgV S (dR w)) = 10) := mb
      by_cases kp : ¬ vk (rgV S (dR w)) = 3 ∧ ¬ vk (rgV S (dR w)) = 5 ∧ ¬ vk (rgV S (dR w)) = 9
      · rw [if_pos kp]
        refine okc_o (τ := σ) ?_ (spo_e (by show ¬ (4 : Int) = 0; decide))
        simp only [e259_81, e259_105, Option.getD_some, Option.bind_some, Option.toList_some, Option.toList_none, List.cons_append, List.nil_append, and_self, and_true, true_and, false_and, and_false, ite_self, not_true_eq_false, not_false_eq_true, reduceIte, Nat.reduceEqDiff, ab_I, ab_L, ab_R, ao_I, ao_L, ao_R, gL_sL, gI_sI, gR_sR, gI_sL, gI_sR, gL_sI, gL_sR, gR_sI, gR_sL, a0, b0, d0, T244, b2_0', mb', kp.1, kp.2.1, kp.2.2]
      · rw [if_neg kp]
        have mv : mvs (rgV S (dR w)) := by show _ ∨ _; omega
        have t53 := T253 (b := fO w) (n := ((bytN w : Nat) : Int)) H l hv wv ov mv (by omega) (by omega)
        have s148 : RR (lkB tb259) (B259_81, [some (mR (some 40)), some (mI (fI w)), some (mI (b2 (fI w = 241))), some (mI ((pR S (dR w) : Nat) : Int)), some (mI (vk (rgV S (dR w)))), some (mI ((bytN w : Nat) : Int)), some (mI ck), none, none, none, none, none], [mI (vk (rgV S (sRr w)))], σ) = RR (lkB tb259) (B259_148, [some (mR (some 40)), some (mI (fI w)), some (mI (b2 (fI w = 241))), some (mI ((pR S (dR w) : Nat) : Int)), some (mI (vk (rgV S (dR w)))), some (mI ((bytN w : Nat) : Int)), some (mI ck), some (mI (vk (rgV S (sRr w)))), none, none, none, none], [mI (b2 (room E (rgV S (dR w)) (fO w) ((bytN w : Nat) : Int)))], σ) := by
          generalize b2 (room E (rgV S (dR w)) (fO w) ((bytN w : Nat) : Int)) = u at t53 ⊢
          by_cases k3 : vk (rgV S (dR w)) = 3
          · rw [k3] at mb' ⊢
            simp only [e259_81, e259_105, e259_132, e259_141, Option.getD_some, Option.bind_some, Option.toList_some, Option.toList_none, List.cons_append, List.nil_append, and_self, and_true, true_and, false_and, and_false, ite_self, not_true_eq_false, not_false_eq_true, reduceIte, Nat.reduceEqDiff, ab_I, ab_L, ab_R, ao_I, ao_L, ao_R, gL_sL, gI_sI, gR_sR, gI_sL, gI_sR, gL_sI, gL_sR, gR_sI, gR_sL, Int.reduceEq, b0, d0, T244, b2_0', mb', or_self, sc_w H, T3, t53]
          · by_cases k5 : vk (rgV S (dR w)) = 5
            · rw [k5] at mb' ⊢
              simp only [e259_81, e259_105, e259_132, e259_141, Option.getD_some, Option.bind_some, Option.toList_some, Option.toList_none, List.cons_append, List.nil_append, and_self, and_true, true_and, false_and, and_false, ite_self, not_true_eq_false, not_false_eq_true, reduceIte, Nat.reduceEqDiff, ab_I, ab_L, ab_R, ao_I, ao_L, ao_R, gL_sL, gI_sI, gR_sR, gI_sL, gI_sR, gL_sI, gL_sR, gR_sI, gR_sL, Int.reduceEq, b0, d0, T244, b2_0', mb', or_self, sc_w H, T3, t53]
            · have k9 : vk (rgV S (dR w)) = 9 := by omega
              rw [k9] at mb' ⊢
              simp only [e259_81, e259_105, e259_132, e259_141, Option.getD_some, Option.bind_some, Option.toList_some, Option.toList_none, List.cons_append, List.nil_append, and_self, and_true, true_and, false_and, and_false, ite_self, not_true_eq_false, not_false_eq_true, reduceIte, Nat.reduceEqDiff, ab_I, ab_L, ab_R, ao_I, ao_L, ao_R, gL_sL, gI_sI, gR_sR, gI_sL, gI_sR, gL_sI, gL_sR, gR_sI, gR_sL, Int.reduceEq, b0, d0, T244, b2_0', mb', or_self, sc_w H, T3, t53]
        rw [s148]
        by_cases rm : room E (rgV S (dR w)) (fO w) ((bytN w : Nat) : Int)
        · rw [if_neg (not_not_intro rm), b2_yes rm]
          have r7 : gL σ (k + 1 + 0) (pR S (dR w) + 7) + iL (fO w) = iL (vo (rgV S (dR w)) + fO w) := by rw [rd_7 hv, iLa]
          have r8 := rd_8 hv
          -- behind the bytes
          have tail : ∀ (T : ST) (σ1 : MS) (x8 x10 : B64), crq σ1 σ k → CSt σ1 k T → sF T = sF S → okc (RR (lkB tb259) (B259_254, [some (mR (some 40)), some (mI (fI w)), some (mI (b2 (fI w = 241))), some (mI ((pR S (dR w) : Nat) : Int)), some (mI (vk (rgV S (dR w)))), some (mI ((bytN w : Nat) : Int)), some (mI ck), some (mI (vk (rgV S (sRr w)))), some (mL x8), none, some (mL x10), none], [], σ1)) (some (mI 0)) (fun τ => spo σ τ k j 0 (if fI w = 241 then wV T 0 (numV (wideN (bytN w))) else if fI w % 2 = 1 then wV T (sRr w) (numV (wideN (bytN w))) else T) (gI σ 40 4) t) := fun T σ1 x8 x10 c1 c2 c3 => by
            have H1 := SC_q (sfq_c (j := j) c1) H
            have t63 := T63 (σ := σ1) (k := 42) (n := bytN w) (kc_42 σ1) (by omega)
            have q2 : nfq (wC σ1 42 (wideN (bytN w))) σ1 := nfq_w (by omega)
            have H2 := SC_n q2 H1
            have S2 := CSt_n (sc_c H) q2 c2
            have FT : 1 ≤ sF T ∧ sF T ≤ 4 := by rw [c3]; exact F
            have eP : ∀ r, pR T r = pR S r := fun r => by
              show 297 * (sF T - 1) + 11 * r = 297 * (sF S - 1) + 11 * r
              rw [c3]
            have fin : ∀ r, r ≤ 9 → ∃ τ, MM 218 [mR (some k), mI ((pR S r : Nat) : Int), mR (some 42)] (wC σ1 42 (wideN (bytN w))) = some (none, τ) ∧ spo σ τ k j 0 (wV T r (numV (wideN (bytN w)))) (gI σ 40 4) t := fun r hr => by
              have sc := sc_c H
              obtain ⟨τ, t18, q18⟩ := T218 (j := 42) (pl := pR S r) (sc_k H2) (kc_42 (wC σ1 42 (wideN (bytN w)))) (by omega) (pR_lt F (by omega))
              rw [rC_wC, if_pos rfl] at q18
              refine ⟨τ, t18, sfq_t (sfq_v q18) (sfq_t (sfq_n q2) (sfq_c c1)), fun _ => ⟨CSt_w FT S2 hr (by rw [← eP] at q18; exact q18), ?_, ?_, ?_⟩⟩
              · rw [q18.1, q2.1, c1.1]
              · rw [q18.1, q2.1, c1.1]
              · rw [q18.1, q2.1, c1.1, ht]
            by_cases q : fI w = 241
            · rw [if_pos q, b2_yes q]
              obtain ⟨τ, t18, sp⟩ := fin 0 (by decide)
              have t12 : MM 212 [mR (some k), mI 0] (wC σ1 42 (wideN (bytN w))) = some (some (mI ((pR S 0 : Nat) : Int)), wC σ1 42 (wideN (bytN w))) := by
                have := T212 (r := 0) (sc_k H2) S2.1.1 FT (by decide)
                rw [show 297 * (sF T - 1) + 11 * 0 = pR S 0 from eP 0] at this
                exact this
              refine okc_o (τ := τ) ?_ sp
              have e2 : ¬ iAnd (fI w) 1 = 0 := by rw [e1]; omega
              simp only [e259_254, e259_269, e259_285, e259_292, e259_299, Option.getD_some, Option.bind_some, Option.toList_some, Option.toList_none, List.cons_append, List.nil_append, and_self, and_true, true_and, false_and, and_false, ite_self, not_true_eq_false, not_false_eq_true, reduceIte, Nat.reduceEqDiff, ab_I, ab_L, ab_R, ao_I, ao_L, ao_R, gL_sL, gI_sI, gR_sR, gI_sL, gI_sR, gL_sI, gL_sR, gR_sI, gR_sL, e2, t63, oneI, sc_h H2, sc_ao H2, t12, t18]
            · rw [if_neg q, b2_no q]
              by_cases od : fI w % 2 = 1
              · rw [if_pos od]
                have s9 : sRr w ≤ 9 := by have := hs9 od q; have := (fld_rng w).2.2.1; show (fS w).toNat ≤ 9; omega
                obtain ⟨τ, t18, sp⟩ := fin (sRr w) s9
                have t42' : MM 242 [mR (some 40)] (wC σ1 42 (wideN (bytN w))) = some (some (mI ((pR S (sRr w) : Nat) : Int)), wC σ1 42 (wideN (bytN w))) := by
                  have := T242 H2 S2 FT hs
                  rwa [eP] at this
                refine okc_o (τ := τ) ?_ sp
                have e2 : ¬ iAnd (fI w) 1 = 0 := by rw [e1]; omega
                simp only [e259_254, e259_269, e259_292, e259_299, Option.getD_some, Option.bind_some, Option.toList_some, Option.toList_none, List.cons_append, List.nil_append, and_self, and_true, true_and, false_and, and_false, ite_self, not_true_eq_false, not_false_eq_true, reduceIte, Nat.reduceEqDiff, ab_I, ab_L, ab_R, ao_I, ao_L, ao_R, gL_sL, gI_sI, gR_sR, gI_sL, gI_sR, gL_sI, gL_sR, gR_sI, gR_sL, e2, t63, sc_h H2, sc_ao H2, t42', t18]
              · rw [if_neg od]
                have e2 : iAnd (fI w) 1 = 0 := by rw [e1]; omega
                refine okc_o (τ := σ1) ?_ ⟨sfq_c c1, fun _ => ⟨c2, c1.1 _ _, c1.1 _ _, (c1.1 _ _).trans ht⟩⟩
                simp only [e259_254, e259_299, Option.getD_some, Option.bind_some, Option.toList_some, Option.toList_none, List.cons_append, List.nil_append, and_self, and_true, true_and, false_and, and_false, ite_self, not_true_eq_false, not_false_eq_true, reduceIte, Nat.reduceEqDiff, ab_I, ab_L, ab_R, ao_I, ao_L, ao_R, gL_sL, gI_sI, gR_sR, gI_sL, gI_sR, gL_sI, gL_sR, gR_sI, gR_sL, e2]
          by_cases k3 : vk (rgV S (dR w)) = 3
          · have ff := fof k3
            have rm' : -128 ≤ vo (rgV S (dR w)) + fO w ∧ vo (rgV S (dR w)) + fO w ≤ -((bytN w : Nat) : Int) := by
              unfold room at rm
              rwa [if_pos k3] at rm
            obtain ⟨f, hf⟩ : ∃ f, f = (vw (rgV S (dR w))).toNat := ⟨_, rfl⟩
            obtain ⟨b, hb⟩ : ∃ b, b = (vo (rgV S (dR w)) + fO w + 128).toNat := ⟨_, rfl⟩
            have ef : vw (rgV S (dR w)) = (f : Int) := by omega
            have eb : vo (rgV S (dR w)) + fO w + 128 = (b : Int) := by omega
            have fF : f < sF S := by omega
            rw [← hf, ← hb]
            rw [ef] at r8
            have t26 := T226 (f := f) (b := b) (n := bytN w) (a := vo (rgV S (dR w)) + fO w) (sc_k H) hS P.2.1 (fun i hi => (okW_S P.1 P.2.1 P.2.2.1 P.2.2.2 hi).1) F.2 fF eb (by omega)
            by_cases ar : areS S f b (bytN w) = true
            · rw [if_neg (show ¬ (vk (rgV S (dR w)) = 3 ∧ areS S f b (bytN w) = false) from fun z => by rw [ar] at z; cases z.2)]
              rw [b2_yes ar] at t26
              have s216 : RR (lkB tb259) (B259_148, [some (mR (some 40)), some (mI (fI w)), some (mI (b2 (fI w = 241))), some (mI ((pR S (dR w) : Nat) : Int)), some (mI (vk (rgV S (dR w)))), some (mI ((bytN w : Nat) : Int)), some (mI ck), some (mI (vk (rgV S (sRr w)))), none, none, none, none], [mI 1], σ) = RR (lkB tb259) (B259_216, [some (mR (some 40)), some (mI (fI w)), some (mI (b2 (fI w = 241))), some (mI ((pR S (dR w) : Nat) : Int)), some (mI (vk (rgV S (dR w)))), some (mI ((bytN w : Nat) : Int)), some (mI ck), some (mI (vk (rgV S (sRr w)))), some (mL (iL (f : Int))), none, some (mL (iL (vo (rgV S (dR w)) + fO w))), none], [], σ) := by
                simp only [e259_148, e259_186, e259_210, Option.getD_some, Option.bind_some, Option.toList_some, Option.toList_none, List.cons_append, List.nil_append, and_self, and_true, true_and, false_and, and_false, ite_self, not_true_eq_false, not_false_eq_true, reduceIte, Nat.reduceEqDiff, ab_I, ab_L, ab_R, ao_I, ao_L, ao_R, gL_sL, gI_sI, gR_sR, gI_sL, gI_sR, gL_sI, gL_sR, gR_sI, gR_sL, oneI, sc_h H, sc_ao H, wp7 l7, wp8 l8, g7, g8, Int.toNat_natCast, r8, sc_w H, T3, r7, k3, t26]
              rw [s216]
              by_cases u1 : ¬ vk (rgV S (sRr w)) = 1 ∨ ¬ ck = 1
              · rw [if_pos u1]
                refine okc_o (τ := σ) ?_ (spo_e (by show ¬ (7 : Int) = 0; decide))
                by_cases c1 : ck = 1
                · have s1 : ¬ vk (rgV S (sRr w)) = 1 := u1.resolve_right (not_not_intro c1)
                  simp only [e259_216, Option.getD_some, Option.bind_some, Option.toList_some, Option.toList_none, List.cons_append, List.nil_append, and_self, and_true, true_and, false_and, and_false, ite_self, not_true_eq_false, not_false_eq_true, reduceIte, Nat.reduceEqDiff, ab_I, ab_L, ab_R, ao_I, ao_L, ao_R, gL_sL, gI_sI, gR_sR, gI_sL, gI_sR, gL_sI, gL_sR, gR_sI, gR_sL, c1, s1]
                · simp only [e259_216, Option.getD_some, Option.bind_some, Option.toList_some, Option.toList_none, List.cons_append, List.nil_append, and_self, and_true, true_and, false_and, and_false, ite_self, not_true_eq_false, not_false_eq_true, reduceIte, Nat.reduceEqDiff, ab_I, ab_L, ab_R, ao_I, ao_L, ao_R, gL_sL, gI_sI, gR_sR, gI_sL, gI_sR, gL_sI, gL_sR, gR_sI, gR_sL, c1]
              · rw [if_neg u1]
                have c1 : ck = 1 := Classical.byContradiction fun z => u1 (Or.inr z)
                have s1 : vk (rgV S (sRr w)) = 1 := Classical.byContradiction fun z => u1 (Or.inl z)
                obtain ⟨τ, e27, c27, q27⟩ := T227 (f := f) (b := b) (n := bytN w) (c := bytN w) (a := vo (rgV S (dR w)) + fO w) (sc_k H) hS P.2.1 (fun i hi => (okW_S P.1 P.2.1 P.2.2.1 P.2.2.2 hi).1) F.2 fF eb (by omega) (Nat.le_refl _)
                have tl := tail (putB S f b (bytN w) (bytN w)) τ (iL (f : Int)) (iL (vo (rgV S (dR w)) + fO w)) q27 c27 rfl
                simp only [k3, if_true]
                rw [k3, c1, s1] at tl
                simp only [e259_216, Option.getD_some, Option.bind_some, Option.toList_some, Option.toList_none, List.cons_append, List.nil_append, and_self, and_true, true_and, false_and, and_false, ite_self, not_true_eq_false, not_false_eq_true, reduceIte, Nat.reduceEqDiff, ab_I, ab_L, ab_R, ao_I, ao_L, ao_R, gL_sL, gI_sI, gR_sR, gI_sL, gI_sR, gL_sI, gL_sR, gR_sI, gR_sL, c1, s1, k3, sc_h H, sc_ao H, e27]
                exact tl
            · have ar' : areS S f b (bytN w) = false := by simpa using ar
              rw [if_pos (show vk (rgV S (dR w)) = 3 ∧ areS S f b (bytN w) = false from ⟨k3, ar'⟩)]
              rw [b2_no ar] at t26
              refine okc_o (τ := σ) ?_ (spo_e (by show ¬ (6 : Int) = 0; decide))
              simp only [e259_148, e259_186, e259_210, Option.getD_some, Option.bind_some, Option.toList_some, Option.toList_none, List.cons_append, List.nil_append, and_self, and_true, true_and, false_and, and_false, ite_self, not_true_eq_false, not_false_eq_true, reduceIte, Nat.reduceEqDiff, ab_I, ab_L, ab_R, ao_I, ao_L, ao_R, gL_sL, gI_sI, gR_sR, gI_sL, gI_sR, gL_sI, gL_sR, gR_sI, gR_sL, oneI, sc_h H, sc_ao H, wp7 l7, wp8 l8, g7, g8, Int.toNat_natCast, r8, sc_w H, T3, r7, k3, t26]
          · rw [if_neg (fun z => k3 z.1)]
            have s216 : RR (lkB tb259) (B259_148, [some (mR (some 40)), some (mI (fI w)), some (mI (b2 (fI w = 241))), some (mI ((pR S (dR w) : Nat) : Int)), some (mI (vk (rgV S (dR w)))), some (mI ((bytN w : Nat) : Int)), some (mI ck), some (mI (vk (rgV S (sRr w)))), none, none, none, none], [mI 1], σ) = RR (lkB tb259) (B259_216, [some (mR (some 40)), some (mI (fI w)), some (mI (b2 (fI w = 241))), some (mI ((pR S (dR w) : Nat) : Int)), some (mI (vk (rgV S (dR w)))), some (mI ((bytN w : Nat) : Int)), some (mI ck), some (mI (vk (rgV S (sRr w)))), some (mL (iL (vw (rgV S (dR w))))), none, some (mL (iL (vo (rgV S (dR w)) + fO w))), none], [], σ) := by
              simp only [e259_148, e259_186, Option.getD_some, Option.bind_some, Option.toList_some, Option.toList_none, List.cons_append, List.nil_append, and_self, and_true, true_and, false_and, and_false, ite_self, not_true_eq_false, not_false_eq_true, reduceIte, Nat.reduceEqDiff, ab_I, ab_L, ab_R, ao_I, ao_L, ao_R, gL_sL, gI_sI, gR_sR, gI_sL, gI_sR, gL_sI, gL_sR, gR_sI, gR_sL, oneI, sc_h H, sc_ao H, wp7 l7, wp8 l8, g7, g8, Int.toNat_natCast, r8, sc_w H, T3, r7, k3]
            rw [s216]
            by_cases u1 : ¬ vk (rgV S (sRr w)) = 1 ∨ ¬ ck = 1
            · rw [if_pos u1]
              refine okc_o (τ := σ) ?_ (spo_e (by show ¬ (7 : Int) = 0; decide))
              by_cases c1 : ck = 1
              · have s1 : ¬ vk (rgV S (sRr w)) = 1 := u1.resolve_right (not_not_intro c1)
                simp only [e259_216, Option.getD_some, Option.bind_some, Option.toList_some, Option.toList_none, List.cons_append, List.nil_append, and_self, and_true, true_and, false_and, and_false, ite_self, not_true_eq_false, not_false_eq_true, reduceIte, Nat.reduceEqDiff, ab_I, ab_L, ab_R, ao_I, ao_L, ao_R, gL_sL, gI_sI, gR_sR, gI_sL, gI_sR, gL_sI, gL_sR, gR_sI, gR_sL, c1, s1]
              · simp only [e259_216, Option.getD_some, Option.bind_some, Option.toList_some, Option.toList_none, List.cons_append, List.nil_append, and_self, and_true, true_and, false_and, and_false, ite_self, not_true_eq_false, not_false_eq_true, reduceIte, Nat.reduceEqDiff, ab_I, ab_L, ab_R, ao_I, ao_L, ao_R, gL_sL, gI_sI, gR_sR, gI_sL, gI_sR, gL_sI, gL_sR, gR_sI, gR_sL, c1]
            · rw [if_neg u1]
              have c1 : ck = 1 := Classical.byContradiction fun z => u1 (Or.inr z)
              have s1 : vk (rgV S (sRr w)) = 1 := Classical.byContradiction fun z => u1 (Or.inl z)
              have tl := tail S σ (iL (vw (rgV S (dR w)))) (iL (vo (rgV S (dR w)) + fO w)) (crq_r _ _) hS rfl
              simp only [k3, if_false]
              rw [c1, s1] at tl
              simp only [e259_216, Option.getD_some, Option.bind_some, Option.toList_some, Option.toList_none, List.cons_append, List.nil_append, and_self, and_true, true_and, false_and, and_false, ite_self, not_true_eq_false, not_false_eq_true, reduceIte, Nat.reduceEqDiff, ab_I, ab_L, ab_R, ao_I, ao_L, ao_R, gL_sL, gI_sI, gR_sR, gI_sL, gI_sR, gL_sI, gL_sR, gR_sI, gR_sL, c1, s1, k3]
              exact tl
        · rw [if_pos rm, b2_no rm]
          refine okc_o (τ := σ) ?_ (spo_e (by show ¬ (5 : Int) = 0; decide))
          simp only [e259_148, Option.getD_some, Option.bind_some, Option.toList_some, Option.toList_none, List.cons_append, List.nil_append, and_self, and_true, true_and, false_and, and_false, ite_self, not_true_eq_false, not_false_eq_true, reduceIte, Nat.reduceEqDiff, ab_I, ab_L, ab_R, ao_I, ao_L, ao_R, gL_sL, gI_sI, gR_sR, gI_sL, gI_sR, gL_sI, gL_sR, gR_sI, gR_sL]
end CSTO
