-- FILE 88.csto
/-! ===== the class's stores, exchanges ===== -/
section CSTO
variable {τ σ ρ : MS} {k j pl : Nat} {E : EV} {w : B64} {S : ST} {t a b n z : Int} {v : VL}
abbrev stV (S : ST) (w : B64) : VL := if fL w = 3 then rgV S (sRr w) else numV (cstN (BitVec.ofInt 64 (fI w)))
theorem spo_q {T : ST} (h : crq τ σ k) (hT : CSt τ k T) (ht : gI σ 40 8 = t) : spo σ τ k j 0 T (gI σ 40 4) t := ⟨sfq_c h, fun _ => ⟨hT, h.1 _ _, h.1 _ _, (h.1 _ _).trans ht⟩⟩
/-- into a stack -/
theorem T258 {f b : Nat} (H : SC σ k j E w) (hS : CSt σ k S) (P : PX S E t) (ht : gI σ 40 8 = t) (hd : fD w ≤ 10) (hs : fL w = 3 → fS w ≤ 10) (k3 : vk (rgV S (dR w)) = 3) (hf : vw (rgV S (dR w)) = (f : Int)) (hb : vo (rgV S (dR w)) + fO w + 128 = (b : Int)) (fF : f < sF S) (bl' : b + bytN w ≤ 128) (v0 : ¬ vk (stV S w) = 0) :
    okc (MM 258 [mR (some 40), mI ((pR S (dR w) : Nat) : Int), mI (b2 (fL w = 3)), mI (vk (stV S w))] σ) (some (mI (if ¬ vk (stV S w) = 1 ∧ (¬ (bytN w = 8 ∧ b % 8 = 0) ∨ vk (stV S w) = 3 ∧ (f : Int) < vw (stV S w)) then 7 else 0)))
      (fun τ => spo σ τ k j (if ¬ vk (stV S w) = 1 ∧ (¬ (bytN w = 8 ∧ b % 8 = 0) ∨ vk (stV S w) = 3 ∧ (f : Int) < vw (stV S w)) then 7 else 0) (if bytN w = 8 ∧ b % 8 = 0 then (sF S, upV (sV S) (26 * f + 10 + b / 8) (stV S w), sB S, sH S) else putB S f b (bytN w) (bytN w)) (gI σ 40 4) t) := by
  have F := PX_F P
  have bn := bytN_c w
  have hd' := dR_10 hd
  have l := pR_lt F hd'
  have hv := cAt_rg hS F.1 hd'
  have l7 : pR S (dR w) + 7 < 100000 := by omega
  have l8 : pR S (dR w) + 8 < 100000 := by omega
  have g7 := gSt (sc_k H) (show pR S (dR w) + 7 < 1188 by omega)
  have g8 := gSt (sc_k H) (show pR S (dR w) + 8 < 1188 by omega)
  have r7 : gL σ (k + 1 + 0) (pR S (dR w) + 7) + iL (fO w) = iL (vo (rgV S (dR w)) + fO w) := by rw [rd_7 hv, iLa]
  have r8 : gL σ (k + 1 + 0) (pR S (dR w) + 8) = iL (f : Int) := by rw [rd_8 hv, hf]
  obtain ⟨a, ha⟩ : ∃ a, a = vo (rgV S (dR w)) + fO w := ⟨_, rfl⟩
  rw [← ha] at r7 hb
  have rg3 : vk (stV S w) = 3 → fL w = 3 := fun z => by
    by_cases q : fL w = 3
    · exact q
    · have e : stV S w = numV (cstN (BitVec.ofInt 64 (fI w))) := if_neg q
      rw [e] at z
      exact absurd (show (1 : Int) = 3 from z) (by decide)
  have b8 : (((bytN w : Nat) : Int) = 8) = (bytN w = 8) := by
    apply propext
    omega
  have s44 : MM 258 [mR (some 40), mI ((pR S (dR w) : Nat) : Int), mI (b2 (fL w = 3)), mI (vk (stV S w))] σ = RR (lkB tb258) (B258_44, [some (mR (some 40)), some (mI ((pR S (dR w) : Nat) : Int)), some (mI (b2 (fL w = 3))), some (mI (vk (stV S w))), some (mL (iL (f : Int))), none, some (mL (iL a)), none, none], [mI ((bytN w : Nat) : Int)], σ) := by
    simp only [M258, e258_0, e258_33, Option.getD_some, Option.bind_some, Option.toList_some, Option.toList_none, List.cons_append, List.nil_append, and_self, and_true, true_and, false_and, and_false, ite_self, not_true_eq_false, not_false_eq_true, reduceIte, Nat.reduceEqDiff, ab_I, ab_L, ab_R, ao_I, ao_L, ao_R, gL_sL, gI_sI, gR_sR, gI_sL, gI_sR, gL_sI, gL_sR, gR_sI, gR_sL, sc_h H, sc_ao H, wp7 l7, wp8 l8, g7, g8, Int.toNat_natCast, sc_w H, T3, r7, r8, sc_p H, T5]
  rw [s44]
  -- a stack that is farther up
  by_cases up : vk (stV S w) = 3 ∧ (f : Int) < vw (stV S w)
  · rw [if_pos (show ¬ vk (stV S w) = 1 ∧ (¬ (bytN w = 8 ∧ b % 8 = 0) ∨ vk (stV S w) = 3 ∧ (f : Int) < vw (stV S w)) from ⟨by omega, Or.inr up⟩)]
    have l3 := rg3 up.1
    have er : stV S w = rgV S (sRr w) := if_pos l3
    have hs' := sR_10 (hs l3)
    have ls := pR_lt F hs'
    have l8s : pR S (sRr w) + 8 < 100000 := by omega
    have g8s := gSt (sc_k H) (show pR S (sRr w) + 8 < 1188 by omega)
    have r8s := rd_8 (cAt_rg hS F.1 hs')
    have wv := (okW_r P hs').2.2.1
    rw [er] at up
    have nl : ¬ BitVec.toInt (iL (vw (rgV S (sRr w)))) ≤ BitVec.toInt (iL (f : Int)) := by
      rw [iLt (by omega) (by omega), iLt (by omega) (by omega)]
      omega
    refine okc_o (τ := σ) ?_ (spo_e (by decide))
    rw [er]
    simp only [e258_44, e258_62, Option.getD_some, Option.bind_some, Option.toList_some, Option.toList_none, List.cons_append, List.nil_append, and_self, and_true, true_and, false_and, and_false, ite_self, not_true_eq_false, not_false_eq_true, reduceIte, Nat.reduceEqDiff, ab_I, ab_L, ab_R, ao_I, ao_L, ao_R, gL_sL, gI_sI, gR_sR, gI_sL, gI_sR, gL_sI, gL_sR, gR_sI, gR_sL, up.1, sc_h H, sc_ao H, T242 H hS F (hs l3), wp8 l8s, g8s, Int.toNat_natCast, r8s, nl]
  · have s75 : RR (lkB tb258) (B258_44, [some (mR (some 40)), some (mI ((pR S (dR w) : Nat) : Int)), some (mI (b2 (fL w = 3))), some (mI (vk (stV S w))), some (mL (iL (f : Int))), none, some (mL (iL a)), none, none], [mI ((bytN w : Nat) : Int)], σ) = RR (lkB tb258) (B258_75, [some (mR (some 40)), some (mI ((pR S (dR w) : Nat) : Int)), some (mI (b2 (fL w = 3))), some (mI (vk (stV S w))), some (mL (iL (f : Int))), none, some (mL (iL a)), none, some (mI ((bytN w : Nat) : Int))], [], σ) := by
      by_cases v3 : vk (stV S w) = 3
      · have l3 := rg3 v3
        have er : stV S w = rgV S (sRr w) := if_pos l3
        have hs' := sR_10 (hs l3)
        have ls := pR_lt F hs'
        have l8s : pR S (sRr w) + 8 < 100000 := by omega
        have g8s := gSt (sc_k H) (show pR S (sRr w) + 8 < 1188 by omega)
        have r8s := rd_8 (cAt_rg hS F.1 hs')
        have wv := (okW_r P hs').2.2.1
        have nu : ¬ (f : Int) < vw (rgV S (sRr w)) := fun z => up ⟨v3, by rw [er]; exact z⟩
        have le : BitVec.toInt (iL (vw (rgV S (sRr w)))) ≤ BitVec.toInt (iL (f : Int)) := by
          rw [iLt (by omega) (by omega), iLt (by omega) (by omega)]
          omega
        rw [v3]
        simp only [e258_44, e258_62, Option.getD_some, Option.bind_some, Option.toList_some, Option.toList_none, List.cons_append, List.nil_append, and_self, and_true, true_and, false_and, and_false, ite_self, not_true_eq_false, not_false_eq_true, reduceIte, Nat.reduceEqDiff, ab_I, ab_L, ab_R, ao_I, ao_L, ao_R, gL_sL, gI_sI, gR_sR, gI_sL, gI_sR, gL_sI, gL_sR, gR_sI, gR_sL, sc_h H, sc_ao H, T242 H hS F (hs l3), wp8 l8s, g8s, Int.toNat_natCast, r8s, le]
      · simp only [e258_44, Option.getD_some, Option.bind_some, Option.toList_some, Option.toList_none, List.cons_append, List.nil_append, and_self, and_true, true_and, false_and, and_false, ite_self, not_true_eq_false, not_false_eq_true, reduceIte, Nat.reduceEqDiff, ab_I, ab_L, ab_R, ao_I, ao_L, ao_R, gL_sL, gI_sI, gR_sR, gI_sL, gI_sR, gL_sI, gL_sR, gR_sI, gR_sL, v3]
    rw [s75]
    -- whole or bytes
    have whole : ∀ (τ1 : MS) (o : Option Rs), bytN w = 8 ∧ b % 8 = 0 → o = some (some (mI 0), τ1) → (∃ σ1, nfq σ1 σ ∧ cxV τ1 σ1 k (297 * f + 121 + 11 * (b / 8)) (stV S w)) → okc o (some (mI (if ¬ vk (stV S w) = 1 ∧ (¬ (bytN w = 8 ∧ b % 8 = 0) ∨ vk (stV S w) = 3 ∧ (f : Int) < vw (stV S w)) then 7 else 0)))
      (fun τ => spo σ τ k j (if ¬ vk (stV S w) = 1 ∧ (¬ (bytN w = 8 ∧ b % 8 = 0) ∨ vk (stV S w) = 3 ∧ (f : Int) < vw (stV S w)) then 7 else 0) (if bytN w = 8 ∧ b % 8 = 0 then (sF S, upV (sV S) (26 * f + 10 + b / 8) (stV S w), sB S, sH S) else putB S f b (bytN w) (bytN w)) (gI σ 40 4) t) := fun τ1 o wh e h => by
      obtain ⟨σ1, q1, q2⟩ := h
      rw [if_neg (show ¬ (¬ vk (stV S w) = 1 ∧ (¬ (bytN w = 8 ∧ b % 8 = 0) ∨ vk (stV S w) = 3 ∧ (f : Int) < vw (stV S w))) from fun z => z.2.elim (fun y => y wh) up), if_pos wh]
      refine okc_o e ⟨sfq_t (sfq_v q2) (sfq_n q1), fun _ => ⟨CSt_p F.2 (CSt_n (sc_c H) q1 hS) fF (by omega) q2, (q2.1 _ _).trans (q1.1 _ _), (q2.1 _ _).trans (q1.1 _ _), ((q2.1 _ _).trans (q1.1 _ _)).trans ht⟩⟩
    have bytes : ∀ (σ1 : MS) (o : Option Rs), nfq σ1 σ → ¬ (bytN w = 8 ∧ b % 8 = 0) → (vk (stV S w) = 1 → ∀ τ', MM 227 [mR (some k), mL (iL (f : Int)), mL (iL a), mL (iL ((bytN w : Nat) : Int)), mL (iL ((bytN w : Nat) : Int))] σ1 = some (none, τ') → o = some (some (mI 0), τ')) → (¬ vk (stV S w) = 1 → o = some (some (mI 7), σ1)) → okc o (some (mI (if ¬ vk (stV S w) = 1 ∧ (¬ (bytN w = 8 ∧ b % 8 = 0) ∨ vk (stV S w) = 3 ∧ (f : Int) < vw (stV S w)) then 7 else 0)))
      (fun τ => spo σ τ k j (if ¬ vk (stV S w) = 1 ∧ (¬ (bytN w = 8 ∧ b % 8 = 0) ∨ vk (stV S w) = 3 ∧ (f : Int) < vw (stV S w)) then 7 else 0) (if bytN w = 8 ∧ b % 8 = 0 then (sF S, upV (sV S) (26 * f + 10 + b / 8) (stV S w), sB S, sH S) else putB S f b (bytN w) (bytN w)) (gI σ 40 4) t) := fun σ1 o q1 nw e1 e2 => by
      by_cases v1 : vk (stV S w) = 1
      · rw [if_neg (show ¬ (¬ vk (stV S w) = 1 ∧ (¬ (bytN w = 8 ∧ b % 8 = 0) ∨ vk (stV S w) = 3 ∧ (f : Int) < vw (stV S w))) from fun z => z.1 v1), if_neg nw]
        have H1 := SC_n q1 H
        obtain ⟨τ, e27, c27, q27⟩ := T227 (b := b) (n := bytN w) (c := bytN w) (a := a) (sc_k H1) (CSt_n (sc_c H) q1 hS) P.2.1 (fun i hi => (okW_S P.1 P.2.1 P.2.2.1 P.2.2.2 hi).1) F.2 fF hb bl' (Nat.le_refl _)
        exact okc_o (e1 v1 τ e27) ⟨sfq_t (sfq_c q27) (sfq_n q1), fun _ => ⟨c27, (q27.1 _ _).trans (q1.1 _ _), (q27.1 _ _).trans (q1.1 _ _), ((q27.1 _ _).trans (q1.1 _ _)).trans ht⟩⟩
      · rw [if_pos (show ¬ vk (stV S w) = 1 ∧ (¬ (bytN w = 8 ∧ b % 8 = 0) ∨ vk (stV S w) = 3 ∧ (f : Int) < vw (stV S w)) from ⟨v1, Or.inl nw⟩)]
        exact okc_o (e2 v1) (spo_f (by decide) (sfq_n q1))
    by_cases l3 : fL w = 3
    · have er : stV S w = rgV S (sRr w) := if_pos l3
      have hs' := sR_10 (hs l3)
      obtain ⟨τ, t24, q24⟩ := T224 (f := f) (b := b) (c := ((bytN w : Nat) : Int)) (a := a) (pl := pR S (sRr w)) (sc_k H) (by omega) hb (by omega) (fun _ => by omega) (pR_lt F hs') (cAt_rg hS F.1 hs')
      rw [b2_yes l3]
      by_cases wh : bytN w = 8 ∧ b % 8 = 0
      · have wh' : ((bytN w : Nat) : Int) = 8 ∧ b % 8 = 0 := ⟨by rw [b8]; exact wh.1, wh.2⟩
        rw [if_pos wh'] at q24
        rw [b2_yes wh'] at t24
        refine whole τ _ wh ?_ ⟨σ, nfq_r σ, by rw [er]; exact q24⟩
        simp only [e258_75, e258_93, e258_96, Option.getD_some, Option.bind_some, Option.toList_some, Option.toList_none, List.cons_append, List.nil_append, and_self, and_true, true_and, false_and, and_false, ite_self, not_true_eq_false, not_false_eq_true, reduceIte, Nat.reduceEqDiff, ab_I, ab_L, ab_R, ao_I, ao_L, ao_R, gL_sL, gI_sI, gR_sR, gI_sL, gI_sR, gL_sI, gL_sR, gR_sI, gR_sL, oneI, T242 H hS F (hs l3), sc_h H, sc_ao H, t24]
      · have wh' : ¬ (((bytN w : Nat) : Int) = 8 ∧ b % 8 = 0) := fun z => wh ⟨by rw [← b8]; exact z.1, z.2⟩
        rw [if_neg wh'] at q24
        rw [b2_no wh', q24] at t24
        refine bytes σ _ (nfq_r σ) wh (fun v1 τ' e27 => ?_) (fun v1 => ?_)
        · simp only [e258_75, e258_93, e258_96, e258_163, Option.getD_some, Option.bind_some, Option.toList_some, Option.toList_none, List.cons_append, List.nil_append, and_self, and_true, true_and, false_and, and_false, ite_self, not_true_eq_false, not_false_eq_true, reduceIte, Nat.reduceEqDiff, ab_I, ab_L, ab_R, ao_I, ao_L, ao_R, gL_sL, gI_sI, gR_sR, gI_sL, gI_sR, gL_sI, gL_sR, gR_sI, gR_sL, oneI, T242 H hS F (hs l3), sc_h H, sc_ao H, t24, v1, e27]
        · simp only [e258_75, e258_93, e258_96, Option.getD_some, Option.bind_some, Option.toList_some, Option.toList_none, List.cons_append, List.nil_append, and_self, and_true, true_and, false_and, and_false, ite_self, not_true_eq_false, not_false_eq_true, reduceIte, Nat.reduceEqDiff, ab_I, ab_L, ab_R, ao_I, ao_L, ao_R, gL_sL, gI_sI, gR_sR, gI_sL, gI_sR, gL_sI, gL_sR, gR_sI, gR_sL, oneI, T242 H hS F (hs l3), sc_h H, sc_ao H, t24, v1]
    · have er : stV S w = numV (cstN (BitVec.ofInt 64 (fI w))) := if_neg l3
      have t61 := T61 (σ := σ) (k := 42) (x1 := iL (fI w)) (kc_42 σ)
      have q1 : nfq (wC σ 42 (cstN (iL (fI w)))) σ := nfq_w (by omega)
      have H1 := SC_n q1 H
      have sc := sc_c H
      obtain ⟨τ, t25, q25⟩ := T225 (f := f) (b := b) (c := ((bytN w : Nat) : Int)) (a := a) (j := 42) (sc_k H1) (by omega) hb (by omega) (fun _ => by omega) (kc_42 (wC σ 42 (cstN (iL (fI w))))) (by omega)
      rw [b2_no l3]
      by_cases wh : bytN w = 8 ∧ b % 8 = 0
      · have wh' : ((bytN w : Nat) : Int) = 8 ∧ b % 8 = 0 := ⟨by rw [b8]; exact wh.1, wh.2⟩
        rw [if_pos wh', rC_wC, if_pos rfl] at q25
        rw [b2_yes wh'] at t25
        refine whole τ _ wh ?_ ⟨_, q1, by rw [er]; exact q25⟩
        simp only [e258_75, e258_112, e258_116, e258_133, Option.getD_some, Option.bind_some, Option.toList_some, Option.toList_none, List.cons_append, List.nil_append, and_self, and_true, true_and, false_and, and_false, ite_self, not_true_eq_false, not_false_eq_true, reduceIte, Nat.reduceEqDiff, ab_I, ab_L, ab_R, ao_I, ao_L, ao_R, gL_sL, gI_sI, gR_sR, gI_sL, gI_sR, gL_sI, gL_sR, gR_sI, gR_sL, oneI, sc_w H, T4, aoR 42 (kc_42 _), t61, sc_h H1, sc_ao H1, t25]
      · have wh' : ¬ (((bytN w : Nat) : Int) = 8 ∧ b % 8 = 0) := fun z => wh ⟨by rw [← b8]; exact z.1, z.2⟩
        rw [if_neg wh'] at q25
        rw [b2_no wh', q25] at t25
        refine bytes _ _ q1 wh (fun v1 τ' e27 => ?_) (fun v1 => ?_)
        · simp only [e258_75, e258_112, e258_116, e258_133, e258_163, Option.getD_some, Option.bind_some, Option.toList_some, Option.toList_none, List.cons_append, List.nil_append, and_self, and_true, true_and, false_and, and_false, ite_self, not_true_eq_false, not_false_eq_true, reduceIte, Nat.reduceEqDiff, ab_I, ab_L, ab_R, ao_I, ao_L, ao_R, gL_sL, gI_sI, gR_sR, gI_sL, gI_sR, gL_sI, gL_sR, gR_sI, gR_sL, sc_w H, T4, aoR 42 (kc_42 _), t61, sc_h H1, sc_ao H1, t25, v1, e27]
        · simp only [e258_75, e258_112, e258_116, e258_133, Option.getD_some, Option.bind_some, Option.toList_some, Option.toList_none, List.cons_append, List.nil_append, and_self, and_true, true_and, false_and, and_false, ite_self, not_true_eq_false, not_false_eq_true, reduceIte, Nat.reduceEqDiff, ab_I, ab_L, ab_R, ao_I, ao_L, ao_R, gL_sL, gI_sI, gR_sR, gI_sL, gI_sR, gL_sI, gL_sR, gR_sI, gR_sL, sc_w H, T4, aoR 42 (kc_42 _), t61, sc_h H1, sc_ao H1, t25, v1]
theorem T257 (H : SC σ k j E w) (hS : CSt σ k S) (P : PX S E t) (ht : gI σ 40 8 = t) (hw : okMem w) (hl : fL w = 2 ∨ fL w = 3 ∧ fM w = 96) : okc (MM 257 [mR (some 40)] σ) (some (mI (stoV E S w).1)) (fun τ => spo σ τ k j (stoV E S w).1 (stoV E S w).2 (gI σ 40 4) t) := by
  have F := PX_F P
  have hd : fD w ≤ 10 := by
    unfold okMem at hw
    rw [if_neg (by omega)] at hw
    rcases hl with q | q
    · rw [if_pos q] at hw
      exact hw.2.1
    · rw [if_neg (by omega), if_pos q.2] at hw
      exact hw.1
  have hs : fL w = 3 → fS w ≤ 10 := fun q => by
    unfold okMem at hw
    rw [if_neg (by omega), if_neg (by omega), if_pos (by omega)] at hw
    exact hw.2.1
  have hd' := dR_10 hd
  have l := pR_lt F hd'
  have hv := cAt_rg hS F.1 hd'
  have wv := okW_r P hd'
  have ov := rV_ok P.1 hd'
  have bn := bytN_c w
  have fo := fO_r w
  have t41 := T241 H hS F hd
  have t14 := T214r H hS P hd'
  have fof := okV_f P.1 hd'
  have s50 : MM 257 [mR (some 40)] σ = RR (lkB tb257) (B257_50, [some (mR (some 40)), some (mI ((pR S (dR w) : Nat) : Int)), some (mI (vk (rgV S (dR w)))), some (mI (b2 (fL w = 3))), none], [mI (vk (stV S w))], σ) := by
    by_cases l3 : fL w = 3
    · have er : stV S w = rgV S (sRr w) := if_pos l3
      have ts := T214r H hS P (r := sRr w) (sR_10 (hs l3))
      rw [b2_yes l3, er]
      simp only [M257, e257_0, e257_4, e257_13, e257_30, e257_43, e257_46, Option.getD_some, Option.bind_some, Option.toList_some, Option.toList_none, List.cons_append, List.nil_append, and_self, and_true, true_and, false_and, and_false, ite_self, not_true_eq_false, not_false_eq_true, reduceIte, Nat.reduceEqDiff, ab_I, ab_L, ab_R, ao_I, ao_L, ao_R, gL_sL, gI_sI, gR_sR, gI_sL, gI_sR, gL_sI, gL_sR, gR_sI, gR_sL, t41, sc_h H, sc_ao H, t14, sc_p H, m7, l3, oneI, T242 H hS F (hs l3), ts]
    · have er : stV S w = numV (cstN (BitVec.ofInt 64 (fI w))) := if_neg l3
      have e1 : vk (stV S w) = 1 := by rw [er]; rfl
      rw [b2_no l3, e1]
      simp only [M257, e257_0, e257_4, e257_13, e257_30, Option.getD_some, Option.bind_some, Option.toList_some, Option.toList_none, List.cons_append, List.nil_append, and_self, and_true, true_and, false_and, and_false, ite_self, not_true_eq_false, not_false_eq_true, reduceIte, Nat.reduceEqDiff, ab_I, ab_L, ab_R, ao_I, ao_L, ao_R, gL_sL, gI_sI, gR_sR, gI_sL, gI_sR, gL_sI, gL_sR, gR_sI, gR_sL, t41, sc_h H, sc_ao H, t14, sc_p H, m7, l3]
  rw [s50]
  have sto : stoV E S w = (if vk (rgV S (dR w)) = 0 then (3, S)
    else if vk (stV S w) = 0 then (3, S)
    else if vk (rgV S (dR w)) = 2 then
      (if ¬ bytN w = 4 ∨ ¬ fO w = 12 then (9, S)
       else if ¬ vk (stV S w) = 1 then (7, S) else (0, S))
    else if ¬ plcF (rgV S (dR w)) = 0 then (plcF (rgV S (dR w)), S)
    else if ¬ room E (rgV S (dR w)) (fO w) (bytN w) then (5, S)
    else if ¬ vk (stV S w) = 1 ∧ (¬ (vk (rgV S (dR w)) = 3 ∧ bytN w = 8 ∧ (vo (rgV S (dR w)) + fO w + 128) % 8 = 0) ∨ vk (stV S w) = 3 ∧ vw (rgV S (dR w)) < vw (stV S w)) then (7, S)
    else if vk (rgV S (dR w)) = 3 ∧ bytN w = 8 ∧ (vo (rgV S (dR w)) + fO w + 128) % 8 = 0 then
      (0, (sF S, upV (sV S) (26 * (vw (rgV S (dR w))).toNat + 10 + (vo (rgV S (dR w)) + fO w + 128).toNat / 8) (stV S w), sB S, sH S))
    else if vk (rgV S (dR w)) = 3 then (0, putB S (vw (rgV S (dR w))).toNat (vo (rgV S (dR w)) + fO w + 128).toNat (bytN w) (bytN w))
    else (0, S)) := rfl
  rw [sto]
  clear sto s50
  have t58 := fun (f b : Nat) => T258 (f := f) (b := b) H hS P ht hd hs
  obtain ⟨V, hV⟩ : ∃ V, V = stV S w := ⟨_, rfl⟩
  rw [← hV] at t58 ⊢
  have go : ∀ {x : Int}, gI σ 40 8 = t → x = 0 → spo σ σ k j x S (gI σ 40 4) t := fun q z => by
    subst z
    have := spo_0 (j := j) hS
    rwa [q] at this
  generalize hv' : rgV S (dR w) = v at *
  by_cases c0 : vk v = 0
  · rw [if_pos c0]
    refine okc_o (τ := σ) ?_ (spo_e (by show ¬ (3 : Int) = 0; decide))
    simp only [e257_50, Option.getD_some, Option.bind_some, Option.toList_some, Option.toList_none, List.cons_append, List.nil_append, and_self, and_true, true_and, false_and, and_false, ite_self, not_true_eq_false, not_false_eq_true, reduceIte, Nat.reduceEqDiff, ab_I, ab_L, ab_R, ao_I, ao_L, ao_R, gL_sL, gI_sI, gR_sR, gI_sL, gI_sR, gL_sI, gL_sR, gR_sI, gR_sL, c0]
  · rw [if_neg c0]
    by_cases d0 : vk V = 0
    · rw [if_pos d0]
      refine okc_o (τ := σ) ?_ (spo_e (by show ¬ (3 : Int) = 0; decide))
      simp only [e257_50, Option.getD_some, Option.bind_some, Option.toList_some, Option.toList_none, List.cons_append, List.nil_append, and_self, and_true, true_and, false_and, and_false, ite_self, not_true_eq_false, not_false_eq_true, reduceIte, Nat.reduceEqDiff, ab_I, ab_L, ab_R, ao_I, ao_L, ao_R, gL_sL, gI_sI, gR_sR, gI_sL, gI_sR, gL_sI, gL_sR, gR_sI, gR_sL, c0, d0]
    · rw [if_neg d0]
      by_cases mb : isMb v
      · have n2 : ¬ vk v = 2 := by have mb : vk v = 6 ∨ vk v = 10 := mb; omega
        have pf : plcF v = 14 := if_pos mb
        rw [if_neg n2, pf, if_pos (by decide)]
        refine okc_o (τ := σ) ?_ (spo_e (by show ¬ (14 : Int) = 0; decide))
        have mb' : vk v = 6 ∨ vk v = 10 := mb
        simp only [e257_50, e257_67, Option.getD_some, Option.bind_some, Option.toList_some, Option.toList_none, List.cons_append, List.nil_append, and_self, and_true, true_and, false_and, and_false, ite_self, not_true_eq_false, not_false_eq_true, reduceIte, Nat.reduceEqDiff, ab_I, ab_L, ab_R, ao_I, ao_L, ao_R, gL_sL, gI_sI, gR_sR, gI_sL, gI_sR, gL_sI, gL_sR, gR_sI, gR_sL, c0, d0, T244, b2_0', mb']
      · have mb' : ¬ (vk v = 6 ∨ vk v = 10) := mb
        by_cases c2 : vk v = 2
        · rw [if_pos c2]
          have o26 : ¬ ((2 : Int) = 6 ∨ (2 : Int) = 10) := by decide
          by_cases b4 : bytN w = 4
          · have b4' : ((bytN w : Nat) : Int) = 4 := by omega
            by_cases o12 : fO w = 12
            · rw [if_neg (fun z => z.elim (fun y => y b4) (fun y => y o12))]
              by_cases d1 : vk V = 1
              · rw [if_neg (not_not_intro d1)]
                refine okc_o (τ := σ) ?_ (go ht rfl)
                simp only [e257_50, e257_67, e257_85, e257_96, e257_139, Option.getD_some, Option.bind_some, Option.toList_some, Option.toList_none, List.cons_append, List.nil_append, and_self, and_true, true_and, false_and, and_false, ite_self, not_true_eq_false, not_false_eq_true, reduceIte, Nat.reduceEqDiff, ab_I, ab_L, ab_R, ao_I, ao_L, ao_R, gL_sL, gI_sI, gR_sR, gI_sL, gI_sR, gL_sI, gL_sR, gR_sI, gR_sL, c2, Int.reduceEq, d0, T244, b2_0', o26, or_self, sc_p H, T5, b4', sc_w H, T3, o12, eq_true d1, oneI]
              · rw [if_pos d1]
                refine okc_o (τ := σ) ?_ (spo_e (by show ¬ (7 : Int) = 0; decide))
                simp only [e257_50, e257_67, e257_85, e257_96, e257_139, Option.getD_some, Option.bind_some, Option.toList_some, Option.toList_none, List.cons_append, List.nil_append, and_self, and_true, true_and, false_and, and_false, ite_self, not_true_eq_false, not_false_eq_true, reduceIte, Nat.reduceEqDiff, ab_I, ab_L, ab_R, ao_I, ao_L, ao_R, gL_sL, gI_sI, gR_sR, gI_sL, gI_sR, gL_sI, gL_sR, gR_sI, gR_sL, c2, Int.reduceEq, d0, T244, b2_0', o26, or_self, sc_p H, T5, b4', sc_w H, T3, o12, d1]
            · rw [if_pos (Or.inr o12)]
              refine okc_o (τ := σ) ?_ (spo_e (by show ¬ (9 : Int) = 0; decide))
              simp only [e257_50, e257_67, e257_85, e257_96, Option.getD_some, Option.bind_some, Option.toList_some, Option.toList_none, List.cons_append, List.nil_append, and_self, and_true, true_and, false_and, and_false, ite_self, not_true_eq_false, not_false_eq_true, reduceIte, Nat.reduceEqDiff, ab_I, ab_L, ab_R, ao_I, ao_L, ao_R, gL_sL, gI_sI, gR_sR, gI_sL, gI_sR, gL_sI, gL_sR, gR_sI, gR_sL, c2, Int.reduceEq, d0, T244, b2_0', o26, or_self, sc_p H, T5, b4', sc_w H, T3, o12]
          · have b4' : ¬ ((bytN w : Nat) : Int) = 4 := by omega
            rw [if_pos (Or.inl b4)]
            refine okc_o (τ := σ) ?_ (spo_e (by show ¬ (9 : Int) = 0; decide))
            simp only [e257_50, e257_67, e257_85, Option.getD_some, Option.bind_some, Option.toList_some, Option.toList_none, List.cons_append, List.nil_append, and_self, and_true, true_and, false_and, and_false, ite_self, not_true_eq_false, not_false_eq_true, reduceIte, Nat.reduceEqDiff, ab_I, ab_L, ab_R, ao_I, ao_L, ao_R, gL_sL, gI_sI, gR_sR, gI_sL, gI_sR, gL_sI, gL_sR, gR_sI, gR_sL, c2, Int.reduceEq, d0, T244, b2_0', o26, or_self, sc_p H, T5, b4']
        · rw [if_neg c2]
          by_cases mv : mvs v
          · have pf : plcF v = 0 := by
              unfold plcF
              rw [if_neg mb, if_neg (not_not_intro mv)]
            rw [pf, if_neg (by decide)]
            have mv' : vk v = 3 ∨ vk v = 5 ∨ vk v = 7 ∨ vk v = 9 := mv
            have t53 := T253 (b := fO w) (n := ((bytN w : Nat) : Int)) H l hv wv ov mv (by omega) (by omega)
            by_cases rm : room E v (fO w) ((bytN w : Nat) : Int)
            · rw [if_neg (not_not_intro rm)]
              rw [b2_yes rm] at t53
              have s139 : RR (lkB tb257) (B257_50, [some (mR (some 40)), some (mI ((pR S (dR w) : Nat) : Int)), some (mI (vk v)), some (mI (b2 (fL w = 3))), none], [mI (vk V)], σ) = RR (lkB tb257) (B257_139, [some (mR (some 40)), some (mI ((pR S (dR w) : Nat) : Int)), some (mI (vk v)), some (mI (b2 (fL w = 3))), some (mI (vk V))], [], σ) := by
                simp only [e257_50, e257_67, e257_108, e257_122, e257_130, e257_134, Option.getD_some, Option.bind_some, Option.toList_some, Option.toList_none, List.cons_append, List.nil_append, and_self, and_true, true_and, false_and, and_false, ite_self, not_true_eq_false, not_false_eq_true, reduceIte, Nat.reduceEqDiff, ab_I, ab_L, ab_R, ao_I, ao_L, ao_R, gL_sL, gI_sI, gR_sR, gI_sL, gI_sR, gL_sI, gL_sR, gR_sI, gR_sL, c0, d0, T244, b2_0', mb', c2, T245, b2_n', mv', sc_w H, T3, sc_p H, T5, t53, oneI]
              rw [s139]
              by_cases k3 : vk v = 3
              · have ff := fof k3
                have rm' : -128 ≤ vo v + fO w ∧ vo v + fO w ≤ -((bytN w : Nat) : Int) := by
                  unfold room at rm
                  rwa [if_pos k3] at rm
                obtain ⟨f, hf⟩ : ∃ f, f = (vw v).toNat := ⟨_, rfl⟩
                obtain ⟨b, hb⟩ : ∃ b, b = (vo v + fO w + 128).toNat := ⟨_, rfl⟩
                have ef : vw v = (f : Int) := by omega
                have eb : vo v + fO w + 128 = (b : Int) := by omega
                have mb8 : ((vo v + fO w + 128) % 8 = 0) = (b % 8 = 0) := by
                  apply propext
                  omega
                obtain ⟨τ, t58, q58⟩ := t58 f b k3 ef eb (by omega) (by omega) d0
                rw [← hf, ← hb, ef]
                simp only [mb8]
                have ec : (¬ vk V = 1 ∧ (¬ (vk v = 3 ∧ bytN w = 8 ∧ b % 8 = 0) ∨ vk V = 3 ∧ (f : Int) < vw V)) = (¬ vk V = 1 ∧ (¬ (bytN w = 8 ∧ b % 8 = 0) ∨ vk V = 3 ∧ (f : Int) < vw V)) := by
                  apply propext
                  constructor
                  · rintro ⟨y1, y2⟩
                    exact ⟨y1, y2.imp (fun y z => y ⟨k3, z⟩) id⟩
                  · rintro ⟨y1, y2⟩
                    exact ⟨y1, y2.imp (fun y z => y z.2) id⟩
                have s : RR (lkB tb257) (B257_139, [some (mR (some 40)), some (mI ((pR S (dR w) : Nat) : Int)), some (mI (vk v)), some (mI (b2 (fL w = 3))), some (mI (vk V))], [], σ) = some (some (mI (if ¬ vk V = 1 ∧ (¬ (bytN w = 8 ∧ b % 8 = 0) ∨ vk V = 3 ∧ (f : Int) < vw V) then 7 else 0)), τ) := by
                  simp only [e257_139, e257_152, Option.getD_some, Option.bind_some, Option.toList_some, Option.toList_none, List.cons_append, List.nil_append, and_self, and_true, true_and, false_and, and_false, ite_self, not_true_eq_false, not_false_eq_true, reduceIte, Nat.reduceEqDiff, ab_I, ab_L, ab_R, ao_I, ao_L, ao_R, gL_sL, gI_sI, gR_sR, gI_sL, gI_sR, gL_sI, gL_sR, gR_sI, gR_sL, k3, t58]
                rw [s]
                simp only [ec]
                by_cases up : ¬ vk V = 1 ∧ (¬ (bytN w = 8 ∧ b % 8 = 0) ∨ vk V = 3 ∧ (f : Int) < vw V)
                · rw [if_pos up] at q58 ⊢
                  rw [if_pos up]
                  exact okc_s ⟨q58.1, fun z => absurd (show (7 : Int) = 0 from z) (by decide)⟩
                · rw [if_neg up] at q58 ⊢
                  rw [if_neg up]
                  by_cases wh : bytN w = 8 ∧ b % 8 = 0
                  · rw [if_pos wh] at q58
                    rw [if_pos (show vk v = 3 ∧ bytN w = 8 ∧ b % 8 = 0 from ⟨k3, wh⟩)]
                    exact okc_s q58
                  · rw [if_neg wh] at q58
                    rw [if_neg (show ¬ (vk v = 3 ∧ bytN w = 8 ∧ b % 8 = 0) from fun z => wh z.2), if_pos k3]
                    exact okc_s q58
              · by_cases d1 : vk V = 1
                · rw [if_neg (show ¬ (¬ vk V = 1 ∧ (¬ (vk v = 3 ∧ bytN w = 8 ∧ (vo v + fO w + 128) % 8 = 0) ∨ vk V = 3 ∧ vw v < vw V)) from fun z => z.1 d1), if_neg (fun z => k3 z.1), if_neg k3]
                  refine okc_o (τ := σ) ?_ (go ht rfl)
                  simp only [e257_139, Option.getD_some, Option.bind_some, Option.toList_some, Option.toList_none, List.cons_append, List.nil_append, and_self, and_true, true_and, false_and, and_false, ite_self, not_true_eq_false, not_false_eq_true, reduceIte, Nat.reduceEqDiff, ab_I, ab_L, ab_R, ao_I, ao_L, ao_R, gL_sL, gI_sI, gR_sR, gI_sL, gI_sR, gL_sI, gL_sR, gR_sI, gR_sL, k3, d1]
                · rw [if_pos (show ¬ vk V = 1 ∧ (¬ (vk v = 3 ∧ bytN w = 8 ∧ (vo v + fO w + 128) % 8 = 0) ∨ vk V = 3 ∧ vw v < vw V) from ⟨d1, Or.inl (fun z => k3 z.1)⟩)]
                  refine okc_o (τ := σ) ?_ (spo_e (by show ¬ (7 : Int) = 0; decide))
                  simp only [e257_139, Option.getD_some, Option.bind_some, Option.toList_some, Option.toList_none, List.cons_append, List.nil_append, and_self, and_true, true_and, false_and, and_false, ite_self, not_true_eq_false, not_false_eq_true, reduceIte, Nat.reduceEqDiff, ab_I, ab_L, ab_R, ao_I, ao_L, ao_R, gL_sL, gI_sI, gR_sR, gI_sL, gI_sR, gL_sI, gL_sR, gR_sI, gR_sL, k3, d1]
            · rw [if_pos rm]
              rw [b2_no rm] at t53
              refine okc_o (τ := σ) ?_ (spo_e (by show ¬ (5 : Int) = 0; decide))
              simp only [e257_50, e257_67, e257_108, e257_122, e257_130, e257_134, Option.getD_some, Option.bind_some, Option.toList_some, Option.toList_none, List.cons_append, List.nil_append, and_self, and_true, true_and, false_and, and_false, ite_self, not_true_eq_false, not_false_eq_true, reduceIte, Nat.reduceEqDiff, ab_I, ab_L, ab_R, ao_I, ao_L, ao_R, gL_sL, gI_sI, gR_sR, gI_sL, gI_sR, gL_sI, gL_sR, gR_sI, gR_sL, c0, d0, T244, b2_0', mb', c2, T245, b2_n', mv', sc_w H, T3, sc_p H, T5, t53]
          · have pf : plcF v = 4 := by
              unfold plcF
              rw [if_neg mb, if_pos mv]
            have mv' : ¬ (vk v = 3 ∨ vk v = 5 ∨ vk v = 7 ∨ vk v = 9) := mv
            rw [pf, if_pos (by decide)]
            refine okc_o (τ := σ) ?_ (spo_e (by show ¬ (4 : Int) = 0; decide))
            simp only [e257_50, e257_67, e257_108, Option.getD_some, Option.bind_some, Option.toList_some, Option.toList_none, List.cons_append, List.nil_append, and_self, and_true, true_and, false_and, and_false, ite_self, not_true_eq_false, not_false_eq_true, reduceIte, Nat.reduceEqDiff, ab_I, ab_L, ab_R, ao_I, ao_L, ao_R, gL_sL, gI_sI, gR_sR, gI_sL, gI_sR, gL_sI, gL_sR, gR_sI, gR_sL, c0, d0, T244, b2_0', mb', c2, T245, b2_n', mv']
theorem T259 (H : SC σ k j E w) (hS : CSt σ k S) (P : PX S E t) (ht : gI σ 40 8 = t) (hw : okMem w) (hl : fL w = 3 ∧ fM w = 192) : okc (MM 259 [mR (some 40)] σ) (some (mI (swpV E S w).1)) (fun τ => spo σ τ k j (swpV E S w).1 (swpV E S w).2 (gI σ 40 4) t) := by
  have F := PX_F P
  unfold okMem at hw
  rw [if_neg (by omega), if_neg (by omega), if_neg (by omega)] at hw
  obtain ⟨⟨-, hd⟩, hi⟩ := hw
  have hs : fS w ≤ 10 := by rcases hi with q | q <;> omega
  have hs9 : fI w % 2 = 1 → ¬ fI w = 241 → fS w ≤ 9 := fun z1 z2 => by
    rcases hi with q | q
    · rcases q.1 with q | q | q | q | q <;> omega
    · exact q.2
  have e1 : iAnd (fI w) 1 = fI w % 2 := by
    rcases hi with q | q
    · rcases q.1 with q | q | q | q | q <;> rw [q] <;> decide
    · rcases q.1 with q | q | q | q | q <;> rw [q] <;> decide
  have hd' := dR_10 hd
  have hs' := sR_10 hs
  have l := pR_lt F hd'
  have hv := cAt_rg hS F.1 hd'
  have wv := okW_r P hd'
  have ov := rV_ok P.1 hd'
  have bn := bytN_c w
  have fo := fO_r w
  have t41 := T241 H hS F hd
  have t42 := T242 H hS F hs
  have t14 := T214r H hS P hd'
  have t14s := T214r H hS P hs'
  have t14z := T214r H hS P (show 0 ≤ 10 by decide)
  have t12z : MM 212 [mR (some k), mI 0] σ = some (some (mI ((pR S 0 : Nat) : Int)), σ) := T212r H hS P (show 0 ≤ 10 by decide)
  have fof := okV_f P.1 hd'
  have l7 : pR S (dR w) + 7 < 100000 := by omega
  have l8 : pR S (dR w) + 8 < 100000 := by omega
  have g7 := gSt (sc_k H) (show pR S (dR w) + 7 < 1188 by omega)
  have g8 := gSt (sc_k H) (show pR S (dR w) + 8 < 1188 by omega)
  obtain ⟨ck, hck⟩ : ∃ ck : Int, ck = (if fI w = 241 then vk (rgV S 0) else 1) := ⟨_, rfl⟩
  have s81 : MM 259 [mR (some 40)] σ = RR (lkB tb259) (B259_81, [some (mR (some 40)), some (mI (fI w)), some (mI (b2 (fI w = 241))), some (mI ((pR S (dR w) : Nat) : Int)), some (mI (vk (rgV S (dR w)))), some (mI ((bytN w : Nat) : Int)), some (mI ck), none, none, none, none, none], [mI (vk (rgV S (sRr w)))], σ) := by
    by_cases q : fI w = 241
    · rw [if_pos q] at hck
      rw [hck]
      simp only [M259, e259_0, e259_7, e259_20, e259_25, e259_34, e259_43, e259_61, e259_64, e259_68, e259_78, Option.getD_some, Option.bind_some, Option.toList_some, Option.toList_none, List.cons_append, List.nil_append, and_self, and_true, true_and, false_and, and_false, ite_self, not_true_eq_false, not_false_eq_true, reduceIte, Nat.reduceEqDiff, ab_I, ab_L, ab_R, ao_I, ao_L, ao_R, gL_sL, gI_sI, gR_sR, gI_sL, gI_sR, gL_sI, gL_sR, gR_sI, gR_sL, sc_w H, T4, q, t41, sc_h H, sc_ao H, t14, sc_p H, T5, b2_yes trivial, oneI, t12z, t14z, t42, t14s]
    · rw [if_neg q] at hck
      rw [hck]
      simp only [M259, e259_0, e259_7, e259_20, e259_25, e259_34, e259_43, e259_68, e259_78, Option.getD_some, Option.bind_some, Option.toList_some, Option.toList_none, List.cons_append, List.nil_append, and_self, and_true, true_and, false_and, and_false, ite_self, not_true_eq_false, not_false_eq_true, reduceIte, Nat.reduceEqDiff, ab_I, ab_L, ab_R, ao_I, ao_L, ao_R, gL_sL, gI_sI, gR_sR, gI_sL, gI_sR, gL_sI, gL_sR, gR_sI, gR_sL, sc_w H, T4, q, t41, sc_h H, sc_ao H, t14, sc_p H, T5, b2_no not_false, t42, t14s]
  rw [s81]
  clear s81
  unfold swpV
  have hk0 : (vk (rgV S (dR w)) = 0 ∨ (fI w = 241 ∧ vk (rgV S 0) = 0) ∨ vk (rgV S (sRr w)) = 0) = (vk (rgV S (dR w)) = 0 ∨ ck = 0 ∨ vk (rgV S (sRr w)) = 0) := by
    apply propext
    rw [hck]
    by_cases q : fI w = 241
    · rw [if_pos q]
      constructor
      · rintro (y | y | y)
        · exact Or.inl y
        · exact Or.inr (Or.inl y.2)
        · exact Or.inr (Or.inr y)
      · rintro (y | y | y)
        · exact Or.inl y
        · exact Or.inr (Or.inl ⟨q, y⟩)
        · exact Or.inr (Or.inr y)
    · rw [if_neg q]
      constructor
      · rintro (y | y | y)
        · exact Or.inl y
        · exact absurd y.1 q
        · exact Or.inr (Or.inr y)
      · rintro (y | y | y)
        · exact Or.inl y
        · omega
        · exact Or.inr (Or.inr y)
  have hk1 : (¬ vk (rgV S (sRr w)) = 1 ∨ fI w = 241 ∧ ¬ vk (rgV S 0) = 1) = (¬ vk (rgV S (sRr w)) = 1 ∨ ¬ ck = 1) := by
    apply propext
    rw [hck]
    by_cases q : fI w = 241
    · rw [if_pos q]
      exact ⟨fun y => y.imp id (fun z => z.2), fun y => y.imp id (fun z => ⟨q, z⟩)⟩
    · rw [if_neg q]
      exact ⟨fun y => y.imp id (fun z => absurd z.1 q), fun y => y.imp id (fun z => absurd rfl z)⟩
  simp only [hk0, hk1]
  by_cases u0 : vk (rgV S (dR w)) = 0 ∨ ck = 0 ∨ vk (rgV S (sRr w)) = 0
  · rw [if_pos u0]
    refine okc_o (τ := σ) ?_ (spo_e (by show ¬ (3 : Int) = 0; decide))
    by_cases a0 : vk (rgV S (dR w)) = 0
    · simp only [e259_81, Option.getD_some, Option.bind_some, Option.toList_some, Option.toList_none, List.cons_append, List.nil_append, and_self, and_true, true_and, false_and, and_false, ite_self, not_true_eq_false, not_false_eq_true, reduceIte, Nat.reduceEqDiff, ab_I, ab_L, ab_R, ao_I, ao_L, ao_R, gL_sL, gI_sI, gR_sR, gI_sL, gI_sR, gL_sI, gL_sR, gR_sI, gR_sL, a0]
    · by_cases b0 : ck = 0
      · simp only [e259_81, Option.getD_some, Option.bind_some, Option.toList_some, Option.toList_none, List.cons_append, List.nil_append, and_self, and_true, true_and, false_and, and_false, ite_self, not_true_eq_false, not_false_eq_true, reduceIte, Nat.reduceEqDiff, ab_I, ab_L, ab_R, ao_I, ao_L, ao_R, gL_sL, gI_sI, gR_sR, gI_sL, gI_sR, gL_sI, gL_sR, gR_sI, gR_sL, a0, b0]
      · have d0 : vk (rgV S (sRr w)) = 0 := (u0.resolve_left a0).resolve_left b0
        simp only [e259_81, Option.getD_some, Option.bind_some, Option.toList_some, Option.toList_none, List.cons_append, List.nil_append, and_self, and_true, true_and, false_and, and_false, ite_self, not_true_eq_false, not_false_eq_true, reduceIte, Nat.reduceEqDiff, ab_I, ab_L, ab_R, ao_I, ao_L, ao_R, gL_sL, gI_sI, gR_sR, gI_sL, gI_sR, gL_sI, gL_sR, gR_sI, gR_sL, a0, b0, d0]
  · rw [if_neg u0]
    have a0 : ¬ vk (rgV S (dR w)) = 0 := fun z => u0 (Or.inl z)
    have b0 : ¬ ck = 0 := fun z => u0 (Or.inr (Or.inl z))
    have d0 : ¬ vk (rgV S (sRr w)) = 0 := fun z => u0 (Or.inr (Or.inr z))
    by_cases mb : isMb (rgV S (dR w))
    · rw [if_pos mb]
      refine okc_o (τ := σ) ?_ (spo_e (by show ¬ (14 : Int) = 0; decide))
      have mb' : vk (rgV S (dR w)) = 6 ∨ vk (rgV S (dR w)) = 10 := mb
      simp only [e259_81, e259_105, Option.getD_some, Option.bind_some, Option.toList_some, Option.toList_none, List.cons_append, List.nil_append, and_self, and_true, true_and, false_and, and_false, ite_self, not_true_eq_false, not_false_eq_true, reduceIte, Nat.reduceEqDiff, ab_I, ab_L, ab_R, ao_I, ao_L, ao_R, gL_sL, gI_sI, gR_sR, gI_sL, gI_sR, gL_sI, gL_sR, gR_sI, gR_sL, a0, b0, d0, T244, b2_0', mb']
    · rw [if_neg mb]
      have mb' : ¬ (vk (rgV S (dR w)) = 6 ∨ vk (rgV S (dR w)) = 10) := mb
      by_cases kp : ¬ vk (rgV S (dR w)) = 3 ∧ ¬ vk (rgV S (dR w)) = 5 ∧ ¬ vk (rgV S (dR w)) = 9
      · rw [if_pos kp]
        refine okc_o (τ := σ) ?_ (spo_e (by show ¬ (4 : Int) = 0; decide))
        simp only [e259_81, e259_105, Option.getD_some, Option.bind_some, Option.toList_some, Option.toList_none, List.cons_append, List.nil_append, and_self, and_true, true_and, false_and, and_false, ite_self, not_true_eq_false, not_false_eq_true, reduceIte, Nat.reduceEqDiff, ab_I, ab_L, ab_R, ao_I, ao_L, ao_R, gL_sL, gI_sI, gR_sR, gI_sL, gI_sR, gL_sI, gL_sR, gR_sI, gR_sL, a0, b0, d0, T244, b2_0', mb', kp.1, kp.2.1, kp.2.2]
      · rw [if_neg kp]
        have mv : mvs (rgV S (dR w)) := by show _ ∨ _; omega
        have t53 := T253 (b := fO w) (n := ((bytN w : Nat) : Int)) H l hv wv ov mv (by omega) (by omega)
        have s148 : RR (lkB tb259) (B259_81, [some (mR (some 40)), some (mI (fI w)), some (mI (b2 (fI w = 241))), some (mI ((pR S (dR w) : Nat) : Int)), some (mI (vk (rgV S (dR w)))), some (mI ((bytN w : Nat) : Int)), some (mI ck), none, none, none, none, none], [mI (vk (rgV S (sRr w)))], σ) = RR (lkB tb259) (B259_148, [some (mR (some 40)), some (mI (fI w)), some (mI (b2 (fI w = 241))), some (mI ((pR S (dR w) : Nat) : Int)), some (mI (vk (rgV S (dR w)))), some (mI ((bytN w : Nat) : Int)), some (mI ck), some (mI (vk (rgV S (sRr w)))), none, none, none, none], [mI (b2 (room E (rgV S (dR w)) (fO w) ((bytN w : Nat) : Int)))], σ) := by
          generalize b2 (room E (rgV S (dR w)) (fO w) ((bytN w : Nat) : Int)) = u at t53 ⊢
          by_cases k3 : vk (rgV S (dR w)) = 3
          · rw [k3] at mb' ⊢
            simp only [e259_81, e259_105, e259_132, e259_141, Option.getD_some, Option.bind_some, Option.toList_some, Option.toList_none, List.cons_append, List.nil_append, and_self, and_true, true_and, false_and, and_false, ite_self, not_true_eq_false, not_false_eq_true, reduceIte, Nat.reduceEqDiff, ab_I, ab_L, ab_R, ao_I, ao_L, ao_R, gL_sL, gI_sI, gR_sR, gI_sL, gI_sR, gL_sI, gL_sR, gR_sI, gR_sL, Int.reduceEq, b0, d0, T244, b2_0', mb', or_self, sc_w H, T3, t53]
          · by_cases k5 : vk (rgV S (dR w)) = 5
            · rw [k5] at mb' ⊢
              simp only [e259_81, e259_105, e259_132, e259_141, Option.getD_some, Option.bind_some, Option.toList_some, Option.toList_none, List.cons_append, List.nil_append, and_self, and_true, true_and, false_and, and_false, ite_self, not_true_eq_false, not_false_eq_true, reduceIte, Nat.reduceEqDiff, ab_I, ab_L, ab_R, ao_I, ao_L, ao_R, gL_sL, gI_sI, gR_sR, gI_sL, gI_sR, gL_sI, gL_sR, gR_sI, gR_sL, Int.reduceEq, b0, d0, T244, b2_0', mb', or_self, sc_w H, T3, t53]
            · have k9 : vk (rgV S (dR w)) = 9 := by omega
              rw [k9] at mb' ⊢
              simp only [e259_81, e259_105, e259_132, e259_141, Option.getD_some, Option.bind_some, Option.toList_some, Option.toList_none, List.cons_append, List.nil_append, and_self, and_true, true_and, false_and, and_false, ite_self, not_true_eq_false, not_false_eq_true, reduceIte, Nat.reduceEqDiff, ab_I, ab_L, ab_R, ao_I, ao_L, ao_R, gL_sL, gI_sI, gR_sR, gI_sL, gI_sR, gL_sI, gL_sR, gR_sI, gR_sL, Int.reduceEq, b0, d0, T244, b2_0', mb', or_self, sc_w H, T3, t53]
        rw [s148]
        by_cases rm : room E (rgV S (dR w)) (fO w) ((bytN w : Nat) : Int)
        · rw [if_neg (not_not_intro rm), b2_yes rm]
          have r7 : gL σ (k + 1 + 0) (pR S (dR w) + 7) + iL (fO w) = iL (vo (rgV S (dR w)) + fO w) := by rw [rd_7 hv, iLa]
          have r8 := rd_8 hv
          -- behind the bytes
          have tail : ∀ (T : ST) (σ1 : MS) (x8 x10 : B64), crq σ1 σ k → CSt σ1 k T → sF T = sF S → okc (RR (lkB tb259) (B259_254, [some (mR (some 40)), some (mI (fI w)), some (mI (b2 (fI w = 241))), some (mI ((pR S (dR w) : Nat) : Int)), some (mI (vk (rgV S (dR w)))), some (mI ((bytN w : Nat) : Int)), some (mI ck), some (mI (vk (rgV S (sRr w)))), some (mL x8), none, some (mL x10), none], [], σ1)) (some (mI 0)) (fun τ => spo σ τ k j 0 (if fI w = 241 then wV T 0 (numV (wideN (bytN w))) else if fI w % 2 = 1 then wV T (sRr w) (numV (wideN (bytN w))) else T) (gI σ 40 4) t) := fun T σ1 x8 x10 c1 c2 c3 => by
            have H1 := SC_q (sfq_c (j := j) c1) H
            have t63 := T63 (σ := σ1) (k := 42) (n := bytN w) (kc_42 σ1) (by omega)
            have q2 : nfq (wC σ1 42 (wideN (bytN w))) σ1 := nfq_w (by omega)
            have H2 := SC_n q2 H1
            have S2 := CSt_n (sc_c H) q2 c2
            have FT : 1 ≤ sF T ∧ sF T ≤ 4 := by rw [c3]; exact F
            have eP : ∀ r, pR T r = pR S r := fun r => by
              show 297 * (sF T - 1) + 11 * r = 297 * (sF S - 1) + 11 * r
              rw [c3]
            have fin : ∀ r, r ≤ 9 → ∃ τ, MM 218 [mR (some k), mI ((pR S r : Nat) : Int), mR (some 42)] (wC σ1 42 (wideN (bytN w))) = some (none, τ) ∧ spo σ τ k j 0 (wV T r (numV (wideN (bytN w)))) (gI σ 40 4) t := fun r hr => by
              have sc := sc_c H
              obtain ⟨τ, t18, q18⟩ := T218 (j := 42) (pl := pR S r) (sc_k H2) (kc_42 (wC σ1 42 (wideN (bytN w)))) (by omega) (pR_lt F (by omega))
              rw [rC_wC, if_pos rfl] at q18
              refine ⟨τ, t18, sfq_t (sfq_v q18) (sfq_t (sfq_n q2) (sfq_c c1)), fun _ => ⟨CSt_w FT S2 hr (by rw [← eP] at q18; exact q18), ?_, ?_, ?_⟩⟩
              · rw [q18.1, q2.1, c1.1]
              · rw [q18.1, q2.1, c1.1]
              · rw [q18.1, q2.1, c1.1, ht]
            by_cases q : fI w = 241
            · rw [if_pos q, b2_yes q]
              obtain ⟨τ, t18, sp⟩ := fin 0 (by decide)
              have t12 : MM 212 [mR (some k), mI 0] (wC σ1 42 (wideN (bytN w))) = some (some (mI ((pR S 0 : Nat) : Int)), wC σ1 42 (wideN (bytN w))) := by
                have := T212 (r := 0) (sc_k H2) S2.1.1 FT (by decide)
                rw [show 297 * (sF T - 1) + 11 * 0 = pR S 0 from eP 0] at this
                exact this
              refine okc_o (τ := τ) ?_ sp
              have e2 : ¬ iAnd (fI w) 1 = 0 := by rw [e1]; omega
              simp only [e259_254, e259_269, e259_285, e259_292, e259_299, Option.getD_some, Option.bind_some, Option.toList_some, Option.toList_none, List.cons_append, List.nil_append, and_self, and_true, true_and, false_and, and_false, ite_self, not_true_eq_false, not_false_eq_true, reduceIte, Nat.reduceEqDiff, ab_I, ab_L, ab_R, ao_I, ao_L, ao_R, gL_sL, gI_sI, gR_sR, gI_sL, gI_sR, gL_sI, gL_sR, gR_sI, gR_sL, e2, t63, oneI, sc_h H2, sc_ao H2, t12, t18]
            · rw [if_neg q, b2_no q]
              by_cases od : fI w % 2 = 1
              · rw [if_pos od]
                have s9 : sRr w ≤ 9 := by have := hs9 od q; have := (fld_rng w).2.2.1; show (fS w).toNat ≤ 9; omega
                obtain ⟨τ, t18, sp⟩ := fin (sRr w) s9
                have t42' : MM 242 [mR (some 40)] (wC σ1 42 (wideN (bytN w))) = some (some (mI ((pR S (sRr w) : Nat) : Int)), wC σ1 42 (wideN (bytN w))) := by
                  have := T242 H2 S2 FT hs
                  rwa [eP] at this
                refine okc_o (τ := τ) ?_ sp
                have e2 : ¬ iAnd (fI w) 1 = 0 := by rw [e1]; omega
                simp only [e259_254, e259_269, e259_292, e259_299, Option.getD_some, Option.bind_some, Option.toList_some, Option.toList_none, List.cons_append, List.nil_append, and_self, and_true, true_and, false_and, and_false, ite_self, not_true_eq_false, not_false_eq_true, reduceIte, Nat.reduceEqDiff, ab_I, ab_L, ab_R, ao_I, ao_L, ao_R, gL_sL, gI_sI, gR_sR, gI_sL, gI_sR, gL_sI, gL_sR, gR_sI, gR_sL, e2, t63, sc_h H2, sc_ao H2, t42', t18]
              · rw [if_neg od]
                have e2 : iAnd (fI w) 1 = 0 := by rw [e1]; omega
                refine okc_o (τ := σ1) ?_ ⟨sfq_c c1, fun _ => ⟨c2, c1.1 _ _, c1.1 _ _, (c1.1 _ _).trans ht⟩⟩
                simp only [e259_254, e259_299, Option.getD_some, Option.bind_some, Option.toList_some, Option.toList_none, List.cons_append, List.nil_append, and_self, and_true, true_and, false_and, and_false, ite_self, not_true_eq_false, not_false_eq_true, reduceIte, Nat.reduceEqDiff, ab_I, ab_L, ab_R, ao_I, ao_L, ao_R, gL_sL, gI_sI, gR_sR, gI_sL, gI_sR, gL_sI, gL_sR, gR_sI, gR_sL, e2]
          by_cases k3 : vk (rgV S (dR w)) = 3
          · have ff := fof k3
            have rm' : -128 ≤ vo (rgV S (dR w)) + fO w ∧ vo (rgV S (dR w)) + fO w ≤ -((bytN w : Nat) : Int) := by
              unfold room at rm
              rwa [if_pos k3] at rm
            obtain ⟨f, hf⟩ : ∃ f, f = (vw (rgV S (dR w))).toNat := ⟨_, rfl⟩
            obtain ⟨b, hb⟩ : ∃ b, b = (vo (rgV S (dR w)) + fO w + 128).toNat := ⟨_, rfl⟩
            have ef : vw (rgV S (dR w)) = (f : Int) := by omega
            have eb : vo (rgV S (dR w)) + fO w + 128 = (b : Int) := by omega
            have fF : f < sF S := by omega
            rw [← hf, ← hb]
            rw [ef] at r8
            have t26 := T226 (f := f) (b := b) (n := bytN w) (a := vo (rgV S (dR w)) + fO w) (sc_k H) hS P.2.1 (fun i hi => (okW_S P.1 P.2.1 P.2.2.1 P.2.2.2 hi).1) F.2 fF eb (by omega)
            by_cases ar : areS S f b (bytN w) = true
            · rw [if_neg (show ¬ (vk (rgV S (dR w)) = 3 ∧ areS S f b (bytN w) = false) from fun z => by rw [ar] at z; cases z.2)]
              rw [b2_yes ar] at t26
              have s216 : RR (lkB tb259) (B259_148, [some (mR (some 40)), some (mI (fI w)), some (mI (b2 (fI w = 241))), some (mI ((pR S (dR w) : Nat) : Int)), some (mI (vk (rgV S (dR w)))), some (mI ((bytN w : Nat) : Int)), some (mI ck), some (mI (vk (rgV S (sRr w)))), none, none, none, none], [mI 1], σ) = RR (lkB tb259) (B259_216, [some (mR (some 40)), some (mI (fI w)), some (mI (b2 (fI w = 241))), some (mI ((pR S (dR w) : Nat) : Int)), some (mI (vk (rgV S (dR w)))), some (mI ((bytN w : Nat) : Int)), some (mI ck), some (mI (vk (rgV S (sRr w)))), some (mL (iL (f : Int))), none, some (mL (iL (vo (rgV S (dR w)) + fO w))), none], [], σ) := by
                simp only [e259_148, e259_186, e259_210, Option.getD_some, Option.bind_some, Option.toList_some, Option.toList_none, List.cons_append, List.nil_append, and_self, and_true, true_and, false_and, and_false, ite_self, not_true_eq_false, not_false_eq_true, reduceIte, Nat.reduceEqDiff, ab_I, ab_L, ab_R, ao_I, ao_L, ao_R, gL_sL, gI_sI, gR_sR, gI_sL, gI_sR, gL_sI, gL_sR, gR_sI, gR_sL, oneI, sc_h H, sc_ao H, wp7 l7, wp8 l8, g7, g8, Int.toNat_natCast, r8, sc_w H, T3, r7, k3, t26]
              rw [s216]
              by_cases u1 : ¬ vk (rgV S (sRr w)) = 1 ∨ ¬ ck = 1
              · rw [if_pos u1]
                refine okc_o (τ := σ) ?_ (spo_e (by show ¬ (7 : Int) = 0; decide))
                by_cases c1 : ck = 1
                · have s1 : ¬ vk (rgV S (sRr w)) = 1 := u1.resolve_right (not_not_intro c1)
                  simp only [e259_216, Option.getD_some, Option.bind_some, Option.toList_some, Option.toList_none, List.cons_append, List.nil_append, and_self, and_true, true_and, false_and, and_false, ite_self, not_true_eq_false, not_false_eq_true, reduceIte, Nat.reduceEqDiff, ab_I, ab_L, ab_R, ao_I, ao_L, ao_R, gL_sL, gI_sI, gR_sR, gI_sL, gI_sR, gL_sI, gL_sR, gR_sI, gR_sL, c1, s1]
                · simp only [e259_216, Option.getD_some, Option.bind_some, Option.toList_some, Option.toList_none, List.cons_append, List.nil_append, and_self, and_true, true_and, false_and, and_false, ite_self, not_true_eq_false, not_false_eq_true, reduceIte, Nat.reduceEqDiff, ab_I, ab_L, ab_R, ao_I, ao_L, ao_R, gL_sL, gI_sI, gR_sR, gI_sL, gI_sR, gL_sI, gL_sR, gR_sI, gR_sL, c1]
              · rw [if_neg u1]
                have c1 : ck = 1 := Classical.byContradiction fun z => u1 (Or.inr z)
                have s1 : vk (rgV S (sRr w)) = 1 := Classical.byContradiction fun z => u1 (Or.inl z)
                obtain ⟨τ, e27, c27, q27⟩ := T227 (f := f) (b := b) (n := bytN w) (c := bytN w) (a := vo (rgV S (dR w)) + fO w) (sc_k H) hS P.2.1 (fun i hi => (okW_S P.1 P.2.1 P.2.2.1 P.2.2.2 hi).1) F.2 fF eb (by omega) (Nat.le_refl _)
                have tl := tail (putB S f b (bytN w) (bytN w)) τ (iL (f : Int)) (iL (vo (rgV S (dR w)) + fO w)) q27 c27 rfl
                simp only [k3, if_true]
                rw [k3, c1, s1] at tl
                simp only [e259_216, Option.getD_some, Option.bind_some, Option.toList_some, Option.toList_none, List.cons_append, List.nil_append, and_self, and_true, true_and, false_and, and_false, ite_self, not_true_eq_false, not_false_eq_true, reduceIte, Nat.reduceEqDiff, ab_I, ab_L, ab_R, ao_I, ao_L, ao_R, gL_sL, gI_sI, gR_sR, gI_sL, gI_sR, gL_sI, gL_sR, gR_sI, gR_sL, c1, s1, k3, sc_h H, sc_ao H, e27]
                exact tl
            · have ar' : areS S f b (bytN w) = false := by simpa using ar
              rw [if_pos (show vk (rgV S (dR w)) = 3 ∧ areS S f b (bytN w) = false from ⟨k3, ar'⟩)]
              rw [b2_no ar] at t26
              refine okc_o (τ := σ) ?_ (spo_e (by show ¬ (6 : Int) = 0; decide))
              simp only [e259_148, e259_186, e259_210, Option.getD_some, Option.bind_some, Option.toList_some, Option.toList_none, List.cons_append, List.nil_append, and_self, and_true, true_and, false_and, and_false, ite_self, not_true_eq_false, not_false_eq_true, reduceIte, Nat.reduceEqDiff, ab_I, ab_L, ab_R, ao_I, ao_L, ao_R, gL_sL, gI_sI, gR_sR, gI_sL, gI_sR, gL_sI, gL_sR, gR_sI, gR_sL, oneI, sc_h H, sc_ao H, wp7 l7, wp8 l8, g7, g8, Int.toNat_natCast, r8, sc_w H, T3, r7, k3, t26]
          · rw [if_neg (fun z => k3 z.1)]
            have s216 : RR (lkB tb259) (B259_148, [some (mR (some 40)), some (mI (fI w)), some (mI (b2 (fI w = 241))), some (mI ((pR S (dR w) : Nat) : Int)), some (mI (vk (rgV S (dR w)))), some (mI ((bytN w : Nat) : Int)), some (mI ck), some (mI (vk (rgV S (sRr w)))), none, none, none, none], [mI 1], σ) = RR (lkB tb259) (B259_216, [some (mR (some 40)), some (mI (fI w)), some (mI (b2 (fI w = 241))), some (mI ((pR S (dR w) : Nat) : Int)), some (mI (vk (rgV S (dR w)))), some (mI ((bytN w : Nat) : Int)), some (mI ck), some (mI (vk (rgV S (sRr w)))), some (mL (iL (vw (rgV S (dR w))))), none, some (mL (iL (vo (rgV S (dR w)) + fO w))), none], [], σ) := by
              simp only [e259_148, e259_186, Option.getD_some, Option.bind_some, Option.toList_some, Option.toList_none, List.cons_append, List.nil_append, and_self, and_true, true_and, false_and, and_false, ite_self, not_true_eq_false, not_false_eq_true, reduceIte, Nat.reduceEqDiff, ab_I, ab_L, ab_R, ao_I, ao_L, ao_R, gL_sL, gI_sI, gR_sR, gI_sL, gI_sR, gL_sI, gL_sR, gR_sI, gR_sL, oneI, sc_h H, sc_ao H, wp7 l7, wp8 l8, g7, g8, Int.toNat_natCast, r8, sc_w H, T3, r7, k3]
            rw [s216]
            by_cases u1 : ¬ vk (rgV S (sRr w)) = 1 ∨ ¬ ck = 1
            · rw [if_pos u1]
              refine okc_o (τ := σ) ?_ (spo_e (by show ¬ (7 : Int) = 0; decide))
              by_cases c1 : ck = 1
              · have s1 : ¬ vk (rgV S (sRr w)) = 1 := u1.resolve_right (not_not_intro c1)
                simp only [e259_216, Option.getD_some, Option.bind_some, Option.toList_some, Option.toList_none, List.cons_append, List.nil_append, and_self, and_true, true_and, false_and, and_false, ite_self, not_true_eq_false, not_false_eq_true, reduceIte, Nat.reduceEqDiff, ab_I, ab_L, ab_R, ao_I, ao_L, ao_R, gL_sL, gI_sI, gR_sR, gI_sL, gI_sR, gL_sI, gL_sR, gR_sI, gR_sL, c1, s1]
              · simp only [e259_216, Option.getD_some, Option.bind_some, Option.toList_some, Option.toList_none, List.cons_append, List.nil_append, and_self, and_true, true_and, false_and, and_false, ite_self, not_true_eq_false, not_false_eq_true, reduceIte, Nat.reduceEqDiff, ab_I, ab_L, ab_R, ao_I, ao_L, ao_R, gL_sL, gI_sI, gR_sR, gI_sL, gI_sR, gL_sI, gL_sR, gR_sI, gR_sL, c1]
            · rw [if_neg u1]
              have c1 : ck = 1 := Classical.byContradiction fun z => u1 (Or.inr z)
              have s1 : vk (rgV S (sRr w)) = 1 := Classical.byContradiction fun z => u1 (Or.inl z)
              have tl := tail S σ (iL (vw (rgV S (dR w)))) (iL (vo (rgV S (dR w)) + fO w)) (crq_r _ _) hS rfl
              simp only [k3, if_false]
              rw [c1, s1] at tl
              simp only [e259_216, Option.getD_some, Option.bind_some, Option.toList_some, Option.toList_none, List.cons_append, List.nil_append, and_self, and_true, true_and, false_and, and_false, ite_self, not_true_eq_false, not_false_eq_true, reduceIte, Nat.reduceEqDiff, ab_I, ab_L, ab_R, ao_I, ao_L, ao_R, gL_sL, gI_sI, gR_sR, gI_sL, gI_sR, gL_sI, gL_sR, gR_sI, gR_sL, c1, s1, k3]
              exact tl
        · rw [if_pos rm, b2_no rm]
          refine okc_o (τ := σ) ?_ (spo_e (by show ¬ (5 : Int) = 0; decide))
          simp only [e259_148, Option.getD_some, Option.bind_some, Option.toList_some, Option.toList_none, List.cons_append, List.nil_append, and_self, and_true, true_and, false_and, and_false, ite_self, not_true_eq_false, not_false_eq_true, reduceIte, Nat.reduceEqDiff, ab_I, ab_L, ab_R, ao_I, ao_L, ao_R, gL_sL, gI_sI, gR_sR, gI_sL, gI_sR, gL_sI, gL_sR, gR_sI, gR_sL]
end CSTO
-- FILE 89.cjmp
/-! ===== the class's FUNCTIONS, ways, what is decided ===== -/
/-- what is behind an instruction: the ways -/
def spj (σ τ : MS) (k j : Nat) (r : JR) : Prop := sfq τ σ k j ∧ (r.1 = 0 → gI τ 40 8 = r.2.2.2 ∧ match r.2.1, r.2.2.1 with
  | some (n, S1), none => CSt τ k S1 ∧ gI τ 40 4 = n ∧ gI τ 40 3 = 0
  | some (n, S1), some (g, S2) => (CSt τ k S1 ∧ gI τ 40 4 = n) ∧ (gI τ 40 3 = 1 ∧ gI τ 40 5 = g ∧ CSt τ j S2) ∧ gI τ j 7 = gI σ k 7 ∧ gR τ j 6 = gR σ k 6
  | none, _ => gI τ 40 4 = -1 ∧ gI τ 40 3 = 0)
section CJMP
variable {τ σ ρ : MS} {k j : Nat} {E : EV} {w : B64} {S S' : ST} {t n g : Int} {c : Int} {x y : N6}
theorem spj_f {f : Int} {a b : WY} {t' : Int} (hf : ¬ f = 0) (q : sfq τ σ k j) : spj σ τ k j (f, a, b, t') := ⟨q, fun z => absurd z hf⟩
theorem spj_1 {f t' : Int} (h3 : gI σ 40 3 = 0) (h : spo σ τ k j f S' n t') : spj σ τ k j (wayJ f n S' t') := by
  unfold wayJ
  by_cases f0 : f = 0
  · rw [if_pos f0]
    obtain ⟨a, b, c, d⟩ := h.2 f0
    exact ⟨h.1, fun _ => ⟨d, a, b, c.trans h3⟩⟩
  · rw [if_neg f0]
    exact spj_f f0 h.1
theorem wayJ_1 {f t' : Int} : (wayJ f n S' t').1 = f := by
  unfold wayJ
  split
  · rename_i h; exact h.symm
  · rfl
theorem T260 (H : SC σ k j E w) (hS : CSt σ k S) (P : PX S E t) (ht : gI σ 40 8 = t) (h4 : gI σ 40 4 = n) (h3 : gI σ 40 3 = 0) (hg : -2147483648 ≤ n + fI w ∧ n + fI w < 2147483648) : okc (MM 260 [mR (some 40)] σ) (some (mI (entJ S (n + fI w) n t).1)) (fun τ => spj σ τ k j (entJ S (n + fI w) n t)) := by
  have F := PX_F P
  have sc := sc_c H
  unfold entJ
  by_cases c4 : sF S = 4
  · rw [if_pos c4]
    refine okc_o (τ := σ) ?_ (spj_f (by decide) (sfq_r _ _ _))
    have e : gI σ k 3 = 4 := by rw [hS.1.1, c4]; rfl
    simp only [M260, e260_0, Option.getD_some, Option.bind_some, Option.toList_some, Option.toList_none, List.cons_append, List.nil_append, and_self, and_true, true_and, false_and, and_false, ite_self, not_true_eq_false, not_false_eq_true, reduceIte, Nat.reduceEqDiff, ab_I, ab_L, ab_R, ao_I, ao_L, ao_R, gL_sL, gI_sI, gR_sR, gI_sL, gI_sR, gL_sI, gL_sR, gR_sI, gR_sL, sc_h H, sc_ao H, e]
  · rw [if_neg c4]
    have e : ¬ gI σ k 3 = 4 := by rw [hS.1.1]; omega
    obtain ⟨τ, t19, q1, q2, q3, q4⟩ := T219 (g := n) (sc_k H) (by omega) hS
    have cs : csq τ σ k := ⟨fun k' s p1 p2 p3 => q2 k' s (fun z => p1 ⟨z.1, Or.inl z.2⟩) p2, q3, q4⟩
    have H1 := SC_q (sfq_s (j := j) cs) H
    have g4 : gI τ 40 4 = n := (q2 _ _ (by omega) (by omega)).trans h4
    have wg := w32_i hg.1 hg.2
    refine okc_o (τ := sI τ 40 4 (n + fI w)) ?_ ⟨sfq_t (sfq_i (by omega)) (sfq_s cs), fun _ => ⟨?_, CSt_i sc q1, ?_, ?_⟩⟩
    · simp only [M260, e260_0, e260_25, e260_37, Option.getD_some, Option.bind_some, Option.toList_some, Option.toList_none, List.cons_append, List.nil_append, and_self, and_true, true_and, false_and, and_false, ite_self, not_true_eq_false, not_false_eq_true, reduceIte, Nat.reduceEqDiff, ab_I, ab_L, ab_R, ao_I, ao_L, ao_R, gL_sL, gI_sI, gR_sR, gI_sL, gI_sR, gL_sI, gL_sR, gR_sI, gR_sL, sc_h H, sc_ao H, e, h4, t19, sc_w H1, T4, g4, wg]
    · rw [gI_sI, if_neg (by omega), q2 _ _ (by omega) (by omega), ht]
    · rw [gI_sI, if_pos ⟨rfl, rfl⟩]
    · rw [gI_sI, if_neg (by omega), q2 _ _ (by omega) (by omega), h3]
theorem T261 (H : SC σ k j E w) (hS : CSt σ k S) (P : PX S E t) (ht : gI σ 40 8 = t) (h3 : gI σ 40 3 = 0) : okc (MM 261 [mR (some 40)] σ) (some (mI (exiJ S t).1)) (fun τ => spj σ τ k j (exiJ S t)) := by
  have F := PX_F P
  have sc := sc_c H
  have t12 : MM 212 [mR (some k), mI 0] σ = some (some (mI ((pR S 0 : Nat) : Int)), σ) := T212r H hS P (show 0 ≤ 10 by decide)
  have t14 := T214r H hS P (show 0 ≤ 10 by decide)
  unfold exiJ
  by_cases z0 : vk (rgV S 0) = 0
  · rw [if_pos z0]
    refine okc_o (τ := σ) ?_ (spj_f (by decide) (sfq_r _ _ _))
    simp only [M261, e261_0, e261_12, e261_15, Option.getD_some, Option.bind_some, Option.toList_some, Option.toList_none, List.cons_append, List.nil_append, and_self, and_true, true_and, false_and, and_false, ite_self, not_true_eq_false, not_false_eq_true, reduceIte, Nat.reduceEqDiff, ab_I, ab_L, ab_R, ao_I, ao_L, ao_R, gL_sL, gI_sI, gR_sR, gI_sL, gI_sR, gL_sI, gL_sR, gR_sI, gR_sL, sc_h H, sc_ao H, t12, t14, z0]
  · rw [if_neg z0]
    by_cases z1 : vk (rgV S 0) = 1
    · rw [if_neg (not_not_intro z1)]
      by_cases f1 : sF S = 1
      · rw [if_pos f1]
        have e : gI σ k 3 ≤ 1 := by rw [hS.1.1, f1]; decide
        have H1 : SC (sI σ 40 4 (-1)) k j E w := SC_q (sfq_i (by omega)) H
        have g4 : gI (sI σ 40 4 (-1)) k 4 = ((sH S).length : Int) := by rw [gI_sI, if_neg (by omega)]; exact hS.1.2
        have q : sfq (sI σ 40 4 (-1)) σ k j := sfq_i (by omega)
        by_cases h0 : sH S = []
        · rw [if_pos h0]
          have le : ((sH S).length : Int) ≤ 0 := by rw [h0]; decide
          refine okc_o (τ := sI σ 40 4 (-1)) ?_ ⟨q, fun _ => ⟨?_, ?_, ?_⟩⟩
          · have hh := sc_h H1
            have ha := sc_ao H1
            simp only [M261, e261_0, e261_12, e261_15, Option.getD_some, Option.bind_some, Option.toList_some, Option.toList_none, List.cons_append, List.nil_append, and_self, and_true, true_and, false_and, and_false, ite_self, not_true_eq_false, not_false_eq_true, reduceIte, Nat.reduceEqDiff, ab_I, ab_L, ab_R, ao_I, ao_L, ao_R, gL_sL, gI_sI, gR_sR, gI_sL, gI_sR, gL_sI, gL_sR, gR_sI, gR_sL, sc_h H, sc_ao H, t12, t14, z1, oneI, e, hh, ha, g4, le]
          · rw [gI_sI, if_neg (by omega)]; exact ht
          · rw [gI_sI, if_pos ⟨rfl, rfl⟩]
          · rw [gI_sI, if_neg (by omega)]; exact h3
        · rw [if_neg h0]
          have le : ¬ ((sH S).length : Int) ≤ 0 := by
            have : 0 < (sH S).length := List.length_pos_iff.mpr h0
            omega
          refine okc_o (τ := sI σ 40 4 (-1)) ?_ (spj_f (by decide) q)
          have hh := sc_h H1
          have ha := sc_ao H1
          simp only [M261, e261_0, e261_12, e261_15, Option.getD_some, Option.bind_some, Option.toList_some, Option.toList_none, List.cons_append, List.nil_append, and_self, and_true, true_and, false_and, and_false, ite_self, not_true_eq_false, not_false_eq_true, reduceIte, Nat.reduceEqDiff, ab_I, ab_L, ab_R, ao_I, ao_L, ao_R, gL_sL, gI_sI, gR_sR, gI_sL, gI_sR, gL_sI, gL_sR, gR_sI, gR_sL, sc_h H, sc_ao H, t12, t14, z1, oneI, e, hh, ha, g4, le]
      · rw [if_neg f1]
        have e : ¬ gI σ k 3 ≤ 1 := by rw [hS.1.1]; omega
        obtain ⟨τ, t20, q1, q2, q3, q4⟩ := T220 (sc_k H) (by omega) hS
        have cs : csq τ σ k := ⟨fun k' s p1 p2 p3 => q2 k' s (fun z => p1 ⟨z.1, Or.inl z.2⟩), q3, q4⟩
        refine okc_o (τ := sI τ 40 4 (sB S (sF S - 1))) ?_ ⟨sfq_t (sfq_i (by omega)) (sfq_s cs), fun _ => ⟨?_, CSt_i sc q1, ?_, ?_⟩⟩
        · simp only [M261, e261_0, e261_12, e261_15, e261_49, Option.getD_some, Option.bind_some, Option.toList_some, Option.toList_none, List.cons_append, List.nil_append, and_self, and_true, true_and, false_and, and_false, ite_self, not_true_eq_false, not_false_eq_true, reduceIte, Nat.reduceEqDiff, ab_I, ab_L, ab_R, ao_I, ao_L, ao_R, gL_sL, gI_sI, gR_sR, gI_sL, gI_sR, gL_sI, gL_sR, gR_sI, gR_sL, sc_h H, sc_ao H, t12, t14, z1, oneI, e, t20]
        · rw [gI_sI, if_neg (by omega), q2 _ _ (by omega), ht]
        · rw [gI_sI, if_pos ⟨rfl, rfl⟩]
        · rw [gI_sI, if_neg (by omega), q2 _ _ (by omega), h3]
    · rw [if_pos z1]
      refine okc_o (τ := σ) ?_ (spj_f (by decide) (sfq_r _ _ _))
      simp only [M261, e261_0, e261_12, e261_15, Option.getD_some, Option.bind_some, Option.toList_some, Option.toList_none, List.cons_append, List.nil_append, and_self, and_true, true_and, false_and, and_false, ite_self, not_true_eq_false, not_false_eq_true, reduceIte, Nat.reduceEqDiff, ab_I, ab_L, ab_R, ao_I, ao_L, ao_R, gL_sL, gI_sI, gR_sR, gI_sL, gI_sR, gL_sI, gL_sR, gR_sI, gR_sL, sc_h H, sc_ao H, t12, t14, z0, z1]
/-- both ways are gone -/
def ptP (τ σ : MS) (k j : Nat) (S : ST) : Prop := (sfq τ σ k j ∧ CSt τ k S ∧ CSt τ j S) ∧ (gI τ 40 3 = 1 ∧ gI τ 40 4 = gI σ 40 4 ∧ gI τ 40 5 = gI σ 40 5 ∧ gI τ 40 8 = gI σ 40 8) ∧ (gI τ j 7 = gI σ k 7 ∧ gR τ j 6 = gR σ k 6) ∧ ∀ i s, 41 ≤ i → i ≤ 50 → gL τ i s = gL σ i s
theorem T263 (H : SC σ k j E w) (hS : CSt σ k S) (P : PX S E t) (hl : ak σ 2 (gR σ k 6)) : okc (MM 263 [mR (some 40)] σ) none (fun τ => ptP τ σ k j S) := by
  have F := PX_F P
  have sc := sc_c H
  have sj : stC j := H.1.2.2.2
  have dd := H.1.2.1
  have q0 : sfq (sI σ 40 3 1) σ k j := sfq_i (by omega)
  have H1 := SC_q q0 H
  obtain ⟨τ, t11, c1, ⟨c5, c7, c6⟩, d1, d2, d3, d4⟩ := T211 (σ := sI σ 40 3 1) (k := j) (j := k) (sc_j H1) (sc_k H1) (by omega) (CSt_i sc hS) F P.1.2.2.2.2.2.1 hl
  have q1 : sfq τ (sI σ 40 3 1) k j := ⟨fun k' s _ _ p => d1 k' s p, fun k' s _ _ p => d2 k' s p, fun k' s p => d3 k' s p, d4⟩
  refine okc_o (τ := τ) ?_ ⟨⟨sfq_t q1 q0, ?_, c1⟩, ⟨?_, ?_, ?_, ?_⟩, ⟨?_, ?_⟩, fun i s h1 h2 => ?_⟩
  · have hh := sc_h H1
    have ho := sc_o H1
    have ha : ao σ 8 (some j) = True := aoS (sc_j H)
    simp only [M263, e263_0, e263_16, Option.getD_some, Option.bind_some, Option.toList_some, Option.toList_none, List.cons_append, List.nil_append, and_self, and_true, true_and, false_and, and_false, ite_self, not_true_eq_false, not_false_eq_true, reduceIte, Nat.reduceEqDiff, ab_I, ab_L, ab_R, ao_I, ao_L, ao_R, gL_sL, gI_sI, gR_sR, gI_sL, gI_sR, gL_sI, gL_sR, gR_sI, gR_sL, hh, ho, ha, t11]
  · exact CSt_q (fun s => d1 _ _ (by omega)) (fun s => d1 _ _ (by omega)) (fun s => d1 _ _ (by omega)) (fun s => d2 _ _ (by omega)) (CSt_i sc hS)
  · rw [d1 _ _ (by omega), gI_sI, if_pos ⟨rfl, rfl⟩]
  · rw [d1 _ _ (by omega), gI_sI, if_neg (by omega)]
  · rw [d1 _ _ (by omega), gI_sI, if_neg (by omega)]
  · rw [d1 _ _ (by omega), gI_sI, if_neg (by omega)]
  · rw [c7, gI_sI, if_neg (by omega)]
  · rw [c6]; rfl
  · rw [d2 _ _ (by omega)]; rfl
/-- a change of the one way, then a change of the other -/
theorem spj_2 {S1 S2 : ST} {τ1 τ2 : MS} (H : SC σ k j E w) (ht : gI σ 40 8 = t) (h4 : gI σ 40 4 = n) (h5 : gI σ 40 5 = g) (p : ptP ρ σ k j S) (c1 : CSt τ1 k S1) (q1 : csq τ1 ρ k) (c2 : CSt τ2 j S2) (q2 : csq τ2 τ1 j) : spj σ τ2 k j (0, some (n, S1), some (g, S2), t) := by
  obtain ⟨⟨p1, p2, p3⟩, ⟨p4, p5, p6, p7⟩, ⟨p8, p9⟩, -⟩ := p
  have sc := sc_c H
  have sj : stC j := H.1.2.2.2
  have dd := H.1.2.1
  have q2' : sfq τ2 τ1 k j := ⟨fun k' s _ _ r => q2.1 k' s (by omega) (by omega) (by omega), fun k' s _ _ r => q2.2.1 k' s r, fun k' s _ => gR_r q2.2.2, by rw [q2.2.2]⟩
  have o1 : ∀ s, gI τ2 40 s = gI ρ 40 s := fun s => (q2.1 _ _ (by omega) (by omega) (by omega)).trans (q1.1 _ _ (by omega) (by omega) (by omega))
  refine ⟨sfq_t q2' (sfq_t (sfq_s q1) p1), fun _ => ⟨?_, ⟨?_, ?_⟩, ⟨?_, ?_, c2⟩, ?_, ?_⟩⟩
  · show gI τ2 40 8 = t
    rw [o1, p7, ht]
  · exact CSt_q (fun s => q2.1 _ _ (by omega) (by omega) (by omega)) (fun s => q2.1 _ _ (by omega) (by omega) (by omega)) (fun s => q2.1 _ _ (by omega) (by omega) (by omega)) (fun s => q2.2.1 _ _ (by omega)) c1
  · rw [o1, p5, h4]
  · rw [o1, p4]
  · rw [o1, p6, h5]
  · rw [q2.1 _ _ (by omega) (by omega) (by omega), q1.1 _ _ (by omega) (by omega) (by omega), p8]
  · rw [gR_r q2.2.2, gR_r q1.2.2, p9]
theorem CSt_s (hd : k + 3 < j ∨ j + 3 < k) (q : csq τ σ k) (c : CSt σ j S) : CSt τ j S := CSt_q (fun s => q.1 _ _ (by omega) (by omega) (by omega)) (fun s => q.1 _ _ (by omega) (by omega) (by omega)) (fun s => q.1 _ _ (by omega) (by omega) (by omega)) (fun s => q.2.1 _ _ (by omega)) c
/-- as they are -/
theorem spj_p (H : SC σ k j E w) (ht : gI σ 40 8 = t) (h4 : gI σ 40 4 = n) (h5 : gI σ 40 5 = g) (p : ptP ρ σ k j S) : spj σ ρ k j (0, some (n, S), some (g, S), t) := spj_2 H ht h4 h5 p p.1.2.1 (csq_r _ _) p.1.2.2 (csq_r _ _)
theorem relH_id (h : ∀ x ∈ sH S, ¬ x = t) : relH S t = S := by
  refine st_ext rfl (fun _ => rfl) rfl ?_
  exact List.filter_eq_self.mpr fun x hx => decide_eq_true (h x hx)
theorem T264 {z : Int} (H : SC σ k j E w) (hS : CSt σ k S) (P : PX S E t) (ht : gI σ 40 8 = t) (h4 : gI σ 40 4 = n) (h5 : gI σ 40 5 = g) (hd : fD w ≤ 10) (hl : ak σ 2 (gR σ k 6)) (mb : isMb (rgV S (dR w))) (hz : z = 0 ∨ z = 1) :
    okc (MM 264 [mR (some 40), mI 1, mI z] σ) none (fun τ => spj σ τ k j (if z = 1 then (0, some (n, allV S (plcV (vt (rgV S (dR w))))), some (g, becZ S (vt (rgV S (dR w))) (vk (rgV S (dR w)))), t) else (0, some (n, becZ S (vt (rgV S (dR w))) (vk (rgV S (dR w)))), some (g, allV S (plcV (vt (rgV S (dR w))))), t))) := by
  have F := PX_F P
  have sc := sc_c H
  have sj : stC j := H.1.2.2.2
  have dd := H.1.2.1
  have hd' := dR_10 hd
  have l := pR_lt F hd'
  have hv := cAt_rg hS F.1 hd'
  have wv := okW_r P hd'
  have hX := okX_of P.1 P.2.1 P.2.2.1 P.2.2.2
  have l10 : pR S (dR w) + 10 < 100000 := by omega
  have g10 := gSt (sc_k H) (show pR S (dR w) + 10 < 1188 by omega)
  have mb' : vk (rgV S (dR w)) = 6 ∨ vk (rgV S (dR w)) = 10 := mb
  -- what becomes 0
  have bz : relH (allV S (zerV (vt (rgV S (dR w))))) (vt (rgV S (dR w))) = becZ S (vt (rgV S (dR w))) (vk (rgV S (dR w))) := by
    unfold becZ
    by_cases k10 : vk (rgV S (dR w)) = 10
    · rw [if_pos k10]
    · rw [if_neg k10]
      have k6 : vk (rgV S (dR w)) = 6 := by omega
      refine relH_id fun x hx e => ?_
      have := (x_r P.2.2.1 F.1 hd').1.1 k6
      rw [e] at hx
      exact this hx
  generalize rgV S (dR w) = v at *
  have lt : lI (iL (vt v)) = vt v := lIi (by have := wv.2.1; omega) (by have := wv.2.1; omega)
  obtain ⟨ρ, t63, p⟩ := T263 H hS P hl
  have Hρ := SC_q p.1.1 H
  have s59 : MM 264 [mR (some 40), mI 1, mI z] σ = RR (lkB tb264) (B264_59, [some (mR (some 40)), some (mI 1), some (mI z), some (mI (vt v))], [mI (1 - z), mI (vt v), mR (some k)], ρ) := by
    rcases hz with z0 | z1
    · rw [z0]
      simp only [M264, e264_0, e264_35, e264_45, Option.getD_some, Option.bind_some, Option.toList_some, Option.toList_none, List.cons_append, List.nil_append, and_self, and_true, true_and, false_and, and_false, ite_self, not_true_eq_false, not_false_eq_true, reduceIte, Nat.reduceEqDiff, ab_I, ab_L, ab_R, ao_I, ao_L, ao_R, gL_sL, gI_sI, gR_sR, gI_sL, gI_sR, gL_sI, gL_sR, gR_sI, gR_sL, oneI, sc_h H, sc_ao H, T241 H hS F hd, wp10 l10, g10, Int.toNat_natCast, rd_10 hv, lt, t63, sc_h Hρ]
      rfl
    · rw [z1]
      simp only [M264, e264_0, e264_35, e264_45, Option.getD_some, Option.bind_some, Option.toList_some, Option.toList_none, List.cons_append, List.nil_append, and_self, and_true, true_and, false_and, and_false, ite_self, not_true_eq_false, not_false_eq_true, reduceIte, Nat.reduceEqDiff, ab_I, ab_L, ab_R, ao_I, ao_L, ao_R, gL_sL, gI_sI, gR_sR, gI_sL, gI_sR, gL_sI, gL_sR, gR_sI, gR_sL, oneI, sc_h H, sc_ao H, T241 H hS F hd, wp10 l10, g10, Int.toNat_natCast, rd_10 hv, lt, t63, sc_h Hρ]
      rfl
  have r41 : rC ρ 41 = cstN 0#64 := Hρ.2.2.2.2
  obtain ⟨τ1, t30, c1, q1⟩ := T230 (t := vt v) (j := 41) (z := 1 - z) (sc_k Hρ) p.1.2.1 F.2 hX P.1.2.2.2.2.2.1 (by have := wv.2.1; omega) (kc_41 ρ) (by omega) r41 (by omega)
  have H1 := SC_q (sfq_s (j := j) q1) Hρ
  have r41' : rC τ1 41 = cstN 0#64 := H1.2.2.2.2
  obtain ⟨τ2, t30b, c2, q2⟩ := T230 (t := vt v) (j := 41) (z := z) (sc_j H1) (CSt_s dd q1 p.1.2.2) F.2 hX P.1.2.2.2.2.2.1 (by have := wv.2.1; omega) (kc_41 τ1) (by omega) r41' hz
  have sp := spj_2 H ht h4 h5 p c1 q1 c2 q2
  rw [s59]
  have aj : ao τ1 8 (some j) = True := aoS (sc_j H1)
  have s : RR (lkB tb264) (B264_59, [some (mR (some 40)), some (mI 1), some (mI z), some (mI (vt v))], [mI (1 - z), mI (vt v), mR (some k)], ρ) = some (none, τ2) := by
    simp only [e264_59, e264_66, e264_79, Option.getD_some, Option.bind_some, Option.toList_some, Option.toList_none, List.cons_append, List.nil_append, and_self, and_true, true_and, false_and, and_false, ite_self, not_true_eq_false, not_false_eq_true, reduceIte, Nat.reduceEqDiff, ab_I, ab_L, ab_R, ao_I, ao_L, ao_R, gL_sL, gI_sI, gR_sR, gI_sL, gI_sR, gL_sI, gL_sR, gR_sI, gR_sL, sc_ao Hρ, t30, sc_o H1, aj, t30b]
  refine okc_o s ?_
  rcases hz with z0 | z1
  · rw [z0] at sp
    rw [if_neg (show ¬ z = 1 by omega)]
    rw [if_pos (show (1 : Int) - 0 = 1 by decide), if_neg (show ¬ (0 : Int) = 1 by decide), bz] at sp
    exact sp
  · rw [z1] at sp
    rw [if_pos z1]
    rw [if_neg (show ¬ (1 : Int) - 1 = 1 by decide), if_pos rfl, bz] at sp
    exact sp
theorem T265 {z : Int} (H : SC σ k j E w) (hS : CSt σ k S) (P : PX S E t) (ht : gI σ 40 8 = t) (h4 : gI σ 40 4 = n) (h5 : gI σ 40 5 = g) (hd : fD w ≤ 10) (hs : fS w ≤ 10) (hl : ak σ 2 (gR σ k 6)) (hz : z = 0 ∨ z = 1) (hc : isOrd c) :
    okc (MM 265 [mR (some 40), mI c, mI z] σ) none (fun τ => spj σ τ k j (rchJ S (if z = 1 then rgV S (dR w) else rgV S (sRr w)) (if z = 1 then c else turC c) g n t)) := by
  have F := PX_F P
  have sc := sc_c H
  have sj : stC j := H.1.2.2.2
  have dd := H.1.2.1
  obtain ⟨r, hr⟩ : ∃ r, r = (if z = 1 then dR w else sRr w) := ⟨_, rfl⟩
  have r10 : r ≤ 10 := by
    rw [hr]
    split
    · exact dR_10 hd
    · exact sR_10 hs
  have ev : (if z = 1 then rgV S (dR w) else rgV S (sRr w)) = rgV S r := by
    rw [hr]
    split <;> rfl
  have l := pR_lt F r10
  have hv := cAt_rg hS F.1 r10
  have wv := okW_r P r10
  have hX := okX_of P.1 P.2.1 P.2.2.1 P.2.2.2
  have l10 : pR S r + 10 < 100000 := by omega
  have g10 := gSt (sc_k H) (show pR S r + 10 < 1188 by omega)
  have l7 : pR S r + 7 < 100000 := by omega
  have g7 := gSt (sc_k H) (show pR S r + 7 < 1188 by omega)
  rw [ev]
  generalize rgV S r = v at *
  have lt : lI (iL (vt v)) = vt v := lIi (by have := wv.2.1; omega) (by have := wv.2.1; omega)
  obtain ⟨ρ, t63, p⟩ := T263 H hS P hl
  have Hρ := SC_q p.1.1 H
  have aj : ao ρ 8 (some j) = True := aoS (sc_j Hρ)
  have e1 : iL (vo v) + BitVec.ofNat 64 1 = iL (vo v + 1) := iLa (vo v) 1
  -- up to the place
  have s15 : MM 265 [mR (some 40), mI c, mI z] σ = RR (lkB tb265) (B265_15, [some (mR (some 40)), some (mI c), some (mI z), none, none, none, none, none, none, none, none, none], [mI ((pR S r : Nat) : Int)], σ) := by
    rcases hz with z0 | z1
    · rw [hr, z0, if_neg (by decide)]
      simp only [M265, e265_0, Option.getD_some, Option.bind_some, Option.toList_some, Option.toList_none, List.cons_append, List.nil_append, and_self, and_true, true_and, false_and, and_false, ite_self, not_true_eq_false, not_false_eq_true, reduceIte, Nat.reduceEqDiff, ab_I, ab_L, ab_R, ao_I, ao_L, ao_R, gL_sL, gI_sI, gR_sR, gI_sL, gI_sR, gL_sI, gL_sR, gR_sI, gR_sL, T242 H hS F hs]
    · rw [hr, z1, if_pos rfl]
      simp only [M265, e265_0, e265_8, Option.getD_some, Option.bind_some, Option.toList_some, Option.toList_none, List.cons_append, List.nil_append, and_self, and_true, true_and, false_and, and_false, ite_self, not_true_eq_false, not_false_eq_true, reduceIte, Nat.reduceEqDiff, ab_I, ab_L, ab_R, ao_I, ao_L, ao_R, gL_sL, gI_sI, gR_sR, gI_sL, gI_sR, gL_sI, gL_sR, gR_sI, gR_sL, oneI, T241 H hS F hd]
  rw [s15]
  have wo := wv.2.2.2.1
  -- the two kinds of outcome
  have onH : ∀ o : Int, (o = vo v ∨ o = vo v + 1) → ∃ τ, MM 231 [mR (some k), mI (vt v), mL (iL o)] ρ = some (none, τ) ∧ spj σ τ k j (0, some (n, allV S (rchV (vt v) o)), some (g, S), t) := fun o ho => by
    obtain ⟨τ, t31, c1, q1⟩ := T231 (t := vt v) (o := o) (sc_k Hρ) p.1.2.1 F.2 hX (by have := wv.2.1; omega) (by omega)
    exact ⟨τ, t31, spj_2 H ht h4 h5 p c1 (csq_c q1) (CSt_s dd (csq_c q1) p.1.2.2) (csq_r _ _)⟩
  have onO : ∀ o : Int, (o = vo v ∨ o = vo v + 1) → ∃ τ, MM 231 [mR (some j), mI (vt v), mL (iL o)] ρ = some (none, τ) ∧ spj σ τ k j (0, some (n, S), some (g, allV S (rchV (vt v) o)), t) := fun o ho => by
    obtain ⟨τ, t31, c1, q1⟩ := T231 (t := vt v) (o := o) (sc_j Hρ) p.1.2.2 F.2 hX (by have := wv.2.1; omega) (by omega)
    exact ⟨τ, t31, spj_2 H ht h4 h5 p p.1.2.1 (csq_r _ _) c1 (csq_c q1)⟩
  unfold rchJ
  rcases hz with z0 | z1
  · rw [if_neg (show ¬ z = 1 by omega), z0]
    rcases hc with c0 | c0 | c0 | c0
    · have e : turC c = 160 := by rw [c0]; rfl
      rw [e, c0]
      obtain ⟨τ, t31, sp⟩ := onO (vo v + 1) (Or.inr rfl)
      refine okc_o (τ := τ) ?_ sp
      simp only [e265_15, e265_57, e265_62, e265_77, e265_82, e265_88, e265_99, e265_117, e265_131, e265_151, e265_154, Option.getD_some, Option.bind_some, Option.toList_some, Option.toList_none, List.cons_append, List.nil_append, and_self, and_true, true_and, false_and, and_false, ite_self, not_true_eq_false, not_false_eq_true, reduceIte, Nat.reduceEqDiff, ab_I, ab_L, ab_R, ao_I, ao_L, ao_R, gL_sL, gI_sI, gR_sR, gI_sL, gI_sR, gL_sI, gL_sR, gR_sI, gR_sL, sc_h H, sc_ao H, wp10 l10, wp7 l7, g10, g7, Int.toNat_natCast, rd_10 hv, rd_7 hv, lt, Int.reduceEq, t63, sc_h Hρ, sc_o Hρ, sc_ao Hρ, aj, e1, t31]
    · have e : turC c = 176 := by rw [c0]; rfl
      rw [e, c0]
      obtain ⟨τ, t31, sp⟩ := onO (vo v) (Or.inl rfl)
      refine okc_o (τ := τ) ?_ sp
      simp only [e265_15, e265_57, e265_62, e265_77, e265_82, e265_88, e265_99, e265_117, e265_131, e265_151, e265_154, Option.getD_some, Option.bind_some, Option.toList_some, Option.toList_none, List.cons_append, List.nil_append, and_self, and_true, true_and, false_and, and_false, ite_self, not_true_eq_false, not_false_eq_true, reduceIte, Nat.reduceEqDiff, ab_I, ab_L, ab_R, ao_I, ao_L, ao_R, gL_sL, gI_sI, gR_sR, gI_sL, gI_sR, gL_sI, gL_sR, gR_sI, gR_sL, sc_h H, sc_ao H, wp10 l10, wp7 l7, g10, g7, Int.toNat_natCast, rd_10 hv, rd_7 hv, lt, Int.reduceEq, t63, sc_h Hρ, sc_o Hρ, sc_ao Hρ, aj, e1, t31]
    · have e : turC c = 32 := by rw [c0]; rfl
      rw [e, c0]
      obtain ⟨τ, t31, sp⟩ := onH (vo v) (Or.inl rfl)
      refine okc_o (τ := τ) ?_ sp
      simp only [e265_15, e265_57, e265_62, e265_77, e265_82, e265_88, e265_99, e265_117, e265_131, e265_151, e265_154, Option.getD_some, Option.bind_some, Option.toList_some, Option.toList_none, List.cons_append, List.nil_append, and_self, and_true, true_and, false_and, and_false, ite_self, not_true_eq_false, not_false_eq_true, reduceIte, Nat.reduceEqDiff, ab_I, ab_L, ab_R, ao_I, ao_L, ao_R, gL_sL, gI_sI, gR_sR, gI_sL, gI_sR, gL_sI, gL_sR, gR_sI, gR_sL, sc_h H, sc_ao H, wp10 l10, wp7 l7, g10, g7, Int.toNat_natCast, rd_10 hv, rd_7 hv, lt, Int.reduceEq, t63, sc_h Hρ, sc_o Hρ, sc_ao Hρ, aj, e1, t31]
    · have e : turC c = 48 := by rw [c0]; rfl
      rw [e, c0]
      obtain ⟨τ, t31, sp⟩ := onH (vo v + 1) (Or.inr rfl)
      refine okc_o (τ := τ) ?_ sp
      simp only [e265_15, e265_57, e265_62, e265_77, e265_82, e265_88, e265_99, e265_117, e265_131, e265_151, e265_154, Option.getD_some, Option.bind_some, Option.toList_some, Option.toList_none, List.cons_append, List.nil_append, and_self, and_true, true_and, false_and, and_false, ite_self, not_true_eq_false, not_false_eq_true, reduceIte, Nat.reduceEqDiff, ab_I, ab_L, ab_R, ao_I, ao_L, ao_R, gL_sL, gI_sI, gR_sR, gI_sL, gI_sR, gL_sI, gL_sR, gR_sI, gR_sL, sc_h H, sc_ao H, wp10 l10, wp7 l7, g10, g7, Int.toNat_natCast, rd_10 hv, rd_7 hv, lt, Int.reduceEq, t63, sc_h Hρ, sc_o Hρ, sc_ao Hρ, aj, e1, t31]
  · rw [if_pos z1, z1]
    rcases hc with c0 | c0 | c0 | c0
    · rw [c0]
      obtain ⟨τ, t31, sp⟩ := onH (vo v) (Or.inl rfl)
      refine okc_o (τ := τ) ?_ sp
      simp only [e265_15, e265_57, e265_62, e265_77, e265_82, e265_88, e265_99, e265_117, e265_131, e265_151, e265_154, Option.getD_some, Option.bind_some, Option.toList_some, Option.toList_none, List.cons_append, List.nil_append, and_self, and_true, true_and, false_and, and_false, ite_self, not_true_eq_false, not_false_eq_true, reduceIte, Nat.reduceEqDiff, ab_I, ab_L, ab_R, ao_I, ao_L, ao_R, gL_sL, gI_sI, gR_sR, gI_sL, gI_sR, gL_sI, gL_sR, gR_sI, gR_sL, sc_h H, sc_ao H, wp10 l10, wp7 l7, g10, g7, Int.toNat_natCast, rd_10 hv, rd_7 hv, lt, Int.reduceEq, t63, sc_h Hρ, sc_o Hρ, sc_ao Hρ, aj, e1, t31]
    · rw [c0]
      obtain ⟨τ, t31, sp⟩ := onH (vo v + 1) (Or.inr rfl)
      refine okc_o (τ := τ) ?_ sp
      simp only [e265_15, e265_57, e265_62, e265_77, e265_82, e265_88, e265_99, e265_117, e265_131, e265_151, e265_154, Option.getD_some, Option.bind_some, Option.toList_some, Option.toList_none, List.cons_append, List.nil_append, and_self, and_true, true_and, false_and, and_false, ite_self, not_true_eq_false, not_false_eq_true, reduceIte, Nat.reduceEqDiff, ab_I, ab_L, ab_R, ao_I, ao_L, ao_R, gL_sL, gI_sI, gR_sR, gI_sL, gI_sR, gL_sI, gL_sR, gR_sI, gR_sL, sc_h H, sc_ao H, wp10 l10, wp7 l7, g10, g7, Int.toNat_natCast, rd_10 hv, rd_7 hv, lt, Int.reduceEq, t63, sc_h Hρ, sc_o Hρ, sc_ao Hρ, aj, e1, t31]
    · rw [c0]
      obtain ⟨τ, t31, sp⟩ := onO (vo v + 1) (Or.inr rfl)
      refine okc_o (τ := τ) ?_ sp
      simp only [e265_15, e265_57, e265_62, e265_77, e265_82, e265_88, e265_99, e265_117, e265_131, e265_151, e265_154, Option.getD_some, Option.bind_some, Option.toList_some, Option.toList_none, List.cons_append, List.nil_append, and_self, and_true, true_and, false_and, and_false, ite_self, not_true_eq_false, not_false_eq_true, reduceIte, Nat.reduceEqDiff, ab_I, ab_L, ab_R, ao_I, ao_L, ao_R, gL_sL, gI_sI, gR_sR, gI_sL, gI_sR, gL_sI, gL_sR, gR_sI, gR_sL, sc_h H, sc_ao H, wp10 l10, wp7 l7, g10, g7, Int.toNat_natCast, rd_10 hv, rd_7 hv, lt, Int.reduceEq, t63, sc_h Hρ, sc_o Hρ, sc_ao Hρ, aj, e1, t31]
    · rw [c0]
      obtain ⟨τ, t31, sp⟩ := onO (vo v) (Or.inl rfl)
      refine okc_o (τ := τ) ?_ sp
      simp only [e265_15, e265_57, e265_62, e265_77, e265_82, e265_88, e265_99, e265_117, e265_131, e265_151, e265_154, Option.getD_some, Option.bind_some, Option.toList_some, Option.toList_none, List.cons_append, List.nil_append, and_self, and_true, true_and, false_and, and_false, ite_self, not_true_eq_false, not_false_eq_true, reduceIte, Nat.reduceEqDiff, ab_I, ab_L, ab_R, ao_I, ao_L, ao_R, gL_sL, gI_sI, gR_sR, gI_sL, gI_sR, gL_sI, gL_sR, gR_sI, gR_sL, sc_h H, sc_ao H, wp10 l10, wp7 l7, g10, g7, Int.toNat_natCast, rd_10 hv, rd_7 hv, lt, Int.reduceEq, t63, sc_h Hρ, sc_o Hρ, sc_ao Hρ, aj, e1, t31]
/-! what is decided -/
theorem T266 : MM 266 [mI c] σ = some (some (mI (b2 (isSgn c))), σ) := by
  by_cases c1 : c = 96
  · rw [b2_yes (p := isSgn c) (Or.inl c1)]
    simp only [M266, e266_0, e266_26, Option.getD_some, Option.bind_some, Option.toList_some, Option.toList_none, List.cons_append, List.nil_append, and_self, and_true, true_and, false_and, and_false, ite_self, not_true_eq_false, not_false_eq_true, reduceIte, Nat.reduceEqDiff, ab_I, ab_L, ab_R, ao_I, ao_L, ao_R, gL_sL, gI_sI, gR_sR, gI_sL, gI_sR, gL_sI, gL_sR, gR_sI, gR_sL, c1]
  · by_cases c2 : c = 112
    · rw [b2_yes (p := isSgn c) (Or.inr (Or.inl c2))]
      simp only [M266, e266_0, e266_26, Option.getD_some, Option.bind_some, Option.toList_some, Option.toList_none, List.cons_append, List.nil_append, and_self, and_true, true_and, false_and, and_false, ite_self, not_true_eq_false, not_false_eq_true, reduceIte, Nat.reduceEqDiff, ab_I, ab_L, ab_R, ao_I, ao_L, ao_R, gL_sL, gI_sI, gR_sR, gI_sL, gI_sR, gL_sI, gL_sR, gR_sI, gR_sL, c2, Int.reduceEq]
    · by_cases c3 : c = 192
      · rw [b2_yes (p := isSgn c) (Or.inr (Or.inr (Or.inl c3)))]
        simp only [M266, e266_0, e266_26, Option.getD_some, Option.bind_some, Option.toList_some, Option.toList_none, List.cons_append, List.nil_append, and_self, and_true, true_and, false_and, and_false, ite_self, not_true_eq_false, not_false_eq_true, reduceIte, Nat.reduceEqDiff, ab_I, ab_L, ab_R, ao_I, ao_L, ao_R, gL_sL, gI_sI, gR_sR, gI_sL, gI_sR, gL_sI, gL_sR, gR_sI, gR_sL, c3, Int.reduceEq]
      · by_cases c4 : c = 208
        · rw [b2_yes (p := isSgn c) (Or.inr (Or.inr (Or.inr c4)))]
          simp only [M266, e266_0, e266_26, Option.getD_some, Option.bind_some, Option.toList_some, Option.toList_none, List.cons_append, List.nil_append, and_self, and_true, true_and, false_and, and_false, ite_self, not_true_eq_false, not_false_eq_true, reduceIte, Nat.reduceEqDiff, ab_I, ab_L, ab_R, ao_I, ao_L, ao_R, gL_sL, gI_sI, gR_sR, gI_sL, gI_sR, gL_sI, gL_sR, gR_sI, gR_sL, c4, Int.reduceEq]
        · rw [b2_no (p := isSgn c) (by omega)]
          simp only [M266, e266_0, Option.getD_some, Option.bind_some, Option.toList_some, Option.toList_none, List.cons_append, List.nil_append, and_self, and_true, true_and, false_and, and_false, ite_self, not_true_eq_false, not_false_eq_true, reduceIte, Nat.reduceEqDiff, ab_I, ab_L, ab_R, ao_I, ao_L, ao_R, gL_sL, gI_sI, gR_sR, gI_sL, gI_sR, gL_sI, gL_sR, gR_sI, gR_sL, c1, c2, c3, c4]
theorem T269 {a : B64} : MM 269 [mL a] σ = some (some (mL (a ^^^ cMin)), σ) := by
  simp only [M269, e269_0, iL_min]
theorem xor63 {m : Nat} (h : m < 2 ^ 63) : m ^^^ 2 ^ 63 = 2 ^ 63 + m := by
  apply Nat.eq_of_testBit_eq
  intro i
  rw [Nat.testBit_xor, Nat.testBit_two_pow]
  by_cases e : i = 63
  · subst e
    rw [Nat.testBit_two_pow_add_eq, decide_eq_true rfl, Nat.testBit_lt_two_pow h]
    rfl
  · rw [decide_eq_false (fun z => e z.symm), Bool.xor_false]
    by_cases l : i < 63
    · rw [Nat.testBit_two_pow_add_gt l]
    · have b64 : 2 ^ 64 ≤ 2 ^ i := Nat.pow_le_pow_right (by decide) (by omega)
      rw [Nat.testBit_lt_two_pow (Nat.lt_of_lt_of_le h (Nat.le_trans (by decide) b64)), Nat.testBit_lt_two_pow (Nat.lt_of_lt_of_le (by omega) b64)]
theorem xorM (z : B64) : (z ^^^ cMin).toNat = if z.toNat < 9223372036854775808 then z.toNat + 9223372036854775808 else z.toNat - 9223372036854775808 := by
  have e : cMin.toNat = 2 ^ 63 := by decide
  have lt := z.isLt
  rw [BitVec.toNat_xor, e]
  by_cases h : z.toNat < 9223372036854775808
  · rw [if_pos h, xor63 h]
    omega
  · rw [if_neg h]
    obtain ⟨m, hm⟩ : ∃ m, z.toNat = 2 ^ 63 + m := ⟨z.toNat - 2 ^ 63, by omega⟩
    have ml : m < 2 ^ 63 := by omega
    rw [hm, ← xor63 ml, Nat.xor_assoc, Nat.xor_self, Nat.xor_zero]
    have := xor63 ml
    omega
theorem flip_x (a b : B64) : (a ^^^ cMin < b ^^^ cMin) = (a.toInt < b.toInt) := by
  apply propext
  rw [BitVec.lt_def, xorM, xorM, BitVec.toInt_eq_toNat_cond, BitVec.toInt_eq_toNat_cond]
  have la := a.isLt
  have lb := b.isLt
  split <;> split <;> split <;> split <;> omega
theorem T271 {a b d e : B64} : MM 271 [mL a, mL b, mL d, mL e] σ = some (some (mI (if e < a then 1 else if ¬ d < b then 0 else -1)), σ) := by
  by_cases h1 : e < a
  · rw [if_pos h1]
    simp only [M271, e271_0, e271_6, Option.getD_some, Option.bind_some, Option.toList_some, Option.toList_none, List.cons_append, List.nil_append, and_self, and_true, true_and, false_and, and_false, ite_self, not_true_eq_false, not_false_eq_true, reduceIte, Nat.reduceEqDiff, ab_I, ab_L, ab_R, ao_I, ao_L, ao_R, gL_sL, gI_sI, gR_sR, gI_sL, gI_sR, gL_sI, gL_sR, gR_sI, gR_sL, T17, b2_0', eq_true h1]
  · rw [if_neg h1]
    by_cases h2 : d < b
    · rw [if_neg (not_not_intro h2)]
      simp only [M271, e271_0, e271_6, e271_19, Option.getD_some, Option.bind_some, Option.toList_some, Option.toList_none, List.cons_append, List.nil_append, and_self, and_true, true_and, false_and, and_false, ite_self, not_true_eq_false, not_false_eq_true, reduceIte, Nat.reduceEqDiff, ab_I, ab_L, ab_R, ao_I, ao_L, ao_R, gL_sL, gI_sI, gR_sR, gI_sL, gI_sR, gL_sI, gL_sR, gR_sI, gR_sL, T17, b2_0', b2_n', h1, h2]
    · rw [if_pos h2]
      simp only [M271, e271_0, e271_6, e271_19, Option.getD_some, Option.bind_some, Option.toList_some, Option.toList_none, List.cons_append, List.nil_append, and_self, and_true, true_and, false_and, and_false, ite_self, not_true_eq_false, not_false_eq_true, reduceIte, Nat.reduceEqDiff, ab_I, ab_L, ab_R, ao_I, ao_L, ao_R, gL_sL, gI_sI, gR_sR, gI_sL, gI_sR, gL_sI, gL_sR, gR_sI, gR_sL, T17, b2_0', b2_n', h1, h2]
theorem T272 {a b d e : B64} : MM 272 [mL a, mL b, mL d, mL e] σ = some (some (mI (if ¬ a < e then 1 else if b < d then 0 else -1)), σ) := by
  by_cases h1 : a < e
  · rw [if_neg (not_not_intro h1)]
    by_cases h2 : b < d
    · rw [if_pos h2]
      simp only [M272, e272_0, e272_6, e272_19, Option.getD_some, Option.bind_some, Option.toList_some, Option.toList_none, List.cons_append, List.nil_append, and_self, and_true, true_and, false_and, and_false, ite_self, not_true_eq_false, not_false_eq_true, reduceIte, Nat.reduceEqDiff, ab_I, ab_L, ab_R, ao_I, ao_L, ao_R, gL_sL, gI_sI, gR_sR, gI_sL, gI_sR, gL_sI, gL_sR, gR_sI, gR_sL, T17, b2_0', b2_n', h1, h2]
    · rw [if_neg h2]
      simp only [M272, e272_0, e272_6, e272_19, Option.getD_some, Option.bind_some, Option.toList_some, Option.toList_none, List.cons_append, List.nil_append, and_self, and_true, true_and, false_and, and_false, ite_self, not_true_eq_false, not_false_eq_true, reduceIte, Nat.reduceEqDiff, ab_I, ab_L, ab_R, ao_I, ao_L, ao_R, gL_sL, gI_sI, gR_sR, gI_sL, gI_sR, gL_sI, gL_sR, gR_sI, gR_sL, T17, b2_0', b2_n', h1, h2]
  · rw [if_pos h1]
    simp only [M272, e272_0, e272_6, Option.getD_some, Option.bind_some, Option.toList_some, Option.toList_none, List.cons_append, List.nil_append, and_self, and_true, true_and, false_and, and_false, ite_self, not_true_eq_false, not_false_eq_true, reduceIte, Nat.reduceEqDiff, ab_I, ab_L, ab_R, ao_I, ao_L, ao_R, gL_sL, gI_sI, gR_sR, gI_sL, gI_sR, gL_sI, gL_sR, gR_sI, gR_sL, T17, b2_n', h1]
theorem aoNr {k : Nat} (h : isNm σ k) : ao σ 2 (some k) = True := aoN h
theorem T270 {p q : Nat} (hp : isNm σ p) (hq : isNm σ q) : MM 270 [mR (some p), mR (some q)] σ = some (some (mI (equN (rC σ p) (rC σ q))), σ) := by
  have p0 : gL σ p 0 = jV (rC σ p) := rfl
  have p1 : gL σ p 1 = jM (rC σ p) := rfl
  have p2 : gL σ p 2 = jA (rC σ p) := rfl
  have p3 : gL σ p 3 = jB (rC σ p) := rfl
  have p4 : gL σ p 4 = jC (rC σ p) := rfl
  have p5 : gL σ p 5 = jD (rC σ p) := rfl
  have q0 : gL σ q 0 = jV (rC σ q) := rfl
  have q1 : gL σ q 1 = jM (rC σ q) := rfl
  have q2 : gL σ q 2 = jA (rC σ q) := rfl
  have q3 : gL σ q 3 = jB (rC σ q) := rfl
  have q4 : gL σ q 4 = jC (rC σ q) := rfl
  have q5 : gL σ q 5 = jD (rC σ q) := rfl
  generalize rC σ p = x at *
  generalize rC σ q = y at *
  have ap := aoN hp
  have aq := aoN hq
  unfold equN
  by_cases one : (isC x ∧ isC y) ∧ jV x = jV y
  · rw [if_pos one]
    have m1 : jM x = BitVec.ofNat 64 0 := one.1.1
    have m2 : jM y = BitVec.ofNat 64 0 := one.1.2
    have m3 := one.2
    simp only [M270, e270_0, Option.getD_some, Option.bind_some, Option.toList_some, Option.toList_none, List.cons_append, List.nil_append, and_self, and_true, true_and, false_and, and_false, ite_self, not_true_eq_false, not_false_eq_true, reduceIte, Nat.reduceEqDiff, ab_I, ab_L, ab_R, ao_I, ao_L, ao_R, gL_sL, gI_sI, gR_sR, gI_sL, gI_sR, gL_sI, gL_sR, gR_sI, gR_sL, ap, aq, p1, q1, p0, q0, m1, m2, m3]
  · rw [if_neg one]
    have s32 : MM 270 [mR (some p), mR (some q)] σ = RR (lkB tb270) (B270_32, [some (mR (some p)), some (mR (some q)), none, none], [], σ) := by
      by_cases m1 : jM x = BitVec.ofNat 64 0
      · by_cases m2 : jM y = BitVec.ofNat 64 0
        · have m3 : ¬ jV x = jV y := fun z => one ⟨⟨m1, m2⟩, z⟩
          simp only [M270, e270_0, Option.getD_some, Option.bind_some, Option.toList_some, Option.toList_none, List.cons_append, List.nil_append, and_self, and_true, true_and, false_and, and_false, ite_self, not_true_eq_false, not_false_eq_true, reduceIte, Nat.reduceEqDiff, ab_I, ab_L, ab_R, ao_I, ao_L, ao_R, gL_sL, gI_sI, gR_sR, gI_sL, gI_sR, gL_sI, gL_sR, gR_sI, gR_sL, ap, aq, p1, q1, p0, q0, eq_true m1, eq_true m2, m3]
        · simp only [M270, e270_0, Option.getD_some, Option.bind_some, Option.toList_some, Option.toList_none, List.cons_append, List.nil_append, and_self, and_true, true_and, false_and, and_false, ite_self, not_true_eq_false, not_false_eq_true, reduceIte, Nat.reduceEqDiff, ab_I, ab_L, ab_R, ao_I, ao_L, ao_R, gL_sL, gI_sI, gR_sR, gI_sL, gI_sR, gL_sI, gL_sR, gR_sI, gR_sL, ap, aq, p1, q1, eq_true m1, m2]
      · simp only [M270, e270_0, Option.getD_some, Option.bind_some, Option.toList_some, Option.toList_none, List.cons_append, List.nil_append, and_self, and_true, true_and, false_and, and_false, ite_self, not_true_eq_false, not_false_eq_true, reduceIte, Nat.reduceEqDiff, ab_I, ab_L, ab_R, ao_I, ao_L, ao_R, gL_sL, gI_sI, gR_sR, gI_sL, gI_sR, gL_sI, gL_sR, gR_sI, gR_sL, ap, aq, p1, m1]
    have t17a := T17 (x0 := jB x) (x2 := jA y) (σ := σ)
    have t17b := T17 (x0 := jB y) (x2 := jA x) (σ := σ)
    -- whether they are apart by their ranges
    have rest : ∀ v : Int, v = 0 ∨ v = 1 → RR (lkB tb270) (B270_69, [some (mR (some p)), some (mR (some q)), none, none], [mI v], σ) = some (some (mI (if v = 1 ∨ jB x < jA y ∨ jB y < jA x ∨ (jD x).toInt < (jC y).toInt ∨ (jD y).toInt < (jC x).toInt then 0 else -1)), σ) := fun v hv => by
      by_cases a1 : jB x < jA y
      · rw [if_pos (Or.inr (Or.inl a1))]
        rw [b2_yes a1] at t17a
        rcases hv with hv | hv
        · subst hv
          simp only [e270_69, e270_81, e270_122, e270_127, e270_136, Option.getD_some, Option.bind_some, Option.toList_some, Option.toList_none, List.cons_append, List.nil_append, and_self, and_true, true_and, false_and, and_false, ite_self, not_true_eq_false, not_false_eq_true, reduceIte, Nat.reduceEqDiff, ab_I, ab_L, ab_R, ao_I, ao_L, ao_R, gL_sL, gI_sI, gR_sR, gI_sL, gI_sR, gL_sI, gL_sR, gR_sI, gR_sL, ap, aq, p3, q2, t17a, oneI]
        · subst hv
          simp only [e270_69, e270_81, e270_122, e270_127, e270_136, Option.getD_some, Option.bind_some, Option.toList_some, Option.toList_none, List.cons_append, List.nil_append, and_self, and_true, true_and, false_and, and_false, ite_self, not_true_eq_false, not_false_eq_true, reduceIte, Nat.reduceEqDiff, ab_I, ab_L, ab_R, ao_I, ao_L, ao_R, gL_sL, gI_sI, gR_sR, gI_sL, gI_sR, gL_sI, gL_sR, gR_sI, gR_sL, ap, aq, p3, q2, t17a, oneI]
      · rw [b2_no a1] at t17a
        by_cases a2 : jB y < jA x
        · rw [if_pos (Or.inr (Or.inr (Or.inl a2)))]
          rw [b2_yes a2] at t17b
          rcases hv with hv | hv
          · subst hv
            simp only [e270_69, e270_81, e270_95, e270_122, e270_127, e270_136, Option.getD_some, Option.bind_some, Option.toList_some, Option.toList_none, List.cons_append, List.nil_append, and_self, and_true, true_and, false_and, and_false, ite_self, not_true_eq_false, not_false_eq_true, reduceIte, Nat.reduceEqDiff, ab_I, ab_L, ab_R, ao_I, ao_L, ao_R, gL_sL, gI_sI, gR_sR, gI_sL, gI_sR, gL_sI, gL_sR, gR_sI, gR_sL, ap, aq, p3, q2, q3, p2, t17a, t17b, oneI]
          · subst hv
            simp only [e270_69, e270_81, e270_95, e270_122, e270_127, e270_136, Option.getD_some, Option.bind_some, Option.toList_some, Option.toList_none, List.cons_append, List.nil_append, and_self, and_true, true_and, false_and, and_false, ite_self, not_true_eq_false, not_false_eq_true, reduceIte, Nat.reduceEqDiff, ab_I, ab_L, ab_R, ao_I, ao_L, ao_R, gL_sL, gI_sI, gR_sR, gI_sL, gI_sR, gL_sI, gL_sR, gR_sI, gR_sL, ap, aq, p3, q2, q3, p2, t17a, t17b, oneI]
        · rw [b2_no a2] at t17b
          by_cases a3 : (jD x).toInt < (jC y).toInt
          · rw [if_pos (Or.inr (Or.inr (Or.inr (Or.inl a3))))]
            rcases hv with hv | hv
            · subst hv
              simp only [e270_69, e270_81, e270_95, e270_122, e270_127, e270_136, Option.getD_some, Option.bind_some, Option.toList_some, Option.toList_none, List.cons_append, List.nil_append, and_self, and_true, true_and, false_and, and_false, ite_self, not_true_eq_false, not_false_eq_true, reduceIte, Nat.reduceEqDiff, ab_I, ab_L, ab_R, ao_I, ao_L, ao_R, gL_sL, gI_sI, gR_sR, gI_sL, gI_sR, gL_sI, gL_sR, gR_sI, gR_sL, ap, aq, p3, q2, q3, p2, t17a, t17b, p5, q4, eq_true a3, oneI]
            · subst hv
              simp only [e270_69, e270_81, e270_95, e270_122, e270_127, e270_136, Option.getD_some, Option.bind_some, Option.toList_some, Option.toList_none, List.cons_append, List.nil_append, and_self, and_true, true_and, false_and, and_false, ite_self, not_true_eq_false, not_false_eq_true, reduceIte, Nat.reduceEqDiff, ab_I, ab_L, ab_R, ao_I, ao_L, ao_R, gL_sL, gI_sI, gR_sR, gI_sL, gI_sR, gL_sI, gL_sR, gR_sI, gR_sL, ap, aq, p3, q2, q3, p2, t17a, t17b, p5, q4, eq_true a3, oneI]
          · by_cases a4 : (jC x).toInt ≤ (jD y).toInt
            · have a4' : ¬ (jD y).toInt < (jC x).toInt := by omega
              rcases hv with hv | hv
              · subst hv
                rw [if_neg (fun z => by
                  rcases z with z | z | z | z | z
                  · omega
                  · exact a1 z
                  · exact a2 z
                  · exact a3 z
                  · exact a4' z)]
                simp only [e270_69, e270_81, e270_95, e270_127, e270_136, Option.getD_some, Option.bind_some, Option.toList_some, Option.toList_none, List.cons_append, List.nil_append, and_self, and_true, true_and, false_and, and_false, ite_self, not_true_eq_false, not_false_eq_true, reduceIte, Nat.reduceEqDiff, ab_I, ab_L, ab_R, ao_I, ao_L, ao_R, gL_sL, gI_sI, gR_sR, gI_sL, gI_sR, gL_sI, gL_sR, gR_sI, gR_sL, ap, aq, p3, q2, q3, p2, t17a, t17b, p5, q4, a3, p4, q5, eq_true a4]
              · subst hv
                rw [if_pos (Or.inl rfl)]
                simp only [e270_69, e270_81, e270_95, e270_127, e270_136, Option.getD_some, Option.bind_some, Option.toList_some, Option.toList_none, List.cons_append, List.nil_append, and_self, and_true, true_and, false_and, and_false, ite_self, not_true_eq_false, not_false_eq_true, reduceIte, Nat.reduceEqDiff, ab_I, ab_L, ab_R, ao_I, ao_L, ao_R, gL_sL, gI_sI, gR_sR, gI_sL, gI_sR, gL_sI, gL_sR, gR_sI, gR_sL, ap, aq, p3, q2, q3, p2, t17a, t17b, p5, q4, a3, p4, q5, eq_true a4, oneI]
            · rw [if_pos (Or.inr (Or.inr (Or.inr (Or.inr (by omega)))))]
              rcases hv with hv | hv
              · subst hv
                simp only [e270_69, e270_81, e270_95, e270_122, e270_127, e270_136, Option.getD_some, Option.bind_some, Option.toList_some, Option.toList_none, List.cons_append, List.nil_append, and_self, and_true, true_and, false_and, and_false, ite_self, not_true_eq_false, not_false_eq_true, reduceIte, Nat.reduceEqDiff, ab_I, ab_L, ab_R, ao_I, ao_L, ao_R, gL_sL, gI_sI, gR_sR, gI_sL, gI_sR, gL_sI, gL_sR, gR_sI, gR_sL, ap, aq, p3, q2, q3, p2, t17a, t17b, p5, q4, a3, p4, q5, eq_false a4, oneI]
              · subst hv
                simp only [e270_69, e270_81, e270_95, e270_122, e270_127, e270_136, Option.getD_some, Option.bind_some, Option.toList_some, Option.toList_none, List.cons_append, List.nil_append, and_self, and_true, true_and, false_and, and_false, ite_self, not_true_eq_false, not_false_eq_true, reduceIte, Nat.reduceEqDiff, ab_I, ab_L, ab_R, ao_I, ao_L, ao_R, gL_sL, gI_sI, gR_sR, gI_sL, gI_sR, gL_sI, gL_sR, gR_sI, gR_sL, ap, aq, p3, q2, q3, p2, t17a, t17b, p5, q4, a3, p4, q5, eq_false a4, oneI]
    rw [s32]
    by_cases b : ((jV x ^^^ jV y) &&& ~~~ (jM x)) &&& ~~~ (jM y) = 0#64
    · have r := rest 0 (Or.inl rfl)
      have e : apaN x y = (((0 : Int) = 1) ∨ jB x < jA y ∨ jB y < jA x ∨ (jD x).toInt < (jC y).toInt ∨ (jD y).toInt < (jC x).toInt) := by
        apply propext
        constructor
        · rintro (z | z)
          · exact absurd b z
          · exact Or.inr z
        · rintro (z | z)
          · exact absurd z (by decide)
          · exact Or.inr z
      simp only [e]
      simp only [e270_32, Option.getD_some, Option.bind_some, Option.toList_some, Option.toList_none, List.cons_append, List.nil_append, and_self, and_true, true_and, false_and, and_false, ite_self, not_true_eq_false, not_false_eq_true, reduceIte, Nat.reduceEqDiff, ab_I, ab_L, ab_R, ao_I, ao_L, ao_R, gL_sL, gI_sI, gR_sR, gI_sL, gI_sR, gL_sI, gL_sR, gR_sI, gR_sL, ap, aq, p0, p1, q0, q1, iL_m1, xor_all, eq_true b]
      exact r
    · have r := rest 1 (Or.inr rfl)
      rw [if_pos (Or.inl rfl)] at r
      rw [if_pos (show apaN x y from Or.inl b)]
      simp only [e270_32, Option.getD_some, Option.bind_some, Option.toList_some, Option.toList_none, List.cons_append, List.nil_append, and_self, and_true, true_and, false_and, and_false, ite_self, not_true_eq_false, not_false_eq_true, reduceIte, Nat.reduceEqDiff, ab_I, ab_L, ab_R, ao_I, ao_L, ao_R, gL_sL, gI_sI, gR_sR, gI_sL, gI_sR, gL_sI, gL_sR, gR_sI, gR_sL, ap, aq, p0, p1, q0, q1, iL_m1, xor_all, eq_false b]
      exact r
theorem equN_n (x y : N6) : equN x y = 1 ∨ equN x y = 0 ∨ equN x y = -1 := equN_r x y
theorem dx_16 : decX 16 x y = equN x y := by simp only [decX, Int.reduceEq, if_true, if_false, reduceIte]
theorem dx_80 : decX 80 x y = (if equN x y < 0 then equN x y else 1 - equN x y) := by simp only [decX, Int.reduceEq, if_true, if_false, reduceIte]
theorem dx_64 : decX 64 x y = (if ¬ jV x &&& jV y = 0#64 then 1 else if (jV x ||| jM x) &&& (jV y ||| jM y) = 0#64 then 0 else -1) := by simp only [decX, Int.reduceEq, if_true, if_false, reduceIte]
theorem dx_32 : decX 32 x y = aboN x y := by simp only [decX, Int.reduceEq, if_true, if_false, reduceIte]
theorem dx_48 : decX 48 x y = nblN x y := by simp only [decX, Int.reduceEq, if_true, if_false, reduceIte]
theorem dx_160 : decX 160 x y = aboN y x := by simp only [decX, Int.reduceEq, if_true, if_false, reduceIte]
theorem dx_176 : decX 176 x y = nblN y x := by simp only [decX, Int.reduceEq, if_true, if_false, reduceIte]
theorem dx_96 : decX 96 x y = aboS x y := by simp only [decX, Int.reduceEq, if_true, if_false, reduceIte]
theorem dx_112 : decX 112 x y = nblS x y := by simp only [decX, Int.reduceEq, if_true, if_false, reduceIte]
theorem dx_192 : decX 192 x y = aboS y x := by simp only [decX, Int.reduceEq, if_true, if_false, reduceIte]
theorem dx_208 : decX 208 x y = nblS y x := by simp only [decX, Int.reduceEq, if_true, if_false, reduceIte]
set_option maxHeartbeats 4000000 in
theorem T268 {p q : Nat} (hc : isCmp c) (hp : isNm σ p) (hq : isNm σ q) : MM 268 [mI c, mR (some p), mR (some q)] σ = some (some (mI (decX c (rC σ p) (rC σ q))), σ) := by
  have p0 : gL σ p 0 = jV (rC σ p) := rfl
  have p1 : gL σ p 1 = jM (rC σ p) := rfl
  have p2 : gL σ p 2 = jA (rC σ p) := rfl
  have p3 : gL σ p 3 = jB (rC σ p) := rfl
  have p4 : gL σ p 4 = jC (rC σ p) := rfl
  have p5 : gL σ p 5 = jD (rC σ p) := rfl
  have q0 : gL σ q 0 = jV (rC σ q) := rfl
  have q1 : gL σ q 1 = jM (rC σ q) := rfl
  have q2 : gL σ q 2 = jA (rC σ q) := rfl
  have q3 : gL σ q 3 = jB (rC σ q) := rfl
  have q4 : gL σ q 4 = jC (rC σ q) := rfl
  have q5 : gL σ q 5 = jD (rC σ q) := rfl
  have t70 := T270 hp hq
  generalize rC σ p = x at *
  generalize rC σ q = y at *
  have ap := aoN hp
  have aq := aoN hq
  have le : ∀ a b : B64, (¬ a.toInt < b.toInt) = (b.toInt ≤ a.toInt) := fun a b => by
    apply propext
    omega
  rcases hc with rfl | rfl | rfl | rfl | rfl | rfl | rfl | rfl | rfl | rfl | rfl
  · rw [dx_16]
    simp only [M268, e268_0, e268_97, Option.getD_some, Option.bind_some, Option.toList_some, Option.toList_none, List.cons_append, List.nil_append, and_self, and_true, true_and, false_and, and_false, ite_self, not_true_eq_false, not_false_eq_true, reduceIte, Nat.reduceEqDiff, ab_I, ab_L, ab_R, ao_I, ao_L, ao_R, gL_sL, gI_sI, gR_sR, gI_sL, gI_sR, gL_sI, gL_sR, gR_sI, gR_sL, t70]
  · rw [dx_32]
    unfold aboN
    simp only [M268, e268_0, e268_184, Option.getD_some, Option.bind_some, Option.toList_some, Option.toList_none, List.cons_append, List.nil_append, and_self, and_true, true_and, false_and, and_false, ite_self, not_true_eq_false, not_false_eq_true, reduceIte, Nat.reduceEqDiff, ab_I, ab_L, ab_R, ao_I, ao_L, ao_R, gL_sL, gI_sI, gR_sR, gI_sL, gI_sR, gL_sI, gL_sR, gR_sI, gR_sL, Int.reduceEq, ap, aq, p2, p3, q2, q3, T271] <;> rfl
  · rw [dx_48]
    unfold nblN
    simp only [M268, e268_0, e268_204, Option.getD_some, Option.bind_some, Option.toList_some, Option.toList_none, List.cons_append, List.nil_append, and_self, and_true, true_and, false_and, and_false, ite_self, not_true_eq_false, not_false_eq_true, reduceIte, Nat.reduceEqDiff, ab_I, ab_L, ab_R, ao_I, ao_L, ao_R, gL_sL, gI_sI, gR_sR, gI_sL, gI_sR, gL_sI, gL_sR, gR_sI, gR_sL, Int.reduceEq, ap, aq, p2, p3, q2, q3, T272] <;> rfl
  · rw [dx_64]
    by_cases h1 : jV x &&& jV y = 0#64
    · rw [if_neg (not_not_intro h1)]
      by_cases h2 : (jV x ||| jM x) &&& (jV y ||| jM y) = 0#64
      · rw [if_pos h2]
        simp only [M268, e268_0, Option.getD_some, Option.bind_some, Option.toList_some, Option.toList_none, List.cons_append, List.nil_append, and_self, and_true, true_and, false_and, and_false, ite_self, not_true_eq_false, not_false_eq_true, reduceIte, Nat.reduceEqDiff, ab_I, ab_L, ab_R, ao_I, ao_L, ao_R, gL_sL, gI_sI, gR_sR, gI_sL, gI_sR, gL_sI, gL_sR, gR_sI, gR_sL, Int.reduceEq, ap, aq, p0, p1, q0, q1, eq_true h1, eq_true h2]
      · rw [if_neg h2]
        simp only [M268, e268_0, Option.getD_some, Option.bind_some, Option.toList_some, Option.toList_none, List.cons_append, List.nil_append, and_self, and_true, true_and, false_and, and_false, ite_self, not_true_eq_false, not_false_eq_true, reduceIte, Nat.reduceEqDiff, ab_I, ab_L, ab_R, ao_I, ao_L, ao_R, gL_sL, gI_sI, gR_sR, gI_sL, gI_sR, gL_sI, gL_sR, gR_sI, gR_sL, Int.reduceEq, ap, aq, p0, p1, q0, q1, eq_true h1, eq_false h2]
    · rw [if_pos h1]
      simp only [M268, e268_0, Option.getD_some, Option.bind_some, Option.toList_some, Option.toList_none, List.cons_append, List.nil_append, and_self, and_true, true_and, false_and, and_false, ite_self, not_true_eq_false, not_false_eq_true, reduceIte, Nat.reduceEqDiff, ab_I, ab_L, ab_R, ao_I, ao_L, ao_R, gL_sL, gI_sI, gR_sR, gI_sL, gI_sR, gL_sI, gL_sR, gR_sI, gR_sL, Int.reduceEq, ap, aq, p0, p1, q0, q1, eq_false h1]
  · rw [dx_80]
    rcases equN_r x y with e | e | e
    · rw [e] at t70 ⊢
      simp only [M268, e268_0, e268_103, Option.getD_some, Option.bind_some, Option.toList_some, Option.toList_none, List.cons_append, List.nil_append, and_self, and_true, true_and, false_and, and_false, ite_self, not_true_eq_false, not_false_eq_true, reduceIte, Nat.reduceEqDiff, ab_I, ab_L, ab_R, ao_I, ao_L, ao_R, gL_sL, gI_sI, gR_sR, gI_sL, gI_sR, gL_sI, gL_sR, gR_sI, gR_sL, Int.reduceEq, t70]
      rfl
    · rw [e] at t70 ⊢
      simp only [M268, e268_0, e268_103, Option.getD_some, Option.bind_some, Option.toList_some, Option.toList_none, List.cons_append, List.nil_append, and_self, and_true, true_and, false_and, and_false, ite_self, not_true_eq_false, not_false_eq_true, reduceIte, Nat.reduceEqDiff, ab_I, ab_L, ab_R, ao_I, ao_L, ao_R, gL_sL, gI_sI, gR_sR, gI_sL, gI_sR, gL_sI, gL_sR, gR_sI, gR_sL, Int.reduceEq, t70]
      rfl
    · rw [e] at t70 ⊢
      simp only [M268, e268_0, e268_103, Option.getD_some, Option.bind_some, Option.toList_some, Option.toList_none, List.cons_append, List.nil_append, and_self, and_true, true_and, false_and, and_false, ite_self, not_true_eq_false, not_false_eq_true, reduceIte, Nat.reduceEqDiff, ab_I, ab_L, ab_R, ao_I, ao_L, ao_R, gL_sL, gI_sI, gR_sR, gI_sL, gI_sR, gL_sI, gL_sR, gR_sI, gR_sL, Int.reduceEq, t70]
      rfl
  · rw [dx_96]
    unfold aboS
    simp only [M268, e268_0, e268_252, e268_259, e268_266, e268_273, e268_276, Option.getD_some, Option.bind_some, Option.toList_some, Option.toList_none, List.cons_append, List.nil_append, and_self, and_true, true_and, false_and, and_false, ite_self, not_true_eq_false, not_false_eq_true, reduceIte, Nat.reduceEqDiff, ab_I, ab_L, ab_R, ao_I, ao_L, ao_R, gL_sL, gI_sI, gR_sR, gI_sL, gI_sR, gL_sI, gL_sR, gR_sI, gR_sL, Int.reduceEq, ap, aq, p4, p5, q4, q5, T269, T271, flip_x, le] <;> rfl
  · rw [dx_112]
    unfold nblS
    simp only [M268, e268_0, e268_284, e268_291, e268_298, e268_305, e268_308, Option.getD_some, Option.bind_some, Option.toList_some, Option.toList_none, List.cons_append, List.nil_append, and_self, and_true, true_and, false_and, and_false, ite_self, not_true_eq_false, not_false_eq_true, reduceIte, Nat.reduceEqDiff, ab_I, ab_L, ab_R, ao_I, ao_L, ao_R, gL_sL, gI_sI, gR_sR, gI_sL, gI_sR, gL_sI, gL_sR, gR_sI, gR_sL, Int.reduceEq, ap, aq, p4, p5, q4, q5, T269, T272, flip_x, le] <;> rfl
  · rw [dx_160]
    unfold aboN
    simp only [M268, e268_0, e268_224, Option.getD_some, Option.bind_some, Option.toList_some, Option.toList_none, List.cons_append, List.nil_append, and_self, and_true, true_and, false_and, and_false, ite_self, not_true_eq_false, not_false_eq_true, reduceIte, Nat.reduceEqDiff, ab_I, ab_L, ab_R, ao_I, ao_L, ao_R, gL_sL, gI_sI, gR_sR, gI_sL, gI_sR, gL_sI, gL_sR, gR_sI, gR_sL, Int.reduceEq, ap, aq, p2, p3, q2, q3, T271] <;> rfl
  · rw [dx_176]
    unfold nblN
    simp only [M268, e268_0, e268_244, Option.getD_some, Option.bind_some, Option.toList_some, Option.toList_none, List.cons_append, List.nil_append, and_self, and_true, true_and, false_and, and_false, ite_self, not_true_eq_false, not_false_eq_true, reduceIte, Nat.reduceEqDiff, ab_I, ab_L, ab_R, ao_I, ao_L, ao_R, gL_sL, gI_sI, gR_sR, gI_sL, gI_sR, gL_sI, gL_sR, gR_sI, gR_sL, Int.reduceEq, ap, aq, p2, p3, q2, q3, T272] <;> rfl
  · rw [dx_192]
    unfold aboS
    simp only [M268, e268_0, e268_316, e268_323, e268_330, e268_337, e268_340, Option.getD_some, Option.bind_some, Option.toList_some, Option.toList_none, List.cons_append, List.nil_append, and_self, and_true, true_and, false_and, and_false, ite_self, not_true_eq_false, not_false_eq_true, reduceIte, Nat.reduceEqDiff, ab_I, ab_L, ab_R, ao_I, ao_L, ao_R, gL_sL, gI_sI, gR_sR, gI_sL, gI_sR, gL_sI, gL_sR, gR_sI, gR_sL, Int.reduceEq, ap, aq, p4, p5, q4, q5, T269, T271, flip_x, le] <;> rfl
  · rw [dx_208]
    unfold nblS
    simp only [M268, e268_0, e268_348, e268_355, e268_362, e268_369, e268_372, Option.getD_some, Option.bind_some, Option.toList_some, Option.toList_none, List.cons_append, List.nil_append, and_self, and_true, true_and, false_and, and_false, ite_self, not_true_eq_false, not_false_eq_true, reduceIte, Nat.reduceEqDiff, ab_I, ab_L, ab_R, ao_I, ao_L, ao_R, gL_sL, gI_sI, gR_sR, gI_sL, gI_sR, gL_sI, gL_sR, gR_sI, gR_sL, Int.reduceEq, ap, aq, p4, p5, q4, q5, T269, T272, flip_x, le] <;> rfl
theorem T273 (g7 : gI σ 40 7 = fOp w) (hc : isCmp (fC w)) (h6 : fL w = 6) (ex : rC σ 45 = cutT x) (ey : rC σ 46 = cutT y) : MM 273 [mR (some 40)] σ = some (some (mI (if isC (cutT x) ∧ isC (cutT y) then (if cmpB (fC w) false (jV (cutT x)) (jV (cutT y)) = true then 1 else 0) else -1)), σ) := by
  have f1 := (fld_rng w).1
  have m1 : gL σ 45 1 = jM (cutT x) := by rw [← ex]; rfl
  have m2 : gL σ 46 1 = jM (cutT y) := by rw [← ey]; rfl
  have v1 : gL σ 45 0 = jV (cutT x) := by rw [← ex]; rfl
  have v2 : gL σ 46 0 = jV (cutT y) := by rw [← ey]; rfl
  have t69a := T69 (σ := σ) (k := 45) (kc_45 σ)
  have t69b := T69 (σ := σ) (k := 46) (kc_46 σ)
  rw [m1] at t69a
  rw [m2] at t69b
  have t26 := T26 (op := fOp w) (a := jV (cutT x)) (b := jV (cutT y)) (σ := σ) f1.1 f1.2 hc
  have e5 : decide (fOp w % 8 = 5) = false := decide_eq_false (by have h6 : fOp w % 8 = 6 := h6; omega)
  have cw : cmpW (fOp w / 16 * 16) false (jV (cutT x)) (jV (cutT y)) = cmpB (fC w) false (jV (cutT x)) (jV (cutT y)) := by
    unfold cmpW
    rw [if_neg (by decide), cut_m, cut_m]
    rfl
  rw [e5, cw] at t26
  by_cases c1 : jM (cutT x) = 0#64
  · rw [b2_yes c1] at t69a
    by_cases c2 : jM (cutT y) = 0#64
    · rw [b2_yes c2] at t69b
      rw [if_pos ⟨c1, c2⟩]
      by_cases b : cmpB (fC w) false (jV (cutT x)) (jV (cutT y)) = true
      · rw [if_pos b] at t26 ⊢
        simp only [M273, e273_0, e273_7, e273_17, e273_43, Option.getD_some, Option.bind_some, Option.toList_some, Option.toList_none, List.cons_append, List.nil_append, and_self, and_true, true_and, false_and, and_false, ite_self, not_true_eq_false, not_false_eq_true, reduceIte, Nat.reduceEqDiff, ab_I, ab_L, ab_R, ao_I, ao_L, ao_R, gL_sL, gI_sI, gR_sR, gI_sL, gI_sR, gL_sI, gL_sR, gR_sI, gR_sL, t69a, t69b, oneI, g7, v1, v2, t26]
      · rw [if_neg b] at t26 ⊢
        simp only [M273, e273_0, e273_7, e273_17, e273_43, Option.getD_some, Option.bind_some, Option.toList_some, Option.toList_none, List.cons_append, List.nil_append, and_self, and_true, true_and, false_and, and_false, ite_self, not_true_eq_false, not_false_eq_true, reduceIte, Nat.reduceEqDiff, ab_I, ab_L, ab_R, ao_I, ao_L, ao_R, gL_sL, gI_sI, gR_sR, gI_sL, gI_sR, gL_sI, gL_sR, gR_sI, gR_sL, t69a, t69b, oneI, g7, v1, v2, t26]
    · rw [b2_no c2] at t69b
      rw [if_neg (fun z => c2 z.2)]
      simp only [M273, e273_0, e273_7, e273_17, Option.getD_some, Option.bind_some, Option.toList_some, Option.toList_none, List.cons_append, List.nil_append, and_self, and_true, true_and, false_and, and_false, ite_self, not_true_eq_false, not_false_eq_true, reduceIte, Nat.reduceEqDiff, ab_I, ab_L, ab_R, ao_I, ao_L, ao_R, gL_sL, gI_sI, gR_sR, gI_sL, gI_sR, gL_sI, gL_sR, gR_sI, gR_sL, t69a, t69b, oneI]
  · rw [b2_no c1] at t69a
    rw [if_neg (fun z => c1 z.1)]
    simp only [M273, e273_0, e273_7, Option.getD_some, Option.bind_some, Option.toList_some, Option.toList_none, List.cons_append, List.nil_append, and_self, and_true, true_and, false_and, and_false, ite_self, not_true_eq_false, not_false_eq_true, reduceIte, Nat.reduceEqDiff, ab_I, ab_L, ab_R, ao_I, ao_L, ao_R, gL_sL, gI_sI, gR_sR, gI_sL, gI_sR, gL_sI, gL_sR, gR_sI, gR_sL, t69a]
end CJMP
-- FILE 90.cnar
/-! ===== the class's NARROWED: what is so of numbers ===== -/
section CNA
variable {x y n : N6} {c : Int} {d : B64} {is : Bool}
theorem bmx_l (a b : B64) : a.toNat ≤ (bmax a b).toNat := by rw [bmax_toNat]; omega
theorem bmn_l (a b : B64) : (bmin a b).toNat ≤ a.toNat := by rw [bmin_toNat]; omega
theorem smx_l (a b : B64) : a.toInt ≤ (smax a b).toInt := by rw [smax_toInt]; omega
theorem smn_l (a b : B64) : (smin a b).toInt ≤ a.toInt := by rw [smin_toInt]; omega
theorem by_A (n : N6) : (jA n).toNat ≤ (jA (byB n)).toNat := bmx_l _ _
theorem by_B (n : N6) : (jB (byB n)).toNat ≤ (jB n).toNat := bmn_l _ _
theorem by_C (n : N6) : (jC n).toInt ≤ (jC (byB n)).toInt := smx_l _ _
theorem by_D (n : N6) : (jD (byB n)).toInt ≤ (jD n).toInt := smn_l _ _
theorem t1_A (n : N6) : (jA n).toNat ≤ (jA (td1 n)).toNat := by
  unfold td1
  split
  · exact bmx_l _ _
  · exact Nat.le_refl _
theorem t1_B (n : N6) : (jB (td1 n)).toNat ≤ (jB n).toNat := by
  unfold td1
  split
  · exact bmn_l _ _
  · exact Nat.le_refl _
theorem t1_C (n : N6) : jC (td1 n) = jC n ∧ jD (td1 n) = jD n := by
  unfold td1
  split <;> exact ⟨rfl, rfl⟩
theorem t2_A (n : N6) : jA (td2 n) = jA n ∧ jB (td2 n) = jB n := by
  unfold td2
  split <;> exact ⟨rfl, rfl⟩
theorem t2_C (n : N6) : (jC n).toInt ≤ (jC (td2 n)).toInt ∧ (jD (td2 n)).toInt ≤ (jD n).toInt := by
  unfold td2
  split
  · exact ⟨smx_l _ _, smn_l _ _⟩
  · exact ⟨Int.le_refl _, Int.le_refl _⟩
theorem t_A (n : N6) : (jA n).toNat ≤ (jA (td2 (td1 (byB n)))).toNat := by
  rw [(t2_A _).1]
  exact Nat.le_trans (by_A n) (t1_A _)
theorem t_B (n : N6) : (jB (td2 (td1 (byB n)))).toNat ≤ (jB n).toNat := by
  rw [(t2_A _).2]
  exact Nat.le_trans (t1_B _) (by_B n)
theorem td_A (n : N6) : (jA n).toNat ≤ (jA (tdN n)).toNat := by
  unfold tdN
  split
  · exact Nat.le_trans (t_A n) (by_A (td3 _))
  · exact t_A n
theorem td_B (n : N6) : (jB (tdN n)).toNat ≤ (jB n).toNat := by
  unfold tdN
  split
  · exact Nat.le_trans (by_B (td3 _)) (t_B n)
  · exact t_B n
/-- what is not NOTHING has ranges -/
theorem tdG_AB (h : tdG n) : (jA n).toNat ≤ (jB n).toNat := by
  obtain ⟨-, h, -⟩ := h
  rw [BitVec.lt_def] at h
  have a1 := t_A n
  have a2 := by_A (td3 (td2 (td1 (byB n))))
  have b1 := t_B n
  have b2' := by_B (td3 (td2 (td1 (byB n))))
  have e1 : jA (td3 (td2 (td1 (byB n)))) = jA (td2 (td1 (byB n))) := rfl
  have e2 : jB (td3 (td2 (td1 (byB n)))) = jB (td2 (td1 (byB n))) := rfl
  rw [e1] at a2
  rw [e2] at b2'
  omega
theorem tdG_cst (c : B64) : tdG (cstN c) := by
  have x0 : c ||| 0#64 = c := by simp
  have x1 : ∀ d : B64, 0#64 &&& d = 0#64 := fun d => by simp
  have bm : bmax c c = c := by unfold bmax; split <;> rfl
  have bn : bmin c c = c := by unfold bmin; split <;> rfl
  have sm : smax c c = c := by unfold smax; split <;> rfl
  have sn : smin c c = c := by unfold smin; split <;> rfl
  have b : byB (cstN c) = cstN c := by
    show (c, 0#64, bmax c c, bmin c (c ||| 0#64), smax c (c ||| (0#64 &&& cMin)), smin c (c ||| (0#64 &&& cMax))) = (c, 0#64, c, c, c, c)
    rw [x1, x1, x0, bm, bn, sm, sn]
  have t1 : td1 (cstN c) = cstN c := by
    show (if 0 ≤ c.toInt ∨ c.toInt < 0 then (c, 0#64, bmax c c, bmin c c, c, c) else (c, 0#64, c, c, c, c)) = (c, 0#64, c, c, c, c)
    rw [bm, bn]
    split <;> rfl
  have t2 : td2 (cstN c) = cstN c := by
    show (if (c.toInt < 0 ↔ c.toInt < 0) then (c, 0#64, c, c, smax c c, smin c c) else (c, 0#64, c, c, c, c)) = (c, 0#64, c, c, c, c)
    rw [sm, sn]
    split <;> rfl
  have t3 : td3 (cstN c) = cstN c := by
    show (c ||| (c &&& ~~~ sprd (c ^^^ c)), 0#64 &&& sprd (c ^^^ c), c, c, c, c) = (c, 0#64, c, c, c, c)
    rw [x1]
    have : c ||| (c &&& ~~~ sprd (c ^^^ c)) = c := by
      apply BitVec.eq_of_getLsbD_eq
      intro i hi
      simp only [BitVec.getLsbD_or, BitVec.getLsbD_and]
      cases c.getLsbD i <;> simp
    rw [this]
  unfold tdG
  rw [b, t1, t2, t3, b]
  refine ⟨?_, ?_, ?_⟩
  · show ((c ^^^ c) &&& ~~~ sprd (c ^^^ c)) &&& ~~~ 0#64 = 0#64
    rw [BitVec.xor_self]
    simp
  · show ¬ c < c
    rw [BitVec.lt_def]
    omega
  · show ¬ c.toInt < c.toInt
    omega
/-- not decided against a constant -/
def ndX (c : Int) (x : N6) (d : B64) : Prop :=
  (c = 32 ∨ c = 176 → (jA x).toNat ≤ d.toNat ∧ d.toNat < (jB x).toNat) ∧ (c = 48 ∨ c = 160 → (jA x).toNat < d.toNat ∧ d.toNat ≤ (jB x).toNat)
  ∧ (c = 96 ∨ c = 208 → (jC x).toInt ≤ d.toInt ∧ d.toInt < (jD x).toInt) ∧ (c = 112 ∨ c = 192 → (jC x).toInt < d.toInt ∧ d.toInt ≤ (jD x).toInt)
theorem nd_w (h : decX c x (cstN d) = -1) : ndX c x d := by
  have ca : jA (cstN d) = d := rfl
  have cb : jB (cstN d) = d := rfl
  have cc : jC (cstN d) = d := rfl
  have cd : jD (cstN d) = d := rfl
  refine ⟨fun z => ?_, fun z => ?_, fun z => ?_, fun z => ?_⟩
  · rcases z with rfl | rfl
    · have h : (if jB (cstN d) < jA x then (1 : Int) else if ¬ jA (cstN d) < jB x then 0 else -1) = -1 := h
      rw [ca, cb, BitVec.lt_def, BitVec.lt_def] at h
      split at h
      · exact absurd h (by decide)
      · split at h
        · exact absurd h (by decide)
        · omega
    · have h : (if ¬ jA (cstN d) < jB x then (1 : Int) else if jB (cstN d) < jA x then 0 else -1) = -1 := h
      rw [ca, cb, BitVec.lt_def, BitVec.lt_def] at h
      split at h
      · exact absurd h (by decide)
      · split at h
        · exact absurd h (by decide)
        · omega
  · rcases z with rfl | rfl
    · have h : (if ¬ jA x < jB (cstN d) then (1 : Int) else if jB x < jA (cstN d) then 0 else -1) = -1 := h
      rw [ca, cb, BitVec.lt_def, BitVec.lt_def] at h
      split at h
      · exact absurd h (by decide)
      · split at h
        · exact absurd h (by decide)
        · omega
    · have h : (if jB x < jA (cstN d) then (1 : Int) else if ¬ jA x < jB (cstN d) then 0 else -1) = -1 := h
      rw [ca, cb, BitVec.lt_def, BitVec.lt_def] at h
      split at h
      · exact absurd h (by decide)
      · split at h
        · exact absurd h (by decide)
        · omega
  · rcases z with rfl | rfl
    · have h : (if (jD (cstN d)).toInt < (jC x).toInt then (1 : Int) else if (jD x).toInt ≤ (jC (cstN d)).toInt then 0 else -1) = -1 := h
      rw [cc, cd] at h
      split at h
      · exact absurd h (by decide)
      · split at h
        · exact absurd h (by decide)
        · omega
    · have h : (if (jD x).toInt ≤ (jC (cstN d)).toInt then (1 : Int) else if (jD (cstN d)).toInt < (jC x).toInt then 0 else -1) = -1 := h
      rw [cc, cd] at h
      split at h
      · exact absurd h (by decide)
      · split at h
        · exact absurd h (by decide)
        · omega
  · rcases z with rfl | rfl
    · have h : (if (jD (cstN d)).toInt ≤ (jC x).toInt then (1 : Int) else if (jD x).toInt < (jC (cstN d)).toInt then 0 else -1) = -1 := h
      rw [cc, cd] at h
      split at h
      · exact absurd h (by decide)
      · split at h
        · exact absurd h (by decide)
        · omega
    · have h : (if (jD x).toInt < (jC (cstN d)).toInt then (1 : Int) else if (jD (cstN d)).toInt ≤ (jC x).toInt then 0 else -1) = -1 := h
      rw [cc, cd] at h
      split at h
      · exact absurd h (by decide)
      · split at h
        · exact absurd h (by decide)
        · omega
theorem cut_A (hA : (jA x).toNat < 4294967296) (hB : (jB x).toNat < 4294967296) : (jA x).toNat ≤ (jA (cutT x)).toNat ∧ (jB (cutT x)).toNat ≤ (jB x).toNat := by
  have s0 : ∀ v : B64, v.toNat < 4294967296 → v >>> 32 = 0#64 := fun v hv => by
    apply BitVec.eq_of_toNat_eq
    rw [BitVec.toNat_ushiftRight, Nat.shiftRight_eq_div_pow]
    show v.toNat / 4294967296 = 0
    exact Nat.div_eq_of_lt hv
  have e : jA x >>> 32 = jB x >>> 32 := by rw [s0 _ hA, s0 _ hB]
  have a : jA (cutN x) = jA x := (if_pos e).trans (lo_m hA)
  have b : jB (cutN x) = jB x := (if_pos e).trans (lo_m hB)
  refine ⟨?_, ?_⟩
  · have := td_A (cutN x)
    rwa [a] at this
  · have := td_B (cutN x)
    rwa [b] at this
theorem nd_n (hs : ¬ isSgn c) (hA : (jA x).toNat < 4294967296) (hB : (jB x).toNat < 4294967296) (h : decX c (cutT x) (cstN d) = -1) : ndX c x d := by
  obtain ⟨h1, h2, -, -⟩ := nd_w h
  have ab := cut_A hA hB
  refine ⟨fun z => ?_, fun z => ?_, fun z => ?_, fun z => ?_⟩
  · have := h1 z
    omega
  · have := h2 z
    omega
  · exact absurd (show isSgn c by omega) hs
  · exact absurd (show isSgn c by omega) hs
theorem sub1_nat {a : B64} (h : 1 ≤ a.toNat) : (a - 1#64).toNat = a.toNat - 1 := by
  have := a.isLt
  rw [BitVec.toNat_sub]
  show (2 ^ 64 - 1 + a.toNat) % 2 ^ 64 = _
  omega
theorem add1_nat {a : B64} (h : a.toNat < 18446744073709551615) : (a + 1#64).toNat = a.toNat + 1 := by
  rw [BitVec.toNat_add]
  show (a.toNat + 1) % 2 ^ 64 = _
  omega
theorem sub1_int {a : B64} (h : -9223372036854775808 < a.toInt) : (a - 1#64).toInt = a.toInt - 1 := by
  have := toInt_rng a
  rw [BitVec.toInt_sub]
  show (a.toInt - 1).bmod (2 ^ 64) = _
  exact Int.bmod_eq_of_le (by omega) (by omega)
theorem add1_int {a : B64} (h : a.toInt < 9223372036854775807) : (a + 1#64).toInt = a.toInt + 1 := by
  have := toInt_rng a
  rw [BitVec.toInt_add]
  show (a.toInt + 1).bmod (2 ^ 64) = _
  exact Int.bmod_eq_of_le (by omega) (by omega)
theorem bmx_r {a b : B64} (h : b.toNat ≤ a.toNat) : bmax a b = a := by
  unfold bmax
  rw [if_neg (by rw [BitVec.lt_def]; omega)]
theorem bmn_r {a b : B64} (h : a.toNat ≤ b.toNat) : bmin a b = a := by
  apply BitVec.eq_of_toNat_eq
  rw [bmin_toNat]
  omega
theorem smx_r {a b : B64} (h : b.toInt ≤ a.toInt) : smax a b = a := if_pos h
theorem smn_r {a b : B64} (h : a.toInt ≤ b.toInt) : smin a b = a := if_pos h
/-- a constant stays -/
theorem nar_y (hc : isCmp c) (h : ndX c x d) : (narN c is x (cstN d)).2 = cstN d ∨ (narN c is x (cstN d)).2 = (narN c is x (cstN d)).1 := by
  obtain ⟨h1, h2, h3, h4⟩ := h
  have ld : d.toNat < 18446744073709551616 := d.isLt
  have lb : (jB x).toNat < 18446744073709551616 := (jB x).isLt
  have rd := toInt_rng d
  have rC := toInt_rng (jC x)
  have rD := toInt_rng (jD x)
  have s0 : ∀ a : B64, a - 0#64 = a := fun a => by simp
  have a0 : ∀ a : B64, a + 0#64 = a := fun a => by simp
  have kb : ∀ z : B64, d.toNat ≤ z.toNat → ((d, 0#64, d, bmin d z, d, d) : N6) = cstN d := fun z h => by rw [bmn_r h]; rfl
  have ka : ∀ z : B64, z.toNat ≤ d.toNat → ((d, 0#64, bmax d z, d, d, d) : N6) = cstN d := fun z h => by rw [bmx_r h]; rfl
  have kd : ∀ z : B64, d.toInt ≤ z.toInt → ((d, 0#64, d, d, d, smin d z) : N6) = cstN d := fun z h => by rw [smn_r h]; rfl
  have kc : ∀ z : B64, z.toInt ≤ d.toInt → ((d, 0#64, d, d, smax d z, d) : N6) = cstN d := fun z h => by rw [smx_r h]; rfl
  rcases hc with rfl | rfl | rfl | rfl | rfl | rfl | rfl | rfl | rfl | rfl | rfl
  · -- 16
    unfold narN
    rw [if_pos (Or.inl rfl)]
    cases is with
    | true => exact Or.inr rfl
    | false =>
      left
      show (unlN x (cstN d)).2 = cstN d
      have cy : isC (cstN d) := rfl
      unfold unlN
      by_cases cx : isC x
      · rw [if_pos ⟨fun _ => cy, fun _ => cx⟩]
      · rw [if_neg (fun z => cx (z.mpr cy)), if_neg cx]
  · have h1 := h1 (Or.inl rfl)
    left
    cases is with
    | true => exact kb _ (by show d.toNat ≤ (jB x - 1#64).toNat; rw [sub1_nat (by omega)]; omega)
    | false => exact ka _ (by show (jA x + 0#64).toNat ≤ d.toNat; rw [a0]; omega)
  · have h2 := h2 (Or.inl rfl)
    left
    cases is with
    | true => exact kb _ (by show d.toNat ≤ (jB x - 0#64).toNat; rw [s0]; omega)
    | false => exact ka _ (by show (jA x + 1#64).toNat ≤ d.toNat; rw [add1_nat (by omega)]; omega)
  · left
    unfold narN
    rw [if_neg (by decide), if_pos rfl]
    split
    · rfl
    · split <;> rfl
  · unfold narN
    rw [if_pos (Or.inr rfl)]
    cases is with
    | false => exact Or.inr rfl
    | true =>
      left
      show (unlN x (cstN d)).2 = cstN d
      have cy : isC (cstN d) := rfl
      unfold unlN
      by_cases cx : isC x
      · rw [if_pos ⟨fun _ => cy, fun _ => cx⟩]
      · rw [if_neg (fun z => cx (z.mpr cy)), if_neg cx]
  · have h3 := h3 (Or.inl rfl)
    left
    cases is with
    | true => exact kd _ (by show d.toInt ≤ (jD x - 1#64).toInt; rw [sub1_int (by omega)]; omega)
    | false => exact kc _ (by show (jC x + 0#64).toInt ≤ d.toInt; rw [a0]; omega)
  · have h4 := h4 (Or.inl rfl)
    left
    cases is with
    | true => exact kd _ (by show d.toInt ≤ (jD x - 0#64).toInt; rw [s0]; omega)
    | false => exact kc _ (by show (jC x + 1#64).toInt ≤ d.toInt; rw [add1_int (by omega)]; omega)
  · have h2 := h2 (Or.inr rfl)
    left
    cases is with
    | true => exact ka _ (by show (jA x + 1#64).toNat ≤ d.toNat; rw [add1_nat (by omega)]; omega)
    | false => exact kb _ (by show d.toNat ≤ (jB x - 0#64).toNat; rw [s0]; omega)
  · have h1 := h1 (Or.inr rfl)
    left
    cases is with
    | true => exact ka _ (by show (jA x + 0#64).toNat ≤ d.toNat; rw [a0]; omega)
    | false => exact kb _ (by show d.toNat ≤ (jB x - 1#64).toNat; rw [sub1_nat (by omega)]; omega)
  · have h4 := h4 (Or.inr rfl)
    left
    cases is with
    | true => exact kc _ (by show (jC x + 1#64).toInt ≤ d.toInt; rw [add1_int (by omega)]; omega)
    | false => exact kd _ (by show d.toInt ≤ (jD x - 0#64).toInt; rw [s0]; omega)
  · have h3 := h3 (Or.inr rfl)
    left
    cases is with
    | true => exact kc _ (by show (jC x + 0#64).toInt ≤ d.toInt; rw [a0]; omega)
    | false => exact kd _ (by show d.toInt ≤ (jD x - 1#64).toInt; rw [sub1_int (by omega)]; omega)
/-- ranges only shrink, in the orders without sign -/
theorem nar_AB (hc : c = 32 ∨ c = 48 ∨ c = 160 ∨ c = 176) : (jA x).toNat ≤ (jA (narN c is x y).1).toNat ∧ (jB (narN c is x y).1).toNat ≤ (jB x).toNat := by
  rcases hc with rfl | rfl | rfl | rfl
  · cases is with
    | true => exact ⟨bmx_l _ _, Nat.le_refl _⟩
    | false => exact ⟨Nat.le_refl _, bmn_l _ _⟩
  · cases is with
    | true => exact ⟨bmx_l _ _, Nat.le_refl _⟩
    | false => exact ⟨Nat.le_refl _, bmn_l _ _⟩
  · cases is with
    | true => exact ⟨Nat.le_refl _, bmn_l _ _⟩
    | false => exact ⟨bmx_l _ _, Nat.le_refl _⟩
  · cases is with
    | true => exact ⟨Nat.le_refl _, bmn_l _ _⟩
    | false => exact ⟨bmx_l _ _, Nat.le_refl _⟩
/-- a constant on the right need not be looked at -/
theorem nar_G (hc : isCmp c) (h : ndX c x d ∨ ((jB x).toNat < (jA x).toNat ∧ ¬ isSgn c)) : (tdG (narN c is x (cstN d)).1 ∧ tdG (narN c is x (cstN d)).2) ↔ tdG (narN c is x (cstN d)).1 := by
  refine ⟨fun z => z.1, fun z => ⟨z, ?_⟩⟩
  rcases h with h | ⟨h, hs⟩
  · rcases nar_y (is := is) hc h with e | e
    · rw [e]
      exact tdG_cst d
    · rw [e]
      exact z
  · by_cases cc : c = 32 ∨ c = 48 ∨ c = 160 ∨ c = 176
    · have := nar_AB (is := is) (x := x) (y := cstN d) cc
      have := tdG_AB z
      omega
    · have c3 : c = 16 ∨ c = 64 ∨ c = 80 := by omega
      have nd : ndX c x d := ⟨fun q => by omega, fun q => by omega, fun q => absurd (show isSgn c by omega) hs, fun q => absurd (show isSgn c by omega) hs⟩
      rcases nar_y (is := is) hc nd with e | e
      · rw [e]
        exact tdG_cst d
      · rw [e]
        exact z
/-- the class takes the bits away as well -/
def cl64 (x y : N6) : N6 := (jV x &&& ~~~ jV y, jM x &&& ~~~ jV y, jA x, jB x, jC x, jD x)
def pu64 (x y : N6) : N6 := (jV x, jM x &&& ~~~ jV y, jA x, jB x, jC x, jD x)
theorem and_not {a b : B64} (h : a &&& b = 0#64) : a &&& ~~~ b = a := by
  apply BitVec.eq_of_getLsbD_eq
  intro i hi
  have := congrArg (fun z => BitVec.getLsbD z i) h
  simp only [BitVec.getLsbD_and, BitVec.getLsbD_zero] at this
  rw [BitVec.getLsbD_and, BitVec.getLsbD_not]
  cases h1 : a.getLsbD i <;> cases h2 : b.getLsbD i <;> simp_all
theorem td_V (n : N6) {i : Nat} (h : (jV n).getLsbD i = true) : (jV (tdN n)).getLsbD i = true := by
  have v1 : jV (td1 (byB n)) = jV n := by
    unfold td1
    split <;> rfl
  have v2 : jV (td2 (td1 (byB n))) = jV n := by
    unfold td2
    split
    · exact v1
    · exact v1
  unfold tdN
  split
  · show (jV (td2 (td1 (byB n))) ||| _).getLsbD i = true
    rw [BitVec.getLsbD_or, v2, h]
    rfl
  · rw [v2]
    exact h
theorem lo_bit {v : B64} (h : v.toNat < 4294967296) {i : Nat} (hb : v.getLsbD i = true) : i < 32 := by
  refine Classical.byContradiction fun z => ?_
  have : v.toNat.testBit i = false := Nat.testBit_lt_two_pow (Nat.lt_of_lt_of_le h (show 2 ^ 32 ≤ 2 ^ i from Nat.pow_le_pow_right (by decide) (by omega)))
  rw [BitVec.getLsbD] at hb
  rw [this] at hb
  cases hb
theorem dis_n (hx : lowA x) (hB : (jB x).toNat < 4294967296) (h : jV (cutT x) &&& jV (cutT y) = 0#64) : jV x &&& jV y = 0#64 ∨ (jB x).toNat < (jA x).toNat := by
  by_cases ab : (jB x).toNat < (jA x).toNat
  · exact Or.inr ab
  · left
    have hx : ¬ jA x < jV x := hx
    rw [BitVec.lt_def] at hx
    have vl : (jV x).toNat < 4294967296 := by omega
    apply BitVec.eq_of_getLsbD_eq
    intro i hi
    rw [BitVec.getLsbD_zero]
    refine Classical.byContradiction fun z => ?_
    have z : (jV x &&& jV y).getLsbD i = true := by simpa using z
    rw [BitVec.getLsbD_and, Bool.and_eq_true] at z
    have i32 := lo_bit vl z.1
    have cut : ∀ m : N6, (jV m).getLsbD i = true → (jV (cutT m)).getLsbD i = true := fun m hm => by
      refine td_V (cutN m) ?_
      show (jV m &&& cF).getLsbD i = true
      rw [BitVec.getLsbD_and, hm, cF_bit, decide_eq_true i32]
      rfl
    have := congrArg (fun z => BitVec.getLsbD z i) h
    simp only [BitVec.getLsbD_and, BitVec.getLsbD_zero] at this
    rw [cut x z.1, cut y z.2] at this
    cases this
theorem cl_pu (h : jV x &&& jV y = 0#64 ∨ (jB x).toNat < (jA x).toNat) : (tdG (cl64 x y) ↔ tdG (pu64 x y)) ∧ (tdG (pu64 x y) → tdN (cl64 x y) = tdN (pu64 x y)) := by
  by_cases d : jV x &&& jV y = 0#64
  · have e : cl64 x y = pu64 x y := by
      unfold cl64 pu64
      rw [and_not d]
    rw [e]
    exact ⟨Iff.rfl, fun _ => rfl⟩
  · have ab := h.resolve_left d
    have n1 : ¬ tdG (cl64 x y) := fun z => by
      have := tdG_AB z
      have : (jA x).toNat ≤ (jB x).toNat := this
      omega
    have n2 : ¬ tdG (pu64 x y) := fun z => by
      have := tdG_AB z
      have : (jA x).toNat ≤ (jB x).toNat := this
      omega
    exact ⟨⟨fun z => absurd z n1, fun z => absurd z n2⟩, fun z => absurd z n2⟩
end CNA
-- FILE 90a.bcnt
/-! ===== how many bits are set ===== -/
section BCN
theorem lane {a b c d : Nat} (hb : b < 256) (hd : d < 256) : (256 * a + b) &&& (256 * c + d) = 256 * (a &&& c) + (b &&& d) := by
  have bd : b &&& d < 256 := Nat.lt_of_le_of_lt Nat.and_le_left hb
  apply Nat.eq_of_testBit_eq
  intro i
  rw [Nat.testBit_and, show 256 = 2 ^ 8 from rfl, Nat.testBit_two_pow_mul_add a hb, Nat.testBit_two_pow_mul_add c hd, Nat.testBit_two_pow_mul_add (a &&& c) bd]
  split
  · rw [Nat.testBit_and]
  · rw [Nat.testBit_and]
def pA (b : Nat) : Nat := b - (b / 2 &&& 85)
def pB (b : Nat) : Nat := (b &&& 51) + (b / 4 &&& 51)
def pC (b : Nat) : Nat := (b + b / 16) &&& 15
/-- bits of a byte -/
def pp (b : Nat) : Nat := pC (pB (pA b))
theorem k1 : ∀ b : Fin 256, ∀ e : Fin 2, ((b.val / 2 + 128 * e.val) &&& 85) = (b.val / 2 &&& 85) := by decide +kernel
theorem k1' : ∀ b : Fin 256, (b.val / 2 &&& 85) ≤ b.val := by decide +kernel
theorem k2 : ∀ b : Fin 256, ∀ e : Fin 4, ((b.val / 4 + 64 * e.val) &&& 51) = (b.val / 4 &&& 51) := by decide +kernel
theorem k2' : ∀ b : Fin 256, pA b.val < 256 ∧ pB (pA b.val) ≤ 68 ∧ pB (pA b.val) % 16 ≤ 4 := by decide +kernel
theorem k3 : ∀ b : Fin 69, ∀ e : Fin 5, ((b.val + b.val / 16 + 16 * e.val) &&& 15) = pC b.val := by decide +kernel
theorem k3' : ∀ b : Fin 256, pp b.val ≤ 8 := by decide +kernel
/-- the masks -/
def mk85 : Nat → Nat
  | 0 => 0
  | n + 1 => 256 * mk85 n + 85
def mk51 : Nat → Nat
  | 0 => 0
  | n + 1 => 256 * mk51 n + 51
def mk15 : Nat → Nat
  | 0 => 0
  | n + 1 => 256 * mk15 n + 15
/-- f of each byte -/
def byt (f : Nat → Nat) : Nat → Nat → Nat
  | 0, _ => 0
  | n + 1, x => 256 * byt f n (x / 256) + f (x % 256)
theorem half (x : Nat) (n : Nat) : (x / 2) &&& mk85 (n + 1) = 256 * ((x / 256 / 2) &&& mk85 n) + ((x % 256) / 2 &&& 85) := by
  have e : x / 2 = 256 * (x / 256 / 2) + ((x % 256) / 2 + 128 * (x / 256 % 2)) := by omega
  rw [e]
  show (256 * (x / 256 / 2) + ((x % 256) / 2 + 128 * (x / 256 % 2))) &&& (256 * mk85 n + 85) = _
  rw [lane (by omega) (by decide), k1 ⟨x % 256, by omega⟩ ⟨x / 256 % 2, by omega⟩]
theorem stA : ∀ (n x : Nat), x < 256 ^ n → ((x / 2) &&& mk85 n) ≤ x ∧ x - ((x / 2) &&& mk85 n) = byt pA n x := by
  intro n
  induction n with
  | zero =>
    intro x h
    have : x = 0 := by omega
    subst this
    exact ⟨Nat.le_refl _, rfl⟩
  | succ n ih =>
    intro x h
    have h2 : x / 256 < 256 ^ n := by
      rw [Nat.pow_succ] at h
      omega
    obtain ⟨i1, i2⟩ := ih (x / 256) h2
    have l := k1' ⟨x % 256, by omega⟩
    have l : ((x % 256) / 2 &&& 85) ≤ x % 256 := l
    rw [half]
    show _ ∧ _ = 256 * byt pA n (x / 256) + (x % 256 - ((x % 256) / 2 &&& 85))
    rw [← i2]
    omega
theorem byt_d {f : Nat → Nat} (hf : ∀ b, b < 256 → f b < 256) : ∀ (n x : Nat), byt f n x < 256 ^ n := by
  intro n
  induction n with
  | zero => intro x; exact Nat.one_pos
  | succ n ih =>
    intro x
    have := ih (x / 256)
    have := hf (x % 256) (by omega)
    rw [Nat.pow_succ]
    show 256 * byt f n (x / 256) + f (x % 256) < _
    omega
theorem byt_m {f : Nat → Nat} (hf : ∀ b, b < 256 → f b < 256) (n x : Nat) : byt f (n + 1) x % 256 = f (x % 256) ∧ byt f (n + 1) x / 256 = byt f n (x / 256) := by
  have := hf (x % 256) (by omega)
  show (256 * byt f n (x / 256) + f (x % 256)) % 256 = _ ∧ (256 * byt f n (x / 256) + f (x % 256)) / 256 = _
  omega
theorem byt_c {f g : Nat → Nat} (hf : ∀ b, b < 256 → f b < 256) : ∀ (n x : Nat), byt g n (byt f n x) = byt (fun b => g (f b)) n x := by
  intro n
  induction n with
  | zero => intro x; rfl
  | succ n ih =>
    intro x
    obtain ⟨m1, m2⟩ := byt_m hf n x
    show 256 * byt g n (byt f (n + 1) x / 256) + g (byt f (n + 1) x % 256) = 256 * byt (fun b => g (f b)) n (x / 256) + g (f (x % 256))
    rw [m1, m2, ih]
theorem stB : ∀ (n x : Nat), x < 256 ^ n → (x &&& mk51 n) + ((x / 4) &&& mk51 n) = byt pB n x := by
  intro n
  induction n with
  | zero =>
    intro x h
    have : x = 0 := by omega
    subst this
    rfl
  | succ n ih =>
    intro x h
    have h2 : x / 256 < 256 ^ n := by
      rw [Nat.pow_succ] at h
      omega
    have i2 := ih (x / 256) h2
    have e1 : x &&& mk51 (n + 1) = 256 * (x / 256 &&& mk51 n) + (x % 256 &&& 51) := by
      have e : x = 256 * (x / 256) + x % 256 := by omega
      conv => lhs; rw [e]
      show (256 * (x / 256) + x % 256) &&& (256 * mk51 n + 51) = _
      rw [lane (by omega) (by decide)]
    have e2 : (x / 4) &&& mk51 (n + 1) = 256 * (x / 256 / 4 &&& mk51 n) + ((x % 256) / 4 &&& 51) := by
      have e : x / 4 = 256 * (x / 256 / 4) + ((x % 256) / 4 + 64 * (x / 256 % 4)) := by omega
      rw [e]
      show (256 * (x / 256 / 4) + ((x % 256) / 4 + 64 * (x / 256 % 4))) &&& (256 * mk51 n + 51) = _
      rw [lane (by omega) (by decide), k2 ⟨x % 256, by omega⟩ ⟨x / 256 % 4, by omega⟩]
    rw [e1, e2]
    show _ = 256 * byt pB n (x / 256) + ((x % 256 &&& 51) + ((x % 256) / 4 &&& 51))
    rw [← i2]
    omega
theorem bcS : ∀ (n x : Nat), byt (fun b => if b < 256 ∧ b ≤ 68 ∧ b % 16 ≤ 4 then 0 else 1) n x = 0 → x < 256 ^ n → (x + x / 16) &&& mk15 n = byt pC n x := by
  intro n
  induction n with
  | zero =>
    intro x _ h
    have : x = 0 := by omega
    subst this
    rfl
  | succ n ih =>
    intro x g h
    have h2 : x / 256 < 256 ^ n := by
      rw [Nat.pow_succ] at h
      omega
    have g : 256 * byt (fun b => if b < 256 ∧ b ≤ 68 ∧ b % 16 ≤ 4 then 0 else 1) n (x / 256) + (if x % 256 < 256 ∧ x % 256 ≤ 68 ∧ x % 256 % 16 ≤ 4 then 0 else 1) = 0 := g
    have g1 : x % 256 < 256 ∧ x % 256 ≤ 68 ∧ x % 256 % 16 ≤ 4 := by
      refine Classical.byContradiction fun z => ?_
      rw [if_neg z] at g
      omega
    have g0 : byt (fun b => if b < 256 ∧ b ≤ 68 ∧ b % 16 ≤ 4 then 0 else 1) n (x / 256) = 0 := by omega
    have i2 := ih (x / 256) g0 h2
    have lo : x / 256 % 16 ≤ 4 := by
      cases n with
      | zero =>
        have : x / 256 = 0 := by
          have : (256 : Nat) ^ 0 = 1 := rfl
          omega
        omega
      | succ n =>
        have g0 : 256 * byt (fun b => if b < 256 ∧ b ≤ 68 ∧ b % 16 ≤ 4 then 0 else 1) n (x / 256 / 256) + (if x / 256 % 256 < 256 ∧ x / 256 % 256 ≤ 68 ∧ x / 256 % 256 % 16 ≤ 4 then 0 else 1) = 0 := g0
        have : x / 256 % 256 < 256 ∧ x / 256 % 256 ≤ 68 ∧ x / 256 % 256 % 16 ≤ 4 := by
          refine Classical.byContradiction fun z => ?_
          rw [if_neg z] at g0
          omega
        omega
    have e : x + x / 16 = 256 * (x / 256 + x / 256 / 16) + (x % 256 + (x % 256) / 16 + 16 * (x / 256 % 16)) := by omega
    rw [e]
    show (256 * (x / 256 + x / 256 / 16) + (x % 256 + (x % 256) / 16 + 16 * (x / 256 % 16))) &&& (256 * mk15 n + 15) = 256 * byt pC n (x / 256) + pC (x % 256)
    rw [lane (by omega) (by decide), i2, k3 ⟨x % 256, by omega⟩ ⟨x / 256 % 16, by omega⟩]
/-- sum of the bytes -/
def sumB (f : Nat → Nat) : Nat → Nat → Nat
  | 0, _ => 0
  | n + 1, x => f (x % 256) + sumB f n (x / 256)
theorem byt_t {f : Nat → Nat} (hf : ∀ b, b < 256 → f b ≤ 68) : ∀ (n x : Nat), byt f (n + 1) x + 1 ≤ 69 * 256 ^ n := by
  intro n
  induction n with
  | zero =>
    intro x
    have := hf (x % 256) (by omega)
    show 256 * 0 + f (x % 256) + 1 ≤ 69 * 1
    omega
  | succ n ih =>
    intro x
    have i := ih (x / 256)
    have := hf (x % 256) (by omega)
    have pw : (256 : Nat) ^ (n + 1) = 256 * 256 ^ n := by rw [Nat.pow_succ, Nat.mul_comm]
    rw [pw]
    generalize (256 : Nat) ^ n = q at *
    show 256 * byt f (n + 1) (x / 256) + f (x % 256) + 1 ≤ 69 * (256 * q)
    generalize byt f (n + 1) (x / 256) = z at *
    omega
theorem lI127 (x : B64) : iAnd (lI x) 127 = ((x.toNat % 128 : Nat) : Int) := by
  rw [show iAnd (lI x) 127 = lI x % 128 from iAnd_mask (k := 7) (by omega)]
  have h1 := toInt_c x
  have hx := x.isLt
  unfold lI w32
  rw [h1, Int.bmod_def]
  split <;> split <;> omega
theorem bcC_n (x : B64) : (bcC x).toNat = byt pp 8 x.toNat := by
  have lx : x.toNat < 256 ^ 8 := x.isLt
  obtain ⟨a1, a2⟩ := stA 8 x.toNat lx
  have m85 : (iL 6148914691236517205).toNat = mk85 8 := by decide
  have m51 : (iL 3689348814741910323).toNat = mk51 8 := by decide
  have m15 : (iL 1085102592571150095).toNat = mk15 8 := by decide
  have us : ∀ (y : B64) (s : Nat), s < 64 → (lUsh y (s : Int)).toNat = y.toNat / 2 ^ s := fun y s hs => by
    rw [lUsh_k y hs, BitVec.toNat_ushiftRight, Nat.shiftRight_eq_div_pow]
  have fA : ∀ b, b < 256 → pA b < 256 := fun b h => (k2' ⟨b, h⟩).1
  have fB : ∀ b, b < 256 → pB (pA b) < 256 := fun b h => by have := (k2' ⟨b, h⟩).2.1; have : pB (pA b) ≤ 68 := this; omega
  have eX : (bcX x).toNat = byt pA 8 x.toNat := by
    unfold bcX
    have e : (lUsh x 1 &&& iL 6148914691236517205).toNat = (x.toNat / 2) &&& mk85 8 := by
      rw [BitVec.toNat_and, m85]
      have := us x 1 (by decide)
      rw [show lUsh x 1 = lUsh x ((1 : Nat) : Int) from rfl, this]
      rfl
    rw [BitVec.toNat_sub, e, ← a2]
    have : (x.toNat / 2) &&& mk85 8 ≤ x.toNat := a1
    have l2 : x.toNat < 2 ^ 64 := x.isLt
    omega
  have lA := byt_d fA 8 x.toNat
  have eB : (bcB x).toNat = byt (fun b => pB (pA b)) 8 x.toNat := by
    unfold bcB
    have b := stB 8 (byt pA 8 x.toNat) lA
    rw [byt_c fA] at b
    have e1 : (bcX x &&& iL 3689348814741910323).toNat = byt pA 8 x.toNat &&& mk51 8 := by rw [BitVec.toNat_and, m51, eX]
    have e2 : (lUsh (bcX x) 2 &&& iL 3689348814741910323).toNat = (byt pA 8 x.toNat / 4) &&& mk51 8 := by
      rw [BitVec.toNat_and, m51]
      have := us (bcX x) 2 (by decide)
      rw [show lUsh (bcX x) 2 = lUsh (bcX x) ((2 : Nat) : Int) from rfl, this, eX]
      rfl
    have lB := byt_d fB 8 x.toNat
    have p8 : (256 : Nat) ^ 8 = 2 ^ 64 := by decide
    rw [BitVec.toNat_add, e1, e2, b]
    exact Nat.mod_eq_of_lt (by omega)
  have sm : byt (fun b => pB (pA b)) 8 x.toNat < 2 ^ 63 := by
    have := byt_t (f := fun b => pB (pA b)) (fun b h => (k2' ⟨b, h⟩).2.1) 7 x.toNat
    have p7 : (256 : Nat) ^ 7 = 72057594037927936 := by decide
    rw [p7] at this
    omega
  have eC : (bcB x + lUsh (bcB x) 4).toNat = byt (fun b => pB (pA b)) 8 x.toNat + byt (fun b => pB (pA b)) 8 x.toNat / 16 := by
    have := us (bcB x) 4 (by decide)
    rw [BitVec.toNat_add, show lUsh (bcB x) 4 = lUsh (bcB x) ((4 : Nat) : Int) from rfl, this, eB]
    have e16 : (2 : Nat) ^ 4 = 16 := by decide
    rw [e16]
    exact Nat.mod_eq_of_lt (by omega)
  have z0 : ∀ (n y : Nat), byt (fun b => if b < 256 ∧ b ≤ 68 ∧ b % 16 ≤ 4 then 0 else 1) n (byt (fun b => pB (pA b)) n y) = 0 := by
    intro n
    induction n with
    | zero => intro y; rfl
    | succ n ih =>
      intro y
      obtain ⟨m1, m2⟩ := byt_m fB n y
      show 256 * byt (fun b => if b < 256 ∧ b ≤ 68 ∧ b % 16 ≤ 4 then 0 else 1) n (byt (fun b => pB (pA b)) (n + 1) y / 256) + (if byt (fun b => pB (pA b)) (n + 1) y % 256 < 256 ∧ byt (fun b => pB (pA b)) (n + 1) y % 256 ≤ 68 ∧ byt (fun b => pB (pA b)) (n + 1) y % 256 % 16 ≤ 4 then 0 else 1) = 0
      have kk := k2' ⟨y % 256, by omega⟩
      have kk : pA (y % 256) < 256 ∧ pB (pA (y % 256)) ≤ 68 ∧ pB (pA (y % 256)) % 16 ≤ 4 := kk
      rw [m1, m2, ih, if_pos ⟨by omega, kk.2.1, kk.2.2⟩]
  unfold bcC
  rw [BitVec.toNat_and, m15, eC, bcS 8 _ (z0 8 x.toNat) (byt_d fB 8 x.toNat), byt_c fB]
  rfl
theorem bcF_b (x : B64) : ∃ p0 p1 p2 p3 p4 p5 p6 p7 : Nat, bcF x = ((p0 + p1 + p2 + p3 + p4 + p5 + p6 + p7 : Nat) : Int) ∧ (p0 = pp (x.toNat % 256) ∧ p1 = pp (x.toNat / 256 % 256) ∧ p2 = pp (x.toNat / 256 / 256 % 256) ∧ p3 = pp (x.toNat / 256 / 256 / 256 % 256) ∧ p4 = pp (x.toNat / 256 / 256 / 256 / 256 % 256) ∧ p5 = pp (x.toNat / 256 / 256 / 256 / 256 / 256 % 256) ∧ p6 = pp (x.toNat / 256 / 256 / 256 / 256 / 256 / 256 % 256) ∧ p7 = pp (x.toNat / 256 / 256 / 256 / 256 / 256 / 256 / 256 % 256)) := by
  refine ⟨_, _, _, _, _, _, _, _, ?_, rfl, rfl, rfl, rfl, rfl, rfl, rfl, rfl⟩
  have c := bcC_n x
  have u : byt pp 8 x.toNat = 256 * (256 * (256 * (256 * (256 * (256 * (256 * (256 * 0 + pp (x.toNat / 256 / 256 / 256 / 256 / 256 / 256 / 256 % 256)) + pp (x.toNat / 256 / 256 / 256 / 256 / 256 / 256 % 256)) + pp (x.toNat / 256 / 256 / 256 / 256 / 256 % 256)) + pp (x.toNat / 256 / 256 / 256 / 256 % 256)) + pp (x.toNat / 256 / 256 / 256 % 256)) + pp (x.toNat / 256 / 256 % 256)) + pp (x.toNat / 256 % 256)) + pp (x.toNat % 256) := rfl
  rw [u] at c
  have b : ∀ z : Nat, pp (z % 256) ≤ 8 := fun z => k3' ⟨z % 256, by omega⟩
  have b0 := b x.toNat
  have b1 := b (x.toNat / 256)
  have b2' := b (x.toNat / 256 / 256)
  have b3 := b (x.toNat / 256 / 256 / 256)
  have b4 := b (x.toNat / 256 / 256 / 256 / 256)
  have b5 := b (x.toNat / 256 / 256 / 256 / 256 / 256)
  have b6 := b (x.toNat / 256 / 256 / 256 / 256 / 256 / 256)
  have b7 := b (x.toNat / 256 / 256 / 256 / 256 / 256 / 256 / 256)
  generalize pp (x.toNat % 256) = p0 at *
  generalize pp (x.toNat / 256 % 256) = p1 at *
  generalize pp (x.toNat / 256 / 256 % 256) = p2 at *
  generalize pp (x.toNat / 256 / 256 / 256 % 256) = p3 at *
  generalize pp (x.toNat / 256 / 256 / 256 / 256 % 256) = p4 at *
  generalize pp (x.toNat / 256 / 256 / 256 / 256 / 256 % 256) = p5 at *
  generalize pp (x.toNat / 256 / 256 / 256 / 256 / 256 / 256 % 256) = p6 at *
  generalize pp (x.toNat / 256 / 256 / 256 / 256 / 256 / 256 / 256 % 256) = p7 at *
  have us : ∀ (y : B64) (s : Nat), s < 64 → (lUsh y (s : Int)).toNat = y.toNat / 2 ^ s := fun y s hs => by
    rw [lUsh_k y hs, BitVec.toNat_ushiftRight, Nat.shiftRight_eq_div_pow]
  have d : (bcD x).toNat = 256 * (256 * (256 * (256 * (256 * (256 * (256 * p7 + (p6 + p7)) + (p5 + p6)) + (p4 + p5)) + (p3 + p4)) + (p2 + p3)) + (p1 + p2)) + (p0 + p1) := by
    unfold bcD
    have := us (bcC x) 8 (by decide)
    have e8 : (2 : Nat) ^ 8 = 256 := by decide
    rw [e8] at this
    rw [BitVec.toNat_add, show lUsh (bcC x) 8 = lUsh (bcC x) ((8 : Nat) : Int) from rfl, this, c]
    have q : (256 * (256 * (256 * (256 * (256 * (256 * (256 * (256 * 0 + p7) + p6) + p5) + p4) + p3) + p2) + p1) + p0) / 256 = 256 * (256 * (256 * (256 * (256 * (256 * p7 + p6) + p5) + p4) + p3) + p2) + p1 := by omega
    rw [q, Nat.mod_eq_of_lt (by omega)]
    omega
  have e : (bcE x).toNat = 256 * (256 * (256 * (256 * (256 * (256 * (256 * p7 + (p6 + p7)) + (p5 + p6 + p7)) + (p4 + p5 + p6 + p7)) + (p3 + p4 + p5 + p6)) + (p2 + p3 + p4 + p5)) + (p1 + p2 + p3 + p4)) + (p0 + p1 + p2 + p3) := by
    unfold bcE
    have := us (bcD x) 16 (by decide)
    have e8 : (2 : Nat) ^ 16 = 65536 := by decide
    rw [e8] at this
    rw [BitVec.toNat_add, show lUsh (bcD x) 16 = lUsh (bcD x) ((16 : Nat) : Int) from rfl, this, d]
    have q : (256 * (256 * (256 * (256 * (256 * (256 * (256 * p7 + (p6 + p7)) + (p5 + p6)) + (p4 + p5)) + (p3 + p4)) + (p2 + p3)) + (p1 + p2)) + (p0 + p1)) / 65536 = 256 * (256 * (256 * (256 * (256 * p7 + (p6 + p7)) + (p5 + p6)) + (p4 + p5)) + (p3 + p4)) + (p2 + p3) := by omega
    rw [q, Nat.mod_eq_of_lt (by omega)]
    omega
  have f : (bcE x + lUsh (bcE x) 32).toNat % 128 = p0 + p1 + p2 + p3 + p4 + p5 + p6 + p7 := by
    have := us (bcE x) 32 (by decide)
    have e8 : (2 : Nat) ^ 32 = 4294967296 := by decide
    rw [e8] at this
    rw [BitVec.toNat_add, show lUsh (bcE x) 32 = lUsh (bcE x) ((32 : Nat) : Int) from rfl, this, e]
    have q : (256 * (256 * (256 * (256 * (256 * (256 * (256 * p7 + (p6 + p7)) + (p5 + p6 + p7)) + (p4 + p5 + p6 + p7)) + (p3 + p4 + p5 + p6)) + (p2 + p3 + p4 + p5)) + (p1 + p2 + p3 + p4)) + (p0 + p1 + p2 + p3)) / 4294967296 = 256 * (256 * (256 * p7 + (p6 + p7)) + (p5 + p6 + p7)) + (p4 + p5 + p6 + p7) := by omega
    rw [q, Nat.mod_eq_of_lt (by omega)]
    omega
  unfold bcF
  rw [lI127, f]
theorem ppz : ∀ b : Fin 256, pp b.val = 0 → b.val = 0 := by decide +kernel
theorem ppo : ∀ b : Fin 256, pp b.val = 1 → ∃ j : Fin 8, b.val = 2 ^ j.val := by decide +kernel
theorem pw_and : ∀ n : Fin 64, BitVec.ofNat 64 (2 ^ n.val) &&& (BitVec.ofNat 64 (2 ^ n.val) - 1#64) = 0#64 := by decide +kernel
theorem bc_one {d : B64} (h : bcF d = 1) : d &&& (d - 1#64) = 0#64 := by
  obtain ⟨p0, p1, p2, p3, p4, p5, p6, p7, hs, e0, e1, e2, e3, e4, e5, e6, e7⟩ := bcF_b d
  rw [hs] at h
  have l : d.toNat < 2 ^ 64 := d.isLt
  have z : ∀ y : Nat, pp (y % 256) = 0 → y % 256 = 0 := fun y h => ppz ⟨y % 256, by omega⟩ h
  have o : ∀ y : Nat, pp (y % 256) = 1 → ∃ j : Nat, j < 8 ∧ y % 256 = 2 ^ j := fun y h => by
    obtain ⟨j, hj⟩ := ppo ⟨y % 256, by omega⟩ h
    exact ⟨j.val, j.isLt, hj⟩
  have fin : ∀ k j : Nat, k < 8 → j < 8 → d.toNat = 256 ^ k * 2 ^ j → d &&& (d - 1#64) = 0#64 := fun k j hk hj e => by
    have e' : d = BitVec.ofNat 64 (2 ^ (8 * k + j)) := by
      apply BitVec.eq_of_toNat_eq
      rw [BitVec.toNat_ofNat, e, Nat.pow_add, Nat.pow_mul]
      have : (2 : Nat) ^ 8 = 256 := by decide
      rw [this, ← e]
      exact (Nat.mod_eq_of_lt l).symm
    rw [e']
    exact pw_and ⟨8 * k + j, by omega⟩
  generalize hn : d.toNat = n at *
  have c : p0 = 1 ∨ p1 = 1 ∨ p2 = 1 ∨ p3 = 1 ∨ p4 = 1 ∨ p5 = 1 ∨ p6 = 1 ∨ p7 = 1 := by omega
  have zz : ∀ p y : Nat, p = pp (y % 256) → p = 0 → y % 256 = 0 := fun p y h1 h2 => z y (by omega)
  have oo : ∀ p y : Nat, p = pp (y % 256) → p = 1 → ∃ j : Nat, j < 8 ∧ y % 256 = 2 ^ j := fun p y h1 h2 => o y (by omega)
  rcases c with c | c | c | c | c | c | c | c
  · obtain ⟨j, hj, q⟩ := oo _ _ e0 c
    have := zz _ _ e1 (by omega)
    have := zz _ _ e2 (by omega)
    have := zz _ _ e3 (by omega)
    have := zz _ _ e4 (by omega)
    have := zz _ _ e5 (by omega)
    have := zz _ _ e6 (by omega)
    have := zz _ _ e7 (by omega)
    refine fin 0 j (by decide) hj ?_
    rw [← q]
    omega
  · obtain ⟨j, hj, q⟩ := oo _ _ e1 c
    have := zz _ _ e0 (by omega)
    have := zz _ _ e2 (by omega)
    have := zz _ _ e3 (by omega)
    have := zz _ _ e4 (by omega)
    have := zz _ _ e5 (by omega)
    have := zz _ _ e6 (by omega)
    have := zz _ _ e7 (by omega)
    refine fin 1 j (by decide) hj ?_
    rw [← q]
    omega
  · obtain ⟨j, hj, q⟩ := oo _ _ e2 c
    have := zz _ _ e0 (by omega)
    have := zz _ _ e1 (by omega)
    have := zz _ _ e3 (by omega)
    have := zz _ _ e4 (by omega)
    have := zz _ _ e5 (by omega)
    have := zz _ _ e6 (by omega)
    have := zz _ _ e7 (by omega)
    refine fin 2 j (by decide) hj ?_
    rw [← q]
    omega
  · obtain ⟨j, hj, q⟩ := oo _ _ e3 c
    have := zz _ _ e0 (by omega)
    have := zz _ _ e1 (by omega)
    have := zz _ _ e2 (by omega)
    have := zz _ _ e4 (by omega)
    have := zz _ _ e5 (by omega)
    have := zz _ _ e6 (by omega)
    have := zz _ _ e7 (by omega)
    refine fin 3 j (by decide) hj ?_
    rw [← q]
    omega
  · obtain ⟨j, hj, q⟩ := oo _ _ e4 c
    have := zz _ _ e0 (by omega)
    have := zz _ _ e1 (by omega)
    have := zz _ _ e2 (by omega)
    have := zz _ _ e3 (by omega)
    have := zz _ _ e5 (by omega)
    have := zz _ _ e6 (by omega)
    have := zz _ _ e7 (by omega)
    refine fin 4 j (by decide) hj ?_
    rw [← q]
    omega
  · obtain ⟨j, hj, q⟩ := oo _ _ e5 c
    have := zz _ _ e0 (by omega)
    have := zz _ _ e1 (by omega)
    have := zz _ _ e2 (by omega)
    have := zz _ _ e3 (by omega)
    have := zz _ _ e4 (by omega)
    have := zz _ _ e6 (by omega)
    have := zz _ _ e7 (by omega)
    refine fin 5 j (by decide) hj ?_
    rw [← q]
    omega
  · obtain ⟨j, hj, q⟩ := oo _ _ e6 c
    have := zz _ _ e0 (by omega)
    have := zz _ _ e1 (by omega)
    have := zz _ _ e2 (by omega)
    have := zz _ _ e3 (by omega)
    have := zz _ _ e4 (by omega)
    have := zz _ _ e5 (by omega)
    have := zz _ _ e7 (by omega)
    refine fin 6 j (by decide) hj ?_
    rw [← q]
    omega
  · obtain ⟨j, hj, q⟩ := oo _ _ e7 c
    have := zz _ _ e0 (by omega)
    have := zz _ _ e1 (by omega)
    have := zz _ _ e2 (by omega)
    have := zz _ _ e3 (by omega)
    have := zz _ _ e4 (by omega)
    have := zz _ _ e5 (by omega)
    have := zz _ _ e6 (by omega)
    refine fin 7 j (by decide) hj ?_
    rw [← q]
    omega
theorem bc_pow {d : B64} (h : d &&& (d - 1#64) = 0#64) (h0 : ¬ d = 0#64) : bcF d = 1 := by
  have m : d &&& (-d) = d := by
    have e : -d = ~~~ (d - 1#64) := by
      rw [BitVec.neg_eq_not_add]
      apply BitVec.eq_of_toNat_eq
      rw [BitVec.toNat_add, BitVec.toNat_not, BitVec.toNat_not, BitVec.toNat_sub]
      have := d.isLt
      have : 0 < d.toNat := by
        refine Nat.pos_of_ne_zero fun z => h0 ?_
        exact BitVec.eq_of_toNat_eq z
      show (2 ^ 64 - 1 - d.toNat + 1) % 2 ^ 64 = 2 ^ 64 - 1 - (2 ^ 64 - 1 + d.toNat) % 2 ^ 64
      omega
    rw [e]
    exact and_not h
  have l := low_mask d
  rw [m] at l
  have lz := lowZ_le d
  have e : d = BitVec.ofNat 64 (2 ^ lowZ d) := by
    have e1 : d = (d - 1#64) + 1#64 := by rw [BitVec.sub_add_cancel]
    rw [l] at e1
    rw [e1]
    apply BitVec.eq_of_toNat_eq
    have p : 0 < 2 ^ lowZ d := Nat.two_pow_pos _
    rw [BitVec.toNat_add, BitVec.toNat_ofNat, BitVec.toNat_ofNat]
    show ((2 ^ lowZ d - 1) % 2 ^ 64 + 1) % 2 ^ 64 = 2 ^ lowZ d % 2 ^ 64
    omega
  have a := List.all_eq_true.mp bc_one_all (lowZ d) (List.mem_range.mpr (by omega))
  have a := of_decide_eq_true a
  rw [← e] at a
  by_cases z : lowZ d = 64
  · exfalso
    rw [z] at e
    exact h0 (e.trans (by decide))
  · rw [if_neg z] at a
    exact a
end BCN
-- FILE 91.cnrw
/-! ===== the class's NARROWED ===== -/
section CNRW
variable {τ σ ρ : MS} {k j p q : Nat} {E : EV} {w : B64} {S S' : ST} {t n g : Int} {c : Int} {x y : N6} {d : B64}
def setN (n : N6) (s : Nat) (v : B64) : N6 := (if s = 0 then v else n.1, if s = 1 then v else n.2.1, if s = 2 then v else n.2.2.1, if s = 3 then v else n.2.2.2.1, if s = 4 then v else n.2.2.2.2.1, if s = 5 then v else n.2.2.2.2.2)
theorem rC_sL {i s : Nat} {v : B64} {z : Nat} : rC (sL σ i s v) z = if z = i then setN (rC σ i) s v else rC σ z := by
  by_cases e : z = i
  · subst e
    rw [if_pos rfl]
    unfold rC setN
    simp only [gL_sL, true_and, eq_comm]
  · rw [if_neg e]
    unfold rC
    simp only [gL_sL, e, false_and, if_false]
theorem nfq_l {i s : Nat} {v : B64} (h : 42 ≤ i ∧ i ≤ 50) : nfq (sL σ i s v) σ := ⟨fun _ _ => rfl, fun k s' p => by rw [gL_sL, if_neg (by omega)], rfl⟩
theorem mxi {a b : B64} {e : Decidable (¬ a < b)} : (@ite B64 (¬ a < b) e a b) = bmax a b := by
  unfold bmax
  by_cases h : a < b
  · rw [if_neg (not_not_intro h), if_pos h]
  · rw [if_pos h, if_neg h]
theorem mni {a b : B64} {e : Decidable (¬ a < b)} : (@ite B64 (¬ a < b) e b a) = bmin a b := by
  unfold bmin
  by_cases h : a < b
  · rw [if_neg (not_not_intro h), if_pos h]
  · rw [if_pos h, if_neg h]
theorem T275 (hp : isNm σ p) (hq : isNm σ q) (hne : ¬ q = p) : MM 275 [mR (some p), mR (some q)] σ = some (none, wC (wC σ p (bothN (rC σ p) (rC σ q))) q (bothN (rC σ p) (rC σ q))) := by
  have p0 : gL σ p 0 = jV (rC σ p) := rfl
  have p1 : gL σ p 1 = jM (rC σ p) := rfl
  have p2 : gL σ p 2 = jA (rC σ p) := rfl
  have p3 : gL σ p 3 = jB (rC σ p) := rfl
  have p4 : gL σ p 4 = jC (rC σ p) := rfl
  have p5 : gL σ p 5 = jD (rC σ p) := rfl
  have q0 : gL σ q 0 = jV (rC σ q) := rfl
  have q1 : gL σ q 1 = jM (rC σ q) := rfl
  have q2 : gL σ q 2 = jA (rC σ q) := rfl
  have q3 : gL σ q 3 = jB (rC σ q) := rfl
  have q4 : gL σ q 4 = jC (rC σ q) := rfl
  have q5 : gL σ q 5 = jD (rC σ q) := rfl
  obtain ⟨x, hx⟩ : ∃ x, x = rC σ p := ⟨_, rfl⟩
  obtain ⟨y, hy⟩ : ∃ y, y = rC σ q := ⟨_, rfl⟩
  rw [← hx] at p0 p1 p2 p3 p4 p5
  rw [← hy] at q0 q1 q2 q3 q4 q5
  rw [← hx, ← hy]
  have ap := aoN hp
  have aq := aoN hq
  have s1 : MM 275 [mR (some p), mR (some q)] σ = (MM 66 [mR (some q), mR (some p)] (sL (sL (sL (sL (sL (sL σ p 0 (jV x ||| jV y)) p 1 (jM x &&& jM y)) p 2 (bmax (jA x) (jA y))) p 3 (bmin (jB x) (jB y))) p 4 (smax (jC x) (jC y))) p 5 (smin (jD x) (jD y)))).bind fun r => RR (lkB tb275) (B275_119, [some (mR (some p)), some (mR (some q))], r.1.toList ++ [], r.2) := by
    simp only [M275, e275_0, e275_38, e275_52, e275_67, e275_81, e275_96, e275_111, Option.getD_some, Option.bind_some, Option.toList_some, Option.toList_none, List.cons_append, List.nil_append, and_self, and_true, true_and, false_and, and_false, ite_self, not_true_eq_false, not_false_eq_true, reduceIte, Nat.reduceEqDiff, ab_I, ab_L, ab_R, ao_I, ao_L, ao_R, gL_sL, gI_sI, gR_sR, gI_sL, gI_sR, gL_sI, gL_sR, gR_sI, gR_sL, ap, aq, hne, p0, p1, p2, p3, p4, p5, q0, q1, q2, q3, q4, q5, T17, b2_0', mrgL, mxi, mni, T571, T572]
  have t66 := T66 (σ := wC σ p (bothN x y)) (k := q) (j := p) hq hp (fun z => hne z.symm)
  rw [rC_wC, if_pos rfl] at t66
  rw [s1]
  rw [show sL (sL (sL (sL (sL (sL σ p 0 (jV x ||| jV y)) p 1 (jM x &&& jM y)) p 2 (bmax (jA x) (jA y))) p 3 (bmin (jB x) (jB y))) p 4 (smax (jC x) (jC y))) p 5 (smin (jD x) (jD y)) = wC σ p (bothN x y) from rfl, t66]
  simp only [e275_119, Option.getD_some, Option.bind_some, Option.toList_some, Option.toList_none, List.cons_append, List.nil_append, and_self, and_true, true_and, false_and, and_false, ite_self, not_true_eq_false, not_false_eq_true, reduceIte, Nat.reduceEqDiff, ab_I, ab_L, ab_R, ao_I, ao_L, ao_R, gL_sL, gI_sI, gR_sR, gI_sL, gI_sR, gL_sI, gL_sR, gR_sI, gR_sL]
theorem av_a {a : B64} {e : Decidable (¬ a = d)} : a + (@ite B64 (¬ a = d) e (BitVec.ofNat 64 0) (BitVec.ofNat 64 1)) = if a = d then a + 1#64 else a := by
  by_cases h : a = d
  · rw [if_neg (not_not_intro h), if_pos h]
  · rw [if_pos h, if_neg h]
    show a + 0#64 = a
    simp
theorem av_s {a : B64} {e : Decidable (¬ a = d)} : a - (@ite B64 (¬ a = d) e (BitVec.ofNat 64 0) (BitVec.ofNat 64 1)) = if a = d then a - 1#64 else a := by
  by_cases h : a = d
  · rw [if_neg (not_not_intro h), if_pos h]
  · rw [if_pos h, if_neg h]
    show a - 0#64 = a
    simp
theorem mrgL4 {T : Nat → List Ins} {P : Prop} {e : Decidable P} {B : List Ins} {L : List (Option MV)} {a b : B64} {s : List MV} {f : B64 → MS} : (@ite (Option Rs) P e (some (none, f a)) (some (none, f b))) = some (none, f (@ite _ P e a b)) := by
  split <;> rfl
theorem T277 (hp : isNm σ p) : MM 277 [mR (some p), mL d] σ = some (none, wC σ p (notN (rC σ p) d)) := by
  obtain ⟨x, hx⟩ : ∃ x, x = rC σ p := ⟨_, rfl⟩
  have e0 : σ = wC σ p x := by rw [hx, wC_eta]
  rw [← hx]
  have ap := aoN hp
  have key : MM 277 [mR (some p), mL d] (wC σ p x) = some (none, wC σ p (notN x d)) := by
    have aw : ∀ n : N6, ao (wC σ p n) 2 (some p) = True := fun n => aoNw hp
    by_cases h5 : jD x = d
    · have e5 : (notN x d) = (jV x, jM x, (if jA x = d then jA x + 1#64 else jA x), (if jB x = d then jB x - 1#64 else jB x), (if jC x = d then jC x + 1#64 else jC x), jD x - 1#64) := by
        unfold notN
        rw [if_pos h5]
      rw [e5]
      simp only [M277, e277_0, e277_19, e277_42, e277_65, Option.getD_some, Option.bind_some, Option.toList_some, Option.toList_none, List.cons_append, List.nil_append, and_self, and_true, true_and, false_and, and_false, ite_self, not_true_eq_false, not_false_eq_true, reduceIte, Nat.reduceEqDiff, ab_I, ab_L, ab_R, ao_I, ao_L, ao_R, gL_sL, gI_sI, gR_sR, gI_sL, gI_sR, gL_sI, gL_sR, gR_sI, gR_sL, aw, mrgL, av_a, av_s, gC2, gC3, gC4, gC5, wC2, wC3, wC4, wC5, eq_true h5]
      rfl
    · have e5 : (notN x d) = (jV x, jM x, (if jA x = d then jA x + 1#64 else jA x), (if jB x = d then jB x - 1#64 else jB x), (if jC x = d then jC x + 1#64 else jC x), jD x) := by
        unfold notN
        rw [if_neg h5]
      have s0 : jD x - BitVec.ofNat 64 0 = jD x := by show jD x - 0#64 = jD x; simp
      rw [e5]
      simp only [M277, e277_0, e277_19, e277_42, e277_65, Option.getD_some, Option.bind_some, Option.toList_some, Option.toList_none, List.cons_append, List.nil_append, and_self, and_true, true_and, false_and, and_false, ite_self, not_true_eq_false, not_false_eq_true, reduceIte, Nat.reduceEqDiff, ab_I, ab_L, ab_R, ao_I, ao_L, ao_R, gL_sL, gI_sI, gR_sR, gI_sL, gI_sR, gL_sI, gL_sR, gR_sI, gR_sL, aw, mrgL, av_a, av_s, gC2, gC3, gC4, gC5, wC2, wC3, wC4, wC5, h5, s0]
  rw [← e0] at key
  exact key
theorem T276 (hp : isNm σ p) (hq : isNm σ q) (hne : ¬ q = p) (hb : ¬ (isC (rC σ p) ∧ isC (rC σ q))) : okc (MM 276 [mR (some p), mR (some q)] σ) none (fun τ => (rC τ p = (unlN (rC σ p) (rC σ q)).1 ∧ rC τ q = (unlN (rC σ p) (rC σ q)).2) ∧ (∀ k s, gI τ k s = gI σ k s) ∧ (∀ k s, ¬ k = p → ¬ k = q → gL τ k s = gL σ k s) ∧ τ.2.2 = σ.2.2) := by
  have p0 : gL σ p 0 = jV (rC σ p) := rfl
  have q0 : gL σ q 0 = jV (rC σ q) := rfl
  have p1 : gL σ p 1 = jM (rC σ p) := rfl
  have q1 : gL σ q 1 = jM (rC σ q) := rfl
  have ap := aoN hp
  have aq := aoN hq
  have t69p := T69 hp
  have t69q := T69 hq
  rw [p1] at t69p
  rw [q1] at t69q
  have t77p := T277 (d := jV (rC σ q)) hp
  have t77q := T277 (d := jV (rC σ p)) hq
  unfold unlN
  by_cases cx : isC (rC σ p)
  · have cy : ¬ isC (rC σ q) := fun z => hb ⟨cx, z⟩
    rw [b2_yes cx] at t69p
    rw [b2_no cy] at t69q
    rw [if_neg (fun z => cy (z.mp cx)), if_pos cx]
    refine okc_o (τ := wC σ q (notN (rC σ q) (jV (rC σ p)))) ?_ ⟨⟨?_, ?_⟩, fun _ _ => rfl, fun k s a b => gC_ne b, rfl⟩
    · simp only [M276, e276_0, e276_4, e276_14, e276_25, e276_34, Option.getD_some, Option.bind_some, Option.toList_some, Option.toList_none, List.cons_append, List.nil_append, and_self, and_true, true_and, false_and, and_false, ite_self, not_true_eq_false, not_false_eq_true, reduceIte, Nat.reduceEqDiff, ab_I, ab_L, ab_R, ao_I, ao_L, ao_R, gL_sL, gI_sI, gR_sR, gI_sL, gI_sR, gL_sI, gL_sR, gR_sI, gR_sL, ap, aq, t69p, t69q, oneI, p0, t77q]
    · rw [rC_wC, if_neg (fun z => hne z.symm)]
    · rw [rC_wC, if_pos rfl]
  · rw [b2_no cx] at t69p
    by_cases cy : isC (rC σ q)
    · rw [b2_yes cy] at t69q
      rw [if_neg (fun z => cx (z.mpr cy)), if_neg cx]
      refine okc_o (τ := wC σ p (notN (rC σ p) (jV (rC σ q)))) ?_ ⟨⟨?_, ?_⟩, fun _ _ => rfl, fun k s a b => gC_ne a, rfl⟩
      · simp only [M276, e276_0, e276_4, e276_14, e276_25, e276_34, Option.getD_some, Option.bind_some, Option.toList_some, Option.toList_none, List.cons_append, List.nil_append, and_self, and_true, true_and, false_and, and_false, ite_self, not_true_eq_false, not_false_eq_true, reduceIte, Nat.reduceEqDiff, ab_I, ab_L, ab_R, ao_I, ao_L, ao_R, gL_sL, gI_sI, gR_sR, gI_sL, gI_sR, gL_sI, gL_sR, gR_sI, gR_sL, ap, aq, t69p, t69q, oneI, q0, t77p]
      · rw [rC_wC, if_pos rfl]
      · rw [rC_wC, if_neg hne]
    · rw [b2_no cy] at t69q
      rw [if_pos ⟨fun z => absurd z cx, fun z => absurd z cy⟩]
      refine okc_o (τ := σ) ?_ ⟨⟨rfl, rfl⟩, fun _ _ => rfl, fun _ _ _ _ => rfl, rfl⟩
      simp only [M276, e276_0, e276_4, e276_14, e276_25, e276_34, Option.getD_some, Option.bind_some, Option.toList_some, Option.toList_none, List.cons_append, List.nil_append, and_self, and_true, true_and, false_and, and_false, ite_self, not_true_eq_false, not_false_eq_true, reduceIte, Nat.reduceEqDiff, ab_I, ab_L, ab_R, ao_I, ao_L, ao_R, gL_sL, gI_sI, gR_sR, gI_sL, gI_sR, gL_sI, gL_sR, gR_sI, gR_sL, ap, aq, t69p, t69q]
theorem T279u {m : Int} (hp : isNm σ p) (hq : isNm σ q) (hne : ¬ q = p) : MM 279 [mR (some p), mR (some q), mI 0, mI m] σ = some (none, sL (sL σ p 2 (bmax (jA (rC σ p)) (jA (rC σ q) + iL m))) q 3 (bmin (jB (rC σ q)) (jB (rC σ p) - iL m))) := by
  have p2 : gL σ p 2 = jA (rC σ p) := rfl
  have p3 : gL σ p 3 = jB (rC σ p) := rfl
  have q2 : gL σ q 2 = jA (rC σ q) := rfl
  have q3 : gL σ q 3 = jB (rC σ q) := rfl
  generalize rC σ p = x at *
  generalize rC σ q = y at *
  have ap := aoN hp
  have aq := aoN hq
  simp only [M279, e279_0, e279_79, e279_91, e279_104, e279_116, Option.getD_some, Option.bind_some, Option.toList_some, Option.toList_none, List.cons_append, List.nil_append, and_self, and_true, true_and, false_and, and_false, ite_self, not_true_eq_false, not_false_eq_true, reduceIte, Nat.reduceEqDiff, ab_I, ab_L, ab_R, ao_I, ao_L, ao_R, gL_sL, gI_sI, gR_sR, gI_sL, gI_sR, gL_sI, gL_sR, gR_sI, gR_sL, ap, aq, hne, p2, p3, q2, q3, T17, b2_0', mrgL, mxi, mni]
theorem T279s {m : Int} (hp : isNm σ p) (hq : isNm σ q) (hne : ¬ q = p) : MM 279 [mR (some p), mR (some q), mI 1, mI m] σ = some (none, sL (sL σ p 4 (smax (jC (rC σ p)) (jC (rC σ q) + iL m))) q 5 (smin (jD (rC σ q)) (jD (rC σ p) - iL m))) := by
  have p2 : gL σ p 4 = jC (rC σ p) := rfl
  have p3 : gL σ p 5 = jD (rC σ p) := rfl
  have q2 : gL σ q 4 = jC (rC σ q) := rfl
  have q3 : gL σ q 5 = jD (rC σ q) := rfl
  generalize rC σ p = x at *
  generalize rC σ q = y at *
  have ap := aoN hp
  have aq := aoN hq
  simp only [M279, e279_0, e279_32, e279_45, Option.getD_some, Option.bind_some, Option.toList_some, Option.toList_none, List.cons_append, List.nil_append, and_self, and_true, true_and, false_and, and_false, ite_self, not_true_eq_false, not_false_eq_true, reduceIte, Nat.reduceEqDiff, ab_I, ab_L, ab_R, ao_I, ao_L, ao_R, gL_sL, gI_sI, gR_sR, gI_sL, gI_sR, gL_sI, gL_sR, gR_sI, gR_sL, ap, aq, hne, oneI, p2, p3, q2, q3, T571, T572]
/-- the numbers on the two ways, not yet tidied -/
def nrP (τ : MS) (c : Int) (x y : N6) : Prop := (rC τ 47 = (narN c true x y).1 ∧ rC τ 48 = (narN c true x y).2) ∧ rC τ 49 = (if c = 64 ∧ isC y then cl64 x y else (narN c false x y).1) ∧ rC τ 50 = (narN c false x y).2
theorem nrP_n (h : ¬ c = 64) (a : rC τ 47 = (narN c true x y).1) (b : rC τ 48 = (narN c true x y).2) (e : rC τ 49 = (narN c false x y).1) (f : rC τ 50 = (narN c false x y).2) : nrP τ c x y := ⟨⟨a, b⟩, by rw [if_neg (fun z => h z.1)]; exact e, f⟩
theorem T274 (hc : isCmp c) (ex : rC σ 42 = x) (ey : rC σ 43 = y) (hb : c = 16 ∨ c = 80 → ¬ (isC x ∧ isC y)) : okc (MM 274 [mR (some 40), mI c, mI (b2 (isSgn c))] σ) none (fun τ => nrP τ c x y ∧ nfq τ σ) := by
  have t66a := T66 (σ := σ) (k := 47) (j := 42) (kc_47 _) (kc_42 _) (by decide)
  rw [ex] at t66a
  have t66b := T66 (σ := wC σ 47 x) (k := 48) (j := 43) (kc_48 _) (kc_43 _) (by decide)
  rw [rC_wC, if_neg (by decide), ey] at t66b
  have t66c := T66 (σ := wC (wC σ 47 x) 48 y) (k := 49) (j := 42) (kc_49 _) (kc_42 _) (by decide)
  rw [rC_wC, if_neg (by decide), rC_wC, if_neg (by decide), ex] at t66c
  have t66d := T66 (σ := wC (wC (wC σ 47 x) 48 y) 49 x) (k := 50) (j := 43) (kc_50 _) (kc_43 _) (by decide)
  rw [rC_wC, if_neg (by decide), rC_wC, if_neg (by decide), rC_wC, if_neg (by decide), ey] at t66d
  have s44 : MM 274 [mR (some 40), mI c, mI (b2 (isSgn c))] σ = RR (lkB tb274) (B274_44, [some (mR (some 40)), some (mI c), some (mI (b2 (isSgn c)))], [], wC (wC (wC (wC σ 47 x) 48 y) 49 x) 50 y) := by
    simp only [M274, e274_0, e274_11, e274_22, e274_33, Option.getD_some, Option.bind_some, Option.toList_some, Option.toList_none, List.cons_append, List.nil_append, and_self, and_true, true_and, false_and, and_false, ite_self, not_true_eq_false, not_false_eq_true, reduceIte, Nat.reduceEqDiff, ab_I, ab_L, ab_R, ao_I, ao_L, ao_R, gL_sL, gI_sI, gR_sR, gI_sL, gI_sR, gL_sI, gL_sR, gR_sI, gR_sL, t66a, t66b, t66c, t66d]
  rw [s44]
  have q0 : nfq (wC (wC (wC (wC σ 47 x) 48 y) 49 x) 50 y) σ := nfq_t (nfq_w (by omega)) (nfq_t (nfq_w (by omega)) (nfq_t (nfq_w (by omega)) (nfq_w (by omega))))
  have r42 : rC (wC (wC (wC (wC σ 47 x) 48 y) 49 x) 50 y) 43 = y := by rw [rC_wC, if_neg (by decide), rC_wC, if_neg (by decide), rC_wC, if_neg (by decide), rC_wC, if_neg (by decide), ey]
  have r47 : rC (wC (wC (wC (wC σ 47 x) 48 y) 49 x) 50 y) 47 = x := by rw [rC_wC, if_neg (by decide), rC_wC, if_neg (by decide), rC_wC, if_neg (by decide), rC_wC, if_pos rfl]
  have r48 : rC (wC (wC (wC (wC σ 47 x) 48 y) 49 x) 50 y) 48 = y := by rw [rC_wC, if_neg (by decide), rC_wC, if_neg (by decide), rC_wC, if_pos rfl]
  have r49 : rC (wC (wC (wC (wC σ 47 x) 48 y) 49 x) 50 y) 49 = x := by rw [rC_wC, if_neg (by decide), rC_wC, if_pos rfl]
  have r50 : rC (wC (wC (wC (wC σ 47 x) 48 y) 49 x) 50 y) 50 = y := by rw [rC_wC, if_pos rfl]
  generalize wC (wC (wC (wC σ 47 x) 48 y) 49 x) 50 y = ρ at *
  clear t66a t66b t66c t66d s44
  have one : iL 1 = 1#64 := rfl
  have zer : iL 0 = 0#64 := rfl
  -- two orders, one for each way
  have ordu : ∀ (a b e f : Nat) (m m' : Int), ((a = 47 ∧ b = 48) ∨ (a = 48 ∧ b = 47)) → ((e = 50 ∧ f = 49) ∨ (e = 49 ∧ f = 50)) → ∃ τ1 τ2, MM 279 [mR (some a), mR (some b), mI 0, mI m] ρ = some (none, τ1) ∧ MM 279 [mR (some e), mR (some f), mI 0, mI m'] τ1 = some (none, τ2) ∧ nfq τ2 σ
      ∧ rC τ2 a = setN (rC ρ a) 2 (bmax (jA (rC ρ a)) (jA (rC ρ b) + iL m)) ∧ rC τ2 b = setN (rC ρ b) 3 (bmin (jB (rC ρ b)) (jB (rC ρ a) - iL m)) ∧ rC τ2 e = setN (rC ρ e) 2 (bmax (jA (rC ρ e)) (jA (rC ρ f) + iL m')) ∧ rC τ2 f = setN (rC ρ f) 3 (bmin (jB (rC ρ f)) (jB (rC ρ e) - iL m')) := fun a b e f m m' h1 h2 => by
    have na : isNm ρ a := by rcases h1 with ⟨h, -⟩ | ⟨h, -⟩ <;> subst h <;> rfl
    have nb : isNm ρ b := by rcases h1 with ⟨-, h⟩ | ⟨-, h⟩ <;> subst h <;> rfl
    have t1 := T279u (m := m) na nb (by omega)
    obtain ⟨τ1, hτ1⟩ : ∃ τ1, τ1 = sL (sL ρ a 2 (bmax (jA (rC ρ a)) (jA (rC ρ b) + iL m))) b 3 (bmin (jB (rC ρ b)) (jB (rC ρ a) - iL m)) := ⟨_, rfl⟩
    rw [← hτ1] at t1
    have ne : isNm τ1 e := by rcases h2 with ⟨h, -⟩ | ⟨h, -⟩ <;> subst h <;> rfl
    have nf : isNm τ1 f := by rcases h2 with ⟨-, h⟩ | ⟨-, h⟩ <;> subst h <;> rfl
    have t2 := T279u (m := m') ne nf (by omega)
    have re : rC τ1 e = rC ρ e := by rw [hτ1, rC_sL, if_neg (by omega), rC_sL, if_neg (by omega)]
    have rf : rC τ1 f = rC ρ f := by rw [hτ1, rC_sL, if_neg (by omega), rC_sL, if_neg (by omega)]
    rw [re, rf] at t2
    refine ⟨τ1, _, t1, t2, nfq_t (nfq_l (by omega)) (nfq_t (nfq_l (by omega)) (nfq_t (by rw [hτ1]; exact nfq_t (nfq_l (by omega)) (nfq_l (by omega))) q0)), ?_, ?_, ?_, ?_⟩
    · rw [rC_sL, if_neg (by omega), rC_sL, if_neg (by omega), hτ1, rC_sL, if_neg (by omega), rC_sL, if_pos rfl]
    · rw [rC_sL, if_neg (by omega), rC_sL, if_neg (by omega), hτ1, rC_sL, if_pos rfl, rC_sL, if_neg (by omega)]
    · rw [rC_sL, if_neg (by omega), rC_sL, if_pos rfl, re]
    · rw [rC_sL, if_pos rfl, rC_sL, if_neg (by omega), rf]
  have ords : ∀ (a b e f : Nat) (m m' : Int), ((a = 47 ∧ b = 48) ∨ (a = 48 ∧ b = 47)) → ((e = 50 ∧ f = 49) ∨ (e = 49 ∧ f = 50)) → ∃ τ1 τ2, MM 279 [mR (some a), mR (some b), mI 1, mI m] ρ = some (none, τ1) ∧ MM 279 [mR (some e), mR (some f), mI 1, mI m'] τ1 = some (none, τ2) ∧ nfq τ2 σ
      ∧ rC τ2 a = setN (rC ρ a) 4 (smax (jC (rC ρ a)) (jC (rC ρ b) + iL m)) ∧ rC τ2 b = setN (rC ρ b) 5 (smin (jD (rC ρ b)) (jD (rC ρ a) - iL m)) ∧ rC τ2 e = setN (rC ρ e) 4 (smax (jC (rC ρ e)) (jC (rC ρ f) + iL m')) ∧ rC τ2 f = setN (rC ρ f) 5 (smin (jD (rC ρ f)) (jD (rC ρ e) - iL m')) := fun a b e f m m' h1 h2 => by
    have na : isNm ρ a := by rcases h1 with ⟨h, -⟩ | ⟨h, -⟩ <;> subst h <;> rfl
    have nb : isNm ρ b := by rcases h1 with ⟨-, h⟩ | ⟨-, h⟩ <;> subst h <;> rfl
    have t1 := T279s (m := m) na nb (by omega)
    obtain ⟨τ1, hτ1⟩ : ∃ τ1, τ1 = sL (sL ρ a 4 (smax (jC (rC ρ a)) (jC (rC ρ b) + iL m))) b 5 (smin (jD (rC ρ b)) (jD (rC ρ a) - iL m)) := ⟨_, rfl⟩
    rw [← hτ1] at t1
    have ne : isNm τ1 e := by rcases h2 with ⟨h, -⟩ | ⟨h, -⟩ <;> subst h <;> rfl
    have nf : isNm τ1 f := by rcases h2 with ⟨-, h⟩ | ⟨-, h⟩ <;> subst h <;> rfl
    have t2 := T279s (m := m') ne nf (by omega)
    have re : rC τ1 e = rC ρ e := by rw [hτ1, rC_sL, if_neg (by omega), rC_sL, if_neg (by omega)]
    have rf : rC τ1 f = rC ρ f := by rw [hτ1, rC_sL, if_neg (by omega), rC_sL, if_neg (by omega)]
    rw [re, rf] at t2
    refine ⟨τ1, _, t1, t2, nfq_t (nfq_l (by omega)) (nfq_t (nfq_l (by omega)) (nfq_t (by rw [hτ1]; exact nfq_t (nfq_l (by omega)) (nfq_l (by omega))) q0)), ?_, ?_, ?_, ?_⟩
    · rw [rC_sL, if_neg (by omega), rC_sL, if_neg (by omega), hτ1, rC_sL, if_neg (by omega), rC_sL, if_pos rfl]
    · rw [rC_sL, if_neg (by omega), rC_sL, if_neg (by omega), hτ1, rC_sL, if_pos rfl, rC_sL, if_neg (by omega)]
    · rw [rC_sL, if_neg (by omega), rC_sL, if_pos rfl, re]
    · rw [rC_sL, if_pos rfl, rC_sL, if_neg (by omega), rf]
  rcases hc with rfl | rfl | rfl | rfl | rfl | rfl | rfl | rfl | rfl | rfl | rfl
  · -- 16
    have hb := hb (Or.inl rfl)
    have t75 := T275 (σ := ρ) (p := 47) (q := 48) (kc_47 _) (kc_48 _) (by decide)
    rw [r47, r48] at t75
    obtain ⟨ρ1, hρ1⟩ : ∃ ρ1, ρ1 = wC (wC ρ 47 (bothN x y)) 48 (bothN x y) := ⟨_, rfl⟩
    rw [← hρ1] at t75
    have e49 : rC ρ1 49 = x := by rw [hρ1, rC_wC, if_neg (by decide), rC_wC, if_neg (by decide), r49]
    have e50 : rC ρ1 50 = y := by rw [hρ1, rC_wC, if_neg (by decide), rC_wC, if_neg (by decide), r50]
    have e47 : rC ρ1 47 = bothN x y := by rw [hρ1, rC_wC, if_neg (by decide), rC_wC, if_pos rfl]
    have e48 : rC ρ1 48 = bothN x y := by rw [hρ1, rC_wC, if_pos rfl]
    have qq : nfq ρ1 σ := by rw [hρ1]; exact nfq_t (nfq_w (by omega)) (nfq_t (nfq_w (by omega)) q0)
    obtain ⟨τ, t76, ⟨a1, a2⟩, a3, a4, a5⟩ := T276 (σ := ρ1) (p := 49) (q := 50) (kc_49 _) (kc_50 _) (by decide) (by rw [e49, e50]; exact hb)
    rw [e49, e50] at a1 a2
    have kp : ∀ i, ¬ i = 49 → ¬ i = 50 → rC τ i = rC ρ1 i := fun i h1 h2 => by
      unfold rC
      rw [a4 i _ h1 h2, a4 i _ h1 h2, a4 i _ h1 h2, a4 i _ h1 h2, a4 i _ h1 h2, a4 i _ h1 h2]
    refine okc_o (τ := τ) ?_ ⟨nrP_n (by decide) ?_ ?_ a1 a2, nfq_t ⟨a3, fun k s h => a4 k s (by omega) (by omega), a5⟩ qq⟩
    · simp only [e274_44, e274_139, e274_150, e274_298, Option.getD_some, Option.bind_some, Option.toList_some, Option.toList_none, List.cons_append, List.nil_append, and_self, and_true, true_and, false_and, and_false, ite_self, not_true_eq_false, not_false_eq_true, reduceIte, Nat.reduceEqDiff, ab_I, ab_L, ab_R, ao_I, ao_L, ao_R, gL_sL, gI_sI, gR_sR, gI_sL, gI_sR, gL_sI, gL_sR, gR_sI, gR_sL, t75, t76]
    · rw [kp 47 (by decide) (by decide), e47]; rfl
    · rw [kp 48 (by decide) (by decide), e48]; rfl
  · obtain ⟨τ1, τ2, t1, t2, qq, a1, a2, a3, a4⟩ := ordu 47 48 50 49 1 0 (Or.inl ⟨rfl, rfl⟩) (Or.inl ⟨rfl, rfl⟩)
    rw [r47, r48] at a1 a2
    rw [r49, r50] at a3 a4
    have s0 : b2 (isSgn 32) = 0 := b2_no (by decide)
    refine okc_o (τ := τ2) ?_ ⟨nrP_n (by decide) a1 a2 a4 a3, qq⟩
    simp only [e274_44, e274_198, e274_211, e274_298, Option.getD_some, Option.bind_some, Option.toList_some, Option.toList_none, List.cons_append, List.nil_append, and_self, and_true, true_and, false_and, and_false, ite_self, not_true_eq_false, not_false_eq_true, reduceIte, Nat.reduceEqDiff, ab_I, ab_L, ab_R, ao_I, ao_L, ao_R, gL_sL, gI_sI, gR_sR, gI_sL, gI_sR, gL_sI, gL_sR, gR_sI, gR_sL, Int.reduceEq, s0, t1, t2]
  · obtain ⟨τ1, τ2, t1, t2, qq, a1, a2, a3, a4⟩ := ordu 47 48 50 49 0 1 (Or.inl ⟨rfl, rfl⟩) (Or.inl ⟨rfl, rfl⟩)
    rw [r47, r48] at a1 a2
    rw [r49, r50] at a3 a4
    have s0 : b2 (isSgn 48) = 0 := b2_no (by decide)
    refine okc_o (τ := τ2) ?_ ⟨nrP_n (by decide) a1 a2 a4 a3, qq⟩
    simp only [e274_44, e274_227, e274_240, e274_298, Option.getD_some, Option.bind_some, Option.toList_some, Option.toList_none, List.cons_append, List.nil_append, and_self, and_true, true_and, false_and, and_false, ite_self, not_true_eq_false, not_false_eq_true, reduceIte, Nat.reduceEqDiff, ab_I, ab_L, ab_R, ao_I, ao_L, ao_R, gL_sL, gI_sI, gR_sR, gI_sL, gI_sR, gL_sI, gL_sR, gR_sI, gR_sL, Int.reduceEq, s0, t1, t2]
  · -- 64
    have t69 := T69 (σ := ρ) (k := 43) (kc_43 _)
    have g1 : gL ρ 43 1 = jM y := by rw [← r42]; rfl
    have g0 : gL ρ 43 0 = jV y := by rw [← r42]; rfl
    rw [g1] at t69
    by_cases cy : isC y
    · rw [b2_yes cy] at t69
      have p7 : gL ρ 47 0 = jV x := by rw [← r47]; rfl
      have p71 : gL ρ 47 1 = jM x := by rw [← r47]; rfl
      have p9 : gL ρ 49 0 = jV x := by rw [← r49]; rfl
      have p91 : gL ρ 49 1 = jM x := by rw [← r49]; rfl
      by_cases b1 : bcF (jV y) = 1
      · refine okc_o (τ := sL (sL (sL (sL ρ 47 0 (jV x ||| jV y)) 47 1 (jM x &&& ~~~ jV y)) 49 0 (jV x &&& ~~~ jV y)) 49 1 (jM x &&& ~~~ jV y)) ?_ ⟨⟨⟨?_, ?_⟩, ?_, ?_⟩, nfq_t (nfq_l (by omega)) (nfq_t (nfq_l (by omega)) (nfq_t (nfq_l (by omega)) (nfq_t (nfq_l (by omega)) q0)))⟩
        · simp only [e274_44, e274_182, e274_298, M278, e278_0, e278_7, e278_21, e278_67, Option.getD_some, Option.bind_some, Option.toList_some, Option.toList_none, List.cons_append, List.nil_append, and_self, and_true, true_and, false_and, and_false, ite_self, not_true_eq_false, not_false_eq_true, reduceIte, Nat.reduceEqDiff, ab_I, ab_L, ab_R, ao_I, ao_L, ao_R, gL_sL, gI_sI, gR_sR, gI_sL, gI_sR, gL_sI, gL_sR, gR_sI, gR_sL, Int.reduceEq, t69, oneI, g0, T569, b1, p7, p71, p9, p91, iL_m1, xor_all]
        · rw [rC_sL, if_neg (by decide), rC_sL, if_neg (by decide), rC_sL, if_pos rfl, rC_sL, if_pos rfl, r47]
          show _ = (if isC y ∧ true = true ∧ jV y &&& (jV y - 1#64) = 0#64 then ((jV x ||| jV y, jM x &&& ~~~ jV y, jA x, jB x, jC x, jD x), y) else if isC y ∧ true = false then ((jV x, jM x &&& ~~~ jV y, jA x, jB x, jC x, jD x), y) else (x, y)).1
          rw [if_pos ⟨cy, rfl, bc_one b1⟩]
          rfl
        · rw [rC_sL, if_neg (by decide), rC_sL, if_neg (by decide), rC_sL, if_neg (by decide), rC_sL, if_neg (by decide), r48]
          show _ = (if isC y ∧ true = true ∧ jV y &&& (jV y - 1#64) = 0#64 then ((jV x ||| jV y, jM x &&& ~~~ jV y, jA x, jB x, jC x, jD x), y) else if isC y ∧ true = false then ((jV x, jM x &&& ~~~ jV y, jA x, jB x, jC x, jD x), y) else (x, y)).2
          rw [if_pos ⟨cy, rfl, bc_one b1⟩]
        · rw [rC_sL, if_pos rfl, rC_sL, if_pos rfl, rC_sL, if_neg (by decide), rC_sL, if_neg (by decide), r49, if_pos ⟨rfl, cy⟩]
          rfl
        · rw [rC_sL, if_neg (by decide), rC_sL, if_neg (by decide), rC_sL, if_neg (by decide), rC_sL, if_neg (by decide), r50]
          show _ = (if isC y ∧ false = true ∧ jV y &&& (jV y - 1#64) = 0#64 then ((jV x ||| jV y, jM x &&& ~~~ jV y, jA x, jB x, jC x, jD x), y) else if isC y ∧ false = false then ((jV x, jM x &&& ~~~ jV y, jA x, jB x, jC x, jD x), y) else (x, y)).2
          rw [if_neg (fun z => by cases z.2.1), if_pos ⟨cy, rfl⟩]
      · have y1 : (narN 64 true x y) = (x, y) ∨ (narN 64 true x y) = (x, y) := by
          left
          show (if isC y ∧ true = true ∧ jV y &&& (jV y - 1#64) = 0#64 then ((jV x ||| jV y, jM x &&& ~~~ jV y, jA x, jB x, jC x, jD x), y) else if isC y ∧ true = false then ((jV x, jM x &&& ~~~ jV y, jA x, jB x, jC x, jD x), y) else (x, y)) = (x, y)
          by_cases pz : jV y &&& (jV y - 1#64) = 0#64
          · have y0 : jV y = 0#64 := Classical.byContradiction fun z => b1 (bc_pow pz z)
            rw [if_pos ⟨cy, rfl, pz⟩, y0]
            have o1 : jV x ||| 0#64 = jV x := by simp
            have o2 : jM x &&& ~~~ 0#64 = jM x := by
              apply BitVec.eq_of_getLsbD_eq
              intro i hi
              simp [hi]
            rw [o1, o2]
          · rw [if_neg (fun z => pz z.2.2), if_neg (fun z => by cases z.2)]
        have y1 := y1.elim id id
        refine okc_o (τ := sL (sL ρ 49 0 (jV x &&& ~~~ jV y)) 49 1 (jM x &&& ~~~ jV y)) ?_ ⟨⟨⟨?_, ?_⟩, ?_, ?_⟩, nfq_t (nfq_l (by omega)) (nfq_t (nfq_l (by omega)) q0)⟩
        · simp only [e274_44, e274_182, e274_298, M278, e278_0, e278_7, e278_21, e278_67, Option.getD_some, Option.bind_some, Option.toList_some, Option.toList_none, List.cons_append, List.nil_append, and_self, and_true, true_and, false_and, and_false, ite_self, not_true_eq_false, not_false_eq_true, reduceIte, Nat.reduceEqDiff, ab_I, ab_L, ab_R, ao_I, ao_L, ao_R, gL_sL, gI_sI, gR_sR, gI_sL, gI_sR, gL_sI, gL_sR, gR_sI, gR_sL, Int.reduceEq, t69, oneI, g0, T569, b1, p7, p71, p9, p91, iL_m1, xor_all]
        · rw [rC_sL, if_neg (by decide), rC_sL, if_neg (by decide), r47, y1]
        · rw [rC_sL, if_neg (by decide), rC_sL, if_neg (by decide), r48, y1]
        · rw [rC_sL, if_pos rfl, rC_sL, if_pos rfl, r49, if_pos ⟨rfl, cy⟩]
          rfl
        · rw [rC_sL, if_neg (by decide), rC_sL, if_neg (by decide), r50]
          show _ = (if isC y ∧ false = true ∧ jV y &&& (jV y - 1#64) = 0#64 then ((jV x ||| jV y, jM x &&& ~~~ jV y, jA x, jB x, jC x, jD x), y) else if isC y ∧ false = false then ((jV x, jM x &&& ~~~ jV y, jA x, jB x, jC x, jD x), y) else (x, y)).2
          rw [if_neg (fun z => by cases z.2.1), if_pos ⟨cy, rfl⟩]
    · rw [b2_no cy] at t69
      have yn : ∀ is : Bool, narN 64 is x y = (x, y) := fun is => by
        show (if isC y ∧ is = true ∧ jV y &&& (jV y - 1#64) = 0#64 then ((jV x ||| jV y, jM x &&& ~~~ jV y, jA x, jB x, jC x, jD x), y) else if isC y ∧ is = false then ((jV x, jM x &&& ~~~ jV y, jA x, jB x, jC x, jD x), y) else (x, y)) = (x, y)
        rw [if_neg (fun z => cy z.1), if_neg (fun z => cy z.1)]
      refine okc_o (τ := ρ) ?_ ⟨⟨⟨?_, ?_⟩, ?_, ?_⟩, q0⟩
      · simp only [e274_44, e274_182, e274_298, M278, e278_0, e278_7, Option.getD_some, Option.bind_some, Option.toList_some, Option.toList_none, List.cons_append, List.nil_append, and_self, and_true, true_and, false_and, and_false, ite_self, not_true_eq_false, not_false_eq_true, reduceIte, Nat.reduceEqDiff, ab_I, ab_L, ab_R, ao_I, ao_L, ao_R, gL_sL, gI_sI, gR_sR, gI_sL, gI_sR, gL_sI, gL_sR, gR_sI, gR_sL, Int.reduceEq, t69]
      · rw [yn, r47]
      · rw [yn, r48]
      · rw [if_neg (fun z => cy z.2), yn, r49]
      · rw [yn, r50]
  · -- 80
    have hb := hb (Or.inr rfl)
    obtain ⟨ρ1, t76, ⟨a1, a2⟩, a3, a4, a5⟩ := T276 (σ := ρ) (p := 47) (q := 48) (kc_47 _) (kc_48 _) (by decide) (by rw [r47, r48]; exact hb)
    rw [r47, r48] at a1 a2
    have kp : ∀ i, ¬ i = 47 → ¬ i = 48 → rC ρ1 i = rC ρ i := fun i h1 h2 => by
      unfold rC
      rw [a4 i _ h1 h2, a4 i _ h1 h2, a4 i _ h1 h2, a4 i _ h1 h2, a4 i _ h1 h2, a4 i _ h1 h2]
    have e49 : rC ρ1 49 = x := by rw [kp 49 (by decide) (by decide), r49]
    have e50 : rC ρ1 50 = y := by rw [kp 50 (by decide) (by decide), r50]
    have k49 : isNm ρ1 49 := rfl
    have k50 : isNm ρ1 50 := rfl
    have t75 := T275 (σ := ρ1) (p := 49) (q := 50) k49 k50 (by decide)
    rw [e49, e50] at t75
    refine okc_o (τ := wC (wC ρ1 49 (bothN x y)) 50 (bothN x y)) ?_ ⟨nrP_n (by decide) ?_ ?_ ?_ ?_, nfq_t (nfq_w (by omega)) (nfq_t (nfq_w (by omega)) (nfq_t ⟨a3, fun k s h => a4 k s (by omega) (by omega), a5⟩ q0))⟩
    · simp only [e274_44, e274_164, e274_175, e274_298, Option.getD_some, Option.bind_some, Option.toList_some, Option.toList_none, List.cons_append, List.nil_append, and_self, and_true, true_and, false_and, and_false, ite_self, not_true_eq_false, not_false_eq_true, reduceIte, Nat.reduceEqDiff, ab_I, ab_L, ab_R, ao_I, ao_L, ao_R, gL_sL, gI_sI, gR_sR, gI_sL, gI_sR, gL_sI, gL_sR, gR_sI, gR_sL, Int.reduceEq, t75, t76]
    · rw [rC_wC, if_neg (by decide), rC_wC, if_neg (by decide), a1]; rfl
    · rw [rC_wC, if_neg (by decide), rC_wC, if_neg (by decide), a2]; rfl
    · rw [rC_wC, if_neg (by decide), rC_wC, if_pos rfl]; rfl
    · rw [rC_wC, if_pos rfl]; rfl
  · obtain ⟨τ1, τ2, t1, t2, qq, a1, a2, a3, a4⟩ := ords 47 48 50 49 1 0 (Or.inl ⟨rfl, rfl⟩) (Or.inl ⟨rfl, rfl⟩)
    rw [r47, r48] at a1 a2
    rw [r49, r50] at a3 a4
    have s0 : b2 (isSgn 96) = 1 := b2_yes (by decide)
    refine okc_o (τ := τ2) ?_ ⟨nrP_n (by decide) a1 a2 a4 a3, qq⟩
    simp only [e274_44, e274_198, e274_211, e274_298, Option.getD_some, Option.bind_some, Option.toList_some, Option.toList_none, List.cons_append, List.nil_append, and_self, and_true, true_and, false_and, and_false, ite_self, not_true_eq_false, not_false_eq_true, reduceIte, Nat.reduceEqDiff, ab_I, ab_L, ab_R, ao_I, ao_L, ao_R, gL_sL, gI_sI, gR_sR, gI_sL, gI_sR, gL_sI, gL_sR, gR_sI, gR_sL, Int.reduceEq, s0, t1, t2]
  · obtain ⟨τ1, τ2, t1, t2, qq, a1, a2, a3, a4⟩ := ords 47 48 50 49 0 1 (Or.inl ⟨rfl, rfl⟩) (Or.inl ⟨rfl, rfl⟩)
    rw [r47, r48] at a1 a2
    rw [r49, r50] at a3 a4
    have s0 : b2 (isSgn 112) = 1 := b2_yes (by decide)
    refine okc_o (τ := τ2) ?_ ⟨nrP_n (by decide) a1 a2 a4 a3, qq⟩
    simp only [e274_44, e274_227, e274_240, e274_298, Option.getD_some, Option.bind_some, Option.toList_some, Option.toList_none, List.cons_append, List.nil_append, and_self, and_true, true_and, false_and, and_false, ite_self, not_true_eq_false, not_false_eq_true, reduceIte, Nat.reduceEqDiff, ab_I, ab_L, ab_R, ao_I, ao_L, ao_R, gL_sL, gI_sI, gR_sR, gI_sL, gI_sR, gL_sI, gL_sR, gR_sI, gR_sL, Int.reduceEq, s0, t1, t2]
  · obtain ⟨τ1, τ2, t1, t2, qq, a1, a2, a3, a4⟩ := ordu 48 47 49 50 1 0 (Or.inr ⟨rfl, rfl⟩) (Or.inr ⟨rfl, rfl⟩)
    rw [r47, r48] at a1 a2
    rw [r49, r50] at a3 a4
    have s0 : b2 (isSgn 160) = 0 := b2_no (by decide)
    refine okc_o (τ := τ2) ?_ ⟨nrP_n (by decide) a2 a1 a3 a4, qq⟩
    simp only [e274_44, e274_256, e274_269, e274_298, Option.getD_some, Option.bind_some, Option.toList_some, Option.toList_none, List.cons_append, List.nil_append, and_self, and_true, true_and, false_and, and_false, ite_self, not_true_eq_false, not_false_eq_true, reduceIte, Nat.reduceEqDiff, ab_I, ab_L, ab_R, ao_I, ao_L, ao_R, gL_sL, gI_sI, gR_sR, gI_sL, gI_sR, gL_sI, gL_sR, gR_sI, gR_sL, Int.reduceEq, s0, t1, t2]
  · obtain ⟨τ1, τ2, t1, t2, qq, a1, a2, a3, a4⟩ := ordu 48 47 49 50 0 1 (Or.inr ⟨rfl, rfl⟩) (Or.inr ⟨rfl, rfl⟩)
    rw [r47, r48] at a1 a2
    rw [r49, r50] at a3 a4
    have s0 : b2 (isSgn 176) = 0 := b2_no (by decide)
    refine okc_o (τ := τ2) ?_ ⟨nrP_n (by decide) a2 a1 a3 a4, qq⟩
    simp only [e274_44, e274_285, e274_298, Option.getD_some, Option.bind_some, Option.toList_some, Option.toList_none, List.cons_append, List.nil_append, and_self, and_true, true_and, false_and, and_false, ite_self, not_true_eq_false, not_false_eq_true, reduceIte, Nat.reduceEqDiff, ab_I, ab_L, ab_R, ao_I, ao_L, ao_R, gL_sL, gI_sI, gR_sR, gI_sL, gI_sR, gL_sI, gL_sR, gR_sI, gR_sL, Int.reduceEq, s0, t1, t2]
  · obtain ⟨τ1, τ2, t1, t2, qq, a1, a2, a3, a4⟩ := ords 48 47 49 50 1 0 (Or.inr ⟨rfl, rfl⟩) (Or.inr ⟨rfl, rfl⟩)
    rw [r47, r48] at a1 a2
    rw [r49, r50] at a3 a4
    have s0 : b2 (isSgn 192) = 1 := b2_yes (by decide)
    refine okc_o (τ := τ2) ?_ ⟨nrP_n (by decide) a2 a1 a3 a4, qq⟩
    simp only [e274_44, e274_256, e274_269, e274_298, Option.getD_some, Option.bind_some, Option.toList_some, Option.toList_none, List.cons_append, List.nil_append, and_self, and_true, true_and, false_and, and_false, ite_self, not_true_eq_false, not_false_eq_true, reduceIte, Nat.reduceEqDiff, ab_I, ab_L, ab_R, ao_I, ao_L, ao_R, gL_sL, gI_sI, gR_sR, gI_sL, gI_sR, gL_sI, gL_sR, gR_sI, gR_sL, Int.reduceEq, s0, t1, t2]
  · obtain ⟨τ1, τ2, t1, t2, qq, a1, a2, a3, a4⟩ := ords 48 47 49 50 0 1 (Or.inr ⟨rfl, rfl⟩) (Or.inr ⟨rfl, rfl⟩)
    rw [r47, r48] at a1 a2
    rw [r49, r50] at a3 a4
    have s0 : b2 (isSgn 208) = 1 := b2_yes (by decide)
    refine okc_o (τ := τ2) ?_ ⟨nrP_n (by decide) a2 a1 a3 a4, qq⟩
    simp only [e274_44, e274_285, e274_298, Option.getD_some, Option.bind_some, Option.toList_some, Option.toList_none, List.cons_append, List.nil_append, and_self, and_true, true_and, false_and, and_false, ite_self, not_true_eq_false, not_false_eq_true, reduceIte, Nat.reduceEqDiff, ab_I, ab_L, ab_R, ao_I, ao_L, ao_R, gL_sL, gI_sI, gR_sR, gI_sL, gI_sR, gL_sI, gL_sR, gR_sI, gR_sL, Int.reduceEq, s0, t1, t2]
end CNRW
