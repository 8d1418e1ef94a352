/-! ===== the class's walk: the last way ends ===== -/
section CFIN
variable {τ σ ρ : MS} {cf wf : Nat → Nat} {N k j hc : Nat} {D : Nat → Bool} {S : ST} {E : EV} {t n F C : Int}
theorem T39z {w : WK} (df : dfI w) (po : POOL σ) (h14 : gR σ 39 14 = some hc) (hk : ∀ k, k < yNn w → gR σ 58 k = some (cf k)) (eM : yM w = 0) (hK : KC σ cf (yH w) (yNn w) D)
    (h6 : gR σ hc 6 = some (cf (yK w))) (h7 : gI σ hc 7 = F) (hB : KB (yH w) (yNn w) C) (hC : 0 ≤ C ∧ C ≤ 50000) (hF : 0 ≤ F + n ∧ F + n ≤ C + 4000) (h11 : gI σ 39 11 = (yM w : Int)) :
    okc (MM 39 [mR (some 39), mI n] σ) (some (mI 0)) (fun τ => gI τ 51 3 = kL (endK (yH w) (yK w) (F + n) 0) ∧ ewq τ σ cf (yNn w) 60 ∧ ∀ q s, gR τ q s = gR σ q s) := by
  have N250 := df.2.1.2.1
  have yk := df.2.1.1
  have hd := po_KD po N250 hk
  have sh := (po.1 0 hc (by decide) (sR_z.trans h14))
  obtain ⟨⟨k1, kc⟩, k2, ⟨k5, k7, k9, k10⟩, k6⟩ := hK (yK w) yk
  have K1 := KC_l (n := F + n) hd hK yk
  obtain ⟨σ1, e1⟩ : ∃ σ1, σ1 = sI σ (cf (yK w)) 9 (if kL (yH w (yK w)) < F + n then F + n else kL (yH w (yK w))) := ⟨_, rfl⟩
  rw [← e1] at K1
  have q1 : kcq σ1 σ cf (yNn w) := by rw [e1]; exact kcq_i yk (Or.inl rfl)
  have i11 : gI σ1 39 11 = 0 := by
    rw [q1.1 _ _ (Or.inl (by omega)), h11, eM]
    rfl
  have r2 : ∀ q s, gR σ1 q s = gR σ q s := fun q s => by rw [e1]; rfl
  have st2 : isSt σ1 hc := by rw [e1]; exact sh.1
  have B1 := ov_B hB yk hF hC.1
  obtain ⟨τ2, t40, K3, q3⟩ := T40 (u := none) hd N250 (fun R e => by cases e) K1 B1 yk (by omega) ((r2 _ _).trans h14) st2 ((r2 _ _).trans h6)
  have lu : lstW (yW w) (yM w) = none := by rw [eM]; rfl
  have ec := end_c (n := F + n) df
  rw [lu] at ec
  rw [← ec] at K3
  have h0 : 0 < yNn w := by omega
  obtain ⟨⟨z1, zc⟩, z2, ⟨z5, z7, z9, z10⟩, z6⟩ := K3 0 h0
  have r3 : ∀ q s, gR τ2 q s = gR σ q s := fun q s => by
    show τ2.2.2.1 q s = _
    rw [q3.2]
    exact r2 q s
  have l3 : ∀ q s, gL τ2 q s = gL σ q s := fun q s => by
    show τ2.2.1 q s = _
    rw [q3.2, e1]
    rfl
  have d3 : τ2.2.2.2 = σ.2.2.2 := by rw [q3.2, e1]; rfl
  refine okc_o (τ := sI τ2 51 3 (kL (endK (yH w) (yK w) (F + n) 0))) ?_ ⟨by rw [gI_sI, if_pos ⟨rfl, rfl⟩], ⟨fun q s p1 p2 p3 => ?_, l3, fun q s _ _ => r3 q s, d3⟩, r3⟩
  · have a14 : ao σ 8 (some hc) := of_eq_true (aoS sh.1)
    have aK : ao σ 8 (some (cf (yK w))) := of_eq_true (aoS k1)
    have a0 : ao τ2 8 (some (cf 0)) := of_eq_true (aoS z1)
    have g58 : Option.isSome (some 58) = true ∧ ab τ2 5 58 0 := by rw [g_58]; decide
    have g51 : Option.isSome (some 51) = true ∧ ab τ2 3 51 3 := by rw [g_51]; decide
    have k0 : gR τ2 58 (Int.toNat 0) = some (cf 0) := (r3 _ _).trans (hk 0 h0)
    have ww : w32 (F + n) = F + n := w32_i (by omega) (by omega)
    rw [M39, e39_0, h14, if_pos a14]
    simp only [Option.getD_some, h6]
    rw [if_neg (by show ¬ true = false; decide), if_pos aK, if_pos a14, k9, h7, ww, T570]
    show RR (lkB tb39) (B39_29, [some (mR (some 39)), some (mI n), some (mR (some (cf (yK w)))), none], [mI (if kL (yH w (yK w)) < F + n then F + n else kL (yH w (yK w))), mR (some (cf (yK w)))], σ) = _
    rw [e39_29, if_pos aK, Option.getD_some, ← e1, e39_32, i11, if_neg (not_not_intro rfl), e39_54, if_neg (show ¬ Option.isSome (none : Option Nat) = true by decide)]
    rw [show (none : Option Nat) = (none : Option Nat).map cf from rfl, t40]
    show RR (lkB tb39) (B39_64, [some (mR (some 39)), some (mI n), some (mR (some (cf (yK w)))), some (mR none)], [], τ2) = _
    rw [e39_64, if_pos g58, k0, if_pos (show Option.isSome (some (cf 0)) = true from rfl), if_pos g58, if_pos a0, Option.getD_some, z9, e39_91]
    exact if_pos g51
  · rw [gI_sI, if_neg p3, q3.1 _ _ p1]
    exact q1.1 _ _ p1
end CFIN
