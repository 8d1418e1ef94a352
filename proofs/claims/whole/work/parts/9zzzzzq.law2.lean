/-! ===== the law: its loop, whole; a new machine ===== -/
section LAW2
variable {σ τ ρ υ : MS} {L j c r : Nat} {xs : Nat → Int} {as : List MV} {b1 b2 : List Ins}
theorem law_n (hx : ∀ i, inR (xs i)) (hL : L ≤ 3072) : ∀ (n j : Nat) (σ : MS), L < j + n → REL σ → σ.2.2.2.2.2 = (L, xs) → ∃ σ', RR (lkB tb583) (B583_18, lsW j, [], σ) = some (some (mI 1), σ') ∧ REL σ' := by
  intro n
  induction n with
  | zero =>
    intro j σ h R hs
    refine ⟨σ, ?_, R⟩
    have k9 := scr_k hs
    rw [e583_18, if_pos ⟨rfl, by show (kd σ scrK).1 = 9; rw [k9]⟩, if_pos]
    show w32 (((kd σ scrK).2 : Int) - 6) < (j : Int)
    rw [k9, w32_i (by show -2147483648 ≤ (L : Int) - 6; omega) (by show (L : Int) - 6 < 2147483648; omega)]
    show (L : Int) - 6 < (j : Int)
    omega
  | succ n ih =>
    intro j σ h R hs
    by_cases hj : j + 6 ≤ L
    · obtain ⟨υ, e, R', s'⟩ := law_1 R hs hx hj hL
      have e6 : w32 ((j : Int) + 6) = ((j + 6 : Nat) : Int) := by
        rw [w32_i (by omega) (by omega)]
        rfl
      rw [e, e583_1076, e6]
      exact ih (j + 6) υ (by omega) R' (s'.trans hs)
    · refine ⟨σ, ?_, R⟩
      have k9 := scr_k hs
      rw [e583_18, if_pos ⟨rfl, by show (kd σ scrK).1 = 9; rw [k9]⟩, if_pos]
      show w32 (((kd σ scrK).2 : Int) - 6) < (j : Int)
      rw [k9, w32_i (by show -2147483648 ≤ (L : Int) - 6; omega) (by show (L : Int) - 6 < 2147483648; omega)]
      show (L : Int) - 6 < (j : Int)
      omega
theorem rel_sz (R : REL σ) : nC σ ≤ 600000 ∧ tS σ ≤ 6000000 := by
  obtain ⟨_, _, ⟨b3, b4⟩, _⟩ := R.2.2.2.2.2.2.2.1
  have b1 : ccn σ ≤ 8 := cnt_le _ 8
  have b2 := cnt_le (fun s => (slR σ s).isSome) 312
  omega
def wr0 : WR := (fun _ _ => 0, 1#64, 0#64)
theorem w0_g (k s : Nat) : wg wr0 k s = 0 := rfl
theorem rel_new (hI : ∀ k s, gI σ k s = if k = 51 ∧ s = 0 then -1 else 0) (hl : ∀ k s, gL σ k s = if (k = 71 ∧ s = 13) ∨ (k = 80 ∧ s = 108) then 1#64 else 0#64) (hR : ∀ k s, gR σ k s = if k = 6 ∧ s < 8 then some (7 + s) else if k = 39 ∧ s = 14 then some 62 else if k = 39 ∧ s = 15 then some 66 else none) (hn : nC σ = 153) (ht : tS σ = 0) : REL σ := by
  have z : ∀ k s, ¬ k = 51 → gI σ k s = 0 := fun k s h => by rw [hI, if_neg (by omega)]
  have l : ∀ k s, ¬ ((k = 71 ∧ s = 13) ∨ (k = 80 ∧ s = 108)) → gL σ k s = 0#64 := fun k s h => by rw [hl, if_neg h]
  have h0 : ∀ i, i < 64 → wg wr0 152 i = 0 := fun _ _ => rfl
  have hd : ∀ m, hldR wr0 m = 0 := fun m => hld_z m h0
  have r73 : ∀ s, gR σ 73 s = none := fun s => by rw [hR, if_neg (by omega), if_neg (by omega), if_neg (by omega)]
  have cc : ccn σ = 0 := cnt_no 8 fun s _ => by rw [r73]; rfl
  have s0 : slR σ 0 = some 62 := by
    show gR σ 39 14 = _
    rw [hR, if_neg (by omega), if_pos ⟨rfl, rfl⟩]
  have s1 : slR σ 1 = some 66 := by
    show gR σ 39 15 = _
    rw [hR, if_neg (by omega), if_neg (by omega), if_pos ⟨rfl, rfl⟩]
  have s2 : ∀ s, ¬ s = 0 → ¬ s = 1 → slR σ s = none := fun s h1 h2 => by
    unfold slR
    rw [if_neg h1, if_neg h2]
    split
    · rw [hR, if_neg (by omega), if_neg (by omega), if_neg (by omega)]
    · rw [hR, if_neg (by omega), if_neg (by omega), if_neg (by omega)]
  have sl : ∀ s c, slR σ s = some c → (s = 0 ∧ c = 62) ∨ (s = 1 ∧ c = 66) := fun s c h => by
    by_cases e0 : s = 0
    · rw [e0, s0] at h
      exact Or.inl ⟨e0, (Option.some.inj h).symm⟩
    · by_cases e1 : s = 1
      · rw [e1, s1] at h
        exact Or.inr ⟨e1, (Option.some.inj h).symm⟩
      · rw [s2 s e0 e1] at h
        cases h
  have iI : invW wr0 := by
    refine ⟨fun m hm => ⟨⟨⟨?_, ?_⟩, ⟨?_, ?_⟩, ⟨?_, ?_⟩, ?_, ?_⟩, fun _ => Or.inr rfl⟩, fun m e hm he => ?_, fun k s hk => ⟨?_, ?_⟩, ⟨⟨?_, ?_⟩, ⟨?_, ?_⟩, ?_, ?_⟩, fun i hi hh => absurd rfl hh, fun m hm => ⟨?_, ?_⟩, fun m x hm hx => ?_⟩
    all_goals first | (simp only [w0_g, hd]; decide) | (rw [w0_g] at he; omega)
  have w1 : wldR σ wr0 := ⟨fun k s h => (z k s (by omega)).symm, by rw [hl, if_pos (by omega)]; rfl, by rw [l _ _ (by omega)]; rfl⟩
  have w2 : wldO σ wr0 := by
    refine ⟨⟨fun m hm => ⟨⟨?_, ?_, ?_, ?_, ?_⟩, fun h => ?_, ⟨fun h => ?_, fun _ => ?_⟩, fun h => ?_, fun h => ?_, fun _ => ⟨⟨rfl, rfl, rfl, z _ _ (by omega)⟩, fun i hi => ⟨rfl, rfl, z _ _ (by omega)⟩, fun x hx => by rw [w0_g]; decide⟩⟩, fun i hi h => absurd rfl h, fun i j hi hj h => absurd rfl h⟩, h0, fun s hs => ?_, fun s hs => ?_, ⟨?_, ?_, ?_⟩, fun s hs => ?_, fun s hs => ?_, ⟨?_, ?_, ?_⟩, ?_, ?_⟩
    all_goals first | (rw [w0_g] at h; omega) | (rw [w0_g] at hs; omega) | (rw [w0_g, z _ _ (by omega)]) | skip
    · rw [w0_g]
      decide
    · rw [hl, if_pos (by omega)]
      rfl
    · rw [l _ _ (by omega)]
      rfl
  have cd : cdD 153 0 σ := ⟨fun s K hs h => (by rw [r73] at h; cases h), fun s t K hs ht h => (by rw [r73] at h; cases h), by omega, by omega, by omega⟩
  have mp : MP wr0 := fun m hm => ⟨fun h => absurd rfl h, fun x hx => by rw [w0_g]; decide⟩
  refine ⟨⟨⟨0, by omega, z _ _ (by omega), z _ _ (by omega), fun j => by rw [z _ _ (by omega), z _ _ (by omega)]⟩, ⟨[], by decide, ⟨z _ _ (by omega), fun i hi => absurd hi (Nat.not_lt_zero i)⟩, ⟨z _ _ (by omega), fun i hi => absurd hi (Nat.not_lt_zero i)⟩⟩, ⟨fun s hs => by rw [hR, if_pos ⟨rfl, hs⟩], fun x hx => ⟨by rw [z _ _ (by omega), z _ _ (by omega)], by rw [z _ _ (by omega)]; decide, fun i hi => by rw [z _ _ (by omega)] at hi; omega⟩⟩, fun x hx => ?_, ⟨fun _ => none, fun i S e => (by cases e), fun i hi => ⟨fun S e => (by cases e), fun _ => z _ _ (by omega)⟩, fun i hi => ⟨fun S e => (by cases e), fun _ => z _ _ (by omega)⟩⟩⟩, ⟨wr0, ⟨w1, w2, iI, fun t ht => ⟨Or.inl rfl, rfl⟩, mp, fun s => by rw [w0_g]; decide, fun s => by rw [w0_g]; decide, fun s => by rw [w0_g]; decide⟩, fun m hm h => by show wg wr0 98 m ≤ 0; rw [w0_g]; decide, fun x hx h => absurd (z 85 x (by omega)) h⟩, ⟨by rw [l _ _ (by omega), l _ _ (by omega)], z _ _ (by omega)⟩, fun k s hk => ?_, fun s hs h => absurd (z _ _ (by omega)) h, ⟨153, 0, cd⟩, ⟨fun s c hs h => ?_, fun s s' c c' hs hs' ne h h' => ?_⟩, ⟨fun s c hs h => ?_, by omega, ⟨?_, ?_⟩, by omega⟩, ⟨62, s0⟩, ⟨66, s1⟩, fun s K hs h => by rw [r73] at h; cases h⟩
  · rw [hI, z 80 95 (by omega), if_pos rfl]
    by_cases e : x = 0
    · rw [if_pos ⟨rfl, e⟩, if_pos e]
    · rw [if_neg (fun y => e y.2), if_neg e]
  · rw [hI]
    split
    · decide
    · decide
  · rcases sl s c h with ⟨_, rfl⟩ | ⟨_, rfl⟩
    · exact ⟨⟨kc_62 σ, kc_63 σ, kc_64 σ, kc_65 σ⟩, Or.inl rfl⟩
    · exact ⟨⟨kc_66 σ, kc_67 σ, kc_68 σ, kc_69 σ⟩, Or.inr (Or.inl rfl)⟩
  · have a := sl s c h
    have b := sl s' c' h'
    omega
  · have a := sl s c h
    omega
  · have := cnt_ge (fun s => (slR σ s).isSome) 312
    omega
  · have := cnt_ge (fun s => (slR σ s).isSome) 312
    omega
end LAW2
