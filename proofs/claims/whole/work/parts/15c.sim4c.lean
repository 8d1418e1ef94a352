/-! ===== new cells ===== -/
def grown (σ σ' : MS) (d : Nat) : Prop := nC σ' = nC σ + d ∧ σ'.1 = zr σ.1 (nC σ) (nC σ + d) 0 ∧ σ'.2.1 = zr σ.2.1 (nC σ) (nC σ + d) 0 ∧ σ'.2.2.1 = zr σ.2.2.1 (nC σ) (nC σ + d) none ∧ (∀ k, k < nC σ ∨ nC σ + d ≤ k → σ'.2.2.2.2.1 k = σ.2.2.2.2.1 k) ∧ σ'.2.2.2.2.2 = σ.2.2.2.2.2
theorem grown_I (σ : MS) (n : Nat) : grown σ (alI σ n) 1 := ⟨rfl, rfl, rfl, rfl, fun k h => by
  show (if k = nC σ then (3, n) else σ.2.2.2.2.1 k) = _
  rw [if_neg (by omega)], rfl⟩
theorem grown_S (σ : MS) : grown σ (alS σ) 4 := ⟨rfl, rfl, rfl, rfl, fun k h => by
  show (if k = nC σ then (28, 0) else if k = nC σ + 1 then (4, 1188) else if k = nC σ + 2 then (3, 4) else if k = nC σ + 3 then (3, 64) else σ.2.2.2.2.1 k) = _
  rw [if_neg (by omega), if_neg (by omega), if_neg (by omega), if_neg (by omega)], rfl⟩
theorem zr_out {α : Type} {f : Nat → Nat → α} {a b k s : Nat} {z : α} (h : ¬ (a ≤ k ∧ k < b)) : zr f a b z k s = f k s := by unfold zr; rw [if_neg h]
theorem zr_in {α : Type} {f : Nat → Nat → α} {a b k s : Nat} {z : α} (h : a ≤ k ∧ k < b) : zr f a b z k s = z := by unfold zr; rw [if_pos h]
theorem grown_kd {σ σ' : MS} {d k : Nat} (g : grown σ σ' d) (h : k < nC σ ∨ nC σ + d ≤ k) : kd σ' k = kd σ k := by
  unfold kd
  rw [g.2.2.2.2.2, g.2.2.2.2.1 k h]
theorem grown_gI {σ σ' : MS} {d k s : Nat} (g : grown σ σ' d) (h : k < nC σ) : gI σ' k s = gI σ k s := by
  show σ'.1 k s = σ.1 k s
  rw [g.2.1, zr_out (by omega)]
theorem grown_gL {σ σ' : MS} {d k s : Nat} (g : grown σ σ' d) (h : k < nC σ) : gL σ' k s = gL σ k s := by
  show σ'.2.1 k s = σ.2.1 k s
  rw [g.2.2.1, zr_out (by omega)]
theorem grown_gR {σ σ' : MS} {d k s : Nat} (g : grown σ σ' d) (h : k < nC σ) : gR σ' k s = gR σ k s := by
  show σ'.2.2.1 k s = σ.2.2.1 k s
  rw [g.2.2.2.1, zr_out (by omega)]
theorem grown_mE {cA ad ad' : Nat → Nat} {σ σ' : MS} {d j : Nat} (hO : mOk σ) (g : grown σ σ' d) (had : ∀ k, k < nC σ → ad' k = ad k) (hj : j < nC σ) : mE cA ad' σ' j = mE cA ad σ j := by
  refine mE_congr (grown_kd g (Or.inl hj)) (fun i => grown_gI g hj) (fun i => grown_gL g hj) (fun i => ?_) (fun c s hc hs hf => ?_)
  · rw [grown_gR g hj]
    cases h : gR σ j i with
    | none => rfl
    | some k => show some (ad' k) = some (ad k); rw [had k (hO.2.2.2.1 _ _ _ h)]
  · exact had _ (fIn_lt hO (clN_lt hs) hs hf hc)
theorem grown_mW {cA ad ad' : Nat → Nat} {σ σ' : MS} {d : Nat} (hO : mOk σ) (g : grown σ σ' d) (had : ∀ k, k < nC σ → ad' k = ad k) : mW cA ad' σ' = mW cA ad σ ++ (List.range d).map fun i => (ad' (nC σ + i), mE cA ad' σ' (nC σ + i)) := by
  unfold mW
  rw [g.1, List.range_add, List.map_append, List.map_map]
  congr 1
  apply List.map_congr_left
  intro j hj
  have hj := List.mem_range.mp hj
  rw [had j hj, grown_mE hO g had hj]
theorem grown_ok {σ σ' : MS} {d : Nat} (hO : mOk σ) (g : grown σ σ' d) (hlim : nC σ' < scrK) (hk : ∀ k, nC σ ≤ k → k < nC σ + d → (σ'.2.2.2.2.1 k).2 < 2147483648 ∧ ((σ'.2.2.2.2.1 k).1 ≠ 8 ∧ (σ'.2.2.2.2.1 k).1 ≠ 9 ∧ (σ'.2.2.2.2.1 k).1 ≠ 50) ∧ ((σ'.2.2.2.2.1 k).1 = 28 → k + 3 < nC σ + d)) : mOk σ' := by
  obtain ⟨h1, h2, h3, h4, h5, h6, h7, h8, h9⟩ := hO
  have gn := g.1
  have hkd : ∀ k, nC σ ≤ k → k < nC σ + d → kd σ' k = σ'.2.2.2.2.1 k := fun k a b => by
    have c1 : ¬ k < fxN := by omega
    have c2 : k ≠ scrK := by omega
    have c3 : ¬ (strK ≤ k ∧ k < strK + stN) := fun q => absurd (show scrK ≤ strK by decide) (by omega)
    have c4 : ¬ (strB ≤ k ∧ k < strB + stN) := fun q => absurd (show scrK ≤ strB by decide) (by omega)
    unfold kd
    rw [if_neg c1, if_neg c2, if_neg c3, if_neg c4]
  have hio : ∀ k, (nC σ ≤ k ∧ k < nC σ + d) ∨ (k < nC σ ∨ nC σ + d ≤ k) := fun k => by omega
  refine ⟨by omega, hlim, fun k s => ?_, fun k s j hj => ?_, fun k hk' => ?_, fun k i ha => ?_, fun k ha => ?_, fun k => ?_, fun k => ?_⟩
  · show inR (σ'.1 k s)
    rw [g.2.1]
    rcases hio k with h | h
    · rw [zr_in h]; unfold inR; omega
    · rw [zr_out (by omega)]; exact h3 k s
  · have hj : σ'.2.2.1 k s = some j := hj
    rw [g.2.2.2.1] at hj
    rcases hio k with h | h
    · rw [zr_in h] at hj; cases hj
    · rw [zr_out (by omega)] at hj
      have := h4 k s j hj
      omega
  · rw [g.2.2.2.2.1 k (by omega)]
    exact h5 k (by omega)
  · show -128 ≤ σ'.1 k i ∧ σ'.1 k i < 128
    rw [g.2.1]
    rcases hio k with h | h
    · rw [zr_in h]; omega
    · rw [zr_out (by omega)]
      exact h6 k i (by rw [← grown_kd g h]; exact ha)
  · rcases hio k with h | h
    · rw [hkd k h.1 h.2] at ha
      have := (hk k h.1 h.2).2.2 ha
      omega
    · rw [grown_kd g h] at ha
      have := h7 k ha
      omega
  · rcases hio k with h | h
    · rw [hkd k h.1 h.2]; exact (hk k h.1 h.2).1
    · rw [grown_kd g h]; exact h8 k
  · rcases hio k with h | h
    · exact (hk k h.1 h.2).2.1
    · rw [g.2.2.2.2.1 k h]; exact h9 k
theorem grown_kN {σ σ' : MS} {d k : Nat} (hO : mOk σ) (g : grown σ σ' d) (hlim : nC σ' < scrK) (a : nC σ ≤ k) (b : k < nC σ + d) : kd σ' k = σ'.2.2.2.2.1 k := by
  have h1 := hO.1
  have gn := g.1
  have c1 : ¬ k < fxN := by omega
  have c2 : k ≠ scrK := by omega
  have c3 : ¬ (strK ≤ k ∧ k < strK + stN) := fun q => absurd (show scrK ≤ strK by decide) (by omega)
  have c4 : ¬ (strB ≤ k ∧ k < strB + stN) := fun q => absurd (show scrK ≤ strB by decide) (by omega)
  unfold kd
  rw [if_neg c1, if_neg c2, if_neg c3, if_neg c4]
theorem ok_I {σ : MS} (hO : mOk σ) (hlim : nC (alI σ 4800) < scrK) : mOk (alI σ 4800) := grown_ok hO (grown_I σ 4800) hlim fun k a b => by
  have e : (alI σ 4800).2.2.2.2.1 k = (3, 4800) := by
    show (if k = nC σ then (3, 4800) else σ.2.2.2.2.1 k) = _
    rw [if_pos (by omega)]
  rw [e]
  exact ⟨by omega, ⟨by omega, by omega, by omega⟩, fun h => absurd (show (3 : Nat) = 28 from h) (by decide)⟩
theorem mW_I {cA ad : Nat → Nat} {σ : MS} {q : Nat} (hO : mOk σ) (hlim : nC (alI σ 4800) < scrK) : mW cA (fun k => if k = nC σ then q else ad k) (alI σ 4800) = mW cA ad σ ++ [(q, .inl (cA 3, 4800, .inl fun _ => 0))] := by
  rw [grown_mW hO (grown_I σ 4800) (ad := ad) (fun k hk => if_neg (by omega))]
  congr 1
  have e : kd (alI σ 4800) (nC σ) = (3, 4800) := by
    rw [grown_kN hO (grown_I σ 4800) hlim (Nat.le_refl _) (by omega)]
    exact if_pos rfl
  show [((if nC σ + 0 = nC σ then q else ad (nC σ + 0)), mE cA _ (alI σ 4800) (nC σ + 0))] = _
  rw [Nat.add_zero, if_pos rfl, mE_ints (ty := 3) (by rw [e]) (by omega), e]
  congr 6
  funext i
  show rI (zr σ.1 (nC σ) (nC σ + 1) 0 (nC σ) i) = 0
  rw [zr_in (by omega)]
  exact rI0
section NEWA
variable {p : Program} {l : Launch} {e : Env} {R : Room} {s : State} {m : MethodId} {args : Array Value} {below : List Frame} {meth : Method} {c : Code} {H : Heap} {locs : List Loc} {cells slots : Nat} {Q : State → Prop}
variable {cc : ByteArray} {pc : Nat} {ls : Array Slot} {rest : List Value} {D : va_G} {cl : List vw_C} {A : Nat → Prop} {a : Nat} {tys : List (ClassId × FieldType)} {ws : va_W} {H0 : Heap}
/-- a new array of numbers, of the class that the kept table of array classes names already -/
theorem zz_newa (hexec : p.tables.exec = Jvm.exec) (hb : c.code = cc) {atype : ArrayType} (harr : (Cond.arrayClass (newarray.typeOf atype)).before args s = true) {ty : FieldType} {t0 : Nat} {cy : ClassId} (hty : newarray.typeOf atype = ty) (ht : tys[t0]? = some (cy, ty)) (hp : ∀ c : ClassId, va_RA s c ty → s.vm.findClass ("[" ++ ty.toString) = some c) (hK : va_K D cl tys s) (hP : va_P D cl ws H) (hD : va_D A ws) (hS : va_S A H0 H locs) (hA : ∀ q, H0.size ≤ q → A q)
    {n : Int32} {N' : Nat} {a0 : vp_A} (ha : ∀ cA : ClassId, vp_cell cA a0 = arrV cA N' (fun _ => defaultValue ty)) (hn : ¬ n < 0) (hN : n.toNatClampNeg = N') (hbytes : N' * componentBytes ty ≤ 536870912) (hcells : cells + 1 ≤ R.cells) (hslots : slots + N' ≤ R.slots) (hdg : decode cc pc = .ok (.newarray atype, 2))
    (kk : ∀ (q : Nat) (H1 : Heap), va_P D cl (ws ++ [(q, .inl (cy, a0))]) H1 → va_D A (ws ++ [(q, .inl (cy, a0))]) → va_S A H0 H1 locs → W p l e R s m args below meth c H1 locs (cells + 1) (slots + N') Q (F0 m (pc + 2) ls (.ref q :: rest))) : W p l e R s m args below meth c H locs cells slots Q (F0 m pc ls (.int n :: rest)) := by
  refine va_newa hexec hb harr hty hK hP hD hS hA ha hn hN hbytes hcells hslots hdg (fun q cA H1 hK1 hP1 hD1 hS1 => ?_)
  have h1 : s.vm.findClass ("[" ++ ty.toString) = some cA := hp cA (hK1.2 tys.length (cA, ty) (by rw [List.getElem?_append_right (Nat.le_refl _), Nat.sub_self]; rfl)).2
  have h2 : s.vm.findClass ("[" ++ ty.toString) = some cy := hp cy (hK.2 t0 _ ht).2
  have h3 : cA = cy := Option.some.inj (h1.symm.trans h2)
  subst h3
  exact kk q H1 hP1 hD1 hS1
end NEWA
theorem zz_ar_int (c : ClassId) (n : Nat) : vp_cell c (n, .inl (fun _ => 0)) = arrV c n (fun _ => defaultValue .int) := rfl
