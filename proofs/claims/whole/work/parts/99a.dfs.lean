/-! ===== the order in which ways are gone: a way that ends closes what is kept on it back to where the way that waits last begins ===== -/
def chn (K : Nat → KT) : Nat → Nat → List Nat
  | 0, _ => []
  | f + 1, k => k :: (if 0 ≤ kB (K k) then chn K f (kB (K k)).toNat else [])
abbrev cha (K : Nat → KT) (k : Nat) : List Nat := chn K (k + 1) k
/-- the one before lies before -/
def wfB (K : Nat → KT) (N : Nat) : Prop := ∀ j, j < N → kB (K j) < (j : Int)
/-- how many wait behind k -/
def cntW (W : Nat → WT) : Nat → Nat → Int
  | 0, _ => 0
  | m + 1, k => cntW W m k + (if (W m).2.2.1 = k then 1 else 0)
/-- each that waits began on the way of the next -/
def wch (K : Nat → KT) (W : Nat → WT) : Nat → Nat → Prop
  | 0, _ => True
  | m + 1, top => (W m).2.2.1 ∈ cha K top ∧ wch K W m (W m).2.2.1
/-- where the one that waits last began -/
def lstW (W : Nat → WT) : Nat → Option Nat
  | 0 => none
  | m + 1 => some (W m).2.2.1
/-- the class's closing, back to one -/
def clc : Nat → (Nat → KT) → Nat → Option Nat → (Nat → KT)
  | 0, K, _, _ => K
  | f + 1, K, k, u => if u = some k then K else if 0 ≤ kB (K k) then clc f (ovrK K (kB (K k)).toNat (kF (K k) + kL (K k))) (kB (K k)).toNat u else K
def dnc : Nat → (Nat → KT) → Nat → Option Nat → (Nat → Bool) → (Nat → Bool)
  | 0, _, _, _, D => D
  | f + 1, K, k, u, D => if u = some k then D else if 0 ≤ kB (K k) then dnc f K (kB (K k)).toNat u (fun j => if j = k then true else D j) else (fun j => if j = k then true else D j)
section DFS
variable {K K' : Nat → KT} {W : Nat → WT} {N M k a b x f m : Nat} {D : Nat → Bool} {u : Option Nat} {n : Int}
theorem chn_fg (h : wfB K N) : ∀ k : Nat, k < N → ∀ f g : Nat, k + 1 ≤ f → k + 1 ≤ g → chn K f k = chn K g k := by
  intro k
  induction k using Nat.strongRecOn with
  | ind k ih =>
    intro hk f g hf hg
    cases f with
    | zero => omega
    | succ f =>
      cases g with
      | zero => omega
      | succ g =>
        show k :: (if 0 ≤ kB (K k) then chn K f (kB (K k)).toNat else []) = k :: (if 0 ≤ kB (K k) then chn K g (kB (K k)).toNat else [])
        by_cases z : 0 ≤ kB (K k)
        · have w := h k hk
          rw [if_pos z, if_pos z, ih (kB (K k)).toNat (by omega) (by omega) f g (by omega) (by omega)]
        · rw [if_neg z, if_neg z]
theorem cha_c (h : wfB K N) (hk : k < N) (z : 0 ≤ kB (K k)) : cha K k = k :: cha K (kB (K k)).toNat := by
  have w := h k hk
  show k :: (if 0 ≤ kB (K k) then chn K k (kB (K k)).toNat else []) = _
  rw [if_pos z, chn_fg h (kB (K k)).toNat (by omega) k ((kB (K k)).toNat + 1) (by omega) (Nat.le_refl _)]
theorem cha_n (z : ¬ 0 ≤ kB (K k)) : cha K k = [k] := by
  show k :: (if 0 ≤ kB (K k) then chn K k (kB (K k)).toNat else []) = _
  rw [if_neg z]
theorem cha_s : k ∈ cha K k := List.mem_cons_self
theorem cha_le (h : wfB K N) : ∀ k : Nat, k < N → ∀ a, a ∈ cha K k → a ≤ k := by
  intro k
  induction k using Nat.strongRecOn with
  | ind k ih =>
    intro hk a ha
    by_cases z : 0 ≤ kB (K k)
    · have w := h k hk
      rw [cha_c h hk z] at ha
      rcases List.mem_cons.mp ha with e | e
      · omega
      · have := ih (kB (K k)).toNat (by omega) (by omega) a e
        omega
    · rw [cha_n z] at ha
      have := List.mem_singleton.mp ha
      omega
theorem cha_up (h : wfB K N) : ∀ k : Nat, k < N → ∀ a, a ∈ cha K k → ∀ x, x ∈ cha K a → x ∈ cha K k := by
  intro k
  induction k using Nat.strongRecOn with
  | ind k ih =>
    intro hk a ha x hx
    by_cases z : 0 ≤ kB (K k)
    · have w := h k hk
      rw [cha_c h hk z] at ha
      rcases List.mem_cons.mp ha with e | e
      · rw [e] at hx
        exact hx
      · rw [cha_c h hk z]
        exact List.mem_cons_of_mem _ (ih (kB (K k)).toNat (by omega) (by omega) a e x hx)
    · rw [cha_n z] at ha
      rw [List.mem_singleton.mp ha] at hx
      exact hx
theorem chn_e (e : ∀ j, kB (K' j) = kB (K j)) : ∀ f k : Nat, chn K' f k = chn K f k := by
  intro f
  induction f with
  | zero => intro k; rfl
  | succ f ih =>
    intro k
    show k :: (if 0 ≤ kB (K' k) then chn K' f (kB (K' k)).toNat else []) = k :: (if 0 ≤ kB (K k) then chn K f (kB (K k)).toNat else [])
    rw [e, ih]
theorem ovc_B : kB (ovrK K k n x) = kB (K x) := by
  unfold ovrK upK
  split
  · rename_i e
    rw [e]
  · rfl
theorem ovc_W : kW (ovrK K k n x) = kW (K x) - (if x = k then 1 else 0) := by
  unfold ovrK upK
  split
  · rename_i e
    rw [e]
  · omega
theorem wfB_o (h : wfB K N) : wfB (ovrK K k n) N := fun j hj => by rw [ovc_B]; exact h j hj
theorem wch_e (e : ∀ j, kB (K' j) = kB (K j)) : ∀ m top : Nat, wch K' W m top ↔ wch K W m top := by
  intro m
  induction m with
  | zero => intro top; exact Iff.rfl
  | succ m ih =>
    intro top
    show ((W m).2.2.1 ∈ chn K' _ _ ∧ wch K' W m (W m).2.2.1) ↔ ((W m).2.2.1 ∈ chn K _ _ ∧ wch K W m (W m).2.2.1)
    rw [chn_e e, ih]
theorem cnt_0 (h : wfB K N) : ∀ m top : Nat, top < N → wch K W m top → ∀ x, ¬ x ∈ cha K top → cntW W m x = 0 := by
  intro m
  induction m with
  | zero => intro top _ _ x _; rfl
  | succ m ih =>
    intro top ht hw x hx
    obtain ⟨h1, h2⟩ := hw
    have l := cha_le h top ht _ h1
    have n1 : ¬ (W m).2.2.1 = x := fun e => hx (e ▸ h1)
    have n2 : ¬ x ∈ cha K (W m).2.2.1 := fun e => hx (cha_up h top ht _ h1 x e)
    show cntW W m x + (if (W m).2.2.1 = x then 1 else 0) = 0
    rw [ih _ (by omega) h2 x n2, if_neg n1]
    rfl
theorem cnt_p : ∀ m x : Nat, 0 ≤ cntW W m x := by
  intro m
  induction m with
  | zero => intro x; exact Int.le_refl _
  | succ m ih =>
    intro x
    have := ih x
    show 0 ≤ cntW W m x + (if (W m).2.2.1 = x then 1 else 0)
    split <;> omega
/-- while a way is closed: k itself is no more than what waits there -/
def clP (K : Nat → KT) (W : Nat → WT) (N M k : Nat) : Prop := wfB K N ∧ k < N ∧ wch K W M k ∧ ∀ x, x < N → kW (K x) = cntW W M x + (if x ∈ cha K k ∧ ¬ x = k then 1 else 0)
theorem clP_s (h : clP K W N M k) (z : 0 ≤ kB (K k)) (hu : ¬ lstW W M = some k) : cntW W M k = 0 ∧ clP (ovrK K (kB (K k)).toNat n) W N M (kB (K k)).toNat := by
  obtain ⟨h1, h2, h3, h4⟩ := h
  have w := h1 k h2
  have hb : (kB (K k)).toNat < N := by omega
  have nk : ¬ k ∈ cha K (kB (K k)).toNat := fun e => by
    have := cha_le h1 _ hb k e
    omega
  have wb : wch K W M (kB (K k)).toNat := by
    cases M with
    | zero => trivial
    | succ m =>
      obtain ⟨y1, y2⟩ := h3
      rw [cha_c h1 h2 z] at y1
      rcases List.mem_cons.mp y1 with e | e
      · exact absurd (show some (W m).2.2.1 = some k by rw [e]) hu
      · exact ⟨e, y2⟩
  refine ⟨cnt_0 h1 M _ hb wb k nk, wfB_o h1, hb, (wch_e (fun j => ovc_B) M _).mpr wb, fun x hx => ?_⟩
  have e := h4 x hx
  rw [ovc_W, e, show cha (ovrK K (kB (K k)).toNat n) (kB (K k)).toNat = cha K (kB (K k)).toNat from chn_e (fun j => ovc_B) _ _, cha_c h1 h2 z]
  by_cases xb : x = (kB (K k)).toNat
  · have xk : ¬ x = k := by omega
    have xm : x ∈ k :: cha K (kB (K k)).toNat := by rw [xb]; exact List.mem_cons_of_mem _ cha_s
    rw [if_pos xb, if_pos ⟨xm, xk⟩, if_neg (fun q => q.2 xb)]
    omega
  · rw [if_neg xb]
    by_cases xm : x ∈ cha K (kB (K k)).toNat
    · have xk : ¬ x = k := fun q => nk (q ▸ xm)
      rw [if_pos ⟨List.mem_cons_of_mem _ xm, xk⟩, if_pos ⟨xm, xb⟩]
      omega
    · rw [if_neg (fun q : x ∈ k :: cha K (kB (K k)).toNat ∧ ¬ x = k => by
        rcases List.mem_cons.mp q.1 with y | y
        · exact q.2 y
        · exact xm y), if_neg (fun q => xm q.1)]
      omega
theorem clP_w (h : clP K W N M k) : kW (K k) = cntW W M k := by
  have e := h.2.2.2 k h.2.1
  rw [if_neg (fun q => q.2 rfl)] at e
  omega
theorem lst_p (hu : lstW W M = some k) : 1 ≤ cntW W M k := by
  cases M with
  | zero => cases hu
  | succ m =>
    have e : (W m).2.2.1 = k := Option.some.inj hu
    have := cnt_p (W := W) m k
    show 1 ≤ cntW W m k + (if (W m).2.2.1 = k then 1 else 0)
    rw [if_pos e]
    omega
/-- the reference's closing is the class's -/
theorem clo_c : ∀ (f : Nat) (K : Nat → KT) (k : Nat), clP K W N M k → cloK f K k = clc f K k (lstW W M) := by
  intro f
  induction f with
  | zero => intro K k _; rfl
  | succ f ih =>
    intro K k h
    show (if kW (K k) = 0 ∧ 0 ≤ kB (K k) then cloK f (ovrK K (kB (K k)).toNat (kF (K k) + kL (K k))) (kB (K k)).toNat else K) = (if lstW W M = some k then K else if 0 ≤ kB (K k) then clc f (ovrK K (kB (K k)).toNat (kF (K k) + kL (K k))) (kB (K k)).toNat (lstW W M) else K)
    have e := clP_w h
    by_cases u : lstW W M = some k
    · have := lst_p u
      rw [if_pos u, if_neg (by omega)]
    · rw [if_neg u]
      by_cases z : 0 ≤ kB (K k)
      · obtain ⟨c0, p⟩ := clP_s (n := kF (K k) + kL (K k)) h z u
        rw [if_pos z, if_pos ⟨by omega, z⟩]
        exact ih _ _ p
      · rw [if_neg z, if_neg (fun q => z q.2)]
theorem clc_B : ∀ (f : Nat) (K : Nat → KT) (k : Nat) (u : Option Nat) (x : Nat), kB (clc f K k u x) = kB (K x) := by
  intro f
  induction f with
  | zero => intro K k u x; rfl
  | succ f ih =>
    intro K k u x
    show kB ((if u = some k then K else if 0 ≤ kB (K k) then clc f (ovrK K (kB (K k)).toNat (kF (K k) + kL (K k))) (kB (K k)).toNat u else K) x) = _
    split
    · rfl
    · split
      · rw [ih, ovc_B]
      · rfl
/-- behind the closing the way that waits last is the one at hand -/
theorem clc_P : ∀ (f : Nat) (K : Nat → KT) (k R : Nat), clP K W N M k → k + 1 ≤ f → lstW W M = some R → clP (clc f K k (some R)) W N M R := by
  intro f
  induction f with
  | zero => intro K k R _ l _; omega
  | succ f ih =>
    intro K k R h l u
    show clP (if some R = some k then K else if 0 ≤ kB (K k) then clc f (ovrK K (kB (K k)).toNat (kF (K k) + kL (K k))) (kB (K k)).toNat (some R) else K) W N M R
    by_cases e : R = k
    · rw [if_pos (by rw [e]), e]
      exact h
    · have ne : ¬ some R = some k := fun q => e (Option.some.inj q)
      rw [if_neg ne]
      by_cases z : 0 ≤ kB (K k)
      · have p := (clP_s (n := kF (K k) + kL (K k)) h z (by rw [u]; exact ne)).2
        have w := h.1 k h.2.1
        rw [if_pos z]
        exact ih _ _ R p (by omega) u
      · exfalso
        cases M with
        | zero => cases u
        | succ m =>
          have e1 : (W m).2.2.1 = R := Option.some.inj u
          have y := h.2.2.1.1
          rw [cha_n z, e1] at y
          exact e (List.mem_singleton.mp y)
theorem dnc_e (e : ∀ j, kB (K' j) = kB (K j)) : ∀ (f k : Nat) (D : Nat → Bool), dnc f K' k u D = dnc f K k u D := by
  intro f
  induction f with
  | zero => intro k D; rfl
  | succ f ih =>
    intro k D
    show (if u = some k then D else if 0 ≤ kB (K' k) then dnc f K' (kB (K' k)).toNat u (fun j => if j = k then true else D j) else (fun j => if j = k then true else D j)) = (if u = some k then D else if 0 ≤ kB (K k) then dnc f K (kB (K k)).toNat u (fun j => if j = k then true else D j) else (fun j => if j = k then true else D j))
    rw [e, ih]
/-- what is done behind the closing -/
theorem dnc_D (h : wfB K N) : ∀ (f k R : Nat) (D : Nat → Bool), k < N → k + 1 ≤ f → R ∈ cha K k → (∀ x, x < N → (D x = true ↔ ¬ x ∈ cha K k)) → ∀ x, x < N → (dnc f K k (some R) D x = true ↔ ¬ x ∈ cha K R) := by
  intro f
  induction f with
  | zero => intro k R D _ l; omega
  | succ f ih =>
    intro k R D hk hf hR hD x hx
    show ((if some R = some k then D else if 0 ≤ kB (K k) then dnc f K (kB (K k)).toNat (some R) (fun j => if j = k then true else D j) else (fun j => if j = k then true else D j)) x = true ↔ _)
    by_cases e : R = k
    · rw [if_pos (by rw [e]), e]
      exact hD x hx
    · have ne : ¬ some R = some k := fun q => e (Option.some.inj q)
      rw [if_neg ne]
      by_cases z : 0 ≤ kB (K k)
      · have w := h k hk
        have hb : (kB (K k)).toNat < N := by omega
        have nk : ¬ k ∈ cha K (kB (K k)).toNat := fun e => by
          have := cha_le h _ hb k e
          omega
        rw [if_pos z]
        have cc := cha_c h hk z
        refine ih _ R _ hb (by omega) ?_ (fun y hy => ?_) x hx
        · rw [cc] at hR
          exact (List.mem_cons.mp hR).resolve_left e
        · show ((if y = k then true else D y) = true ↔ _)
          by_cases yk : y = k
          · rw [if_pos yk, yk]
            exact ⟨fun _ => nk, fun _ => rfl⟩
          · rw [if_neg yk, hD y hy, cc]
            exact ⟨fun q p => q (List.mem_cons_of_mem _ p), fun q p => by
              rcases List.mem_cons.mp p with r | r
              · exact yk r
              · exact q r⟩
      · exfalso
        rw [cha_n z] at hR
        exact e (List.mem_singleton.mp hR)
/-- the order, of a whole walk -/
def dfI (w : WK) : Prop := wfB (yH w) (yNn w) ∧ (yK w < yNn w ∧ yNn w ≤ 250 ∧ yM w ≤ 60) ∧ wch (yH w) (yW w) (yM w) (yK w) ∧ (∀ m, m < yM w → (yW w m).2.2.1 < yNn w) ∧ ∀ x, x < yNn w → kW (yH w x) = cntW (yW w) (yM w) x + (if x ∈ cha (yH w) (yK w) then 1 else 0)
theorem df_b {S : ST} : dfI (begK S) := by
  refine ⟨fun j hj => ?_, ⟨Nat.zero_lt_one, show (1 : Nat) ≤ 250 by decide, show (0 : Nat) ≤ 60 by decide⟩, trivial, fun m hm => absurd hm (Nat.not_lt_zero m), fun x hx => ?_⟩
  · show (-1 : Int) < (j : Int)
    omega
  · have e : x = 0 := by
      have hx : x < 1 := hx
      omega
    rw [e]
    show (1 : Int) = 0 + (if 0 ∈ cha (fun _ => (S, 0, -1, 0, 1, 0)) 0 then 1 else 0)
    rw [if_pos cha_s]
    rfl
/-- a way ends -/
theorem df_o {w : WK} (h : dfI w) : clP (ovrK (yH w) (yK w) n) (yW w) (yNn w) (yM w) (yK w) := by
  obtain ⟨h1, h2, h3, _, h5⟩ := h
  refine ⟨wfB_o h1, h2.1, (wch_e (fun j => ovc_B) _ _).mpr h3, fun x hx => ?_⟩
  rw [ovc_W, h5 x hx, show cha (ovrK (yH w) (yK w) n) (yK w) = cha (yH w) (yK w) from chn_e (fun j => ovc_B) _ _]
  by_cases e : x = yK w
  · rw [if_pos e, e, if_pos (show yK w ∈ cha (yH w) (yK w) from cha_s), if_neg (fun q => q.2 rfl)]
    omega
  · rw [if_neg e]
    by_cases c : x ∈ cha (yH w) (yK w)
    · rw [if_pos c, if_pos ⟨c, e⟩]
      omega
    · rw [if_neg c, if_neg (fun q => c q.1)]
      omega
theorem end_c {w : WK} (h : dfI w) : endK (yH w) (yK w) n = clc 250 (ovrK (yH w) (yK w) n) (yK w) (lstW (yW w) (yM w)) := clo_c 250 _ _ (df_o h)
theorem df_p {w : WK} (h : dfI w) (hm : ¬ yM w = 0) : dfI (popK (w.1, (yNn w, endK (yH w) (yK w) n), w.2.2)) := by
  have c := df_o (n := n) h
  obtain ⟨m, em⟩ : ∃ m, yM w = m + 1 := ⟨yM w - 1, by omega⟩
  have lu : lstW (yW w) (yM w) = some (yW w m).2.2.1 := by rw [em]; rfl
  have P := clc_P 250 _ _ _ c (by have := h.2.1; omega) lu
  rw [← lu, ← end_c h] at P
  obtain ⟨p1, p2, p3, p4⟩ := P
  have e1 : yM w - 1 = m := by omega
  unfold popK
  refine ⟨p1, ⟨?_, h.2.1.2.1, ?_⟩, ?_, fun q hq => ?_, fun x hx => ?_⟩
  · show (yW w (yM w - 1)).2.2.1 < yNn w
    rw [e1]
    exact p2
  · show yM w - 1 ≤ 60
    have := h.2.1
    omega
  · show wch (endK (yH w) (yK w) n) (yW w) (yM w - 1) (yW w (yM w - 1)).2.2.1
    rw [e1]
    rw [em] at p3
    exact p3.2
  · exact h.2.2.2.1 q (by have hq : q < yM w - 1 := hq; omega)
  · show kW (endK (yH w) (yK w) n x) = cntW (yW w) (yM w - 1) x + (if x ∈ cha (endK (yH w) (yK w) n) (yW w (yM w - 1)).2.2.1 then 1 else 0)
    rw [e1, p4 x hx, em]
    show cntW (yW w) m x + (if (yW w m).2.2.1 = x then 1 else 0) + _ = _
    by_cases e : (yW w m).2.2.1 = x
    · rw [if_pos e, if_neg (fun q => q.2 e.symm), e, if_pos cha_s]
      omega
    · rw [if_neg e]
      by_cases c : x ∈ cha (endK (yH w) (yK w) n) (yW w m).2.2.1
      · rw [if_pos c, if_pos ⟨c, fun q => e q.symm⟩]
        omega
      · rw [if_neg c, if_neg (fun q => c q.1)]
        omega
/-- a state is kept -/
theorem df_k {w : WK} (h : dfI w) (hn : yNn w < 250) {x : KT} (hb : kB x = (yK w : Int)) (hw : kW x = 1) {s : ST} {i F G T : Int} {R : Int × Int × (Int → Option ST)} : dfI ((s, i, yNn w, F, G, T), (yNn w + 1, upK (yH w) (yNn w) x), w.2.2.1, R) := by
  obtain ⟨h1, h2, h3, h4, h5⟩ := h
  have g : ∀ j, j < yNn w → upK (yH w) (yNn w) x j = yH w j := fun j hj => if_neg (by omega)
  have gn : upK (yH w) (yNn w) x (yNn w) = x := if_pos rfl
  have wf : wfB (upK (yH w) (yNn w) x) (yNn w + 1) := fun j hj => by
    by_cases e : j = yNn w
    · rw [e, gn, hb]
      have := h2.1
      omega
    · rw [g j (by omega)]
      exact h1 j (by omega)
  have ce : ∀ k : Nat, k < yNn w → cha (upK (yH w) (yNn w) x) k = cha (yH w) k := by
    intro k
    induction k using Nat.strongRecOn with
    | ind k ih =>
      intro hk
      by_cases z : 0 ≤ kB (yH w k)
      · have w' := h1 k hk
        have z' : 0 ≤ kB (upK (yH w) (yNn w) x k) := by rw [g k hk]; exact z
        rw [cha_c wf (by omega) z', cha_c h1 hk z, g k hk, ih (kB (yH w k)).toNat (by omega) (by omega)]
      · rw [cha_n (K := upK (yH w) (yNn w) x) (by rw [g k hk]; exact z), cha_n z]
  have cn : cha (upK (yH w) (yNn w) x) (yNn w) = yNn w :: cha (yH w) (yK w) := by
    rw [cha_c wf (by omega) (by rw [gn, hb]; omega), gn, hb, Int.toNat_natCast, ce _ h2.1]
  have wc : ∀ m top : Nat, top < yNn w → wch (yH w) (yW w) m top → wch (upK (yH w) (yNn w) x) (yW w) m top := by
    intro m
    induction m with
    | zero => intro top _ _; trivial
    | succ m ih =>
      intro top ht hq
      have l := cha_le h1 top ht _ hq.1
      exact ⟨by rw [ce top ht]; exact hq.1, ih _ (by omega) hq.2⟩
  refine ⟨wf, ⟨Nat.lt_succ_self _, hn, h2.2.2⟩, ?_, fun m hm => Nat.lt_succ_of_lt (h4 m hm), fun y hy => ?_⟩
  · show wch (upK (yH w) (yNn w) x) (yW w) (yM w) (yNn w)
    have h3' := wc _ _ h2.1 h3
    cases hM : yM w with
    | zero => trivial
    | succ m =>
      rw [hM] at h3 h3'
      refine ⟨?_, h3'.2⟩
      rw [cn]
      exact List.mem_cons_of_mem _ h3.1
  · show kW (upK (yH w) (yNn w) x y) = cntW (yW w) (yM w) y + (if y ∈ cha (upK (yH w) (yNn w) x) (yNn w) then 1 else 0)
    rw [cn]
    by_cases e : y = yNn w
    · have c0 : cntW (yW w) (yM w) y = 0 := cnt_0 h1 _ _ h2.1 h3 y (fun q => by
        have := cha_le h1 _ h2.1 y q
        have := h2.1
        omega)
      rw [c0, e, gn, hw, if_pos List.mem_cons_self]
      rfl
    · have hy : y < yNn w + 1 := hy
      rw [g y (by omega), h5 y (by omega)]
      by_cases c : y ∈ cha (yH w) (yK w)
      · rw [if_pos c, if_pos (List.mem_cons_of_mem _ c)]
      · rw [if_neg c, if_neg (fun q => by
          rcases List.mem_cons.mp q with r | r
          · exact e r
          · exact c r)]
/-- a way parts -/
theorem df_w {w : WK} (h : dfI w) (hm : yM w < 60) {x : KT} (hb : kB x = kB (yH w (yK w))) (hw : kW x = kW (yH w (yK w)) + 1) {v : WT} (hv : v.2.2.1 = yK w) {s : ST} {i F G T : Int} {R : Int × Int × (Int → Option ST)} : dfI ((s, i, yK w, F, G, T), (yNn w, upK (yH w) (yK w) x), (yM w + 1, fun j => if j = yM w then v else yW w j), R) := by
  obtain ⟨h1, h2, h3, h4, h5⟩ := h
  have eB : ∀ j, kB (upK (yH w) (yK w) x j) = kB (yH w j) := fun j => by
    unfold upK
    split
    · rename_i e
      rw [e, hb]
    · rfl
  have ce : cha (upK (yH w) (yK w) x) (yK w) = cha (yH w) (yK w) := chn_e eB _ _
  have cw : ∀ m, m ≤ yM w → ∀ y, cntW (fun j => if j = yM w then v else yW w j) m y = cntW (yW w) m y := by
    intro m
    induction m with
    | zero => intro _ y; rfl
    | succ m ih =>
      intro l y
      show cntW (fun j => if j = yM w then v else yW w j) m y + (if (if m = yM w then v else yW w m).2.2.1 = y then 1 else 0) = cntW (yW w) m y + (if (yW w m).2.2.1 = y then 1 else 0)
      rw [ih (by omega), if_neg (show ¬ m = yM w by omega)]
  have wc : ∀ m top, m ≤ yM w → wch (yH w) (yW w) m top → wch (upK (yH w) (yK w) x) (fun j => if j = yM w then v else yW w j) m top := by
    intro m
    induction m with
    | zero => intro top _ _; trivial
    | succ m ih =>
      intro top l q
      show (if m = yM w then v else yW w m).2.2.1 ∈ cha (upK (yH w) (yK w) x) top ∧ wch (upK (yH w) (yK w) x) (fun j => if j = yM w then v else yW w j) m (if m = yM w then v else yW w m).2.2.1
      rw [if_neg (show ¬ m = yM w by omega)]
      exact ⟨by rw [show cha (upK (yH w) (yK w) x) top = cha (yH w) top from chn_e eB _ _]; exact q.1, ih _ (by omega) q.2⟩
  refine ⟨fun j hj => by rw [eB]; exact h1 j hj, ⟨h2.1, h2.2.1, hm⟩, ?_, fun m hq => ?_, fun y hy => ?_⟩
  · show (if yM w = yM w then v else yW w (yM w)).2.2.1 ∈ cha (upK (yH w) (yK w) x) (yK w) ∧ wch (upK (yH w) (yK w) x) (fun j => if j = yM w then v else yW w j) (yM w) (if yM w = yM w then v else yW w (yM w)).2.2.1
    rw [if_pos rfl, hv]
    exact ⟨cha_s, wc _ _ (Nat.le_refl _) h3⟩
  · show (if m = yM w then v else yW w m).2.2.1 < yNn w
    split
    · rw [hv]
      exact h2.1
    · exact h4 m (by have hq : m < yM w + 1 := hq; omega)
  · show kW (upK (yH w) (yK w) x y) = cntW (fun j => if j = yM w then v else yW w j) (yM w) y + (if (if yM w = yM w then v else yW w (yM w)).2.2.1 = y then 1 else 0) + (if y ∈ cha (upK (yH w) (yK w) x) (yK w) then 1 else 0)
    rw [cw _ (Nat.le_refl _), if_pos rfl, hv, ce]
    have e5 := h5 y hy
    by_cases e : y = yK w
    · rw [show upK (yH w) (yK w) x y = x from if_pos e, hw, if_pos e.symm, e, if_pos cha_s]
      rw [e, if_pos cha_s] at e5
      omega
    · rw [show upK (yH w) (yK w) x y = yH w y from if_neg e, if_neg (fun q => e q.symm)]
      omega
end DFS
