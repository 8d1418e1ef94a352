/-! ===== calls ===== -/
def wsM (a : Nat) : List Jvm.Cond := cdW a :: tbG
def rmM (a mc ms : Nat) : Room := { frames := frM a, cells := mc, slots := ms, locals := loM a }
def PcM (D : va_G) (cA ad : Nat → Nat) (σ : MS) (sz : Nat) (as : List MV) : Array Value → State → Prop := va_Pc (as.map (rV ad)) (fun U => U.heap.size = sz ∧ va_P D vwCl (mW cA ad σ) U.heap ∧ va_K D vwCl (tysL cA) U ∧ va_D (fun _ => True) (mW cA ad σ) ∧ sX ad σ.2.2.2.2.2 (va_A (mW cA ad σ) sz) U U.heap ∧ arX cA U)
def QcM (D : va_G) (cA ad : Nat → Nat) (σ : MS) (sz : Nat) (r : Option MV) (σ' : MS) : Array Value → State → Outcome → State → Prop := fun _ st oc t => (∃ ad' : Nat → Nat, (∀ k, (k < nC σ ∨ scrK ≤ k) → ad' k = ad k) ∧ oc = .returned (r.map (rV ad')) ∧ va_P D vwCl (mW cA ad' σ') t.heap ∧ va_K D vwCl (tysL cA) t ∧ va_D (va_A (mW cA ad σ) sz) (mW cA ad' σ') ∧ mOk σ' ∧ ∀ v, r = some v → vOk σ' v) ∧ va_F (va_A (mW cA ad σ) sz) st t
theorem rV_ext {σ : MS} {ad ad' : Nat → Nat} (h : ∀ k, (k < nC σ ∨ scrK ≤ k) → ad' k = ad k) {v : MV} (hv : vOk σ v) : rV ad' v = rV ad v := by
  rcases v with x | b | o
  · rfl
  · rfl
  · cases o with
    | none => rfl
    | some j => show Value.ref (ad' j) = Value.ref (ad j); rw [h j (hv j rfl)]
theorem rV_exts {σ : MS} {ad ad' : Nat → Nat} (h : ∀ k, (k < nC σ ∨ scrK ≤ k) → ad' k = ad k) {st : List MV} (hv : ∀ v ∈ st, vOk σ v) : st.map (rV ad') = st.map (rV ad) := List.map_congr_left fun v hm => rV_ext h (hv v hm)
theorem loc_ext {σ : MS} {ad ad' : Nat → Nat} (h : ∀ k, (k < nC σ ∨ scrK ≤ k) → ad' k = ad k) {ls : List (Option MV)} (hv : ∀ v, some v ∈ ls → vOk σ v) {LS : Array Slot} {nL : Nat} (hl : lv_has LS nL (locL ad ls)) : lv_has LS nL (locL ad' ls) := lv_less hl fun q hq => by
  obtain ⟨v, hi, e⟩ := locL_mem.mp hq
  exact locL_mem.mpr ⟨v, hi, by rw [e, rV_ext h (hv v (mem_get hi))]⟩
theorem vOk_mono {σ σ' : MS} (h : nC σ ≤ nC σ') {v : MV} (hv : vOk σ v) : vOk σ' v := by
  rcases v with x | b | o
  · exact hv
  · exact True.intro
  · exact fun j e => (hv j e).imp (fun q => Nat.lt_of_lt_of_le q h) id
theorem mkA_len (ad : Nat → Nat) : ∀ as : List MV, (lg_sl (as.map (rV ad))).length = (mkA as).length
  | [] => rfl
  | .inl x :: t => by
    have := mkA_len ad t
    unfold lg_sl at this ⊢
    simp only [List.map_cons, List.flatMap_cons, List.length_append, mkA, List.length_cons]
    rw [this]
    show 1 + _ = _
    omega
  | .inr (.inl x) :: t => by
    have := mkA_len ad t
    unfold lg_sl at this ⊢
    simp only [List.map_cons, List.flatMap_cons, List.length_append, mkA, List.length_cons]
    rw [this]
    show 2 + _ = _
    omega
  | .inr (.inr x) :: t => by
    have := mkA_len ad t
    unfold lg_sl at this ⊢
    simp only [List.map_cons, List.flatMap_cons, List.length_append, mkA, List.length_cons]
    rw [this]
    cases x <;> (show 1 + _ = _; omega)
theorem mkA_args (ad : Nat → Nat) : ∀ (as : List MV) (i j : Nat) (v : MV), (mkA as)[j]? = some (some v) → (i + j, rV ad v) ∈ lv_args i (as.map (rV ad))
  | [], _, _, _, h => by simp [mkA] at h
  | .inl x :: t, i, j, v, h => by
    show (i + j, rV ad v) ∈ (i, rV ad (.inl x)) :: lv_args (i + 1) (t.map (rV ad))
    cases j with
    | zero =>
      have e : v = .inl x := by simpa [mkA] using h.symm
      rw [e]
      exact List.mem_cons_self
    | succ j =>
      have := mkA_args ad t (i + 1) j v (by simpa [mkA] using h)
      rw [show i + (j + 1) = i + 1 + j by omega]
      exact List.mem_cons_of_mem _ this
  | .inr (.inl x) :: t, i, j, v, h => by
    show (i + j, rV ad v) ∈ (i, rV ad (.inr (.inl x))) :: lv_args (i + 2) (t.map (rV ad))
    match j, h with
    | 0, h =>
      have e : v = .inr (.inl x) := by simpa [mkA] using h.symm
      rw [e]
      exact List.mem_cons_self
    | 1, h => simp [mkA] at h
    | j + 2, h =>
      have := mkA_args ad t (i + 2) j v (by simpa [mkA] using h)
      rw [show i + (j + 2) = i + 2 + j by omega]
      exact List.mem_cons_of_mem _ this
  | .inr (.inr x) :: t, i, j, v, h => by
    have hc : lv_args i ((.inr (.inr x) :: t : List MV).map (rV ad)) = (i, rV ad (.inr (.inr x))) :: lv_args (i + 1) (t.map (rV ad)) := by
      cases x <;> rfl
    rw [hc]
    cases j with
    | zero =>
      have e : v = .inr (.inr x) := by simpa [mkA] using h.symm
      rw [e]
      exact List.mem_cons_self
    | succ j =>
      have := mkA_args ad t (i + 1) j v (by simpa [mkA] using h)
      rw [show i + (j + 1) = i + 1 + j by omega]
      exact List.mem_cons_of_mem _ this
theorem mkA_mem : ∀ {as : List MV} {v : MV}, some v ∈ mkA as → v ∈ as
  | [], _, h => by cases h
  | .inl x :: t, v, h => by
    rcases List.mem_cons.mp h with e | e
    · cases e; exact List.mem_cons_self
    · exact List.mem_cons_of_mem _ (mkA_mem e)
  | .inr (.inl x) :: t, v, h => by
    rcases List.mem_cons.mp h with e | e
    · cases e; exact List.mem_cons_self
    · rcases List.mem_cons.mp e with e | e
      · cases e
      · exact List.mem_cons_of_mem _ (mkA_mem e)
  | .inr (.inr x) :: t, v, h => by
    rcases List.mem_cons.mp h with e | e
    · cases e; exact List.mem_cons_self
    · exact List.mem_cons_of_mem _ (mkA_mem e)
theorem mkL_some {n : Nat} {as : List MV} {j : Nat} {v : MV} (h : (mkL n as)[j]? = some (some v)) : (mkA as)[j]? = some (some v) := by
  unfold mkL at h
  by_cases hj : j < (mkA as).length
  · rwa [List.getElem?_append_left hj] at h
  · rw [List.getElem?_append_right (by omega), List.getElem?_replicate] at h
    split at h <;> cases h
theorem mkL_mem {n : Nat} {as : List MV} {v : MV} (h : some v ∈ mkL n as) : v ∈ as := by
  obtain ⟨j, hj⟩ := List.mem_iff_getElem?.mp h
  exact mkA_mem (List.mem_of_getElem? (mkL_some hj))
theorem Met_ofWF {l : Launch} {y : MethodName} {ws ws' : List Jvm.Cond} {rm : Room} {Pc : Array Value → State → Prop} {Qc : Array Value → State → Outcome → State → Prop} {mc ms : Nat} {free : Addr → Prop} {cc : ByteArray} {maxL : Nat} {ret : Option FieldType}
    (hy : plainFor y = true) (hw : ws = Jvm.Cond.code y cc maxL ret :: ws')
    (body : ∀ p e s m args below meth c s₁, BodyLoose p l y (headSpec ws rm) cc maxL ret e s m args below meth c s₁ → c.maxLocals = maxL → Pc args s →
      W p l e (headSpec ws rm).room s m args below meth c s.heap [] 0 0 (MQ below Qc args s mc ms free) (entryFrame m args maxL)) : Met l y ws rm Pc Qc mc ms free := by
  refine MetFree.of_bodySF (code := cc) (maxLocals := maxL) (ret := ret) hy ?_ ?_
  · intro args s m h hn
    obtain ⟨meth, c, h1, h2, h3, h4, h5, h6, -, -⟩ := Cond.code_spec hn (atoms_spec (ws := ws) h _ (by rw [hw]; exact List.mem_cons_self))
    exact ⟨meth, c, h1, h2, h3, h4, h5, h6⟩
  · intro p e s m args below meth c s₁ B hml hP _
    have hh0 : s₁.heap = s.heap := by rw [B.state]; rfl
    obtain ⟨t, a1, o, b1, b2, b3⟩ := body p e s m args below meth c s₁ B hml hP s₁ hh0 (Stand.of_body B)
    exact ⟨t, o, a1, b1, b2, ⟨b3.1, b3.2⟩⟩
set_option maxHeartbeats 4000000 in
theorem call_Met {l : Launch} {n : Nat} (ih : SimN l n) {a : Nat} (ha : ca0 a) (hsqa : ∀ b, sq a b (tG a b)) {D : va_G} {cA ad : Nat → Nat} {σ : MS} {sz : Nat} {as : List MV} {r : Option MV} {σ' : MS} (hO : mOk σ) (hv : ∀ v ∈ as, vOk σ v) (hrun : run n (tG a) (enC a as σ) = some (r, σ')) (hlim : nC σ' < scrK) :
    Met l (yN a) (wsM a) (rmM a (nC σ' - nC σ) (tS σ' - tS σ)) (PcM D cA ad σ sz as) (QcM D cA ad σ sz r σ') (nC σ' - nC σ) (tS σ' - tS σ) (va_A (mW cA ad σ) sz) := by
  obtain ⟨ha1, ha2, ha3, ha4, -, -, -⟩ := ha
  have hlen : (mkA as).length ≤ mX a := by
    by_cases h : (mkA as).length ≤ mX a
    · exact h
    · unfold enC at hrun
      rw [if_neg h] at hrun
      exact (run_nil hrun).elim
  unfold enC at hrun
  rw [if_pos hlen] at hrun
  have hmo := run_mo _ _ _ _ hrun
  have hmo1 : nC σ ≤ nC σ' := hmo.1
  have hmo2 : tS σ ≤ tS σ' := hmo.2.1
  have hsc : σ'.2.2.2.2.2 = σ.2.2.2.2.2 := hmo.2.2
  refine Met_ofWF (cc := bN a) (maxL := mX a) (ret := rN a) ha4 rfl ?_
  intro p e s m args below meth c s₁ B hml hv0
  obtain ⟨rfl, hsz, hP, hK, hD0, hX0, hAX0⟩ := hv0
  have hts : ∀ w ∈ wsM a, w.before _ s = true := atoms_spec (ws := wsM a) B.pre
  have hown : s.vm.findClass (owS (owM a)) = some m.cls := by rw [← ha3]; exact findClass_of_methodNamed B.named
  have hlocks := B.notSynchronized
  subst hsz
  have hD := hD0.self (sz := s.heap.size)
  have hl := lv_entry (as.map (rV ad)) (n := mX a) (by rw [mkA_len]; exact hlen)
  rw [lg_entry_eq]
  generalize (lg_sl (as.map (rV ad)) ++ List.replicate (mX a - (lg_sl (as.map (rV ad))).length) Slot.unset).toArray = LS at hl ⊢
  refine ih p e _ s m _ below meth c _ (va_A (mW cA ad σ) s.heap.size) D cA a r σ' (nC σ' - nC σ) (tS σ' - tS σ) (nC σ) ad ⟨B.exec, B.bytes, hml, hown, fun w hw => hts w (List.mem_cons_of_mem _ hw), hK, fun q h => Or.inr h, ⟨Nat.le_refl _, Nat.le_refl _⟩, Nat.le_refl _, Nat.le_refl _, hAX0⟩ hsqa (by rw [hsc]; exact hX0) hlim ?_ _ 0 _ [] σ ad s.heap [] 0 0 LS hrun ⟨hP, hD, va_S.rf, hO, ⟨Nat.le_refl _, fun _ _ => rfl⟩, by omega, by omega⟩ (lv_less hl fun q hq => ?_) (fun v h => by cases h) (fun v h => hv v (mkL_mem h)) (hsqa 0)
  · intro ad' H locs pc LS hS hrt hvo
    obtain ⟨hP', hD', hS', hO', hE', -, -⟩ := hS
    have fin : ∀ (t : State) (v : Option Value), v = r.map (rV ad') → t.heap = H → s.WarmedH t.vm → QcM D cA ad σ s.heap.size r σ' (as.map (rV ad)).toArray s (.returned v) t := fun t v e ht hW => ⟨⟨ad', hE'.2, by rw [e], by rw [ht]; exact hP', va_K.moved hW.alike hK, hD', hO', hvo⟩, hS'.F ht⟩
    rcases r with _ | x | b | o
    · exact W.vret B.exec B.bytes (by rw [B.returns]; exact hrt.2) (fun t ht hW => fin t none rfl ht hW) hS'.2.2 hrt.1
    · obtain ⟨h1, h2⟩ := hrt
      have hvo1 : inR x := hvo (.inl x) rfl
      rcases h2 with h2 | ⟨h2, hbl⟩ | ⟨h2, hbl⟩ | ⟨h2, hbl⟩
      · exact W.iret (v := rI x) B.exec B.bytes (by rw [B.returns]; exact h2) (fun t ht hW => fin t _ rfl ht hW) hS'.2.2 h1
      · exact W.zret (v := rI x) (ty := .boolean) B.exec B.bytes (by rw [B.returns]; exact h2) (by rcases hbl with rfl | rfl <;> rfl) (fun t ht hW => fin t _ rfl ht hW) hS'.2.2 h1
      · exact W.zret (v := rI x) (ty := .char) B.exec B.bytes (by rw [B.returns]; exact h2) (rI_chr hvo1 hbl) (fun t ht hW => fin t _ rfl ht hW) hS'.2.2 h1
      · exact W.zret (v := rI x) (ty := .byte) B.exec B.bytes (by rw [B.returns]; exact h2) (rI_byt hvo1 hbl) (fun t ht hW => fin t _ rfl ht hW) hS'.2.2 h1
    · exact W.lret (v := rJ b) B.exec B.bytes (by rw [B.returns]; exact hrt.2) (fun t ht hW => fin t _ rfl ht hW) hS'.2.2 hrt.1
    · obtain ⟨h1, h2⟩ := hrt
      have hvv : rV ad' (.inr (.inr o)) = .null ∨ ∃ q, rV ad' (.inr (.inr o)) = .ref q := by
        cases o
        · exact Or.inl rfl
        · exact Or.inr ⟨_, rfl⟩
      rcases h2 with ⟨q, h2⟩ | ⟨q, h2⟩
      · exact W.aret (v := rV ad' (.inr (.inr o))) B.exec B.bytes (by rw [B.returns]; exact h2) (Or.inl ⟨q, rfl⟩) hvv (fun t ht hW => fin t _ rfl ht hW) hS'.2.2 h1
      · exact W.aret (v := rV ad' (.inr (.inr o))) B.exec B.bytes (by rw [B.returns]; exact h2) (Or.inr ⟨q, rfl⟩) hvv (fun t ht hW => fin t _ rfl ht hW) hS'.2.2 h1
  · obtain ⟨v, hi, e⟩ := locL_mem.mp hq
    have := mkA_args ad as 0 q.1 v (mkL_some hi)
    rw [Nat.zero_add] at this
    have hq2 : q = (q.1, rV ad v) := Prod.ext rfl e
    rw [hq2]
    exact this
section CALL
variable {p : Program} {l : Launch} {e : Env} {R : Room} {s : State} {m : MethodId} {args : Array Value} {below : List Frame} {meth : Method} {c : Code} {H : Heap} {locs : List Loc} {cells slots : Nat} {Q : State → Prop}
variable {pc : Nat} {ls : Array Slot} {rest st0 : List Value} {a : Array Value} {A0 : Nat → Prop} {H0 : Heap} {mc ms : Nat} {free : Addr → Prop} {D : va_G} {cA ad : Nat → Nat} {σ σ' : MS} {r : Option MV}
theorem va_callG (hr : va_Run p l e R s m args below meth c H locs cells slots mc ms (F0 m pc ls st0) rest (QcM D cA ad σ H.size r σ' a) free) (hD : va_D A0 (mW cA ad σ)) (hS : va_S A0 H0 H locs) (hA0 : ∀ q, H0.size ≤ q → A0 q) (hf : ∀ q, free q → va_A (mW cA ad σ) H.size q)
    (kk : ∀ (ad' : Nat → Nat) (H1 : Heap) (locs1 : List Loc), (∀ k, (k < nC σ ∨ scrK ≤ k) → ad' k = ad k) → va_P D vwCl (mW cA ad' σ') H1 → va_D A0 (mW cA ad' σ') → mOk σ' → (∀ v, r = some v → vOk σ' v) → va_S A0 H0 H1 locs1 → W p l e R s m args below meth c H1 locs1 (cells + mc) (slots + ms) Q (F0 m (pc + 3) ls (r.toList.map (rV ad') ++ rest))) : W p l e R s m args below meth c H locs cells slots Q (F0 m pc ls st0) := by
  have hsub : ∀ q, va_A (mW cA ad σ) H.size q → A0 q := fun q h => by
    rcases h with ⟨k, e, h⟩ | h
    · exact hD.2 k _ h
    · exact hA0 q (Nat.le_trans hS.1 h)
  intro T hT X
  obtain ⟨v, st₀, t, T', L, h0, X', hL, e1, e2, ⟨⟨ad', hext, hv, hp, hk, hd, ho, hvo⟩, hz, hkeep⟩, st⟩ := hr T hT X
  have hv : v = r.map (rV ad') := Outcome.returned.inj hv
  subst hv
  rw [h0] at hz hkeep
  have hd' : va_D A0 (mW cA ad' σ') := hd.weaken fun _ _ _ h => hsub _ h
  have hS' : va_S A0 H0 T'.heap (locs ++ L) := ⟨Nat.le_trans hS.1 (by rw [e1]; exact hz), fun q h1 h2 => by
    rw [e1, hkeep q (Nat.lt_of_lt_of_le h1 hS.1) (fun z => h2 (hsub q z))]
    exact hS.2.1 q h1 h2, fun q hq => by
      rcases List.mem_append.mp hq with h | h
      · exact hS.2.2 q h
      · exact hsub _ (hf _ (hL q h))⟩
  obtain ⟨t2, a1, b1⟩ := kk ad' T'.heap (locs ++ L) hext (by rw [e1]; exact hp) hd' ho hvo hS' T' rfl X'
  refine ⟨t2, st t2 ?_, b1⟩
  have e3 : (r.map (rV ad')).toList = r.toList.map (rV ad') := by cases r <;> rfl
  rw [e3]
  exact a1
end CALL
theorem tbG_good {w : Jvm.Cond} (h : w ∈ tbG) : goodWord w = true := (List.mem_filter.mp h).2
theorem ws_ok {s : State} {args : Array Value} {a : Nat} (hts : ∀ w ∈ tbG, w.before args s = true) (ha : cdW a ∈ tbG) : ∀ w ∈ wsM a, ∀ (a' : Array Value) (U : State), s.WarmedH U.vm → w.before a' U = true := pay_in hts fun w hw => by
  rcases List.mem_cons.mp hw with e | h
  · rw [e]; exact ⟨ha, good_of_word (tbG_good ha)⟩
  · exact ⟨h, good_of_word (tbG_good h)⟩
theorem clO : ∀ c, c < 12 → clR c = owS c
  | 0, _ => rfl
  | 1, _ => rfl
  | 2, _ => rfl
  | 3, _ => rfl
  | 4, _ => rfl
  | 5, _ => rfl
  | 6, _ => rfl
  | 7, _ => rfl
  | 8, _ => rfl
  | 9, _ => rfl
  | 10, _ => rfl
  | 11, _ => rfl
  | _ + 12, h => absurd h (by omega)
theorem pcM_blind {D : va_G} {cA ad : Nat → Nat} {σ : MS} {sz : Nat} {as : List MV} : FrameBlind (PcM D cA ad σ sz as) := fun a U g mk q => by
  obtain ⟨q0, q1, qP, qK, qD, qX, qA⟩ := q
  exact ⟨q0, q1, qP, va_K.moved (u := U) (U := U.calling g mk a) (Vm.Alike.refl U.vm) qK, qD, sX_same (U := U.calling g mk a) rfl qX, arX_moved (u := U) (U := U.calling g mk a) (Vm.Alike.refl U.vm) qA⟩
theorem callB_M {R : Room} {s : State} {args : Array Value} {M a j mc ms : Nat} (hts : ∀ w ∈ tbG, w.before args s = true) (ha : ca0 a) (hj : (owM M, j, a) ∈ mlM) (hrm : rmK M a = true) (hR : frM M ≤ R.frames ∧ loM M ≤ R.locals) : CallB R s args (owS (owM M)) j (yN a) (bN a) (mX a) (rN a) (wsM a) (rmM a mc ms) mc ms (psN a) := by
  obtain ⟨ha1, ha2, ha3, ha4, ha5, ha6, ha7⟩ := ha
  simp only [rmK, Bool.and_eq_true, decide_eq_true_eq] at hrm
  refine ⟨rfl, rfl, Nat.le_trans hrm.1 hR.1, (show 8 + (mX a + 11) + loM a ≤ R.locals by omega), ws_ok hts ha1, List.mem_cons_self, hts _ ha1, ?_, ⟨ha5, ha6⟩, fun sig h => ?_, hts _ (mlA hj)⟩
  · rw [ha3]; exact hts _ ha2
  · rw [h] at ha7
    exact (Option.some.inj ha7).symm
theorem callL_M {R : Room} {M a mc ms : Nat} (hrm : rmK M a = true) (hR : frM M ≤ R.frames ∧ loM M ≤ R.locals) : 10 + (mX a + 11) + (rmM a mc ms).locals ≤ R.locals := by
  simp only [rmK, Bool.and_eq_true, decide_eq_true_eq] at hrm
  show 10 + (mX a + 11) + loM a ≤ R.locals
  omega
theorem take_succ {st : List MV} {b : Nat} {v : MV} {s : List MV} (h : st.drop b = v :: s) : (st.take (b + 1)).reverse = v :: (st.take b).reverse ∧ st = st.take b ++ v :: s ∧ b ≤ st.length := by
  have hb : b < st.length := by
    by_cases h1 : b < st.length
    · exact h1
    · rw [List.drop_eq_nil_of_le (by omega)] at h
      cases h
  have e : st.take (b + 1) = st.take b ++ [v] := by
    rw [List.take_succ]
    have : st[b]? = some v := by
      have h2 : (st.drop b)[0]? = some v := by rw [h]; rfl
      rwa [List.getElem?_drop] at h2
    rw [this]
    rfl
  refine ⟨by rw [e, List.reverse_append]; rfl, ?_, by omega⟩
  rw [← h, List.take_append_drop]
/-! ===== copies of arrays ===== -/
def cyT : List (Nat × Jvm.Cond) := [(342, .initialized "java/lang/System"), (61, .arrayClass .int), (820, .static arraycopyName), (0, .native arraycopyName)]
set_option maxRecDepth 100000 in
theorem cy_ok : gapW id lw_tbl cyT = true := by decide +kernel
theorem cy1 : Jvm.Cond.initialized "java/lang/System" ∈ tbG := tbG_in (gapW_mem id cyT lw_tbl cy_ok _ (List.Mem.head _)) rfl
theorem cy4 : Jvm.Cond.arrayClass .int ∈ tbG := tbG_in (gapW_mem id cyT lw_tbl cy_ok _ (List.Mem.tail _ (List.Mem.head _))) rfl
theorem cy2 : Jvm.Cond.static arraycopyName ∈ tbG := tbG_in (gapW_mem id cyT lw_tbl cy_ok _ (List.Mem.tail _ (List.Mem.tail _ (List.Mem.head _)))) rfl
theorem cy3 : Jvm.Cond.native arraycopyName ∈ tbG := tbG_in (gapW_mem id cyT lw_tbl cy_ok _ (List.Mem.tail _ (List.Mem.tail _ (List.Mem.tail _ (List.Mem.head _))))) rfl
theorem arc_w : nativeFrameWords "java/lang/System" "arraycopy" 5 = 7 := by decide
theorem mE_cpI_ne {cA ad : Nat → Nat} {σ : MS} {x y j : Nat} {sp dp n : Int} (h : j ≠ y) : mE cA ad (cpI σ x sp y dp n) j = mE cA ad σ j := mE_congr rfl (fun i => by
  show (if j = y ∧ dp ≤ (i : Int) ∧ (i : Int) < dp + n then σ.1 x ((i : Int) - dp + sp).toNat else σ.1 j i) = σ.1 j i
  rw [if_neg (fun q => h q.1)]) (fun _ => rfl) (fun _ => rfl) (fun _ _ _ _ _ => rfl)
theorem mE_cpL_ne {cA ad : Nat → Nat} {σ : MS} {x y j : Nat} {sp dp n : Int} (h : j ≠ y) : mE cA ad (cpL σ x sp y dp n) j = mE cA ad σ j := mE_congr rfl (fun _ => rfl) (fun i => by
  show (if j = y ∧ dp ≤ (i : Int) ∧ (i : Int) < dp + n then σ.2.1 x ((i : Int) - dp + sp).toNat else σ.2.1 j i) = σ.2.1 j i
  rw [if_neg (fun q => h q.1)]) (fun _ => rfl) (fun _ _ _ _ _ => rfl)
theorem mE_cpI {cA ad : Nat → Nat} {σ : MS} {x y ty : Nat} {sp dp n : Int} (h : (kd σ y).1 = ty) (h3 : ty ≤ 3) (p1 : 0 ≤ sp) (p2 : 0 ≤ dp) (p3 : 0 ≤ n) : mE cA ad (cpI σ x sp y dp n) y = .inl (cA ty, (kd σ y).2, .inl (va_cpy (fun i => rI (gI σ x i)) (fun i => rI (gI σ y i)) sp.toNat dp.toNat n.toNat)) := by
  rw [mE_ints (σ := cpI σ x sp y dp n) (ty := ty) h h3, show kd (cpI σ x sp y dp n) = kd σ from rfl]
  congr 4
  funext j
  unfold va_cpy
  show rI (if y = y ∧ dp ≤ (j : Int) ∧ (j : Int) < dp + n then σ.1 x ((j : Int) - dp + sp).toNat else σ.1 y j) = _
  by_cases hj : dp.toNat ≤ j ∧ j < dp.toNat + n.toNat
  · rw [if_pos hj, if_pos ⟨rfl, by omega, by omega⟩, show ((j : Int) - dp + sp).toNat = sp.toNat + (j - dp.toNat) by omega]
    rfl
  · rw [if_neg hj, if_neg (fun q => hj ⟨by omega, by omega⟩)]
    rfl
theorem mE_cpL {cA ad : Nat → Nat} {σ : MS} {x y : Nat} {sp dp n : Int} (h : (kd σ y).1 = 4) (p1 : 0 ≤ sp) (p2 : 0 ≤ dp) (p3 : 0 ≤ n) : mE cA ad (cpL σ x sp y dp n) y = .inl (cA 4, (kd σ y).2, .inr (.inl (va_cpy (fun i => rJ (gL σ x i)) (fun i => rJ (gL σ y i)) sp.toNat dp.toNat n.toNat))) := by
  rw [mE_longs (σ := cpL σ x sp y dp n) h, show kd (cpL σ x sp y dp n) = kd σ from rfl]
  congr 5
  funext j
  unfold va_cpy
  show rJ (if y = y ∧ dp ≤ (j : Int) ∧ (j : Int) < dp + n then σ.2.1 x ((j : Int) - dp + sp).toNat else σ.2.1 y j) = _
  by_cases hj : dp.toNat ≤ j ∧ j < dp.toNat + n.toNat
  · rw [if_pos hj, if_pos ⟨rfl, by omega, by omega⟩, show ((j : Int) - dp + sp).toNat = sp.toNat + (j - dp.toNat) by omega]
    rfl
  · rw [if_neg hj, if_neg (fun q => hj ⟨by omega, by omega⟩)]
    rfl
theorem mOk_cpI {σ : MS} {x y : Nat} {sp dp n : Int} (h : mOk σ) (hk : (kd σ y).1 = 1 → (kd σ x).1 = 1) : mOk (cpI σ x sp y dp n) := by
  obtain ⟨h1, h2, h3, h4, h5, h6, h7⟩ := h
  refine ⟨h1, h2, fun a b => ?_, h4, h5, fun a b ha => ?_, h7⟩
  · show inR (if a = y ∧ dp ≤ (b : Int) ∧ (b : Int) < dp + n then σ.1 x ((b : Int) - dp + sp).toNat else σ.1 a b)
    split
    · exact h3 _ _
    · exact h3 _ _
  · show -128 ≤ (if a = y ∧ dp ≤ (b : Int) ∧ (b : Int) < dp + n then σ.1 x ((b : Int) - dp + sp).toNat else σ.1 a b) ∧ (if a = y ∧ dp ≤ (b : Int) ∧ (b : Int) < dp + n then σ.1 x ((b : Int) - dp + sp).toNat else σ.1 a b) < 128
    split
    · rename_i e
      rw [e.1] at ha
      exact h6 _ _ (hk ha)
    · exact h6 a b ha
theorem mOk_cpL {σ : MS} {x y : Nat} {sp dp n : Int} (h : mOk σ) : mOk (cpL σ x sp y dp n) := h
theorem fits_b {x : Int} (h : -128 ≤ x ∧ x < 128) : fits .byte (.int (rI x)) = true := by
  have e1 : (-128 : Int32) = rI (-128) := by decide
  have e2 : (127 : Int32) = rI 127 := by decide
  show (decide ((-128 : Int32) ≤ rI x) && decide (rI x ≤ 127)) = true
  rw [e1, e2, decide_eq_true ((rI_le (x := -128) (by unfold inR; omega) (in8 h)).mpr h.1), decide_eq_true ((rI_le (y := 127) (in8 h) (by unfold inR; omega)).mpr (by omega))]
  rfl
