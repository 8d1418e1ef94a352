/-! ===== TIDY leaves constants as they are ===== -/
theorem tdN_cst (c : B64) : tdN (cstN c) = cstN c := by
  have x0 : c ||| 0#64 = c := by simp
  have x1 : ∀ d : B64, 0#64 &&& d = 0#64 := fun d => by simp
  have x2 : c ^^^ c = 0#64 := by simp
  have bm : bmax c c = c := by unfold bmax; split <;> rfl
  have bn : bmin c c = c := by unfold bmin; split <;> rfl
  have sm : smax c c = c := by unfold smax; split <;> rfl
  have sn : smin c c = c := by unfold smin; split <;> rfl
  have b : byB (cstN c) = cstN c := by
    show (c, 0#64, bmax c c, bmin c (c ||| 0#64), smax c (c ||| (0#64 &&& cMin)), smin c (c ||| (0#64 &&& cMax))) = (c, 0#64, c, c, c, c)
    rw [x1, x1, x0, bm, bn, sm, sn]
  have t1 : td1 (cstN c) = cstN c := by
    show (if 0 ≤ c.toInt ∨ c.toInt < 0 then (c, 0#64, bmax c c, bmin c c, c, c) else (c, 0#64, c, c, c, c)) = (c, 0#64, c, c, c, c)
    rw [bm, bn]
    split <;> rfl
  have t2 : td2 (cstN c) = cstN c := by
    show (if (c.toInt < 0 ↔ c.toInt < 0) then (c, 0#64, c, c, smax c c, smin c c) else (c, 0#64, c, c, c, c)) = (c, 0#64, c, c, c, c)
    rw [sm, sn]
    split <;> rfl
  have t3 : td3 (cstN c) = cstN c := by
    show (c ||| (c &&& ~~~ sprd (c ^^^ c)), 0#64 &&& sprd (c ^^^ c), c, c, c, c) = (c, 0#64, c, c, c, c)
    rw [x1]
    have : c ||| (c &&& ~~~ sprd (c ^^^ c)) = c := by
      apply BitVec.eq_of_getLsbD_eq
      intro i hi
      simp only [BitVec.getLsbD_or, BitVec.getLsbD_and]
      cases c.getLsbD i <;> simp
    rw [this]
  unfold tdN
  rw [b, t1, t2, t3, b]
  split <;> rfl
theorem tdN_any : tdN anyN = anyN := by decide +kernel
