set_option linter.unusedVariables false
set_option linter.unusedSimpArgs false
/-! ===== the reference: operators ===== -/
theorem cmpL_lt {x y : Int} (hx : -9000000000000000000 ≤ x ∧ x ≤ 9000000000000000000) (hy : -9000000000000000000 ≤ y ∧ y ≤ 9000000000000000000) : w32 (cmpL x y) = if x < y then -1 else if x = y then 0 else 1 := by
  unfold cmpL
  rw [w64_eq (x := x) (by omega) (by omega), w64_eq (x := y) (by omega) (by omega)]
  split
  · rfl
  · split <;> rfl
theorem m_lim {h : PH} {v : Int} (hv : -9000000000000000000 ≤ v ∧ v ≤ 9000000000000000000) : FX8_limited h v = some (clp v) := by
  unfold FX8_limited JX8_limited_29 clp
  rw [cmpL_lt hv (by omega), cmpL_lt hv (by omega)]
  by_cases a : 1000000 < v
  · rw [if_pos a, if_neg (show ¬ v < 1000000 by omega), if_neg (show ¬ v = 1000000 by omega), if_pos (by decide)]
  · rw [if_neg a]
    by_cases b : v < -1000000
    · simp [b, show v < 1000000 by omega]
    · by_cases c : v < 1000000
      · by_cases e : v = -1000000
        · subst e; rfl
        · simp [b, c, e]
      · have e : v = 1000000 := by omega
        subst e; rfl
theorem m_op {h : PH} {s x y : Int} (hs : -8 ≤ s ∧ s ≤ -5) (hx : inR x) (hy : inR y) : FX8_operate h (-3 - s) x y = some (rs s x y) := by
  have hm := mul_in hx hy
  have hd := div_in hx hy
  have hx' := hx
  have hy' := hy
  unfold inR at hx' hy' hd
  unfold FX8_operate JX8_operate_44 JX8_operate_18 rs
  simp (disch := omega) only [w32_eq]
  by_cases a5 : s = -5
  · rw [if_neg (by omega), if_pos (by omega), if_pos a5, m_lim (by omega)]; rfl
  by_cases a6 : s = -6
  · rw [if_neg (by omega), if_neg (by omega), if_pos (by omega), if_neg a5, if_pos a6, m_lim (by omega)]; rfl
  by_cases a7 : s = -7
  · rw [if_neg (by omega), if_neg (by omega), if_neg (by omega), if_neg a5, if_neg a6, if_pos a7, m_lim (by omega)]; rfl
  rw [if_pos (by omega), if_neg a5, if_neg a6, if_neg a7, w64_eq (x := y) (by omega) (by omega), cmpL_lt (by omega) (by omega)]
  by_cases z : y = 0
  · subst z; rfl
  · rw [if_neg z, if_neg z, if_neg z]
    have e : clp (divL x y) = divL x y := by
      unfold clp
      rw [if_neg (by omega), if_neg (by omega)]
    rw [e]
    by_cases n : y < 0
    · rw [if_pos n, if_neg (by decide)]
    · rw [if_neg n, if_neg (by decide)]
