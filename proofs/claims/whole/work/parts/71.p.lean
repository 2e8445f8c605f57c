set_option linter.unusedVariables false
set_option linter.unusedSimpArgs false
/-! ===== timeOn ===== -/
theorem rem_ok : ∀ x : Nat, x < 4 → ∀ c : Nat, c < 5 → 1 ≤ c → remI (x : Int) (c : Int) = ((x % c : Nat) : Int) := by decide +kernel
section
variable {M : MM} {c : Nat}
theorem sa_r {x : Nat} (h0 : x ≠ 0) (h2 : x ≠ 2) (h5 : x ≠ 5) (h11 : x ≠ 11) (hr : ¬ (13 ≤ x ∧ x ≤ 18)) : saM M c x = M x := by
  unfold saM
  rw [up_ne h0]
  funext i
  unfold saC
  rw [if_neg (fun q => hr ⟨q.1, q.2.1⟩), up_ne h11]
  unfold saT
  rw [if_neg (fun q => h2 q.1), if_neg (fun q => h5 q.1)]
theorem sa_2 {i : Nat} : saM M c 2 i = if i < (M 1 0).toNat ∧ M 2 i ≠ 5 then 0 else M 2 i := by
  unfold saM
  rw [up_ne (by decide)]
  unfold saC
  rw [if_neg (by omega), up_ne (by decide)]
  unfold saT
  by_cases z : i < (M 1 0).toNat ∧ M 2 i ≠ 5
  · rw [if_pos ⟨rfl, z⟩, if_pos z]
  · rw [if_neg (fun q => z q.2), if_neg (by omega), if_neg z]
theorem sa_5 {i : Nat} : saM M c 5 i = if i < (M 1 0).toNat then remI (M 5 i) c else M 5 i := by
  unfold saM
  rw [up_ne (by decide)]
  unfold saC
  rw [if_neg (by omega), up_ne (by decide)]
  unfold saT
  rw [if_neg (by omega)]
  by_cases z : i < (M 1 0).toNat
  · rw [if_pos ⟨rfl, z⟩, if_pos z]
  · rw [if_neg (fun q => z q.2), if_neg z]
theorem sa_11 {i : Nat} : saM M c 11 i = if i = 0 then (c : Int) else M 11 i := by
  unfold saM
  rw [up_ne (by decide)]
  unfold saC
  rw [if_neg (by omega)]
  by_cases z : i = 0
  · subst z; rw [up_eq, if_pos rfl]
  · rw [up_ni z, if_neg z]
    unfold saT
    rw [if_neg (by omega), if_neg (by omega)]
theorem sa_c {x i : Nat} (hx : 13 ≤ x ∧ x ≤ 18) (hi : i < 4) : saM M c x i = if x = 14 then -1 else 0 := by
  unfold saM
  rw [up_ne (by omega)]
  unfold saC
  rw [if_pos ⟨hx.1, hx.2, hi⟩]
theorem sa_0 {i : Nat} : saM M c 0 i = if i = 3 then 0 else M 0 i := by
  unfold saM
  by_cases z : i = 3
  · subst z; rw [up_eq, if_pos rfl]
  · rw [up_ni z, if_neg z]
    unfold saC
    rw [if_neg (by omega), up_ne (by decide)]
    unfold saT
    rw [if_neg (by omega), if_neg (by omega)]
/-- what is wanted of a machine that starts again -/
def PreSa (M : MM) : Prop := OkT M ∧ OkP M ∧ OkB M ∧ (0 ≤ M 11 1 ∧ M 11 1 ≤ 8) ∧ (0 ≤ M 11 2 ∧ M 11 2 ≤ 20)
theorem iv_sa (pr : PreSa M) (hc : 1 ≤ c ∧ c ≤ 4) : IvM (saM M c) := by
  obtain ⟨⟨t1, t2, t3, t4⟩, okP, ob, p1, p2⟩ := pr
  have e1 : saM M c 1 = M 1 := sa_r (by decide) (by decide) (by decide) (by decide) (by omega)
  have e3 : saM M c 3 = M 3 := sa_r (by decide) (by decide) (by decide) (by decide) (by omega)
  have e4 : saM M c 4 = M 4 := sa_r (by decide) (by decide) (by decide) (by decide) (by omega)
  have e6 : saM M c 6 = M 6 := sa_r (by decide) (by decide) (by decide) (by decide) (by omega)
  have e9 : saM M c 9 = M 9 := sa_r (by decide) (by decide) (by decide) (by decide) (by omega)
  have c0 : saM M c 11 0 = c := by rw [sa_11, if_pos rfl]
  have c1 : saM M c 11 1 = M 11 1 := by rw [sa_11, if_neg (by decide)]
  have c2 : saM M c 11 2 = M 11 2 := by rw [sa_11, if_neg (by decide)]
  have s13 : ∀ q : Nat, q < 4 → saM M c 13 q = 0 := fun q hq => by rw [sa_c (by omega) hq, if_neg (by decide)]
  have s14 : ∀ q : Nat, q < 4 → saM M c 14 q = -1 := fun q hq => by rw [sa_c (by omega) hq, if_pos rfl]
  have s15 : ∀ q : Nat, q < 4 → saM M c 15 q = 0 := fun q hq => by rw [sa_c (by omega) hq, if_neg (by decide)]
  have s18 : ∀ q : Nat, q < 4 → saM M c 18 q = 0 := fun q hq => by rw [sa_c (by omega) hq, if_neg (by decide)]
  have s5 : ∀ t : Nat, (t : Int) < M 1 0 → 0 ≤ saM M c 5 t ∧ saM M c 5 t < c := fun t ht => by
    have := (okP t ht).2.1
    obtain ⟨y, hy⟩ := Int.eq_ofNat_of_zero_le this.1
    rw [sa_5, if_pos (by omega), hy, rem_ok y (by omega) c (by omega) hc.1]
    have := Nat.mod_lt y (show c > 0 by omega)
    omega
  refine ⟨⟨⟨by rw [e1]; exact t1, by rw [e1]; exact t2, fun t ht => ?_, by rw [e1, e9]; exact t4⟩, ⟨by rw [c0]; omega, by rw [c1]; exact p1, by rw [c2]; exact p2, fun q hq => by rw [s13 q hq]; omega, fun q hq => ?_, fun q hq => by rw [s18 q hq]; exact Or.inl rfl⟩, fun t ht => ?_⟩, fun q hq j hj => ?_, fun q q' hq hq' hne h0 => ?_, ⟨fun q j hq hj => ?_, fun q hq h0 => ?_, fun q j q' j' hq hq' hj hj' he => ?_⟩, okB_congr e1 e6 ob, fun t ht => ?_⟩
  · have := t3 t ht
    rw [sa_2]; split <;> omega
  · rw [c0] at hq
    exact Or.inl ⟨s14 q (by omega), s15 q (by omega)⟩
  · rw [e1] at ht
    have := s5 t ht
    rw [e3, e4]
    exact ⟨(okP t ht).1, by omega, (okP t ht).2.2⟩
  · rw [s13 q hq] at hj; omega
  · rw [c0] at hq; rw [s14 q (by omega)] at h0; omega
  · rw [s13 q hq] at hj; omega
  · rw [c0] at hq; rw [s14 q (by omega)] at h0; omega
  · rw [s13 q hq] at hj; omega
  · rw [e1] at ht
    rw [c0]
    exact (s5 t ht).2
end
/-! the reference -/
def clc (d : Int → Int) (j : Nat) : Int → Int := fun i => if 272 ≤ i ∧ i < 324 then (if i = 272 ∧ 0 < j ∨ i = 285 ∧ 1 < j ∨ i = 298 ∧ 2 < j ∨ i = 311 ∧ 3 < j then -1 else 0) else d i
section
variable {h : PH} {a : Nat} {d : Int → Int}
theorem m_clear (zd : h[a]? = some (dcell d)) : FX8_clearCores h a = some (h.set a (dcell (clc d 4))) := by
  have hl : a < h.length := by
    rcases Nat.lt_or_ge a h.length with q | q
    · exact q
    · rw [List.getElem?_eq_none q] at zd; cases zd
  have Z : ∀ x, (h.set a (dcell x))[a]? = some (dcell x) := fun x => by simp [hl]
  unfold FX8_clearCores
  have L1 := lp_det (f := fun st : Int × PH => LX8_clearCores_4 a st.1 st.2) (fun j => ((j : Int), h.set a (dcell (fun i => if 272 ≤ i ∧ i < (j : Int) then 0 else d i)))) (a := 272) (b := 324) (r := h.set a (dcell (clc d 0))) (by omega) (by omega) (fun j h1 h2 => ?_) ?_
  · rw [show dcell (fun i => if 272 ≤ i ∧ i < ((272 : Nat) : Int) then 0 else d i) = dcell d from dcell_congr (fun i h1 h2 => by rw [if_neg (by omega)]), set_same zd] at L1
    have L1 : lp (fun st : Int × PH => LX8_clearCores_4 a st.1 st.2) FU (272, h) = _ := L1
    rw [L1, Option.bind_some]
    have L2 := lp_det (f := fun st : Int × PH => LX8_clearCores_23 a st.1 st.2) (fun j => ((j : Int), h.set a (dcell (clc d j)))) (a := 0) (b := 4) (r := h.set a (dcell (clc d 4))) (by omega) (by omega) (fun j h1 h2 => ?_) ?_
    · have L2 : lp (fun st : Int × PH => LX8_clearCores_23 a st.1 st.2) FU (0, h.set a (dcell (clc d 0))) = _ := L2
      rw [L2, Option.bind_some]
    · unfold LX8_clearCores_23 FX8_core
      rw [w32_nat (by omega), show w32 4 = 4 from rfl, if_pos (by omega), Option.bind_some, zd_s (Z _) (by omega) (by omega), Option.bind_some, List.set_set]
      rw [show ud (clc d j) (272 + 13 * (j : Int) + 0) (-1) = clc d (j + 1) from by
        funext i
        unfold ud clc
        by_cases e : i = 272 + 13 * (j : Int) + 0
        · rw [if_pos e, if_pos (by omega), if_pos (by omega)]
        · rw [if_neg e]
          by_cases c : 272 ≤ i ∧ i < 324
          · rw [if_pos c, if_pos c]
            by_cases c2 : i = 272 ∧ 0 < j ∨ i = 285 ∧ 1 < j ∨ i = 298 ∧ 2 < j ∨ i = 311 ∧ 3 < j
            · rw [if_pos c2, if_pos (by omega)]
            · rw [if_neg c2, if_neg (by omega)]
          · rw [if_neg c, if_neg c]]
      rfl
    · unfold LX8_clearCores_23
      rw [if_neg (show ¬ w32 ((4 : Nat) : Int) < w32 4 by decide)]
  · unfold LX8_clearCores_4
    rw [w32_nat (by omega), show w32 324 = 324 from rfl, if_pos (by omega), zd_s (Z _) (by omega) (by omega), Option.bind_some, List.set_set]
    rw [show ud (fun i => if 272 ≤ i ∧ i < (j : Int) then 0 else d i) j 0 = (fun i => if 272 ≤ i ∧ i < ((j + 1 : Nat) : Int) then 0 else d i) from by
      funext i
      unfold ud
      by_cases e : i = j
      · rw [if_pos e, if_pos (by omega)]
      · rw [if_neg e]
        dsimp only
        by_cases c : 272 ≤ i ∧ i < (j : Int)
        · rw [if_pos c, if_pos (by omega)]
        · rw [if_neg c, if_neg (by omega)]]
    rfl
  · unfold LX8_clearCores_4
    rw [if_neg (show ¬ w32 ((324 : Nat) : Int) < w32 324 by decide)]
    rw [show dcell (fun i => if 272 ≤ i ∧ i < ((324 : Nat) : Int) then 0 else d i) = dcell (clc d 0) from dcell_congr (fun i h1 h2 => by
      unfold clc
      by_cases c : 272 ≤ i ∧ i < 324
      · rw [if_pos (by omega), if_pos c, if_neg (by omega)]
      · rw [if_neg (by omega), if_neg c])]
theorem m_toWait (zd : h[a]? = some (dcell d)) {t : Nat} (ht : t < 32) : FX8_putToWait h a t = some (h.set a (dcell (ud (ud (ud (ud d (16 + 8 * (t : Int) + 4) 0) (16 + 8 * (t : Int) + 5) 0) (16 + 8 * (t : Int) + 6) (-1)) (16 + 8 * (t : Int) + 7) (-1)))) := by
  have hl : a < h.length := by
    rcases Nat.lt_or_ge a h.length with q | q
    · exact q
    · rw [List.getElem?_eq_none q] at zd; cases zd
  have Z : ∀ x, (h.set a (dcell x))[a]? = some (dcell x) := fun x => by simp [hl]
  unfold FX8_putToWait FX8_task
  rw [Option.bind_some, zd_s zd (by omega) (by omega), Option.bind_some, Option.bind_some, zd_s (Z _) (by omega) (by omega), Option.bind_some, Option.bind_some, List.set_set, zd_s (Z _) (by omega) (by omega), Option.bind_some, Option.bind_some, List.set_set, zd_s (Z _) (by omega) (by omega), Option.bind_some, List.set_set]
/-- the tasks below j have started again -/
def tsa (d : Int → Int) (c : Int) (j : Nat) (d' : Int → Int) : Prop :=
  (∀ i : Int, (i < 16 ∨ 272 ≤ i) → d' i = d i) ∧ ∀ t : Nat, t < 32 → d' (16 + 8 * (t : Int)) = d (16 + 8 * (t : Int)) ∧ d' (16 + 8 * (t : Int) + 1) = d (16 + 8 * (t : Int) + 1) ∧ d' (16 + 8 * (t : Int) + 3) = d (16 + 8 * (t : Int) + 3) ∧
    d' (16 + 8 * (t : Int) + 2) = (if t < j then remI (d (16 + 8 * (t : Int) + 2)) c else d (16 + 8 * (t : Int) + 2)) ∧ d' (16 + 8 * (t : Int) + 4) = (if t < j ∧ d (16 + 8 * (t : Int) + 4) ≠ 5 then 0 else d (16 + 8 * (t : Int) + 4))
theorem m_tsa {u : Nat → Int} {c n : Nat} {v2 : Int} (z : h[227]? = some (mdl u)) (zd : h[231]? = some (dcell d)) (hc : 1 ≤ c ∧ c ≤ 4) (hn : d 3 = n) (hn32 : n ≤ 32) (hst : ∀ t : Nat, t < n → 0 ≤ d (16 + 8 * (t : Int) + 4) ∧ d (16 + 8 * (t : Int) + 4) ≤ 5) : ∃ d', lp (fun st : Int × PH => LX8_timeOn_96 227 c v2 st.1 st.2) FU (0, h) = some (h.set 231 (dcell d')) ∧ tsa d c n d' := by
  have hl : 231 < h.length := by
    rcases Nat.lt_or_ge 231 h.length with q | q
    · exact q
    · rw [List.getElem?_eq_none q] at zd; cases zd
  have Z : ∀ x, (h.set 231 (dcell x))[231]? = some (dcell x) := fun x => by simp [hl]
  have Z8 : ∀ x, (h.set 231 (dcell x))[227]? = some (mdl u) := fun x => by rw [List.getElem?_set, if_neg (by decide)]; exact z
  have := lp_for (f := fun st : Int × PH => LX8_timeOn_96 227 c v2 st.1 st.2) (fun j st => ∃ d', st = ((j : Int), h.set 231 (dcell d')) ∧ tsa d c j d') (fun q => ∃ d', q = h.set 231 (dcell d') ∧ tsa d c n d') (a := 0) (b := n) (s := (0, h)) (by omega) (by omega) ⟨d, by rw [set_same zd]; rfl, fun i _ => rfl, fun t ht => ⟨rfl, rfl, rfl, by rw [if_neg (by omega)], by rw [if_neg (by omega)]⟩⟩ (fun j st h1 h2 hI => ?_) (fun st hI => ?_)
  · obtain ⟨q, e1, d', rfl, e2⟩ := this
    exact ⟨d', e1, e2⟩
  · obtain ⟨d1, rfl, q1, q2⟩ := hI
    have e3 : d1 3 = n := by rw [q1 3 (by omega)]; exact hn
    obtain ⟨f0, f1, f3, f2, f4⟩ := q2 j (by omega)
    rw [if_neg (by omega)] at f2 f4
    have hs := hst j h2
    refine Or.inr ?_
    dsimp only
    unfold LX8_timeOn_96 JX8_timeOn_144 FX8_task
    simp only [Option.bind_some]
    rw [z8_r10 (Z8 _), Option.bind_some, zd_l (Z _) (by omega) (by omega), Option.bind_some, e3, w32_nat (by omega), w32_nat (by omega), w32_nat (by omega), if_pos (by omega), Option.bind_some, zd_l (Z _) (by omega) (by omega), Option.bind_some, if_neg (by omega), zd_s (Z _) (by omega) (by omega), Option.bind_some, List.set_set, z8_r10 (Z8 _), Option.bind_some, zd_l (Z _) (by omega) (by omega), Option.bind_some, ud_ne (by omega), f4, f2, w32_eq (by omega) (by omega), show w32 5 = 5 from rfl]
    by_cases b : d (16 + 8 * (j : Int) + 4) = 5
    · rw [if_pos b]
      refine ⟨_, rfl, _, rfl, fun i hi => ?_, fun t ht => ?_⟩
      · rw [ud_ne (by omega)]; exact q1 i hi
      · obtain ⟨p0, p1, p3, p2, p4⟩ := q2 t ht
        by_cases et : t = j
        · subst et
          rw [ud_ne (by omega), ud_ne (by omega), ud_ne (by omega), ud_eq, ud_ne (by omega)]
          exact ⟨p0, p1, p3, by rw [if_pos (by omega)], by rw [p4, if_neg (by omega), if_neg (by omega)]⟩
        · rw [ud_ne (by omega), ud_ne (by omega), ud_ne (by omega), ud_ne (by omega), ud_ne (by omega), p2, p4]
          exact ⟨p0, p1, p3, by simp only [show (t < j + 1) = (t < j) by simp only [eq_iff_iff]; omega], by simp only [show (t < j + 1) = (t < j) by simp only [eq_iff_iff]; omega]⟩
    · rw [if_neg b, Option.bind_some, m_toWait (Z _) (by omega), Option.bind_some, List.set_set]
      refine ⟨_, rfl, _, rfl, fun i hi => ?_, fun t ht => ?_⟩
      · rw [ud_ne (by omega), ud_ne (by omega), ud_ne (by omega), ud_ne (by omega), ud_ne (by omega)]; exact q1 i hi
      · obtain ⟨p0, p1, p3, p2, p4⟩ := q2 t ht
        by_cases et : t = j
        · subst et
          refine ⟨?_, ?_, ?_, ?_, ?_⟩
          · rw [ud_ne (by omega), ud_ne (by omega), ud_ne (by omega), ud_ne (by omega), ud_ne (by omega)]; exact p0
          · rw [ud_ne (by omega), ud_ne (by omega), ud_ne (by omega), ud_ne (by omega), ud_ne (by omega)]; exact p1
          · rw [ud_ne (by omega), ud_ne (by omega), ud_ne (by omega), ud_ne (by omega), ud_ne (by omega)]; exact p3
          · rw [ud_ne (by omega), ud_ne (by omega), ud_ne (by omega), ud_ne (by omega), ud_eq, if_pos (by omega)]
          · rw [ud_ne (by omega), ud_ne (by omega), ud_ne (by omega), ud_eq, if_pos ⟨by omega, b⟩]
        · refine ⟨?_, ?_, ?_, ?_, ?_⟩
          · rw [ud_ne (by omega), ud_ne (by omega), ud_ne (by omega), ud_ne (by omega), ud_ne (by omega)]; exact p0
          · rw [ud_ne (by omega), ud_ne (by omega), ud_ne (by omega), ud_ne (by omega), ud_ne (by omega)]; exact p1
          · rw [ud_ne (by omega), ud_ne (by omega), ud_ne (by omega), ud_ne (by omega), ud_ne (by omega)]; exact p3
          · rw [ud_ne (by omega), ud_ne (by omega), ud_ne (by omega), ud_ne (by omega), ud_ne (by omega), p2]; simp only [show (t < j + 1) = (t < j) by simp only [eq_iff_iff]; omega]
          · rw [ud_ne (by omega), ud_ne (by omega), ud_ne (by omega), ud_ne (by omega), ud_ne (by omega), p4]; simp only [show (t < j + 1) = (t < j) by simp only [eq_iff_iff]; omega]
  · obtain ⟨d1, rfl, q1, q2⟩ := hI
    have e3 : d1 3 = n := by rw [q1 3 (by omega)]; exact hn
    dsimp only
    unfold LX8_timeOn_96
    rw [z8_r10 (Z8 _), Option.bind_some, zd_l (Z _) (by omega) (by omega), Option.bind_some, e3, if_neg (Int.lt_irrefl _)]
    exact ⟨_, rfl, d1, rfl, q1, q2⟩
end
theorem rel_sa {M : MM} {d d' : Int → Int} {c : Nat} (ok : OkT M) (hc : 1 ≤ c ∧ c ≤ 4) (r : Rel M d) (ts : tsa (clc (ud (ud d 0 c) 5 0) 4) c (M 1 0).toNat d') : Rel (saM M c) d' := by
  obtain ⟨t1, t2, t3, t4⟩ := ok
  obtain ⟨q1, q2⟩ := ts
  obtain ⟨⟨r0, r1, r2, r3, r4, r5⟩, rf, rt, rc⟩ := r
  have lo : ∀ i : Int, i < 272 → clc (ud (ud d 0 c) 5 0) 4 i = ud (ud d 0 c) 5 0 i := fun i hi => by unfold clc; rw [if_neg (by omega)]
  have hi' : ∀ i : Int, 324 ≤ i → clc (ud (ud d 0 c) 5 0) 4 i = ud (ud d 0 c) 5 0 i := fun i hi => by unfold clc; rw [if_neg (by omega)]
  have e1 : saM M c 1 = M 1 := sa_r (by decide) (by decide) (by decide) (by decide) (by omega)
  have e3 : saM M c 3 = M 3 := sa_r (by decide) (by decide) (by decide) (by decide) (by omega)
  have e4 : saM M c 4 = M 4 := sa_r (by decide) (by decide) (by decide) (by decide) (by omega)
  have e6 : saM M c 6 = M 6 := sa_r (by decide) (by decide) (by decide) (by decide) (by omega)
  have e9 : saM M c 9 = M 9 := sa_r (by decide) (by decide) (by decide) (by decide) (by omega)
  have e19 : saM M c 19 = M 19 := sa_r (by decide) (by decide) (by decide) (by decide) (by omega)
  have c0 : saM M c 11 0 = c := by rw [sa_11, if_pos rfl]
  refine ⟨⟨?_, ?_, ?_, ?_, ?_, ?_, fun i hi => ?_⟩, fun f hf => ?_, fun t ht => ?_, fun q hq => ?_⟩
  · rw [q1 _ (by omega), lo _ (by omega), ud_ne (by omega), ud_eq, c0]
  · rw [q1 _ (by omega), lo _ (by omega), ud_ne (by omega), ud_ne (by omega), sa_11, if_neg (by decide)]; exact r1
  · rw [q1 _ (by omega), lo _ (by omega), ud_ne (by omega), ud_ne (by omega), sa_11, if_neg (by decide)]; exact r2
  · rw [q1 _ (by omega), lo _ (by omega), ud_ne (by omega), ud_ne (by omega), e1]; exact r3
  · rw [q1 _ (by omega), lo _ (by omega), ud_ne (by omega), ud_ne (by omega), e1]; exact r4
  · rw [q1 _ (by omega), lo _ (by omega), ud_eq, sa_0, if_pos rfl]
  · rw [e19, q1 _ (by omega)]
    have : clc (ud (ud d 0 c) 5 0) 4 i = ud (ud d 0 c) 5 0 i := by
      rcases hi with z | z | z
      · exact lo _ (by omega)
      · exact lo _ (by omega)
      · exact hi' _ z
    rw [this, ud_ne (by omega), ud_ne (by omega)]; exact r5.2 i hi
  · rw [e1] at hf
    rw [e9, q1 _ (by omega), lo _ (by omega), ud_ne (by omega), ud_ne (by omega)]; exact rf f hf
  · rw [e1] at ht
    obtain ⟨a0, a1, a2, a3, a4⟩ := rt t ht
    obtain ⟨p0, p1, p3, p2, p4⟩ := q2 t (by omega)
    rw [e3, e4, e6, sa_5, sa_2, p0, p1, p3, p2, p4, if_pos (by omega), if_pos (by omega)]
    rw [lo _ (by omega), lo _ (by omega), lo _ (by omega), lo _ (by omega), lo _ (by omega), ud_ne (by omega), ud_ne (by omega), ud_ne (by omega), ud_ne (by omega), ud_ne (by omega), ud_ne (by omega), ud_ne (by omega), ud_ne (by omega), ud_ne (by omega), ud_ne (by omega), a0, a1, a2, a3, a4]
    exact ⟨rfl, rfl, rfl, rfl, rfl⟩
  · rw [c0] at hq
    have hq4 : q < 4 := by omega
    rw [sa_c (by omega) hq4, if_pos rfl, sa_c (by omega) hq4, if_neg (by decide), sa_c (by omega) hq4, if_neg (by decide), sa_c (by omega) hq4, if_neg (by decide), sa_c (by omega) hq4, if_neg (by decide)]
    refine ⟨?_, ?_, ?_, ?_, ?_, fun k hk => ?_, fun hr => ?_⟩
    · rw [q1 _ (by omega)]; unfold clc; rw [if_pos (by omega), if_pos (by omega)]
    · rw [q1 _ (by omega)]; unfold clc; rw [if_pos (by omega), if_neg (by omega)]
    · rw [q1 _ (by omega)]; unfold clc; rw [if_pos (by omega), if_neg (by omega)]
    · rw [q1 _ (by omega)]; unfold clc; rw [if_pos (by omega), if_neg (by omega)]
    · rw [q1 _ (by omega)]; unfold clc; rw [if_pos (by omega), if_neg (by omega)]
    · omega
    · omega
