set_option linter.unusedVariables false
set_option linter.unusedSimpArgs false
/-! ===== factors ===== -/
section
variable {X : XC} {Y : YM} {f : Nat → Int} {n : Nat}
theorem kd3 {s : Nat} {c : Int} (hs : s ≤ n) (hc : 0 ≤ c ∧ c < 48 ∨ 57 < c ∧ c < 97) : bt f n s = c ↔ (kd f n s = 3 ∧ f s = c) := by
  unfold bt kd
  by_cases z : s < n
  · rw [if_pos z, if_pos z]
    constructor
    · intro h
      have nd : ¬ isDg f s = true := fun y => by have := of_decide_eq_true y; omega
      have nl : ¬ isLt f s = true := fun y => by have := of_decide_eq_true y; omega
      rw [if_neg nd, if_neg nl]; exact ⟨rfl, h⟩
    · exact fun h => h.2
  · rw [if_neg z, if_neg z]
    constructor
    · intro h; omega
    · intro h; omega
theorem kd_pos {s : Nat} (h : kd f n s ≠ 0) : s < n := by
  rcases Nat.lt_or_ge s n with q | q
  · exact q
  · unfold kd at h; rw [if_neg (by omega)] at h; exact absurd rfl h
theorem wd_kd {s v : Nat} (h : wd f n s v = true) : kd f n s = 2 := by
  unfold wd at h
  rw [Bool.and_eq_true, decide_eq_true_iff] at h
  exact h.1.1
theorem wd_one {s v v' : Nat} (h : wd f n s v = true) (hv : v < 9) (hv' : v' < 9) (hne : ∀ l : List Int, wch v = l → wch v' ≠ l) : wd f n s v' = false := by
  rw [← Bool.not_eq_true]
  intro h'
  unfold wd at h h'
  rw [Bool.and_eq_true, decide_eq_true_iff, wmt_iff] at h h'
  have hl : wln v = wln v' := by omega
  refine hne _ rfl ?_
  apply List.ext_getElem?
  intro i
  by_cases hi : i < wln v
  · have a := h.2 i hi
    have b := h'.2 i (by omega)
    rw [a] at b
    have hi' : i < (wch v).length := hi
    have hi2 : i < (wch v').length := by unfold wln at hl; omega
    rw [List.getD_eq_getElem?_getD, List.getElem?_eq_getElem hi', List.getD_eq_getElem?_getD, List.getElem?_eq_getElem hi2] at b
    rw [List.getElem?_eq_getElem hi', List.getElem?_eq_getElem hi2]
    exact congrArg some b.symm
  · rw [List.getElem?_eq_none (show (wch v).length ≤ i by unfold wln at hi; omega), List.getElem?_eq_none (show (wch v').length ≤ i by unfold wln at hl hi; omega)]
/-- a word's step -/
theorem fac_word {N de s t v w : Nat} {ss : List Int} {x : Int} (tX : TX X f n) (hst : st f n s) (p : PRE n de s ss t 2)
    (hv : (v = 0 ∧ w = 6) ∨ (v = 1 ∧ w = 7) ∨ (v = 2 ∧ w = 2) ∨ (v = 3 ∧ w = 8)) (hx : x = -(v + 1 : Int)) (hw : wd f n s w = true) :
    EX X f n (fun h => FX4_readFactor (FRRecS N) h 1 de) (fun g => FX8_factor (FRRecM N) g 227) de s ss t (t + 1) := by
  obtain ⟨p1, p2, p3, p4, p5⟩ := p
  have hk := wd_kd hw
  have hsn : s < n := kd_pos (f := f) (by rw [hk]; decide)
  have hn := tX.1
  have w6 : v = 0 ∨ wd f n s 6 = false := by
    rcases hv with ⟨rfl, rfl⟩ | ⟨rfl, rfl⟩ | ⟨rfl, rfl⟩ | ⟨rfl, rfl⟩
    · exact Or.inl rfl
    · exact Or.inr (wd_one hw (by omega) (by omega) (fun l h => by rw [← h]; decide))
    · exact Or.inr (wd_one hw (by omega) (by omega) (fun l h => by rw [← h]; decide))
    · exact Or.inr (wd_one hw (by omega) (by omega) (fun l h => by rw [← h]; decide))
  have w7 : v ≤ 1 ∨ wd f n s 7 = false := by
    rcases hv with ⟨rfl, rfl⟩ | ⟨rfl, rfl⟩ | ⟨rfl, rfl⟩ | ⟨rfl, rfl⟩
    · exact Or.inl (by omega)
    · exact Or.inl (by omega)
    · exact Or.inr (wd_one hw (by omega) (by omega) (fun l h => by rw [← h]; decide))
    · exact Or.inr (wd_one hw (by omega) (by omega) (fun l h => by rw [← h]; decide))
  have w2 : v ≤ 2 ∨ wd f n s 2 = false := by
    rcases hv with ⟨rfl, rfl⟩ | ⟨rfl, rfl⟩ | ⟨rfl, rfl⟩ | ⟨rfl, rfl⟩
    · exact Or.inl (by omega)
    · exact Or.inl (by omega)
    · exact Or.inl (by omega)
    · exact Or.inr (wd_one hw (by omega) (by omega) (fun l h => by rw [← h]; decide))
  refine Or.inr ⟨nx f n s, [x], ⟨Nat.le_of_lt (nx_gt hsn), (nx_st p1).1, ?_, ?_, ?_⟩, ?_, ?_⟩
  · have := nx_gt (f := f) hsn; simp; omega
  · unfold dk; rw [if_neg (by omega)]; exact ⟨by omega, rfl⟩
  · intro y hy; simp at hy; omega
  · intro h S rr tx sp wC iv tk stp
    have tk' := tk
    obtain ⟨k2, k3, k4, k5, k6, ks⟩ := tk
    obtain ⟨h1, sp1, e1, c1, s1⟩ := c_step wC stp (x := x) (by omega)
    obtain ⟨h2, tx2, e2, c2, t2, y2⟩ := c_adv c1 tX k2 k5 (en_le p1)
    refine ⟨h2, _, tx2, sp1, ?_, c2, t2, s1, y2, by rw [upf_ne (by decide)]⟩
    have J : JX4_readFactor_185 (FRRecS N) h1 1 = some (1, h2) := by
      unfold JX4_readFactor_185
      rw [z1_r0 (cw_e1 c1), Option.bind_some, e2, Option.bind_some]
    dsimp only
    unfold FX4_readFactor
    rw [z1_O (cw_e1 wC), Option.bind_some, z1_r0 (cw_e1 wC), Option.bind_some, z2_i3 (cw_e2 wC), Option.bind_some, k3, hk, if_neg (by decide), Option.bind_some, c_mark wC tX tk' (by omega), Option.bind_some, if_neg (show ¬ (kd f n s = 3 ∧ f s = 40) by omega), if_pos (show w32 0 = 0 by decide), Option.bind_some, c_word wC tX tk' (by omega), Option.bind_some]
    rcases hv with ⟨rfl, rfl⟩ | ⟨rfl, rfl⟩ | ⟨rfl, rfl⟩ | ⟨rfl, rfl⟩
    · rw [hw, if_pos rfl, if_neg (show ¬ w32 1 = 0 by decide)]
      rw [show (-1 : Int) = x by omega, e1, Option.bind_some, J]
    · have q6 : wd f n s 6 = false := by rcases w6 with z | z; omega; exact z
      rw [q6, if_neg Bool.false_ne_true, if_pos (show w32 0 = 0 by decide), Option.bind_some, c_word wC tX tk' (by omega), Option.bind_some, hw, if_pos rfl, if_neg (show ¬ w32 1 = 0 by decide)]
      rw [show (-2 : Int) = x by omega, e1, Option.bind_some, J]
    · have q6 : wd f n s 6 = false := by rcases w6 with z | z; omega; exact z
      have q7 : wd f n s 7 = false := by rcases w7 with z | z; omega; exact z
      rw [q6, if_neg Bool.false_ne_true, if_pos (show w32 0 = 0 by decide), Option.bind_some, c_word wC tX tk' (by omega), Option.bind_some, q7, if_neg Bool.false_ne_true, if_pos (show w32 0 = 0 by decide), Option.bind_some, c_word wC tX tk' (by omega), Option.bind_some, hw, if_pos rfl, if_neg (show ¬ w32 1 = 0 by decide)]
      rw [show (-3 : Int) = x by omega, e1, Option.bind_some, J]
    · have q6 : wd f n s 6 = false := by rcases w6 with z | z; omega; exact z
      have q7 : wd f n s 7 = false := by rcases w7 with z | z; omega; exact z
      have q2 : wd f n s 2 = false := by rcases w2 with z | z; omega; exact z
      rw [q6, if_neg Bool.false_ne_true, if_pos (show w32 0 = 0 by decide), Option.bind_some, c_word wC tX tk' (by omega), Option.bind_some, q7, if_neg Bool.false_ne_true, if_pos (show w32 0 = 0 by decide), Option.bind_some, c_word wC tX tk' (by omega), Option.bind_some, q2, if_neg Bool.false_ne_true, if_pos (show w32 0 = 0 by decide), Option.bind_some, c_word wC tX tk' (by omega), Option.bind_some, hw, if_pos rfl, if_neg (show ¬ w32 1 = 0 by decide)]
      rw [show (-4 : Int) = x by omega, e1, Option.bind_some, J]
  · intro Y rY g u dr wM ps h14 cd
    have ps' := ps
    obtain ⟨k3, k5, q, k4, hq, hsq⟩ := ps
    have cb := cnt_b cd p3 (by omega) (by omega)
    obtain ⟨g1, e1, w1⟩ := m_next wM rY ps'
    have hb40 : bt f n s ≠ 40 := fun z => by have := ((kd3 (f := f) p1 (by omega)).mp z).1; omega
    have hbr := bt_tx tX (s := s)
    have ps1 : POS f n (upf u 4 (s : Nat)) s := pos_at k3 k5 p1 (st_sk hst)
    -- the words that don't stand there
    have miss : ∀ {z : Nat} {g1 : PH}, z < 9 → wd f n s z = false → MW Y g1 (upf u 4 (s : Nat)) dr → ∃ g2, FX8_takeWord g1 227 z = some (0, g2) ∧ MW Y g2 (upf u 4 (s : Nat)) dr := fun {z g1} hz hf hw1 => by
      rcases m_word hw1 rY ps1 hz with ⟨-, g2, a1, a2⟩ | ⟨a, -⟩
      · rw [upf_up] at a2; exact ⟨g2, a1, a2⟩
      · rw [hf] at a; cases a
    have hit : ∀ {g1 : PH}, MW Y g1 (upf u 4 (s : Nat)) dr → ∃ g2, FX8_takeWord g1 227 w = some (1, g2) ∧ MW Y g2 (upf u 4 (en f n s : Nat)) dr := fun {g1} hw1 => by
      have hz : w < 9 := by omega
      rcases m_word hw1 rY ps1 hz with ⟨a, -⟩ | ⟨-, g2, a1, a2⟩
      · rw [hw] at a; cases a
      · rw [upf_up] at a2; exact ⟨g2, a1, a2⟩
    have fin : ∀ {g2 : PH}, MW Y g2 (upf u 4 (en f n s : Nat)) dr → ∃ g' u' dr', JX8_factor_142 (FRRecM N) g2 227 (v : Nat) = some g' ∧ MW Y g' u' dr' ∧ POS f n u' (nx f n s) ∧ u' 14 = de ∧ u' 15 = u 15 ∧ keepU u u' ∧ cds dr' 0 (ss ++ [x]) ∧ keepD dr dr' ∧ dr' = app dr [x] := fun {g2} hw2 => by
      obtain ⟨g3, g4, dr4, a1, a2, a3, a4, a5, a6⟩ := emit2 (x := x) (a := 1) (b := (v : Nat)) hw2 (by rw [upf_ne (by decide)]; exact k5) cd (by omega) (Or.inr (by omega))
      refine ⟨g4, _, dr4, ?_, a3, pos_at k3 k5 (en_le p1) rfl, by rw [upf_ne (by decide)]; exact h14, upf_ne (by decide), keep_up (by omega), a4, a5, a6⟩
      unfold JX8_factor_142 JX8_factor_159 JX8_factor_170
      rw [w32_nat (by omega), if_neg (by omega), if_neg (by omega), a1, Option.bind_some, a2, Option.bind_some]
    have head : FX8_factor (FRRecM N) g 227 = (FX8_takeWord g1 227 6).bind fun q4 => if w32 q4.1 = 0 then ((FX8_takeWord q4.2 227 7).bind fun q5 => if w32 q5.1 = 0 then ((FX8_takeWord q5.2 227 2).bind fun q6 => if w32 q6.1 = 0 then ((FX8_takeWord q6.2 227 8).bind fun q7 => if w32 q7.1 = 0 then JX8_factor_142 (FRRecM N) q7.2 227 (-1) else JX8_factor_142 (FRRecM N) q7.2 227 3) else JX8_factor_142 (FRRecM N) q6.2 227 2) else JX8_factor_142 (FRRecM N) q5.2 227 1) else JX8_factor_142 (FRRecM N) q4.2 227 0 := by
      unfold FX8_factor
      rw [z8_O (mw_z wM), Option.bind_some, m_good wM k5, Option.bind_some, if_neg (show ¬ w32 1 = 0 by decide), e1, Option.bind_some]
      dsimp only
      rw [w32_eq (by omega) (by omega), show w32 40 = 40 from rfl, if_neg hb40, m_isDg rY, Option.bind_some, if_neg (show ¬ kd f n s = 1 by omega), if_pos (show w32 0 = 0 by decide)]
    show ∃ g' u' dr', FX8_factor (FRRecM N) g 227 = some g' ∧ _
    rw [head]
    rcases hv with ⟨rfl, rfl⟩ | ⟨rfl, rfl⟩ | ⟨rfl, rfl⟩ | ⟨rfl, rfl⟩
    · obtain ⟨g2, b1, b2⟩ := hit w1
      rw [b1, Option.bind_some, if_neg (show ¬ w32 1 = 0 by decide)]
      exact fin b2
    · have q6 : wd f n s 6 = false := by rcases w6 with z | z; omega; exact z
      obtain ⟨g2, b1, b2⟩ := miss (by omega) q6 w1
      obtain ⟨g3, b3, b4⟩ := hit b2
      rw [b1, Option.bind_some, if_pos (show w32 0 = 0 by decide), b3, Option.bind_some, if_neg (show ¬ w32 1 = 0 by decide)]
      exact fin b4
    · have q6 : wd f n s 6 = false := by rcases w6 with z | z; omega; exact z
      have q7 : wd f n s 7 = false := by rcases w7 with z | z; omega; exact z
      obtain ⟨g2, b1, b2⟩ := miss (by omega) q6 w1
      obtain ⟨g3, b3, b4⟩ := miss (by omega) q7 b2
      obtain ⟨g4, b5, b6⟩ := hit b4
      rw [b1, Option.bind_some, if_pos (show w32 0 = 0 by decide), b3, Option.bind_some, if_pos (show w32 0 = 0 by decide), b5, Option.bind_some, if_neg (show ¬ w32 1 = 0 by decide)]
      exact fin b6
    · have q6 : wd f n s 6 = false := by rcases w6 with z | z; omega; exact z
      have q7 : wd f n s 7 = false := by rcases w7 with z | z; omega; exact z
      have q2 : wd f n s 2 = false := by rcases w2 with z | z; omega; exact z
      obtain ⟨g2, b1, b2⟩ := miss (by omega) q6 w1
      obtain ⟨g3, b3, b4⟩ := miss (by omega) q7 b2
      obtain ⟨g4, b5, b6⟩ := miss (by omega) q2 b4
      obtain ⟨g5, b7, b8⟩ := hit b6
      rw [b1, Option.bind_some, if_pos (show w32 0 = 0 by decide), b3, Option.bind_some, if_pos (show w32 0 = 0 by decide), b5, Option.bind_some, if_pos (show w32 0 = 0 by decide), b7, Option.bind_some, if_neg (show ¬ w32 1 = 0 by decide)]
      exact fin b8
end
