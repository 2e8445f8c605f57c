set_option linter.unusedVariables false
set_option linter.unusedSimpArgs false
section
variable {X : XC} {Y : YM} {f : Nat → Int} {n : Nat}
theorem fac_num {N de s t : Nat} {ss : List Int} (tX : TX X f n) (hst : st f n s) (p : PRE n de s ss t 2) (hk : kd f n s = 1) :
    EX X f n (fun h => FX4_readFactor (FRRecS N) h 1 de) (fun g => FX8_factor (FRRecM N) g 227) de s ss t (t + 1) := by
  obtain ⟨p1, p2, p3, p4, p5⟩ := p
  have hsn : s < n := kd_pos (f := f) (by rw [hk]; decide)
  have hn := tX.1
  have hv := tvl_in (f := f) (n := n) (s := s) tX.2.2 hn
  -- the class up to the number
  have headC : ∀ h S rr tx sp, CWd X h S rr tx sp → IvM S → TOK f n tx s → STP rr sp ss → ∃ h1 sp1, CWd X h1 S (upf rr 4 ((ss.length + 1 : Nat) : Int)) tx sp1 ∧ STP (upf rr 4 ((ss.length + 1 : Nat) : Int)) sp1 (ss ++ [tvl f n s]) ∧ FX4_readFactor (FRRecS N) h 1 de = (FX4_takeNumber h1 1 0 9999).bind fun q31 => if w32 q31.1 < 0 then JX4_readFactor_38 (FRRecS N) q31.2 0 else JX4_readFactor_38 (FRRecS N) q31.2 1 := by
    intro h S rr tx sp wC iv tk stp
    obtain ⟨k2, k3, k4, k5, k6, ks⟩ := tk
    obtain ⟨h1, sp1, e1, c1, s1⟩ := c_step wC stp (x := tvl f n s) (by omega)
    refine ⟨h1, sp1, c1, s1, ?_⟩
    unfold FX4_readFactor
    rw [z1_O (cw_e1 wC), Option.bind_some, z1_r0 (cw_e1 wC), Option.bind_some, z2_i3 (cw_e2 wC), Option.bind_some, k3, hk, if_pos (show w32 ((1 : Nat) : Int) = w32 1 from rfl), Option.bind_some, z2_i6 (cw_e2 wC), Option.bind_some, k6, e1, Option.bind_some]
  have headM : ∀ (Y : YM), RT Y f n → ∀ g u dr, MW Y g u dr → POS f n u s → ∃ g1, MW Y g1 (upf u 4 (s : Nat)) dr ∧ POS f n (upf u 4 (s : Nat)) s ∧ FX8_factor (FRRecM N) g 227 = (FX8_number g1 227 0 9999).bind fun q10 => JX8_factor_159 (FRRecM N) q10.2 227 (-1) q10.1 := by
    intro Y rY g u dr wM ps
    have ps' := ps
    obtain ⟨k3, k5, q, k4, hq, hsq⟩ := ps
    obtain ⟨g1, e1, w1⟩ := m_next wM rY ps'
    have hb40 : bt f n s ≠ 40 := fun z => by have := ((kd3 (f := f) p1 (by omega)).mp z).1; omega
    have hbr := bt_tx tX (s := s)
    refine ⟨g1, w1, pos_at k3 k5 p1 (st_sk hst), ?_⟩
    unfold FX8_factor JX8_factor_142
    rw [z8_O (mw_z wM), Option.bind_some, m_good wM k5, Option.bind_some, if_neg (show ¬ w32 1 = 0 by decide), e1, Option.bind_some]
    dsimp only
    rw [w32_eq (by omega) (by omega), show w32 40 = 40 from rfl, if_neg hb40, m_isDg rY, Option.bind_some, if_pos hk, if_neg (show ¬ w32 1 = 0 by decide), if_pos (show w32 (-1) < 0 by decide)]
  by_cases c : 9999 < tvl f n s
  · refine Or.inl ⟨(-3, s), ?_, ?_⟩
    · intro h S rr tx sp wC iv tk stp
      obtain ⟨h1, sp1, c1, s1, e1⟩ := headC h S rr tx sp wC iv tk stp
      have hs1 : (ss ++ [tvl f n s]).length ≤ 900 := by simp; omega
      rcases c_num c1 tX iv (stp_len s1 hs1) tk (lo := 0) (hi := 9999) (by omega) (by omega) with ⟨q, h2, a1, a2, a3⟩ | ⟨h2, tx2, a1, a2, a3, a4, a5, a6, a7, a8⟩
      · unfold sNum at a1
        rw [if_pos hk, if_pos (Or.inr c)] at a1
        cases a1
        refine ⟨h2, ?_, a3⟩
        dsimp only
        rw [e1, a2, Option.bind_some, if_pos (show w32 (-1) < 0 by decide)]
        unfold JX4_readFactor_38
        rw [if_pos (Or.inl rfl)]
      · omega
    · intro Y rY g u dr wM ps h14 cd
      obtain ⟨g1, w1, ps1, e1⟩ := headM Y rY g u dr wM ps
      rcases m_num w1 rY ps1 (lo := 0) (hi := 9999) (by omega) (by omega) with ⟨q, v, g2, a1, a2, a3⟩ | ⟨g2, u2, a1, a2, a3, a4, a5, a6, a7, a8, a9, a10, a11⟩
      · unfold sNum at a1
        rw [if_pos hk, if_pos (Or.inr c)] at a1
        cases a1
        refine ⟨g2, ?_, MF_keep (keep_up (by omega)) a3⟩
        show FX8_factor (FRRecM N) g 227 = _
        rw [e1, a2, Option.bind_some]
        unfold JX8_factor_159 JX8_factor_170
        rw [if_pos (show w32 (-1) < 0 by decide), mf_emit a3, Option.bind_some, mf_emit a3, Option.bind_some]
      · omega
  · refine Or.inr ⟨nx f n s, [tvl f n s], ⟨Nat.le_of_lt (nx_gt hsn), (nx_st p1).1, ?_, ?_, ?_⟩, ?_, ?_⟩
    · have := nx_gt (f := f) hsn; simp; omega
    · unfold dk; rw [if_neg (by omega)]; exact ⟨by omega, rfl⟩
    · intro y hy; simp at hy; omega
    · intro h S rr tx sp wC iv tk stp
      obtain ⟨h1, sp1, c1, s1, e1⟩ := headC h S rr tx sp wC iv tk stp
      have hs1 : (ss ++ [tvl f n s]).length ≤ 900 := by simp; omega
      rcases c_num c1 tX iv (stp_len s1 hs1) tk (lo := 0) (hi := 9999) (by omega) (by omega) with ⟨q, h2, a1, a2, a3⟩ | ⟨h2, tx2, a1, a2, a3, a4, a5, a6, a7, a8⟩
      · unfold sNum at a1
        rw [if_pos hk, if_neg (by omega)] at a1
        cases a1
      · refine ⟨h2, _, tx2, sp1, ?_, a3, a4, s1, a5, by rw [upf_ne (by decide)]⟩
        show FX4_readFactor (FRRecS N) h 1 de = _
        rw [e1, a2, Option.bind_some, w32_eq (by omega) (by omega), if_neg (by omega)]
        unfold JX4_readFactor_38
        rw [if_pos (Or.inr rfl)]
    · intro Y rY g u dr wM ps h14 cd
      have cb := cnt_b cd p3 (by omega) (by omega)
      obtain ⟨g1, w1, ps1, e1⟩ := headM Y rY g u dr wM ps
      rcases m_num w1 rY ps1 (lo := 0) (hi := 9999) (by omega) (by omega) with ⟨q, v, g2, a1, a2, a3⟩ | ⟨g2, u2, a1, a2, a3, a4, a5, a6, a7, a8, a9, a10, a11⟩
      · unfold sNum at a1
        rw [if_pos hk, if_neg (by omega)] at a1
        cases a1
      · obtain ⟨g3, g4, dr4, b1, b2, b3, b4, b5, b6⟩ := emit2 (x := tvl f n s) (a := 0) (b := tvl f n s) a3 a4.2.1 cd (by omega) (Or.inl (by omega))
        refine ⟨g4, u2, dr4, ?_, b3, a4, by rw [a6, upf_ne (by decide)]; exact h14, by rw [a7, upf_ne (by decide)], keep_trans (keep_up (by omega)) a5, b4, b5, b6⟩
        show FX8_factor (FRRecM N) g 227 = _
        rw [e1, a2, Option.bind_some]
        unfold JX8_factor_159 JX8_factor_170
        rw [if_pos (show w32 (-1) < 0 by decide), b1, Option.bind_some, b2, Option.bind_some]
theorem fac_par {N de s t : Nat} {ss : List Int} (tX : TX X f n) (hst : st f n s) (p : PRE n de s ss t 2) (hk : kd f n s = 3 ∧ f s = 40)
    (hN : 3 ≤ N) (ih : de < 4 → ∀ s ss t, st f n s → PRE n (de + 1) s ss t 0 → EX X f n (fun h => FRRecS N 0 h 1 ((de + 1 : Nat) : Int)) (fun g => FRRecM N 0 g 227) (de + 1) s ss t (t + 1)) :
    EX X f n (fun h => FX4_readFactor (FRRecS N) h 1 de) (fun g => FX8_factor (FRRecM N) g 227) de s ss t (t + 1) := by
  have p' := p
  obtain ⟨p1, p2, p3, p4, p5⟩ := p
  have hsn : s < n := kd_pos (f := f) (by rw [hk.1]; decide)
  have hn := tX.1
  have nd : ¬ isDg f s = true := fun y => by have := of_decide_eq_true y; omega
  have nl : ¬ isLt f s = true := fun y => by have := of_decide_eq_true y; omega
  have he : en f n s = s + 1 := by unfold en; rw [if_pos hsn, if_neg nd, if_neg nl]
  have hb40 : bt f n s = 40 := (kd3 (f := f) p1 (by omega)).mpr hk
  have headC : ∀ h S rr tx sp, CWd X h S rr tx sp → TOK f n tx s → FX4_readFactor (FRRecS N) h 1 de = if w32 (de : Int) < w32 4 then ((FX5_advance h 2).bind fun h22 => (FRRecS N 0 h22 1 ((de : Int) + 1)).bind fun q23 => if w32 q23.1 = 0 then JX4_readFactor_93 (FRRecS N) q23.2 else ((FX4_takeMark q23.2 1 41).bind fun q25 => if w32 q25.1 = 0 then JX4_readFactor_93 (FRRecS N) q25.2 else JX4_readFactor_94 (FRRecS N) q25.2 1)) else ((FX4_fail h 1 (-5)).bind fun q26 => if q26.1 = 0 ∨ q26.1 = 1 then some (q26.1, q26.2) else none) := by
    intro h S rr tx sp wC tk
    have tk' := tk
    obtain ⟨k2, k3, k4, k5, k6, ks⟩ := tk
    unfold FX4_readFactor
    rw [z1_O (cw_e1 wC), Option.bind_some, z1_r0 (cw_e1 wC), Option.bind_some, z2_i3 (cw_e2 wC), Option.bind_some, k3, hk.1, if_neg (by decide), Option.bind_some, c_mark wC tX tk' (by omega), Option.bind_some, if_pos hk, if_neg (show ¬ w32 1 = 0 by decide), Option.bind_some]
  have headM : ∀ (Y : YM), RT Y f n → ∀ g u dr, MW Y g u dr → POS f n u s → ∃ g1, MW Y g1 (upf u 4 (s : Nat)) dr ∧ FX8_factor (FRRecM N) g 227 = if w32 (u 14) = w32 4 then ((FX8_report g1 227 (-5) s).bind fun h21 => JX8_factor_37 (FRRecM N) h21 227) else JX8_factor_37 (FRRecM N) g1 227 := by
    intro Y rY g u dr wM ps
    have ps' := ps
    obtain ⟨k3, k5, q, k4, hq, hsq⟩ := ps
    obtain ⟨g1, e1, w1⟩ := m_next wM rY ps'
    refine ⟨g1, w1, ?_⟩
    unfold FX8_factor
    rw [z8_O (mw_z wM), Option.bind_some, m_good wM k5, Option.bind_some, if_neg (show ¬ w32 1 = 0 by decide), e1, Option.bind_some]
    dsimp only
    rw [hb40, if_pos rfl, z8_i14 (mw_z w1), Option.bind_some, upf_ne (by decide), z8_i4 (mw_z w1), Option.bind_some, upf_eq]
  -- the reference behind the parenthesis
  have tailM : ∀ (Y : YM), RT Y f n → ∀ g1 u dr, MW Y g1 (upf u 4 (s : Nat)) dr → u 3 = n → u 5 = 0 → ∃ g2, MW Y g2 (upf (upf u 4 ((s + 1 : Nat) : Int)) 14 (u 14 + 1)) dr ∧ POS f n (upf (upf u 4 ((s + 1 : Nat) : Int)) 14 (u 14 + 1)) (nx f n s) ∧ JX8_factor_37 (FRRecM N) g1 227 = ((FRRecM N 0 g2 227).bind fun h16 => (FX8_expect h16 227 41).bind fun h17 => (gfi h17 8 227 14).bind fun x18 => (pfi h17 8 227 14 (x18 - 1)).bind fun h19 => some h19) := by
    intro Y rY g1 u dr w1 k3 k5
    have w2 := mw_8 (x := upf u 4 ((s + 1 : Nat) : Int)) w1
    have w3 := mw_8 (x := upf (upf u 4 ((s + 1 : Nat) : Int)) 14 (u 14 + 1)) w2
    refine ⟨_, w3, ⟨by rw [upf_ne (by decide), upf_ne (by decide)]; exact k3, by rw [upf_ne (by decide), upf_ne (by decide)]; exact k5, s + 1, by rw [upf_ne (by decide), upf_eq], by omega, by unfold nx; rw [he]⟩, ?_⟩
    unfold JX8_factor_37
    rw [z8_i4 (mw_z w1), Option.bind_some, upf_eq, z8_w4 (mw_z w1), Option.bind_some, upf_up, show (s : Int) + 1 = ((s + 1 : Nat) : Int) by omega, z8_i14 (mw_z w2), Option.bind_some, upf_ne (by decide), z8_w14 (mw_z w2), Option.bind_some]
  -- a failed reference through the rest
  have failM : ∀ (Y : YM), RT Y f n → ∀ g u q, MF Y g u q → ∃ g', ((FX8_expect g 227 41).bind fun h17 => (gfi h17 8 227 14).bind fun x18 => (pfi h17 8 227 14 (x18 - 1)).bind fun h19 => some h19) = some g' ∧ MF Y g' u q := by
    intro Y rY g u q m
    obtain ⟨v, -, a2, -, a4⟩ := mf_set m
    rw [mf_expect m, Option.bind_some, a2, Option.bind_some, (a4 _).1, Option.bind_some]
    exact ⟨_, rfl, (a4 _).2⟩
  by_cases cd : de < 4
  · have pr : PRE n (de + 1) (nx f n s) ss t 0 := ⟨(nx_st p1).1, by omega, p3, by omega, by have := nx_gt (f := f) hsn; omega⟩
    have hC : ∀ h S rr tx sp, CWd X h S rr tx sp → IvM S → TOK f n tx s → STP rr sp ss → ∃ h1 tx1, FX5_advance h 2 = some h1 ∧ CWd X h1 S rr tx1 sp ∧ TOK f n tx1 (nx f n s) ∧ tx1 1 = tx 1 := by
      intro h S rr tx sp wC iv tk stp
      obtain ⟨k2, k3, k4, k5, k6, ks⟩ := tk
      exact c_adv wC tX k2 k5 (en_le p1)
    rcases ih cd (nx f n s) ss t (nx_st p1) pr with ⟨q, iC, iM⟩ | ⟨s2, l, ⟨q1, q2, q3, q4, q5⟩, iC, iM⟩
    · refine Or.inl ⟨q, ?_, ?_⟩
      · intro h S rr tx sp wC iv tk stp
        obtain ⟨h1, tx1, e1, c1, t1, y1⟩ := hC h S rr tx sp wC iv tk stp
        obtain ⟨h2, e2, f2⟩ := iC h1 S rr tx1 sp c1 iv t1 stp
        have e2 : FRRecS N 0 h1 1 ((de + 1 : Nat) : Int) = some (0, h2) := e2
        refine ⟨h2, ?_, by rw [← y1]; exact f2⟩
        show FX4_readFactor (FRRecS N) h 1 de = _
        rw [headC h S rr tx sp wC tk, if_pos (by rw [w32_nat (by omega), show w32 4 = 4 from rfl]; omega), e1, Option.bind_some, show (de : Int) + 1 = ((de + 1 : Nat) : Int) by omega, e2, Option.bind_some, if_pos (show w32 0 = 0 by decide)]
        unfold JX4_readFactor_93 JX4_readFactor_94
        rw [if_pos (Or.inl rfl)]
      · intro Y rY g u dr wM ps h14 cd2
        obtain ⟨g1, w1, e1⟩ := headM Y rY g u dr wM ps
        obtain ⟨g2, w2, ps2, e2⟩ := tailM Y rY g1 u dr w1 ps.1 ps.2.1
        obtain ⟨g3, e3, m3⟩ := iM Y rY g2 _ dr w2 ps2 (by rw [upf_eq, h14]; rfl) cd2
        have e3 : FRRecM N 0 g2 227 = some g3 := e3
        obtain ⟨g4, e4, m4⟩ := failM Y rY g3 _ q m3
        refine ⟨g4, ?_, MF_keep (keep_trans (keep_up (by omega)) (keep_up (by omega))) m4⟩
        show FX8_factor (FRRecM N) g 227 = _
        rw [e1, if_neg (by rw [h14, w32_nat (by omega), show w32 4 = 4 from rfl]; omega), e2, e3, Option.bind_some, e4]
    · by_cases cm : kd f n s2 = 3 ∧ f s2 = 41
      · have hs2 : s2 < n := kd_pos (f := f) (by rw [cm.1]; decide)
        refine Or.inr ⟨nx f n s2, l, ⟨?_, (nx_st q2).1, ?_, q4, q5⟩, ?_, ?_⟩
        · have a := nx_gt (f := f) hs2
          have b := nx_gt (f := f) hsn
          omega
        · have a := nx_gt (f := f) hs2
          have b := nx_gt (f := f) hsn
          omega
        · intro h S rr tx sp wC iv tk stp
          obtain ⟨h1, tx1, e1, c1, t1, y1⟩ := hC h S rr tx sp wC iv tk stp
          obtain ⟨h2, rr2, tx2, sp2, e2, c2, t2, st2, y2, z2⟩ := iC h1 S rr tx1 sp c1 iv t1 stp
          have e2 : FRRecS N 0 h1 1 ((de + 1 : Nat) : Int) = some (1, h2) := e2
          have hl : (ss ++ l).length ≤ 900 := by
            have b := nx_gt (f := f) hsn
            simp; omega
          rcases c_tmark c2 tX iv (stp_len st2 hl) t2 (m := 41) (by omega) with ⟨a0, -⟩ | ⟨-, h3, tx3, a1, a2, a3, a4⟩
          · exact absurd cm a0
          · refine ⟨h3, rr2, tx3, sp2, ?_, a2, a3, st2, by rw [a4, y2, y1], z2⟩
            show FX4_readFactor (FRRecS N) h 1 de = _
            rw [headC h S rr tx sp wC tk, if_pos (by rw [w32_nat (by omega), show w32 4 = 4 from rfl]; omega), e1, Option.bind_some, show (de : Int) + 1 = ((de + 1 : Nat) : Int) by omega, e2, Option.bind_some, if_neg (show ¬ w32 1 = 0 by decide), a1, Option.bind_some, if_neg (show ¬ w32 1 = 0 by decide)]
            unfold JX4_readFactor_94
            rw [if_pos (Or.inr rfl)]
        · intro Y rY g u dr wM ps h14 cd2
          obtain ⟨g1, w1, e1⟩ := headM Y rY g u dr wM ps
          obtain ⟨g2, w2, ps2, e2⟩ := tailM Y rY g1 u dr w1 ps.1 ps.2.1
          obtain ⟨g3, u3, dr3, e3, w3, ps3, n3, se3, ku3, cd3, kd3', ap3⟩ := iM Y rY g2 _ dr w2 ps2 (by rw [upf_eq, h14]; rfl) cd2
          have e3 : FRRecM N 0 g2 227 = some g3 := e3
          rcases m_expect w3 rY ps3 (c := 41) (by omega) with ⟨a0, -⟩ | ⟨-, g4, u4, a1, a2, a3, a4, a5, a6⟩
          · exact absurd cm a0
          · have w5 := mw_8 (x := upf u4 14 (u4 14 - 1)) a2
            refine ⟨_, _, dr3, ?_, w5, ?_, ?_, ?_, ?_, cd3, kd3', ap3⟩
            · show FX8_factor (FRRecM N) g 227 = _
              rw [e1, if_neg (by rw [h14, w32_nat (by omega), show w32 4 = 4 from rfl]; omega), e2, e3, Option.bind_some, a1, Option.bind_some, z8_i14 (mw_z a2), Option.bind_some, z8_w14 (mw_z a2), Option.bind_some]
            · obtain ⟨b1, b2, q, b3, b4, b5⟩ := a3
              exact ⟨by rw [upf_ne (by decide)]; exact b1, by rw [upf_ne (by decide)]; exact b2, q, by rw [upf_ne (by decide)]; exact b3, b4, b5⟩
            · rw [upf_eq, a5, n3]; omega
            · rw [upf_ne (by decide), a6, se3, upf_ne (by decide), upf_ne (by decide)]
            · exact keep_trans (keep_trans (keep_trans (keep_trans (keep_up (by omega)) (keep_up (by omega))) ku3) a4) (keep_up (by omega))
      · refine Or.inl ⟨(-2, s2), ?_, ?_⟩
        · intro h S rr tx sp wC iv tk stp
          obtain ⟨h1, tx1, e1, c1, t1, y1⟩ := hC h S rr tx sp wC iv tk stp
          obtain ⟨h2, rr2, tx2, sp2, e2, c2, t2, st2, y2, z2⟩ := iC h1 S rr tx1 sp c1 iv t1 stp
          have e2 : FRRecS N 0 h1 1 ((de + 1 : Nat) : Int) = some (1, h2) := e2
          have hl : (ss ++ l).length ≤ 900 := by
            have b := nx_gt (f := f) hsn
            simp; omega
          rcases c_tmark c2 tX iv (stp_len st2 hl) t2 (m := 41) (by omega) with ⟨-, h3, a1, a2⟩ | ⟨a0, -⟩
          · refine ⟨h3, ?_, by rw [← y1, ← y2]; exact a2⟩
            show FX4_readFactor (FRRecS N) h 1 de = _
            rw [headC h S rr tx sp wC tk, if_pos (by rw [w32_nat (by omega), show w32 4 = 4 from rfl]; omega), e1, Option.bind_some, show (de : Int) + 1 = ((de + 1 : Nat) : Int) by omega, e2, Option.bind_some, if_neg (show ¬ w32 1 = 0 by decide), a1, Option.bind_some, if_pos (show w32 0 = 0 by decide)]
            unfold JX4_readFactor_93 JX4_readFactor_94
            rw [if_pos (Or.inl rfl)]
          · exact absurd a0 cm
        · intro Y rY g u dr wM ps h14 cd2
          obtain ⟨g1, w1, e1⟩ := headM Y rY g u dr wM ps
          obtain ⟨g2, w2, ps2, e2⟩ := tailM Y rY g1 u dr w1 ps.1 ps.2.1
          obtain ⟨g3, u3, dr3, e3, w3, ps3, n3, se3, ku3, cd3, kd3', ap3⟩ := iM Y rY g2 _ dr w2 ps2 (by rw [upf_eq, h14]; rfl) cd2
          have e3 : FRRecM N 0 g2 227 = some g3 := e3
          rcases m_expect w3 rY ps3 (c := 41) (by omega) with ⟨-, g4, a1, a2⟩ | ⟨a0, -⟩
          · obtain ⟨v, -, b2, -, b4⟩ := mf_set a2
            refine ⟨_, ?_, MF_keep (keep_trans (keep_trans (keep_up (by omega)) (keep_up (by omega))) ku3) (b4 (v 14 - 1)).2⟩
            show FX8_factor (FRRecM N) g 227 = _
            rw [e1, if_neg (by rw [h14, w32_nat (by omega), show w32 4 = 4 from rfl]; omega), e2, e3, Option.bind_some, a1, Option.bind_some, b2, Option.bind_some, (b4 _).1, Option.bind_some]
          · exact absurd a0 cm
  · have hd4 : de = 4 := by omega
    refine Or.inl ⟨(-5, s), ?_, ?_⟩
    · intro h S rr tx sp wC iv tk stp
      obtain ⟨h1, e1, f1⟩ := c_failF (c := -5) wC iv (stp_len stp (by omega)) tk.2.2.1
      refine ⟨h1, ?_, f1⟩
      show FX4_readFactor (FRRecS N) h 1 de = _
      rw [headC h S rr tx sp wC tk, if_neg (by rw [w32_nat (by omega), show w32 4 = 4 from rfl]; omega), e1, Option.bind_some, if_pos (Or.inl rfl)]
    · intro Y rY g u dr wM ps h14 cd2
      obtain ⟨g1, w1, e1⟩ := headM Y rY g u dr wM ps
      obtain ⟨g2, e2, m2, -⟩ := m_report w1 (by rw [upf_ne (by decide)]; exact ps.2.1) (c := -5) (p := s) (by omega)
      obtain ⟨v, b1, b2, b3, b4⟩ := mf_set m2
      have m3 := (b3 (v 4 + 1)).2
      obtain ⟨v3, -, c2, -, c4⟩ := mf_set m3
      have m4 := (c4 (v3 14 + 1)).2
      obtain ⟨K, rfl⟩ : ∃ K, N = K + 3 := ⟨N - 3, by omega⟩
      obtain ⟨g5, e5, m5⟩ := failM Y rY _ _ _ m4
      refine ⟨g5, ?_, MF_keep (keep_up (by omega)) m5⟩
      show FX8_factor (FRRecM (K + 3)) g 227 = _
      rw [e1, if_pos (by rw [h14, hd4]; rfl), e2, Option.bind_some]
      unfold JX8_factor_37
      rw [b1, Option.bind_some, (b3 _).1, Option.bind_some, c2, Option.bind_some, (c4 _).1, Option.bind_some, mf_sum m4, Option.bind_some, e5]
theorem facOK {N de s t : Nat} {ss : List Int} (tX : TX X f n) (hst : st f n s) (p : PRE n de s ss t 2)
    (hN : 3 ≤ N) (ih : de < 4 → ∀ s ss t, st f n s → PRE n (de + 1) s ss t 0 → EX X f n (fun h => FRRecS N 0 h 1 ((de + 1 : Nat) : Int)) (fun g => FRRecM N 0 g 227) (de + 1) s ss t (t + 1)) :
    EX X f n (fun h => FX4_readFactor (FRRecS N) h 1 de) (fun g => FX8_factor (FRRecM N) g 227) de s ss t (t + 1) := by
  by_cases h1 : kd f n s = 1
  · exact fac_num tX hst p h1
  by_cases h40 : kd f n s = 3 ∧ f s = 40
  · exact fac_par tX hst p h40 hN ih
  by_cases h6 : wd f n s 6 = true
  · exact fac_word tX hst p (v := 0) (w := 6) (x := -1) (Or.inl ⟨rfl, rfl⟩) rfl h6
  by_cases h7 : wd f n s 7 = true
  · exact fac_word tX hst p (v := 1) (w := 7) (x := -2) (Or.inr (Or.inl ⟨rfl, rfl⟩)) rfl h7
  by_cases h2 : wd f n s 2 = true
  · exact fac_word tX hst p (v := 2) (w := 2) (x := -3) (Or.inr (Or.inr (Or.inl ⟨rfl, rfl⟩))) rfl h2
  by_cases h8 : wd f n s 8 = true
  · exact fac_word tX hst p (v := 3) (w := 8) (x := -4) (Or.inr (Or.inr (Or.inr ⟨rfl, rfl⟩))) rfl h8
  have q6 := Bool.eq_false_iff.mpr h6
  have q7 := Bool.eq_false_iff.mpr h7
  have q2 := Bool.eq_false_iff.mpr h2
  have q8 := Bool.eq_false_iff.mpr h8
  obtain ⟨p1, p2, p3, p4, p5⟩ := p
  have hn := tX.1
  refine Or.inl ⟨(-2, s), ?_, ?_⟩
  · intro h S rr tx sp wC iv tk stp
    have tk' := tk
    obtain ⟨k2, k3, k4, k5, k6, ks⟩ := tk
    obtain ⟨h1', e1, f1⟩ := c_failF (c := -2) wC iv (stp_len stp (by omega)) k4
    have hkd := kd_le (f := f) (n := n) (s := s)
    refine ⟨h1', ?_, f1⟩
    show FX4_readFactor (FRRecS N) h 1 de = _
    unfold FX4_readFactor
    rw [z1_O (cw_e1 wC), Option.bind_some, z1_r0 (cw_e1 wC), Option.bind_some, z2_i3 (cw_e2 wC), Option.bind_some, k3, show w32 1 = 1 from rfl, w32_nat (by omega), if_neg (show ¬ ((kd f n s : Nat) : Int) = 1 by omega), Option.bind_some, c_mark wC tX tk' (by omega), Option.bind_some, if_neg h40, if_pos (show w32 0 = 0 by decide), Option.bind_some, c_word wC tX tk' (by omega), Option.bind_some, q6, if_neg Bool.false_ne_true, if_pos (show w32 0 = 0 by decide), Option.bind_some, c_word wC tX tk' (by omega), Option.bind_some, q7, if_neg Bool.false_ne_true, if_pos (show w32 0 = 0 by decide), Option.bind_some, c_word wC tX tk' (by omega), Option.bind_some, q2, if_neg Bool.false_ne_true, if_pos (show w32 0 = 0 by decide), Option.bind_some, c_word wC tX tk' (by omega), Option.bind_some, q8, if_neg Bool.false_ne_true, if_pos (show w32 0 = 0 by decide), e1, Option.bind_some, if_pos (Or.inl rfl)]
  · intro Y rY g u dr wM ps h14 cd
    have ps' := ps
    obtain ⟨k3, k5, q, k4, hq, hsq⟩ := ps
    obtain ⟨g1, e1, w1⟩ := m_next wM rY ps'
    have hb40 : bt f n s ≠ 40 := fun z => h40 ((kd3 (f := f) p1 (by omega)).mp z)
    have hbr := bt_tx tX (s := s)
    have ps1 : POS f n (upf u 4 (s : Nat)) s := pos_at k3 k5 p1 (st_sk hst)
    have miss : ∀ {z : Nat} {g1 : PH}, z < 9 → wd f n s z = false → MW Y g1 (upf u 4 (s : Nat)) dr → ∃ g2, FX8_takeWord g1 227 z = some (0, g2) ∧ MW Y g2 (upf u 4 (s : Nat)) dr := fun {z g1} hz hf hw1 => by
      rcases m_word hw1 rY ps1 hz with ⟨-, g2, a1, a2⟩ | ⟨a, -⟩
      · rw [upf_up] at a2; exact ⟨g2, a1, a2⟩
      · rw [hf] at a; cases a
    obtain ⟨g2, b1, b2⟩ := miss (by omega) q6 w1
    obtain ⟨g3, b3, b4⟩ := miss (by omega) q7 b2
    obtain ⟨g4, b5, b6⟩ := miss (by omega) q2 b4
    obtain ⟨g5, b7, b8⟩ := miss (by omega) q8 b6
    rcases m_num b8 rY ps1 (lo := 0) (hi := 9999) (by omega) (by omega) with ⟨q, v, g6, a1, a2, a3⟩ | ⟨g6, u2, a1, -⟩
    · unfold sNum at a1
      rw [if_neg h1] at a1
      cases a1
      refine ⟨g6, ?_, MF_keep (keep_up (by omega)) a3⟩
      show FX8_factor (FRRecM N) g 227 = _
      unfold FX8_factor
      rw [z8_O (mw_z wM), Option.bind_some, m_good wM k5, Option.bind_some, if_neg (show ¬ w32 1 = 0 by decide), e1, Option.bind_some]
      dsimp only
      rw [w32_eq (by omega) (by omega), show w32 40 = 40 from rfl, if_neg hb40, m_isDg rY, Option.bind_some, if_neg h1, if_pos (show w32 0 = 0 by decide), b1, Option.bind_some, if_pos (show w32 0 = 0 by decide), b3, Option.bind_some, if_pos (show w32 0 = 0 by decide), b5, Option.bind_some, if_pos (show w32 0 = 0 by decide), b7, Option.bind_some, if_pos (show w32 0 = 0 by decide)]
      unfold JX8_factor_142 JX8_factor_159 JX8_factor_170
      rw [if_pos (show w32 (-1) < 0 by decide), a2, Option.bind_some, if_pos (show w32 (-1) < 0 by decide), mf_emit a3, Option.bind_some, mf_emit a3, Option.bind_some]
    · unfold sNum at a1
      rw [if_neg h1] at a1
      cases a1
end
