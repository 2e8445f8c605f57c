set_option linter.unusedVariables false
set_option linter.unusedSimpArgs false
/-! ===== statements ===== -/
def SC (X : XC) (f : Nat → Int) (n : Nat) (R : PH → Option (Int × PH)) (s : Nat) (S : MM) (ls : Int) (ss : List Int) (q : Int × Nat) : Prop :=
  ∀ h rr tx sp, CWd X h S rr tx sp → TOK f n tx s → STP rr sp ss → rr 5 = ls → ∃ h', R h = some (0, h') ∧ CF X h' (tx 1) q
def SCs (X : XC) (f : Nat → Int) (n : Nat) (R : PH → Option (Int × PH)) (s : Nat) (S : MM) (ls : Int) (ss : List Int) (s' : Nat) (S' : MM) (ls' : Int) (ss' : List Int) : Prop :=
  ∀ h rr tx sp, CWd X h S rr tx sp → TOK f n tx s → STP rr sp ss → rr 5 = ls → ∃ h' rr' tx' sp', R h = some (1, h') ∧ CWd X h' S' rr' tx' sp' ∧ TOK f n tx' s' ∧ STP rr' sp' ss' ∧ rr' 5 = ls' ∧ tx' 1 = tx 1
def SM (f : Nat → Int) (n : Nat) (R : PH → Option PH) (s : Nat) (dr : Int → Int) (ls : Int) (q : Int × Nat) : Prop :=
  ∀ (Y : YM), RT Y f n → ∀ g u, MW Y g u dr → POS f n u s → u 14 = 0 → u 15 = ls → ∃ g', R g = some g' ∧ MF Y g' u q
def SMs (f : Nat → Int) (n : Nat) (R : PH → Option PH) (s : Nat) (dr : Int → Int) (ls : Int) (s' : Nat) (dr' : Int → Int) (ls' : Int) : Prop :=
  ∀ (Y : YM), RT Y f n → ∀ g u, MW Y g u dr → POS f n u s → u 14 = 0 → u 15 = ls → ∃ g' u', R g = some g' ∧ MW Y g' u' dr' ∧ POS f n u' s' ∧ u' 14 = 0 ∧ u' 15 = ls' ∧ keepU u u'
/-- the length expression so far -/
def EXS (ls : Int) (ss : List Int) (dr : Int → Int) : Prop := (ls = 0 ∧ ss = [-1] ∧ dr 6 = 0 ∧ dr 7 = 0) ∨ (ls = 1 ∧ dr 6 = 1 ∧ cds dr 0 ss ∧ dk 0 ss 1 ∧ (∀ x ∈ ss, -8 ≤ x ∧ x ≤ 9999) ∧ ss.length < 895)
theorem exs_len {ls : Int} {ss : List Int} {dr : Int → Int} (e : EXS ls ss dr) : ss.length < 895 := by
  rcases e with ⟨-, rfl, -⟩ | ⟨-, -, -, -, -, h⟩
  · decide
  · exact h
theorem exs_keep {ls : Int} {ss : List Int} {dr dr' : Int → Int} (k : keepC dr dr') (e : EXS ls ss dr) : EXS ls ss dr' := by
  have k6 := k 6 (by omega)
  have k7 := k 7 (by omega)
  rcases e with ⟨a, b, c, d⟩ | ⟨a, b, c, d, e, g⟩
  · exact Or.inl ⟨a, b, by rw [k6]; exact c, by rw [k7]; exact d⟩
  · exact Or.inr ⟨a, by rw [k6]; exact b, cds_congr k7 (fun i hi => k i (by omega)) (by omega) c, d, e, g⟩
section
variable {X : XC} {Y : YM} {f : Nat → Int} {n : Nat}
theorem taskOK {S : MM} {dr : Int → Int} {ls : Int} {ss : List Int} {s : Nat} (tX : TX X f n) (pf : PF S dr) (hst : st f n s) (hsn : s < n) (hl : ss.length < 895) :
    (∃ q, SC X f n (fun h => FX4_readTask h 1 28 (S 11 0)) s S ls ss q ∧ SM f n (fun g => FX8_readTask g 227 s) (nx f n s) dr ls q) ∨
    (∃ s' S' dr', s < s' ∧ st f n s' ∧ PF S' dr' ∧ keepC dr dr' ∧ SCs X f n (fun h => FX4_readTask h 1 28 (S 11 0)) s S ls ss s' S' ls ss ∧ SMs f n (fun g => FX8_readTask g 227 s) (nx f n s) dr ls s' dr' ls) := by
  have iv := pf.1
  have hs := hst.1
  have hn := tX.1
  have hTr := iv.1.1.1
  have hC := iv.1.2.1.1
  have hC1 := pf.2.2.2.2.2
  obtain ⟨T, hT⟩ := Int.eq_ofNat_of_zero_le hTr.1
  obtain ⟨C, hCC⟩ := Int.eq_ofNat_of_zero_le hC.1
  have h3 : dr 3 = T := by have := pf.2.1.1.2.2.2.1; rw [gh_ne (by decide), hT] at this; exact this
  have h0 : dr 0 = C := by have := pf.2.1.1.1; rw [gh_ne (by decide), hCC] at this; exact this
  have hgt := nx_gt (f := f) hsn
  have h9 : ∀ rr sp : Nat → Int, STP rr sp ss → 0 ≤ rr 4 ∧ rr 4 ≤ 900 := fun rr sp k => stp_len k (by omega)
  by_cases hfull : T = 32
  · refine Or.inl ⟨(-4, s), ?_, ?_⟩
    · intro h rr tx sp wC tk stp hls
      obtain ⟨h1, e1, f1⟩ := c_failF (c := -4) wC iv (h9 rr sp stp) tk.2.2.1
      refine ⟨h1, ?_, f1⟩
      show FX4_readTask h 1 28 (S 11 0) = _
      unfold FX4_readTask
      rw [z1_O (cw_e1 wC), Option.bind_some, b27_gfi1_0 (cw_a27 wC), Option.bind_some, hT, hfull, if_neg (by decide), e1, Option.bind_some, if_pos (Or.inl rfl)]
    · intro Y rY g u wM ps h14 h15
      obtain ⟨g1, e1, m1, -⟩ := m_report wM ps.2.1 (c := -4) (p := s) (by omega)
      refine ⟨g1, ?_, m1⟩
      show FX8_readTask g 227 s = _
      unfold FX8_readTask
      rw [z8_O (mw_z wM), Option.bind_some, z8_r9 (mw_z wM), Option.bind_some, zd_l (mw_dr wM) (by omega) (by omega), Option.bind_some, h3, hfull, if_pos (show w32 ((32 : Nat) : Int) = w32 32 from rfl), e1, Option.bind_some, bad18 m1]
  have hT2 : T < 32 := by omega
  have headC : ∀ h rr tx sp, CWd X h S rr tx sp → TOK f n tx s → ∃ h1 tx1, CWd X h1 S rr tx1 sp ∧ TOK f n tx1 (nx f n s) ∧ tx1 1 = tx 1 ∧ FX4_readTask h 1 28 (S 11 0) = (FX4_takeNumber h1 1 1 99).bind fun q4 => if w32 q4.1 < 0 then JX4_readTask_46 q4.2 1 28 (S 11 0) q4.1 (-1) else (FX4_takeNumber q4.2 1 0 9).bind fun q5 => JX4_readTask_46 q5.2 1 28 (S 11 0) q4.1 q5.1 := by
    intro h rr tx sp wC tk
    obtain ⟨k2, k3, k4, k5, k6, ks⟩ := tk
    obtain ⟨h1, tx1, e1, c1, t1, y1⟩ := c_adv wC tX k2 k5 (en_le hs)
    refine ⟨h1, tx1, c1, t1, y1, ?_⟩
    unfold FX4_readTask
    rw [z1_O (cw_e1 wC), Option.bind_some, b27_gfi1_0 (cw_a27 wC), Option.bind_some, hT, w32_nat (by omega), show w32 32 = 32 from rfl, if_pos (by omega), z1_r0 (cw_e1 wC), Option.bind_some, e1, Option.bind_some]
  have headM : ∀ (Y : YM), RT Y f n → ∀ g u, MW Y g u dr → FX8_readTask g 227 s = JX8_readTask_18 g 227 := by
    intro Y rY g u wM
    unfold FX8_readTask
    rw [z8_O (mw_z wM), Option.bind_some, z8_r9 (mw_z wM), Option.bind_some, zd_l (mw_dr wM) (by omega) (by omega), Option.bind_some, h3, w32_nat (by omega), show w32 32 = 32 from rfl, if_neg (by omega)]
  -- the duration
  cases e1 : sNum f n 1 99 (nx f n s) with
  | inl q =>
    refine Or.inl ⟨q, ?_, ?_⟩
    · intro h rr tx sp wC tk stp hls
      obtain ⟨h1, tx1, c1, t1, y1, hd⟩ := headC h rr tx sp wC tk
      obtain ⟨h2, a1, a2⟩ := c_numF c1 tX iv (h9 rr sp stp) t1 (by omega) (by omega) e1
      refine ⟨h2, ?_, by rw [← y1]; exact a2⟩
      show FX4_readTask h 1 28 (S 11 0) = _
      rw [hd, a1, Option.bind_some, if_pos (show w32 (-1) < 0 by decide)]
      unfold JX4_readTask_46
      rw [if_pos (show w32 (-1) < 0 by decide)]
    · intro Y rY g u wM ps h14 h15
      obtain ⟨v, g1, a1, m1⟩ := m_numF wM rY ps (by omega) (by omega) e1
      refine ⟨g1, ?_, m1⟩
      show FX8_readTask g 227 s = _
      rw [headM Y rY g u wM]
      unfold JX8_readTask_18
      rw [a1, Option.bind_some, mf_num m1, Option.bind_some, mf_bad m1, Option.bind_some, if_pos (show w32 0 = 0 by decide), bad58 m1]
  | inr p1 =>
    obtain ⟨du, s2⟩ := p1
    obtain ⟨x1, x2, x3, x4, x5, -, -, -⟩ := sNum_S (nx_st hs).1 e1
    cases e2 : sNum f n 0 9 s2 with
    | inl q =>
      refine Or.inl ⟨q, ?_, ?_⟩
      · intro h rr tx sp wC tk stp hls
        obtain ⟨h1, tx1, c1, t1, y1, hd⟩ := headC h rr tx sp wC tk
        obtain ⟨h2, tx2, a1, c2, t2, y2⟩ := c_numS c1 tX iv (h9 rr sp stp) t1 (by omega) (by omega) e1
        obtain ⟨h3, b1, b2⟩ := c_numF c2 tX iv (h9 rr sp stp) t2 (by omega) (by omega) e2
        refine ⟨h3, ?_, by rw [← y1, ← y2]; exact b2⟩
        show FX4_readTask h 1 28 (S 11 0) = _
        rw [hd, a1, Option.bind_some, w32_eq (x := du) (by omega) (by omega), if_neg (by omega), b1, Option.bind_some]
        unfold JX4_readTask_46
        rw [if_pos (show w32 (-1) < 0 by decide)]
      · intro Y rY g u wM ps h14 h15
        obtain ⟨g1, u1, a1, w1, ps1, ku1, n1, se1, -⟩ := m_numS wM rY ps (by omega) (by omega) e1
        obtain ⟨v, g2, b1, m2⟩ := m_numF w1 rY ps1 (by omega) (by omega) e2
        refine ⟨g2, ?_, MF_keep ku1 m2⟩
        show FX8_readTask g 227 s = _
        rw [headM Y rY g u wM]
        unfold JX8_readTask_18
        rw [a1, Option.bind_some, b1, Option.bind_some, mf_bad m2, Option.bind_some, if_pos (show w32 0 = 0 by decide), bad58 m2]
    | inr p2 =>
      obtain ⟨pr, s3⟩ := p2
      obtain ⟨v1, v2, v3, v4, v5, -, -, -⟩ := sNum_S x3.1 e2
      have hho0 : ∃ ho0 : Nat, remI (T : Int) (C : Int) = ho0 ∧ ho0 < C := by
        have key : ∀ T : Nat, T < 33 → ∀ C : Nat, C < 5 → 1 ≤ C → remI (T : Int) (C : Int) = ((T % C : Nat) : Int) := by decide +kernel
        exact ⟨T % C, key T (by omega) C (by omega) (by omega), Nat.mod_lt _ (by omega)⟩
      obtain ⟨ho0, hh0, hh1⟩ := hho0
      -- up to the core
      have hC2 : ∀ h rr tx sp, CWd X h S rr tx sp → TOK f n tx s → STP rr sp ss → ∃ h3 tx3, CWd X h3 S rr tx3 sp ∧ TOK f n tx3 s3 ∧ tx3 1 = tx 1 ∧ FX4_readTask h 1 28 (S 11 0) = JX4_readTask_69 h3 1 28 (C : Nat) du pr (ho0 : Nat) := by
        intro h rr tx sp wC tk stp
        obtain ⟨h1, tx1, c1, t1, y1, hd⟩ := headC h rr tx sp wC tk
        obtain ⟨h2, tx2, a1, c2, t2, y2⟩ := c_numS c1 tX iv (h9 rr sp stp) t1 (by omega) (by omega) e1
        obtain ⟨h3, tx3, b1, c3, t3, y3⟩ := c_numS c2 tX iv (h9 rr sp stp) t2 (by omega) (by omega) e2
        refine ⟨h3, tx3, c3, t3, by rw [y3, y2, y1], ?_⟩
        rw [hd, a1, Option.bind_some, w32_eq (x := du) (by omega) (by omega), if_neg (by omega), b1, Option.bind_some, hCC]
        unfold JX4_readTask_46
        rw [w32_eq (x := pr) (by omega) (by omega), if_neg (by omega), w32_nat (by omega), if_pos (by omega), b27_gfi1_0 (cw_a27 c3), Option.bind_some, if_neg (by omega), hT, hh0]
      have hM2 : ∀ (Y : YM), RT Y f n → ∀ g u, MW Y g u dr → POS f n u (nx f n s) → ∃ g2 u2, MW Y g2 u2 dr ∧ POS f n u2 s3 ∧ keepU u u2 ∧ u2 14 = u 14 ∧ u2 15 = u 15 ∧ FX8_readTask g 227 s = JX8_readTask_58 g2 227 du pr (ho0 : Nat) := by
        intro Y rY g u wM ps
        obtain ⟨g1, u1, a1, w1, ps1, ku1, n1, se1, -⟩ := m_numS wM rY ps (by omega) (by omega) e1
        obtain ⟨g2, u2, b1, w2, ps2, ku2, n2, se2, -⟩ := m_numS w1 rY ps1 (by omega) (by omega) e2
        refine ⟨g2, u2, w2, ps2, keep_trans ku1 ku2, by rw [n2, n1], by rw [se2, se1], ?_⟩
        rw [headM Y rY g u wM]
        unfold JX8_readTask_18
        rw [a1, Option.bind_some, b1, Option.bind_some]
        dsimp only
        rw [m_good w2 ps2.2.1, Option.bind_some, if_neg (show ¬ w32 1 = 0 by decide), z8_r9 (mw_z w2), Option.bind_some, zd_l (mw_dr w2) (by omega) (by omega), Option.bind_some, Option.bind_some, zd_l (mw_dr w2) (by omega) (by omega), Option.bind_some, h3, h0, w32_nat (by omega), if_neg (by omega), hh0]
      -- behind the core
      have fin : ∀ (ho : Int) (s5 : Nat), 0 ≤ ho ∧ ho < C → st f n s5 → s < s5 →
          (∀ h rr tx sp, CWd X h S rr tx sp → TOK f n tx s → STP rr sp ss → ∃ h5 tx5, CWd X h5 S rr tx5 sp ∧ TOK f n tx5 s5 ∧ tx5 1 = tx 1 ∧ FX4_readTask h 1 28 (S 11 0) = JX4_readTask_100 h5 1 28 du pr ho) →
          (∀ (Y : YM), RT Y f n → ∀ g u, MW Y g u dr → POS f n u (nx f n s) → ∃ g5 u5, MW Y g5 u5 dr ∧ POS f n u5 s5 ∧ keepU u u5 ∧ u5 14 = u 14 ∧ u5 15 = u 15 ∧ FX8_readTask g 227 s = JX8_readTask_87 g5 227 du pr ho 0) →
          (∃ q, SC X f n (fun h => FX4_readTask h 1 28 (S 11 0)) s S ls ss q ∧ SM f n (fun g => FX8_readTask g 227 s) (nx f n s) dr ls q) ∨
          (∃ s' S' dr', s < s' ∧ st f n s' ∧ PF S' dr' ∧ keepC dr dr' ∧ SCs X f n (fun h => FX4_readTask h 1 28 (S 11 0)) s S ls ss s' S' ls ss ∧ SMs f n (fun g => FX8_readTask g 227 s) (nx f n s) dr ls s' dr' ls) := by
        intro ho s5 hho hst5 hs5 tC tM
        rcases taskK (du := du) (pr := pr) (ho := ho) tX pf hT hT2 (by omega) hst5 with ⟨q, jC, jM⟩ | ⟨s', be, ⟨r1, r2, r3⟩, jC, jM⟩
        · refine Or.inl ⟨q, ?_, ?_⟩
          · intro h rr tx sp wC tk stp hls
            obtain ⟨h5, tx5, c5, t5, y5, e5⟩ := tC h rr tx sp wC tk stp
            obtain ⟨h6, e6, f6⟩ := jC h5 rr tx5 sp c5 (h9 rr sp stp) t5
            exact ⟨h6, by show FX4_readTask h 1 28 (S 11 0) = _; rw [e5, e6], by rw [← y5]; exact f6⟩
          · intro Y rY g u wM ps h14 h15
            obtain ⟨g5, u5, w5, ps5, ku5, n5, se5, e5⟩ := tM Y rY g u wM ps
            obtain ⟨g6, e6, m6⟩ := jM Y rY g5 u5 w5 ps5
            exact ⟨g6, by show FX8_readTask g 227 s = _; rw [e5, e6], MF_keep ku5 m6⟩
        · refine Or.inr ⟨s', addM S du pr ho be, dtask dr T du pr ho be, by omega, r2, pf_add pf hT hT2 (by omega) (by omega) (by omega) r3, keepC_task hT2, ?_, ?_⟩
          · intro h rr tx sp wC tk stp hls
            obtain ⟨h5, tx5, c5, t5, y5, e5⟩ := tC h rr tx sp wC tk stp
            obtain ⟨h6, tx6, e6, c6, t6, y6⟩ := jC h5 rr tx5 sp c5 (h9 rr sp stp) t5
            exact ⟨h6, rr, tx6, sp, by show FX4_readTask h 1 28 (S 11 0) = _; rw [e5, e6], c6, t6, stp, hls, by rw [y6, y5]⟩
          · intro Y rY g u wM ps h14 h15
            obtain ⟨g5, u5, w5, ps5, ku5, n5, se5, e5⟩ := tM Y rY g u wM ps
            obtain ⟨g6, u6, e6, w6, ps6, n6, se6, ku6⟩ := jM Y rY g5 u5 w5 ps5
            exact ⟨g6, u6, by show FX8_readTask g 227 s = _; rw [e5, e6], w6, ps6, by rw [n6, n5, h14], by rw [se6, se5, h15], keep_trans ku5 ku6⟩
      by_cases wc : wd f n s3 2 = true
      · have hk := wd_kd wc
        have hs3 : s3 < n := kd_pos (f := f) (by rw [hk]; decide)
        have hgt3 := nx_gt (f := f) hs3
        cases e4 : sNum f n 0 ((C : Int) - 1) (nx f n s3) with
        | inl q =>
          refine Or.inl ⟨q, ?_, ?_⟩
          · intro h rr tx sp wC tk stp hls
            obtain ⟨h3, tx3, c3, t3, y3, e3⟩ := hC2 h rr tx sp wC tk stp
            obtain ⟨h4, tx4, a4, c4, t4, y4⟩ := c_adv c3 tX t3.1 t3.2.2.2.1 (en_le v3.1)
            obtain ⟨h5, a5, f5⟩ := c_numF c4 tX iv (h9 rr sp stp) t4 (by omega) (by omega) e4
            refine ⟨h5, ?_, by rw [← y3, ← y4]; exact f5⟩
            show FX4_readTask h 1 28 (S 11 0) = _
            rw [e3]
            unfold JX4_readTask_69
            rw [z1_r0 (cw_e1 c3), Option.bind_some, c_word c3 tX t3 (by omega), Option.bind_some, wc, if_pos rfl, if_neg (show ¬ w32 1 = 0 by decide), Option.bind_some, a4, Option.bind_some, a5, Option.bind_some]
            unfold JX4_readTask_100 JX4_readTask_137 JX4_readTask_147
            rw [if_pos (show w32 (-1) < 0 by decide), if_pos (show w32 (-1) < 0 by decide)]
          · intro Y rY g u wM ps h14 h15
            obtain ⟨g3, u3, w3, ps3, ku3, n3, se3, e3⟩ := hM2 Y rY g u wM ps
            rcases m_word w3 rY ps3 (v := 2) (by omega) with ⟨b0, -⟩ | ⟨-, g4, b1, w4⟩
            · rw [wc] at b0; cases b0
            · have ps4 : POS f n (upf u3 4 (en f n s3 : Nat)) (nx f n s3) := pos_at ps3.1 ps3.2.1 (en_le v3.1) rfl
              obtain ⟨v, g5, b2, m5⟩ := m_numF w4 rY ps4 (by omega) (by omega) e4
              refine ⟨g5, ?_, MF_keep (keep_trans ku3 (keep_up (by omega))) m5⟩
              show FX8_readTask g 227 s = _
              rw [e3]
              unfold JX8_readTask_58
              rw [b1, Option.bind_some, if_neg (show ¬ w32 1 = 0 by decide)]
              dsimp only
              rw [z8_r9 (mw_z w4), Option.bind_some, zd_l (mw_dr w4) (by omega) (by omega), Option.bind_some, h0, b2, Option.bind_some, bad87 m5]
        | inr p4 =>
          obtain ⟨ho, s5⟩ := p4
          obtain ⟨o1, o2, o3, o4, o5, -, -, -⟩ := sNum_S (nx_st v3.1).1 e4
          refine fin ho s5 (by omega) o3 (by omega) ?_ ?_
          · intro h rr tx sp wC tk stp
            obtain ⟨h3, tx3, c3, t3, y3, e3⟩ := hC2 h rr tx sp wC tk stp
            obtain ⟨h4, tx4, a4, c4, t4, y4⟩ := c_adv c3 tX t3.1 t3.2.2.2.1 (en_le v3.1)
            obtain ⟨h5, tx5, a5, c5, t5, y5⟩ := c_numS c4 tX iv (h9 rr sp stp) t4 (by omega) (by omega) e4
            refine ⟨h5, tx5, c5, t5, by rw [y5, y4, y3], ?_⟩
            rw [e3]
            unfold JX4_readTask_69
            rw [z1_r0 (cw_e1 c3), Option.bind_some, c_word c3 tX t3 (by omega), Option.bind_some, wc, if_pos rfl, if_neg (show ¬ w32 1 = 0 by decide), Option.bind_some, a4, Option.bind_some, a5, Option.bind_some]
          · intro Y rY g u wM ps
            obtain ⟨g3, u3, w3, ps3, ku3, n3, se3, e3⟩ := hM2 Y rY g u wM ps
            rcases m_word w3 rY ps3 (v := 2) (by omega) with ⟨b0, -⟩ | ⟨-, g4, b1, w4⟩
            · rw [wc] at b0; cases b0
            · have ps4 : POS f n (upf u3 4 (en f n s3 : Nat)) (nx f n s3) := pos_at ps3.1 ps3.2.1 (en_le v3.1) rfl
              obtain ⟨g5, u5, b2, w5, ps5, ku5, n5, se5, -⟩ := m_numS w4 rY ps4 (by omega) (by omega) e4
              refine ⟨g5, u5, w5, ps5, keep_trans (keep_trans ku3 (keep_up (by omega))) ku5, by rw [n5, upf_ne (by decide), n3], by rw [se5, upf_ne (by decide), se3], ?_⟩
              rw [e3]
              unfold JX8_readTask_58
              rw [b1, Option.bind_some, if_neg (show ¬ w32 1 = 0 by decide)]
              dsimp only
              rw [z8_r9 (mw_z w4), Option.bind_some, zd_l (mw_dr w4) (by omega) (by omega), Option.bind_some, h0, b2, Option.bind_some]
      · have wf := Bool.eq_false_iff.mpr wc
        refine fin (ho0 : Nat) s3 (by omega) v3 (by omega) ?_ ?_
        · intro h rr tx sp wC tk stp
          obtain ⟨h3, tx3, c3, t3, y3, e3⟩ := hC2 h rr tx sp wC tk stp
          refine ⟨h3, tx3, c3, t3, y3, ?_⟩
          rw [e3]
          unfold JX4_readTask_69
          rw [z1_r0 (cw_e1 c3), Option.bind_some, c_word c3 tX t3 (by omega), Option.bind_some, wf, if_neg Bool.false_ne_true, if_pos (show w32 0 = 0 by decide)]
        · intro Y rY g u wM ps
          obtain ⟨g3, u3, w3, ps3, ku3, n3, se3, e3⟩ := hM2 Y rY g u wM ps
          rcases m_word w3 rY ps3 (v := 2) (by omega) with ⟨-, g4, b1, w4⟩ | ⟨b0, -⟩
          · refine ⟨g4, _, w4, pos_at ps3.1 ps3.2.1 v3.1 (st_sk v3), keep_trans ku3 (keep_up (by omega)), by rw [upf_ne (by decide)]; exact n3, by rw [upf_ne (by decide)]; exact se3, ?_⟩
            rw [e3]
            unfold JX8_readTask_58
            rw [b1, Option.bind_some, if_pos (show w32 0 = 0 by decide)]
          · exact absurd b0 wc
end
