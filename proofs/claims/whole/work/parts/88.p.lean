set_option linter.unusedVariables false
set_option linter.unusedSimpArgs false
/-! ===== Term ===== -/
section
variable {X : XC} {Y : YM} {f : Nat → Int} {n : Nat}
theorem term_loop {N de : Nat} (tX : TX X f n) (inn : ∀ s ss t, st f n s → PRE n de s ss t 2 → EX X f n (fun h => FRRecS N 2 h 1 (de : Nat)) (fun g => FRRecM N 2 g 227) de s ss t (t + 1)) :
    ∀ (m s : Nat) (ss : List Int) (t c : Nat), n - s ≤ m → st f n s → PRE n de s ss (t + 1) 2 → c + 1 ≤ s →
    (∃ q, (∀ h S rr tx sp, CWd X h S rr tx sp → IvM S → TOK f n tx s → STP rr sp ss → ∃ h', lp (fun st : Int × Int × PH => LX4_readTerm_8 (FRRecS N) 1 (de : Nat) st.1 st.2.1 st.2.2) (m + 2) (1, (c : Nat), h) = some (.inr (0, h')) ∧ CF X h' (tx 1) q) ∧
      (∀ (Y : YM), RT Y f n → ∀ g u dr, MW Y g u dr → POS f n u s → u 14 = de → cds dr 0 ss → ∃ g', lp (fun st : PH => LX8_term_4 (FRRecM N) 227 st) (m + 2) g = some g' ∧ MF Y g' u q)) ∨
    (∃ s' l, EP n s s' l (t + 1) (t + 1) ∧
      (∀ h S rr tx sp, CWd X h S rr tx sp → IvM S → TOK f n tx s → STP rr sp ss → ∃ h' rr' tx' sp', lp (fun st : Int × Int × PH => LX4_readTerm_8 (FRRecS N) 1 (de : Nat) st.1 st.2.1 st.2.2) (m + 2) (1, (c : Nat), h) = some (.inl h') ∧ CWd X h' S rr' tx' sp' ∧ TOK f n tx' s' ∧ STP rr' sp' (ss ++ l) ∧ tx' 1 = tx 1 ∧ rr' 5 = rr 5) ∧
      (∀ (Y : YM), RT Y f n → ∀ g u dr, MW Y g u dr → POS f n u s → u 14 = de → cds dr 0 ss → ∃ g' u' dr', lp (fun st : PH => LX8_term_4 (FRRecM N) 227 st) (m + 2) g = some g' ∧ MW Y g' u' dr' ∧ POS f n u' s' ∧ u' 14 = de ∧ u' 15 = u 15 ∧ keepU u u' ∧ cds dr' 0 (ss ++ l) ∧ keepD dr dr' ∧ dr' = app dr l)) := by
  intro m
  induction m with
  | zero =>
    intro s ss t c hm hst p hc
    obtain ⟨p1, p2, p3, p4, p5⟩ := p
    have hn := tX.1
    have hsn : s = n := by omega
    have hk : kd f n s = 0 := by unfold kd; rw [if_neg (by omega)]
    refine Or.inr ⟨s, [], ⟨Nat.le_refl _, p1, by simp, rfl, fun x hx => by simp at hx⟩, ?_, ?_⟩
    · intro h S rr tx sp wC iv tk stp
      refine ⟨h, rr, tx, sp, ?_, wC, tk, by rw [List.append_nil]; exact stp, rfl, rfl⟩
      rw [lp]
      try dsimp only
      unfold LX4_readTerm_8
      rw [w32_nat (by omega), show w32 900 = 900 from rfl, if_pos (by omega), if_neg (show ¬ w32 1 = 0 by decide), z1_r0 (cw_e1 wC), Option.bind_some, c_mark wC tX tk (by omega), Option.bind_some, if_neg (show ¬ (kd f n s = 3 ∧ f s = 42) by omega), if_pos (show w32 0 = 0 by decide), Option.bind_some, c_mark wC tX tk (by omega), Option.bind_some, if_neg (show ¬ (kd f n s = 3 ∧ f s = 47) by omega), if_pos (show w32 0 = 0 by decide)]
    · intro Y rY g u dr wM ps h14 cd
      have ps' := ps
      obtain ⟨k3, k5, q, k4, hq, hsq⟩ := ps
      obtain ⟨g1, e1, w1⟩ := m_next wM rY ps'
      have ps1 : POS f n (upf u 4 (s : Nat)) s := pos_at k3 k5 p1 (st_sk hst)
      obtain ⟨g2, e2, w2⟩ := m_next w1 rY ps1
      rw [upf_up] at w2
      have hb : bt f n s = -1 := by unfold bt; rw [if_neg (by omega)]
      refine ⟨g2, _, dr, ?_, w2, ps1, by rw [upf_ne (by decide)]; exact h14, upf_ne (by decide), keep_up (by omega), by rw [List.append_nil]; exact cd, keepD_refl, rfl⟩
      rw [lp]
      unfold LX8_term_4
      rw [m_good wM k5, Option.bind_some, if_neg (show ¬ w32 1 = 0 by decide), e1, Option.bind_some]
      dsimp only
      rw [hb, if_neg (show ¬ w32 (-1) = w32 42 by decide), e2, Option.bind_some]
      dsimp only
      rw [hb, if_neg (show ¬ w32 (-1) = w32 47 by decide)]
  | succ m ih =>
    intro s ss t c hm hst p hc
    have p' := p
    obtain ⟨p1, p2, p3, p4, p5⟩ := p
    have hn := tX.1
    have hbr := bt_tx tX (s := s)
    by_cases hm1 : (kd f n s = 3 ∧ f s = 42) ∨ (kd f n s = 3 ∧ f s = 47)
    · -- an operator stands here
      have hk3 : kd f n s = 3 := by rcases hm1 with z | z <;> exact z.1
      have hsn : s < n := kd_pos (f := f) (by rw [hk3]; decide)
      have hgt := nx_gt (f := f) hsn
      have nd : ¬ isDg f s = true := fun y => by have := of_decide_eq_true y; omega
      have nl : ¬ isLt f s = true := fun y => by have := of_decide_eq_true y; omega
      have he : en f n s = s + 1 := by unfold en; rw [if_pos hsn, if_neg nd, if_neg nl]
      have pr : PRE n de (nx f n s) ss (t + 1) 2 := ⟨(nx_st p1).1, p2, p3, p4, by omega⟩
      obtain ⟨op, hop⟩ : ∃ op : Int, op = if kd f n s = 3 ∧ f s = 42 then -7 else -8 := ⟨_, rfl⟩
      have hopr : -8 ≤ op ∧ op ≤ -5 := by rw [hop]; split <;> omega
      have stC : ∀ h S rr tx sp, CWd X h S rr tx sp → TOK f n tx s → ∃ h1 tx1, CWd X h1 S rr tx1 sp ∧ TOK f n tx1 (nx f n s) ∧ tx1 1 = tx 1 ∧ LX4_readTerm_8 (FRRecS N) 1 (de : Nat) 1 (c : Nat) h = (FRRecS N 2 h1 1 (de : Nat)).bind fun q6 => (FX4_addStep q6.2 1 op).bind fun h7 => some (.inl (q6.1, (c : Int) + 1, h7)) := by
        intro h S rr tx sp wC tk
        have tk' := tk
        obtain ⟨k2, k3, k4, k5, k6, ks⟩ := tk
        obtain ⟨h1, tx1, e1, c1, t1, y1⟩ := c_adv wC tX k2 k5 (en_le p1)
        refine ⟨h1, tx1, c1, t1, y1, ?_⟩
        unfold LX4_readTerm_8 JX4_readTerm_49 JX4_readTerm_75
        rw [w32_nat (by omega), show w32 900 = 900 from rfl, if_pos (by omega), if_neg (show ¬ w32 1 = 0 by decide), z1_r0 (cw_e1 wC), Option.bind_some, c_mark wC tX tk' (by omega), Option.bind_some, Option.bind_some, c_mark wC tX tk' (by omega), Option.bind_some]
        by_cases y : kd f n s = 3 ∧ f s = 42
        · rw [if_pos y] at hop
          simp only [if_pos y, if_neg (show ¬ w32 1 = 0 by decide), Option.bind_some, e1, hop]
        · rw [if_neg y] at hop
          have y2 : kd f n s = 3 ∧ f s = 47 := by rcases hm1 with z | z; exact absurd z y; exact z
          simp only [if_neg y, if_pos y2, if_pos (show w32 0 = 0 by decide), if_neg (show ¬ w32 1 = 0 by decide), Option.bind_some, e1, hop]
      have stM : ∀ (Y : YM), RT Y f n → ∀ g u dr, MW Y g u dr → POS f n u s → ∃ g1, MW Y g1 (upf u 4 ((s + 1 : Nat) : Int)) dr ∧ POS f n (upf u 4 ((s + 1 : Nat) : Int)) (nx f n s) ∧ LX8_term_4 (FRRecM N) 227 g = (FRRecM N 2 g1 227).bind fun h7 => (FX8_emit h7 227 (-3 - op)).bind fun h8 => some (.inl h8) := by
        intro Y rY g u dr wM ps
        have ps' := ps
        obtain ⟨k3, k5, q, k4, hq, hsq⟩ := ps
        obtain ⟨g1, e1, w1⟩ := m_next wM rY ps'
        have ps1 : POS f n (upf u 4 (s : Nat)) s := pos_at k3 k5 p1 (st_sk hst)
        obtain ⟨g2, e2, w2⟩ := m_next w1 rY ps1
        rw [upf_up] at w2
        obtain ⟨g3, e3, w3⟩ := m_next w2 rY ps1
        rw [upf_up] at w3
        have b1 := kd3 (f := f) (n := n) (s := s) (c := 42) p1 (by omega)
        have b2 := kd3 (f := f) (n := n) (s := s) (c := 47) p1 (by omega)
        by_cases y : kd f n s = 3 ∧ f s = 42
        · rw [if_pos y] at hop
          have w4 := mw_8 (x := upf u 4 ((s + 1 : Nat) : Int)) w2
          refine ⟨_, w4, pos_at k3 k5 (by omega) (by unfold nx; rw [he]), ?_⟩
          unfold LX8_term_4 JX8_term_29 JX8_term_43 JX8_term_68
          rw [m_good wM k5, Option.bind_some, if_neg (show ¬ w32 1 = 0 by decide), e1, Option.bind_some]
          dsimp only
          rw [b1.mpr y, if_pos rfl, e2, Option.bind_some]
          dsimp only
          rw [b1.mpr y, if_pos rfl, z8_i4 (mw_z w2), Option.bind_some, upf_eq, z8_w4 (mw_z w2), Option.bind_some, upf_up, show (s : Int) + 1 = ((s + 1 : Nat) : Int) by omega]
          simp only [if_neg (show ¬ w32 1 = 0 by decide), hop]
          rfl
        · rw [if_neg y] at hop
          have y2 : kd f n s = 3 ∧ f s = 47 := by rcases hm1 with z | z; exact absurd z y; exact z
          have w4 := mw_8 (x := upf u 4 ((s + 1 : Nat) : Int)) w3
          refine ⟨_, w4, pos_at k3 k5 (by omega) (by unfold nx; rw [he]), ?_⟩
          unfold LX8_term_4 JX8_term_29 JX8_term_43 JX8_term_68
          rw [m_good wM k5, Option.bind_some, if_neg (show ¬ w32 1 = 0 by decide), e1, Option.bind_some]
          dsimp only
          rw [b2.mpr y2, if_neg (show ¬ w32 47 = w32 42 by decide), e2, Option.bind_some]
          dsimp only
          rw [b2.mpr y2, if_pos rfl, e3, Option.bind_some]
          dsimp only
          rw [b2.mpr y2, if_neg (show ¬ w32 47 = w32 42 by decide), z8_i4 (mw_z w3), Option.bind_some, upf_eq, z8_w4 (mw_z w3), Option.bind_some, upf_up, show (s : Int) + 1 = ((s + 1 : Nat) : Int) by omega]
          simp only [if_pos (show w32 0 = 0 by decide), hop]
          rfl
      rcases inn (nx f n s) ss (t + 1) (nx_st p1) pr with ⟨q, iC, iM⟩ | ⟨s2, l, ⟨q1, q2, q3, q4, q5⟩, iC, iM⟩
      · refine Or.inl ⟨q, ?_, ?_⟩
        · intro h S rr tx sp wC iv tk stp
          obtain ⟨h1, tx1, c1, t1, y1, e1⟩ := stC h S rr tx sp wC tk
          obtain ⟨h2, e2, f2⟩ := iC h1 S rr tx1 sp c1 iv t1 stp
          have e2 : FRRecS N 2 h1 1 (de : Nat) = some (0, h2) := e2
          obtain ⟨h3, e3, f3⟩ := c_stepF q (x := op) f2
          refine ⟨h3, ?_, by rw [← y1]; exact f3⟩
          rw [lp]
          try dsimp only
          rw [e1, e2, Option.bind_some, e3, Option.bind_some]
          dsimp only
          rw [lp]
          try dsimp only
          unfold LX4_readTerm_8
          by_cases y : w32 ((c : Int) + 1) < w32 900
          · rw [if_pos y, if_pos (show w32 0 = 0 by decide)]
          · rw [if_neg y]
        · intro Y rY g u dr wM ps h14 cd
          obtain ⟨g1, w1, ps1, e1⟩ := stM Y rY g u dr wM ps
          obtain ⟨g2, e2, m2⟩ := iM Y rY g1 _ dr w1 ps1 (by rw [upf_ne (by decide)]; exact h14) cd
          have e2 : FRRecM N 2 g1 227 = some g2 := e2
          refine ⟨g2, ?_, MF_keep (keep_up (by omega)) m2⟩
          rw [lp]
          try dsimp only
          rw [e1, e2, Option.bind_some, mf_emit m2, Option.bind_some]
          dsimp only
          rw [lp]
          try dsimp only
          unfold LX8_term_4
          rw [mf_bad m2, Option.bind_some, if_pos (show w32 0 = 0 by decide)]
      · have pr2 : PRE n de s2 (ss ++ l ++ [op]) (t + 1) 2 := by
          refine ⟨q2, p2, ?_, p4, by simp; omega⟩
          refine dk_app (dk_app p3 q4) ?_
          unfold dk
          rw [if_pos (by omega)]
          exact ⟨by omega, rfl⟩
        have hst2 : st f n s2 ∨ True := Or.inr trivial
        -- s2 starts a token: the class says so
        have hlen : (ss ++ l).length < 900 := by simp; omega
        have dk2 : dk 0 (ss ++ l) (t + 1 + 1) := dk_app p3 q4
        by_cases hs2 : st f n s2
        · rcases ih s2 (ss ++ l ++ [op]) t (c + 1) (by omega) hs2 pr2 (by omega) with ⟨q, jC, jM⟩ | ⟨s3, l3, ⟨r1, r2, r3, r4, r5⟩, jC, jM⟩
          · refine Or.inl ⟨q, ?_, ?_⟩
            · intro h S rr tx sp wC iv tk stp
              obtain ⟨h1, tx1, c1, t1, y1, e1⟩ := stC h S rr tx sp wC tk
              obtain ⟨h2, rr2, tx2, sp2, e2, c2, t2, st2, y2, z2⟩ := iC h1 S rr tx1 sp c1 iv t1 stp
              have e2 : FRRecS N 2 h1 1 (de : Nat) = some (1, h2) := e2
              obtain ⟨h3, sp3, e3, c3, st3⟩ := c_step c2 st2 (x := op) hlen
              obtain ⟨h4, e4, f4⟩ := jC h3 S _ tx2 sp3 c3 iv t2 st3
              refine ⟨h4, ?_, by rw [← y1, ← y2]; exact f4⟩
              rw [lp]
              try dsimp only
              rw [e1, e2, Option.bind_some, e3, Option.bind_some]
              exact e4
            · intro Y rY g u dr wM ps h14 cd
              obtain ⟨g1, w1, ps1, e1⟩ := stM Y rY g u dr wM ps
              obtain ⟨g2, u2, dr2, e2, w2, ps2, n2, se2, ku2, cd2, kd2, ap2⟩ := iM Y rY g1 _ dr w1 ps1 (by rw [upf_ne (by decide)]; exact h14) cd
              have e2 : FRRecM N 2 g1 227 = some g2 := e2
              have cb := cnt_b cd2 dk2 (by omega) (by omega)
              obtain ⟨g3, dr3, e3, w3, cd3, kd3', ap3⟩ := emit1 (x := op) w2 ps2.2.1 cd2 (by omega) hopr
              obtain ⟨g4, e4, m4⟩ := jM Y rY g3 u2 dr3 w3 ps2 n2 cd3
              refine ⟨g4, ?_, MF_keep (keep_trans (keep_up (by omega)) ku2) m4⟩
              rw [lp]
              try dsimp only
              rw [e1, e2, Option.bind_some, e3, Option.bind_some]
              exact e4
          · refine Or.inr ⟨s3, l ++ [op] ++ l3, ⟨by omega, r2, by simp; omega, ?_, ?_⟩, ?_, ?_⟩
            · refine dk_app (dk_app q4 ?_) r4
              unfold dk
              rw [if_pos (by omega)]
              exact ⟨by omega, rfl⟩
            · intro x hx
              simp at hx
              rcases hx with z | z | z
              · exact q5 x z
              · omega
              · exact r5 x z
            · intro h S rr tx sp wC iv tk stp
              obtain ⟨h1, tx1, c1, t1, y1, e1⟩ := stC h S rr tx sp wC tk
              obtain ⟨h2, rr2, tx2, sp2, e2, c2, t2, st2, y2, z2⟩ := iC h1 S rr tx1 sp c1 iv t1 stp
              have e2 : FRRecS N 2 h1 1 (de : Nat) = some (1, h2) := e2
              obtain ⟨h3, sp3, e3, c3, st3⟩ := c_step c2 st2 (x := op) hlen
              obtain ⟨h4, rr4, tx4, sp4, e4, c4, t4, st4, y4, z4⟩ := jC h3 S _ tx2 sp3 c3 iv t2 st3
              refine ⟨h4, rr4, tx4, sp4, ?_, c4, t4, ?_, by rw [y4, y2, y1], by rw [z4, upf_ne (by decide), z2]⟩
              · rw [lp]
                try dsimp only
                rw [e1, e2, Option.bind_some, e3, Option.bind_some]
                exact e4
              · rw [show ss ++ (l ++ [op] ++ l3) = ss ++ l ++ [op] ++ l3 by simp]; exact st4
            · intro Y rY g u dr wM ps h14 cd
              obtain ⟨g1, w1, ps1, e1⟩ := stM Y rY g u dr wM ps
              obtain ⟨g2, u2, dr2, e2, w2, ps2, n2, se2, ku2, cd2, kd2, ap2⟩ := iM Y rY g1 _ dr w1 ps1 (by rw [upf_ne (by decide)]; exact h14) cd
              have e2 : FRRecM N 2 g1 227 = some g2 := e2
              have cb := cnt_b cd2 dk2 (by omega) (by omega)
              obtain ⟨g3, dr3, e3, w3, cd3, kd3', ap3⟩ := emit1 (x := op) w2 ps2.2.1 cd2 (by omega) hopr
              obtain ⟨g4, u4, dr4, e4, w4, ps4, n4, se4, ku4, cd4, kd4, ap4⟩ := jM Y rY g3 u2 dr3 w3 ps2 n2 cd3
              refine ⟨g4, u4, dr4, ?_, w4, ps4, n4, by rw [se4, se2, upf_ne (by decide)], keep_trans (keep_trans (keep_up (by omega)) ku2) ku4, ?_, keepD_trans (keepD_trans kd2 kd3') kd4, by rw [ap4, ap3, ap2, app_app, app_app]; rfl⟩
              · rw [lp]
                try dsimp only
                rw [e1, e2, Option.bind_some, e3, Option.bind_some]
                exact e4
              · rw [show ss ++ (l ++ [op] ++ l3) = ss ++ l ++ [op] ++ l3 by simp]; exact cd4
        · -- no token starts there: then neither side gets there
          refine Or.inl ⟨(0, 0), ?_, ?_⟩
          · intro h S rr tx sp wC iv tk stp
            obtain ⟨h1, tx1, c1, t1, y1, e1⟩ := stC h S rr tx sp wC tk
            obtain ⟨h2, rr2, tx2, sp2, e2, c2, t2, st2, y2, z2⟩ := iC h1 S rr tx1 sp c1 iv t1 stp
            exact absurd t2.2.2.2.2.2 hs2
          · intro Y rY g u dr wM ps h14 cd
            obtain ⟨g1, w1, ps1, e1⟩ := stM Y rY g u dr wM ps
            obtain ⟨g2, u2, dr2, e2, w2, ps2, n2, se2, ku2, cd2, kd2, ap2⟩ := iM Y rY g1 _ dr w1 ps1 (by rw [upf_ne (by decide)]; exact h14) cd
            exact absurd (pos_st ps2) hs2
    · have hn1 : ¬ (kd f n s = 3 ∧ f s = 42) := fun z => hm1 (Or.inl z)
      have hn2 : ¬ (kd f n s = 3 ∧ f s = 47) := fun z => hm1 (Or.inr z)
      refine Or.inr ⟨s, [], ⟨Nat.le_refl _, p1, by simp, rfl, fun x hx => by simp at hx⟩, ?_, ?_⟩
      · intro h S rr tx sp wC iv tk stp
        refine ⟨h, rr, tx, sp, ?_, wC, tk, by rw [List.append_nil]; exact stp, rfl, rfl⟩
        rw [lp]
        try dsimp only
        unfold LX4_readTerm_8
        rw [w32_nat (by omega), show w32 900 = 900 from rfl, if_pos (by omega), if_neg (show ¬ w32 1 = 0 by decide), z1_r0 (cw_e1 wC), Option.bind_some, c_mark wC tX tk (by omega), Option.bind_some, if_neg hn1, if_pos (show w32 0 = 0 by decide), Option.bind_some, c_mark wC tX tk (by omega), Option.bind_some, if_neg hn2, if_pos (show w32 0 = 0 by decide)]
      · intro Y rY g u dr wM ps h14 cd
        have ps' := ps
        obtain ⟨k3, k5, q, k4, hq, hsq⟩ := ps
        obtain ⟨g1, e1, w1⟩ := m_next wM rY ps'
        have ps1 : POS f n (upf u 4 (s : Nat)) s := pos_at k3 k5 p1 (st_sk hst)
        obtain ⟨g2, e2, w2⟩ := m_next w1 rY ps1
        rw [upf_up] at w2
        have b1 : ¬ bt f n s = 42 := fun z => hn1 ((kd3 (f := f) p1 (by omega)).mp z)
        have b2 : ¬ bt f n s = 47 := fun z => hn2 ((kd3 (f := f) p1 (by omega)).mp z)
        refine ⟨g2, _, dr, ?_, w2, ps1, by rw [upf_ne (by decide)]; exact h14, upf_ne (by decide), keep_up (by omega), by rw [List.append_nil]; exact cd, keepD_refl, rfl⟩
        rw [lp]
        unfold LX8_term_4
        rw [m_good wM k5, Option.bind_some, if_neg (show ¬ w32 1 = 0 by decide), e1, Option.bind_some]
        dsimp only
        rw [w32_eq (x := bt f n s) (by omega) (by omega), show w32 42 = 42 from rfl, if_neg b1, e2, Option.bind_some]
        dsimp only
        rw [w32_eq (x := bt f n s) (by omega) (by omega), show w32 47 = 47 from rfl, if_neg b2]
theorem termOK {N de s t : Nat} {ss : List Int} (tX : TX X f n) (hst : st f n s) (p : PRE n de s ss t 1) (inn : ∀ s ss t, st f n s → PRE n de s ss t 2 → EX X f n (fun h => FRRecS N 2 h 1 (de : Nat)) (fun g => FRRecM N 2 g 227) de s ss t (t + 1)) :
    EX X f n (fun h => FX4_readTerm (FRRecS N) h 1 (de : Nat)) (fun g => FX8_term (FRRecM N) g 227) de s ss t (t + 1) := by
  have p' := p
  obtain ⟨p1, p2, p3, p4, p5⟩ := p
  have hn := tX.1
  rcases inn s ss t hst ⟨p1, p2, p3, by omega, p5⟩ with ⟨q, iC, iM⟩ | ⟨s2, l, ⟨q1, q2, q3, q4, q5⟩, iC, iM⟩
  · refine Or.inl ⟨q, ?_, ?_⟩
    · intro h S rr tx sp wC iv tk stp
      obtain ⟨h2, e2, f2⟩ := iC h S rr tx sp wC iv tk stp
      have e2 : FRRecS N 2 h 1 (de : Nat) = some (0, h2) := e2
      refine ⟨h2, ?_, f2⟩
      show FX4_readTerm (FRRecS N) h 1 (de : Nat) = _
      have L : LX4_readTerm_8 (FRRecS N) 1 (de : Nat) 0 0 h2 = some (.inr (.inr (0, h2))) := by
        unfold LX4_readTerm_8
        rw [if_pos (show w32 0 < w32 900 by decide), if_pos (show w32 0 = 0 by decide)]
      unfold FX4_readTerm JX4_readTerm_84
      rw [z1_O (cw_e1 wC), Option.bind_some, e2, Option.bind_some]
      unfold FU
      rw [lp]
      try dsimp only
      rw [L]
      dsimp only [Option.bind_some, Sum.elim_inr]
      rw [if_pos (Or.inl rfl)]
    · intro Y rY g u dr wM ps h14 cd
      obtain ⟨g2, e2, m2⟩ := iM Y rY g u dr wM ps h14 cd
      have e2 : FRRecM N 2 g 227 = some g2 := e2
      refine ⟨g2, ?_, m2⟩
      show FX8_term (FRRecM N) g 227 = _
      have L : LX8_term_4 (FRRecM N) 227 g2 = some (.inr g2) := by
        unfold LX8_term_4
        rw [mf_bad m2, Option.bind_some, if_pos (show w32 0 = 0 by decide)]
      unfold FX8_term JX8_term_74
      rw [z8_O (mw_z wM), Option.bind_some, e2, Option.bind_some]
      unfold FU
      rw [lp, L]
      rfl
  · by_cases hs2 : st f n s2
    · rcases term_loop tX inn (n - s2) s2 (ss ++ l) t 0 (Nat.le_refl _) hs2 ⟨q2, p2, dk_app p3 q4, by omega, by simp; omega⟩ (by omega) with ⟨q, jC, jM⟩ | ⟨s3, l3, ⟨r1, r2, r3, r4, r5⟩, jC, jM⟩
      · refine Or.inl ⟨q, ?_, ?_⟩
        · intro h S rr tx sp wC iv tk stp
          obtain ⟨h2, rr2, tx2, sp2, e2, c2, t2, st2, y2, z2⟩ := iC h S rr tx sp wC iv tk stp
          have e2 : FRRecS N 2 h 1 (de : Nat) = some (1, h2) := e2
          obtain ⟨h3, e3, f3⟩ := jC h2 S rr2 tx2 sp2 c2 iv t2 st2
          have e3 := lp_mono _ FU _ _ (by unfold FU; omega) e3
          have e3 : lp (fun st : Int × Int × PH => LX4_readTerm_8 (FRRecS N) 1 (de : Nat) st.1 st.2.1 st.2.2) FU (1, 0, h2) = some (.inr (0, h3)) := e3
          refine ⟨h3, ?_, by rw [← y2]; exact f3⟩
          show FX4_readTerm (FRRecS N) h 1 (de : Nat) = _
          unfold FX4_readTerm JX4_readTerm_84
          rw [z1_O (cw_e1 wC), Option.bind_some, e2, Option.bind_some, e3]
          dsimp only [Option.bind_some, Sum.elim_inr]
          rw [if_pos (Or.inl rfl)]
        · intro Y rY g u dr wM ps h14 cd
          obtain ⟨g2, u2, dr2, e2, w2, ps2, n2, se2, ku2, cd2, kd2, ap2⟩ := iM Y rY g u dr wM ps h14 cd
          have e2 : FRRecM N 2 g 227 = some g2 := e2
          obtain ⟨g3, e3, m3⟩ := jM Y rY g2 u2 dr2 w2 ps2 n2 cd2
          have e3 := lp_mono _ FU _ _ (by unfold FU; omega) e3
          refine ⟨g3, ?_, MF_keep ku2 m3⟩
          show FX8_term (FRRecM N) g 227 = _
          unfold FX8_term JX8_term_74
          rw [z8_O (mw_z wM), Option.bind_some, e2, Option.bind_some, e3]
          rfl
      · refine Or.inr ⟨s3, l ++ l3, ⟨by omega, r2, by simp; omega, dk_app q4 r4, fun x hx => ?_⟩, ?_, ?_⟩
        · simp at hx
          rcases hx with z | z
          · exact q5 x z
          · exact r5 x z
        · intro h S rr tx sp wC iv tk stp
          obtain ⟨h2, rr2, tx2, sp2, e2, c2, t2, st2, y2, z2⟩ := iC h S rr tx sp wC iv tk stp
          have e2 : FRRecS N 2 h 1 (de : Nat) = some (1, h2) := e2
          obtain ⟨h3, rr3, tx3, sp3, e3, c3, t3, st3, y3, z3⟩ := jC h2 S rr2 tx2 sp2 c2 iv t2 st2
          have e3 := lp_mono _ FU _ _ (by unfold FU; omega) e3
          have e3 : lp (fun st : Int × Int × PH => LX4_readTerm_8 (FRRecS N) 1 (de : Nat) st.1 st.2.1 st.2.2) FU (1, 0, h2) = some (.inl h3) := e3
          refine ⟨h3, rr3, tx3, sp3, ?_, c3, t3, by rw [← List.append_assoc]; exact st3, by rw [y3, y2], by rw [z3, z2]⟩
          show FX4_readTerm (FRRecS N) h 1 (de : Nat) = _
          unfold FX4_readTerm
          rw [z1_O (cw_e1 wC), Option.bind_some, e2, Option.bind_some, e3]
          rfl
        · intro Y rY g u dr wM ps h14 cd
          obtain ⟨g2, u2, dr2, e2, w2, ps2, n2, se2, ku2, cd2, kd2, ap2⟩ := iM Y rY g u dr wM ps h14 cd
          have e2 : FRRecM N 2 g 227 = some g2 := e2
          obtain ⟨g3, u3, dr3, e3, w3, ps3, n3, se3, ku3, cd3, kd3', ap3⟩ := jM Y rY g2 u2 dr2 w2 ps2 n2 cd2
          have e3 := lp_mono _ FU _ _ (by unfold FU; omega) e3
          refine ⟨g3, u3, dr3, ?_, w3, ps3, n3, by rw [se3, se2], keep_trans ku2 ku3, by rw [← List.append_assoc]; exact cd3, keepD_trans kd2 kd3', by rw [ap3, ap2, app_app]⟩
          show FX8_term (FRRecM N) g 227 = _
          unfold FX8_term JX8_term_74
          rw [z8_O (mw_z wM), Option.bind_some, e2, Option.bind_some, e3]
          rfl
    · refine Or.inl ⟨(0, 0), ?_, ?_⟩
      · intro h S rr tx sp wC iv tk stp
        obtain ⟨h2, rr2, tx2, sp2, e2, c2, t2, st2, y2, z2⟩ := iC h S rr tx sp wC iv tk stp
        exact absurd t2.2.2.2.2.2 hs2
      · intro Y rY g u dr wM ps h14 cd
        obtain ⟨g2, u2, dr2, e2, w2, ps2, n2, se2, ku2, cd2, kd2, ap2⟩ := iM Y rY g u dr wM ps h14 cd
        exact absurd (pos_st ps2) hs2
end
/-! ===== Sum ===== -/
section
variable {X : XC} {Y : YM} {f : Nat → Int} {n : Nat}
theorem sum_loop {N de : Nat} (tX : TX X f n) (inn : ∀ s ss t, st f n s → PRE n de s ss t 1 → EX X f n (fun h => FRRecS N 1 h 1 (de : Nat)) (fun g => FRRecM N 1 g 227) de s ss t (t + 1)) :
    ∀ (m s : Nat) (ss : List Int) (t c : Nat), n - s ≤ m → st f n s → PRE n de s ss (t + 1) 1 → c + 1 ≤ s →
    (∃ q, (∀ h S rr tx sp, CWd X h S rr tx sp → IvM S → TOK f n tx s → STP rr sp ss → ∃ h', lp (fun st : Int × Int × PH => LX4_readSum_8 (FRRecS N) 1 (de : Nat) st.1 st.2.1 st.2.2) (m + 2) (1, (c : Nat), h) = some (.inr (0, h')) ∧ CF X h' (tx 1) q) ∧
      (∀ (Y : YM), RT Y f n → ∀ g u dr, MW Y g u dr → POS f n u s → u 14 = de → cds dr 0 ss → ∃ g', lp (fun st : PH => LX8_sum_4 (FRRecM N) 227 st) (m + 2) g = some g' ∧ MF Y g' u q)) ∨
    (∃ s' l, EP n s s' l (t + 1) (t + 1) ∧
      (∀ h S rr tx sp, CWd X h S rr tx sp → IvM S → TOK f n tx s → STP rr sp ss → ∃ h' rr' tx' sp', lp (fun st : Int × Int × PH => LX4_readSum_8 (FRRecS N) 1 (de : Nat) st.1 st.2.1 st.2.2) (m + 2) (1, (c : Nat), h) = some (.inl h') ∧ CWd X h' S rr' tx' sp' ∧ TOK f n tx' s' ∧ STP rr' sp' (ss ++ l) ∧ tx' 1 = tx 1 ∧ rr' 5 = rr 5) ∧
      (∀ (Y : YM), RT Y f n → ∀ g u dr, MW Y g u dr → POS f n u s → u 14 = de → cds dr 0 ss → ∃ g' u' dr', lp (fun st : PH => LX8_sum_4 (FRRecM N) 227 st) (m + 2) g = some g' ∧ MW Y g' u' dr' ∧ POS f n u' s' ∧ u' 14 = de ∧ u' 15 = u 15 ∧ keepU u u' ∧ cds dr' 0 (ss ++ l) ∧ keepD dr dr' ∧ dr' = app dr l)) := by
  intro m
  induction m with
  | zero =>
    intro s ss t c hm hst p hc
    obtain ⟨p1, p2, p3, p4, p5⟩ := p
    have hn := tX.1
    have hsn : s = n := by omega
    have hk : kd f n s = 0 := by unfold kd; rw [if_neg (by omega)]
    refine Or.inr ⟨s, [], ⟨Nat.le_refl _, p1, by simp, rfl, fun x hx => by simp at hx⟩, ?_, ?_⟩
    · intro h S rr tx sp wC iv tk stp
      refine ⟨h, rr, tx, sp, ?_, wC, tk, by rw [List.append_nil]; exact stp, rfl, rfl⟩
      rw [lp]
      try dsimp only
      unfold LX4_readSum_8
      rw [w32_nat (by omega), show w32 900 = 900 from rfl, if_pos (by omega), if_neg (show ¬ w32 1 = 0 by decide), z1_r0 (cw_e1 wC), Option.bind_some, c_mark wC tX tk (by omega), Option.bind_some, if_neg (show ¬ (kd f n s = 3 ∧ f s = 43) by omega), if_pos (show w32 0 = 0 by decide), Option.bind_some, c_mark wC tX tk (by omega), Option.bind_some, if_neg (show ¬ (kd f n s = 3 ∧ f s = 45) by omega), if_pos (show w32 0 = 0 by decide)]
    · intro Y rY g u dr wM ps h14 cd
      have ps' := ps
      obtain ⟨k3, k5, q, k4, hq, hsq⟩ := ps
      obtain ⟨g1, e1, w1⟩ := m_next wM rY ps'
      have ps1 : POS f n (upf u 4 (s : Nat)) s := pos_at k3 k5 p1 (st_sk hst)
      obtain ⟨g2, e2, w2⟩ := m_next w1 rY ps1
      rw [upf_up] at w2
      have hb : bt f n s = -1 := by unfold bt; rw [if_neg (by omega)]
      refine ⟨g2, _, dr, ?_, w2, ps1, by rw [upf_ne (by decide)]; exact h14, upf_ne (by decide), keep_up (by omega), by rw [List.append_nil]; exact cd, keepD_refl, rfl⟩
      rw [lp]
      unfold LX8_sum_4
      rw [m_good wM k5, Option.bind_some, if_neg (show ¬ w32 1 = 0 by decide), e1, Option.bind_some]
      dsimp only
      rw [hb, if_neg (show ¬ w32 (-1) = w32 43 by decide), e2, Option.bind_some]
      dsimp only
      rw [hb, if_neg (show ¬ w32 (-1) = w32 45 by decide)]
  | succ m ih =>
    intro s ss t c hm hst p hc
    have p' := p
    obtain ⟨p1, p2, p3, p4, p5⟩ := p
    have hn := tX.1
    have hbr := bt_tx tX (s := s)
    by_cases hm1 : (kd f n s = 3 ∧ f s = 43) ∨ (kd f n s = 3 ∧ f s = 45)
    · -- an operator stands here
      have hk3 : kd f n s = 3 := by rcases hm1 with z | z <;> exact z.1
      have hsn : s < n := kd_pos (f := f) (by rw [hk3]; decide)
      have hgt := nx_gt (f := f) hsn
      have nd : ¬ isDg f s = true := fun y => by have := of_decide_eq_true y; omega
      have nl : ¬ isLt f s = true := fun y => by have := of_decide_eq_true y; omega
      have he : en f n s = s + 1 := by unfold en; rw [if_pos hsn, if_neg nd, if_neg nl]
      have pr : PRE n de (nx f n s) ss (t + 1) 1 := ⟨(nx_st p1).1, p2, p3, p4, by omega⟩
      obtain ⟨op, hop⟩ : ∃ op : Int, op = if kd f n s = 3 ∧ f s = 43 then -5 else -6 := ⟨_, rfl⟩
      have hopr : -8 ≤ op ∧ op ≤ -5 := by rw [hop]; split <;> omega
      have stC : ∀ h S rr tx sp, CWd X h S rr tx sp → TOK f n tx s → ∃ h1 tx1, CWd X h1 S rr tx1 sp ∧ TOK f n tx1 (nx f n s) ∧ tx1 1 = tx 1 ∧ LX4_readSum_8 (FRRecS N) 1 (de : Nat) 1 (c : Nat) h = (FRRecS N 1 h1 1 (de : Nat)).bind fun q6 => (FX4_addStep q6.2 1 op).bind fun h7 => some (.inl (q6.1, (c : Int) + 1, h7)) := by
        intro h S rr tx sp wC tk
        have tk' := tk
        obtain ⟨k2, k3, k4, k5, k6, ks⟩ := tk
        obtain ⟨h1, tx1, e1, c1, t1, y1⟩ := c_adv wC tX k2 k5 (en_le p1)
        refine ⟨h1, tx1, c1, t1, y1, ?_⟩
        unfold LX4_readSum_8 JX4_readSum_49 JX4_readSum_75
        rw [w32_nat (by omega), show w32 900 = 900 from rfl, if_pos (by omega), if_neg (show ¬ w32 1 = 0 by decide), z1_r0 (cw_e1 wC), Option.bind_some, c_mark wC tX tk' (by omega), Option.bind_some, Option.bind_some, c_mark wC tX tk' (by omega), Option.bind_some]
        by_cases y : kd f n s = 3 ∧ f s = 43
        · rw [if_pos y] at hop
          simp only [if_pos y, if_neg (show ¬ w32 1 = 0 by decide), Option.bind_some, e1, hop]
        · rw [if_neg y] at hop
          have y2 : kd f n s = 3 ∧ f s = 45 := by rcases hm1 with z | z; exact absurd z y; exact z
          simp only [if_neg y, if_pos y2, if_pos (show w32 0 = 0 by decide), if_neg (show ¬ w32 1 = 0 by decide), Option.bind_some, e1, hop]
      have stM : ∀ (Y : YM), RT Y f n → ∀ g u dr, MW Y g u dr → POS f n u s → ∃ g1, MW Y g1 (upf u 4 ((s + 1 : Nat) : Int)) dr ∧ POS f n (upf u 4 ((s + 1 : Nat) : Int)) (nx f n s) ∧ LX8_sum_4 (FRRecM N) 227 g = (FRRecM N 1 g1 227).bind fun h7 => (FX8_emit h7 227 (-3 - op)).bind fun h8 => some (.inl h8) := by
        intro Y rY g u dr wM ps
        have ps' := ps
        obtain ⟨k3, k5, q, k4, hq, hsq⟩ := ps
        obtain ⟨g1, e1, w1⟩ := m_next wM rY ps'
        have ps1 : POS f n (upf u 4 (s : Nat)) s := pos_at k3 k5 p1 (st_sk hst)
        obtain ⟨g2, e2, w2⟩ := m_next w1 rY ps1
        rw [upf_up] at w2
        obtain ⟨g3, e3, w3⟩ := m_next w2 rY ps1
        rw [upf_up] at w3
        have b1 := kd3 (f := f) (n := n) (s := s) (c := 43) p1 (by omega)
        have b2 := kd3 (f := f) (n := n) (s := s) (c := 45) p1 (by omega)
        by_cases y : kd f n s = 3 ∧ f s = 43
        · rw [if_pos y] at hop
          have w4 := mw_8 (x := upf u 4 ((s + 1 : Nat) : Int)) w2
          refine ⟨_, w4, pos_at k3 k5 (by omega) (by unfold nx; rw [he]), ?_⟩
          unfold LX8_sum_4 JX8_sum_29 JX8_sum_43 JX8_sum_68
          rw [m_good wM k5, Option.bind_some, if_neg (show ¬ w32 1 = 0 by decide), e1, Option.bind_some]
          dsimp only
          rw [b1.mpr y, if_pos rfl, e2, Option.bind_some]
          dsimp only
          rw [b1.mpr y, if_pos rfl, z8_i4 (mw_z w2), Option.bind_some, upf_eq, z8_w4 (mw_z w2), Option.bind_some, upf_up, show (s : Int) + 1 = ((s + 1 : Nat) : Int) by omega]
          simp only [if_neg (show ¬ w32 1 = 0 by decide), hop]
          rfl
        · rw [if_neg y] at hop
          have y2 : kd f n s = 3 ∧ f s = 45 := by rcases hm1 with z | z; exact absurd z y; exact z
          have w4 := mw_8 (x := upf u 4 ((s + 1 : Nat) : Int)) w3
          refine ⟨_, w4, pos_at k3 k5 (by omega) (by unfold nx; rw [he]), ?_⟩
          unfold LX8_sum_4 JX8_sum_29 JX8_sum_43 JX8_sum_68
          rw [m_good wM k5, Option.bind_some, if_neg (show ¬ w32 1 = 0 by decide), e1, Option.bind_some]
          dsimp only
          rw [b2.mpr y2, if_neg (show ¬ w32 45 = w32 43 by decide), e2, Option.bind_some]
          dsimp only
          rw [b2.mpr y2, if_pos rfl, e3, Option.bind_some]
          dsimp only
          rw [b2.mpr y2, if_neg (show ¬ w32 45 = w32 43 by decide), z8_i4 (mw_z w3), Option.bind_some, upf_eq, z8_w4 (mw_z w3), Option.bind_some, upf_up, show (s : Int) + 1 = ((s + 1 : Nat) : Int) by omega]
          simp only [if_pos (show w32 0 = 0 by decide), hop]
          rfl
      rcases inn (nx f n s) ss (t + 1) (nx_st p1) pr with ⟨q, iC, iM⟩ | ⟨s2, l, ⟨q1, q2, q3, q4, q5⟩, iC, iM⟩
      · refine Or.inl ⟨q, ?_, ?_⟩
        · intro h S rr tx sp wC iv tk stp
          obtain ⟨h1, tx1, c1, t1, y1, e1⟩ := stC h S rr tx sp wC tk
          obtain ⟨h2, e2, f2⟩ := iC h1 S rr tx1 sp c1 iv t1 stp
          have e2 : FRRecS N 1 h1 1 (de : Nat) = some (0, h2) := e2
          obtain ⟨h3, e3, f3⟩ := c_stepF q (x := op) f2
          refine ⟨h3, ?_, by rw [← y1]; exact f3⟩
          rw [lp]
          try dsimp only
          rw [e1, e2, Option.bind_some, e3, Option.bind_some]
          dsimp only
          rw [lp]
          try dsimp only
          unfold LX4_readSum_8
          by_cases y : w32 ((c : Int) + 1) < w32 900
          · rw [if_pos y, if_pos (show w32 0 = 0 by decide)]
          · rw [if_neg y]
        · intro Y rY g u dr wM ps h14 cd
          obtain ⟨g1, w1, ps1, e1⟩ := stM Y rY g u dr wM ps
          obtain ⟨g2, e2, m2⟩ := iM Y rY g1 _ dr w1 ps1 (by rw [upf_ne (by decide)]; exact h14) cd
          have e2 : FRRecM N 1 g1 227 = some g2 := e2
          refine ⟨g2, ?_, MF_keep (keep_up (by omega)) m2⟩
          rw [lp]
          try dsimp only
          rw [e1, e2, Option.bind_some, mf_emit m2, Option.bind_some]
          dsimp only
          rw [lp]
          try dsimp only
          unfold LX8_sum_4
          rw [mf_bad m2, Option.bind_some, if_pos (show w32 0 = 0 by decide)]
      · have pr2 : PRE n de s2 (ss ++ l ++ [op]) (t + 1) 1 := by
          refine ⟨q2, p2, ?_, p4, by simp; omega⟩
          refine dk_app (dk_app p3 q4) ?_
          unfold dk
          rw [if_pos (by omega)]
          exact ⟨by omega, rfl⟩
        have hst2 : st f n s2 ∨ True := Or.inr trivial
        -- s2 starts a token: the class says so
        have hlen : (ss ++ l).length < 900 := by simp; omega
        have dk2 : dk 0 (ss ++ l) (t + 1 + 1) := dk_app p3 q4
        by_cases hs2 : st f n s2
        · rcases ih s2 (ss ++ l ++ [op]) t (c + 1) (by omega) hs2 pr2 (by omega) with ⟨q, jC, jM⟩ | ⟨s3, l3, ⟨r1, r2, r3, r4, r5⟩, jC, jM⟩
          · refine Or.inl ⟨q, ?_, ?_⟩
            · intro h S rr tx sp wC iv tk stp
              obtain ⟨h1, tx1, c1, t1, y1, e1⟩ := stC h S rr tx sp wC tk
              obtain ⟨h2, rr2, tx2, sp2, e2, c2, t2, st2, y2, z2⟩ := iC h1 S rr tx1 sp c1 iv t1 stp
              have e2 : FRRecS N 1 h1 1 (de : Nat) = some (1, h2) := e2
              obtain ⟨h3, sp3, e3, c3, st3⟩ := c_step c2 st2 (x := op) hlen
              obtain ⟨h4, e4, f4⟩ := jC h3 S _ tx2 sp3 c3 iv t2 st3
              refine ⟨h4, ?_, by rw [← y1, ← y2]; exact f4⟩
              rw [lp]
              try dsimp only
              rw [e1, e2, Option.bind_some, e3, Option.bind_some]
              exact e4
            · intro Y rY g u dr wM ps h14 cd
              obtain ⟨g1, w1, ps1, e1⟩ := stM Y rY g u dr wM ps
              obtain ⟨g2, u2, dr2, e2, w2, ps2, n2, se2, ku2, cd2, kd2, ap2⟩ := iM Y rY g1 _ dr w1 ps1 (by rw [upf_ne (by decide)]; exact h14) cd
              have e2 : FRRecM N 1 g1 227 = some g2 := e2
              have cb := cnt_b cd2 dk2 (by omega) (by omega)
              obtain ⟨g3, dr3, e3, w3, cd3, kd3', ap3⟩ := emit1 (x := op) w2 ps2.2.1 cd2 (by omega) hopr
              obtain ⟨g4, e4, m4⟩ := jM Y rY g3 u2 dr3 w3 ps2 n2 cd3
              refine ⟨g4, ?_, MF_keep (keep_trans (keep_up (by omega)) ku2) m4⟩
              rw [lp]
              try dsimp only
              rw [e1, e2, Option.bind_some, e3, Option.bind_some]
              exact e4
          · refine Or.inr ⟨s3, l ++ [op] ++ l3, ⟨by omega, r2, by simp; omega, ?_, ?_⟩, ?_, ?_⟩
            · refine dk_app (dk_app q4 ?_) r4
              unfold dk
              rw [if_pos (by omega)]
              exact ⟨by omega, rfl⟩
            · intro x hx
              simp at hx
              rcases hx with z | z | z
              · exact q5 x z
              · omega
              · exact r5 x z
            · intro h S rr tx sp wC iv tk stp
              obtain ⟨h1, tx1, c1, t1, y1, e1⟩ := stC h S rr tx sp wC tk
              obtain ⟨h2, rr2, tx2, sp2, e2, c2, t2, st2, y2, z2⟩ := iC h1 S rr tx1 sp c1 iv t1 stp
              have e2 : FRRecS N 1 h1 1 (de : Nat) = some (1, h2) := e2
              obtain ⟨h3, sp3, e3, c3, st3⟩ := c_step c2 st2 (x := op) hlen
              obtain ⟨h4, rr4, tx4, sp4, e4, c4, t4, st4, y4, z4⟩ := jC h3 S _ tx2 sp3 c3 iv t2 st3
              refine ⟨h4, rr4, tx4, sp4, ?_, c4, t4, ?_, by rw [y4, y2, y1], by rw [z4, upf_ne (by decide), z2]⟩
              · rw [lp]
                try dsimp only
                rw [e1, e2, Option.bind_some, e3, Option.bind_some]
                exact e4
              · rw [show ss ++ (l ++ [op] ++ l3) = ss ++ l ++ [op] ++ l3 by simp]; exact st4
            · intro Y rY g u dr wM ps h14 cd
              obtain ⟨g1, w1, ps1, e1⟩ := stM Y rY g u dr wM ps
              obtain ⟨g2, u2, dr2, e2, w2, ps2, n2, se2, ku2, cd2, kd2, ap2⟩ := iM Y rY g1 _ dr w1 ps1 (by rw [upf_ne (by decide)]; exact h14) cd
              have e2 : FRRecM N 1 g1 227 = some g2 := e2
              have cb := cnt_b cd2 dk2 (by omega) (by omega)
              obtain ⟨g3, dr3, e3, w3, cd3, kd3', ap3⟩ := emit1 (x := op) w2 ps2.2.1 cd2 (by omega) hopr
              obtain ⟨g4, u4, dr4, e4, w4, ps4, n4, se4, ku4, cd4, kd4, ap4⟩ := jM Y rY g3 u2 dr3 w3 ps2 n2 cd3
              refine ⟨g4, u4, dr4, ?_, w4, ps4, n4, by rw [se4, se2, upf_ne (by decide)], keep_trans (keep_trans (keep_up (by omega)) ku2) ku4, ?_, keepD_trans (keepD_trans kd2 kd3') kd4, by rw [ap4, ap3, ap2, app_app, app_app]; rfl⟩
              · rw [lp]
                try dsimp only
                rw [e1, e2, Option.bind_some, e3, Option.bind_some]
                exact e4
              · rw [show ss ++ (l ++ [op] ++ l3) = ss ++ l ++ [op] ++ l3 by simp]; exact cd4
        · -- no token starts there: then neither side gets there
          refine Or.inl ⟨(0, 0), ?_, ?_⟩
          · intro h S rr tx sp wC iv tk stp
            obtain ⟨h1, tx1, c1, t1, y1, e1⟩ := stC h S rr tx sp wC tk
            obtain ⟨h2, rr2, tx2, sp2, e2, c2, t2, st2, y2, z2⟩ := iC h1 S rr tx1 sp c1 iv t1 stp
            exact absurd t2.2.2.2.2.2 hs2
          · intro Y rY g u dr wM ps h14 cd
            obtain ⟨g1, w1, ps1, e1⟩ := stM Y rY g u dr wM ps
            obtain ⟨g2, u2, dr2, e2, w2, ps2, n2, se2, ku2, cd2, kd2, ap2⟩ := iM Y rY g1 _ dr w1 ps1 (by rw [upf_ne (by decide)]; exact h14) cd
            exact absurd (pos_st ps2) hs2
    · have hn1 : ¬ (kd f n s = 3 ∧ f s = 43) := fun z => hm1 (Or.inl z)
      have hn2 : ¬ (kd f n s = 3 ∧ f s = 45) := fun z => hm1 (Or.inr z)
      refine Or.inr ⟨s, [], ⟨Nat.le_refl _, p1, by simp, rfl, fun x hx => by simp at hx⟩, ?_, ?_⟩
      · intro h S rr tx sp wC iv tk stp
        refine ⟨h, rr, tx, sp, ?_, wC, tk, by rw [List.append_nil]; exact stp, rfl, rfl⟩
        rw [lp]
        try dsimp only
        unfold LX4_readSum_8
        rw [w32_nat (by omega), show w32 900 = 900 from rfl, if_pos (by omega), if_neg (show ¬ w32 1 = 0 by decide), z1_r0 (cw_e1 wC), Option.bind_some, c_mark wC tX tk (by omega), Option.bind_some, if_neg hn1, if_pos (show w32 0 = 0 by decide), Option.bind_some, c_mark wC tX tk (by omega), Option.bind_some, if_neg hn2, if_pos (show w32 0 = 0 by decide)]
      · intro Y rY g u dr wM ps h14 cd
        have ps' := ps
        obtain ⟨k3, k5, q, k4, hq, hsq⟩ := ps
        obtain ⟨g1, e1, w1⟩ := m_next wM rY ps'
        have ps1 : POS f n (upf u 4 (s : Nat)) s := pos_at k3 k5 p1 (st_sk hst)
        obtain ⟨g2, e2, w2⟩ := m_next w1 rY ps1
        rw [upf_up] at w2
        have b1 : ¬ bt f n s = 43 := fun z => hn1 ((kd3 (f := f) p1 (by omega)).mp z)
        have b2 : ¬ bt f n s = 45 := fun z => hn2 ((kd3 (f := f) p1 (by omega)).mp z)
        refine ⟨g2, _, dr, ?_, w2, ps1, by rw [upf_ne (by decide)]; exact h14, upf_ne (by decide), keep_up (by omega), by rw [List.append_nil]; exact cd, keepD_refl, rfl⟩
        rw [lp]
        unfold LX8_sum_4
        rw [m_good wM k5, Option.bind_some, if_neg (show ¬ w32 1 = 0 by decide), e1, Option.bind_some]
        dsimp only
        rw [w32_eq (x := bt f n s) (by omega) (by omega), show w32 43 = 43 from rfl, if_neg b1, e2, Option.bind_some]
        dsimp only
        rw [w32_eq (x := bt f n s) (by omega) (by omega), show w32 45 = 45 from rfl, if_neg b2]
theorem sumOK {N de s t : Nat} {ss : List Int} (tX : TX X f n) (hst : st f n s) (p : PRE n de s ss t 0) (inn : ∀ s ss t, st f n s → PRE n de s ss t 1 → EX X f n (fun h => FRRecS N 1 h 1 (de : Nat)) (fun g => FRRecM N 1 g 227) de s ss t (t + 1)) :
    EX X f n (fun h => FX4_readSum (FRRecS N) h 1 (de : Nat)) (fun g => FX8_sum (FRRecM N) g 227) de s ss t (t + 1) := by
  have p' := p
  obtain ⟨p1, p2, p3, p4, p5⟩ := p
  have hn := tX.1
  rcases inn s ss t hst ⟨p1, p2, p3, by omega, p5⟩ with ⟨q, iC, iM⟩ | ⟨s2, l, ⟨q1, q2, q3, q4, q5⟩, iC, iM⟩
  · refine Or.inl ⟨q, ?_, ?_⟩
    · intro h S rr tx sp wC iv tk stp
      obtain ⟨h2, e2, f2⟩ := iC h S rr tx sp wC iv tk stp
      have e2 : FRRecS N 1 h 1 (de : Nat) = some (0, h2) := e2
      refine ⟨h2, ?_, f2⟩
      show FX4_readSum (FRRecS N) h 1 (de : Nat) = _
      have L : LX4_readSum_8 (FRRecS N) 1 (de : Nat) 0 0 h2 = some (.inr (.inr (0, h2))) := by
        unfold LX4_readSum_8
        rw [if_pos (show w32 0 < w32 900 by decide), if_pos (show w32 0 = 0 by decide)]
      unfold FX4_readSum JX4_readSum_84
      rw [z1_O (cw_e1 wC), Option.bind_some, e2, Option.bind_some]
      unfold FU
      rw [lp]
      try dsimp only
      rw [L]
      dsimp only [Option.bind_some, Sum.elim_inr]
      rw [if_pos (Or.inl rfl)]
    · intro Y rY g u dr wM ps h14 cd
      obtain ⟨g2, e2, m2⟩ := iM Y rY g u dr wM ps h14 cd
      have e2 : FRRecM N 1 g 227 = some g2 := e2
      refine ⟨g2, ?_, m2⟩
      show FX8_sum (FRRecM N) g 227 = _
      have L : LX8_sum_4 (FRRecM N) 227 g2 = some (.inr g2) := by
        unfold LX8_sum_4
        rw [mf_bad m2, Option.bind_some, if_pos (show w32 0 = 0 by decide)]
      unfold FX8_sum JX8_sum_74
      rw [z8_O (mw_z wM), Option.bind_some, e2, Option.bind_some]
      unfold FU
      rw [lp, L]
      rfl
  · by_cases hs2 : st f n s2
    · rcases sum_loop tX inn (n - s2) s2 (ss ++ l) t 0 (Nat.le_refl _) hs2 ⟨q2, p2, dk_app p3 q4, by omega, by simp; omega⟩ (by omega) with ⟨q, jC, jM⟩ | ⟨s3, l3, ⟨r1, r2, r3, r4, r5⟩, jC, jM⟩
      · refine Or.inl ⟨q, ?_, ?_⟩
        · intro h S rr tx sp wC iv tk stp
          obtain ⟨h2, rr2, tx2, sp2, e2, c2, t2, st2, y2, z2⟩ := iC h S rr tx sp wC iv tk stp
          have e2 : FRRecS N 1 h 1 (de : Nat) = some (1, h2) := e2
          obtain ⟨h3, e3, f3⟩ := jC h2 S rr2 tx2 sp2 c2 iv t2 st2
          have e3 := lp_mono _ FU _ _ (by unfold FU; omega) e3
          have e3 : lp (fun st : Int × Int × PH => LX4_readSum_8 (FRRecS N) 1 (de : Nat) st.1 st.2.1 st.2.2) FU (1, 0, h2) = some (.inr (0, h3)) := e3
          refine ⟨h3, ?_, by rw [← y2]; exact f3⟩
          show FX4_readSum (FRRecS N) h 1 (de : Nat) = _
          unfold FX4_readSum JX4_readSum_84
          rw [z1_O (cw_e1 wC), Option.bind_some, e2, Option.bind_some, e3]
          dsimp only [Option.bind_some, Sum.elim_inr]
          rw [if_pos (Or.inl rfl)]
        · intro Y rY g u dr wM ps h14 cd
          obtain ⟨g2, u2, dr2, e2, w2, ps2, n2, se2, ku2, cd2, kd2, ap2⟩ := iM Y rY g u dr wM ps h14 cd
          have e2 : FRRecM N 1 g 227 = some g2 := e2
          obtain ⟨g3, e3, m3⟩ := jM Y rY g2 u2 dr2 w2 ps2 n2 cd2
          have e3 := lp_mono _ FU _ _ (by unfold FU; omega) e3
          refine ⟨g3, ?_, MF_keep ku2 m3⟩
          show FX8_sum (FRRecM N) g 227 = _
          unfold FX8_sum JX8_sum_74
          rw [z8_O (mw_z wM), Option.bind_some, e2, Option.bind_some, e3]
          rfl
      · refine Or.inr ⟨s3, l ++ l3, ⟨by omega, r2, by simp; omega, dk_app q4 r4, fun x hx => ?_⟩, ?_, ?_⟩
        · simp at hx
          rcases hx with z | z
          · exact q5 x z
          · exact r5 x z
        · intro h S rr tx sp wC iv tk stp
          obtain ⟨h2, rr2, tx2, sp2, e2, c2, t2, st2, y2, z2⟩ := iC h S rr tx sp wC iv tk stp
          have e2 : FRRecS N 1 h 1 (de : Nat) = some (1, h2) := e2
          obtain ⟨h3, rr3, tx3, sp3, e3, c3, t3, st3, y3, z3⟩ := jC h2 S rr2 tx2 sp2 c2 iv t2 st2
          have e3 := lp_mono _ FU _ _ (by unfold FU; omega) e3
          have e3 : lp (fun st : Int × Int × PH => LX4_readSum_8 (FRRecS N) 1 (de : Nat) st.1 st.2.1 st.2.2) FU (1, 0, h2) = some (.inl h3) := e3
          refine ⟨h3, rr3, tx3, sp3, ?_, c3, t3, by rw [← List.append_assoc]; exact st3, by rw [y3, y2], by rw [z3, z2]⟩
          show FX4_readSum (FRRecS N) h 1 (de : Nat) = _
          unfold FX4_readSum
          rw [z1_O (cw_e1 wC), Option.bind_some, e2, Option.bind_some, e3]
          rfl
        · intro Y rY g u dr wM ps h14 cd
          obtain ⟨g2, u2, dr2, e2, w2, ps2, n2, se2, ku2, cd2, kd2, ap2⟩ := iM Y rY g u dr wM ps h14 cd
          have e2 : FRRecM N 1 g 227 = some g2 := e2
          obtain ⟨g3, u3, dr3, e3, w3, ps3, n3, se3, ku3, cd3, kd3', ap3⟩ := jM Y rY g2 u2 dr2 w2 ps2 n2 cd2
          have e3 := lp_mono _ FU _ _ (by unfold FU; omega) e3
          refine ⟨g3, u3, dr3, ?_, w3, ps3, n3, by rw [se3, se2], keep_trans ku2 ku3, by rw [← List.append_assoc]; exact cd3, keepD_trans kd2 kd3', by rw [ap3, ap2, app_app]⟩
          show FX8_sum (FRRecM N) g 227 = _
          unfold FX8_sum JX8_sum_74
          rw [z8_O (mw_z wM), Option.bind_some, e2, Option.bind_some, e3]
          rfl
    · refine Or.inl ⟨(0, 0), ?_, ?_⟩
      · intro h S rr tx sp wC iv tk stp
        obtain ⟨h2, rr2, tx2, sp2, e2, c2, t2, st2, y2, z2⟩ := iC h S rr tx sp wC iv tk stp
        exact absurd t2.2.2.2.2.2 hs2
      · intro Y rY g u dr wM ps h14 cd
        obtain ⟨g2, u2, dr2, e2, w2, ps2, n2, se2, ku2, cd2, kd2, ap2⟩ := iM Y rY g u dr wM ps h14 cd
        exact absurd (pos_st ps2) hs2
end
/-- expressions, at each depth -/
theorem exprOK {X : XC} {f : Nat → Int} {n : Nat} (tX : TX X f n) : ∀ (k de N : Nat), de + k = 4 → 3 * k + 6 ≤ N → ∀ s ss t, st f n s → PRE n de s ss t 0 → EX X f n (fun h => FRRecS N 0 h 1 (de : Nat)) (fun g => FRRecM N 0 g 227) de s ss t (t + 1) := by
  intro k
  induction k with
  | zero =>
    intro de N hk hN s ss t hst p
    obtain ⟨K, rfl⟩ : ∃ K, N = K + 3 := ⟨N - 3, by omega⟩
    have fac : ∀ s ss t, st f n s → PRE n de s ss t 2 → EX X f n (fun h => FRRecS (K + 1) 2 h 1 (de : Nat)) (fun g => FRRecM (K + 1) 2 g 227) de s ss t (t + 1) := fun s ss t h1 h2 => facOK (N := K) tX h1 h2 (by omega) (fun z => by omega)
    have trm : ∀ s ss t, st f n s → PRE n de s ss t 1 → EX X f n (fun h => FRRecS (K + 2) 1 h 1 (de : Nat)) (fun g => FRRecM (K + 2) 1 g 227) de s ss t (t + 1) := fun s ss t h1 h2 => termOK (N := K + 1) tX h1 h2 fac
    exact sumOK (N := K + 2) tX hst p trm
  | succ k ih =>
    intro de N hk hN s ss t hst p
    obtain ⟨K, rfl⟩ : ∃ K, N = K + 3 := ⟨N - 3, by omega⟩
    have fac : ∀ s ss t, st f n s → PRE n de s ss t 2 → EX X f n (fun h => FRRecS (K + 1) 2 h 1 (de : Nat)) (fun g => FRRecM (K + 1) 2 g 227) de s ss t (t + 1) := fun s ss t h1 h2 => facOK (N := K) tX h1 h2 (by omega) (fun z s ss t h3 h4 => ih (de + 1) K (by omega) (by omega) s ss t h3 h4)
    have trm : ∀ s ss t, st f n s → PRE n de s ss t 1 → EX X f n (fun h => FRRecS (K + 2) 1 h 1 (de : Nat)) (fun g => FRRecM (K + 2) 1 g 227) de s ss t (t + 1) := fun s ss t h1 h2 => termOK (N := K + 1) tX h1 h2 fac
    exact sumOK (N := K + 2) tX hst p trm
