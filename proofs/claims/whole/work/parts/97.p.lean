set_option linter.unusedVariables false
set_option linter.unusedSimpArgs false
/-! ===== the setup, read ===== -/
theorem pair_new {S : MM} {dr : Int → Int} {x : Int} (p : PF S dr) : Pair (gh (up S 0 2 x) dr) dr := by
  obtain ⟨iv, r, rx, of, h3, h1⟩ := p
  have hk : ∀ k, k ≠ 0 → k ≠ 19 → gh (up S 0 2 x) dr k = S k := fun k a b => by rw [gh_ne b, up_ne a]
  have hg : ∀ k, k ≠ 0 → gh (up S 0 2 x) dr k = gh S dr k := fun k a => by
    by_cases b : k = 19
    · subst b; funext i; unfold gh; rw [if_pos rfl, if_pos rfl]
    · rw [hk k a b, gh_ne b]
  have h03 : gh (up S 0 2 x) dr 0 3 = S 0 3 := by rw [gh_ne (by decide)]; simp [up]
  have g03 : gh (up S 0 2 x) dr 0 3 = gh S dr 0 3 := by rw [h03, gh_ne (by decide)]
  refine ⟨?_, ?_, relX_congr (hk 1 (by decide) (by decide)) (hk 7 (by decide) (by decide)) (hk 8 (by decide) (by decide)) rx, ?_, ?_⟩
  · unfold IvM Ok OkT OkC OkP OkQ OkR OkS OkB OkH runOk at iv ⊢
    rw [hk 1 (by decide) (by decide), hk 2 (by decide) (by decide), hk 3 (by decide) (by decide), hk 4 (by decide) (by decide), hk 5 (by decide) (by decide), hk 6 (by decide) (by decide), hk 9 (by decide) (by decide), hk 11 (by decide) (by decide), hk 12 (by decide) (by decide), hk 13 (by decide) (by decide), hk 14 (by decide) (by decide), hk 15 (by decide) (by decide), hk 18 (by decide) (by decide)]
    exact iv
  · unfold Rel at r ⊢
    rw [g03, hg 1 (by decide), hg 2 (by decide), hg 3 (by decide), hg 4 (by decide), hg 5 (by decide), hg 6 (by decide), hg 9 (by decide), hg 11 (by decide), hg 12 (by decide), hg 13 (by decide), hg 14 (by decide), hg 15 (by decide), hg 16 (by decide), hg 17 (by decide), hg 18 (by decide), hg 19 (by decide)]
    exact r
  · unfold clkOk; rw [h03, h3]; omega
  · unfold OkF at of ⊢
    rw [hk 1 (by decide) (by decide), hk 9 (by decide) (by decide), hk 11 (by decide) (by decide), hk 13 (by decide) (by decide)]
    exact of
theorem min_900 {n : Nat} (h : n ≤ 900) : minI (n : Int) 900 = n := by
  unfold minI
  rw [w32_nat (by omega), show w32 900 = 900 from rfl, if_neg (by omega)]
section
variable {X : XC} {f : Nat → Int} {n : Nat}
/-- what the class does before the queue line -/
theorem headC {S : MM} (tX : TX X f n) {h : PH} {rr tx sp : Nat → Int} (w : CWd X h S rr tx sp) : ∃ h1 rr1 tx1 sp1, CWd X h1 S rr1 tx1 sp1 ∧ TOK f n tx1 (skS f n 0) ∧ STP rr1 sp1 [-1] ∧ rr1 5 = 0 ∧ tx1 1 = tx 1 ∧
    FX4_readSetup h 1 n 27 = (FX4_readQueue h1 1 27).bind fun q6 => if w32 q6.1 = 0 then some (0, q6.2) else (lp (fun st : Int × PH => LX4_readSetup_35 1 27 st.1 st.2) FU (0, q6.2)).bind fun ex11 => Sum.elim (fun ex11 => JX4_readSetup_69 h ex11) (fun ex11 => JX4_readSetup_77 h ex11 1 27) ex11 := by
  have hn := tX.1
  have w1 := cw_1 (x := upf rr 5 0) w
  have w2 := cw_1 (x := upf (upf rr 5 0) 4 0) w1
  obtain ⟨h3, sp3, e3, w3, k3⟩ := c_step (x := -1) w2 (ss := []) ⟨upf_eq, fun i hi => by simp at hi⟩ (by decide)
  have w4 := cw_2 (x := upf tx 2 n) w3
  have w5 := cw_2 (x := upf (upf tx 2 n) 5 0) w4
  obtain ⟨h6, tx6, e6, w6, t6, y6⟩ := c_adv w5 tX (b := 0) (by rw [upf_ne (by decide), upf_eq]) upf_eq (by omega)
  refine ⟨h6, _, tx6, sp3, w6, t6, k3, by rw [upf_ne (by decide), upf_ne (by decide), upf_eq], by rw [y6, upf_ne (by decide), upf_ne (by decide)], ?_⟩
  unfold FX4_readSetup FX5_startReading
  rw [z1_O (cw_e1 w), Option.bind_some, z1_w5 (cw_e1 w), Option.bind_some, z1_w4 (cw_e1 w1), Option.bind_some, e3, Option.bind_some, z1_r0 (cw_e1 w3), Option.bind_some, z2_O (cw_e2 w3), Option.bind_some, min_900 hn, z2_w2 (cw_e2 w3), Option.bind_some, z2_w5 (cw_e2 w4), Option.bind_some, e6, Option.bind_some, Option.bind_some]
theorem setupOK {S : MM} (tX : TX X f n) (iv : IvM S) :
    (∃ q, (∀ h rr tx sp, CWd X h S rr tx sp → ∃ h', FX4_readSetup h 1 n 27 = some (0, h') ∧ CF X h' (tx 1) q) ∧
      (∀ (Y : YM), RT Y f n → ∀ g u, MW Y g u d00 → POS f n u (skS f n 0) → u 14 = 0 → u 15 = 0 → ∃ g', RQ g = JX8_load_181 g' 227 ∧ MF Y g' u q)) ∨
    (∃ S' dr', Pair S' dr' ∧
      (∀ h rr tx sp, CWd X h S rr tx sp → ∃ h' rr' tx' sp', FX4_readSetup h 1 n 27 = some (1, h') ∧ WS h' X.1 S' X.2.1 X.2.2.1.1 X.2.2.1.2.1 X.2.2.1.2.2 rr' tx' X.2.2.2.1.1 sp' X.2.2.2.1.2.1 X.2.2.2.1.2.2 X.2.2.2.2.1.1 X.2.2.2.2.1.2.1 X.2.2.2.2.1.2.2 X.2.2.2.2.2.1 ∧ tx' 1 = tx 1) ∧
      (∀ (Y : YM), RT Y f n → ∀ g u, MW Y g u d00 → POS f n u (skS f n 0) → u 14 = 0 → u 15 = 0 → ∃ g' u', RQ g = JX8_load_181 g' 227 ∧ MW Y g' u' dr' ∧ u' 5 = 0 ∧ keepU u u')) := by
  have hn := tX.1
  have hst : st f n (skS f n 0) := sk_st (by omega)
  rcases queueOK tX iv hst (ss := [-1]) (by decide) with ⟨q, qC, qM⟩ | ⟨s', c, k, x, hc, hk, hx, hs', st', qC, qM⟩
  · refine Or.inl ⟨q, ?_, ?_⟩
    · intro h rr tx sp w
      obtain ⟨h1, rr1, tx1, sp1, w1, t1, k1, z1, y1, E⟩ := headC tX w
      obtain ⟨h2, a1, a2⟩ := qC h1 rr1 tx1 sp1 w1 t1 k1
      refine ⟨h2, ?_, by rw [← y1]; exact a2⟩
      rw [E, a1, Option.bind_some, if_pos (show w32 0 = 0 by decide)]
    · intro Y rY g u wM ps h14 h15
      obtain ⟨g1, a1, a2⟩ := qM Y rY g u wM ps
      have L : lp (fun st : PH => LX8_load_159 227 st) FU g1 = some g1 := by
        rw [show FU = 4999 + 1 from rfl, lp]
        unfold LX8_load_159
        rw [mf_bad a2, Option.bind_some, if_pos (show w32 0 = 0 by decide)]
      refine ⟨g1, ?_, a2⟩
      rw [a1]
      unfold LQ
      rw [L, Option.bind_some]
  · have pf := pf_queue (S := S) iv hc hk hx
    rcases loopOK tX (n - s') s' (squ S c k x) (dqu (c : Nat) k x) 0 [-1] 0 (Nat.le_refl _) st' pf exs_queue (by omega) with ⟨q, lC, lM⟩ | ⟨S1, dr1, ls1, ss1, pf1, ex1, lC, lM⟩
    · refine Or.inl ⟨q, ?_, ?_⟩
      · intro h rr tx sp w
        obtain ⟨h1, rr1, tx1, sp1, w1, t1, k1, z1, y1, E⟩ := headC tX w
        obtain ⟨h2, tx2, a1, w2, t2, y2⟩ := qC h1 rr1 tx1 sp1 w1 t1 k1
        obtain ⟨h3, b1, b2⟩ := lC h2 rr1 tx2 sp1 w2 t2 k1 z1
        refine ⟨h3, ?_, by rw [← y1, ← y2]; exact b2⟩
        rw [E, a1, Option.bind_some, if_neg (show ¬ w32 1 = 0 by decide)]
        dsimp only
        rw [show ((0 : Nat) : Int) = 0 from rfl] at b1
        rw [lp_mono _ FU _ _ (by unfold FU; omega) b1, Option.bind_some]
        rfl
      · intro Y rY g u wM ps h14 h15
        obtain ⟨g1, u1, a1, w1, ps1, i14, i15, ku⟩ := qM Y rY g u wM ps
        obtain ⟨g2, b1, b2⟩ := lM Y rY g1 u1 w1 ps1 (by rw [i14, h14]) (by rw [i15, h15])
        refine ⟨g2, ?_, MF_keep ku b2⟩
        rw [a1]
        unfold LQ
        rw [lp_mono _ FU _ _ (by unfold FU; omega) b1, Option.bind_some]
    · refine Or.inr ⟨gh (up S1 0 2 (X.2.2.2.2.2.2 : Nat)) dr1, dr1, pair_new pf1, ?_, ?_⟩
      · intro h rr tx sp w
        obtain ⟨h1, rr1, tx1, sp1, w1, t1, k1, z1, y1, E⟩ := headC tX w
        obtain ⟨h2, tx2, a1, w2, t2, y2⟩ := qC h1 rr1 tx1 sp1 w1 t1 k1
        obtain ⟨h3, rr3, tx3, sp3, b1, w3, k3, y3⟩ := lC h2 rr1 tx2 sp1 w2 t2 k1 z1
        obtain ⟨h4, c1, w4⟩ := newOK (h0 := h) w3.1 (by rw [w3.2, w.2]; exact Nat.le_refl _) k3 ex1
        rw [w3.2] at w4
        refine ⟨h4, rr3, tx3, sp3, ?_, w4, by rw [y3, y2, y1]⟩
        rw [E, a1, Option.bind_some, if_neg (show ¬ w32 1 = 0 by decide)]
        dsimp only
        rw [show ((0 : Nat) : Int) = 0 from rfl] at b1
        rw [lp_mono _ FU _ _ (by unfold FU; omega) b1, Option.bind_some]
        exact c1
      · intro Y rY g u wM ps h14 h15
        obtain ⟨g1, u1, a1, w1, ps1, i14, i15, ku⟩ := qM Y rY g u wM ps
        obtain ⟨g2, u2, b1, w2, v5, kv⟩ := lM Y rY g1 u1 w1 ps1 (by rw [i14, h14]) (by rw [i15, h15])
        refine ⟨g2, u2, ?_, w2, v5, keep_trans ku kv⟩
        rw [a1]
        unfold LQ
        rw [lp_mono _ FU _ _ (by unfold FU; omega) b1, Option.bind_some]
end
