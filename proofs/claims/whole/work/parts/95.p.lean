set_option linter.unusedVariables false
set_option linter.unusedSimpArgs false
/-! ===== the queue line, both sides ===== -/
def LQ (g : PH) : Option (Int × PH) := (lp (fun st : PH => LX8_load_159 227 st) FU g).bind fun ex31 => JX8_load_181 ex31 227
def RQ (g : PH) : Option (Int × PH) := (FX8_takeWord g 227 0).bind fun q17 => if w32 q17.1 = 0 then ((gfi q17.2 8 227 4).bind fun x42 => (FX8_report q17.2 227 (-2) x42).bind fun h43 => JX8_load_115 h43 227) else JX8_load_115 q17.2 227
def J4 (x24 : Nat) (q25 : Int × PH) : Option (Int × PH) := (ast 0 q25.2 x24 2 q25.1).bind fun h26 => (FX8_expect h26 227 59).bind fun h27 => LQ h27
def J3 (x21 : Nat) (q22 : Int × PH) : Option (Int × PH) := (ast 0 q22.2 x21 1 q22.1).bind fun h23 => (gfr h23 8 227 9).bind fun x24 => (FX8_number h23 227 0 20).bind fun q25 => J4 x24 q25
def J2 (x18 : Nat) (q19 : Int × PH) : Option (Int × PH) := (ast 0 q19.2 x18 0 q19.1).bind fun h20 => (gfr h20 8 227 9).bind fun x21 => (FX8_number h20 227 1 8).bind fun q22 => J3 x21 q22
theorem J1_eq {g : PH} : JX8_load_115 g 227 = (gfr g 8 227 9).bind fun x18 => (FX8_number g 227 1 4).bind fun q19 => J2 x18 q19 := rfl
section
variable {X : XC} {Y : YM} {f : Nat → Int} {n : Nat}
theorem mf_ast {g : PH} {u : Nat → Int} {q : Int × Nat} {i v : Int} (m : MF Y g u q) (h0 : 0 ≤ i) (h1 : i < 1824) : ∃ g', ast 0 g 230 i v = some g' ∧ MF Y g' u q ∧ gfr g' 8 227 9 = some 230 := by
  obtain ⟨v', d, w, m1, m2, m3, m4⟩ := m
  have w1 := mw_d (x := ud d i v) w
  exact ⟨_, zd_s (mw_dr w) h0 h1, ⟨v', _, w1, m1, m2, m3, m4⟩, z8_r9 (mw_z w1)⟩
theorem bad4 {g : PH} {u : Nat → Int} {q : Int × Nat} {v : Int} (m : MF Y g u q) : ∃ g', J4 230 (v, g) = LQ g' ∧ MF Y g' u q := by
  obtain ⟨g1, e1, m1, -⟩ := mf_ast (i := 2) (v := v) m (by omega) (by omega)
  refine ⟨g1, ?_, m1⟩
  unfold J4
  rw [e1, Option.bind_some, mf_expect m1, Option.bind_some]
theorem bad3 {g : PH} {u : Nat → Int} {q : Int × Nat} {v : Int} (m : MF Y g u q) : ∃ g', J3 230 (v, g) = LQ g' ∧ MF Y g' u q := by
  obtain ⟨g1, e1, m1, e2⟩ := mf_ast (i := 1) (v := v) m (by omega) (by omega)
  obtain ⟨g2, e3, m2⟩ := bad4 (v := 0) m1
  refine ⟨g2, ?_, m2⟩
  unfold J3
  rw [e1, Option.bind_some, e2, Option.bind_some, mf_num m1, Option.bind_some, e3]
theorem bad2 {g : PH} {u : Nat → Int} {q : Int × Nat} {v : Int} (m : MF Y g u q) : ∃ g', J2 230 (v, g) = LQ g' ∧ MF Y g' u q := by
  obtain ⟨g1, e1, m1, e2⟩ := mf_ast (i := 0) (v := v) m (by omega) (by omega)
  obtain ⟨g2, e3, m2⟩ := bad3 (v := 0) m1
  refine ⟨g2, ?_, m2⟩
  unfold J2
  rw [e1, Option.bind_some, e2, Option.bind_some, mf_num m1, Option.bind_some, e3]
theorem bad1 {g : PH} {u : Nat → Int} {q : Int × Nat} (m : MF Y g u q) : ∃ g', JX8_load_115 g 227 = LQ g' ∧ MF Y g' u q := by
  obtain ⟨g2, e3, m2⟩ := bad2 (v := 0) m
  obtain ⟨v', d, w, m1, -⟩ := id m
  refine ⟨g2, ?_, m2⟩
  rw [J1_eq, z8_r9 (mw_z w), Option.bind_some, mf_num m, Option.bind_some, e3]
theorem queueOK {S : MM} {s : Nat} {ss : List Int} (tX : TX X f n) (iv : IvM S) (hst : st f n s) (hl : ss.length ≤ 900) :
    (∃ q, (∀ h rr tx sp, CWd X h S rr tx sp → TOK f n tx s → STP rr sp ss → ∃ h', FX4_readQueue h 1 27 = some (0, h') ∧ CF X h' (tx 1) q) ∧ (∀ (Y : YM), RT Y f n → ∀ g u, MW Y g u d00 → POS f n u s → ∃ g', RQ g = LQ g' ∧ MF Y g' u q)) ∨
    (∃ s' c k x, (1 ≤ c ∧ c ≤ 4) ∧ (1 ≤ k ∧ k ≤ 8) ∧ (0 ≤ x ∧ x ≤ 20) ∧ s + 5 ≤ s' ∧ st f n s' ∧
      (∀ h rr tx sp, CWd X h S rr tx sp → TOK f n tx s → STP rr sp ss → ∃ h' tx', FX4_readQueue h 1 27 = some (1, h') ∧ CWd X h' (squ S c k x) rr tx' sp ∧ TOK f n tx' s' ∧ tx' 1 = tx 1) ∧
      (∀ (Y : YM), RT Y f n → ∀ g u, MW Y g u d00 → POS f n u s → ∃ g' u', RQ g = LQ g' ∧ MW Y g' u' (dqu (c : Nat) k x) ∧ POS f n u' s' ∧ u' 14 = u 14 ∧ u' 15 = u 15 ∧ keepU u u')) := by
  have hs := hst.1
  have hn := tX.1
  have h9 : ∀ rr sp : Nat → Int, STP rr sp ss → 0 ≤ rr 4 ∧ rr 4 ≤ 900 := fun rr sp k => stp_len k hl
  by_cases wq : wd f n s 0 = true
  · have hsn : s < n := kd_pos (f := f) (by rw [wd_kd wq]; decide)
    have hen : en f n s = s + 5 := by
      have := wq
      unfold wd at this
      rw [Bool.and_eq_true, decide_eq_true_iff] at this
      rw [this.1.2]
      rfl
    have hnx5 : s + 5 ≤ nx f n s := by
      have : en f n s ≤ nx f n s := rE_ge
      omega
    have headC : ∀ h rr tx sp, CWd X h S rr tx sp → TOK f n tx s → ∃ h1 tx1, CWd X h1 S rr tx1 sp ∧ TOK f n tx1 (nx f n s) ∧ tx1 1 = tx 1 ∧ FX4_readQueue h 1 27 = (FX4_takeNumber h1 1 1 4).bind fun q5 => if w32 q5.1 < 0 then JX4_readQueue_48 q5.2 1 27 q5.1 (-1) else (FX4_takeNumber q5.2 1 1 8).bind fun q6 => JX4_readQueue_48 q6.2 1 27 q5.1 q6.1 := by
      intro h rr tx sp wC tk
      obtain ⟨h1, tx1, e1, c1, t1, y1⟩ := c_adv wC tX tk.1 tk.2.2.2.1 (en_le hs)
      refine ⟨h1, tx1, c1, t1, y1, ?_⟩
      unfold FX4_readQueue
      rw [z1_O (cw_e1 wC), Option.bind_some, z1_r0 (cw_e1 wC), Option.bind_some, c_word wC tX tk (by omega), Option.bind_some, wq, if_pos rfl, if_neg (show ¬ w32 1 = 0 by decide), Option.bind_some, e1, Option.bind_some]
    have headM : ∀ (Y : YM), RT Y f n → ∀ g u, MW Y g u d00 → POS f n u s → ∃ g1, MW Y g1 (upf u 4 (en f n s : Nat)) d00 ∧ POS f n (upf u 4 (en f n s : Nat)) (nx f n s) ∧ RQ g = (FX8_number g1 227 1 4).bind fun q19 => J2 230 q19 := by
      intro Y rY g u wM ps
      rcases m_word wM rY ps (v := 0) (by omega) with ⟨a0, -⟩ | ⟨-, g1, a1, a2⟩
      · rw [wq] at a0; cases a0
      · refine ⟨g1, a2, pos_at ps.1 ps.2.1 (en_le hs) rfl, ?_⟩
        unfold RQ
        rw [a1, Option.bind_some, if_neg (show ¬ w32 1 = 0 by decide), J1_eq]
        dsimp only
        rw [z8_r9 (mw_z a2), Option.bind_some]
    cases e1 : sNum f n 1 4 (nx f n s) with
    | inl q =>
      refine Or.inl ⟨q, ?_, ?_⟩
      · intro h rr tx sp wC tk stp
        obtain ⟨h1, tx1, c1, t1, y1, hd⟩ := headC h rr tx sp wC tk
        obtain ⟨h2, a1, a2⟩ := c_numF c1 tX iv (h9 rr sp stp) t1 (by omega) (by omega) e1
        refine ⟨h2, ?_, by rw [← y1]; exact a2⟩
        rw [hd, a1, Option.bind_some, if_pos (show w32 (-1) < 0 by decide)]
        unfold JX4_readQueue_48 JX4_readQueue_64 JX4_readQueue_80
        rw [if_pos (show w32 (-1) < 0 by decide), if_pos (show w32 (-1) < 0 by decide)]
      · intro Y rY g u wM ps
        obtain ⟨g1, w1, ps1, hd⟩ := headM Y rY g u wM ps
        obtain ⟨v, g2, a1, m1⟩ := m_numF w1 rY ps1 (by omega) (by omega) e1
        obtain ⟨g3, a3, m3⟩ := bad2 (v := v) m1
        refine ⟨g3, ?_, MF_keep (keep_up (by omega)) m3⟩
        rw [hd, a1, Option.bind_some, a3]
    | inr p1 =>
      obtain ⟨x1, s2⟩ := p1
      obtain ⟨i1, i2, i3, i4, i5, -, -, -⟩ := sNum_S (nx_st hs).1 e1
      obtain ⟨c, hc⟩ := Int.eq_ofNat_of_zero_le (show 0 ≤ x1 by omega)
      cases e2 : sNum f n 1 8 s2 with
      | inl q =>
        refine Or.inl ⟨q, ?_, ?_⟩
        · intro h rr tx sp wC tk stp
          obtain ⟨h1, tx1, c1, t1, y1, hd⟩ := headC h rr tx sp wC tk
          obtain ⟨h2, tx2, a1, c2, t2, y2⟩ := c_numS c1 tX iv (h9 rr sp stp) t1 (by omega) (by omega) e1
          obtain ⟨h3, b1, b2⟩ := c_numF c2 tX iv (h9 rr sp stp) t2 (by omega) (by omega) e2
          refine ⟨h3, ?_, by rw [← y1, ← y2]; exact b2⟩
          rw [hd, a1, Option.bind_some, w32_eq (x := x1) (by omega) (by omega), if_neg (by omega), b1, Option.bind_some]
          unfold JX4_readQueue_48 JX4_readQueue_64 JX4_readQueue_80
          rw [if_pos (show w32 (-1) < 0 by decide), if_pos (show w32 (-1) < 0 by decide)]
        · intro Y rY g u wM ps
          obtain ⟨g1, w1, ps1, hd⟩ := headM Y rY g u wM ps
          obtain ⟨g2, u2, a1, w2, ps2, ku2, n2, se2, -⟩ := m_numS w1 rY ps1 (by omega) (by omega) e1
          have w3 := mw_d (x := ud d00 0 x1) w2
          obtain ⟨v, g4, a4, m4⟩ := m_numF w3 rY ps2 (by omega) (by omega) e2
          obtain ⟨g5, a5, m5⟩ := bad3 (v := v) m4
          refine ⟨g5, ?_, MF_keep (keep_trans (keep_up (by omega)) ku2) m5⟩
          rw [hd, a1, Option.bind_some]
          unfold J2
          dsimp only
          rw [zd_s (mw_dr w2) (by omega) (by omega), Option.bind_some, z8_r9 (mw_z w3), Option.bind_some, a4, Option.bind_some, a5]
      | inr p2 =>
        obtain ⟨k, s3⟩ := p2
        obtain ⟨j1, j2, j3, j4, j5, -, -, -⟩ := sNum_S i3.1 e2
        cases e3 : sNum f n 0 20 s3 with
        | inl q =>
          refine Or.inl ⟨q, ?_, ?_⟩
          · intro h rr tx sp wC tk stp
            obtain ⟨h1, tx1, c1, t1, y1, hd⟩ := headC h rr tx sp wC tk
            obtain ⟨h2, tx2, a1, c2, t2, y2⟩ := c_numS c1 tX iv (h9 rr sp stp) t1 (by omega) (by omega) e1
            obtain ⟨h3, tx3, b1, c3, t3, y3⟩ := c_numS c2 tX iv (h9 rr sp stp) t2 (by omega) (by omega) e2
            obtain ⟨h4, b2, b3⟩ := c_numF c3 tX iv (h9 rr sp stp) t3 (by omega) (by omega) e3
            refine ⟨h4, ?_, by rw [← y1, ← y2, ← y3]; exact b3⟩
            rw [hd, a1, Option.bind_some, w32_eq (x := x1) (by omega) (by omega), if_neg (by omega), b1, Option.bind_some]
            unfold JX4_readQueue_48 JX4_readQueue_64 JX4_readQueue_80
            rw [w32_eq (x := k) (by omega) (by omega), if_neg (by omega), b2, Option.bind_some, if_pos (show w32 (-1) < 0 by decide)]
          · intro Y rY g u wM ps
            obtain ⟨g1, w1, ps1, hd⟩ := headM Y rY g u wM ps
            obtain ⟨g2, u2, a1, w2, ps2, ku2, n2, se2, -⟩ := m_numS w1 rY ps1 (by omega) (by omega) e1
            have w3 := mw_d (x := ud d00 0 x1) w2
            obtain ⟨g4, u4, a4, w4, ps4, ku4, n4, se4, -⟩ := m_numS w3 rY ps2 (by omega) (by omega) e2
            have w5 := mw_d (x := ud (ud d00 0 x1) 1 k) w4
            obtain ⟨v, g6, a6, m6⟩ := m_numF w5 rY ps4 (by omega) (by omega) e3
            obtain ⟨g7, a7, m7⟩ := bad4 (v := v) m6
            refine ⟨g7, ?_, MF_keep (keep_trans (keep_trans (keep_up (by omega)) ku2) ku4) m7⟩
            rw [hd, a1, Option.bind_some]
            unfold J2 J3
            dsimp only
            rw [zd_s (mw_dr w2) (by omega) (by omega), Option.bind_some, z8_r9 (mw_z w3), Option.bind_some, a4, Option.bind_some]
            dsimp only
            rw [zd_s (mw_dr w4) (by omega) (by omega), Option.bind_some, z8_r9 (mw_z w5), Option.bind_some, a6, Option.bind_some, a7]
        | inr p3 =>
          obtain ⟨x, s4⟩ := p3
          obtain ⟨l1, l2, l3, l4, l5, -, -, -⟩ := sNum_S j3.1 e3
          have toC : ∀ h rr tx sp, CWd X h S rr tx sp → TOK f n tx s → STP rr sp ss → ∃ h4 tx4, CWd X h4 S rr tx4 sp ∧ TOK f n tx4 s4 ∧ tx4 1 = tx 1 ∧ FX4_readQueue h 1 27 = JX4_readQueue_64 h4 1 27 (c : Nat) k x := by
            intro h rr tx sp wC tk stp
            obtain ⟨h1, tx1, c1, t1, y1, hd⟩ := headC h rr tx sp wC tk
            obtain ⟨h2, tx2, a1, c2, t2, y2⟩ := c_numS c1 tX iv (h9 rr sp stp) t1 (by omega) (by omega) e1
            obtain ⟨h3, tx3, b1, c3, t3, y3⟩ := c_numS c2 tX iv (h9 rr sp stp) t2 (by omega) (by omega) e2
            obtain ⟨h4, tx4, b2, c4, t4, y4⟩ := c_numS c3 tX iv (h9 rr sp stp) t3 (by omega) (by omega) e3
            refine ⟨h4, tx4, c4, t4, by rw [y4, y3, y2, y1], ?_⟩
            rw [hd, a1, Option.bind_some, w32_eq (x := x1) (by omega) (by omega), if_neg (by omega), b1, Option.bind_some]
            unfold JX4_readQueue_48
            rw [w32_eq (x := k) (by omega) (by omega), if_neg (by omega), b2, Option.bind_some, hc]
          have toM : ∀ (Y : YM), RT Y f n → ∀ g u, MW Y g u d00 → POS f n u s → ∃ g6 u6, MW Y g6 u6 (dqu (c : Nat) k x) ∧ POS f n u6 s4 ∧ keepU u u6 ∧ u6 14 = u 14 ∧ u6 15 = u 15 ∧ RQ g = (FX8_expect g6 227 59).bind fun h27 => LQ h27 := by
            intro Y rY g u wM ps
            obtain ⟨g1, w1, ps1, hd⟩ := headM Y rY g u wM ps
            obtain ⟨g2, u2, a1, w2, ps2, ku2, n2, se2, -⟩ := m_numS w1 rY ps1 (by omega) (by omega) e1
            have w3 := mw_d (x := ud d00 0 x1) w2
            obtain ⟨g4, u4, a4, w4, ps4, ku4, n4, se4, -⟩ := m_numS w3 rY ps2 (by omega) (by omega) e2
            have w5 := mw_d (x := ud (ud d00 0 x1) 1 k) w4
            obtain ⟨g6, u6, a6, w6, ps6, ku6, n6, se6, -⟩ := m_numS w5 rY ps4 (by omega) (by omega) e3
            have w7 := mw_d (x := ud (ud (ud d00 0 x1) 1 k) 2 x) w6
            refine ⟨_, u6, by rw [← hc]; exact w7, ps6, keep_trans (keep_trans (keep_trans (keep_up (by omega)) ku2) ku4) ku6, by rw [n6, n4, n2, upf_ne (by decide)], by rw [se6, se4, se2, upf_ne (by decide)], ?_⟩
            rw [hd, a1, Option.bind_some]
            unfold J2 J3 J4
            dsimp only
            rw [zd_s (mw_dr w2) (by omega) (by omega), Option.bind_some, z8_r9 (mw_z w3), Option.bind_some, a4, Option.bind_some]
            dsimp only
            rw [zd_s (mw_dr w4) (by omega) (by omega), Option.bind_some, z8_r9 (mw_z w5), Option.bind_some, a6, Option.bind_some]
            dsimp only
            rw [zd_s (mw_dr w6) (by omega) (by omega), Option.bind_some]
          by_cases cm : kd f n s4 = 3 ∧ f s4 = 59
          · have hs4 : s4 < n := kd_pos (f := f) (by rw [cm.1]; decide)
            have hgt4 := nx_gt (f := f) hs4
            refine Or.inr ⟨nx f n s4, c, k, x, by omega, by omega, by omega, by omega, nx_st l3.1, ?_, ?_⟩
            · intro h rr tx sp wC tk stp
              obtain ⟨h4, tx4, c4, t4, y4, e4⟩ := toC h rr tx sp wC tk stp
              rcases c_tmark c4 tX iv (h9 rr sp stp) t4 (m := 59) (by omega) with ⟨b0, -⟩ | ⟨-, h5, tx5, b1, c5, t5, y5⟩
              · exact absurd cm b0
              · have f0 := cw_f27 c5
                have c6 := cw_S (N := up S 1 0 0) c5 (FM_congr (by rw [up_ne (by decide)]) (up_ne (by decide)) f0)
                have c7 := cw_S (N := up (up S 1 0 0) 1 1 0) c6 (FM_congr (by rw [up_ne (by decide)]) (up_ne (by decide)) (cw_f27 c6))
                have N1 : (up (up S 1 0 0) 1 1 0) 1 0 = 0 := by rw [up_ni (by decide), up_eq]
                have N2 : (up (up S 1 0 0) 1 1 0) 1 1 = 0 := up_eq
                have okT : OkT (up (up S 1 0 0) 1 1 0) := ⟨by rw [N1]; omega, by rw [N2]; omega, by rw [up_ne (by decide), up_ne (by decide)]; exact iv.1.1.2.2.1, fun f hf hf2 => by rw [N2] at hf2; omega⟩
                have c8 := cw_S (N := saM (up (up S 1 0 0) 1 1 0) c) c7 (FM_congr (by rw [sa_0, if_neg (by decide)]) (sa_r (by decide) (by decide) (by decide) (by decide) (by omega)) (cw_f27 c7))
                have c9 := cw_S (N := up (saM (up (up S 1 0 0) 1 1 0) c) 11 1 k) c8 (FM_congr (by rw [up_ne (by decide)]) (up_ne (by decide)) (cw_f27 c8))
                have c10 := cw_S (N := squ S c k x) c9 (FM_congr (by unfold squ; rw [up_ne (by decide)]) (by unfold squ; rw [up_ne (by decide)]) (cw_f27 c9))
                refine ⟨_, tx5, ?_, c10, t5, by rw [y5, y4]⟩
                rw [e4]
                unfold JX4_readQueue_64
                rw [w32_eq (x := x) (by omega) (by omega), if_neg (by omega), b1, Option.bind_some, if_neg (show ¬ w32 1 = 0 by decide)]
                dsimp only
                rw [b27_gfr0_0 (cw_a27 c5), Option.bind_some, b27_w1_0 (cw_a27 c5), Option.bind_some, b27_gfr0_0 (cw_a27 c6), Option.bind_some, b27_w1_1 (cw_a27 c6), Option.bind_some, b27_sa (cw_a27 c7) okT (by omega), Option.bind_some, b27_gfr0_1 (cw_a27 c8), Option.bind_some, b27_w11_1 (cw_a27 c8), Option.bind_some, b27_gfr0_1 (cw_a27 c9), Option.bind_some, b27_w11_2 (cw_a27 c9), Option.bind_some]
                rfl
            · intro Y rY g u wM ps
              obtain ⟨g6, u6, w6, ps6, ku6, n6, se6, e6⟩ := toM Y rY g u wM ps
              rcases m_expect w6 rY ps6 (c := 59) (by omega) with ⟨b0, -⟩ | ⟨-, g7, u7, b1, b2, b3, b4, b5, b6⟩
              · exact absurd cm b0
              · exact ⟨g7, u7, by rw [e6, b1, Option.bind_some], b2, b3, by rw [b5, n6], by rw [b6, se6], keep_trans ku6 b4⟩
          · refine Or.inl ⟨(-2, s4), ?_, ?_⟩
            · intro h rr tx sp wC tk stp
              obtain ⟨h4, tx4, c4, t4, y4, e4⟩ := toC h rr tx sp wC tk stp
              rcases c_tmark c4 tX iv (h9 rr sp stp) t4 (m := 59) (by omega) with ⟨-, h5, b1, b2⟩ | ⟨b0, -⟩
              · refine ⟨h5, ?_, by rw [← y4]; exact b2⟩
                rw [e4]
                unfold JX4_readQueue_64 JX4_readQueue_80
                rw [w32_eq (x := x) (by omega) (by omega), if_neg (by omega), b1, Option.bind_some, if_pos (show w32 0 = 0 by decide)]
              · exact absurd b0 cm
            · intro Y rY g u wM ps
              obtain ⟨g6, u6, w6, ps6, ku6, n6, se6, e6⟩ := toM Y rY g u wM ps
              rcases m_expect w6 rY ps6 (c := 59) (by omega) with ⟨-, g7, b1, b2⟩ | ⟨b0, -⟩
              · exact ⟨g7, by rw [e6, b1, Option.bind_some], MF_keep ku6 b2⟩
              · exact absurd b0 cm
  · have wf := Bool.eq_false_iff.mpr wq
    refine Or.inl ⟨(-2, s), ?_, ?_⟩
    · intro h rr tx sp wC tk stp
      obtain ⟨h1, a1, f1⟩ := c_failF (c := -2) wC iv (h9 rr sp stp) tk.2.2.1
      refine ⟨h1, ?_, f1⟩
      unfold FX4_readQueue
      rw [z1_O (cw_e1 wC), Option.bind_some, z1_r0 (cw_e1 wC), Option.bind_some, c_word wC tX tk (by omega), Option.bind_some, wf, if_neg Bool.false_ne_true, if_pos (show w32 0 = 0 by decide), a1, Option.bind_some, if_pos (Or.inl rfl)]
    · intro Y rY g u wM ps
      rcases m_word wM rY ps (v := 0) (by omega) with ⟨-, g1, a1, a2⟩ | ⟨a0, -⟩
      · obtain ⟨g2, a3, m2, -⟩ := m_report a2 (by rw [upf_ne (by decide)]; exact ps.2.1) (c := -2) (p := s) (by omega)
        obtain ⟨g3, a4, m3⟩ := bad1 m2
        refine ⟨g3, ?_, MF_keep (keep_up (by omega)) m3⟩
        unfold RQ
        rw [a1, Option.bind_some, if_pos (show w32 0 = 0 by decide)]
        dsimp only
        rw [z8_i4 (mw_z a2), Option.bind_some, upf_eq, a3, Option.bind_some, a4]
      · exact absurd a0 wq
end
