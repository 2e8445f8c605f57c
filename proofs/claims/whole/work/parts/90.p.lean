set_option linter.unusedVariables false
set_option linter.unusedSimpArgs false
/-! ===== predecessors ===== -/
section
variable {X : XC} {Y : YM} {f : Nat → Int} {n : Nat}
theorem sNum_S {lo hi v : Int} {s s' : Nat} (hs : s ≤ n) (e : sNum f n lo hi s = .inr (v, s')) : s < n ∧ s < s' ∧ st f n s' ∧ lo ≤ v ∧ v ≤ hi ∧ v = tvl f n s ∧ s' = nx f n s ∧ kd f n s = 1 := by
  unfold sNum at e
  split at e
  · rename_i hk
    split at e
    · cases e
    · rename_i c
      cases e
      have hsn : s < n := kd_pos (f := f) (by rw [hk]; decide)
      exact ⟨hsn, nx_gt hsn, nx_st hs, by omega, by omega, rfl, rfl, hk⟩
  · cases e
theorem c_numF {h : PH} {S : MM} {rr tx sp : Nat → Int} {s : Nat} {lo hi : Int} {q : Int × Nat} (w : CWd X h S rr tx sp) (t : TX X f n) (iv : IvM S) (h9 : 0 ≤ rr 4 ∧ rr 4 ≤ 900) (k : TOK f n tx s) (hl : -1000 ≤ lo ∧ lo ≤ 1000) (hh : -1000 ≤ hi ∧ hi ≤ 9999) (e : sNum f n lo hi s = .inl q) : ∃ h', FX4_takeNumber h 1 lo hi = some (-1, h') ∧ CF X h' (tx 1) q := by
  rcases c_num w t iv h9 k (lo := lo) (hi := hi) (by omega) (by omega) with ⟨q', h', a1, a2, a3⟩ | ⟨h', tx', a1, -⟩
  · rw [e] at a1; cases a1; exact ⟨h', a2, a3⟩
  · rw [e] at a1; cases a1
theorem c_numS {h : PH} {S : MM} {rr tx sp : Nat → Int} {s s' : Nat} {lo hi v : Int} (w : CWd X h S rr tx sp) (t : TX X f n) (iv : IvM S) (h9 : 0 ≤ rr 4 ∧ rr 4 ≤ 900) (k : TOK f n tx s) (hl : -1000 ≤ lo ∧ lo ≤ 1000) (hh : -1000 ≤ hi ∧ hi ≤ 9999) (e : sNum f n lo hi s = .inr (v, s')) : ∃ h' tx', FX4_takeNumber h 1 lo hi = some (v, h') ∧ CWd X h' S rr tx' sp ∧ TOK f n tx' s' ∧ tx' 1 = tx 1 := by
  rcases c_num w t iv h9 k (lo := lo) (hi := hi) (by omega) (by omega) with ⟨q', h', a1, a2, a3⟩ | ⟨h', tx', a1, a2, a3, a4, a5, -⟩
  · rw [e] at a1; cases a1
  · rw [e] at a1; cases a1; exact ⟨h', tx', a2, a3, a4, a5⟩
theorem m_numF {g : PH} {u : Nat → Int} {dr : Int → Int} {s : Nat} {lo hi : Int} {q : Int × Nat} (w : MW Y g u dr) (r : RT Y f n) (k : POS f n u s) (hl : 0 ≤ lo ∧ lo ≤ 1000) (hh : -1 ≤ hi ∧ hi ≤ 9999) (e : sNum f n lo hi s = .inl q) : ∃ v g', FX8_number g 227 lo hi = some (v, g') ∧ MF Y g' u q := by
  rcases m_num w r k hl hh with ⟨q', v, g', a1, a2, a3⟩ | ⟨g', u', a1, -⟩
  · rw [e] at a1; cases a1; exact ⟨v, g', a2, a3⟩
  · rw [e] at a1; cases a1
theorem m_numS {g : PH} {u : Nat → Int} {dr : Int → Int} {s s' : Nat} {lo hi v : Int} (w : MW Y g u dr) (r : RT Y f n) (k : POS f n u s) (hl : 0 ≤ lo ∧ lo ≤ 1000) (hh : -1 ≤ hi ∧ hi ≤ 9999) (e : sNum f n lo hi s = .inr (v, s')) : ∃ g' u', FX8_number g 227 lo hi = some (v, g') ∧ MW Y g' u' dr ∧ POS f n u' s' ∧ keepU u u' ∧ u' 14 = u 14 ∧ u' 15 = u 15 ∧ u' 13 = s := by
  rcases m_num w r k hl hh with ⟨q', v, g', a1, a2, a3⟩ | ⟨g', u', a1, a2, a3, a4, a5, a6, a7, a8, -⟩
  · rw [e] at a1; cases a1
  · rw [e] at a1; cases a1; exact ⟨g', u', a2, a3, a4, a5, a6, a7, a8⟩
end
theorem tb_ge {x : Int} {i : Nat} (h : 32 ≤ i) : tb x i = false := by unfold tb; exact BitVec.getLsbD_of_ge _ _ h
theorem cnt_bits {b : Int} {T : Nat} (hT : T ≤ 32) (hb : ∀ q, T ≤ q → q < 32 → tb b q = false) : cnt (tb b) 32 ≤ T := by
  rw [show 32 = T + (32 - T) by omega, cnt_add]
  rw [show cnt (fun i => tb b (T + i)) (32 - T) = 0 from cnt_zero.mpr (fun i hi => hb (T + i) (by omega) (by omega)), Nat.add_zero]
  exact cnt_le _
theorem cnt_or {b : Int} {v : Nat} (hv : v < 32) (hb : tb b v = false) : cnt (tb (orI b (shlI 1 (v : Int)))) 32 = cnt (tb b) 32 + 1 := by
  have hf : tb (orI b (shlI 1 (v : Int))) v = true := by rw [tb_or, tb_bit hv hv]; simp
  have := (cnt_drop (f := tb (orI b (shlI 1 (v : Int)))) (g := tb b) (j := v) hf (fun i => by
    rw [tb_or]
    by_cases hi : i < 32
    · rw [tb_bit hv hi]
      by_cases e : i = v
      · subst e; simp [hb]
      · simp [e]
    · rw [tb_ge (x := b) (by omega), tb_ge (x := shlI 1 (v : Int)) (by omega)]; simp) (n := 32)).1 hv
  omega
theorem bits_nn {b : Int} (hb : tb b 31 = false) : 0 ≤ w32 b := by
  rw [w32_bv]
  have h1 : (bv b).msb = false := by rw [BitVec.msb_eq_getLsbD_last]; exact hb
  rw [BitVec.toInt_eq_toNat_of_msb h1]
  omega
/-- what becomes of the class's loop over predecessors -/
def prK (o : (PH) ⊕ ((PH) ⊕ (Int × PH))) : Option (Int × PH) :=
  Sum.elim (fun ex9 => (FX4_fail ex9 1 (-3)).bind fun q10 => some ((-1), q10.2)) (fun ex9 => Sum.elim (fun ex9 => some ((-1), ex9)) (fun ex9 => JX4_takePredecessors_89 ex9.2 ex9.1) ex9) o
section
variable {X : XC} {Y : YM} {f : Nat → Int} {n : Nat}
theorem prd_loop {T : Nat} (tX : TX X f n) (hT : T ≤ 31) (d2 d3 d4 : Int) :
    ∀ (m s : Nat) (b : Int) (c : Nat), n - s ≤ m → st f n s → (∀ q, T ≤ q → q < 32 → tb b q = false) → cnt (tb b) 32 = c → (c = 0 ∨ kd f n s = 1) →
    (∃ q, (∀ h S rr tx sp, CWd X h S rr tx sp → IvM S → (0 ≤ rr 4 ∧ rr 4 ≤ 900) → TOK f n tx s → ∃ h', (lp (fun st : Int × Int × PH => LX4_takePredecessors_4 1 (T : Nat) st.1 st.2.1 st.2.2) (m + 2) (b, (c : Nat), h)).bind prK = some (-1, h') ∧ CF X h' (tx 1) q) ∧
      (∀ (Y : YM), RT Y f n → ∀ g u dr, MW Y g u dr → POS f n u s → dr 3 = T → ∃ g', lp (fun st : Int × PH => LX8_readTask_96 227 d2 d3 d4 st.1 st.2) (m + 2) (b, g) = some (.inl g') ∧ MF Y g' u q)) ∨
    (∃ s' b', (s < s' ∧ st f n s' ∧ ∀ q, T ≤ q → q < 32 → tb b' q = false) ∧
      (∀ h S rr tx sp, CWd X h S rr tx sp → IvM S → (0 ≤ rr 4 ∧ rr 4 ≤ 900) → TOK f n tx s → ∃ h' tx', (lp (fun st : Int × Int × PH => LX4_takePredecessors_4 1 (T : Nat) st.1 st.2.1 st.2.2) (m + 2) (b, (c : Nat), h)).bind prK = some (b', h') ∧ CWd X h' S rr tx' sp ∧ TOK f n tx' s' ∧ tx' 1 = tx 1) ∧
      (∀ (Y : YM), RT Y f n → ∀ g u dr, MW Y g u dr → POS f n u s → dr 3 = T → ∃ g' u', lp (fun st : Int × PH => LX8_readTask_96 227 d2 d3 d4 st.1 st.2) (m + 2) (b, g) = some (.inr (b', g')) ∧ MW Y g' u' dr ∧ POS f n u' s' ∧ u' 14 = u 14 ∧ u' 15 = u 15 ∧ keepU u u')) := by
  intro m
  induction m with
  | zero =>
    intro s b c hm hst hb hc hck
    have hn := tX.1
    have hk : kd f n s = 0 := by unfold kd; rw [if_neg (by have := hst.1; omega)]
    have hc0 : c = 0 := by rcases hck with z | z; exact z; omega
    have eN : sNum f n 0 ((T : Int) - 1) s = .inl (-2, s) := by unfold sNum; rw [if_neg (by omega)]
    refine Or.inl ⟨(-2, s), ?_, ?_⟩
    · intro h S rr tx sp wC iv h9 tk
      obtain ⟨h1, e1, f1⟩ := c_numF wC tX iv h9 tk (by omega) (by omega) eN
      refine ⟨h1, ?_, f1⟩
      rw [lp]
      dsimp only
      unfold LX4_takePredecessors_4 JX4_takePredecessors_25 JX4_takePredecessors_59
      rw [hc0, if_pos (show w32 ((0 : Nat) : Int) = 0 by decide), z1_r0 (cw_e1 wC), Option.bind_some, z2_i3 (cw_e2 wC), Option.bind_some, tk.2.1, hk, if_neg (by decide), e1, Option.bind_some, if_pos (show w32 (-1) < 0 by decide)]
      rfl
    · intro Y rY g u dr wM ps h3
      obtain ⟨v, g1, e1, m1⟩ := m_numF wM rY ps (by omega) (by omega) eN
      refine ⟨g1, ?_, m1⟩
      rw [lp]
      dsimp only
      unfold LX8_readTask_96 JX8_readTask_139
      rw [z8_r9 (mw_z wM), Option.bind_some, zd_l (mw_dr wM) (by omega) (by omega), Option.bind_some, h3, e1, Option.bind_some, mf_bad m1, Option.bind_some, if_pos (show w32 0 = 0 by decide)]
      rw [Option.bind_some, if_pos (show w32 0 = 0 by decide)]
  | succ m ih =>
    intro s b c hm hst hb hc hck
    have hn := tX.1
    have hs := hst.1
    have hcT := cnt_bits (b := b) (T := T) (by omega) hb
    have hkl := kd_le (f := f) (n := n) (s := s)
    -- the class comes to the number
    have headC : ∀ h S rr tx sp, CWd X h S rr tx sp → TOK f n tx s → LX4_takePredecessors_4 1 (T : Nat) b (c : Nat) h = JX4_takePredecessors_25 h 1 (T : Nat) b (c : Nat) := by
      intro h S rr tx sp wC tk
      unfold LX4_takePredecessors_4
      by_cases z : c = 0
      · rw [z, if_pos (show w32 ((0 : Nat) : Int) = 0 by decide)]
      · have hk1 : kd f n s = 1 := by rcases hck with y | y; exact absurd y z; exact y
        rw [w32_nat (by omega), if_neg (by omega), show w32 32 = 32 from rfl, if_pos (by omega), z1_r0 (cw_e1 wC), Option.bind_some, z2_i3 (cw_e2 wC), Option.bind_some, tk.2.1, hk1, if_pos (show w32 ((1 : Nat) : Int) = w32 1 from rfl)]
    have hv := tvl_in (f := f) (n := n) (s := s) tX.2.2 hn
    obtain ⟨v, hvv⟩ := Int.eq_ofNat_of_zero_le hv.1
    cases eN : sNum f n 0 ((T : Int) - 1) s with
    | inl q =>
      refine Or.inl ⟨q, ?_, ?_⟩
      · intro h S rr tx sp wC iv h9 tk
        have hd := headC h S rr tx sp wC tk
        obtain ⟨h1, e1, f1⟩ := c_numF wC tX iv h9 tk (by omega) (by omega) eN
        by_cases hk1 : kd f n s = 1
        · have hq : q = (-3, s) := by
            unfold sNum at eN
            rw [if_pos hk1] at eN
            split at eN <;> cases eN
            rfl
          by_cases hbit : v < 32 ∧ tb b v = true
          · obtain ⟨h2, e2, f2⟩ := c_failF (c := -3) wC iv h9 tk.2.2.1
            refine ⟨h2, ?_, by rw [hq]; exact f2⟩
            rw [lp]
            dsimp only
            rw [hd]
            unfold JX4_takePredecessors_25
            rw [z1_r0 (cw_e1 wC), Option.bind_some, z2_i3 (cw_e2 wC), Option.bind_some, tk.2.1, hk1, if_pos (show w32 ((1 : Nat) : Int) = w32 1 from rfl), Option.bind_some, z2_i6 (cw_e2 wC), Option.bind_some, tk.2.2.2.2.1, hvv, r_bit (by omega), Option.bind_some, if_pos hbit, if_neg (show ¬ w32 1 = 0 by decide)]
            show prK (.inl h) = _
            unfold prK
            dsimp only [Sum.elim_inl]
            rw [e2, Option.bind_some]
          · refine ⟨h1, ?_, f1⟩
            rw [lp]
            dsimp only
            rw [hd]
            unfold JX4_takePredecessors_25 JX4_takePredecessors_59
            rw [z1_r0 (cw_e1 wC), Option.bind_some, z2_i3 (cw_e2 wC), Option.bind_some, tk.2.1, hk1, if_pos (show w32 ((1 : Nat) : Int) = w32 1 from rfl), Option.bind_some, z2_i6 (cw_e2 wC), Option.bind_some, tk.2.2.2.2.1, hvv, r_bit (by omega), Option.bind_some, if_neg hbit, if_pos (show w32 0 = 0 by decide), e1, Option.bind_some, if_pos (show w32 (-1) < 0 by decide)]
            rfl
        · refine ⟨h1, ?_, f1⟩
          rw [lp]
          dsimp only
          rw [hd]
          unfold JX4_takePredecessors_25 JX4_takePredecessors_59
          rw [z1_r0 (cw_e1 wC), Option.bind_some, z2_i3 (cw_e2 wC), Option.bind_some, tk.2.1, w32_nat (by omega), show w32 1 = 1 from rfl, if_neg (by omega), e1, Option.bind_some, if_pos (show w32 (-1) < 0 by decide)]
          rfl
      · intro Y rY g u dr wM ps h3
        obtain ⟨v, g1, e1, m1⟩ := m_numF wM rY ps (by omega) (by omega) eN
        refine ⟨g1, ?_, m1⟩
        rw [lp]
        dsimp only
        unfold LX8_readTask_96 JX8_readTask_139
        rw [z8_r9 (mw_z wM), Option.bind_some, zd_l (mw_dr wM) (by omega) (by omega), Option.bind_some, h3, e1, Option.bind_some, mf_bad m1, Option.bind_some, if_pos (show w32 0 = 0 by decide)]
        rw [Option.bind_some, if_pos (show w32 0 = 0 by decide)]
    | inr p =>
      obtain ⟨x, s1⟩ := p
      obtain ⟨z1, z2, z3, z4, z5, z6, z7, z8⟩ := sNum_S hs eN
      have hxv : x = (v : Nat) := by omega
      rw [hxv] at eN z4 z5
      have hvT : v < T := by omega
      by_cases hbit : tb b v = true
      · refine Or.inl ⟨(-3, s), ?_, ?_⟩
        · intro h S rr tx sp wC iv h9 tk
          have hd := headC h S rr tx sp wC tk
          obtain ⟨h2, e2, f2⟩ := c_failF (c := -3) wC iv h9 tk.2.2.1
          refine ⟨h2, ?_, f2⟩
          rw [lp]
          dsimp only
          rw [hd]
          unfold JX4_takePredecessors_25
          rw [z1_r0 (cw_e1 wC), Option.bind_some, z2_i3 (cw_e2 wC), Option.bind_some, tk.2.1, z8, if_pos (show w32 ((1 : Nat) : Int) = w32 1 from rfl), Option.bind_some, z2_i6 (cw_e2 wC), Option.bind_some, tk.2.2.2.2.1, hvv, r_bit (by omega), Option.bind_some, if_pos (show v < 32 ∧ tb b v = true from ⟨by omega, hbit⟩), if_neg (show ¬ w32 1 = 0 by decide)]
          show prK (.inl h) = _
          unfold prK
          dsimp only [Sum.elim_inl]
          rw [e2, Option.bind_some]
        · intro Y rY g u dr wM ps h3
          obtain ⟨g1, u1, e1, w1, ps1, ku1, n1, se1, ns1⟩ := m_numS wM rY ps (by omega) (by omega) eN
          obtain ⟨g2, e2, m2, -⟩ := m_report w1 ps1.2.1 (c := -3) (p := s) (by omega)
          refine ⟨g2, ?_, MF_keep ku1 m2⟩
          rw [lp]
          dsimp only
          unfold LX8_readTask_96 JX8_readTask_139
          rw [z8_r9 (mw_z wM), Option.bind_some, zd_l (mw_dr wM) (by omega) (by omega), Option.bind_some, h3, e1, Option.bind_some]
          dsimp only
          rw [m_good w1 ps1.2.1, Option.bind_some, if_neg (show ¬ w32 1 = 0 by decide), shr_bit _ (by omega), if_pos hbit, if_pos rfl, z8_i13 (mw_z w1), Option.bind_some, ns1, e2, Option.bind_some, mf_bad m2, Option.bind_some, if_pos (show w32 0 = 0 by decide)]
      · have hbf : tb b v = false := Bool.eq_false_iff.mpr hbit
        -- one more predecessor
        have hb' : ∀ q, T ≤ q → q < 32 → tb (orI b (shlI 1 (v : Int))) q = false := fun q h1 h2 => by
          rw [tb_or, hb q h1 h2, tb_bit (by omega) h2]; simp; omega
        have hc' : cnt (tb (orI b (shlI 1 (v : Int)))) 32 = c + 1 := by rw [cnt_or (by omega) hbf, hc]
        have hcT' := cnt_bits (b := orI b (shlI 1 (v : Int))) (T := T) (by omega) hb'
        have stepC : ∀ h S rr tx sp, CWd X h S rr tx sp → IvM S → (0 ≤ rr 4 ∧ rr 4 ≤ 900) → TOK f n tx s → ∃ h1 tx1, LX4_takePredecessors_4 1 (T : Nat) b (c : Nat) h = some (.inl (orI b (shlI 1 (v : Int)), ((c + 1 : Nat) : Int), h1)) ∧ CWd X h1 S rr tx1 sp ∧ TOK f n tx1 s1 ∧ tx1 1 = tx 1 := by
          intro h S rr tx sp wC iv h9 tk
          obtain ⟨h1, tx1, e1, c1, t1, y1⟩ := c_numS wC tX iv h9 tk (by omega) (by omega) eN
          refine ⟨h1, tx1, ?_, c1, t1, y1⟩
          rw [headC h S rr tx sp wC tk]
          unfold JX4_takePredecessors_25 JX4_takePredecessors_59
          rw [z1_r0 (cw_e1 wC), Option.bind_some, z2_i3 (cw_e2 wC), Option.bind_some, tk.2.1, z8, if_pos (show w32 ((1 : Nat) : Int) = w32 1 from rfl), Option.bind_some, z2_i6 (cw_e2 wC), Option.bind_some, tk.2.2.2.2.1, hvv, r_bit (by omega), Option.bind_some, if_neg (show ¬ (v < 32 ∧ tb b v = true) from fun q => hbit q.2), if_pos (show w32 0 = 0 by decide), e1, Option.bind_some, w32_nat (by omega), if_neg (by omega)]
          rw [show (c : Int) + 1 = ((c + 1 : Nat) : Int) by omega]
        have stepM : ∀ (Y : YM), RT Y f n → ∀ g u dr, MW Y g u dr → POS f n u s → dr 3 = T → ∃ g2 u2, MW Y g2 u2 dr ∧ POS f n u2 s1 ∧ u2 14 = u 14 ∧ u2 15 = u 15 ∧ keepU u u2 ∧ LX8_readTask_96 227 d2 d3 d4 b g = if kd f n s1 = 1 then some (.inl (orI b (shlI 1 (v : Int)), g2)) else some (.inr (.inr (orI b (shlI 1 (v : Int)), g2))) := by
          intro Y rY g u dr wM ps h3
          obtain ⟨g1, u1, e1, w1, ps1, ku1, n1, se1, ns1⟩ := m_numS wM rY ps (by omega) (by omega) eN
          obtain ⟨g2, e2, w2⟩ := m_next w1 rY ps1
          refine ⟨g2, _, w2, pos_at ps1.1 ps1.2.1 z3.1 (st_sk z3), by rw [upf_ne (by decide)]; exact n1, by rw [upf_ne (by decide)]; exact se1, keep_trans ku1 (keep_up (by omega)), ?_⟩
          unfold LX8_readTask_96 JX8_readTask_139
          rw [z8_r9 (mw_z wM), Option.bind_some, zd_l (mw_dr wM) (by omega) (by omega), Option.bind_some, h3, e1, Option.bind_some]
          dsimp only
          rw [m_good w1 ps1.2.1, Option.bind_some, if_neg (show ¬ w32 1 = 0 by decide), shr_bit _ (by omega), if_neg hbit, if_neg (show ¬ w32 0 = w32 1 by decide), Option.bind_some, if_neg (show ¬ w32 1 = 0 by decide), e2, Option.bind_some]
          dsimp only
          rw [m_isDg rY, Option.bind_some]
          by_cases y : kd f n s1 = 1
          · rw [if_pos y, if_pos y, if_neg (show ¬ w32 1 = 0 by decide)]
          · rw [if_neg y, if_neg y, if_pos (show w32 0 = 0 by decide)]
        by_cases hk1 : kd f n s1 = 1
        · rcases ih s1 (orI b (shlI 1 (v : Int))) (c + 1) (by omega) z3 hb' hc' (Or.inr hk1) with ⟨q, jC, jM⟩ | ⟨s', b', ⟨r1, r2, r3⟩, jC, jM⟩
          · refine Or.inl ⟨q, ?_, ?_⟩
            · intro h S rr tx sp wC iv h9 tk
              obtain ⟨h1, tx1, e1, c1, t1, y1⟩ := stepC h S rr tx sp wC iv h9 tk
              obtain ⟨h2, e2, f2⟩ := jC h1 S rr tx1 sp c1 iv h9 t1
              refine ⟨h2, ?_, by rw [← y1]; exact f2⟩
              rw [lp]
              dsimp only
              rw [e1]
              exact e2
            · intro Y rY g u dr wM ps h3
              obtain ⟨g2, u2, w2, ps2, n2, se2, ku2, e2⟩ := stepM Y rY g u dr wM ps h3
              obtain ⟨g3, e3, m3⟩ := jM Y rY g2 u2 dr w2 ps2 h3
              refine ⟨g3, ?_, MF_keep ku2 m3⟩
              rw [lp]
              dsimp only
              rw [e2, if_pos hk1]
              exact e3
          · refine Or.inr ⟨s', b', ⟨by omega, r2, r3⟩, ?_, ?_⟩
            · intro h S rr tx sp wC iv h9 tk
              obtain ⟨h1, tx1, e1, c1, t1, y1⟩ := stepC h S rr tx sp wC iv h9 tk
              obtain ⟨h2, tx2, e2, c2, t2, y2⟩ := jC h1 S rr tx1 sp c1 iv h9 t1
              refine ⟨h2, tx2, ?_, c2, t2, by rw [y2, y1]⟩
              rw [lp]
              dsimp only
              rw [e1]
              exact e2
            · intro Y rY g u dr wM ps h3
              obtain ⟨g2, u2, w2, ps2, n2, se2, ku2, e2⟩ := stepM Y rY g u dr wM ps h3
              obtain ⟨g3, u3, e3, w3, ps3, n3, se3, ku3⟩ := jM Y rY g2 u2 dr w2 ps2 h3
              refine ⟨g3, u3, ?_, w3, ps3, by rw [n3, n2], by rw [se3, se2], keep_trans ku2 ku3⟩
              rw [lp]
              dsimp only
              rw [e2, if_pos hk1]
              exact e3
        · refine Or.inr ⟨s1, orI b (shlI 1 (v : Int)), ⟨by omega, z3, hb'⟩, ?_, ?_⟩
          · intro h S rr tx sp wC iv h9 tk
            obtain ⟨h1, tx1, e1, c1, t1, y1⟩ := stepC h S rr tx sp wC iv h9 tk
            refine ⟨h1, tx1, ?_, c1, t1, y1⟩
            have hk2 := kd_le (f := f) (n := n) (s := s1)
            rw [lp]
            dsimp only
            rw [e1]
            dsimp only
            rw [lp]
            dsimp only
            unfold LX4_takePredecessors_4
            rw [w32_nat (by omega), if_neg (by omega), show w32 32 = 32 from rfl, if_pos (by omega), z1_r0 (cw_e1 c1), Option.bind_some, z2_i3 (cw_e2 c1), Option.bind_some, t1.2.1, w32_nat (by omega), show w32 1 = 1 from rfl, if_neg (by omega)]
            rfl
          · intro Y rY g u dr wM ps h3
            obtain ⟨g2, u2, w2, ps2, n2, se2, ku2, e2⟩ := stepM Y rY g u dr wM ps h3
            refine ⟨g2, u2, ?_, w2, ps2, n2, se2, ku2⟩
            rw [lp]
            dsimp only
            rw [e2, if_neg hk1]
end
