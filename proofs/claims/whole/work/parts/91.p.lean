set_option linter.unusedVariables false
set_option linter.unusedSimpArgs false
/-! ===== tasks of a setup ===== -/
def keepC (d d' : Int → Int) : Prop := ∀ i : Int, (i = 6 ∨ i = 7 ∨ 324 ≤ i) → d' i = d i
def dtask (dr : Int → Int) (t : Nat) (du pr ho be : Int) : Int → Int := ud (dadd dr t du pr ho) (16 + 8 * (t : Int) + 3) be
theorem keepC_task {dr : Int → Int} {t : Nat} {du pr ho be : Int} (ht : t < 32) : keepC dr (dtask dr t du pr ho be) := fun i hi => by
  unfold dtask
  rw [ud_ne (by omega), dadd_ne (by omega) (by omega)]
section
variable {X : XC} {Y : YM} {f : Nat → Int} {n : Nat}
theorem bad166 {g : PH} {u : Nat → Int} {q : Int × Nat} {a b c d : Int} (m : MF Y g u q) : JX8_readTask_166 g 227 a b c d = some g := by
  unfold JX8_readTask_166
  rw [mf_bad m, Option.bind_some, if_pos (show w32 0 = 0 by decide)]
theorem bad87 {g : PH} {u : Nat → Int} {q : Int × Nat} {a b c d : Int} (m : MF Y g u q) : JX8_readTask_87 g 227 a b c d = some g := by
  unfold JX8_readTask_87
  rw [mf_word m, Option.bind_some, if_pos (show w32 0 = 0 by decide), bad166 m]
theorem bad58 {g : PH} {u : Nat → Int} {q : Int × Nat} {a b c : Int} (m : MF Y g u q) : JX8_readTask_58 g 227 a b c = some g := by
  unfold JX8_readTask_58
  rw [mf_word m, Option.bind_some, if_pos (show w32 0 = 0 by decide), bad87 m]
theorem bad18 {g : PH} {u : Nat → Int} {q : Int × Nat} (m : MF Y g u q) : JX8_readTask_18 g 227 = some g := by
  unfold JX8_readTask_18
  rw [mf_num m, Option.bind_some, mf_num m, Option.bind_some, mf_bad m, Option.bind_some, if_pos (show w32 0 = 0 by decide), bad58 m]
theorem addC {h : PH} {S : MM} {rr tx sp : Nat → Int} {T : Nat} {du pr ho be : Int} (w : CWd X h S rr tx sp) (hT : S 1 0 = T) (hT2 : T < 32) (hho : 0 ≤ ho ∧ ho < 4) (hbe : tb be 31 = false) : ∃ h', JX4_readTask_137 h 28 du pr ho be = some (1, h') ∧ CWd X h' (addM S du pr ho be) rr tx sp := by
  have hb := bits_nn hbe
  have w1 := cw_S (N := addM S du pr ho be) w (FM_congr (by rw [add_r (by decide) (by omega)]) (add_r (by decide) (by omega)) (cw_f27 w))
  refine ⟨_, ?_, w1⟩
  unfold JX4_readTask_137
  rw [w32_eq (x := ho) (by omega) (by omega), if_neg (by omega), if_neg (by omega), b27_add (cw_a27 w) (by omega) (by omega), Option.bind_some]
theorem addRef {g : PH} {u : Nat → Int} {dr : Int → Int} {T : Nat} {du pr ho be : Int} (w : MW Y g u dr) (h5 : u 5 = 0) (hT : dr 3 = T) (hT2 : T < 32) : ∃ g', JX8_readTask_166 g 227 du pr ho be = some g' ∧ MW Y g' u (dtask dr T du pr ho be) := by
  have w1 := mw_d (x := dadd dr T du pr ho) w
  have w2 := mw_d (x := dtask dr T du pr ho be) w1
  refine ⟨_, ?_, w2⟩
  unfold JX8_readTask_166
  rw [m_good w h5, Option.bind_some, if_neg (show ¬ w32 1 = 0 by decide), z8_r9 (mw_z w), Option.bind_some, Option.bind_some, m_add (mw_dr w) hT hT2, Option.bind_some]
  unfold FX8_task
  rw [Option.bind_some]
  dsimp only
  rw [zd_s (mw_dr w1) (by omega) (by omega), Option.bind_some]
  rfl
theorem taskK {S : MM} {dr : Int → Int} {T s : Nat} {du pr ho : Int} (tX : TX X f n) (pf : PF S dr) (hT : S 1 0 = T) (hT2 : T < 32) (hho : 0 ≤ ho ∧ ho < 4) (hst : st f n s) :
    (∃ q, (∀ h rr tx sp, CWd X h S rr tx sp → (0 ≤ rr 4 ∧ rr 4 ≤ 900) → TOK f n tx s → ∃ h', JX4_readTask_100 h 1 28 du pr ho = some (0, h') ∧ CF X h' (tx 1) q) ∧ (∀ (Y : YM), RT Y f n → ∀ g u, MW Y g u dr → POS f n u s → ∃ g', JX8_readTask_87 g 227 du pr ho 0 = some g' ∧ MF Y g' u q)) ∨
    (∃ s' be, (s ≤ s' ∧ st f n s' ∧ ∀ q, T ≤ q → q < 32 → tb be q = false) ∧
      (∀ h rr tx sp, CWd X h S rr tx sp → (0 ≤ rr 4 ∧ rr 4 ≤ 900) → TOK f n tx s → ∃ h' tx', JX4_readTask_100 h 1 28 du pr ho = some (1, h') ∧ CWd X h' (addM S du pr ho be) rr tx' sp ∧ TOK f n tx' s' ∧ tx' 1 = tx 1) ∧
      (∀ (Y : YM), RT Y f n → ∀ g u, MW Y g u dr → POS f n u s → ∃ g' u', JX8_readTask_87 g 227 du pr ho 0 = some g' ∧ MW Y g' u' (dtask dr T du pr ho be) ∧ POS f n u' s' ∧ u' 14 = u 14 ∧ u' 15 = u 15 ∧ keepU u u')) := by
  have iv := pf.1
  have h3 : dr 3 = T := by have := pf.2.1.1.2.2.2.1; rw [gh_ne (by decide), hT] at this; exact this
  have hs := hst.1
  have hn := tX.1
  have b31 : ∀ be : Int, (∀ q, T ≤ q → q < 32 → tb be q = false) → tb be 31 = false := fun be hb => hb 31 (by omega) (by omega)
  by_cases wa : wd f n s 3 = true
  · have hk := wd_kd wa
    have hsn : s < n := kd_pos (f := f) (by rw [hk]; decide)
    have z0 : ∀ q, T ≤ q → q < 32 → tb 0 q = false := fun q _ _ => tb_zero q
    have hcnt : cnt (tb 0) 32 = 0 := cnt_zero.mpr (fun i _ => tb_zero i)
    have headC : ∀ h rr tx sp, CWd X h S rr tx sp → (0 ≤ rr 4 ∧ rr 4 ≤ 900) → TOK f n tx s → ∃ h1 tx1, CWd X h1 S rr tx1 sp ∧ TOK f n tx1 (nx f n s) ∧ tx1 1 = tx 1 ∧ JX4_readTask_100 h 1 28 du pr ho = ((lp (fun st : Int × Int × PH => LX4_takePredecessors_4 1 (T : Nat) st.1 st.2.1 st.2.2) FU (0, ((0 : Nat) : Int), h1)).bind prK).bind fun q14 => JX4_readTask_137 q14.2 28 du pr ho q14.1 := by
      intro h rr tx sp wC h9 tk
      have tk' := tk
      obtain ⟨k2, k3, k4, k5, k6, ks⟩ := tk
      obtain ⟨h1, tx1, e1, c1, t1, y1⟩ := c_adv wC tX k2 k5 (en_le hs)
      refine ⟨h1, tx1, c1, t1, y1, ?_⟩
      unfold JX4_readTask_100 FX4_takePredecessors
      rw [w32_eq (x := ho) (by omega) (by omega), if_neg (by omega), z1_r0 (cw_e1 wC), Option.bind_some, c_word wC tX tk' (by omega), Option.bind_some, wa, if_pos rfl, if_neg (show ¬ w32 1 = 0 by decide), Option.bind_some, e1, Option.bind_some, b27_gfi1_0 (cw_a27 c1), Option.bind_some, hT, z1_O (cw_e1 c1), Option.bind_some]
      rfl
    have headM : ∀ (Y : YM), RT Y f n → ∀ g u, MW Y g u dr → POS f n u s → ∃ g1, MW Y g1 (upf u 4 (en f n s : Nat)) dr ∧ POS f n (upf u 4 (en f n s : Nat)) (nx f n s) ∧ JX8_readTask_87 g 227 du pr ho 0 = (lp (fun st : Int × PH => LX8_readTask_96 227 du pr ho st.1 st.2) FU (0, g1)).bind fun ex23 => Sum.elim (fun ex23 => some ex23) (fun ex23 => JX8_readTask_166 ex23.2 227 du pr ho ex23.1) ex23 := by
      intro Y rY g u wM ps
      rcases m_word wM rY ps (v := 3) (by omega) with ⟨a0, -⟩ | ⟨-, g1, a1, a2⟩
      · rw [wa] at a0; cases a0
      · refine ⟨g1, a2, pos_at ps.1 ps.2.1 (en_le hs) rfl, ?_⟩
        unfold JX8_readTask_87
        rw [a1, Option.bind_some, if_neg (show ¬ w32 1 = 0 by decide)]
    rcases prd_loop tX (T := T) (by omega) du pr ho (n - nx f n s) (nx f n s) 0 0 (Nat.le_refl _) (nx_st hs) z0 hcnt (Or.inl rfl) with ⟨q, jC, jM⟩ | ⟨s', be, ⟨r1, r2, r3⟩, jC, jM⟩
    · refine Or.inl ⟨q, ?_, ?_⟩
      · intro h rr tx sp wC h9 tk
        obtain ⟨h1, tx1, c1, t1, y1, e1⟩ := headC h rr tx sp wC h9 tk
        obtain ⟨h2, e2, f2⟩ := jC h1 S rr tx1 sp c1 iv h9 t1
        obtain ⟨o, e3, e4⟩ := bnd e2
        have e3 := lp_mono _ FU _ _ (by unfold FU; omega) e3
        refine ⟨h2, ?_, by rw [← y1]; exact f2⟩
        rw [e1, e3, Option.bind_some, e4, Option.bind_some]
        unfold JX4_readTask_137 JX4_readTask_147
        rw [w32_eq (x := ho) (by omega) (by omega), if_neg (by omega), if_pos (show w32 (-1) < 0 by decide)]
      · intro Y rY g u wM ps
        obtain ⟨g1, w1, ps1, e1⟩ := headM Y rY g u wM ps
        obtain ⟨g2, e2, m2⟩ := jM Y rY g1 _ dr w1 ps1 h3
        have e2 := lp_mono _ FU _ _ (by unfold FU; omega) e2
        refine ⟨g2, ?_, MF_keep (keep_up (by omega)) m2⟩
        rw [e1, e2]
        rfl
    · have hgt := nx_gt (f := f) hsn
      refine Or.inr ⟨s', be, ⟨by omega, r2, r3⟩, ?_, ?_⟩
      · intro h rr tx sp wC h9 tk
        obtain ⟨h1, tx1, c1, t1, y1, e1⟩ := headC h rr tx sp wC h9 tk
        obtain ⟨h2, tx2, e2, c2, t2, y2⟩ := jC h1 S rr tx1 sp c1 iv h9 t1
        obtain ⟨o, e3, e4⟩ := bnd e2
        have e3 := lp_mono _ FU _ _ (by unfold FU; omega) e3
        obtain ⟨h4, e5, c5⟩ := addC (du := du) (pr := pr) (ho := ho) (be := be) c2 hT hT2 hho (b31 be r3)
        refine ⟨h4, tx2, ?_, c5, t2, by rw [y2, y1]⟩
        rw [e1, e3, Option.bind_some, e4, Option.bind_some]
        exact e5
      · intro Y rY g u wM ps
        obtain ⟨g1, w1, ps1, e1⟩ := headM Y rY g u wM ps
        obtain ⟨g2, u2, e2, w2, ps2, n2, se2, ku2⟩ := jM Y rY g1 _ dr w1 ps1 h3
        have e2 := lp_mono _ FU _ _ (by unfold FU; omega) e2
        obtain ⟨g3, e3, w3⟩ := addRef (du := du) (pr := pr) (ho := ho) (be := be) w2 ps2.2.1 h3 hT2
        refine ⟨g3, u2, ?_, w3, ps2, by rw [n2, upf_ne (by decide)], by rw [se2, upf_ne (by decide)], keep_trans (keep_up (by omega)) ku2⟩
        rw [e1, e2]
        exact e3
  · have wf := Bool.eq_false_iff.mpr wa
    refine Or.inr ⟨s, 0, ⟨Nat.le_refl _, hst, fun q _ _ => tb_zero q⟩, ?_, ?_⟩
    · intro h rr tx sp wC h9 tk
      obtain ⟨h4, e5, c5⟩ := addC (du := du) (pr := pr) (ho := ho) (be := 0) wC hT hT2 hho (tb_zero 31)
      refine ⟨h4, tx, ?_, c5, tk, rfl⟩
      unfold JX4_readTask_100
      rw [w32_eq (x := ho) (by omega) (by omega), if_neg (by omega), z1_r0 (cw_e1 wC), Option.bind_some, c_word wC tX tk (by omega), Option.bind_some, wf, if_neg Bool.false_ne_true, if_pos (show w32 0 = 0 by decide)]
      exact e5
    · intro Y rY g u wM ps
      rcases m_word wM rY ps (v := 3) (by omega) with ⟨-, g1, a1, a2⟩ | ⟨a0, -⟩
      · obtain ⟨g3, e3, w3⟩ := addRef (du := du) (pr := pr) (ho := ho) (be := 0) a2 (by rw [upf_ne (by decide)]; exact ps.2.1) h3 hT2
        refine ⟨g3, _, ?_, w3, pos_at ps.1 ps.2.1 hs (st_sk hst), upf_ne (by decide), upf_ne (by decide), keep_up (by omega)⟩
        unfold JX8_readTask_87
        rw [a1, Option.bind_some, if_pos (show w32 0 = 0 by decide)]
        exact e3
      · exact absurd a0 wa
end
