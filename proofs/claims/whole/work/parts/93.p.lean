set_option linter.unusedVariables false
set_option linter.unusedSimpArgs false
theorem em1_keep {d : Int → Int} {x : Int} (h7 : 0 ≤ d 7) : keepD d (em1 d x) ∧ 0 ≤ em1 d x 7 := by
  unfold em1
  split
  · exact ⟨fun i h1 h2 => by rw [ud_ne h2, ud_ne (by omega)], by rw [ud_eq]; omega⟩
  · split
    · exact ⟨fun i h1 h2 => by rw [ud_ne h2, ud_ne (by omega), ud_ne h2, ud_ne (by omega)], by rw [ud_eq]; omega⟩
    · exact ⟨fun i h1 h2 => by rw [ud_ne h2, ud_ne (by omega), ud_ne h2, ud_ne (by omega)], by rw [ud_eq]; omega⟩
theorem app_keep : ∀ {l : List Int} {d : Int → Int}, 0 ≤ d 7 → keepD d (app d l) := by
  intro l
  induction l with
  | nil => intro d _; exact keepD_refl
  | cons x r ih =>
    intro d h7
    obtain ⟨a, b⟩ := em1_keep (x := x) h7
    exact keepD_trans a (ih b)
theorem cds_em1 {d : Int → Int} {ss : List Int} {x : Int} (c : cds d 0 ss) (hx : -8 ≤ x) : cds (em1 d x) 0 (ss ++ [x]) := by
  have h7 := cds_le c
  unfold em1
  by_cases c1 : x ≤ -5
  · rw [if_pos c1]
    refine cds_cong (d := d) (d 7) (by omega) c (by omega) (fun i h1 h2 => by rw [ud_ne (by omega), ud_ne (by omega)]) (fun _ => trivial) ?_
    unfold cds
    rw [if_neg (by omega), if_neg (by omega)]
    refine ⟨by rw [ud_ne (by omega), ud_eq], ?_⟩
    unfold cds
    rw [ud_eq]
  · rw [if_neg c1]
    by_cases c2 : 0 ≤ x
    · rw [if_pos c2]
      refine cds_cong (d := d) (d 7) (by omega) c (by omega) (fun i h1 h2 => by rw [ud_ne (by omega), ud_ne (by omega), ud_ne (by omega), ud_ne (by omega)]) (fun _ => trivial) ?_
      unfold cds
      rw [if_pos c2]
      refine ⟨by rw [ud_ne (by omega), ud_ne (by omega), ud_ne (by omega), ud_eq], by rw [ud_ne (by omega), ud_eq], ?_⟩
      unfold cds
      rw [ud_eq]; omega
    · rw [if_neg c2]
      refine cds_cong (d := d) (d 7) (by omega) c (by omega) (fun i h1 h2 => by rw [ud_ne (by omega), ud_ne (by omega), ud_ne (by omega), ud_ne (by omega)]) (fun _ => trivial) ?_
      unfold cds
      rw [if_neg c2, if_pos (by omega)]
      refine ⟨by rw [ud_ne (by omega), ud_ne (by omega), ud_ne (by omega), ud_eq], by rw [ud_ne (by omega), ud_eq], ?_⟩
      unfold cds
      rw [ud_eq]; omega
theorem cds_app : ∀ {l ss : List Int} {d : Int → Int}, cds d 0 ss → (∀ x ∈ l, -8 ≤ x ∧ x ≤ 9999) → cds (app d l) 0 (ss ++ l) := by
  intro l
  induction l with
  | nil => intro ss d c _; rw [List.append_nil]; exact c
  | cons x r ih =>
    intro ss d c h
    have := ih (cds_em1 (x := x) c (h x (by simp)).1) (fun y hy => h y (by simp [hy]))
    rw [List.append_assoc] at this
    exact this
section
variable {X : XC} {Y : YM} {f : Nat → Int} {n : Nat}
/-- a statement and its mark, the class -/
def RCs (h : PH) : Option (Int × PH) := (FX4_readStatement h 1 27).bind fun q9 => if w32 q9.1 = 0 then some (0, q9.2) else (FX4_takeMark q9.2 1 59)
theorem b27_addF {h : PH} {M : MM} (t : At h 27 M) (h0 : 0 ≤ M 1 1) (h1 : M 1 1 < 8) : FX6_addFence h 28 = some (putM h 27 (addF M)) := by
  have := r_addF (h := h) (p := 27) (M := M) t.1 h0 h1
  rw [At_put t] at this
  exact this
theorem once_lit : andI (shrI 1 0) 1 = 1 ∧ andI (shrI 0 0) 1 = 0 ∧ orI 0 (shlI 1 0) = 1 := by decide +kernel
/-- a statement up to its mark -/
theorem stmt1 {S : MM} {dr : Int → Int} {ls : Int} {ss : List Int} {s : Nat} (tX : TX X f n) (pf : PF S dr) (ex : EXS ls ss dr) (hst : st f n s) :
    (∃ q, SC X f n (fun h => FX4_readStatement h 1 27) s S ls ss q ∧ (∀ (Y : YM), RT Y f n → ∀ g u, MW Y g u dr → POS f n u s → u 14 = 0 → u 15 = ls → ∃ g', FX8_statement g 227 = JX8_statement_81 g' 227 ∧ MF Y g' u q)) ∨
    (∃ s' S' dr' ls' ss', s < s' ∧ st f n s' ∧ PF S' dr' ∧ EXS ls' ss' dr' ∧ SCs X f n (fun h => FX4_readStatement h 1 27) s S ls ss s' S' ls' ss' ∧ (∀ (Y : YM), RT Y f n → ∀ g u, MW Y g u dr → POS f n u s → u 14 = 0 → u 15 = ls → ∃ g' u', FX8_statement g 227 = JX8_statement_81 g' 227 ∧ MW Y g' u' dr' ∧ POS f n u' s' ∧ u' 14 = 0 ∧ u' 15 = ls' ∧ keepU u u')) := by
  have iv := pf.1
  have hs := hst.1
  have hn := tX.1
  have hl := exs_len ex
  have hFr := iv.1.1.2.1
  have h9 : ∀ rr sp : Nat → Int, STP rr sp ss → 0 ≤ rr 4 ∧ rr 4 ≤ 900 := fun rr sp k => stp_len k (by omega)
  have h4d : dr 4 = S 1 1 := by have := pf.2.1.1.2.2.2.2.1; rw [gh_ne (by decide)] at this; exact this
  have h3d : dr 3 = S 1 0 := by have := pf.2.1.1.2.2.2.1; rw [gh_ne (by decide)] at this; exact this
  -- the reference at the statement's start
  have startM : ∀ (Y : YM), RT Y f n → ∀ g u, MW Y g u dr → POS f n u s → ∃ g1, MW Y g1 (upf u 4 (s : Nat)) dr ∧ POS f n (upf u 4 (s : Nat)) s ∧ FX8_statement g 227 = ((FX8_takeWord g1 227 1).bind fun q3 => if w32 q3.1 = 0 then ((FX8_takeWord q3.2 227 4).bind fun q4 => if w32 q4.1 = 0 then ((FX8_takeWord q4.2 227 5).bind fun q5 => if w32 q5.1 = 0 then ((FX8_report q5.2 227 (-2) s).bind fun h6 => JX8_statement_81 h6 227) else ((FX8_once q5.2 227 0 s).bind fun h8 => (gfr h8 8 227 9).bind fun x9 => (ast 0 h8 x9 6 1).bind fun h10 => (FRRecM 40 0 h10 227).bind fun h11 => JX8_statement_81 h11 227)) else ((FX8_readFence q4.2 227 s).bind fun h12 => JX8_statement_81 h12 227)) else ((FX8_readTask q3.2 227 s).bind fun h13 => JX8_statement_81 h13 227)) := by
    intro Y rY g u wM ps
    obtain ⟨g1, e1, w1⟩ := m_next wM rY ps
    refine ⟨g1, w1, pos_at ps.1 ps.2.1 hs (st_sk hst), ?_⟩
    unfold FX8_statement
    rw [z8_O (mw_z wM), Option.bind_some, e1, Option.bind_some]
    dsimp only
    rw [z8_i4 (mw_z w1), Option.bind_some, upf_eq]
  have miss : ∀ (Y : YM), RT Y f n → ∀ {u : Nat → Int} {z : Nat} {g1 : PH}, z < 9 → wd f n s z = false → u 3 = n → u 5 = 0 → MW Y g1 (upf u 4 (s : Nat)) dr → ∃ g2, FX8_takeWord g1 227 z = some (0, g2) ∧ MW Y g2 (upf u 4 (s : Nat)) dr := fun Y rY {u z g1} hz hf k3 k5 hw1 => by
    rcases m_word hw1 rY (pos_at k3 k5 hs (st_sk hst)) hz with ⟨-, g2, a1, a2⟩ | ⟨a, -⟩
    · rw [upf_up] at a2; exact ⟨g2, a1, a2⟩
    · rw [hf] at a; cases a
  have hit : ∀ (Y : YM), RT Y f n → ∀ {u : Nat → Int} {z : Nat} {g1 : PH}, z < 9 → wd f n s z = true → u 3 = n → u 5 = 0 → MW Y g1 (upf u 4 (s : Nat)) dr → ∃ g2, FX8_takeWord g1 227 z = some (1, g2) ∧ MW Y g2 (upf u 4 (en f n s : Nat)) dr ∧ POS f n (upf u 4 (en f n s : Nat)) (nx f n s) := fun Y rY {u z g1} hz hf k3 k5 hw1 => by
    rcases m_word hw1 rY (pos_at k3 k5 hs (st_sk hst)) hz with ⟨a, -⟩ | ⟨-, g2, a1, a2⟩
    · rw [hf] at a; cases a
    · rw [upf_up] at a2; exact ⟨g2, a1, a2, pos_at k3 k5 (en_le hs) rfl⟩
  by_cases w1 : wd f n s 1 = true
  · -- a task
    have hsn : s < n := kd_pos (f := f) (by rw [wd_kd w1]; decide)
    have hC : ∀ h rr tx sp, CWd X h S rr tx sp → TOK f n tx s → FX4_readStatement h 1 27 = (FX4_readTask h 1 28 (S 11 0)).bind fun q27 => if q27.1 = 0 ∨ q27.1 = 1 then some (q27.1, q27.2) else none := by
      intro h rr tx sp wC tk
      unfold FX4_readStatement
      rw [z1_O (cw_e1 wC), Option.bind_some, z1_r0 (cw_e1 wC), Option.bind_some, c_word wC tX tk (by omega), Option.bind_some, w1, if_pos rfl, if_neg (show ¬ w32 1 = 0 by decide), b27_gfr0_0 (cw_a27 wC), Option.bind_some, b27_gfr0_1 (cw_a27 wC), Option.bind_some, b27_gfi11_0 (cw_a27 wC), Option.bind_some]
    have hM : ∀ (Y : YM), RT Y f n → ∀ g u, MW Y g u dr → POS f n u s → ∃ g2, MW Y g2 (upf u 4 (en f n s : Nat)) dr ∧ POS f n (upf u 4 (en f n s : Nat)) (nx f n s) ∧ FX8_statement g 227 = (FX8_readTask g2 227 s).bind fun h13 => JX8_statement_81 h13 227 := by
      intro Y rY g u wM ps
      obtain ⟨g1, a1, a2, a3⟩ := startM Y rY g u wM ps
      obtain ⟨g2, b1, b2, b3⟩ := hit Y rY (by omega) w1 ps.1 ps.2.1 a1
      refine ⟨g2, b2, b3, ?_⟩
      rw [a3, b1, Option.bind_some, if_neg (show ¬ w32 1 = 0 by decide)]
    rcases taskOK (ls := ls) (ss := ss) tX pf hst hsn hl with ⟨q, jC, jM⟩ | ⟨s', S', dr', r1, r2, r3, r4, jC, jM⟩
    · refine Or.inl ⟨q, ?_, ?_⟩
      · intro h rr tx sp wC tk stp hls
        obtain ⟨h1, e1, f1⟩ := jC h rr tx sp wC tk stp hls
        refine ⟨h1, ?_, f1⟩
        show FX4_readStatement h 1 27 = _
        have e1 : FX4_readTask h 1 28 (S 11 0) = some (0, h1) := e1
        rw [hC h rr tx sp wC tk, e1, Option.bind_some, if_pos (Or.inl rfl)]
      · intro Y rY g u wM ps h14 h15
        obtain ⟨g2, a1, a2, a3⟩ := hM Y rY g u wM ps
        obtain ⟨g3, e3, m3⟩ := jM Y rY g2 _ a1 a2 (by rw [upf_ne (by decide)]; exact h14) (by rw [upf_ne (by decide)]; exact h15)
        have e3 : FX8_readTask g2 227 s = some g3 := e3
        refine ⟨g3, ?_, MF_keep (keep_up (by omega)) m3⟩
        rw [a3, e3, Option.bind_some]
    · refine Or.inr ⟨s', S', dr', ls, ss, r1, r2, r3, exs_keep r4 ex, ?_, ?_⟩
      · intro h rr tx sp wC tk stp hls
        obtain ⟨h1, rr1, tx1, sp1, e1, c1, t1, st1, l1, y1⟩ := jC h rr tx sp wC tk stp hls
        refine ⟨h1, rr1, tx1, sp1, ?_, c1, t1, st1, l1, y1⟩
        show FX4_readStatement h 1 27 = _
        have e1 : FX4_readTask h 1 28 (S 11 0) = some (1, h1) := e1
        rw [hC h rr tx sp wC tk, e1, Option.bind_some, if_pos (Or.inr rfl)]
      · intro Y rY g u wM ps h14 h15
        obtain ⟨g2, a1, a2, a3⟩ := hM Y rY g u wM ps
        obtain ⟨g3, u3, e3, w3, ps3, n3, se3, ku3⟩ := jM Y rY g2 _ a1 a2 (by rw [upf_ne (by decide)]; exact h14) (by rw [upf_ne (by decide)]; exact h15)
        have e3 : FX8_readTask g2 227 s = some g3 := e3
        refine ⟨g3, u3, ?_, w3, ps3, n3, se3, keep_trans (keep_up (by omega)) ku3⟩
        rw [a3, e3, Option.bind_some]
  have q1 := Bool.eq_false_iff.mpr w1
  by_cases w4 : wd f n s 4 = true
  · -- a fence
    have hsn : s < n := kd_pos (f := f) (by rw [wd_kd w4]; decide)
    have hgt := nx_gt (f := f) hsn
    obtain ⟨m, hm⟩ := Int.eq_ofNat_of_zero_le hFr.1
    have hC : ∀ h rr tx sp, CWd X h S rr tx sp → TOK f n tx s → FX4_readStatement h 1 27 = if w32 (m : Int) < w32 8 then ((FX5_advance h 2).bind fun h19 => (gfr h19 3 27 0).bind fun x20 => (FX6_addFence h19 x20).bind fun h21 => some (1, h21)) else ((FX4_fail h 1 (-4)).bind fun q22 => if q22.1 = 0 ∨ q22.1 = 1 then some (q22.1, q22.2) else none) := by
      intro h rr tx sp wC tk
      unfold FX4_readStatement
      rw [z1_O (cw_e1 wC), Option.bind_some, z1_r0 (cw_e1 wC), Option.bind_some, c_word wC tX tk (by omega), Option.bind_some, q1, if_neg Bool.false_ne_true, if_pos (show w32 0 = 0 by decide), Option.bind_some, c_word wC tX tk (by omega), Option.bind_some, w4, if_pos rfl, if_neg (show ¬ w32 1 = 0 by decide), b27_gfr0_0 (cw_a27 wC), Option.bind_some, b27_gfi1_1 (cw_a27 wC), Option.bind_some, hm, Option.bind_some]
    have hM : ∀ (Y : YM), RT Y f n → ∀ g u, MW Y g u dr → POS f n u s → ∃ g2, MW Y g2 (upf u 4 (en f n s : Nat)) dr ∧ POS f n (upf u 4 (en f n s : Nat)) (nx f n s) ∧ FX8_statement g 227 = (FX8_readFence g2 227 s).bind fun h13 => JX8_statement_81 h13 227 := by
      intro Y rY g u wM ps
      obtain ⟨g1, a1, a2, a3⟩ := startM Y rY g u wM ps
      obtain ⟨g2, b1, b2⟩ := miss Y rY (by omega) q1 ps.1 ps.2.1 a1
      obtain ⟨g3, d1, d2, d3⟩ := hit Y rY (by omega) w4 ps.1 ps.2.1 b2
      refine ⟨g3, d2, d3, ?_⟩
      rw [a3, b1, Option.bind_some, if_pos (show w32 0 = 0 by decide), d1, Option.bind_some, if_neg (show ¬ w32 1 = 0 by decide)]
    by_cases hf8 : m < 8
    · have dch : keepC dr (ud (ud dr (8 + (m : Int)) (dr 3)) 4 ((m : Int) + 1)) := fun i hi => by rw [ud_ne (by omega), ud_ne (by omega)]
      refine Or.inr ⟨nx f n s, addF S, _, ls, ss, hgt, nx_st hs, pf_fence pf hm hf8, exs_keep dch ex, ?_, ?_⟩
      · intro h rr tx sp wC tk stp hls
        obtain ⟨h1, tx1, e1, c1, t1, y1⟩ := c_adv wC tX tk.1 tk.2.2.2.1 (en_le hs)
        have c2 := cw_S (N := addF S) c1 (FM_congr (by unfold addF; rw [up_ne (by decide), up_ne (by decide)]) (by unfold addF; rw [up_ne (by decide), up_ne (by decide)]) (cw_f27 c1))
        refine ⟨_, rr, tx1, sp, ?_, c2, t1, stp, hls, y1⟩
        show FX4_readStatement h 1 27 = _
        rw [hC h rr tx sp wC tk, w32_nat (by omega), show w32 8 = 8 from rfl, if_pos (by omega), e1, Option.bind_some, b27_gfr0_0 (cw_a27 c1), Option.bind_some, b27_addF (cw_a27 c1) (by omega) (by omega), Option.bind_some]
      · intro Y rY g u wM ps h14 h15
        obtain ⟨g2, a1, a2, a3⟩ := hM Y rY g u wM ps
        have b1 := mw_d (x := ud dr (8 + (m : Int)) (dr 3)) a1
        have b2 := mw_d (x := ud (ud dr (8 + (m : Int)) (dr 3)) 4 ((m : Int) + 1)) b1
        refine ⟨_, _, ?_, b2, a2, by rw [upf_ne (by decide)]; exact h14, by rw [upf_ne (by decide)]; exact h15, keep_up (by omega)⟩
        rw [a3]
        unfold FX8_readFence JX8_readFence_18
        rw [z8_O (mw_z a1), Option.bind_some, z8_r9 (mw_z a1), Option.bind_some, zd_l (mw_dr a1) (by omega) (by omega), Option.bind_some, h4d, hm, w32_nat (by omega), show w32 8 = 8 from rfl, if_neg (by omega), m_good a1 a2.2.1, Option.bind_some, if_neg (show ¬ w32 1 = 0 by decide), Option.bind_some, Option.bind_some, zd_l (mw_dr a1) (by omega) (by omega), Option.bind_some, h4d, hm, Option.bind_some, zd_l (mw_dr a1) (by omega) (by omega), Option.bind_some, zd_s (mw_dr a1) (by omega) (by omega), Option.bind_some, z8_r9 (mw_z b1), Option.bind_some, zd_l (mw_dr b1) (by omega) (by omega), Option.bind_some, ud_ne (by omega), h4d, hm, zd_s (mw_dr b1) (by omega) (by omega), Option.bind_some, Option.bind_some]
    · have hm8 : m = 8 := by omega
      refine Or.inl ⟨(-4, s), ?_, ?_⟩
      · intro h rr tx sp wC tk stp hls
        obtain ⟨h1, e1, f1⟩ := c_failF (c := -4) wC iv (h9 rr sp stp) tk.2.2.1
        refine ⟨h1, ?_, f1⟩
        show FX4_readStatement h 1 27 = _
        rw [hC h rr tx sp wC tk, hm8, if_neg (by decide), e1, Option.bind_some, if_pos (Or.inl rfl)]
      · intro Y rY g u wM ps h14 h15
        obtain ⟨g2, a1, a2, a3⟩ := hM Y rY g u wM ps
        obtain ⟨g3, e3, m3, -⟩ := m_report a1 a2.2.1 (c := -4) (p := s) (by omega)
        refine ⟨g3, ?_, MF_keep (keep_up (by omega)) m3⟩
        rw [a3]
        unfold FX8_readFence JX8_readFence_18
        rw [z8_O (mw_z a1), Option.bind_some, z8_r9 (mw_z a1), Option.bind_some, zd_l (mw_dr a1) (by omega) (by omega), Option.bind_some, h4d, hm, hm8, if_pos (show w32 ((8 : Nat) : Int) = w32 8 from rfl), e3, Option.bind_some, mf_bad m3, Option.bind_some, if_pos (show w32 0 = 0 by decide), Option.bind_some]
  have q4 := Bool.eq_false_iff.mpr w4
  by_cases w5 : wd f n s 5 = true
  · -- the length
    have hsn : s < n := kd_pos (f := f) (by rw [wd_kd w5]; decide)
    have hgt := nx_gt (f := f) hsn
    have hen : en f n s = s + 6 := by
      have := w5
      unfold wd at this
      rw [Bool.and_eq_true, decide_eq_true_iff] at this
      rw [this.1.2]
      rfl
    have hnx6 : s + 6 ≤ nx f n s := by
      have : en f n s ≤ nx f n s := rE_ge
      omega
    have hC : ∀ h rr tx sp, CWd X h S rr tx sp → TOK f n tx s → FX4_readStatement h 1 27 = if w32 (rr 5) = 0 then ((FX5_advance h 2).bind fun h11 => (pfi h11 4 1 5 1).bind fun h12 => (pfi h12 4 1 4 0).bind fun h13 => (FRRecS 40 0 h13 1 0).bind fun q14 => if q14.1 = 0 ∨ q14.1 = 1 then some (q14.1, q14.2) else none) else JX4_readStatement_94 h 1 := by
      intro h rr tx sp wC tk
      unfold FX4_readStatement
      rw [z1_O (cw_e1 wC), Option.bind_some, z1_r0 (cw_e1 wC), Option.bind_some, c_word wC tX tk (by omega), Option.bind_some, q1, if_neg Bool.false_ne_true, if_pos (show w32 0 = 0 by decide), Option.bind_some, c_word wC tX tk (by omega), Option.bind_some, q4, if_neg Bool.false_ne_true, if_pos (show w32 0 = 0 by decide), Option.bind_some, c_word wC tX tk (by omega), Option.bind_some, w5, if_pos rfl, if_neg (show ¬ w32 1 = 0 by decide), z1_i5 (cw_e1 wC), Option.bind_some, Option.bind_some]
    have hM : ∀ (Y : YM), RT Y f n → ∀ g u, MW Y g u dr → POS f n u s → ∃ g2, MW Y g2 (upf u 4 (en f n s : Nat)) dr ∧ POS f n (upf u 4 (en f n s : Nat)) (nx f n s) ∧ FX8_statement g 227 = (FX8_once g2 227 0 s).bind fun h8 => (gfr h8 8 227 9).bind fun x9 => (ast 0 h8 x9 6 1).bind fun h10 => (FRRecM 40 0 h10 227).bind fun h11 => JX8_statement_81 h11 227 := by
      intro Y rY g u wM ps
      obtain ⟨g1, a1, a2, a3⟩ := startM Y rY g u wM ps
      obtain ⟨g2, b1, b2⟩ := miss Y rY (by omega) q1 ps.1 ps.2.1 a1
      obtain ⟨g3, b3, b4⟩ := miss Y rY (by omega) q4 ps.1 ps.2.1 b2
      obtain ⟨g4, d1, d2, d3⟩ := hit Y rY (by omega) w5 ps.1 ps.2.1 b4
      refine ⟨g4, d2, d3, ?_⟩
      rw [a3, b1, Option.bind_some, if_pos (show w32 0 = 0 by decide), b3, Option.bind_some, if_pos (show w32 0 = 0 by decide), d1, Option.bind_some, if_neg (show ¬ w32 1 = 0 by decide)]
    rcases ex with ⟨e1, e2, e3, e4⟩ | ⟨e1, -⟩
    · -- the first one
      have pr : PRE n 0 (nx f n s) [] 0 0 := ⟨(nx_st hs).1, by omega, rfl, by omega, by simp; omega⟩
      have hC2 : ∀ h rr tx sp, CWd X h S rr tx sp → TOK f n tx s → rr 5 = ls → ∃ h1 tx1, CWd X h1 S (upf (upf rr 5 1) 4 0) tx1 sp ∧ TOK f n tx1 (nx f n s) ∧ STP (upf (upf rr 5 1) 4 0) sp [] ∧ tx1 1 = tx 1 ∧ FX4_readStatement h 1 27 = (FRRecS 40 0 h1 1 0).bind fun q14 => if q14.1 = 0 ∨ q14.1 = 1 then some (q14.1, q14.2) else none := by
        intro h rr tx sp wC tk hls
        obtain ⟨h1, tx1, a1, c1, t1, y1⟩ := c_adv wC tX tk.1 tk.2.2.2.1 (en_le hs)
        have c2 := cw_1 (x := upf rr 5 1) c1
        have c3 := cw_1 (x := upf (upf rr 5 1) 4 0) c2
        refine ⟨_, tx1, c3, t1, ⟨upf_eq, fun i hi => by simp at hi⟩, y1, ?_⟩
        rw [hC h rr tx sp wC tk, hls, e1, if_pos (show w32 0 = 0 by decide), a1, Option.bind_some, z1_w5 (cw_e1 c1), Option.bind_some, z1_w4 (cw_e1 c2), Option.bind_some]
      have hM2 : ∀ (Y : YM), RT Y f n → ∀ g u, MW Y g u dr → POS f n u s → u 15 = ls → ∃ g2 u2, MW Y g2 u2 (ud dr 6 1) ∧ POS f n u2 (nx f n s) ∧ u2 14 = u 14 ∧ u2 15 = 1 ∧ keepU u u2 ∧ FX8_statement g 227 = (FRRecM 40 0 g2 227).bind fun h11 => JX8_statement_81 h11 227 := by
        intro Y rY g u wM ps h15
        obtain ⟨g2, a1, a2, a3⟩ := hM Y rY g u wM ps
        have b1 := mw_8 (x := upf (upf u 4 (en f n s : Nat)) 15 1) a1
        have b2 := mw_d (x := ud dr 6 1) b1
        refine ⟨_, _, b2, ?_, by rw [upf_ne (by decide), upf_ne (by decide)], upf_eq, keep_trans (keep_up (by omega)) (keep_up (by omega)), ?_⟩
        · obtain ⟨k3, k5, q, k4, hq, hsq⟩ := a2
          exact ⟨by rw [upf_ne (by decide)]; exact k3, by rw [upf_ne (by decide)]; exact k5, q, by rw [upf_ne (by decide)]; exact k4, hq, hsq⟩
        · rw [a3]
          unfold FX8_once JX8_once_19
          rw [z8_O (mw_z a1), Option.bind_some, z8_i15 (mw_z a1), Option.bind_some, upf_ne (by decide), h15, e1, once_lit.2.1, if_neg (show ¬ w32 0 = w32 1 by decide), Option.bind_some, z8_w15 (mw_z a1), Option.bind_some, once_lit.2.2, Option.bind_some, z8_r9 (mw_z b1), Option.bind_some, zd_s (mw_dr b1) (by omega) (by omega), Option.bind_some]
      have cd0 : cds (ud dr 6 1) 0 [] := by unfold cds; rw [ud_ne (by omega)]; exact e4
      rcases exprOK tX 4 0 40 rfl (by omega) (nx f n s) [] 0 (nx_st hs) pr with ⟨q, jC, jM⟩ | ⟨s', l, ⟨r1, r2, r3, r4, r5⟩, jC, jM⟩
      · refine Or.inl ⟨q, ?_, ?_⟩
        · intro h rr tx sp wC tk stp hls
          obtain ⟨h1, tx1, c1, t1, st1, y1, a1⟩ := hC2 h rr tx sp wC tk hls
          obtain ⟨h2, b1, b2⟩ := jC h1 S _ tx1 sp c1 iv t1 st1
          have b1 : FRRecS 40 0 h1 1 0 = some (0, h2) := b1
          refine ⟨h2, ?_, by rw [← y1]; exact b2⟩
          show FX4_readStatement h 1 27 = _
          rw [a1, b1, Option.bind_some, if_pos (Or.inl rfl)]
        · intro Y rY g u wM ps h14 h15
          obtain ⟨g2, u2, w2, ps2, n2, se2, ku2, a2⟩ := hM2 Y rY g u wM ps h15
          obtain ⟨g3, b1, m3⟩ := jM Y rY g2 u2 _ w2 ps2 (by rw [n2, h14]; rfl) cd0
          have b1 : FRRecM 40 0 g2 227 = some g3 := b1
          refine ⟨g3, ?_, MF_keep ku2 m3⟩
          rw [a2, b1, Option.bind_some]
      · have h17 : (ud dr 6 1) 7 = 0 := by rw [ud_ne (by omega)]; exact e4
        have ak := app_keep (l := l) (d := ud dr 6 1) (by omega)
        have ac : cds (app (ud dr 6 1) l) 0 l := cds_app (ss := []) cd0 r5
        have k6 : app (ud dr 6 1) l 6 = 1 := by rw [ak 6 (by omega) (by omega), ud_eq]
        have pf' : PF S (app (ud dr 6 1) l) := pf_kd pf (fun i h1 h2 h3 => by rw [ak i h1 h3, ud_ne h2])
        by_cases hs' : st f n s'
        · refine Or.inr ⟨s', S, app (ud dr 6 1) l, 1, l, by omega, hs', pf', Or.inr ⟨rfl, k6, ac, r4, r5, by omega⟩, ?_, ?_⟩
          · intro h rr tx sp wC tk stp hls
            obtain ⟨h1, tx1, c1, t1, st1, y1, a1⟩ := hC2 h rr tx sp wC tk hls
            obtain ⟨h2, rr2, tx2, sp2, b1, b2, b3, b4, b5, b6⟩ := jC h1 S _ tx1 sp c1 iv t1 st1
            have b1 : FRRecS 40 0 h1 1 0 = some (1, h2) := b1
            refine ⟨h2, rr2, tx2, sp2, ?_, b2, b3, b4, by rw [b6, upf_ne (by decide), upf_eq], by rw [b5, y1]⟩
            show FX4_readStatement h 1 27 = _
            rw [a1, b1, Option.bind_some, if_pos (Or.inr rfl)]
          · intro Y rY g u wM ps h14 h15
            obtain ⟨g2, u2, w2, ps2, n2, se2, ku2, a2⟩ := hM2 Y rY g u wM ps h15
            obtain ⟨g3, u3, dr3, b1, b2, b3, b4, b5, b6, b7, b8, b9⟩ := jM Y rY g2 u2 _ w2 ps2 (by rw [n2, h14]; rfl) cd0
            have b1 : FRRecM 40 0 g2 227 = some g3 := b1
            refine ⟨g3, u3, ?_, by rw [← b9]; exact b2, b3, b4, by rw [b5, se2], keep_trans ku2 b6⟩
            rw [a2, b1, Option.bind_some]
        · refine Or.inl ⟨(0, 0), ?_, ?_⟩
          · intro h rr tx sp wC tk stp hls
            obtain ⟨h1, tx1, c1, t1, st1, y1, a1⟩ := hC2 h rr tx sp wC tk hls
            obtain ⟨h2, rr2, tx2, sp2, b1, b2, b3, b4, b5, b6⟩ := jC h1 S _ tx1 sp c1 iv t1 st1
            exact absurd b3.2.2.2.2.2 hs'
          · intro Y rY g u wM ps h14 h15
            obtain ⟨g2, u2, w2, ps2, n2, se2, ku2, a2⟩ := hM2 Y rY g u wM ps h15
            obtain ⟨g3, u3, dr3, b1, b2, b3, b4, b5, b6, b7, b8, b9⟩ := jM Y rY g2 u2 _ w2 ps2 (by rw [n2, h14]; rfl) cd0
            exact absurd (pos_st b3) hs'
    · -- a second one
      refine Or.inl ⟨(-2, s), ?_, ?_⟩
      · intro h rr tx sp wC tk stp hls
        obtain ⟨h1, a1, f1⟩ := c_failF (c := -2) wC iv (h9 rr sp stp) tk.2.2.1
        refine ⟨h1, ?_, f1⟩
        show FX4_readStatement h 1 27 = _
        rw [hC h rr tx sp wC tk, hls, e1, if_neg (show ¬ w32 1 = 0 by decide)]
        unfold JX4_readStatement_94
        rw [a1, Option.bind_some, if_pos (Or.inl rfl)]
      · intro Y rY g u wM ps h14 h15
        obtain ⟨g2, a1, a2, a3⟩ := hM Y rY g u wM ps
        obtain ⟨g3, b1, m3, w3⟩ := m_report a1 a2.2.1 (c := -2) (p := s) (by omega)
        generalize hv : upf (upf (upf u 4 (en f n s : Nat)) 5 (-2)) 6 (s : Nat) = v at w3
        have v5 : v 5 = -2 := by rw [← hv]; simp [upf]
        have v6 : v 6 = s := by rw [← hv]; simp [upf]
        have v15 : v 15 = 1 := by rw [← hv]; simp [upf]; rw [h15, e1]
        have kv : keepU u v := by rw [← hv]; exact keep_trans (keep_up (by omega)) (keep_rep (by omega))
        have w4 := mw_8 (x := upf v 15 (orI (v 15) (shlI 1 0))) w3
        have w5 := mw_d (x := ud dr 6 1) w4
        have m5 : MF Y _ u (-2, s) := ⟨_, _, w5, by rw [upf_ne (by decide)]; exact v5, by rw [upf_ne (by decide)]; exact v6, by omega, keep_trans kv (keep_up (by omega))⟩
        refine ⟨_, ?_, m5⟩
        rw [a3]
        unfold FX8_once JX8_once_19
        rw [z8_O (mw_z a1), Option.bind_some, z8_i15 (mw_z a1), Option.bind_some, upf_ne (by decide), h15, e1, once_lit.1, if_pos rfl, b1, Option.bind_some, z8_i15 (mw_z w3), Option.bind_some, z8_w15 (mw_z w3), Option.bind_some, Option.bind_some, z8_r9 (mw_z w4), Option.bind_some, zd_s (mw_dr w4) (by omega) (by omega), Option.bind_some, mf_sum (N := 37) m5, Option.bind_some]
  -- no statement
  have q5 := Bool.eq_false_iff.mpr w5
  refine Or.inl ⟨(-2, s), ?_, ?_⟩
  · intro h rr tx sp wC tk stp hls
    obtain ⟨h1, a1, f1⟩ := c_failF (c := -2) wC iv (h9 rr sp stp) tk.2.2.1
    refine ⟨h1, ?_, f1⟩
    show FX4_readStatement h 1 27 = _
    unfold FX4_readStatement JX4_readStatement_94
    rw [z1_O (cw_e1 wC), Option.bind_some, z1_r0 (cw_e1 wC), Option.bind_some, c_word wC tX tk (by omega), Option.bind_some, q1, if_neg Bool.false_ne_true, if_pos (show w32 0 = 0 by decide), Option.bind_some, c_word wC tX tk (by omega), Option.bind_some, q4, if_neg Bool.false_ne_true, if_pos (show w32 0 = 0 by decide), Option.bind_some, c_word wC tX tk (by omega), Option.bind_some, q5, if_neg Bool.false_ne_true, if_pos (show w32 0 = 0 by decide), a1, Option.bind_some, if_pos (Or.inl rfl)]
  · intro Y rY g u wM ps h14 h15
    obtain ⟨g1, a1, a2, a3⟩ := startM Y rY g u wM ps
    obtain ⟨g2, b1, b2⟩ := miss Y rY (by omega) q1 ps.1 ps.2.1 a1
    obtain ⟨g3, b3, b4⟩ := miss Y rY (by omega) q4 ps.1 ps.2.1 b2
    obtain ⟨g4, b5, b6⟩ := miss Y rY (by omega) q5 ps.1 ps.2.1 b4
    obtain ⟨g5, b7, m5, -⟩ := m_report b6 (by rw [upf_ne (by decide)]; exact ps.2.1) (c := -2) (p := s) (by omega)
    refine ⟨g5, ?_, MF_keep (keep_up (by omega)) m5⟩
    rw [a3, b1, Option.bind_some, if_pos (show w32 0 = 0 by decide), b3, Option.bind_some, if_pos (show w32 0 = 0 by decide), b5, Option.bind_some, if_pos (show w32 0 = 0 by decide), b7, Option.bind_some]
/-- a statement with its mark -/
theorem stmtOK {S : MM} {dr : Int → Int} {ls : Int} {ss : List Int} {s : Nat} (tX : TX X f n) (pf : PF S dr) (ex : EXS ls ss dr) (hst : st f n s) :
    (∃ q, SC X f n RCs s S ls ss q ∧ SM f n (fun g => FX8_statement g 227) s dr ls q) ∨
    (∃ s' S' dr' ls' ss', s < s' ∧ st f n s' ∧ PF S' dr' ∧ EXS ls' ss' dr' ∧ SCs X f n RCs s S ls ss s' S' ls' ss' ∧ SMs f n (fun g => FX8_statement g 227) s dr ls s' dr' ls') := by
  rcases stmt1 tX pf ex hst with ⟨q, jC, jM⟩ | ⟨s1, S1, dr1, l1, ss1, r1, r2, r3, r4, jC, jM⟩
  · refine Or.inl ⟨q, ?_, ?_⟩
    · intro h rr tx sp wC tk stp hls
      obtain ⟨h1, a1, f1⟩ := jC h rr tx sp wC tk stp hls
      have a1 : FX4_readStatement h 1 27 = some (0, h1) := a1
      refine ⟨h1, ?_, f1⟩
      unfold RCs
      rw [a1, Option.bind_some, if_pos (show w32 0 = 0 by decide)]
    · intro Y rY g u wM ps h14 h15
      obtain ⟨g1, a1, m1⟩ := jM Y rY g u wM ps h14 h15
      refine ⟨g1, ?_, m1⟩
      show FX8_statement g 227 = _
      rw [a1]
      unfold JX8_statement_81
      rw [mf_expect m1, Option.bind_some]
  · have hl := exs_len r4
    by_cases cm : kd f n s1 = 3 ∧ f s1 = 59
    · have hs1 : s1 < n := kd_pos (f := f) (by rw [cm.1]; decide)
      have hgt := nx_gt (f := f) hs1
      refine Or.inr ⟨nx f n s1, S1, dr1, l1, ss1, by omega, nx_st r2.1, r3, r4, ?_, ?_⟩
      · intro h rr tx sp wC tk stp hls
        obtain ⟨h1, rr1, tx1, sp1, a1, c1, t1, st1, z1, y1⟩ := jC h rr tx sp wC tk stp hls
        have a1 : FX4_readStatement h 1 27 = some (1, h1) := a1
        rcases c_tmark c1 tX r3.1 (stp_len st1 (by omega)) t1 (m := 59) (by omega) with ⟨b0, -⟩ | ⟨-, h2, tx2, b1, b2, b3, b4⟩
        · exact absurd cm b0
        · refine ⟨h2, rr1, tx2, sp1, ?_, b2, b3, st1, z1, by rw [b4, y1]⟩
          unfold RCs
          rw [a1, Option.bind_some, if_neg (show ¬ w32 1 = 0 by decide)]
          exact b1
      · intro Y rY g u wM ps h14 h15
        obtain ⟨g1, u1, a1, w1, ps1, n1, se1, ku1⟩ := jM Y rY g u wM ps h14 h15
        rcases m_expect w1 rY ps1 (c := 59) (by omega) with ⟨b0, -⟩ | ⟨-, g2, u2, b1, b2, b3, b4, b5, b6⟩
        · exact absurd cm b0
        · refine ⟨g2, u2, ?_, b2, b3, by rw [b5, n1], by rw [b6, se1], keep_trans ku1 b4⟩
          show FX8_statement g 227 = _
          rw [a1]
          unfold JX8_statement_81
          rw [b1, Option.bind_some]
    · refine Or.inl ⟨(-2, s1), ?_, ?_⟩
      · intro h rr tx sp wC tk stp hls
        obtain ⟨h1, rr1, tx1, sp1, a1, c1, t1, st1, z1, y1⟩ := jC h rr tx sp wC tk stp hls
        have a1 : FX4_readStatement h 1 27 = some (1, h1) := a1
        rcases c_tmark c1 tX r3.1 (stp_len st1 (by omega)) t1 (m := 59) (by omega) with ⟨-, h2, b1, b2⟩ | ⟨b0, -⟩
        · refine ⟨h2, ?_, by rw [← y1]; exact b2⟩
          unfold RCs
          rw [a1, Option.bind_some, if_neg (show ¬ w32 1 = 0 by decide)]
          exact b1
        · exact absurd b0 cm
      · intro Y rY g u wM ps h14 h15
        obtain ⟨g1, u1, a1, w1, ps1, n1, se1, ku1⟩ := jM Y rY g u wM ps h14 h15
        rcases m_expect w1 rY ps1 (c := 59) (by omega) with ⟨-, g2, b1, b2⟩ | ⟨b0, -⟩
        · refine ⟨g2, ?_, MF_keep ku1 b2⟩
          show FX8_statement g 227 = _
          rw [a1]
          unfold JX8_statement_81
          rw [b1, Option.bind_some]
        · exact absurd b0 cm
end
