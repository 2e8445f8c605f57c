set_option linter.unusedVariables false
set_option linter.unusedSimpArgs false
/-! ===== load ===== -/
section
variable {h : PH} {M S : MM} {Mk : Nat → MM} {e nx ct : Int} {rr tx bs sp u bf : Nat → Int} {d dr df : Int → Int} {dh : Nat → Int → Int}
def yof (h : PH) (M S : MM) (Mk : Nat → MM) (e nx ct : Int) (rr tx bs sp bf : Nat → Int) (d df : Int → Int) (dh : Nat → Int → Int) : YM := ((M, S, Mk), (e, nx, ct), (rr, tx, bs, sp, bf), (d, df), dh, h[243]?)
def zd0 (dr : Int → Int) (i : Nat) : Int → Int := fun j => if 0 ≤ j ∧ j < i then 0 else dr j
theorem zd0_s {dr : Int → Int} {i : Nat} : ud (zd0 dr i) (i : Int) 0 = zd0 dr (i + 1) := by
  funext j
  unfold ud zd0
  by_cases c : j = i
  · rw [if_pos c, if_pos (by omega)]
  · rw [if_neg c]
    by_cases c2 : 0 ≤ j ∧ j < i
    · rw [if_pos c2, if_pos (by omega)]
    · rw [if_neg c2, if_neg (by omega)]
theorem m_zero {Y : YM} (w : MW Y h u dr) : ∃ h', lp (fun st : Int × PH => LX8_load_69 227 st.1 st.2) FU (0, h) = some h' ∧ MW Y h' u (zd0 dr 1824) := by
  refine lp_for (f := fun st : Int × PH => LX8_load_69 227 st.1 st.2) (fun i s => s.1 = (i : Nat) ∧ MW Y s.2 u (zd0 dr i)) _ (a := 0) (b := 1824) (s := (0, h)) (by omega) (by omega) ⟨rfl, ?_⟩ (fun i s h1 h2 hI => ?_) (fun s hI => ?_)
  · rw [show zd0 dr 0 = dr by funext j; unfold zd0; rw [if_neg (by omega)]]
    exact w
  · obtain ⟨a1, a2⟩ := hI
    have w2 := mw_d (x := zd0 dr (i + 1)) a2
    refine Or.inr ⟨(((i + 1 : Nat) : Int), _), ?_, rfl, w2⟩
    unfold LX8_load_69
    rw [a1, w32_nat (by omega), show w32 1824 = 1824 from rfl, if_pos (by omega), z8_r9 (mw_z a2), Option.bind_some, zd_s (mw_dr a2) (by omega) (by omega), Option.bind_some, zd0_s]
    rfl
  · obtain ⟨a1, a2⟩ := hI
    refine ⟨s.2, ?_, a2⟩
    unfold LX8_load_69
    rw [a1, if_neg (by decide)]
/-- the reference before the queue line -/
theorem m_head {t : Int} {x : Nat} (w : WS h M S Mk e nx ct rr tx bs sp u bf d dr df dh) (hu : u 2 = t) (ht : 0 ≤ t ∧ t ≤ 900) (hx : (x : Int) ≤ t) : ∃ g u', FX8_load h 227 x = RQ g ∧ MW (yof h M S Mk e nx ct rr tx bs sp bf d df dh) g u' d00 ∧ u' 0 = 0 ∧ u' 2 = 0 ∧ u' 3 = x ∧ u' 4 = 0 ∧ u' 5 = 0 ∧ u' 6 = -1 ∧ u' 14 = 0 ∧ u' 15 = 0 ∧ u' 12 = u 12 := by
  have m0 : MW (yof h M S Mk e nx ct rr tx bs sp bf d df dh) h u dr := ⟨w, rfl⟩
  have m1 := mw_8 (x := upf u 0 0) m0
  have m2 := mw_8 (x := upf (upf u 0 0) 2 0) m1
  have m3 := mw_8 (x := upf (upf (upf u 0 0) 2 0) 3 x) m2
  have m4 := mw_8 (x := upf (upf (upf (upf u 0 0) 2 0) 3 x) 4 0) m3
  have m5 := mw_8 (x := upf (upf (upf (upf (upf u 0 0) 2 0) 3 x) 4 0) 5 0) m4
  have m6 := mw_8 (x := upf (upf (upf (upf (upf (upf u 0 0) 2 0) 3 x) 4 0) 5 0) 6 (-1)) m5
  have m7 := mw_8 (x := upf (upf (upf (upf (upf (upf (upf u 0 0) 2 0) 3 x) 4 0) 5 0) 6 (-1)) 14 0) m6
  have m8 := mw_8 (x := upf (upf (upf (upf (upf (upf (upf (upf u 0 0) 2 0) 3 x) 4 0) 5 0) 6 (-1)) 14 0) 15 0) m7
  obtain ⟨h9, e9, m9⟩ := m_zero m8
  have m10 := mw_d (x := d00) m9
  have hd : dcell (clc (zd0 dr 1824) 4) = dcell d00 := dcell_congr (fun i h0 h1 => by
    unfold d00 clc
    rw [show zd0 dr 1824 i = 0 by unfold zd0; rw [if_pos ⟨h0, h1⟩]])
  refine ⟨_, _, ?_, m10, by simp [upf], by simp [upf], by simp [upf], by simp [upf], by simp [upf], by simp [upf], by simp [upf], by simp [upf], by simp [upf]⟩
  unfold FX8_load JX8_load_23
  rw [z8_O (mw_z m0), Option.bind_some, z8_w0 (mw_z m0), Option.bind_some, z8_i2 (mw_z m1), Option.bind_some, upf_ne (show 2 ≠ 0 by decide), hu, m_in (by omega) (by omega) (by omega), Option.bind_some, if_pos (show (0 : Int) ≤ x ∧ (x : Int) ≤ t by omega), if_neg (show ¬ w32 1 = 0 by decide), m_fails0 (mw_z m1) upf_eq, Option.bind_some, if_pos (show w32 0 = 0 by decide)]
  dsimp only
  rw [z8_w2 (mw_z m1), Option.bind_some, z8_w3 (mw_z m2), Option.bind_some, z8_w4 (mw_z m3), Option.bind_some, z8_w5 (mw_z m4), Option.bind_some, z8_w6 (mw_z m5), Option.bind_some, z8_w14 (mw_z m6), Option.bind_some, z8_w15 (mw_z m7), Option.bind_some, e9, Option.bind_some, z8_r9 (mw_z m9), Option.bind_some, m_clear (mw_dr m9), Option.bind_some, hd]
  rfl
end
section
variable {h : PH} {xs : Nat → Int} {L : Nat} {v4 : Int}
theorem k_load {x : Int} (hx : -2147483648 ≤ x ∧ x < 2147483648) (w : Wld h) : ∃ h', (FL_load h 0 x 243).bind (fun q2 => (FX8_load q2.2 227 x).bind (LCk q2.1)) = some h' ∧ Wld h' := by
  obtain ⟨M, S, Mk, e, n, k, rr, tx, bs, sp, u, bf, d, dr, df, dh, w, r⟩ := w
  have len := w_len w
  have r' := r
  obtain ⟨r1, r2, r3, r4, r5, r6, ⟨r7, r8, r9⟩, r10, r11⟩ := r
  have hgd : gdL h h [0, 243] = some () := gdL_ok (Nat.le_refl _) (by intro v hv; simp at hv; omega)
  have hgd0 : gdL h h [0] = some () := gdL_ok (Nat.le_refl _) (by intro v hv; simp at hv; omega)
  by_cases c : 0 ≤ x ∧ x ≤ tx 1
  · obtain ⟨N, hN⟩ := Int.eq_ofNat_of_zero_le c.1
    subst hN
    have tX : TX (M, Mk, (e, (n : Int), (k : Int)), (bs, u, bf), (d, dr, df), dh, h.length) bf N := ⟨by omega, r6, fun i hi => by have := r6 i hi; unfold byR at this; obtain ⟨a1, a2⟩ := this; split at a2 <;> omega⟩
    have bfr : ∀ i, i < 900 → 0 ≤ bf i ∧ bf i ≤ 255 := tX.2.2
    have wc : CWd (M, Mk, (e, (n : Int), (k : Int)), (bs, u, bf), (d, dr, df), dh, h.length) h S rr tx sp := ⟨w, rfl⟩
    have E : FX7_load h 0 N = (FX4_readSetup h 1 N 27).bind fun q7 =>
      (gfr q7.2 7 0 0).bind fun x8 =>
      (gfr q7.2 4 x8 0).bind fun x9 =>
      (pfi q7.2 5 x9 1 0).bind fun h10 =>
      if w32 q7.1 = 0 then (
        (gfr h10 7 0 0).bind fun x21 =>
        (gfi h10 4 x21 2).bind fun x22 =>
        (pfi h10 7 0 4 x22).bind fun h23 =>
        (gfr h23 7 0 0).bind fun x24 =>
        (gfi h23 4 x24 1).bind fun x25 =>
        some (0, x25, h23)
      ) else (
        (pfi h10 7 0 4 (-1)).bind fun h11 =>
        (gfr h11 7 0 3).bind fun x12 =>
        (gfr h11 7 0 1).bind fun x13 =>
        (FX2_remember h11 x12 x13).bind fun h14 =>
        (gfr h14 7 0 1).bind fun x15 =>
        (gfr h14 7 0 2).bind fun x16 =>
        (FX3_copyFrom h14 x15 x16).bind fun h17 =>
        (gfr h17 7 0 1).bind fun x18 =>
        (gfr h17 3 x18 0).bind fun x19 =>
        (gfi h17 6 x19 0).bind fun x20 =>
        some (0, x20, h17)) := by
      unfold FX7_load
      rw [z0_O (w_e0 w), Option.bind_some, w32_eq (x := (N : Int)) (by omega) (by omega), if_neg (by omega), z0_r0 (w_e0 w), Option.bind_some, z1_r0 (w_e1 w), Option.bind_some, z2_i1 (w_e2 w), Option.bind_some, w32_eq (x := tx 1) (by omega) (by omega), if_neg (by omega), Option.bind_some, z0_r2 (w_e0 w), Option.bind_some, hgd0, Option.bind_some]
    have ps : ∀ u' : Nat → Int, u' 3 = N → u' 4 = 0 → u' 5 = 0 → POS bf N u' (skS bf N 0) := fun u' a b c => ⟨a, c, 0, b, by omega, rfl⟩
    rcases setupOK tX r2 with ⟨q, sC, sM⟩ | ⟨S', dr', pr, sC, sM⟩
    · obtain ⟨h1, a1, S1, rr1, tx1, sp1, w1, i1, j1, j2, j3, -⟩ := sC h rr tx sp wc
      have w1 : WS h1 M S1 Mk e (n : Nat) (k : Nat) rr1 tx1 bs sp1 u bf d dr df dh := w1.1
      have w2 := ws_2 (x := upf tx1 1 0) w1
      have w3 := ws_0 (x := (q.2 : Nat)) w2
      obtain ⟨o, ho⟩ := w_g243 w3
      have w4 := ws_243 (x := w32 q.1) w3
      obtain ⟨g5, u5, e5, m5, v0, v2, v3, v4, v5, v6, v14, v15, v12⟩ := m_head (x := N) w4 r4 r5 c.2
      obtain ⟨g6, e6, m6⟩ := sM _ ⟨tX.1, rfl, bfr⟩ g5 u5 m5 (ps u5 v3 v4 v5) v14 v15
      obtain ⟨u6, dr6, w6, k1, k2, k3, k4⟩ := m6
      have w7 := mw_8 (x := upf u6 7 (u6 6)) w6
      have E8 : JX8_load_181 g6 227 = some (q.1, g6.set 227 (mdl (upf u6 7 (u6 6)))) := by
        unfold JX8_load_181
        rw [z8_i6 (mw_z w6), Option.bind_some, z8_w7 (mw_z w6), Option.bind_some, m_bad w7 (by rw [upf_ne (by decide), k1]; exact k3), Option.bind_some, if_pos (show w32 0 = 0 by decide), z8_i5 (mw_z w7), Option.bind_some, upf_ne (by decide), k1]
      have E1 : FL_load h 0 N 243 = some (0, ((h1.set 2 (c2 (upf tx1 1 0))).set 0 (c0 (q.2 : Nat))).set 243 (c243 (w32 q.1))) := by
        unfold FL_load
        rw [hgd, Option.bind_some, E, a1, Option.bind_some]
        dsimp only
        rw [z0_r0 (w_e0 w1), Option.bind_some, z1_r0 (w_e1 w1), Option.bind_some, z2_w1 (w_e2 w1), Option.bind_some, if_pos (show w32 0 = 0 by decide), z0_r0 (w_e0 w2), Option.bind_some, z1_i2 (w_e1 w2), Option.bind_some, j2, z0_w4 (w_e0 w2), Option.bind_some, z0_r0 (w_e0 w3), Option.bind_some, z1_i1 (w_e1 w3), Option.bind_some, Option.bind_some, j1]
        dsimp only
        rw [if_pos rfl, z243_s ho, Option.bind_some]
      rw [E1, Option.bind_some]
      dsimp only
      rw [e5, e6, E8, Option.bind_some]
      refine ⟨_, lck_ok (mw_z w7) (by rw [upf_ne (by decide), k4.1, v0]) (fun _ => ?_), M, S1, Mk, (q.2 : Nat), n, k, rr1, upf tx1 1 0, bs, sp1, _, bf, d, _, df, dh, w7.1, r1, i1, ?_, ?_, ?_, r6, ⟨r7, r8, ?_⟩, r10, r11⟩
      · rw [w7.2]
        show (List.set _ 243 _)[243]? = _
        rw [List.getElem?_set, if_pos rfl, if_pos (by have := w_len w3; omega)]
      · rw [upf_eq, k2]
      · rw [upf_ne (by decide), k4.2.1, v2]; exact upf_eq.symm
      · show 0 ≤ upf tx1 1 0 1 ∧ upf tx1 1 0 1 ≤ 900
        rw [upf_eq]; omega
      · rw [upf_ne (by decide), k4.2.2.2.2.1, v12, r9]
    · obtain ⟨h1, rr1, tx1, sp1, a1, w1, y1⟩ := sC h rr tx sp wc
      have w2 := ws_2 (x := upf tx1 1 0) w1
      have w3 := ws_0 (x := -1) w2
      obtain ⟨h4, a4, w4⟩ := k_rem w3 r1.1 r7 r8
      have cp := k_cpy (w_a5 w4) (w_a27 w4) (by unfold apart; omega) (w_f27 w4) pr.1.1.2.1.2.2.2.2.2
      have w5 := ws_M (N := cpM M S') w4 (FM_congr (by rw [cp_ne (by decide)]) (cp_ne (by decide)) (w_f27 w4))
      obtain ⟨o, ho⟩ := w_g243 w5
      have w6 := ws_243 (x := w32 (S' 1 0)) w5
      obtain ⟨g7, u7, e7, m7, v0, v2, v3, v4, v5, v6, v14, v15, v12⟩ := m_head (x := N) w6 r4 r5 c.2
      obtain ⟨g8, u8, e8, m8, s5, k4⟩ := sM _ ⟨tX.1, rfl, bfr⟩ g7 u7 m7 (ps u7 v3 v4 v5) v14 v15
      have m9 := mw_8 (x := upf u8 7 (u8 6)) m8
      obtain ⟨h10, a10, w10, y10⟩ := k_mrem m9.1 r8 (by rw [upf_ne (by decide), k4.2.2.2.2.1, v12]; exact r9)
      have w11 := ws_229 (x := dr') w10
      have hd3 : dr' 3 = S' 1 0 := pr.2.1.1.2.2.2.1
      have E8 : JX8_load_181 g8 227 = some (dr' 3, h10.set 229 (dcell dr')) := by
        unfold JX8_load_181
        rw [z8_i6 (mw_z m8), Option.bind_some, z8_w7 (mw_z m8), Option.bind_some, m_good m9 (by rw [upf_ne (by decide), s5]), Option.bind_some, if_neg (show ¬ w32 1 = 0 by decide), a10, Option.bind_some, z8_r9 (w_g227 w10), Option.bind_some, z8_r8 (w_g227 w10), Option.bind_some, m_copy (w_g230 w10) (w_g229 w10) (by omega), Option.bind_some, z8_r8 (w_g227 w11), Option.bind_some, zd_l (w_g229 w11) (by omega) (by omega), Option.bind_some]
      have E1 : FL_load h 0 N 243 = some (0, (putM h4 5 (cpM M S')).set 243 (c243 (w32 (S' 1 0)))) := by
        unfold FL_load
        rw [hgd, Option.bind_some, E, a1, Option.bind_some]
        dsimp only
        rw [z0_r0 (w_e0 w1), Option.bind_some, z1_r0 (w_e1 w1), Option.bind_some, z2_w1 (w_e2 w1), Option.bind_some, if_neg (show ¬ w32 1 = 0 by decide), z0_w4 (w_e0 w2), Option.bind_some, z0_r3 (w_e0 w3), Option.bind_some, z0_r1 (w_e0 w3), Option.bind_some, a4, Option.bind_some, z0_r1 (w_e0 w4), Option.bind_some, z0_r2 (w_e0 w4), Option.bind_some, cp, Option.bind_some, z0_r1 (w_e0 w5), Option.bind_some, b5_gfr0_0 (w_a5 w5), Option.bind_some, b5_gfi1_0 (w_a5 w5), Option.bind_some, Option.bind_some, cp_ne (by decide)]
        dsimp only
        rw [if_pos rfl, z243_s ho, Option.bind_some]
      rw [E1, Option.bind_some]
      dsimp only
      rw [e7, e8, E8, Option.bind_some]
      have pm := pair_10 (M' := cpM M S') (fun x hx => cp_ne hx) pr
      have wm := WR_mut (x := 0) r' pm
      obtain ⟨q1, q2, q3, q4, q5, q6, ⟨q7, q8, q9⟩, q10, q11⟩ := wm
      refine ⟨_, lck_ok (w_g227 w11) ?_ (fun _ => ?_), cpM M S', S', _, -1, nxt n, cup k, rr1, upf tx1 1 0, bs, sp1, _, bf, dr', dr', df, _, w11, pm, pr.1, ?_, ?_, ?_, r6, ⟨q7, q8, upf_eq⟩, q10, q11⟩
      · rw [upf_ne (by decide), upf_ne (by decide), k4.1, v0]
      · rw [List.getElem?_set, if_neg (by decide), y10, m9.2, hd3]
        show (List.set _ 243 _)[243]? = _
        rw [List.getElem?_set, if_pos rfl, if_pos (by have := w_len w5; omega)]
      · rw [upf_ne (by decide), upf_eq, (k4.2.2.2.2.2 s5).2, v6]
      · rw [upf_ne (by decide), upf_ne (by decide), k4.2.1, v2]; exact upf_eq.symm
      · show 0 ≤ upf tx1 1 0 1 ∧ upf tx1 1 0 1 ≤ 900
        rw [upf_eq]; omega
  · have E : FX7_load h 0 x = some (2, 0, h) := by
      unfold FX7_load JX7_load_18
      rw [z0_O (w_e0 w), Option.bind_some, w32_eq hx.1 hx.2]
      by_cases c2 : x < 0
      · rw [if_pos c2]
      · rw [if_neg c2, z0_r0 (w_e0 w), Option.bind_some, z1_r0 (w_e1 w), Option.bind_some, z2_i1 (w_e2 w), Option.bind_some, w32_eq (by omega) (by omega), if_pos (by omega)]
    have E1 : FL_load h 0 x 243 = some (1, h) := by
      unfold FL_load
      rw [hgd, Option.bind_some, E, Option.bind_some]
      dsimp only
      rw [if_neg (by decide), if_pos rfl]
    rw [E1, Option.bind_some]
    have w2 := ws_227 (x := upf u 0 0) w
    have w3 := ws_227 (x := upf (upf u 0 0) 0 1) w2
    unfold FX8_load JX8_load_23
    dsimp only
    rw [z8_O (w_g227 w), Option.bind_some, z8_w0 (w_g227 w), Option.bind_some, z8_i2 (w_g227 w2), Option.bind_some, upf_ne (show 2 ≠ 0 by decide), r4, m_in hx (by omega) (by omega), Option.bind_some, if_neg c, if_pos (show w32 0 = 0 by decide), m_fails1 (w_g227 w2) upf_eq (by omega), Option.bind_some, if_neg (show ¬ w32 1 = 0 by decide), Option.bind_some]
    exact ⟨_, lck_ok (w_g227 w3) upf_eq (fun q => absurd q (by decide)), M, S, Mk, e, n, k, rr, tx, bs, sp, _, bf, d, dr, df, dh, w3, WR_u (WR_u r')⟩
theorem lc1 (hs : ∀ j, j < L → -2147483648 ≤ xs j ∧ xs j < 2147483648) (h0 : 0 ≤ v4) (hL : v4 + 6 ≤ L) (w : Wld h) : ∃ h', LC1 xs L 0 227 243 v4 h = some h' ∧ Wld h' := by
  obtain ⟨x1, hx1, hr1⟩ := sld_ok (i := v4 + 1) hs (by omega) (by omega)
  obtain ⟨h', e1, e2⟩ := k_load hr1 w
  have hl : 244 ≤ h.length := by
    obtain ⟨M, S, Mk, e, n, k, rr, tx, bs, sp, u, bf, d, dr, df, dh, w, r⟩ := w
    exact w_len w
  refine ⟨h', ?_, e2⟩
  unfold LC1
  simp only [hx1, Option.bind_some]
  rw [gdL_ok (Nat.le_refl _) (by intro v hv; simp at hv; omega), Option.bind_some]
  exact e1
end
