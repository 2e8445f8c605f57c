set_option linter.unusedVariables false
set_option linter.unusedSimpArgs false
section
variable {h : PH} {xs : Nat → Int} {L : Nat} {v4 : Int}
theorem k_pause {x b : Int} (hr : -2147483648 ≤ x ∧ x < 2147483648) (hb : b = 0 ∨ b = 1) (w : Wld h) : ∃ h', (FL_pause h 0 x b 243).bind (fun q => (FX8_pause q.2 227 x b).bind (LCb q.1)) = some h' ∧ Wld h' := by
  obtain ⟨M, S, Mk, e, n, k, rr, tx, bs, sp, u, bf, d, dr, df, dh, w, r⟩ := w
  have iv := r.1.1
  have rl := r.1.2.1
  have hC := iv.1.2.1.1
  have z := w_g227 w
  have w4 := ws_227 (x := upf u 0 0) w
  have z4 := w_g227 w4
  unfold FL_pause
  by_cases c : 0 ≤ x ∧ x < M 11 0
  · obtain ⟨t, ht⟩ := Int.eq_ofNat_of_zero_le c.1
    have hpb := iv.1.2.1.2.2.2.2.2 t (by omega)
    obtain ⟨h1, e1, w1⟩ := k_rem w iv r.2.2.2.2.2.2.1.1 r.2.2.2.2.2.2.1.2.1
    have w2 := ws_M (N := up M 18 t b) w1 (FM_congr (by rw [up_ne (by decide)]) (up_ne (by decide)) (w_f5 w1))
    obtain ⟨x0, zx⟩ := w_g243 w2
    have w3 := ws_243 (x := M 18 t) w2
    have eA : FX7_pause h 0 x b = some (0, M 18 t, putM h1 5 (up M 18 t b)) := by
      unfold FX7_pause
      rw [z0_O (w_e0 w), Option.bind_some, r_rC (w_e0 w) (w_a5 w) hr hC, Option.bind_some, if_pos c, if_pos rfl, z0_r3 (w_e0 w), Option.bind_some, z0_r1 (w_e0 w), Option.bind_some, e1, Option.bind_some, z0_r1 (w_e0 w1), Option.bind_some, b5_gfr0_1 (w_a5 w1), Option.bind_some, b5_gfr11_9 (w_a5 w1), Option.bind_some, b5_a18 (w_a5 w1) (by omega) (by omega), Option.bind_some, Option.bind_some, b5_gfr0_1 (w_a5 w1), Option.bind_some, b5_gfr11_9 (w_a5 w1), Option.bind_some, b5_s18 (w_a5 w1) (by omega) (by omega) (by omega) (by omega), Option.bind_some, ht, Int.toNat_natCast, if_pos hpb]
    have eA2 : (if w32 (M 18 t) = 0 then ((ast 3 (putM h1 5 (up M 18 t b)) 243 0 0).bind fun h2 => some ((0 : Int), h2)) else ((ast 3 (putM h1 5 (up M 18 t b)) 243 0 1).bind fun h2 => some (0, h2))) = some (0, (putM h1 5 (up M 18 t b)).set 243 (c243 (M 18 t))) := by
      rcases hpb with q | q
      · rw [q, if_pos (show w32 0 = 0 by decide), z243_s zx, Option.bind_some]
      · rw [q, if_neg (show ¬ w32 1 = 0 by decide), z243_s zx, Option.bind_some]
    rw [eA, Option.bind_some, if_pos rfl]
    dsimp only
    rw [eA2, Option.bind_some]
    dsimp only
    have z := w_g227 w3
    have w4 := ws_227 (x := upf u 0 0) w3
    have z4 := w_g227 w4
    obtain ⟨h5, f1, w5, f2⟩ := k_mrem (k := k) w4 r.2.2.2.2.2.2.1.2.1 (by rw [upf_ne (by decide)]; exact r.2.2.2.2.2.2.1.2.2)
    have w6 := ws_229 (x := ud d (272 + 13 * (t : Int) + 3) b) w5
    have eB : FX8_pause ((putM h1 5 (up M 18 t b)).set 243 (c243 (M 18 t))) 227 x b = some (M 18 t, h5.set 229 (dcell (ud d (272 + 13 * (t : Int) + 3) b))) := by
      unfold FX8_pause JX8_pause_39 JX8_pause_59 FX8_core
      simp only [Option.bind_some]
      rw [z8_O z, Option.bind_some, z8_w0 z, Option.bind_some, m_noCore z4 upf_eq (w_g229 w4) hr (by rw [rl.1.1]; omega), Option.bind_some, rl.1.1, if_pos c, if_pos (show w32 0 = 0 by decide)]
      dsimp only
      rw [f1, Option.bind_some, z8_r8 (w_g227 w5), Option.bind_some, zd_l (w_g229 w5) (by omega) (by omega), Option.bind_some, ht, (rl.2.2.2 t (by omega)).2.2.2.1, Option.bind_some]
      rcases hpb with q | q <;> rcases hb with rfl | rfl
      · rw [q, if_neg (show ¬ w32 0 = w32 1 by decide), Option.bind_some, if_pos (show w32 0 = 0 by decide), zd_s (w_g229 w5) (by omega) (by omega), Option.bind_some, if_pos (Or.inl trivial)]
      · rw [q, if_neg (show ¬ w32 0 = w32 1 by decide), Option.bind_some, if_neg (show ¬ w32 1 = 0 by decide), zd_s (w_g229 w5) (by omega) (by omega), Option.bind_some, if_pos (Or.inl trivial)]
      · rw [q, if_pos rfl, if_pos (show w32 0 = 0 by decide), zd_s (w_g229 w5) (by omega) (by omega), Option.bind_some, if_pos (Or.inr trivial)]
      · rw [q, if_pos rfl, if_neg (show ¬ w32 1 = 0 by decide), zd_s (w_g229 w5) (by omega) (by omega), Option.bind_some, if_pos (Or.inr trivial)]
    rw [eB, Option.bind_some]
    refine ⟨_, lcb_ok (w_g227 w6) (by rw [upf_ne (by decide)]; exact upf_eq) hpb (fun _ => ?_), _, S, _, e, nxt n, cup k, rr, tx, bs, sp, _, bf, _, dr, df, _, w6, WR_mut r (pair_pause r.1 (by omega) hb)⟩
    rw [List.getElem?_set, if_neg (by decide), f2, List.getElem?_set, if_neg (by decide), List.getElem?_set, if_pos rfl, if_pos (by have := w_len w2; omega)]
  · have eA : FX7_pause h 0 x b = some (1, 0, h) := by
      unfold FX7_pause
      rw [z0_O (w_e0 w), Option.bind_some, r_rC (w_e0 w) (w_a5 w) hr hC, Option.bind_some, if_neg c, if_neg (by decide)]
    rw [eA, Option.bind_some, if_neg (show ¬ (1 : Nat) = 0 by decide), if_pos rfl, Option.bind_some]
    dsimp only
    have w5 := ws_227 (x := upf u 0 1) w
    have eB : FX8_pause h 227 x b = some (0, h.set 227 (mdl (upf u 0 1))) := by
      unfold FX8_pause
      rw [z8_O z, Option.bind_some, z8_w0 z, Option.bind_some, m_noCore z4 upf_eq (w_g229 w4) hr (by rw [rl.1.1]; omega), Option.bind_some, rl.1.1, if_neg c, if_neg (show ¬ w32 1 = 0 by decide), List.set_set, upf_up]
    rw [eB, Option.bind_some]
    exact ⟨_, lcb_ok (w_g227 w5) upf_eq (Or.inl rfl) (fun q => absurd q (by decide)), M, S, Mk, e, n, k, rr, tx, bs, sp, _, bf, d, dr, df, dh, w5, WR_u r⟩
theorem lc29 (hs : ∀ j, j < L → -2147483648 ≤ xs j ∧ xs j < 2147483648) (h0 : 0 ≤ v4) (hL : v4 + 6 ≤ L) (w : Wld h) : ∃ h', LC29 xs L 0 227 243 v4 h = some h' ∧ Wld h' := by
  obtain ⟨x, hx, hr⟩ := sld_ok (i := v4 + 1) hs (by omega) (by omega)
  obtain ⟨y, hy, hr2⟩ := sld_ok (i := v4 + 2) hs (by omega) (by omega)
  unfold LC29
  simp only [hx, hy, Option.bind_some]
  by_cases c : w32 y = 0
  · simp only [if_pos c]
    exact k_pause hr (Or.inl rfl) w
  · simp only [if_neg c]
    exact k_pause hr (Or.inr rfl) w
theorem lc26 (hs : ∀ j, j < L → -2147483648 ≤ xs j ∧ xs j < 2147483648) (h0 : 0 ≤ v4) (hL : v4 + 6 ≤ L) (w : Wld h) : ∃ h', LC26 xs L 0 227 243 v4 h = some h' ∧ Wld h' := by
  obtain ⟨M, S, Mk, e, n, k, rr, tx, bs, sp, u, bf, d, dr, df, dh, w, r⟩ := w
  obtain ⟨x, hx, hr⟩ := sld_ok (i := v4 + 1) hs (by omega) (by omega)
  obtain ⟨y, hy, hr2⟩ := sld_ok (i := v4 + 2) hs (by omega) (by omega)
  have iv := r.1.1
  have rl := r.1.2.1
  have hT := iv.1.1.1
  have z := w_g227 w
  have w4 := ws_227 (x := upf u 0 0) w
  have z4 := w_g227 w4
  unfold LC26 FL_depend
  simp only [hx, hy, Option.bind_some]
  -- refusals
  have ref : ∀ q : Nat, (q = 1 ∨ q = 2 ∨ q = 3) → FX7_depend h 0 x y = some (q, 0, h) → FX8_depend h 227 x y = some (0, h.set 227 (mdl (upf u 0 (q : Nat)))) → ∃ h', ((FX7_depend h 0 x y).bind fun q1 => if q1.1 = 0 then ((ast 3 q1.2.2 243 0 (w32 q1.2.1)).bind fun h2 => some ((0 : Int), h2)) else if q1.1 = 1 then some (1, q1.2.2) else if q1.1 = 2 then some (2, q1.2.2) else if q1.1 = 3 then some (3, q1.2.2) else none).bind (fun q2 => (FX8_depend q2.2 227 x y).bind (LCk q2.1)) = some h' ∧ Wld h' := by
    intro q hq eA eB
    have w5 := ws_227 (x := upf u 0 (q : Nat)) w
    rw [eA, Option.bind_some]
    rcases hq with rfl | rfl | rfl
    · rw [if_neg (show ¬ (1 : Nat) = 0 by decide), if_pos rfl, Option.bind_some]
      dsimp only
      rw [eB, Option.bind_some]
      exact ⟨_, lck_ok (w_g227 w5) upf_eq (fun q => absurd q (by decide)), M, S, Mk, e, n, k, rr, tx, bs, sp, _, bf, d, dr, df, dh, w5, WR_u r⟩
    · rw [if_neg (show ¬ (2 : Nat) = 0 by decide), if_neg (show ¬ (2 : Nat) = 1 by decide), if_pos rfl, Option.bind_some]
      dsimp only
      rw [eB, Option.bind_some]
      exact ⟨_, lck_ok (w_g227 w5) upf_eq (fun q => absurd q (by decide)), M, S, Mk, e, n, k, rr, tx, bs, sp, _, bf, d, dr, df, dh, w5, WR_u r⟩
    · rw [if_neg (show ¬ (3 : Nat) = 0 by decide), if_neg (show ¬ (3 : Nat) = 1 by decide), if_neg (show ¬ (3 : Nat) = 2 by decide), if_pos rfl, Option.bind_some]
      dsimp only
      rw [eB, Option.bind_some]
      exact ⟨_, lck_ok (w_g227 w5) upf_eq (fun q => absurd q (by decide)), M, S, Mk, e, n, k, rr, tx, bs, sp, _, bf, d, dr, df, dh, w5, WR_u r⟩
  by_cases c : 0 ≤ x ∧ x < M 1 0
  · obtain ⟨t, ht⟩ := Int.eq_ofNat_of_zero_le c.1
    have e6 := (rl.2.2.1 t (by omega)).2.2.2.1
    have e2 := (rl.2.2.1 t (by omega)).2.2.2.2
    have hst := iv.1.1.2.2.1 t (by omega)
    by_cases c2 : y < 0
    · refine ref 1 (Or.inl rfl) ?_ ?_
      · unfold FX7_depend
        rw [z0_O (w_e0 w), Option.bind_some, r_rT (w_e0 w) (w_a5 w) hr hT, Option.bind_some, if_pos c, if_pos rfl, w32_eq hr2.1 hr2.2, if_pos c2]
      · unfold FX8_depend JX8_depend_23 JX8_depend_48
        rw [z8_O z, Option.bind_some, z8_w0 z, Option.bind_some, m_noTask z4 upf_eq (w_g229 w4) hr (by rw [rl.1.2.2.2.1]; omega), Option.bind_some, rl.1.2.2.2.1, if_pos c, if_pos (show w32 0 = 0 by decide), w32_eq hr2.1 hr2.2, if_pos c2]
        dsimp only
        rw [m_fails1 z4 upf_eq (by omega), Option.bind_some, if_neg (show ¬ w32 1 = 0 by decide), List.set_set, upf_up]; rfl
    · obtain ⟨o, ho⟩ := Int.eq_ofNat_of_zero_le (show 0 ≤ y by omega)
      by_cases c3 : y < x
      · by_cases c4 : tb (M 6 t) o = true
        · refine ref 2 (Or.inr (Or.inl rfl)) ?_ ?_
          · unfold FX7_depend JX7_depend_45
            rw [z0_O (w_e0 w), Option.bind_some, r_rT (w_e0 w) (w_a5 w) hr hT, Option.bind_some, if_pos c, if_pos rfl, w32_eq hr2.1 hr2.2, if_neg c2, z0_r1 (w_e0 w), Option.bind_some, b5_gfr0_0 (w_a5 w), Option.bind_some, w32_eq hr.1 hr.2, if_pos c3, b5_gfr1_6 (w_a5 w), Option.bind_some, b5_a6 (w_a5 w) (by omega) (by omega), Option.bind_some, ht, ho, Int.toNat_natCast, r_bit (by omega), Option.bind_some, if_pos (show o < 32 ∧ tb (M 6 t) o = true from ⟨by omega, c4⟩), if_neg (show ¬ w32 1 = 0 by decide)]
          · unfold FX8_depend JX8_depend_23 JX8_depend_41 JX8_depend_77 JX8_depend_108 FX8_task
            rw [z8_O z, Option.bind_some, z8_w0 z, Option.bind_some, m_noTask z4 upf_eq (w_g229 w4) hr (by rw [rl.1.2.2.2.1]; omega), Option.bind_some, rl.1.2.2.2.1, if_pos c, if_pos (show w32 0 = 0 by decide), w32_eq hr2.1 hr2.2, if_neg c2]
            dsimp only
            rw [m_fails0 z4 upf_eq, Option.bind_some, if_pos (show w32 0 = 0 by decide), w32_eq hr.1 hr.2, if_pos c3]
            dsimp only
            rw [m_fails0 z4 upf_eq, Option.bind_some, if_pos (show w32 0 = 0 by decide)]
            dsimp only
            rw [Option.bind_some, z8_r8 z4, Option.bind_some, zd_l (w_g229 w4) (by omega) (by omega), Option.bind_some, ht, ho, e6, shr_bit _ (by omega)]
            rw [if_pos (by simp [c4])]
            rw [m_fails1 z4 upf_eq (by omega), Option.bind_some, if_neg (show ¬ w32 1 = 0 by decide), List.set_set, upf_up]; rfl
        · by_cases c5 : M 2 t = 0
          · obtain ⟨h1, e1, w1⟩ := k_rem w iv r.2.2.2.2.2.2.1.1 r.2.2.2.2.2.2.1.2.1
            have pd := pair_dep r.1 (t := t) (o := o) (by omega) (by omega)
            have w2 := ws_M (N := up M 6 t (orI (M 6 t) (shlI 1 (o : Int)))) w1 (FM_congr (by rw [up_ne (by decide)]) (up_ne (by decide)) (w_f5 w1))
            generalize hN : up M 6 t (orI (M 6 t) (shlI 1 (o : Int))) = N at *
            obtain ⟨b, b1, b2⟩ := b5_unf (w_a5 w2) pd.1.1.1
            obtain ⟨x0, zx⟩ := w_g243 w2
            have hN1 : N 1 = M 1 := by rw [← hN]; exact up_ne (by decide)
            have w3 := ws_243 (x := w32 (ctr N t)) w2
            have eA : FX7_depend h 0 x y = some (0, (ctr N t : Int), putM h1 5 N) := by
              unfold FX7_depend
              rw [z0_O (w_e0 w), Option.bind_some, r_rT (w_e0 w) (w_a5 w) hr hT, Option.bind_some, if_pos c, if_pos rfl, w32_eq hr2.1 hr2.2, if_neg c2, z0_r1 (w_e0 w), Option.bind_some, b5_gfr0_0 (w_a5 w), Option.bind_some, w32_eq hr.1 hr.2, if_pos c3, b5_gfr1_6 (w_a5 w), Option.bind_some, b5_a6 (w_a5 w) (by omega) (by omega), Option.bind_some, ht, ho, Int.toNat_natCast, r_bit (by omega), Option.bind_some, if_neg (fun q : o < 32 ∧ tb (M 6 t) o = true => c4 q.2), if_pos (show w32 0 = 0 by decide), b5_gfr1_2 (w_a5 w), Option.bind_some, b5_a2 (w_a5 w) (by omega) (by omega), Option.bind_some, Int.toNat_natCast, c5, if_pos (show w32 0 = 0 by decide), z0_r3 (w_e0 w), Option.bind_some, Option.bind_some, e1, Option.bind_some, b5_gfr1_6 (w_a5 w1), Option.bind_some, b5_a6 (w_a5 w1) (by omega) (by omega), Option.bind_some, b5_s6 (w_a5 w1) (by omega) (by omega), Option.bind_some, Int.toNat_natCast, hN, b1, Option.bind_some, b5_ctr (w_a5 w2) pd.1.1.1 b2 (by omega), Option.bind_some]
            rw [eA, Option.bind_some, if_pos rfl, z243_s zx, Option.bind_some, Option.bind_some]
            dsimp only
            have z := w_g227 w3
            have w4 := ws_227 (x := upf u 0 0) w3
            have z4 := w_g227 w4
            obtain ⟨h5, f1, w5, f2⟩ := k_mrem (k := k) w4 r.2.2.2.2.2.2.1.2.1 (by rw [upf_ne (by decide)]; exact r.2.2.2.2.2.2.1.2.2)
            have w6 := ws_229 (x := ud d (16 + 8 * (t : Int) + 3) (orI (M 6 t) (shlI 1 (o : Int)))) w5
            have eB : FX8_depend ((putM h1 5 N).set 243 (c243 (w32 (ctr N t)))) 227 x y = some ((ctr N t : Int), h5.set 229 (dcell (ud d (16 + 8 * (t : Int) + 3) (orI (M 6 t) (shlI 1 (o : Int)))))) := by
              unfold FX8_depend JX8_depend_23 JX8_depend_41 JX8_depend_77 JX8_depend_101 FX8_task
              rw [z8_O z, Option.bind_some, z8_w0 z, Option.bind_some, m_noTask z4 upf_eq (w_g229 w4) hr (by rw [rl.1.2.2.2.1]; omega), Option.bind_some, rl.1.2.2.2.1, if_pos c, if_pos (show w32 0 = 0 by decide), w32_eq hr2.1 hr2.2, if_neg c2]
              dsimp only
              rw [m_fails0 z4 upf_eq, Option.bind_some, if_pos (show w32 0 = 0 by decide), w32_eq hr.1 hr.2, if_pos c3]
              dsimp only
              rw [m_fails0 z4 upf_eq, Option.bind_some, if_pos (show w32 0 = 0 by decide)]
              dsimp only
              rw [Option.bind_some, z8_r8 z4, Option.bind_some, zd_l (w_g229 w4) (by omega) (by omega), Option.bind_some, ht, ho, e6, shr_bit _ (by omega)]
              rw [if_neg (by simp [c4]; decide)]
              rw [m_fails0 z4 upf_eq, Option.bind_some, if_pos (show w32 0 = 0 by decide)]
              dsimp only
              rw [z8_r8 z4, Option.bind_some, zd_l (w_g229 w4) (by omega) (by omega), Option.bind_some, e2, c5, if_pos (show w32 0 = 0 by decide), m_fails0 z4 upf_eq, Option.bind_some, if_pos (show w32 0 = 0 by decide)]
              dsimp only
              rw [f1, Option.bind_some, z8_r8 (w_g227 w5), Option.bind_some, zd_l (w_g229 w5) (by omega) (by omega), Option.bind_some, e6, zd_s (w_g229 w5) (by omega) (by omega), Option.bind_some, z8_r8 (w_g227 w6), Option.bind_some, d_ctr (w_g229 w6) pd.1.1.1 pd.1.2.2.2.2.1 pd.2.1 (by rw [hN1]; omega), Option.bind_some]
            rw [eB, Option.bind_some]
            refine ⟨_, lck_ok (w_g227 w6) (by rw [upf_ne (by decide)]; exact upf_eq) (fun _ => ?_), _, S, _, e, nxt n, cup k, rr, tx, bs, sp, _, bf, _, dr, df, _, w6, WR_mut r pd⟩
            rw [List.getElem?_set, if_neg (by decide), f2, List.getElem?_set, if_neg (by decide), List.getElem?_set, if_pos rfl, if_pos (by have := w_len w2; omega)]
          · refine ref 3 (Or.inr (Or.inr rfl)) ?_ ?_
            · unfold FX7_depend
              rw [z0_O (w_e0 w), Option.bind_some, r_rT (w_e0 w) (w_a5 w) hr hT, Option.bind_some, if_pos c, if_pos rfl, w32_eq hr2.1 hr2.2, if_neg c2, z0_r1 (w_e0 w), Option.bind_some, b5_gfr0_0 (w_a5 w), Option.bind_some, w32_eq hr.1 hr.2, if_pos c3, b5_gfr1_6 (w_a5 w), Option.bind_some, b5_a6 (w_a5 w) (by omega) (by omega), Option.bind_some, ht, ho, Int.toNat_natCast, r_bit (by omega), Option.bind_some, if_neg (fun q : o < 32 ∧ tb (M 6 t) o = true => c4 q.2), if_pos (show w32 0 = 0 by decide), b5_gfr1_2 (w_a5 w), Option.bind_some, b5_a2 (w_a5 w) (by omega) (by omega), Option.bind_some, Int.toNat_natCast, w32_eq (by omega) (by omega), if_neg c5]
            · unfold FX8_depend JX8_depend_23 JX8_depend_41 JX8_depend_77 JX8_depend_101 JX8_depend_108 FX8_task
              rw [z8_O z, Option.bind_some, z8_w0 z, Option.bind_some, m_noTask z4 upf_eq (w_g229 w4) hr (by rw [rl.1.2.2.2.1]; omega), Option.bind_some, rl.1.2.2.2.1, if_pos c, if_pos (show w32 0 = 0 by decide), w32_eq hr2.1 hr2.2, if_neg c2]
              dsimp only
              rw [m_fails0 z4 upf_eq, Option.bind_some, if_pos (show w32 0 = 0 by decide), w32_eq hr.1 hr.2, if_pos c3]
              dsimp only
              rw [m_fails0 z4 upf_eq, Option.bind_some, if_pos (show w32 0 = 0 by decide)]
              dsimp only
              rw [Option.bind_some, z8_r8 z4, Option.bind_some, zd_l (w_g229 w4) (by omega) (by omega), Option.bind_some, ht, ho, e6, shr_bit _ (by omega)]
              rw [if_neg (by simp [c4]; decide)]
              rw [m_fails0 z4 upf_eq, Option.bind_some, if_pos (show w32 0 = 0 by decide)]
              dsimp only
              rw [z8_r8 z4, Option.bind_some, zd_l (w_g229 w4) (by omega) (by omega), Option.bind_some, e2, w32_eq (by omega) (by omega), if_neg c5, m_fails1 z4 upf_eq (by omega), Option.bind_some, if_neg (show ¬ w32 1 = 0 by decide), List.set_set, upf_up]; rfl
      · refine ref 2 (Or.inr (Or.inl rfl)) ?_ ?_
        · unfold FX7_depend JX7_depend_45
          rw [z0_O (w_e0 w), Option.bind_some, r_rT (w_e0 w) (w_a5 w) hr hT, Option.bind_some, if_pos c, if_pos rfl, w32_eq hr2.1 hr2.2, if_neg c2, z0_r1 (w_e0 w), Option.bind_some, b5_gfr0_0 (w_a5 w), Option.bind_some, w32_eq hr.1 hr.2, if_neg c3]
        · unfold FX8_depend JX8_depend_23 JX8_depend_41 JX8_depend_48
          rw [z8_O z, Option.bind_some, z8_w0 z, Option.bind_some, m_noTask z4 upf_eq (w_g229 w4) hr (by rw [rl.1.2.2.2.1]; omega), Option.bind_some, rl.1.2.2.2.1, if_pos c, if_pos (show w32 0 = 0 by decide), w32_eq hr2.1 hr2.2, if_neg c2]
          dsimp only
          rw [m_fails0 z4 upf_eq, Option.bind_some, if_pos (show w32 0 = 0 by decide), w32_eq hr.1 hr.2, if_neg c3]
          dsimp only
          rw [m_fails1 z4 upf_eq (by omega), Option.bind_some, if_neg (show ¬ w32 1 = 0 by decide), List.set_set, upf_up]; rfl
  · refine ref 1 (Or.inl rfl) ?_ ?_
    · unfold FX7_depend
      rw [z0_O (w_e0 w), Option.bind_some, r_rT (w_e0 w) (w_a5 w) hr hT, Option.bind_some, if_neg c, if_neg (by decide)]
    · unfold FX8_depend JX8_depend_48
      rw [z8_O z, Option.bind_some, z8_w0 z, Option.bind_some, m_noTask z4 upf_eq (w_g229 w4) hr (by rw [rl.1.2.2.2.1]; omega), Option.bind_some, rl.1.2.2.2.1, if_neg c, if_neg (show ¬ w32 1 = 0 by decide), List.set_set, upf_up]; rfl
end
