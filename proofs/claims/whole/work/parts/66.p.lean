set_option linter.unusedVariables false
set_option linter.unusedSimpArgs false
/-! ===== the calls without an argument; isOpen, queued ===== -/
section
variable {h : PH} {xs : Nat → Int} {L : Nat} {v4 : Int}
theorem lc2 (w : Wld h) : ∃ h', LC2 xs L 0 227 243 v4 h = some h' ∧ Wld h' := by
  obtain ⟨M, S, Mk, e, n, k, rr, tx, bs, sp, u, bf, d, dr, df, dh, w, r⟩ := w
  have w2 := ws_227 (x := upf u 0 0) w
  have z := w_g227 w
  have z2 := w_g227 w2
  unfold LC2 FX7_errorOffset FX8_errorOffset
  rw [z0_O (w_e0 w), Option.bind_some, z0_i4 (w_e0 w), Option.bind_some, Option.bind_some, z8_O z, Option.bind_some, z8_w0 z, Option.bind_some, z8_i7 z2, Option.bind_some, Option.bind_some, upf_ne (by decide), r.2.2.1, if_pos rfl]
  exact ⟨_, rfl, M, S, Mk, e, n, k, rr, tx, bs, sp, _, bf, d, dr, df, dh, w2, WR_u r⟩
theorem lc3 (w : Wld h) : ∃ h', LC3 xs L 0 227 243 v4 h = some h' ∧ Wld h' := by
  obtain ⟨M, S, Mk, e, n, k, rr, tx, bs, sp, u, bf, d, dr, df, dh, w, r⟩ := w
  have w2 := ws_227 (x := upf u 0 0) w
  have z := w_g227 w
  have z2 := w_g227 w2
  unfold LC3 FX7_coreCount FX8_coreCount
  rw [z0_O (w_e0 w), Option.bind_some, z0_r1 (w_e0 w), Option.bind_some, b5_gfr0_1 (w_a5 w), Option.bind_some, b5_gfi11_0 (w_a5 w), Option.bind_some, Option.bind_some, z8_O z, Option.bind_some, z8_w0 z, Option.bind_some, z8_r8 z2, Option.bind_some, zd_l (w_g229 w2) (by omega) (by omega), Option.bind_some, Option.bind_some, r.1.2.1.1.1, if_pos rfl]
  exact ⟨_, rfl, M, S, Mk, e, n, k, rr, tx, bs, sp, _, bf, d, dr, df, dh, w2, WR_u r⟩
theorem lc4 (w : Wld h) : ∃ h', LC4 xs L 0 227 243 v4 h = some h' ∧ Wld h' := by
  obtain ⟨M, S, Mk, e, n, k, rr, tx, bs, sp, u, bf, d, dr, df, dh, w, r⟩ := w
  have w2 := ws_227 (x := upf u 0 0) w
  have z := w_g227 w
  have z2 := w_g227 w2
  unfold LC4 FX7_taskCount FX8_taskCount
  rw [z0_O (w_e0 w), Option.bind_some, z0_r1 (w_e0 w), Option.bind_some, b5_gfr0_0 (w_a5 w), Option.bind_some, b5_gfi1_0 (w_a5 w), Option.bind_some, Option.bind_some, z8_O z, Option.bind_some, z8_w0 z, Option.bind_some, z8_r8 z2, Option.bind_some, zd_l (w_g229 w2) (by omega) (by omega), Option.bind_some, Option.bind_some, r.1.2.1.1.2.2.2.1, if_pos rfl]
  exact ⟨_, rfl, M, S, Mk, e, n, k, rr, tx, bs, sp, _, bf, d, dr, df, dh, w2, WR_u r⟩
theorem lc5 (w : Wld h) : ∃ h', LC5 xs L 0 227 243 v4 h = some h' ∧ Wld h' := by
  obtain ⟨M, S, Mk, e, n, k, rr, tx, bs, sp, u, bf, d, dr, df, dh, w, r⟩ := w
  have w2 := ws_227 (x := upf u 0 0) w
  have z := w_g227 w
  have z2 := w_g227 w2
  unfold LC5 FX7_fenceCount FX8_fenceCount
  rw [z0_O (w_e0 w), Option.bind_some, z0_r1 (w_e0 w), Option.bind_some, b5_gfr0_0 (w_a5 w), Option.bind_some, b5_gfi1_1 (w_a5 w), Option.bind_some, Option.bind_some, z8_O z, Option.bind_some, z8_w0 z, Option.bind_some, z8_r8 z2, Option.bind_some, zd_l (w_g229 w2) (by omega) (by omega), Option.bind_some, Option.bind_some, r.1.2.1.1.2.2.2.2.1, if_pos rfl]
  exact ⟨_, rfl, M, S, Mk, e, n, k, rr, tx, bs, sp, _, bf, d, dr, df, dh, w2, WR_u r⟩
theorem lc6 (w : Wld h) : ∃ h', LC6 xs L 0 227 243 v4 h = some h' ∧ Wld h' := by
  obtain ⟨M, S, Mk, e, n, k, rr, tx, bs, sp, u, bf, d, dr, df, dh, w, r⟩ := w
  have w2 := ws_227 (x := upf u 0 0) w
  have z := w_g227 w
  have z2 := w_g227 w2
  unfold LC6 FX7_clock FX8_clock
  rw [z0_O (w_e0 w), Option.bind_some, z0_r1 (w_e0 w), Option.bind_some, b5_gfi0_3 (w_a5 w), Option.bind_some, Option.bind_some, z8_O z, Option.bind_some, z8_w0 z, Option.bind_some, z8_r8 z2, Option.bind_some, zd_l (w_g229 w2) (by omega) (by omega), Option.bind_some, Option.bind_some, r.1.2.1.1.2.2.2.2.2.1, if_pos rfl]
  exact ⟨_, rfl, M, S, Mk, e, n, k, rr, tx, bs, sp, _, bf, d, dr, df, dh, w2, WR_u r⟩
theorem lc20 (w : Wld h) : ∃ h', LC20 xs L 0 227 243 v4 h = some h' ∧ Wld h' := by
  obtain ⟨M, S, Mk, e, n, k, rr, tx, bs, sp, u, bf, d, dr, df, dh, w, r⟩ := w
  have w2 := ws_227 (x := upf u 0 0) w
  have z := w_g227 w
  have z2 := w_g227 w2
  unfold LC20 FX7_finished FX8_finished
  rw [z0_O (w_e0 w), Option.bind_some, z0_r1 (w_e0 w), Option.bind_some, b5_gfr0_0 (w_a5 w), Option.bind_some, b5_fin (w_a5 w) r.1.1.1.1, Option.bind_some, Option.bind_some, z8_O z, Option.bind_some, z8_w0 z, Option.bind_some, z8_r8 z2, Option.bind_some, d_fin (w_g229 w2) r.1.1.1.1 r.1.2.1, Option.bind_some, Option.bind_some, if_pos rfl]
  exact ⟨_, rfl, M, S, Mk, e, n, k, rr, tx, bs, sp, _, bf, d, dr, df, dh, w2, WR_u r⟩
theorem lc12 (hs : ∀ j, j < L → -2147483648 ≤ xs j ∧ xs j < 2147483648) (h0 : 0 ≤ v4) (hL : v4 + 6 ≤ L) (w : Wld h) : ∃ h', LC12 xs L 0 227 243 v4 h = some h' ∧ Wld h' := by
  obtain ⟨M, S, Mk, e, n, k, rr, tx, bs, sp, u, bf, d, dr, df, dh, w, r⟩ := w
  obtain ⟨x, hx, hr⟩ := sld_ok (i := v4 + 1) hs (by omega) (by omega)
  have iv := r.1.1
  have rl := r.1.2.1
  have hF := iv.1.1.2.1
  have key : ∃ q v, FX7_isOpen h 0 x = some (q, v) ∧ (q = 0 ∨ q = 1) ∧ (v = 0 ∨ v = 1) ∧ ∀ h1, WS h1 M S Mk e (n : Nat) (k : Nat) rr tx bs sp u bf d dr df dh → FX8_isOpen h1 227 x = some (v, h1.set 227 (mdl (upf u 0 (q : Nat)))) := by
    by_cases c : 0 ≤ x ∧ x < M 1 1
    · obtain ⟨t, ht⟩ := Int.eq_ofNat_of_zero_le c.1
      have ob : (if opn M t = true then (1 : Int) else 0) = 0 ∨ (if opn M t = true then (1 : Int) else 0) = 1 := by split <;> omega
      refine ⟨0, if opn M t then 1 else 0, ?_, Or.inl rfl, ob, fun h1 w1 => ?_⟩
      · unfold FX7_isOpen JX7_isOpen_18
        obtain ⟨y, e1, e2⟩ := b5_unf (w_a5 w) iv.1.1
        rw [z0_O (w_e0 w), Option.bind_some, w32_eq hr.1 hr.2, if_neg (by omega), z0_r1 (w_e0 w), Option.bind_some, b5_gfr0_0 (w_a5 w), Option.bind_some, b5_gfi1_1 (w_a5 w), Option.bind_some, w32_eq (by omega) (by omega), if_pos c.2, Option.bind_some, b5_gfr0_0 (w_a5 w), Option.bind_some, Option.bind_some, b5_gfr0_0 (w_a5 w), Option.bind_some, e1, Option.bind_some, ht, b5_opn (w_a5 w) iv.1.1 e2 (by omega), Option.bind_some, if_pos ob]
      · have w2 := ws_227 (x := upf u 0 0) w1
        have z := w_g227 w1
        have z2 := w_g227 w2
        have zd := w_g229 w2
        unfold FX8_isOpen JX8_isOpen_27 JX8_isOpen_49 JX8_isOpen_50
        rw [z8_O z, Option.bind_some, z8_w0 z, Option.bind_some, z8_r8 z2, Option.bind_some, zd_l zd (by omega) (by omega), Option.bind_some, rl.1.2.2.2.2.1, m_in hr (by omega) (by omega), Option.bind_some, if_pos (show 0 ≤ x ∧ x ≤ M 1 1 - 1 by omega), if_neg (show ¬ w32 1 = 0 by decide), m_fails0 z2 upf_eq, Option.bind_some, if_pos (show w32 0 = 0 by decide)]
        dsimp only
        rw [z8_r8 z2, Option.bind_some, ht, d_opn zd iv.1.1 rl (by omega), Option.bind_some]
        by_cases o : opn M t = true
        · rw [if_pos o, if_neg (show ¬ w32 1 = 0 by decide), if_pos (Or.inr rfl)]; rfl
        · rw [if_neg o, if_pos (show w32 0 = 0 by decide), if_pos (Or.inl rfl)]; rfl
    · refine ⟨1, 0, ?_, Or.inr rfl, Or.inl rfl, fun h1 w1 => ?_⟩
      · unfold FX7_isOpen JX7_isOpen_18
        rw [z0_O (w_e0 w), Option.bind_some, w32_eq hr.1 hr.2, z0_r1 (w_e0 w), Option.bind_some, b5_gfr0_0 (w_a5 w), Option.bind_some, b5_gfi1_1 (w_a5 w), Option.bind_some, w32_eq (by omega) (by omega)]
        by_cases c2 : x < 0
        · rw [if_pos c2]
        · rw [if_neg c2, if_neg (by omega)]
      · have w2 := ws_227 (x := upf u 0 0) w1
        have z := w_g227 w1
        have z2 := w_g227 w2
        have zd := w_g229 w2
        unfold FX8_isOpen JX8_isOpen_27 JX8_isOpen_49 JX8_isOpen_50
        rw [z8_O z, Option.bind_some, z8_w0 z, Option.bind_some, z8_r8 z2, Option.bind_some, zd_l zd (by omega) (by omega), Option.bind_some, rl.1.2.2.2.2.1, m_in hr (by omega) (by omega), Option.bind_some, if_neg (show ¬ (0 ≤ x ∧ x ≤ M 1 1 - 1) by omega), if_pos (show w32 0 = 0 by decide), m_fails1 z2 upf_eq (by omega), Option.bind_some, if_neg (show ¬ w32 1 = 0 by decide), if_pos (Or.inl rfl), List.set_set, upf_up]
        rfl
  obtain ⟨q, v, hA, hq, hv, hB⟩ := key
  unfold LC12 FL_isOpen
  simp only [hx, Option.bind_some]
  exact lc_getb w r hA hq hv hB
theorem lc14 (hs : ∀ j, j < L → -2147483648 ≤ xs j ∧ xs j < 2147483648) (h0 : 0 ≤ v4) (hL : v4 + 6 ≤ L) (w : Wld h) : ∃ h', LC14 xs L 0 227 243 v4 h = some h' ∧ Wld h' := by
  obtain ⟨M, S, Mk, e, n, k, rr, tx, bs, sp, u, bf, d, dr, df, dh, w, r⟩ := w
  obtain ⟨x, hx, hr⟩ := sld_ok (i := v4 + 1) hs (by omega) (by omega)
  obtain ⟨y, hy, hr2⟩ := sld_ok (i := v4 + 2) hs (by omega) (by omega)
  have iv := r.1.1
  have rl := r.1.2.1
  have hC := iv.1.2.1.1
  have key : ∃ q v, FX7_queued h 0 x y = some (q, v) ∧ (q = 0 ∨ q = 1) ∧ ∀ h1, WS h1 M S Mk e (n : Nat) (k : Nat) rr tx bs sp u bf d dr df dh → FX8_queued h1 227 x y = some (v, h1.set 227 (mdl (upf u 0 (q : Nat)))) := by
    by_cases c : 0 ≤ x ∧ x < M 11 0
    · obtain ⟨t, ht⟩ := Int.eq_ofNat_of_zero_le c.1
      have h8 := iv.1.2.1.2.2.2.1 t (by omega)
      obtain ⟨-, -, -, -, a4, a5, -⟩ := rl.2.2.2 t (by omega)
      by_cases c2 : 0 ≤ y ∧ y < M 13 t
      · obtain ⟨j, hj⟩ := Int.eq_ofNat_of_zero_le c2.1
        refine ⟨0, M 12 (8 * t + j), ?_, Or.inl rfl, fun h1 w1 => ?_⟩
        · unfold FX7_queued JX7_queued_25
          rw [z0_O (w_e0 w), Option.bind_some, r_rC (w_e0 w) (w_a5 w) hr hC, Option.bind_some, if_pos c, if_pos rfl, w32_eq hr2.1 hr2.2, if_neg (by omega), z0_r1 (w_e0 w), Option.bind_some, b5_gfr0_1 (w_a5 w), Option.bind_some, b5_gfr11_4 (w_a5 w), Option.bind_some, b5_a13 (w_a5 w) (by omega) (by omega), Option.bind_some, ht, Int.toNat_natCast, w32_eq (by omega) (by omega), if_pos c2.2, Option.bind_some, b5_gfr0_1 (w_a5 w), Option.bind_some, b5_gfr11_3 (w_a5 w), Option.bind_some, b5_a12 (w_a5 w) (by omega) (by omega), Option.bind_some, hj, show ((t : Int) * 8 + j).toNat = 8 * t + j by omega]
        · have w2 := ws_227 (x := upf u 0 0) w1
          have z := w_g227 w1
          have z2 := w_g227 w2
          have zd := w_g229 w2
          unfold FX8_queued JX8_queued_40 JX8_queued_47 JX8_queued_64 FX8_core
          rw [z8_O z, Option.bind_some, z8_w0 z, Option.bind_some, m_noCore z2 upf_eq zd hr (by rw [rl.1.1]; omega), Option.bind_some, rl.1.1, if_pos c, if_pos (show w32 0 = 0 by decide)]
          dsimp only
          rw [z8_r8 z2, Option.bind_some, Option.bind_some, zd_l zd (by omega) (by omega), Option.bind_some, ht, a4, m_in hr2 (by omega) (by omega), Option.bind_some, if_pos (show 0 ≤ y ∧ y ≤ M 13 t - 1 by omega), if_neg (show ¬ w32 1 = 0 by decide), m_fails0 z2 upf_eq, Option.bind_some, if_pos (show w32 0 = 0 by decide)]
          dsimp only
          rw [z8_r8 z2, Option.bind_some, Option.bind_some, zd_l zd (by omega) (by omega), Option.bind_some, hj, a5 j (by omega)]; rfl
      · refine ⟨1, 0, ?_, Or.inr rfl, fun h1 w1 => ?_⟩
        · unfold FX7_queued JX7_queued_25
          rw [z0_O (w_e0 w), Option.bind_some, r_rC (w_e0 w) (w_a5 w) hr hC, Option.bind_some, if_pos c, if_pos rfl, w32_eq hr2.1 hr2.2, z0_r1 (w_e0 w), Option.bind_some, b5_gfr0_1 (w_a5 w), Option.bind_some, b5_gfr11_4 (w_a5 w), Option.bind_some, b5_a13 (w_a5 w) (by omega) (by omega), Option.bind_some, ht, Int.toNat_natCast, w32_eq (by omega) (by omega)]
          by_cases c3 : y < 0
          · rw [if_pos c3]
          · rw [if_neg c3, if_neg (by omega)]
        · have w2 := ws_227 (x := upf u 0 0) w1
          have z := w_g227 w1
          have z2 := w_g227 w2
          have zd := w_g229 w2
          unfold FX8_queued JX8_queued_40 JX8_queued_47 JX8_queued_64 FX8_core
          rw [z8_O z, Option.bind_some, z8_w0 z, Option.bind_some, m_noCore z2 upf_eq zd hr (by rw [rl.1.1]; omega), Option.bind_some, rl.1.1, if_pos c, if_pos (show w32 0 = 0 by decide)]
          dsimp only
          rw [z8_r8 z2, Option.bind_some, Option.bind_some, zd_l zd (by omega) (by omega), Option.bind_some, ht, a4, m_in hr2 (by omega) (by omega), Option.bind_some, if_neg (show ¬ (0 ≤ y ∧ y ≤ M 13 t - 1) by omega), if_pos (show w32 0 = 0 by decide), m_fails1 z2 upf_eq (by omega), Option.bind_some, if_neg (show ¬ w32 1 = 0 by decide), List.set_set, upf_up]; rfl
    · refine ⟨1, 0, ?_, Or.inr rfl, fun h1 w1 => ?_⟩
      · unfold FX7_queued
        rw [z0_O (w_e0 w), Option.bind_some, r_rC (w_e0 w) (w_a5 w) hr hC, Option.bind_some, if_neg c, if_neg (by decide)]
      · have w2 := ws_227 (x := upf u 0 0) w1
        have z := w_g227 w1
        have z2 := w_g227 w2
        have zd := w_g229 w2
        unfold FX8_queued JX8_queued_47 JX8_queued_64
        rw [z8_O z, Option.bind_some, z8_w0 z, Option.bind_some, m_noCore z2 upf_eq zd hr (by rw [rl.1.1]; omega), Option.bind_some, rl.1.1, if_neg c, if_neg (show ¬ w32 1 = 0 by decide), List.set_set, upf_up]; rfl
  obtain ⟨q, v, hA, hq, hB⟩ := key
  unfold LC14 FL_queued
  simp only [hx, hy, Option.bind_some]
  exact lc_get (A := FX7_queued h 0 x y) (B := fun h1 => FX8_queued h1 227 x y) w r hA hq hB
end
