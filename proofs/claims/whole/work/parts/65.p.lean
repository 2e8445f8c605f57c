set_option linter.unusedVariables false
set_option linter.unusedSimpArgs false
/-! ===== the read-only calls ===== -/
theorem sld_ok {xs : Nat → Int} {L : Nat} {i : Int} (hs : ∀ j, j < L → -2147483648 ≤ xs j ∧ xs j < 2147483648) (h0 : 0 ≤ i) (h1 : i < L) : ∃ x, sld xs L i = some x ∧ (-2147483648 ≤ x ∧ x < 2147483648) := by
  unfold sld
  rw [if_pos ⟨h0, h1⟩]
  exact ⟨_, rfl, hs _ (by omega)⟩
theorem d_ctr {h : PH} {a : Nat} {d : Int → Int} {M : MM} {t : Nat} (zd : h[a]? = some (dcell d)) (ok : OkT M) (ob : OkB M) (r : Rel M d) (ht : (t : Int) < M 1 0) : FX8_counterOf h a t = some (ctr M t : Int) := by
  have hl : a < h.length := by
    rcases Nat.lt_or_ge a h.length with q | q
    · exact q
    · rw [List.getElem?_eq_none q] at zd; cases zd
  have := m_ctr (h := h) hl ok ob r ht
  rw [show sd h a d = h from set_same zd] at this
  exact this
theorem d_opn {h : PH} {a : Nat} {d : Int → Int} {M : MM} {t : Nat} (zd : h[a]? = some (dcell d)) (ok : OkT M) (r : Rel M d) (ht : (t : Int) < M 1 1) : FX8_isOpened h a t = some (if opn M t then 1 else 0) := by
  have hl : a < h.length := by
    rcases Nat.lt_or_ge a h.length with q | q
    · exact q
    · rw [List.getElem?_eq_none q] at zd; cases zd
  have := m_isOpn (h := h) hl ok r ht
  rw [show sd h a d = h from set_same zd] at this
  exact this
theorem d_fin {h : PH} {a : Nat} {d : Int → Int} {M : MM} (zd : h[a]? = some (dcell d)) (ok : OkT M) (r : Rel M d) : FX8_finishedOf h a = some (M 1 0 - cnt (unf M) (M 1 0).toNat) := by
  have hl : a < h.length := by
    rcases Nat.lt_or_ge a h.length with q | q
    · exact q
    · rw [List.getElem?_eq_none q] at zd; cases zd
  have := m_fin (h := h) hl ok r
  rw [show sd h a d = h from set_same zd] at this
  exact this
theorem d_isFin {h : PH} {a : Nat} {d : Int → Int} {M : MM} {t : Nat} (zd : h[a]? = some (dcell d)) (ok : OkT M) (r : Rel M d) (ht : (t : Int) < M 1 0) : FX8_isFinished h a t = some (if unf M t then 0 else 1) := by
  have hl : a < h.length := by
    rcases Nat.lt_or_ge a h.length with q | q
    · exact q
    · rw [List.getElem?_eq_none q] at zd; cases zd
  have := m_isFin (h := h) hl ok r ht
  rw [show sd h a d = h from set_same zd] at this
  exact this
theorem d_rem {h : PH} {a : Nat} {u : Nat → Int} {d : Int → Int} {M : MM} {t : Nat} (z : h[a]? = some (mdl u)) (zd : h[229]? = some (dcell d)) (ok : Ok M) (r : Rel M d) (ht : (t : Int) < M 11 0) : FX8_remainingOf h a t = some (M 15 t) := by
  have hC := ok.2.1.1
  have hT := ok.1.1
  have hr := ok.2.1.2.2.2.2.1 t ht
  obtain ⟨a0, -, -, -, -, -, a6⟩ := r.2.2.2 t ht
  unfold runOk at hr
  unfold FX8_remainingOf JX8_remainingOf_40 FX8_core FX8_task
  simp only [Option.bind_some]
  rw [z8_O z, Option.bind_some, z8_r8 z, Option.bind_some, zd_l zd (by omega) (by omega), Option.bind_some, a0, w32_eq (by omega) (by omega), show w32 (-1) = -1 from rfl]
  by_cases c : M 14 t = -1
  · rw [if_pos c]; congr 1; omega
  · rw [if_neg c, Option.bind_some, Option.bind_some, zd_l zd (by omega) (by omega), Option.bind_some, a0, zd_l zd (by omega) (by omega), Option.bind_some, a6 (by omega)]
section
variable {h : PH} {M S : MM} {Mk : Nat → MM} {e : Int} {n k : Nat} {rr tx bs sp u bf : Nat → Int} {d dr df : Int → Int} {dh : Nat → Int → Int} {x : Int}
theorem g_state (w : WS h M S Mk e (n : Nat) (k : Nat) rr tx bs sp u bf d dr df dh) (r : WR M S Mk e n k tx bs u bf d dh) (hx : -2147483648 ≤ x ∧ x < 2147483648) : ∃ q v, FX7_state h 0 x = some (q, v) ∧ (q = 0 ∨ q = 1) ∧ ∀ h1, WS h1 M S Mk e (n : Nat) (k : Nat) rr tx bs sp u bf d dr df dh → FX8_state h1 227 x = some (v, h1.set 227 (mdl (upf u 0 (q : Nat)))) := by
  have iv := r.1.1
  have rl := r.1.2.1
  have rx := r.1.2.2.1
  have hT := iv.1.1.1
  have hC := iv.1.2.1.1
  by_cases c : 0 ≤ x ∧ x < M 1 0
  · obtain ⟨t, ht⟩ := Int.eq_ofNat_of_zero_le c.1
    refine ⟨0, M 2 t, ?_, Or.inl rfl, fun h1 w1 => ?_⟩
    · unfold FX7_state
      rw [z0_O (w_e0 w), Option.bind_some, r_rT (w_e0 w) (w_a5 w) hx hT, Option.bind_some, if_pos c, if_pos rfl, z0_r1 (w_e0 w), Option.bind_some]
      rw [b5_gfr0_0 (w_a5 w), Option.bind_some, b5_gfr1_2 (w_a5 w), Option.bind_some, b5_a2 (w_a5 w) (by omega) (by omega), Option.bind_some, ht]; rfl
    have w2 := ws_227 (x := upf u 0 0) w1
    have z := w_g227 w1
    have z2 := w_g227 w2
    have zd := w_g229 w2
    unfold FX8_state JX8_state_28
    rw [z8_O z, Option.bind_some, z8_w0 z, Option.bind_some, m_noTask z2 upf_eq zd hx (by rw [rl.1.2.2.2.1]; omega), Option.bind_some, rl.1.2.2.2.1]
    rw [if_pos c, if_pos (show w32 0 = 0 by decide)]
    dsimp only
    rw [z8_r8 z2, Option.bind_some]
    unfold FX8_task
    rw [Option.bind_some, zd_l zd (by omega) (by omega), Option.bind_some, ht, (rl.2.2.1 t (by omega)).2.2.2.2]; rfl
  · refine ⟨1, 0, ?_, Or.inr rfl, fun h1 w1 => ?_⟩
    · unfold FX7_state
      rw [z0_O (w_e0 w), Option.bind_some, r_rT (w_e0 w) (w_a5 w) hx hT, Option.bind_some, if_neg c, if_neg (by decide)]
    have w2 := ws_227 (x := upf u 0 0) w1
    have z := w_g227 w1
    have z2 := w_g227 w2
    have zd := w_g229 w2
    unfold FX8_state JX8_state_28
    rw [z8_O z, Option.bind_some, z8_w0 z, Option.bind_some, m_noTask z2 upf_eq zd hx (by rw [rl.1.2.2.2.1]; omega), Option.bind_some, rl.1.2.2.2.1]
    rw [if_neg c, if_neg (show ¬ w32 1 = 0 by decide)]
    dsimp only
    rw [List.set_set, upf_up]; rfl
theorem g_priority (w : WS h M S Mk e (n : Nat) (k : Nat) rr tx bs sp u bf d dr df dh) (r : WR M S Mk e n k tx bs u bf d dh) (hx : -2147483648 ≤ x ∧ x < 2147483648) : ∃ q v, FX7_priority h 0 x = some (q, v) ∧ (q = 0 ∨ q = 1) ∧ ∀ h1, WS h1 M S Mk e (n : Nat) (k : Nat) rr tx bs sp u bf d dr df dh → FX8_priority h1 227 x = some (v, h1.set 227 (mdl (upf u 0 (q : Nat)))) := by
  have iv := r.1.1
  have rl := r.1.2.1
  have rx := r.1.2.2.1
  have hT := iv.1.1.1
  have hC := iv.1.2.1.1
  by_cases c : 0 ≤ x ∧ x < M 1 0
  · obtain ⟨t, ht⟩ := Int.eq_ofNat_of_zero_le c.1
    refine ⟨0, M 4 t, ?_, Or.inl rfl, fun h1 w1 => ?_⟩
    · unfold FX7_priority
      rw [z0_O (w_e0 w), Option.bind_some, r_rT (w_e0 w) (w_a5 w) hx hT, Option.bind_some, if_pos c, if_pos rfl, z0_r1 (w_e0 w), Option.bind_some]
      rw [b5_gfr0_0 (w_a5 w), Option.bind_some, b5_gfr1_4 (w_a5 w), Option.bind_some, b5_a4 (w_a5 w) (by omega) (by omega), Option.bind_some, ht]; rfl
    have w2 := ws_227 (x := upf u 0 0) w1
    have z := w_g227 w1
    have z2 := w_g227 w2
    have zd := w_g229 w2
    unfold FX8_priority JX8_priority_28
    rw [z8_O z, Option.bind_some, z8_w0 z, Option.bind_some, m_noTask z2 upf_eq zd hx (by rw [rl.1.2.2.2.1]; omega), Option.bind_some, rl.1.2.2.2.1]
    rw [if_pos c, if_pos (show w32 0 = 0 by decide)]
    dsimp only
    rw [z8_r8 z2, Option.bind_some]
    unfold FX8_task
    rw [Option.bind_some, zd_l zd (by omega) (by omega), Option.bind_some, ht, (rl.2.2.1 t (by omega)).2.1]; rfl
  · refine ⟨1, 0, ?_, Or.inr rfl, fun h1 w1 => ?_⟩
    · unfold FX7_priority
      rw [z0_O (w_e0 w), Option.bind_some, r_rT (w_e0 w) (w_a5 w) hx hT, Option.bind_some, if_neg c, if_neg (by decide)]
    have w2 := ws_227 (x := upf u 0 0) w1
    have z := w_g227 w1
    have z2 := w_g227 w2
    have zd := w_g229 w2
    unfold FX8_priority JX8_priority_28
    rw [z8_O z, Option.bind_some, z8_w0 z, Option.bind_some, m_noTask z2 upf_eq zd hx (by rw [rl.1.2.2.2.1]; omega), Option.bind_some, rl.1.2.2.2.1]
    rw [if_neg c, if_neg (show ¬ w32 1 = 0 by decide)]
    dsimp only
    rw [List.set_set, upf_up]; rfl
theorem g_coreOf (w : WS h M S Mk e (n : Nat) (k : Nat) rr tx bs sp u bf d dr df dh) (r : WR M S Mk e n k tx bs u bf d dh) (hx : -2147483648 ≤ x ∧ x < 2147483648) : ∃ q v, FX7_coreOf h 0 x = some (q, v) ∧ (q = 0 ∨ q = 1) ∧ ∀ h1, WS h1 M S Mk e (n : Nat) (k : Nat) rr tx bs sp u bf d dr df dh → FX8_coreOf h1 227 x = some (v, h1.set 227 (mdl (upf u 0 (q : Nat)))) := by
  have iv := r.1.1
  have rl := r.1.2.1
  have rx := r.1.2.2.1
  have hT := iv.1.1.1
  have hC := iv.1.2.1.1
  by_cases c : 0 ≤ x ∧ x < M 1 0
  · obtain ⟨t, ht⟩ := Int.eq_ofNat_of_zero_le c.1
    refine ⟨0, M 7 t, ?_, Or.inl rfl, fun h1 w1 => ?_⟩
    · unfold FX7_coreOf
      rw [z0_O (w_e0 w), Option.bind_some, r_rT (w_e0 w) (w_a5 w) hx hT, Option.bind_some, if_pos c, if_pos rfl, z0_r1 (w_e0 w), Option.bind_some]
      rw [b5_gfr0_0 (w_a5 w), Option.bind_some, b5_gfr1_7 (w_a5 w), Option.bind_some, b5_a7 (w_a5 w) (by omega) (by omega), Option.bind_some, ht]; rfl
    have w2 := ws_227 (x := upf u 0 0) w1
    have z := w_g227 w1
    have z2 := w_g227 w2
    have zd := w_g229 w2
    unfold FX8_coreOf JX8_coreOf_29
    rw [z8_O z, Option.bind_some, z8_w0 z, Option.bind_some, m_noTask z2 upf_eq zd hx (by rw [rl.1.2.2.2.1]; omega), Option.bind_some, rl.1.2.2.2.1]
    rw [if_pos c, if_pos (show w32 0 = 0 by decide)]
    dsimp only
    rw [z8_r8 z2, Option.bind_some]
    unfold FX8_task
    rw [Option.bind_some, zd_l zd (by omega) (by omega), Option.bind_some, ht, (rx t (by omega)).1]; rfl
  · refine ⟨1, 0, ?_, Or.inr rfl, fun h1 w1 => ?_⟩
    · unfold FX7_coreOf
      rw [z0_O (w_e0 w), Option.bind_some, r_rT (w_e0 w) (w_a5 w) hx hT, Option.bind_some, if_neg c, if_neg (by decide)]
    have w2 := ws_227 (x := upf u 0 0) w1
    have z := w_g227 w1
    have z2 := w_g227 w2
    have zd := w_g229 w2
    unfold FX8_coreOf JX8_coreOf_29
    rw [z8_O z, Option.bind_some, z8_w0 z, Option.bind_some, m_noTask z2 upf_eq zd hx (by rw [rl.1.2.2.2.1]; omega), Option.bind_some, rl.1.2.2.2.1]
    rw [if_neg c, if_neg (show ¬ w32 1 = 0 by decide)]
    dsimp only
    rw [List.set_set, upf_up]; rfl
theorem g_doneAt (w : WS h M S Mk e (n : Nat) (k : Nat) rr tx bs sp u bf d dr df dh) (r : WR M S Mk e n k tx bs u bf d dh) (hx : -2147483648 ≤ x ∧ x < 2147483648) : ∃ q v, FX7_doneAt h 0 x = some (q, v) ∧ (q = 0 ∨ q = 1) ∧ ∀ h1, WS h1 M S Mk e (n : Nat) (k : Nat) rr tx bs sp u bf d dr df dh → FX8_doneAt h1 227 x = some (v, h1.set 227 (mdl (upf u 0 (q : Nat)))) := by
  have iv := r.1.1
  have rl := r.1.2.1
  have rx := r.1.2.2.1
  have hT := iv.1.1.1
  have hC := iv.1.2.1.1
  by_cases c : 0 ≤ x ∧ x < M 1 0
  · obtain ⟨t, ht⟩ := Int.eq_ofNat_of_zero_le c.1
    refine ⟨0, M 8 t, ?_, Or.inl rfl, fun h1 w1 => ?_⟩
    · unfold FX7_doneAt
      rw [z0_O (w_e0 w), Option.bind_some, r_rT (w_e0 w) (w_a5 w) hx hT, Option.bind_some, if_pos c, if_pos rfl, z0_r1 (w_e0 w), Option.bind_some]
      rw [b5_gfr0_0 (w_a5 w), Option.bind_some, b5_gfr1_8 (w_a5 w), Option.bind_some, b5_a8 (w_a5 w) (by omega) (by omega), Option.bind_some, ht]; rfl
    have w2 := ws_227 (x := upf u 0 0) w1
    have z := w_g227 w1
    have z2 := w_g227 w2
    have zd := w_g229 w2
    unfold FX8_doneAt JX8_doneAt_29
    rw [z8_O z, Option.bind_some, z8_w0 z, Option.bind_some, m_noTask z2 upf_eq zd hx (by rw [rl.1.2.2.2.1]; omega), Option.bind_some, rl.1.2.2.2.1]
    rw [if_pos c, if_pos (show w32 0 = 0 by decide)]
    dsimp only
    rw [z8_r8 z2, Option.bind_some]
    unfold FX8_task
    rw [Option.bind_some, zd_l zd (by omega) (by omega), Option.bind_some, ht, (rx t (by omega)).2]; rfl
  · refine ⟨1, 0, ?_, Or.inr rfl, fun h1 w1 => ?_⟩
    · unfold FX7_doneAt
      rw [z0_O (w_e0 w), Option.bind_some, r_rT (w_e0 w) (w_a5 w) hx hT, Option.bind_some, if_neg c, if_neg (by decide)]
    have w2 := ws_227 (x := upf u 0 0) w1
    have z := w_g227 w1
    have z2 := w_g227 w2
    have zd := w_g229 w2
    unfold FX8_doneAt JX8_doneAt_29
    rw [z8_O z, Option.bind_some, z8_w0 z, Option.bind_some, m_noTask z2 upf_eq zd hx (by rw [rl.1.2.2.2.1]; omega), Option.bind_some, rl.1.2.2.2.1]
    rw [if_neg c, if_neg (show ¬ w32 1 = 0 by decide)]
    dsimp only
    rw [List.set_set, upf_up]; rfl
theorem g_queueLength (w : WS h M S Mk e (n : Nat) (k : Nat) rr tx bs sp u bf d dr df dh) (r : WR M S Mk e n k tx bs u bf d dh) (hx : -2147483648 ≤ x ∧ x < 2147483648) : ∃ q v, FX7_queueLength h 0 x = some (q, v) ∧ (q = 0 ∨ q = 1) ∧ ∀ h1, WS h1 M S Mk e (n : Nat) (k : Nat) rr tx bs sp u bf d dr df dh → FX8_queueLength h1 227 x = some (v, h1.set 227 (mdl (upf u 0 (q : Nat)))) := by
  have iv := r.1.1
  have rl := r.1.2.1
  have rx := r.1.2.2.1
  have hT := iv.1.1.1
  have hC := iv.1.2.1.1
  by_cases c : 0 ≤ x ∧ x < M 11 0
  · obtain ⟨t, ht⟩ := Int.eq_ofNat_of_zero_le c.1
    refine ⟨0, M 13 t, ?_, Or.inl rfl, fun h1 w1 => ?_⟩
    · unfold FX7_queueLength
      rw [z0_O (w_e0 w), Option.bind_some, r_rC (w_e0 w) (w_a5 w) hx hC, Option.bind_some, if_pos c, if_pos rfl, z0_r1 (w_e0 w), Option.bind_some]
      rw [b5_gfr0_1 (w_a5 w), Option.bind_some, b5_gfr11_4 (w_a5 w), Option.bind_some, b5_a13 (w_a5 w) (by omega) (by omega), Option.bind_some, ht]; rfl
    have w2 := ws_227 (x := upf u 0 0) w1
    have z := w_g227 w1
    have z2 := w_g227 w2
    have zd := w_g229 w2
    unfold FX8_queueLength JX8_queueLength_28
    rw [z8_O z, Option.bind_some, z8_w0 z, Option.bind_some, m_noCore z2 upf_eq zd hx (by rw [rl.1.1]; omega), Option.bind_some, rl.1.1]
    rw [if_pos c, if_pos (show w32 0 = 0 by decide)]
    dsimp only
    rw [z8_r8 z2, Option.bind_some]
    unfold FX8_core
    rw [Option.bind_some, zd_l zd (by omega) (by omega), Option.bind_some, ht, (rl.2.2.2 t (by omega)).2.2.2.2.1]; rfl
  · refine ⟨1, 0, ?_, Or.inr rfl, fun h1 w1 => ?_⟩
    · unfold FX7_queueLength
      rw [z0_O (w_e0 w), Option.bind_some, r_rC (w_e0 w) (w_a5 w) hx hC, Option.bind_some, if_neg c, if_neg (by decide)]
    have w2 := ws_227 (x := upf u 0 0) w1
    have z := w_g227 w1
    have z2 := w_g227 w2
    have zd := w_g229 w2
    unfold FX8_queueLength JX8_queueLength_28
    rw [z8_O z, Option.bind_some, z8_w0 z, Option.bind_some, m_noCore z2 upf_eq zd hx (by rw [rl.1.1]; omega), Option.bind_some, rl.1.1]
    rw [if_neg c, if_neg (show ¬ w32 1 = 0 by decide)]
    dsimp only
    rw [List.set_set, upf_up]; rfl
theorem g_running (w : WS h M S Mk e (n : Nat) (k : Nat) rr tx bs sp u bf d dr df dh) (r : WR M S Mk e n k tx bs u bf d dh) (hx : -2147483648 ≤ x ∧ x < 2147483648) : ∃ q v, FX7_running h 0 x = some (q, v) ∧ (q = 0 ∨ q = 1) ∧ ∀ h1, WS h1 M S Mk e (n : Nat) (k : Nat) rr tx bs sp u bf d dr df dh → FX8_running h1 227 x = some (v, h1.set 227 (mdl (upf u 0 (q : Nat)))) := by
  have iv := r.1.1
  have rl := r.1.2.1
  have rx := r.1.2.2.1
  have hT := iv.1.1.1
  have hC := iv.1.2.1.1
  by_cases c : 0 ≤ x ∧ x < M 11 0
  · obtain ⟨t, ht⟩ := Int.eq_ofNat_of_zero_le c.1
    refine ⟨0, M 14 t, ?_, Or.inl rfl, fun h1 w1 => ?_⟩
    · unfold FX7_running
      rw [z0_O (w_e0 w), Option.bind_some, r_rC (w_e0 w) (w_a5 w) hx hC, Option.bind_some, if_pos c, if_pos rfl, z0_r1 (w_e0 w), Option.bind_some]
      rw [b5_gfr0_1 (w_a5 w), Option.bind_some, b5_gfr11_5 (w_a5 w), Option.bind_some, b5_a14 (w_a5 w) (by omega) (by omega), Option.bind_some, ht]; rfl
    have w2 := ws_227 (x := upf u 0 0) w1
    have z := w_g227 w1
    have z2 := w_g227 w2
    have zd := w_g229 w2
    unfold FX8_running JX8_running_28
    rw [z8_O z, Option.bind_some, z8_w0 z, Option.bind_some, m_noCore z2 upf_eq zd hx (by rw [rl.1.1]; omega), Option.bind_some, rl.1.1]
    rw [if_pos c, if_pos (show w32 0 = 0 by decide)]
    dsimp only
    rw [z8_r8 z2, Option.bind_some]
    unfold FX8_core
    rw [Option.bind_some, zd_l zd (by omega) (by omega), Option.bind_some, ht, (rl.2.2.2 t (by omega)).1]; rfl
  · refine ⟨1, 0, ?_, Or.inr rfl, fun h1 w1 => ?_⟩
    · unfold FX7_running
      rw [z0_O (w_e0 w), Option.bind_some, r_rC (w_e0 w) (w_a5 w) hx hC, Option.bind_some, if_neg c, if_neg (by decide)]
    have w2 := ws_227 (x := upf u 0 0) w1
    have z := w_g227 w1
    have z2 := w_g227 w2
    have zd := w_g229 w2
    unfold FX8_running JX8_running_28
    rw [z8_O z, Option.bind_some, z8_w0 z, Option.bind_some, m_noCore z2 upf_eq zd hx (by rw [rl.1.1]; omega), Option.bind_some, rl.1.1]
    rw [if_neg c, if_neg (show ¬ w32 1 = 0 by decide)]
    dsimp only
    rw [List.set_set, upf_up]; rfl
theorem g_busy (w : WS h M S Mk e (n : Nat) (k : Nat) rr tx bs sp u bf d dr df dh) (r : WR M S Mk e n k tx bs u bf d dh) (hx : -2147483648 ≤ x ∧ x < 2147483648) : ∃ q v, FX7_busy h 0 x = some (q, v) ∧ (q = 0 ∨ q = 1) ∧ ∀ h1, WS h1 M S Mk e (n : Nat) (k : Nat) rr tx bs sp u bf d dr df dh → FX8_busy h1 227 x = some (v, h1.set 227 (mdl (upf u 0 (q : Nat)))) := by
  have iv := r.1.1
  have rl := r.1.2.1
  have rx := r.1.2.2.1
  have hT := iv.1.1.1
  have hC := iv.1.2.1.1
  by_cases c : 0 ≤ x ∧ x < M 11 0
  · obtain ⟨t, ht⟩ := Int.eq_ofNat_of_zero_le c.1
    refine ⟨0, M 16 t, ?_, Or.inl rfl, fun h1 w1 => ?_⟩
    · unfold FX7_busy
      rw [z0_O (w_e0 w), Option.bind_some, r_rC (w_e0 w) (w_a5 w) hx hC, Option.bind_some, if_pos c, if_pos rfl, z0_r1 (w_e0 w), Option.bind_some]
      rw [b5_gfr0_1 (w_a5 w), Option.bind_some, b5_gfr11_7 (w_a5 w), Option.bind_some, b5_a16 (w_a5 w) (by omega) (by omega), Option.bind_some, ht]; rfl
    have w2 := ws_227 (x := upf u 0 0) w1
    have z := w_g227 w1
    have z2 := w_g227 w2
    have zd := w_g229 w2
    unfold FX8_busy JX8_busy_28
    rw [z8_O z, Option.bind_some, z8_w0 z, Option.bind_some, m_noCore z2 upf_eq zd hx (by rw [rl.1.1]; omega), Option.bind_some, rl.1.1]
    rw [if_pos c, if_pos (show w32 0 = 0 by decide)]
    dsimp only
    rw [z8_r8 z2, Option.bind_some]
    unfold FX8_core
    rw [Option.bind_some, zd_l zd (by omega) (by omega), Option.bind_some, ht, (rl.2.2.2 t (by omega)).2.1]; rfl
  · refine ⟨1, 0, ?_, Or.inr rfl, fun h1 w1 => ?_⟩
    · unfold FX7_busy
      rw [z0_O (w_e0 w), Option.bind_some, r_rC (w_e0 w) (w_a5 w) hx hC, Option.bind_some, if_neg c, if_neg (by decide)]
    have w2 := ws_227 (x := upf u 0 0) w1
    have z := w_g227 w1
    have z2 := w_g227 w2
    have zd := w_g229 w2
    unfold FX8_busy JX8_busy_28
    rw [z8_O z, Option.bind_some, z8_w0 z, Option.bind_some, m_noCore z2 upf_eq zd hx (by rw [rl.1.1]; omega), Option.bind_some, rl.1.1]
    rw [if_neg c, if_neg (show ¬ w32 1 = 0 by decide)]
    dsimp only
    rw [List.set_set, upf_up]; rfl
theorem g_steals (w : WS h M S Mk e (n : Nat) (k : Nat) rr tx bs sp u bf d dr df dh) (r : WR M S Mk e n k tx bs u bf d dh) (hx : -2147483648 ≤ x ∧ x < 2147483648) : ∃ q v, FX7_steals h 0 x = some (q, v) ∧ (q = 0 ∨ q = 1) ∧ ∀ h1, WS h1 M S Mk e (n : Nat) (k : Nat) rr tx bs sp u bf d dr df dh → FX8_steals h1 227 x = some (v, h1.set 227 (mdl (upf u 0 (q : Nat)))) := by
  have iv := r.1.1
  have rl := r.1.2.1
  have rx := r.1.2.2.1
  have hT := iv.1.1.1
  have hC := iv.1.2.1.1
  by_cases c : 0 ≤ x ∧ x < M 11 0
  · obtain ⟨t, ht⟩ := Int.eq_ofNat_of_zero_le c.1
    refine ⟨0, M 17 t, ?_, Or.inl rfl, fun h1 w1 => ?_⟩
    · unfold FX7_steals
      rw [z0_O (w_e0 w), Option.bind_some, r_rC (w_e0 w) (w_a5 w) hx hC, Option.bind_some, if_pos c, if_pos rfl, z0_r1 (w_e0 w), Option.bind_some]
      rw [b5_gfr0_1 (w_a5 w), Option.bind_some, b5_gfr11_8 (w_a5 w), Option.bind_some, b5_a17 (w_a5 w) (by omega) (by omega), Option.bind_some, ht]; rfl
    have w2 := ws_227 (x := upf u 0 0) w1
    have z := w_g227 w1
    have z2 := w_g227 w2
    have zd := w_g229 w2
    unfold FX8_steals JX8_steals_28
    rw [z8_O z, Option.bind_some, z8_w0 z, Option.bind_some, m_noCore z2 upf_eq zd hx (by rw [rl.1.1]; omega), Option.bind_some, rl.1.1]
    rw [if_pos c, if_pos (show w32 0 = 0 by decide)]
    dsimp only
    rw [z8_r8 z2, Option.bind_some]
    unfold FX8_core
    rw [Option.bind_some, zd_l zd (by omega) (by omega), Option.bind_some, ht, (rl.2.2.2 t (by omega)).2.2.1]; rfl
  · refine ⟨1, 0, ?_, Or.inr rfl, fun h1 w1 => ?_⟩
    · unfold FX7_steals
      rw [z0_O (w_e0 w), Option.bind_some, r_rC (w_e0 w) (w_a5 w) hx hC, Option.bind_some, if_neg c, if_neg (by decide)]
    have w2 := ws_227 (x := upf u 0 0) w1
    have z := w_g227 w1
    have z2 := w_g227 w2
    have zd := w_g229 w2
    unfold FX8_steals JX8_steals_28
    rw [z8_O z, Option.bind_some, z8_w0 z, Option.bind_some, m_noCore z2 upf_eq zd hx (by rw [rl.1.1]; omega), Option.bind_some, rl.1.1]
    rw [if_neg c, if_neg (show ¬ w32 1 = 0 by decide)]
    dsimp only
    rw [List.set_set, upf_up]; rfl
theorem g_counter (w : WS h M S Mk e (n : Nat) (k : Nat) rr tx bs sp u bf d dr df dh) (r : WR M S Mk e n k tx bs u bf d dh) (hx : -2147483648 ≤ x ∧ x < 2147483648) : ∃ q v, FX7_counter h 0 x = some (q, v) ∧ (q = 0 ∨ q = 1) ∧ ∀ h1, WS h1 M S Mk e (n : Nat) (k : Nat) rr tx bs sp u bf d dr df dh → FX8_counter h1 227 x = some (v, h1.set 227 (mdl (upf u 0 (q : Nat)))) := by
  have iv := r.1.1
  have rl := r.1.2.1
  have rx := r.1.2.2.1
  have hT := iv.1.1.1
  have hC := iv.1.2.1.1
  by_cases c : 0 ≤ x ∧ x < M 1 0
  · obtain ⟨t, ht⟩ := Int.eq_ofNat_of_zero_le c.1
    refine ⟨0, (ctr M t : Int), ?_, Or.inl rfl, fun h1 w1 => ?_⟩
    · unfold FX7_counter
      rw [z0_O (w_e0 w), Option.bind_some, r_rT (w_e0 w) (w_a5 w) hx hT, Option.bind_some, if_pos c, if_pos rfl, z0_r1 (w_e0 w), Option.bind_some]
      obtain ⟨y, e1, e2⟩ := b5_unf (w_a5 w) iv.1.1
      rw [b5_gfr0_0 (w_a5 w), Option.bind_some, Option.bind_some, b5_gfr0_0 (w_a5 w), Option.bind_some, e1, Option.bind_some, ht, b5_ctr (w_a5 w) iv.1.1 e2 (by omega), Option.bind_some]
    have w2 := ws_227 (x := upf u 0 0) w1
    have z := w_g227 w1
    have z2 := w_g227 w2
    have zd := w_g229 w2
    unfold FX8_counter JX8_counter_25
    rw [z8_O z, Option.bind_some, z8_w0 z, Option.bind_some, m_noTask z2 upf_eq zd hx (by rw [rl.1.2.2.2.1]; omega), Option.bind_some, rl.1.2.2.2.1]
    rw [if_pos c, if_pos (show w32 0 = 0 by decide)]
    dsimp only
    rw [z8_r8 z2, Option.bind_some, ht, d_ctr zd iv.1.1 iv.2.2.2.2.1 rl (by omega), Option.bind_some]; rfl
  · refine ⟨1, 0, ?_, Or.inr rfl, fun h1 w1 => ?_⟩
    · unfold FX7_counter
      rw [z0_O (w_e0 w), Option.bind_some, r_rT (w_e0 w) (w_a5 w) hx hT, Option.bind_some, if_neg c, if_neg (by decide)]
    have w2 := ws_227 (x := upf u 0 0) w1
    have z := w_g227 w1
    have z2 := w_g227 w2
    have zd := w_g229 w2
    unfold FX8_counter JX8_counter_25
    rw [z8_O z, Option.bind_some, z8_w0 z, Option.bind_some, m_noTask z2 upf_eq zd hx (by rw [rl.1.2.2.2.1]; omega), Option.bind_some, rl.1.2.2.2.1]
    rw [if_neg c, if_neg (show ¬ w32 1 = 0 by decide)]
    dsimp only
    rw [List.set_set, upf_up]; rfl
theorem g_remaining (w : WS h M S Mk e (n : Nat) (k : Nat) rr tx bs sp u bf d dr df dh) (r : WR M S Mk e n k tx bs u bf d dh) (hx : -2147483648 ≤ x ∧ x < 2147483648) : ∃ q v, FX7_remaining h 0 x = some (q, v) ∧ (q = 0 ∨ q = 1) ∧ ∀ h1, WS h1 M S Mk e (n : Nat) (k : Nat) rr tx bs sp u bf d dr df dh → FX8_remaining h1 227 x = some (v, h1.set 227 (mdl (upf u 0 (q : Nat)))) := by
  have iv := r.1.1
  have rl := r.1.2.1
  have rx := r.1.2.2.1
  have hT := iv.1.1.1
  have hC := iv.1.2.1.1
  by_cases c : 0 ≤ x ∧ x < M 11 0
  · obtain ⟨t, ht⟩ := Int.eq_ofNat_of_zero_le c.1
    refine ⟨0, M 15 t, ?_, Or.inl rfl, fun h1 w1 => ?_⟩
    · unfold FX7_remaining
      rw [z0_O (w_e0 w), Option.bind_some, r_rC (w_e0 w) (w_a5 w) hx hC, Option.bind_some, if_pos c, if_pos rfl, z0_r1 (w_e0 w), Option.bind_some]
      rw [b5_gfr0_1 (w_a5 w), Option.bind_some, b5_gfr11_6 (w_a5 w), Option.bind_some, b5_a15 (w_a5 w) (by omega) (by omega), Option.bind_some, ht]; rfl
    have w2 := ws_227 (x := upf u 0 0) w1
    have z := w_g227 w1
    have z2 := w_g227 w2
    have zd := w_g229 w2
    unfold FX8_remaining JX8_remaining_22
    rw [z8_O z, Option.bind_some, z8_w0 z, Option.bind_some, m_noCore z2 upf_eq zd hx (by rw [rl.1.1]; omega), Option.bind_some, rl.1.1]
    rw [if_pos c, if_pos (show w32 0 = 0 by decide)]
    dsimp only
    rw [ht, d_rem z2 zd iv.1 rl (by omega), Option.bind_some]; rfl
  · refine ⟨1, 0, ?_, Or.inr rfl, fun h1 w1 => ?_⟩
    · unfold FX7_remaining
      rw [z0_O (w_e0 w), Option.bind_some, r_rC (w_e0 w) (w_a5 w) hx hC, Option.bind_some, if_neg c, if_neg (by decide)]
    have w2 := ws_227 (x := upf u 0 0) w1
    have z := w_g227 w1
    have z2 := w_g227 w2
    have zd := w_g229 w2
    unfold FX8_remaining JX8_remaining_22
    rw [z8_O z, Option.bind_some, z8_w0 z, Option.bind_some, m_noCore z2 upf_eq zd hx (by rw [rl.1.1]; omega), Option.bind_some, rl.1.1]
    rw [if_neg c, if_neg (show ¬ w32 1 = 0 by decide)]
    dsimp only
    rw [List.set_set, upf_up]; rfl
theorem g_isPaused (w : WS h M S Mk e (n : Nat) (k : Nat) rr tx bs sp u bf d dr df dh) (r : WR M S Mk e n k tx bs u bf d dh) (hx : -2147483648 ≤ x ∧ x < 2147483648) : ∃ q v, FX7_isPaused h 0 x = some (q, v) ∧ (q = 0 ∨ q = 1) ∧ (v = 0 ∨ v = 1) ∧ ∀ h1, WS h1 M S Mk e (n : Nat) (k : Nat) rr tx bs sp u bf d dr df dh → FX8_isPaused h1 227 x = some (v, h1.set 227 (mdl (upf u 0 (q : Nat)))) := by
  have iv := r.1.1
  have rl := r.1.2.1
  have rx := r.1.2.2.1
  have hT := iv.1.1.1
  have hC := iv.1.2.1.1
  by_cases c : 0 ≤ x ∧ x < M 11 0
  · obtain ⟨t, ht⟩ := Int.eq_ofNat_of_zero_le c.1
    refine ⟨0, M 18 t, ?_, Or.inl rfl, iv.1.2.1.2.2.2.2.2 t (by omega), fun h1 w1 => ?_⟩
    · unfold FX7_isPaused
      rw [z0_O (w_e0 w), Option.bind_some, r_rC (w_e0 w) (w_a5 w) hx hC, Option.bind_some, if_pos c, if_pos rfl, z0_r1 (w_e0 w), Option.bind_some]
      have hb := iv.1.2.1.2.2.2.2.2 t (by omega)
      rw [b5_gfr0_1 (w_a5 w), Option.bind_some, b5_gfr11_9 (w_a5 w), Option.bind_some, b5_a18 (w_a5 w) (by omega) (by omega), Option.bind_some, ht, Int.toNat_natCast, if_pos hb]
    have w2 := ws_227 (x := upf u 0 0) w1
    have z := w_g227 w1
    have z2 := w_g227 w2
    have zd := w_g229 w2
    unfold FX8_isPaused JX8_isPaused_32 JX8_isPaused_33
    rw [z8_O z, Option.bind_some, z8_w0 z, Option.bind_some, m_noCore z2 upf_eq zd hx (by rw [rl.1.1]; omega), Option.bind_some, rl.1.1]
    rw [if_pos c, if_pos (show w32 0 = 0 by decide)]
    dsimp only
    have hb := iv.1.2.1.2.2.2.2.2 t (by omega)
    rw [z8_r8 z2, Option.bind_some]
    unfold FX8_core
    rw [Option.bind_some, zd_l zd (by omega) (by omega), Option.bind_some, ht, (rl.2.2.2 t (by omega)).2.2.2.1]
    rcases hb with hb | hb
    · rw [hb, if_neg (show ¬ w32 0 = w32 1 by decide), if_pos (Or.inl rfl)]; rfl
    · rw [hb, if_pos rfl, if_pos (Or.inr rfl)]; rfl
  · refine ⟨1, 0, ?_, Or.inr rfl, Or.inl rfl, fun h1 w1 => ?_⟩
    · unfold FX7_isPaused
      rw [z0_O (w_e0 w), Option.bind_some, r_rC (w_e0 w) (w_a5 w) hx hC, Option.bind_some, if_neg c, if_neg (by decide)]
    have w2 := ws_227 (x := upf u 0 0) w1
    have z := w_g227 w1
    have z2 := w_g227 w2
    have zd := w_g229 w2
    unfold FX8_isPaused JX8_isPaused_32 JX8_isPaused_33
    rw [z8_O z, Option.bind_some, z8_w0 z, Option.bind_some, m_noCore z2 upf_eq zd hx (by rw [rl.1.1]; omega), Option.bind_some, rl.1.1]
    rw [if_neg c, if_neg (show ¬ w32 1 = 0 by decide)]
    dsimp only
    rw [List.set_set, upf_up]; rw [if_pos (Or.inl rfl)]; rfl
end
section
variable {h : PH} {xs : Nat → Int} {L : Nat} {v4 : Int}
theorem lc7 (hs : ∀ j, j < L → -2147483648 ≤ xs j ∧ xs j < 2147483648) (h0 : 0 ≤ v4) (hL : v4 + 6 ≤ L) (w : Wld h) : ∃ h', LC7 xs L 0 227 243 v4 h = some h' ∧ Wld h' := by
  obtain ⟨M, S, Mk, e, n, k, rr, tx, bs, sp, u, bf, d, dr, df, dh, w, r⟩ := w
  obtain ⟨x, hx, hr⟩ := sld_ok (i := v4 + 1) hs (by omega) (by omega)
  obtain ⟨q, v, hA, hq, hB⟩ := g_state w r hr
  unfold LC7 FL_state
  simp only [hx, Option.bind_some]
  exact lc_get w r hA hq hB
theorem lc8 (hs : ∀ j, j < L → -2147483648 ≤ xs j ∧ xs j < 2147483648) (h0 : 0 ≤ v4) (hL : v4 + 6 ≤ L) (w : Wld h) : ∃ h', LC8 xs L 0 227 243 v4 h = some h' ∧ Wld h' := by
  obtain ⟨M, S, Mk, e, n, k, rr, tx, bs, sp, u, bf, d, dr, df, dh, w, r⟩ := w
  obtain ⟨x, hx, hr⟩ := sld_ok (i := v4 + 1) hs (by omega) (by omega)
  obtain ⟨q, v, hA, hq, hB⟩ := g_counter w r hr
  unfold LC8 FL_counter
  simp only [hx, Option.bind_some]
  exact lc_get w r hA hq hB
theorem lc9 (hs : ∀ j, j < L → -2147483648 ≤ xs j ∧ xs j < 2147483648) (h0 : 0 ≤ v4) (hL : v4 + 6 ≤ L) (w : Wld h) : ∃ h', LC9 xs L 0 227 243 v4 h = some h' ∧ Wld h' := by
  obtain ⟨M, S, Mk, e, n, k, rr, tx, bs, sp, u, bf, d, dr, df, dh, w, r⟩ := w
  obtain ⟨x, hx, hr⟩ := sld_ok (i := v4 + 1) hs (by omega) (by omega)
  obtain ⟨q, v, hA, hq, hB⟩ := g_priority w r hr
  unfold LC9 FL_priority
  simp only [hx, Option.bind_some]
  exact lc_get w r hA hq hB
theorem lc10 (hs : ∀ j, j < L → -2147483648 ≤ xs j ∧ xs j < 2147483648) (h0 : 0 ≤ v4) (hL : v4 + 6 ≤ L) (w : Wld h) : ∃ h', LC10 xs L 0 227 243 v4 h = some h' ∧ Wld h' := by
  obtain ⟨M, S, Mk, e, n, k, rr, tx, bs, sp, u, bf, d, dr, df, dh, w, r⟩ := w
  obtain ⟨x, hx, hr⟩ := sld_ok (i := v4 + 1) hs (by omega) (by omega)
  obtain ⟨q, v, hA, hq, hB⟩ := g_coreOf w r hr
  unfold LC10 FL_coreOf
  simp only [hx, Option.bind_some]
  exact lc_get w r hA hq hB
theorem lc11 (hs : ∀ j, j < L → -2147483648 ≤ xs j ∧ xs j < 2147483648) (h0 : 0 ≤ v4) (hL : v4 + 6 ≤ L) (w : Wld h) : ∃ h', LC11 xs L 0 227 243 v4 h = some h' ∧ Wld h' := by
  obtain ⟨M, S, Mk, e, n, k, rr, tx, bs, sp, u, bf, d, dr, df, dh, w, r⟩ := w
  obtain ⟨x, hx, hr⟩ := sld_ok (i := v4 + 1) hs (by omega) (by omega)
  obtain ⟨q, v, hA, hq, hB⟩ := g_doneAt w r hr
  unfold LC11 FL_doneAt
  simp only [hx, Option.bind_some]
  exact lc_get w r hA hq hB
theorem lc13 (hs : ∀ j, j < L → -2147483648 ≤ xs j ∧ xs j < 2147483648) (h0 : 0 ≤ v4) (hL : v4 + 6 ≤ L) (w : Wld h) : ∃ h', LC13 xs L 0 227 243 v4 h = some h' ∧ Wld h' := by
  obtain ⟨M, S, Mk, e, n, k, rr, tx, bs, sp, u, bf, d, dr, df, dh, w, r⟩ := w
  obtain ⟨x, hx, hr⟩ := sld_ok (i := v4 + 1) hs (by omega) (by omega)
  obtain ⟨q, v, hA, hq, hB⟩ := g_queueLength w r hr
  unfold LC13 FL_queueLength
  simp only [hx, Option.bind_some]
  exact lc_get w r hA hq hB
theorem lc15 (hs : ∀ j, j < L → -2147483648 ≤ xs j ∧ xs j < 2147483648) (h0 : 0 ≤ v4) (hL : v4 + 6 ≤ L) (w : Wld h) : ∃ h', LC15 xs L 0 227 243 v4 h = some h' ∧ Wld h' := by
  obtain ⟨M, S, Mk, e, n, k, rr, tx, bs, sp, u, bf, d, dr, df, dh, w, r⟩ := w
  obtain ⟨x, hx, hr⟩ := sld_ok (i := v4 + 1) hs (by omega) (by omega)
  obtain ⟨q, v, hA, hq, hB⟩ := g_running w r hr
  unfold LC15 FL_running
  simp only [hx, Option.bind_some]
  exact lc_get w r hA hq hB
theorem lc16 (hs : ∀ j, j < L → -2147483648 ≤ xs j ∧ xs j < 2147483648) (h0 : 0 ≤ v4) (hL : v4 + 6 ≤ L) (w : Wld h) : ∃ h', LC16 xs L 0 227 243 v4 h = some h' ∧ Wld h' := by
  obtain ⟨M, S, Mk, e, n, k, rr, tx, bs, sp, u, bf, d, dr, df, dh, w, r⟩ := w
  obtain ⟨x, hx, hr⟩ := sld_ok (i := v4 + 1) hs (by omega) (by omega)
  obtain ⟨q, v, hA, hq, hB⟩ := g_remaining w r hr
  unfold LC16 FL_remaining
  simp only [hx, Option.bind_some]
  exact lc_get w r hA hq hB
theorem lc17 (hs : ∀ j, j < L → -2147483648 ≤ xs j ∧ xs j < 2147483648) (h0 : 0 ≤ v4) (hL : v4 + 6 ≤ L) (w : Wld h) : ∃ h', LC17 xs L 0 227 243 v4 h = some h' ∧ Wld h' := by
  obtain ⟨M, S, Mk, e, n, k, rr, tx, bs, sp, u, bf, d, dr, df, dh, w, r⟩ := w
  obtain ⟨x, hx, hr⟩ := sld_ok (i := v4 + 1) hs (by omega) (by omega)
  obtain ⟨q, v, hA, hq, hB⟩ := g_busy w r hr
  unfold LC17 FL_busy
  simp only [hx, Option.bind_some]
  exact lc_get w r hA hq hB
theorem lc18 (hs : ∀ j, j < L → -2147483648 ≤ xs j ∧ xs j < 2147483648) (h0 : 0 ≤ v4) (hL : v4 + 6 ≤ L) (w : Wld h) : ∃ h', LC18 xs L 0 227 243 v4 h = some h' ∧ Wld h' := by
  obtain ⟨M, S, Mk, e, n, k, rr, tx, bs, sp, u, bf, d, dr, df, dh, w, r⟩ := w
  obtain ⟨x, hx, hr⟩ := sld_ok (i := v4 + 1) hs (by omega) (by omega)
  obtain ⟨q, v, hA, hq, hB⟩ := g_steals w r hr
  unfold LC18 FL_steals
  simp only [hx, Option.bind_some]
  exact lc_get w r hA hq hB
theorem lc19 (hs : ∀ j, j < L → -2147483648 ≤ xs j ∧ xs j < 2147483648) (h0 : 0 ≤ v4) (hL : v4 + 6 ≤ L) (w : Wld h) : ∃ h', LC19 xs L 0 227 243 v4 h = some h' ∧ Wld h' := by
  obtain ⟨M, S, Mk, e, n, k, rr, tx, bs, sp, u, bf, d, dr, df, dh, w, r⟩ := w
  obtain ⟨x, hx, hr⟩ := sld_ok (i := v4 + 1) hs (by omega) (by omega)
  obtain ⟨q, v, hA, hq, hv, hB⟩ := g_isPaused w r hr
  unfold LC19 FL_isPaused
  simp only [hx, Option.bind_some]
  exact lc_getb w r hA hq hv hB
end
