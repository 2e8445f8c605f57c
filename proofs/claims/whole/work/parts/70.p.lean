set_option linter.unusedVariables false
set_option linter.unusedSimpArgs false
/-! ===== finishTime ===== -/
section
variable {h : PH} {M S : MM} {Mk : Nat → MM} {e nx ct : Int} {rr tx bs sp u bf : Nat → Int} {d dr df : Int → Int} {dh : Nat → Int → Int}
/-- the reference's future until all is finished -/
theorem k_fut {T : MM} {ss : List Int} (w : WS h M S Mk e nx ct rr tx bs sp u bf d dr df dh) (iv : IvM T) (r : Rel T df) (cr : CodM T ss) {lim : Nat} (hl : lim ≤ 500) : ∃ h' df', FX8_finishFuture h 227 lim = some (cuf ss lim 0 T, h') ∧ WS h' M S Mk e nx ct rr tx bs sp u bf d dr df' dh ∧ h'[243]? = h[243]? := by
  obtain ⟨K, zK⟩ := w_g241 w
  have len := w_len w
  obtain ⟨d', K', e1⟩ := m_cuf (h := h) (a := 231) (b := 241) (mp := 227) (K := K) (d := df) (by omega) (by omega) (by decide) (w_g227 w) rfl rfl (by decide) (by decide) iv r cr hl
  have hm : mh h 231 241 df K = h := by
    unfold mh sd
    rw [set_same zK, set_same (w_g231 w)]
  rw [hm] at e1
  refine ⟨_, d', e1, ws_231 (ws_241 w), ?_⟩
  unfold mh sd
  rw [List.getElem?_set, if_neg (by decide), List.getElem?_set, if_neg (by decide)]
end
section
variable {h : PH} {xs : Nat → Int} {L : Nat} {v4 : Int}
theorem lc22 (hs : ∀ j, j < L → -2147483648 ≤ xs j ∧ xs j < 2147483648) (h0 : 0 ≤ v4) (hL : v4 + 6 ≤ L) (w : Wld h) : ∃ h', LC22 xs L 0 227 243 v4 h = some h' ∧ Wld h' := by
  obtain ⟨M, S, Mk, e, n, k, rr, tx, bs, sp, u, bf, d, dr, df, dh, w, r⟩ := w
  obtain ⟨x, hx, hr⟩ := sld_ok (i := v4 + 1) hs (by omega) (by omega)
  have iv := r.1.1
  have rl := r.1.2.1
  unfold LC22 FL_finishTime
  simp only [hx, Option.bind_some]
  by_cases c : 0 ≤ x ∧ x ≤ 500
  · obtain ⟨t, ht⟩ := Int.eq_ofNat_of_zero_le c.1
    have hk : ∀ y, y ≠ 10 → cpM S M y = M y := fun y hy => cp_ne hy
    have ivS := iv_10 hk iv
    have cp := k_cpy (w_a27 w) (w_a5 w) (by unfold apart; omega) (w_f5 w) iv.1.2.1.2.2.2.2.2
    have w1 := ws_S (N := cpM S M) w (FM_congr (by rw [hk 0 (by decide)]) (hk 19 (by decide)) (w_f5 w))
    obtain ⟨ss, h2, S', g1, g2, g3, w2⟩ := k_cuf w1 ivS (lim := t) (by omega)
    obtain ⟨x0, zx⟩ := w_g243 w2
    have w3 := ws_243 (x := w32 (cuf ss t 0 (cpM S M))) w2
    have eA : FX7_finishTime h 0 x = some (0, cuf ss t 0 (cpM S M), h2) := by
      unfold FX7_finishTime
      rw [z0_O (w_e0 w), Option.bind_some, r_rL hr, Option.bind_some, if_pos c, if_pos rfl, z0_r2 (w_e0 w), Option.bind_some, z0_r1 (w_e0 w), Option.bind_some, cp, Option.bind_some, z0_r2 (w_e0 w1), Option.bind_some, ht, g2, Option.bind_some]
    rw [eA, Option.bind_some, if_pos rfl, z243_s zx, Option.bind_some, Option.bind_some]
    dsimp only
    have z := w_g227 w3
    have w4 := ws_227 (x := upf u 0 0) w3
    have z4 := w_g227 w4
    have cpm := m_copy (w_g229 w4) (w_g231 w4) (by decide)
    have w5 := ws_231 (x := d) w4
    obtain ⟨h6, df6, f1, w6, f2⟩ := k_fut (T := cpM S M) w5 ivS (rel_ten hk rl) g1 (lim := t) (by omega)
    have eB : FX8_finishTime (h2.set 243 (c243 (w32 (cuf ss t 0 (cpM S M))))) 227 x = some (cuf ss t 0 (cpM S M), h6) := by
      unfold FX8_finishTime JX8_finishTime_22
      rw [z8_O z, Option.bind_some, z8_w0 z, Option.bind_some, m_in hr (by omega) (by omega), Option.bind_some, if_pos c, if_neg (show ¬ w32 1 = 0 by decide), m_fails0 z4 upf_eq, Option.bind_some, if_pos (show w32 0 = 0 by decide)]
      dsimp only
      rw [z8_r8 z4, Option.bind_some, z8_r10 z4, Option.bind_some, cpm, Option.bind_some, ht, f1, Option.bind_some]
    rw [eB, Option.bind_some]
    refine ⟨h6, lck_ok (w_g227 w6) upf_eq (fun _ => ?_), M, S', Mk, e, n, k, rr, tx, bs, sp, _, bf, d, dr, df6, dh, w6, ?_⟩
    · rw [f2, List.getElem?_set, if_neg (by decide), List.getElem?_set, if_neg (by decide), List.getElem?_set, if_pos rfl, if_pos (by have := w_len w2; omega)]
    · have r' := WR_u (x := 0) r
      exact ⟨r'.1, g3, r'.2.2⟩
  · have eA : FX7_finishTime h 0 x = some (2, 0, h) := by
      unfold FX7_finishTime
      rw [z0_O (w_e0 w), Option.bind_some, r_rL hr, Option.bind_some, if_neg c, if_neg (by decide)]
    rw [eA, Option.bind_some, if_neg (show ¬ (2 : Nat) = 0 by decide), if_pos rfl, Option.bind_some]
    dsimp only
    have z := w_g227 w
    have w4 := ws_227 (x := upf u 0 0) w
    have z4 := w_g227 w4
    have w5 := ws_227 (x := upf u 0 1) w
    have eB : FX8_finishTime h 227 x = some (0, h.set 227 (mdl (upf u 0 1))) := by
      unfold FX8_finishTime JX8_finishTime_22
      rw [z8_O z, Option.bind_some, z8_w0 z, Option.bind_some, m_in hr (by omega) (by omega), Option.bind_some, if_neg c, if_pos (show w32 0 = 0 by decide), m_fails1 z4 upf_eq (by omega), Option.bind_some, if_neg (show ¬ w32 1 = 0 by decide), List.set_set, upf_up]
    rw [eB, Option.bind_some]
    exact ⟨_, lck_ok (w_g227 w5) upf_eq (fun q => absurd q (by decide)), M, S, Mk, e, n, k, rr, tx, bs, sp, _, bf, d, dr, df, dh, w5, WR_u r⟩
end
