set_option linter.unusedVariables false
set_option linter.unusedSimpArgs false
section
variable {h : PH} {xs : Nat → Int} {L : Nat} {v4 : Int}
theorem lc23 (hs : ∀ j, j < L → -2147483648 ≤ xs j ∧ xs j < 2147483648) (h0 : 0 ≤ v4) (hL : v4 + 6 ≤ L) (w : Wld h) : ∃ h', LC23 xs L 0 227 243 v4 h = some h' ∧ Wld h' := by
  obtain ⟨M, S, Mk, e, n, k, rr, tx, bs, sp, u, bf, d, dr, df, dh, w, r⟩ := w
  obtain ⟨x, hx, hr⟩ := sld_ok (i := v4 + 1) hs (by omega) (by omega)
  obtain ⟨y, hy, hr2⟩ := sld_ok (i := v4 + 2) hs (by omega) (by omega)
  have iv := r.1.1
  have rl := r.1.2.1
  have hC := iv.1.2.1.1
  have hT := iv.1.1.1
  have z := w_g227 w
  have w4 := ws_227 (x := upf u 0 0) w
  have z4 := w_g227 w4
  unfold LC23 FL_timeOn
  simp only [hx, hy, Option.bind_some]
  by_cases c : (1 ≤ x ∧ x ≤ 4) ∧ 0 ≤ y ∧ y ≤ 500
  · obtain ⟨c1, c2⟩ := c
    obtain ⟨q, hq⟩ := Int.eq_ofNat_of_zero_le (show 0 ≤ x by omega)
    obtain ⟨t, ht⟩ := Int.eq_ofNat_of_zero_le c2.1
    by_cases c3 : M 11 0 = 0
    · have eA : FX7_timeOn h 0 x y = some (3, 0, h) := by
        unfold FX7_timeOn
        rw [z0_O (w_e0 w), Option.bind_some, w32_eq hr.1 hr.2, show w32 1 = 1 from rfl, if_neg (by omega), show w32 4 = 4 from rfl, if_neg (by omega), r_rL hr2, Option.bind_some, if_pos c2, if_pos rfl, r_rS (w_e0 w) (w_a5 w) hC, Option.bind_some, if_pos c3, if_neg (by decide)]
      rw [eA, Option.bind_some, if_neg (show ¬ (3 : Nat) = 0 by decide), if_neg (show ¬ (3 : Nat) = 2 by decide), if_pos rfl, Option.bind_some]
      dsimp only
      have w5 := ws_227 (x := upf u 0 2) w
      have eB : FX8_timeOn h 227 x y = some (0, h.set 227 (mdl (upf u 0 2))) := by
        unfold FX8_timeOn JX8_timeOn_31 JX8_timeOn_53 JX8_timeOn_60
        rw [z8_O z, Option.bind_some, z8_w0 z, Option.bind_some, m_in hr (by omega) (by omega), Option.bind_some, if_pos c1, if_neg (show ¬ w32 1 = 0 by decide), m_in hr2 (by omega) (by omega), Option.bind_some, if_pos c2, if_neg (show ¬ w32 1 = 0 by decide), m_fails0 z4 upf_eq, Option.bind_some, if_pos (show w32 0 = 0 by decide)]
        dsimp only
        rw [z8_r8 z4, Option.bind_some, zd_l (w_g229 w4) (by omega) (by omega), Option.bind_some, rl.1.1, c3, if_pos (show w32 0 = 0 by decide), m_fails1 z4 upf_eq (by omega), Option.bind_some, if_neg (show ¬ w32 1 = 0 by decide), List.set_set, upf_up]
      rw [eB, Option.bind_some]
      exact ⟨_, lck_ok (w_g227 w5) upf_eq (fun q => absurd q (by decide)), M, S, Mk, e, n, k, rr, tx, bs, sp, _, bf, d, dr, df, dh, w5, WR_u r⟩
    · have hk : ∀ y, y ≠ 10 → cpM S M y = M y := fun y hy => cp_ne hy
      have ivS := iv_10 hk iv
      have pre : PreSa (cpM S M) := ⟨ivS.1.1, ivS.1.2.2, ivS.2.2.2.2.1, ivS.1.2.1.2.1, ivS.1.2.1.2.2.1⟩
      have ivT := iv_sa pre (c := q) (by omega)
      have cp := k_cpy (w_a27 w) (w_a5 w) (by unfold apart; omega) (w_f5 w) iv.1.2.1.2.2.2.2.2
      have w1 := ws_S (N := cpM S M) w (FM_congr (by rw [hk 0 (by decide)]) (hk 19 (by decide)) (w_f5 w))
      have sa := b27_sa (w_a27 w1) ivS.1.1 (c := q) (by omega)
      have wT := ws_S (N := saM (cpM S M) q) w1 (FM_congr (by rw [sa_0, if_neg (by decide)]) (sa_r (by decide) (by decide) (by decide) (by decide) (by omega)) (w_f27 w1))
      obtain ⟨ss, h2, S', g1, g2, g3, w2⟩ := k_cuf wT ivT (lim := t) (by omega)
      obtain ⟨x0, zx⟩ := w_g243 w2
      have w3 := ws_243 (x := w32 (cuf ss t 0 (saM (cpM S M) q))) w2
      have eA : FX7_timeOn h 0 x y = some (0, cuf ss t 0 (saM (cpM S M) q), h2) := by
        unfold FX7_timeOn
        rw [z0_O (w_e0 w), Option.bind_some, w32_eq hr.1 hr.2, show w32 1 = 1 from rfl, if_neg (by omega), show w32 4 = 4 from rfl, if_neg (by omega), r_rL hr2, Option.bind_some, if_pos c2, if_pos rfl, r_rS (w_e0 w) (w_a5 w) hC, Option.bind_some, if_neg c3, if_pos rfl, z0_r2 (w_e0 w), Option.bind_some, z0_r1 (w_e0 w), Option.bind_some, cp, Option.bind_some, z0_r2 (w_e0 w1), Option.bind_some, hq, sa, Option.bind_some, z0_r2 (w_e0 wT), Option.bind_some, ht, g2, Option.bind_some]
      rw [eA, Option.bind_some, if_pos rfl, z243_s zx, Option.bind_some, Option.bind_some]
      dsimp only
      have z := w_g227 w3
      have w4 := ws_227 (x := upf u 0 0) w3
      have z4 := w_g227 w4
      have cpm := m_copy (w_g229 w4) (w_g231 w4) (by decide)
      have w5 := ws_231 (x := d) w4
      have w6 := ws_231 (x := ud d 0 q) w5
      have w7 := ws_231 (x := ud (ud d 0 q) 5 0) w6
      have w8 := ws_231 (x := clc (ud (ud d 0 q) 5 0) 4) w7
      obtain ⟨m, hm⟩ := Int.eq_ofNat_of_zero_le hT.1
      have lo : ∀ i : Int, i < 272 → clc (ud (ud d 0 q) 5 0) 4 i = ud (ud d 0 q) 5 0 i := fun i hi => by unfold clc; rw [if_neg (by omega)]
      obtain ⟨d9, l1, l2⟩ := m_tsa (c := q) (n := m) (v2 := y) (w_g227 w8) (w_g231 w8) (by omega) (by rw [lo _ (by omega), ud_ne (by omega), ud_ne (by omega), rl.1.2.2.2.1, hm]) (by omega) (fun j hj => by
        have := iv.1.1.2.2.1 j (by omega)
        rw [lo _ (by omega), ud_ne (by omega), ud_ne (by omega), (rl.2.2.1 j (by omega)).2.2.2.2]; exact this)
      have w9 := ws_231 (x := d9) w8
      have hm' : m = (cpM S M 1 0).toNat := by rw [hk 1 (by decide)]; omega
      rw [hm'] at l2
      have rel9 : Rel (saM (cpM S M) q) d9 := rel_sa ivS.1.1 (by omega) (rel_ten hk rl) l2
      obtain ⟨h10, df10, f1, w10, f2⟩ := k_fut (T := saM (cpM S M) q) w9 ivT rel9 g1 (lim := t) (by omega)
      have eB : FX8_timeOn (h2.set 243 (c243 (w32 (cuf ss t 0 (saM (cpM S M) q))))) 227 x y = some (cuf ss t 0 (saM (cpM S M) q), h10) := by
        unfold FX8_timeOn JX8_timeOn_31 JX8_timeOn_53
        rw [z8_O z, Option.bind_some, z8_w0 z, Option.bind_some, m_in hr (by omega) (by omega), Option.bind_some, if_pos c1, if_neg (show ¬ w32 1 = 0 by decide), m_in hr2 (by omega) (by omega), Option.bind_some, if_pos c2, if_neg (show ¬ w32 1 = 0 by decide), m_fails0 z4 upf_eq, Option.bind_some, if_pos (show w32 0 = 0 by decide)]
        dsimp only
        rw [z8_r8 z4, Option.bind_some, zd_l (w_g229 w4) (by omega) (by omega), Option.bind_some, rl.1.1, w32_eq (by omega) (by omega), if_neg c3, m_fails0 z4 upf_eq, Option.bind_some, if_pos (show w32 0 = 0 by decide)]
        dsimp only
        rw [z8_r8 z4, Option.bind_some, z8_r10 z4, Option.bind_some, cpm, Option.bind_some, z8_r10 (w_g227 w5), Option.bind_some, zd_s (w_g231 w5) (by omega) (by omega), Option.bind_some, hq, z8_r10 (w_g227 w6), Option.bind_some, zd_s (w_g231 w6) (by omega) (by omega), Option.bind_some, z8_r10 (w_g227 w7), Option.bind_some, m_clear (w_g231 w7), Option.bind_some, l1, Option.bind_some, ht, f1, Option.bind_some]
      rw [eB, Option.bind_some]
      refine ⟨h10, lck_ok (w_g227 w10) upf_eq (fun _ => ?_), M, S', Mk, e, n, k, rr, tx, bs, sp, _, bf, d, dr, df10, dh, w10, ?_⟩
      · rw [f2]
        rw [List.getElem?_set, if_neg (by decide), List.getElem?_set, if_neg (by decide), List.getElem?_set, if_neg (by decide), List.getElem?_set, if_neg (by decide), List.getElem?_set, if_neg (by decide), List.getElem?_set, if_neg (by decide), List.getElem?_set, if_pos rfl, if_pos (by have := w_len w2; omega)]
      · have r' := WR_u (x := 0) r
        exact ⟨r'.1, g3, r'.2.2⟩
  · have eA : FX7_timeOn h 0 x y = some (2, 0, h) := by
      unfold FX7_timeOn JX7_timeOn_10
      rw [z0_O (w_e0 w), Option.bind_some, w32_eq hr.1 hr.2, show w32 1 = 1 from rfl, show w32 4 = 4 from rfl]
      by_cases a1 : x < 1
      · rw [if_pos a1]
      · rw [if_neg a1]
        by_cases a2 : 4 < x
        · rw [if_pos a2]
        · rw [if_neg a2, r_rL hr2, Option.bind_some, if_neg (fun q => c ⟨by omega, q⟩), if_neg (by decide)]
    rw [eA, Option.bind_some, if_neg (show ¬ (2 : Nat) = 0 by decide), if_pos rfl, Option.bind_some]
    dsimp only
    have w5 := ws_227 (x := upf u 0 1) w
    have eB : FX8_timeOn h 227 x y = some (0, h.set 227 (mdl (upf u 0 1))) := by
      unfold FX8_timeOn JX8_timeOn_26 JX8_timeOn_31 JX8_timeOn_60
      rw [z8_O z, Option.bind_some, z8_w0 z, Option.bind_some, m_in hr (by omega) (by omega), Option.bind_some, m_in hr2 (by omega) (by omega), Option.bind_some, m_fails1 z4 upf_eq (by omega), Option.bind_some, if_neg (show ¬ w32 1 = 0 by decide), List.set_set, upf_up]
      by_cases a1 : 1 ≤ x ∧ x ≤ 4
      · rw [if_pos a1, if_neg (show ¬ w32 1 = 0 by decide), if_neg (fun q => c ⟨a1, q⟩), if_pos (show w32 0 = 0 by decide)]
      · rw [if_neg a1, if_pos (show w32 0 = 0 by decide)]
    rw [eB, Option.bind_some]
    exact ⟨_, lck_ok (w_g227 w5) upf_eq (fun q => absurd q (by decide)), M, S, Mk, e, n, k, rr, tx, bs, sp, _, bf, d, dr, df, dh, w5, WR_u r⟩
end
