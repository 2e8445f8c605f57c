set_option linter.unusedVariables false
set_option linter.unusedSimpArgs false
/-! ===== the calls that change something ===== -/
theorem WR_mut {M M' S : MM} {Mk : Nat → MM} {e : Int} {n k : Nat} {tx bs u bf : Nat → Int} {d d' : Int → Int} {dh : Nat → Int → Int} {x : Int} (r : WR M S Mk e n k tx bs u bf d dh) (p : Pair M' d') : WR M' S (uk Mk n (cpM (Mk n) M)) e (nxt n) (cup k) tx bs (upf (upf u 0 x) 12 ((cup k : Nat) : Int)) bf d' (dhr dh k d) := by
  obtain ⟨r1, r2, r3, r4, r5, r6, ⟨r7, r8, r9⟩, r10, r11⟩ := r
  refine ⟨p, r2, ?_, ?_, r5, r6, ⟨by unfold nxt; split <;> omega, by unfold cup; split <;> omega, upf_eq⟩, hr_rem r10 r1 r7 r8, fun i hi c hc => ?_⟩
  · rw [upf_ne (by decide), upf_ne (by decide)]; exact r3
  · rw [upf_ne (by decide), upf_ne (by decide)]; exact r4
  · by_cases ei : i = n
    · subst ei; rw [uk_eq, cp_ne (by decide)]; exact r1.1.1.2.1.2.2.2.2.2 c hc
    · rw [uk_ne ei]; exact r11 i hi c hc
section
variable {M : MM} {d : Int → Int}
theorem pair_pr (p : Pair M d) {t : Nat} {x : Int} (ht : (t : Int) < M 1 0) (hx : 0 ≤ x ∧ x ≤ 9) : Pair (up M 4 t x) (ud d (16 + 8 * (t : Int) + 1) x) := by
  obtain ⟨iv, rl, rx, ck, of⟩ := p
  have s := Sd_of iv.1
  have hT := iv.1.1.1
  obtain ⟨⟨okT, okC, okP⟩, oq, kr, os, ob, oh⟩ := iv
  have ek : ∀ b, b ≠ 4 → up M 4 t x b = M b := fun b hb => up_ne hb
  refine ⟨⟨⟨?_, ?_, fun q hq => ?_⟩, ?_, okR_congr (ek 11 (by decide)) (ek 14 (by decide)) kr, okS_congr (ek 2 (by decide)) (ek 11 (by decide)) (ek 12 (by decide)) (ek 13 (by decide)) (ek 14 (by decide)) os, okB_congr (ek 1 (by decide)) (ek 6 (by decide)) ob, okH_congr (ek 1 (by decide)) (ek 5 (by decide)) (ek 11 (by decide)) oh⟩, rel_pr s.1 s.2.1 s.2.2.1 s.2.2.2.1 rl s.2.2.2.2 ht, fun q hq => ?_, ?_, ?_⟩
  · unfold OkT at okT ⊢; rw [ek 1 (by decide), ek 2 (by decide), ek 9 (by decide)]; exact okT
  · unfold OkC runOk at okC ⊢; rw [ek 11 (by decide), ek 13 (by decide), ek 14 (by decide), ek 15 (by decide), ek 1 (by decide), ek 18 (by decide)]; exact okC
  · rw [ek 1 (by decide)] at hq
    rw [ek 5 (by decide), ek 3 (by decide)]
    have := okP q hq
    refine ⟨?_, this.2⟩
    by_cases eq : q = t
    · subst eq; rw [up_eq]; exact hx
    · rw [up_ni eq]; exact this.1
  · unfold OkQ at oq ⊢; rw [ek 13 (by decide), ek 12 (by decide), ek 1 (by decide)]; exact oq
  · rw [ek 1 (by decide)] at hq
    rw [ek 7 (by decide), ek 8 (by decide), ud_ne (by omega), ud_ne (by omega)]; exact rx q hq
  · unfold clkOk at ck ⊢; rw [ek 0 (by decide)]; exact ck
  · unfold OkF at of ⊢; rw [ek 1 (by decide), ek 9 (by decide), ek 11 (by decide), ek 13 (by decide)]; exact of
theorem pair_pause (p : Pair M d) {c : Nat} {x : Int} (hc : (c : Int) < M 11 0) (hx : x = 0 ∨ x = 1) : Pair (up M 18 c x) (ud d (272 + 13 * (c : Int) + 3) x) := by
  obtain ⟨iv, rl, rx, ck, of⟩ := p
  have s := Sd_of iv.1
  have hT := iv.1.1.1
  obtain ⟨⟨okT, okC, okP⟩, oq, kr, os, ob, oh⟩ := iv
  have ek : ∀ b, b ≠ 18 → up M 18 c x b = M b := fun b hb => up_ne hb
  refine ⟨⟨⟨?_, ?_, ?_⟩, ?_, okR_congr (ek 11 (by decide)) (ek 14 (by decide)) kr, okS_congr (ek 2 (by decide)) (ek 11 (by decide)) (ek 12 (by decide)) (ek 13 (by decide)) (ek 14 (by decide)) os, okB_congr (ek 1 (by decide)) (ek 6 (by decide)) ob, okH_congr (ek 1 (by decide)) (ek 5 (by decide)) (ek 11 (by decide)) oh⟩, rel_pause s.1 s.2.1 s.2.2.1 s.2.2.2.1 rl s.2.2.2.2 hc, fun q hq => ?_, ?_, ?_⟩
  · unfold OkT at okT ⊢; rw [ek 1 (by decide), ek 2 (by decide), ek 9 (by decide)]; exact okT
  · unfold OkC runOk at okC ⊢; rw [ek 11 (by decide), ek 13 (by decide), ek 14 (by decide), ek 15 (by decide), ek 1 (by decide)]
    refine ⟨okC.1, okC.2.1, okC.2.2.1, okC.2.2.2.1, okC.2.2.2.2.1, fun q hq => ?_⟩
    by_cases eq : q = c
    · subst eq; rw [up_eq]; exact hx
    · rw [up_ni eq]; exact okC.2.2.2.2.2 q hq
  · unfold OkP at okP ⊢; rw [ek 1 (by decide), ek 4 (by decide), ek 5 (by decide), ek 3 (by decide)]; exact okP
  · unfold OkQ at oq ⊢; rw [ek 13 (by decide), ek 12 (by decide), ek 1 (by decide)]; exact oq
  · rw [ek 1 (by decide)] at hq
    rw [ek 7 (by decide), ek 8 (by decide), ud_ne (by omega), ud_ne (by omega)]; exact rx q hq
  · unfold clkOk at ck ⊢; rw [ek 0 (by decide)]; exact ck
  · unfold OkF at of ⊢; rw [ek 1 (by decide), ek 9 (by decide), ek 11 (by decide), ek 13 (by decide)]; exact of
theorem rel_6 (s : Sd M) (r : Rel M d) {t : Nat} {x : Int} (ht : (t : Int) < M 1 0) : Rel (up M 6 t x) (ud d (16 + 8 * (t : Int) + 3) x) := by
  obtain ⟨s1, s2, s3, s4, s5⟩ := s
  obtain ⟨⟨r0, r1, r2, r3, r4, r5⟩, rf, rt, rc⟩ := r
  have ek : ∀ k, k ≠ 6 → up M 6 t x k = M k := fun k hk => up_ne hk
  refine ⟨⟨?_, ?_, ?_, ?_, ?_, ?_⟩, fun f hf => ?_, fun q hq => ?_, fun q hq => ?_⟩
  · rw [ud_ne (by omega), ek 11 (by decide)]; exact r0
  · rw [ud_ne (by omega), ek 11 (by decide)]; exact r1
  · rw [ud_ne (by omega), ek 11 (by decide)]; exact r2
  · rw [ud_ne (by omega), ek 1 (by decide)]; exact r3
  · rw [ud_ne (by omega), ek 1 (by decide)]; exact r4
  · refine ⟨?_, fun i hi => ?_⟩
    · rw [ud_ne (by omega), ek 0 (by decide)]; exact r5.1
    · rw [ud_ne (by omega), ek 19 (by decide)]; exact r5.2 i hi
  · rw [ek 1 (by decide)] at hf
    rw [ud_ne (by omega), ek 9 (by decide)]; exact rf f hf
  · rw [ek 1 (by decide)] at hq
    obtain ⟨a0, a1, a2, a3, a4⟩ := rt q hq
    rw [ek 3 (by decide), ek 4 (by decide), ek 5 (by decide), ek 2 (by decide)]
    refine ⟨by rw [ud_ne (by omega)]; exact a0, by rw [ud_ne (by omega)]; exact a1, by rw [ud_ne (by omega)]; exact a2, ?_, by rw [ud_ne (by omega)]; exact a4⟩
    by_cases e : q = t
    · subst e; rw [ud_eq, up_eq]
    · rw [ud_ne (by omega), up_ni e]; exact a3
  · rw [ek 11 (by decide)] at hq
    obtain ⟨a0, a1, a2, a3, a4, a5, a6⟩ := rc q hq
    rw [ek 14 (by decide), ek 16 (by decide), ek 17 (by decide), ek 18 (by decide), ek 13 (by decide), ek 12 (by decide), ek 15 (by decide), ud_ne (by omega), ud_ne (by omega), ud_ne (by omega), ud_ne (by omega), ud_ne (by omega)]
    refine ⟨a0, a1, a2, a3, a4, fun k hk => ?_, fun hr => ?_⟩
    · rw [ud_ne (by omega)]; exact a5 k hk
    · have := s5 q hq hr
      rw [ud_ne (by omega)]; exact a6 hr
theorem pair_dep (p : Pair M d) {t o : Nat} (ht : (t : Int) < M 1 0) (ho : o < t) : Pair (up M 6 t (orI (M 6 t) (shlI 1 (o : Int)))) (ud d (16 + 8 * (t : Int) + 3) (orI (M 6 t) (shlI 1 (o : Int)))) := by
  obtain ⟨iv, rl, rx, ck, of⟩ := p
  have s := Sd_of iv.1
  have hT := iv.1.1.1
  obtain ⟨⟨okT, okC, okP⟩, oq, kr, os, ob, oh⟩ := iv
  have ek : ∀ b, b ≠ 6 → up M 6 t (orI (M 6 t) (shlI 1 (o : Int))) b = M b := fun b hb => up_ne hb
  refine ⟨⟨⟨?_, ?_, ?_⟩, ?_, okR_congr (ek 11 (by decide)) (ek 14 (by decide)) kr, okS_congr (ek 2 (by decide)) (ek 11 (by decide)) (ek 12 (by decide)) (ek 13 (by decide)) (ek 14 (by decide)) os, fun q hq j hj hj2 => ?_, okH_congr (ek 1 (by decide)) (ek 5 (by decide)) (ek 11 (by decide)) oh⟩, rel_6 s rl ht, fun q hq => ?_, ?_, ?_⟩
  · unfold OkT at okT ⊢; rw [ek 1 (by decide), ek 2 (by decide), ek 9 (by decide)]; exact okT
  · unfold OkC runOk at okC ⊢; rw [ek 11 (by decide), ek 13 (by decide), ek 14 (by decide), ek 15 (by decide), ek 1 (by decide), ek 18 (by decide)]; exact okC
  · unfold OkP at okP ⊢; rw [ek 1 (by decide), ek 4 (by decide), ek 5 (by decide), ek 3 (by decide)]; exact okP
  · unfold OkQ at oq ⊢; rw [ek 13 (by decide), ek 12 (by decide), ek 1 (by decide)]; exact oq
  · rw [ek 1 (by decide)] at hq
    have := ob q hq j hj hj2
    by_cases eq : q = t
    · subst eq
      rw [up_eq, tb_or, this, tb_bit (by omega) hj2]
      simp; omega
    · rw [up_ni eq]; exact this
  · rw [ek 1 (by decide)] at hq
    rw [ek 7 (by decide), ek 8 (by decide), ud_ne (by omega), ud_ne (by omega)]; exact rx q hq
  · unfold clkOk at ck ⊢; rw [ek 0 (by decide)]; exact ck
  · unfold OkF at of ⊢; rw [ek 1 (by decide), ek 9 (by decide), ek 11 (by decide), ek 13 (by decide)]; exact of
end
section
variable {h : PH} {xs : Nat → Int} {L : Nat} {v4 : Int}
theorem lc28 (hs : ∀ j, j < L → -2147483648 ≤ xs j ∧ xs j < 2147483648) (h0 : 0 ≤ v4) (hL : v4 + 6 ≤ L) (w : Wld h) : ∃ h', LC28 xs L 0 227 243 v4 h = some h' ∧ Wld h' := by
  obtain ⟨M, S, Mk, e, n, k, rr, tx, bs, sp, u, bf, d, dr, df, dh, w, r⟩ := w
  obtain ⟨x, hx, hr⟩ := sld_ok (i := v4 + 1) hs (by omega) (by omega)
  obtain ⟨y, hy, hr2⟩ := sld_ok (i := v4 + 2) hs (by omega) (by omega)
  have iv := r.1.1
  have rl := r.1.2.1
  have hT := iv.1.1.1
  have z := w_g227 w
  have w4 := ws_227 (x := upf u 0 0) w
  have z4 := w_g227 w4
  unfold LC28 FL_setPriority
  simp only [hx, hy, Option.bind_some]
  by_cases c : 0 ≤ x ∧ x < M 1 0
  · by_cases c2 : 0 ≤ y ∧ y ≤ 9
    · obtain ⟨t, ht⟩ := Int.eq_ofNat_of_zero_le c.1
      obtain ⟨h1, e1, w1⟩ := k_rem w iv r.2.2.2.2.2.2.1.1 r.2.2.2.2.2.2.1.2.1
      have w2 := ws_M (N := up M 4 t y) w1 (FM_congr (by rw [up_ne (by decide)]) (up_ne (by decide)) (w_f5 w1))
      obtain ⟨x0, zx⟩ := w_g243 w2
      have w3 := ws_243 (x := w32 (M 4 t)) w2
      have eA : FX7_setPriority h 0 x y = some (0, M 4 t, putM h1 5 (up M 4 t y)) := by
        unfold FX7_setPriority
        rw [z0_O (w_e0 w), Option.bind_some, r_rT (w_e0 w) (w_a5 w) hr hT, Option.bind_some, if_pos c, if_pos rfl, r_rP hr2, Option.bind_some, if_pos c2, if_pos rfl, z0_r3 (w_e0 w), Option.bind_some, z0_r1 (w_e0 w), Option.bind_some, e1, Option.bind_some, z0_r1 (w_e0 w1), Option.bind_some, b5_gfr0_0 (w_a5 w1), Option.bind_some, b5_gfr1_4 (w_a5 w1), Option.bind_some, b5_a4 (w_a5 w1) (by omega) (by omega), Option.bind_some, Option.bind_some, b5_gfr0_0 (w_a5 w1), Option.bind_some, b5_gfr1_4 (w_a5 w1), Option.bind_some, b5_s4 (w_a5 w1) (by omega) (by omega), Option.bind_some, ht, Int.toNat_natCast]
      rw [eA, Option.bind_some, if_pos rfl, z243_s zx, Option.bind_some, Option.bind_some]
      dsimp only
      have z := w_g227 w3
      have w4 := ws_227 (x := upf u 0 0) w3
      have z4 := w_g227 w4
      obtain ⟨h5, f1, w5, f2⟩ := k_mrem (k := k) w4 r.2.2.2.2.2.2.1.2.1 (by rw [upf_ne (by decide)]; exact r.2.2.2.2.2.2.1.2.2)
      have w6 := ws_229 (x := ud d (16 + 8 * (t : Int) + 1) y) w5
      have eB : FX8_setPriority ((putM h1 5 (up M 4 t y)).set 243 (c243 (w32 (M 4 t)))) 227 x y = some (M 4 t, h5.set 229 (dcell (ud d (16 + 8 * (t : Int) + 1) y))) := by
        unfold FX8_setPriority JX8_setPriority_29 FX8_task
        rw [z8_O z, Option.bind_some, z8_w0 z, Option.bind_some, m_noTask z4 upf_eq (w_g229 w4) hr (by rw [rl.1.2.2.2.1]; omega), Option.bind_some, rl.1.2.2.2.1, if_pos c, if_pos (show w32 0 = 0 by decide)]
        dsimp only
        rw [m_in hr2 (by omega) (by omega), Option.bind_some, if_pos c2, if_neg (show ¬ w32 1 = 0 by decide), m_fails0 z4 upf_eq, Option.bind_some, if_pos (show w32 0 = 0 by decide)]
        dsimp only
        rw [f1, Option.bind_some, z8_r8 (w_g227 w5), Option.bind_some, Option.bind_some, zd_l (w_g229 w5) (by omega) (by omega), Option.bind_some, Option.bind_some, Option.bind_some, zd_s (w_g229 w5) (by omega) (by omega), Option.bind_some, ht, (rl.2.2.1 t (by omega)).2.1]
      rw [eB, Option.bind_some]
      refine ⟨_, lck_ok (w_g227 w6) (by rw [upf_ne (by decide)]; exact upf_eq) (fun _ => ?_), _, S, _, e, nxt n, cup k, rr, tx, bs, sp, _, bf, _, dr, df, _, w6, WR_mut r (pair_pr r.1 (by omega) c2)⟩
      rw [List.getElem?_set, if_neg (by decide), f2, List.getElem?_set, if_neg (by decide), List.getElem?_set, if_pos rfl, if_pos (by have := w_len w2; omega)]
    · have eA : FX7_setPriority h 0 x y = some (2, 0, h) := by
        unfold FX7_setPriority
        rw [z0_O (w_e0 w), Option.bind_some, r_rT (w_e0 w) (w_a5 w) hr hT, Option.bind_some, if_pos c, if_pos rfl, r_rP hr2, Option.bind_some, if_neg c2, if_neg (by decide)]
      rw [eA, Option.bind_some, if_neg (show ¬ (2 : Nat) = 0 by decide), if_neg (show ¬ (2 : Nat) = 1 by decide), if_pos rfl, Option.bind_some]
      dsimp only
      have w5 := ws_227 (x := upf u 0 2) w
      have eB : FX8_setPriority h 227 x y = some (0, h.set 227 (mdl (upf u 0 2))) := by
        unfold FX8_setPriority JX8_setPriority_29 JX8_setPriority_36
        rw [z8_O z, Option.bind_some, z8_w0 z, Option.bind_some, m_noTask z4 upf_eq (w_g229 w4) hr (by rw [rl.1.2.2.2.1]; omega), Option.bind_some, rl.1.2.2.2.1, if_pos c, if_pos (show w32 0 = 0 by decide)]
        dsimp only
        rw [m_in hr2 (by omega) (by omega), Option.bind_some, if_neg c2, if_pos (show w32 0 = 0 by decide), m_fails1 z4 upf_eq (by omega), Option.bind_some, if_neg (show ¬ w32 1 = 0 by decide), List.set_set, upf_up]
      rw [eB, Option.bind_some]
      exact ⟨_, lck_ok (w_g227 w5) upf_eq (fun q => absurd q (by decide)), M, S, Mk, e, n, k, rr, tx, bs, sp, _, bf, d, dr, df, dh, w5, WR_u r⟩
  · have eA : FX7_setPriority h 0 x y = some (1, 0, h) := by
      unfold FX7_setPriority
      rw [z0_O (w_e0 w), Option.bind_some, r_rT (w_e0 w) (w_a5 w) hr hT, Option.bind_some, if_neg c, if_neg (by decide)]
    rw [eA, Option.bind_some, if_neg (show ¬ (1 : Nat) = 0 by decide), if_pos rfl, Option.bind_some]
    dsimp only
    have w5 := ws_227 (x := upf u 0 1) w
    have eB : FX8_setPriority h 227 x y = some (0, h.set 227 (mdl (upf u 0 1))) := by
      unfold FX8_setPriority JX8_setPriority_36
      rw [z8_O z, Option.bind_some, z8_w0 z, Option.bind_some, m_noTask z4 upf_eq (w_g229 w4) hr (by rw [rl.1.2.2.2.1]; omega), Option.bind_some, rl.1.2.2.2.1, if_neg c, if_neg (show ¬ w32 1 = 0 by decide), List.set_set, upf_up]
    rw [eB, Option.bind_some]
    exact ⟨_, lck_ok (w_g227 w5) upf_eq (fun q => absurd q (by decide)), M, S, Mk, e, n, k, rr, tx, bs, sp, _, bf, d, dr, df, dh, w5, WR_u r⟩
end
