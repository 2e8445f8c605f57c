set_option linter.unusedVariables false
set_option linter.unusedSimpArgs false
/-! ===== submit ===== -/
section
variable {M : MM} {d : Int → Int}
/-- the reference's data with a task more -/
def dadd (d : Int → Int) (t : Int) (du pr ho : Int) : Int → Int :=
  ud (ud (ud (ud (ud (ud (ud (ud (ud d 3 (t + 1)) (16 + 8 * t) du) (16 + 8 * t + 1) pr) (16 + 8 * t + 2) ho) (16 + 8 * t + 3) 0) (16 + 8 * t + 4) 0) (16 + 8 * t + 5) 0) (16 + 8 * t + 6) (-1)) (16 + 8 * t + 7) (-1)
theorem dadd_ne {t du pr ho i : Int} (h3 : i ≠ 3) (hi : i < 16 + 8 * t ∨ 16 + 8 * t + 8 ≤ i) : dadd d t du pr ho i = d i := by
  unfold dadd
  rw [ud_ne (by omega), ud_ne (by omega), ud_ne (by omega), ud_ne (by omega), ud_ne (by omega), ud_ne (by omega), ud_ne (by omega), ud_ne (by omega), ud_ne h3]
theorem dadd_at {t du pr ho : Int} (ht : 0 ≤ t) : dadd d t du pr ho 3 = t + 1 ∧ dadd d t du pr ho (16 + 8 * t) = du ∧ dadd d t du pr ho (16 + 8 * t + 1) = pr ∧ dadd d t du pr ho (16 + 8 * t + 2) = ho ∧ dadd d t du pr ho (16 + 8 * t + 3) = 0 ∧ dadd d t du pr ho (16 + 8 * t + 4) = 0 ∧ dadd d t du pr ho (16 + 8 * t + 6) = -1 ∧ dadd d t du pr ho (16 + 8 * t + 7) = -1 := by
  unfold dadd
  refine ⟨?_, ?_, ?_, ?_, ?_, ?_, ?_, ?_⟩
  · rw [ud_ne (by omega), ud_ne (by omega), ud_ne (by omega), ud_ne (by omega), ud_ne (by omega), ud_ne (by omega), ud_ne (by omega), ud_ne (by omega), ud_eq]
  · rw [ud_ne (by omega), ud_ne (by omega), ud_ne (by omega), ud_ne (by omega), ud_ne (by omega), ud_ne (by omega), ud_ne (by omega), ud_eq]
  · rw [ud_ne (by omega), ud_ne (by omega), ud_ne (by omega), ud_ne (by omega), ud_ne (by omega), ud_ne (by omega), ud_eq]
  · rw [ud_ne (by omega), ud_ne (by omega), ud_ne (by omega), ud_ne (by omega), ud_ne (by omega), ud_eq]
  · rw [ud_ne (by omega), ud_ne (by omega), ud_ne (by omega), ud_ne (by omega), ud_eq]
  · rw [ud_ne (by omega), ud_ne (by omega), ud_ne (by omega), ud_eq]
  · rw [ud_ne (by omega), ud_eq]
  · rw [ud_eq]
theorem m_add {h : PH} {a t : Nat} {du pr ho : Int} (zd : h[a]? = some (dcell d)) (h3 : d 3 = t) (ht : t < 32) : FX8_addTask h a du pr ho = some ((t : Int), h.set a (dcell (dadd d t du pr ho))) := by
  have hl : a < h.length := by
    rcases Nat.lt_or_ge a h.length with q | q
    · exact q
    · rw [List.getElem?_eq_none q] at zd; cases zd
  have Z : ∀ x, (h.set a (dcell x))[a]? = some (dcell x) := fun x => by simp [hl]
  unfold FX8_addTask FX8_task
  rw [zd_l zd (by omega) (by omega), Option.bind_some, h3, Option.bind_some, Option.bind_some, zd_s zd (by omega) (by omega), Option.bind_some, zd_s (Z _) (by omega) (by omega), Option.bind_some, List.set_set, zd_s (Z _) (by omega) (by omega), Option.bind_some, List.set_set, zd_s (Z _) (by omega) (by omega), Option.bind_some, List.set_set, zd_s (Z _) (by omega) (by omega), Option.bind_some, List.set_set, m_toWait (Z _) ht, Option.bind_some, List.set_set]
  rfl
theorem add_r {x : Nat} {du pr ho be : Int} (h1 : x ≠ 1) (h2 : ¬ (2 ≤ x ∧ x ≤ 8)) : addM M du pr ho be x = M x := by
  unfold addM
  rw [up_ne h1, up_ne (by omega), up_ne (by omega), up_ne (by omega), up_ne (by omega), up_ne (by omega), up_ne (by omega), up_ne (by omega)]
theorem add_1 {du pr ho be : Int} : addM M du pr ho be 1 0 = M 1 0 + 1 ∧ addM M du pr ho be 1 1 = M 1 1 := by
  unfold addM
  refine ⟨up_eq, ?_⟩
  rw [up_ni (by decide), up_ne (by decide), up_ne (by decide), up_ne (by decide), up_ne (by decide), up_ne (by decide), up_ne (by decide), up_ne (by decide)]
theorem add_lo {x i : Nat} {du pr ho be : Int} (h1 : x ≠ 1) (hi : i ≠ (M 1 0).toNat) : addM M du pr ho be x i = M x i := by
  unfold addM up
  rw [if_neg (by omega), if_neg (by omega), if_neg (by omega), if_neg (by omega), if_neg (by omega), if_neg (by omega), if_neg (by omega), if_neg (by omega)]
theorem add_at {t : Nat} {du pr ho be : Int} (ht : M 1 0 = t) : addM M du pr ho be 2 t = 0 ∧ addM M du pr ho be 3 t = du ∧ addM M du pr ho be 4 t = pr ∧ addM M du pr ho be 5 t = ho ∧ addM M du pr ho be 6 t = be ∧ addM M du pr ho be 7 t = -1 ∧ addM M du pr ho be 8 t = -1 := by
  unfold addM
  rw [ht, Int.toNat_natCast]
  simp [up]
theorem iv_add {t : Nat} {du pr ho be : Int} (iv : IvM M) (ht : M 1 0 = t) (ht2 : t < 32) (h1 : 1 ≤ du ∧ du ≤ 99) (h2 : 0 ≤ pr ∧ pr ≤ 9) (h3 : 0 ≤ ho ∧ ho < M 11 0) (h4 : ∀ q, t ≤ q → q < 32 → tb be q = false) : IvM (addM M du pr ho be) := by
  obtain ⟨⟨⟨t1, t2, t3, t4⟩, ⟨c1, c2, c3, c4, c5, c6⟩, okP⟩, oq, kr, ⟨s1, s2, s3⟩, ob, oh⟩ := iv
  obtain ⟨a2, a3, a4, a5, a6, a7, a8⟩ := add_at (du := du) (pr := pr) (ho := ho) (be := be) ht
  obtain ⟨b0, b1⟩ := add_1 (M := M) (du := du) (pr := pr) (ho := ho) (be := be)
  have k9 : addM M du pr ho be 9 = M 9 := add_r (by decide) (by omega)
  have k11 : addM M du pr ho be 11 = M 11 := add_r (by decide) (by omega)
  have k12 : addM M du pr ho be 12 = M 12 := add_r (by decide) (by omega)
  have k13 : addM M du pr ho be 13 = M 13 := add_r (by decide) (by omega)
  have k14 : addM M du pr ho be 14 = M 14 := add_r (by decide) (by omega)
  have k15 : addM M du pr ho be 15 = M 15 := add_r (by decide) (by omega)
  have k18 : addM M du pr ho be 18 = M 18 := add_r (by decide) (by omega)
  have lo : ∀ x i, x ≠ 1 → i ≠ t → addM M du pr ho be x i = M x i := fun x i hx hi => add_lo hx (by omega)
  refine ⟨⟨⟨by rw [b0]; omega, by rw [b1]; exact t2, fun q hq => ?_, fun f hf hf2 => ?_⟩, ⟨by rw [k11]; exact c1, by rw [k11]; exact c2, by rw [k11]; exact c3, by rw [k13]; exact c4, fun q hq => ?_, by rw [k18]; exact c6⟩, fun q hq => ?_⟩, fun q hq j hj => ?_, okR_congr k11 k14 kr, ⟨fun q j hq hj => ?_, fun q hq h0 => ?_, by rw [k12, k13]; exact s3⟩, fun q hq j hj hj2 => ?_, fun q hq => ?_⟩
  · by_cases e : q = t
    · subst e; rw [a2]; omega
    · rw [lo 2 q (by decide) e]; exact t3 q hq
  · rw [b1] at hf2
    have := t4 f hf hf2
    rw [k9, b0]; omega
  · rw [k11] at hq
    have := c5 q hq
    unfold runOk at this ⊢
    rw [k14, k15, b0]; omega
  · rw [b0] at hq
    by_cases e : q = t
    · subst e; rw [a3, a4, a5]; omega
    · rw [lo 3 q (by decide) e, lo 4 q (by decide) e, lo 5 q (by decide) e]; exact okP q (by omega)
  · rw [k13] at hj
    rw [k12, b0]
    have := oq q hq j hj
    omega
  · rw [k13] at hj
    rw [k12]
    have h5 := oq q hq j hj
    rw [lo 2 _ (by decide) (by omega)]; exact s1 q j hq hj
  · rw [k11] at hq
    rw [k14] at h0 ⊢
    have h5 := c5 q hq
    unfold runOk at h5
    rw [lo 2 _ (by decide) (by omega)]; exact s2 q hq h0
  · rw [b0] at hq
    by_cases e : q = t
    · subst e; rw [a6]; exact h4 j hj hj2
    · rw [lo 6 q (by decide) e]; exact ob q (by omega) j hj hj2
  · rw [b0] at hq
    rw [k11]
    by_cases e : q = t
    · subst e; rw [a5]; exact h3.2
    · rw [lo 5 q (by decide) e]; exact oh q (by omega)
theorem rel_add {t : Nat} {du pr ho be : Int} (s : Sd M) (hF : 0 ≤ M 1 1) (r : Rel M d) (rx : RelX M d) (ht : M 1 0 = t) (ht2 : t < 32) : Rel (addM M du pr ho be) (ud (dadd d t du pr ho) (16 + 8 * (t : Int) + 3) be) ∧ RelX (addM M du pr ho be) (ud (dadd d t du pr ho) (16 + 8 * (t : Int) + 3) be) := by
  obtain ⟨s1, s2, s3, s4, s5⟩ := s
  obtain ⟨⟨r0, r1, r2, r3, r4, r5⟩, rf, rt, rc⟩ := r
  obtain ⟨a2, a3, a4, a5, a6, a7, a8⟩ := add_at (du := du) (pr := pr) (ho := ho) (be := be) ht
  obtain ⟨b0, b1⟩ := add_1 (M := M) (du := du) (pr := pr) (ho := ho) (be := be)
  obtain ⟨g3, g16, g17, g18, g19, g20, g22, g23⟩ := dadd_at (d := d) (t := (t : Int)) (du := du) (pr := pr) (ho := ho) (by omega)
  have k : ∀ x, x ≠ 1 → ¬ (2 ≤ x ∧ x ≤ 8) → addM M du pr ho be x = M x := fun x h1 h2 => add_r h1 h2
  have lo : ∀ x i, x ≠ 1 → i ≠ t → addM M du pr ho be x i = M x i := fun x i hx hi => add_lo hx (by omega)
  refine ⟨⟨⟨?_, ?_, ?_, ?_, ?_, ?_⟩, fun f hf => ?_, fun q hq => ?_, fun q hq => ?_⟩, fun q hq => ?_⟩
  · rw [ud_ne (by omega), dadd_ne (by omega) (by omega), k 11 (by decide) (by omega)]; exact r0
  · rw [ud_ne (by omega), dadd_ne (by omega) (by omega), k 11 (by decide) (by omega)]; exact r1
  · rw [ud_ne (by omega), dadd_ne (by omega) (by omega), k 11 (by decide) (by omega)]; exact r2
  · rw [ud_ne (by omega), g3, b0, ht]
  · rw [ud_ne (by omega), dadd_ne (by omega) (by omega), b1]; exact r4
  · refine ⟨?_, fun i hi => ?_⟩
    · rw [ud_ne (by omega), dadd_ne (by omega) (by omega), k 0 (by decide) (by omega)]; exact r5.1
    · rw [ud_ne (by omega), dadd_ne (by omega) (by omega), k 19 (by decide) (by omega)]; exact r5.2 i hi
  · rw [b1] at hf
    rw [ud_ne (by omega), dadd_ne (by omega) (by omega), k 9 (by decide) (by omega)]; exact rf f hf
  · rw [b0] at hq
    by_cases e : q = t
    · subst e
      rw [a2, a3, a4, a5, a6]
      refine ⟨?_, ?_, ?_, ?_, ?_⟩
      · rw [ud_ne (by omega)]; exact g16
      · rw [ud_ne (by omega)]; exact g17
      · rw [ud_ne (by omega)]; exact g18
      · rw [ud_eq]
      · rw [ud_ne (by omega)]; exact g20
    · rw [lo 2 q (by decide) e, lo 3 q (by decide) e, lo 4 q (by decide) e, lo 5 q (by decide) e, lo 6 q (by decide) e]
      obtain ⟨p0, p1, p2, p3, p4⟩ := rt q (by omega)
      refine ⟨?_, ?_, ?_, ?_, ?_⟩
      · rw [ud_ne (by omega), dadd_ne (by omega) (by omega)]; exact p0
      · rw [ud_ne (by omega), dadd_ne (by omega) (by omega)]; exact p1
      · rw [ud_ne (by omega), dadd_ne (by omega) (by omega)]; exact p2
      · rw [ud_ne (by omega), dadd_ne (by omega) (by omega)]; exact p3
      · rw [ud_ne (by omega), dadd_ne (by omega) (by omega)]; exact p4
  · rw [k 11 (by decide) (by omega)] at hq
    obtain ⟨p0, p1, p2, p3, p4, p5, p6⟩ := rc q hq
    rw [k 14 (by decide) (by omega), k 16 (by decide) (by omega), k 17 (by decide) (by omega), k 18 (by decide) (by omega), k 13 (by decide) (by omega), k 12 (by decide) (by omega), k 15 (by decide) (by omega)]
    refine ⟨?_, ?_, ?_, ?_, ?_, fun j hj => ?_, fun hr => ?_⟩
    · rw [ud_ne (by omega), dadd_ne (by omega) (by omega)]; exact p0
    · rw [ud_ne (by omega), dadd_ne (by omega) (by omega)]; exact p1
    · rw [ud_ne (by omega), dadd_ne (by omega) (by omega)]; exact p2
    · rw [ud_ne (by omega), dadd_ne (by omega) (by omega)]; exact p3
    · rw [ud_ne (by omega), dadd_ne (by omega) (by omega)]; exact p4
    · rw [ud_ne (by omega), dadd_ne (by omega) (by omega)]; exact p5 j hj
    · have := s5 q hq hr
      rw [ud_ne (by omega), dadd_ne (by omega) (by omega)]; exact p6 hr
  · rw [b0] at hq
    by_cases e : q = t
    · subst e
      rw [a7, a8, ud_ne (by omega), ud_ne (by omega)]
      exact ⟨g22, g23⟩
    · rw [lo 7 q (by decide) e, lo 8 q (by decide) e]
      have := rx q (by omega)
      rw [ud_ne (by omega), dadd_ne (by omega) (by omega), ud_ne (by omega), dadd_ne (by omega) (by omega)]; exact this
end
section
variable {h : PH} {xs : Nat → Int} {L : Nat} {v4 : Int}
theorem lc25 (hs : ∀ j, j < L → -2147483648 ≤ xs j ∧ xs j < 2147483648) (h0 : 0 ≤ v4) (hL : v4 + 6 ≤ L) (w : Wld h) : ∃ h', LC25 xs L 0 227 243 v4 h = some h' ∧ Wld h' := by
  obtain ⟨M, S, Mk, e, n, k, rr, tx, bs, sp, u, bf, d, dr, df, dh, w, r⟩ := w
  obtain ⟨x, hx, hr⟩ := sld_ok (i := v4 + 1) hs (by omega) (by omega)
  obtain ⟨y, hy, hr2⟩ := sld_ok (i := v4 + 2) hs (by omega) (by omega)
  obtain ⟨o, ho, hr3⟩ := sld_ok (i := v4 + 3) hs (by omega) (by omega)
  have iv := r.1.1
  have rl := r.1.2.1
  have hT := iv.1.1.1
  have hC := iv.1.2.1.1
  have z := w_g227 w
  have w4 := ws_227 (x := upf u 0 0) w
  have z4 := w_g227 w4
  unfold LC25 FL_submit
  simp only [hx, hy, ho, Option.bind_some]
  have ref : ∀ q : Nat, (q = 1 ∨ q = 2 ∨ q = 3) → FX7_submit h 0 x y o = some (q, 0, h) → FX8_submit h 227 x y o = some (0, h.set 227 (mdl (upf u 0 (q : Nat)))) → ∃ h', ((FX7_submit h 0 x y o).bind fun q1 => if q1.1 = 0 then ((ast 3 q1.2.2 243 0 (w32 q1.2.1)).bind fun h2 => some ((0 : Int), h2)) else if q1.1 = 1 then some (1, q1.2.2) else if q1.1 = 2 then some (2, q1.2.2) else if q1.1 = 3 then some (3, q1.2.2) else none).bind (fun q2 => (FX8_submit q2.2 227 x y o).bind (LCk q2.1)) = some h' ∧ Wld h' := by
    intro q hq eA eB
    have w5 := ws_227 (x := upf u 0 (q : Nat)) w
    rw [eA, Option.bind_some]
    rcases hq with rfl | rfl | rfl
    · rw [if_neg (show ¬ (1 : Nat) = 0 by decide), if_pos rfl, Option.bind_some]
      dsimp only
      rw [eB, Option.bind_some]
      exact ⟨_, lck_ok (w_g227 w5) upf_eq (fun q => absurd q (by decide)), M, S, Mk, e, n, k, rr, tx, bs, sp, _, bf, d, dr, df, dh, w5, WR_u r⟩
    · rw [if_neg (show ¬ (2 : Nat) = 0 by decide), if_neg (show ¬ (2 : Nat) = 1 by decide), if_pos rfl, Option.bind_some]
      dsimp only
      rw [eB, Option.bind_some]
      exact ⟨_, lck_ok (w_g227 w5) upf_eq (fun q => absurd q (by decide)), M, S, Mk, e, n, k, rr, tx, bs, sp, _, bf, d, dr, df, dh, w5, WR_u r⟩
    · rw [if_neg (show ¬ (3 : Nat) = 0 by decide), if_neg (show ¬ (3 : Nat) = 1 by decide), if_neg (show ¬ (3 : Nat) = 2 by decide), if_pos rfl, Option.bind_some]
      dsimp only
      rw [eB, Option.bind_some]
      exact ⟨_, lck_ok (w_g227 w5) upf_eq (fun q => absurd q (by decide)), M, S, Mk, e, n, k, rr, tx, bs, sp, _, bf, d, dr, df, dh, w5, WR_u r⟩
  by_cases c : 0 ≤ o ∧ o < M 11 0
  · by_cases c2 : (1 ≤ x ∧ x ≤ 99) ∧ (0 ≤ y ∧ y ≤ 9)
    · obtain ⟨c2, c3⟩ := c2
      by_cases c4 : M 1 0 < 32
      · obtain ⟨t, ht⟩ := Int.eq_ofNat_of_zero_le hT.1
        obtain ⟨h1, e1, w1⟩ := k_rem w iv r.2.2.2.2.2.2.1.1 r.2.2.2.2.2.2.1.2.1
        have w2 := ws_M (N := addM M x y o 0) w1 (FM_congr (by rw [add_r (by decide) (by omega)]) (add_r (by decide) (by omega)) (w_f5 w1))
        obtain ⟨b0, b1⟩ := add_1 (M := M) (du := x) (pr := y) (ho := o) (be := 0)
        obtain ⟨x0, zx⟩ := w_g243 w2
        have w3 := ws_243 (x := w32 t) w2
        have eA : FX7_submit h 0 x y o = some (0, (t : Int), putM h1 5 (addM M x y o 0)) := by
          unfold FX7_submit
          rw [z0_O (w_e0 w), Option.bind_some, r_rC (w_e0 w) (w_a5 w) hr3 hC, Option.bind_some, if_pos c, if_pos rfl, w32_eq hr.1 hr.2, show w32 1 = 1 from rfl, if_neg (by omega), show w32 99 = 99 from rfl, if_neg (by omega), r_rP hr2, Option.bind_some, if_pos c3, if_pos rfl, z0_r1 (w_e0 w), Option.bind_some, b5_gfr0_0 (w_a5 w), Option.bind_some, b5_gfi1_0 (w_a5 w), Option.bind_some, w32_eq (by omega) (by omega), show w32 32 = 32 from rfl, if_pos c4, z0_r3 (w_e0 w), Option.bind_some, Option.bind_some, e1, Option.bind_some, z0_r1 (w_e0 w1), Option.bind_some, b5_gfr0_0 (w_a5 w1), Option.bind_some, b5_add (w_a5 w1) hT.1 c4, Option.bind_some, z0_r1 (w_e0 w2), Option.bind_some, b5_gfr0_0 (w_a5 w2), Option.bind_some, b5_gfi1_0 (w_a5 w2), Option.bind_some, b0, ht, show (t : Int) + 1 - 1 = t by omega]
        rw [eA, Option.bind_some, if_pos rfl, z243_s zx, Option.bind_some, Option.bind_some]
        dsimp only
        have z := w_g227 w3
        have w4 := ws_227 (x := upf u 0 0) w3
        have z4 := w_g227 w4
        obtain ⟨h5, f1, w5, f2⟩ := k_mrem (k := k) w4 r.2.2.2.2.2.2.1.2.1 (by rw [upf_ne (by decide)]; exact r.2.2.2.2.2.2.1.2.2)
        have w6 := ws_229 (x := dadd d t x y o) w5
        have eB : FX8_submit ((putM h1 5 (addM M x y o 0)).set 243 (c243 (w32 t))) 227 x y o = some ((t : Int), h5.set 229 (dcell (dadd d t x y o))) := by
          unfold FX8_submit JX8_submit_39 JX8_submit_63
          rw [z8_O z, Option.bind_some, z8_w0 z, Option.bind_some, m_noCore z4 upf_eq (w_g229 w4) hr3 (by rw [rl.1.1]; omega), Option.bind_some, rl.1.1, if_pos c, if_pos (show w32 0 = 0 by decide)]
          dsimp only
          rw [m_in hr (by omega) (by omega), Option.bind_some, if_pos c2, if_neg (show ¬ w32 1 = 0 by decide), m_in hr2 (by omega) (by omega), Option.bind_some, if_pos c3, if_neg (show ¬ w32 1 = 0 by decide), m_fails0 z4 upf_eq, Option.bind_some, if_pos (show w32 0 = 0 by decide)]
          dsimp only
          rw [z8_r8 z4, Option.bind_some, zd_l (w_g229 w4) (by omega) (by omega), Option.bind_some, rl.1.2.2.2.1, w32_eq (by omega) (by omega), show w32 32 = 32 from rfl, if_neg (by omega), m_fails0 z4 upf_eq, Option.bind_some, if_pos (show w32 0 = 0 by decide)]
          dsimp only
          rw [f1, Option.bind_some, z8_r8 (w_g227 w5), Option.bind_some, m_add (t := t) (w_g229 w5) (by rw [rl.1.2.2.2.1, ht]) (by omega), Option.bind_some]
        rw [eB, Option.bind_some]
        obtain ⟨ra, rb⟩ := rel_add (du := x) (pr := y) (ho := o) (be := 0) (Sd_of iv.1) iv.1.1.2.1.1 rl r.1.2.2.1 ht (by omega)
        rw [ud_same (dadd_at (by omega)).2.2.2.2.1] at ra rb
        refine ⟨_, lck_ok (w_g227 w6) (by rw [upf_ne (by decide)]; exact upf_eq) (fun _ => ?_), _, S, _, e, nxt n, cup k, rr, tx, bs, sp, _, bf, _, dr, df, _, w6, WR_mut r ⟨iv_add iv ht (by omega) c2 c3 c (fun q _ _ => tb_zero q), ra, rb, ?_, ?_⟩⟩
        · rw [List.getElem?_set, if_neg (by decide), f2, List.getElem?_set, if_neg (by decide), List.getElem?_set, if_pos rfl, if_pos (by have := w_len w2; omega)]
        · have := r.1.2.2.2.1
          unfold clkOk at this ⊢
          rw [add_r (by decide) (by omega)]; exact this
        · have := r.1.2.2.2.2
          unfold OkF at this ⊢
          rw [b1, add_r (show 9 ≠ 1 by decide) (by omega), add_r (show 11 ≠ 1 by decide) (by omega), add_r (show 13 ≠ 1 by decide) (by omega)]; exact this
      · refine ref 3 (Or.inr (Or.inr rfl)) ?_ ?_
        · unfold FX7_submit
          rw [z0_O (w_e0 w), Option.bind_some, r_rC (w_e0 w) (w_a5 w) hr3 hC, Option.bind_some, if_pos c, if_pos rfl, w32_eq hr.1 hr.2, show w32 1 = 1 from rfl, if_neg (by omega), show w32 99 = 99 from rfl, if_neg (by omega), r_rP hr2, Option.bind_some, if_pos c3, if_pos rfl, z0_r1 (w_e0 w), Option.bind_some, b5_gfr0_0 (w_a5 w), Option.bind_some, b5_gfi1_0 (w_a5 w), Option.bind_some, w32_eq (by omega) (by omega), show w32 32 = 32 from rfl, if_neg c4]
        · unfold FX8_submit JX8_submit_39 JX8_submit_63 JX8_submit_70
          rw [z8_O z, Option.bind_some, z8_w0 z, Option.bind_some, m_noCore z4 upf_eq (w_g229 w4) hr3 (by rw [rl.1.1]; omega), Option.bind_some, rl.1.1, if_pos c, if_pos (show w32 0 = 0 by decide)]
          dsimp only
          rw [m_in hr (by omega) (by omega), Option.bind_some, if_pos c2, if_neg (show ¬ w32 1 = 0 by decide), m_in hr2 (by omega) (by omega), Option.bind_some, if_pos c3, if_neg (show ¬ w32 1 = 0 by decide), m_fails0 z4 upf_eq, Option.bind_some, if_pos (show w32 0 = 0 by decide)]
          dsimp only
          rw [z8_r8 z4, Option.bind_some, zd_l (w_g229 w4) (by omega) (by omega), Option.bind_some, rl.1.2.2.2.1, w32_eq (by omega) (by omega), show w32 32 = 32 from rfl, if_pos (by omega), m_fails1 z4 upf_eq (by omega), Option.bind_some, if_neg (show ¬ w32 1 = 0 by decide), List.set_set, upf_up]; rfl
    · refine ref 2 (Or.inr (Or.inl rfl)) ?_ ?_
      · unfold FX7_submit JX7_submit_16
        rw [z0_O (w_e0 w), Option.bind_some, r_rC (w_e0 w) (w_a5 w) hr3 hC, Option.bind_some, if_pos c, if_pos rfl, w32_eq hr.1 hr.2, show w32 1 = 1 from rfl, show w32 99 = 99 from rfl]
        by_cases a1 : x < 1
        · rw [if_pos a1]
        · rw [if_neg a1]
          by_cases a2 : 99 < x
          · rw [if_pos a2]
          · rw [if_neg a2, r_rP hr2, Option.bind_some, if_neg (fun q => c2 ⟨by omega, q⟩), if_neg (by decide)]
      · unfold FX8_submit JX8_submit_34 JX8_submit_39 JX8_submit_70
        rw [z8_O z, Option.bind_some, z8_w0 z, Option.bind_some, m_noCore z4 upf_eq (w_g229 w4) hr3 (by rw [rl.1.1]; omega), Option.bind_some, rl.1.1, if_pos c, if_pos (show w32 0 = 0 by decide)]
        dsimp only
        rw [m_in hr (by omega) (by omega), Option.bind_some, m_in hr2 (by omega) (by omega), Option.bind_some, m_fails1 z4 upf_eq (by omega), Option.bind_some, if_neg (show ¬ w32 1 = 0 by decide), List.set_set, upf_up]
        by_cases a1 : 1 ≤ x ∧ x ≤ 99
        · rw [if_pos a1, if_neg (show ¬ w32 1 = 0 by decide), if_neg (fun q => c2 ⟨a1, q⟩), if_pos (show w32 0 = 0 by decide)]; rfl
        · rw [if_neg a1, if_pos (show w32 0 = 0 by decide)]; rfl
  · refine ref 1 (Or.inl rfl) ?_ ?_
    · unfold FX7_submit
      rw [z0_O (w_e0 w), Option.bind_some, r_rC (w_e0 w) (w_a5 w) hr3 hC, Option.bind_some, if_neg c, if_neg (by decide)]
    · unfold FX8_submit JX8_submit_70
      rw [z8_O z, Option.bind_some, z8_w0 z, Option.bind_some, m_noCore z4 upf_eq (w_g229 w4) hr3 (by rw [rl.1.1]; omega), Option.bind_some, rl.1.1, if_neg c, if_neg (show ¬ w32 1 = 0 by decide), List.set_set, upf_up]; rfl
end
