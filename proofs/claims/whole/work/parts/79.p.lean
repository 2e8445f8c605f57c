set_option linter.unusedVariables false
set_option linter.unusedSimpArgs false
/-! ===== append ===== -/
theorem sb_low (x : Int) {t : Nat} (ht : t < 32) : sbI (ushrI x (t : Int)) = (((bv x) >>> t).setWidth 8).toInt := by
  unfold sbI
  rw [Int8.toInt_toInt32]
  show (Int32.toInt8 _).toBitVec.toInt = _
  rw [Int32.toBitVec_toInt8, show (Int32.ofInt (ushrI x (t : Int))).toBitVec = bv (ushrI x (t : Int)) from rfl, bv_ushr x ht, BitVec.signExtend_eq_setWidth_of_le _ (by decide)]
theorem and_low (x : Int) {t : Nat} (ht : t ≤ 24) : andI (shrI x (t : Int)) 255 = ((((bv x) >>> t).setWidth 8).toNat : Int) := by
  rw [← andI_w, w32_bv, bv_and, bv_shr x (by omega)]
  have : (bv x).sshiftRight t &&& bv 255 = (((bv x) >>> t).setWidth 8).setWidth 32 := by
    apply BitVec.eq_of_getLsbD_eq
    intro i hi
    rw [BitVec.getLsbD_and, BitVec.getLsbD_sshiftRight, BitVec.getLsbD_setWidth, BitVec.getLsbD_setWidth, BitVec.getLsbD_ushiftRight]
    have h255 : ∀ i : Nat, i < 32 → (bv 255).getLsbD i = decide (i < 8) := by decide +kernel
    rw [h255 i hi]
    by_cases c : i < 8
    · simp [c, hi, show t + i < 32 by omega, show ¬ 32 ≤ i by omega]
    · simp [c]
  rw [this, BitVec.toInt_eq_toNat_of_msb]
  · generalize (((bv x) >>> t).setWidth 8) = v
    have := v.isLt
    rw [BitVec.toNat_setWidth, Nat.mod_eq_of_lt (Nat.lt_trans this (by decide))]
  · rw [BitVec.msb_setWidth]
    simp
theorem by_low (x : Int) {t : Nat} (ht : t ≤ 24) : byR (sbI (ushrI x (t : Int))) (andI (shrI x (t : Int)) 255) := by
  rw [sb_low x (by omega), and_low x ht]
  generalize (((bv x) >>> t).setWidth 8) = v
  have h1 := v.isLt
  unfold byR
  rw [BitVec.toInt_eq_toNat_cond]
  simp only [show (2 : Nat) ^ 8 = 256 from rfl] at h1 ⊢
  by_cases c : 2 * v.toNat < 256
  · rw [if_pos c]; refine ⟨by omega, ?_⟩
    rw [if_neg (by omega)]
  · rw [if_neg c]; refine ⟨by omega, ?_⟩
    rw [if_pos (by omega)]; omega
theorem upf_same {f : Nat → Int} {i : Nat} {x : Int} (h : f i = x) : upf f i x = f := by
  funext j
  unfold upf
  by_cases e : j = i
  · rw [if_pos e, e, h]
  · rw [if_neg e]
/-- the bytes of a word, written from place z on: class and reference -/
def wrC (b : Nat → Int) (z : Nat) (w : Int) : Nat → Nat → Int
  | 0 => b
  | j + 1 => upf (wrC b z w j) (z + j) (sbI (ushrI w ((24 - 8 * j : Nat) : Int)))
section
variable {h : PH} {M S : MM} {Mk : Nat → MM} {e nx ct : Int} {rr tx bs sp u bf : Nat → Int} {d dr df : Int → Int} {dh : Nat → Int → Int}
theorem k_word {z : Nat} {x : Int} (w : WS h M S Mk e nx ct rr tx bs sp u bf d dr df dh) (hz : tx 1 = z) (hz2 : z + 4 ≤ 900) : ∃ h', FX5_addWord h 2 x = some h' ∧ WS h' M S Mk e nx ct rr (upf tx 1 ((z + 4 : Nat) : Int)) (wrC bs z x 4) sp u bf d dr df dh := by
  unfold FX5_addWord
  rw [z2_O (w_e2 w), Option.bind_some]
  have := lp_for (f := fun st : Int × PH => LX5_addWord_3 2 x st.1 st.2) (fun j st => ∃ h', st = ((24 : Int) - 8 * j, h') ∧ WS h' M S Mk e nx ct rr (upf tx 1 ((z + j : Nat) : Int)) (wrC bs z x j) sp u bf d dr df dh) (fun q => WS q M S Mk e nx ct rr (upf tx 1 ((z + 4 : Nat) : Int)) (wrC bs z x 4) sp u bf d dr df dh) (a := 0) (b := 4) (s := (24, h)) (by omega) (by omega) ⟨h, rfl, by rw [upf_same (by rw [hz]; rfl)]; exact w⟩ (fun j st h1 h2 hI => ?_) (fun st hI => ?_)
  · obtain ⟨q, e1, e2⟩ := this
    rw [e1]
    exact ⟨q, rfl, e2⟩
  · obtain ⟨h', rfl, w1⟩ := hI
    have hb := by_low x (t := 24 - 8 * j) (by omega)
    refine Or.inr ?_
    dsimp only
    unfold LX5_addWord_3 JX5_addWord_40
    have w2 := ws_3 (x := wrC bs z x (j + 1)) w1
    have w3 := ws_2 (x := upf tx 1 ((z + (j + 1) : Nat) : Int)) w2
    rw [show (24 : Int) - 8 * j = ((24 - 8 * j : Nat) : Int) by omega]
    rw [w32_nat (by omega), if_neg (by omega), z2_i1 (w_e2 w1), Option.bind_some, upf_eq, w32_nat (by omega), show w32 900 = 900 from rfl, if_pos (by omega), z2_r0 (w_e2 w1), Option.bind_some, Option.bind_some, z3_s (w_e3 w1) (by omega) (by omega) hb.1.1 hb.1.2, Option.bind_some, Int.toNat_natCast]
    rw [show upf (wrC bs z x j) (z + j) (sbI (ushrI x ((24 - 8 * j : Nat) : Int))) = wrC bs z x (j + 1) from rfl, z2_i1 (w_e2 w2), Option.bind_some, z2_w1 (w_e2 w2), Option.bind_some, upf_eq, upf_up]
    rw [show ((z + j : Nat) : Int) + 1 = ((z + (j + 1) : Nat) : Int) by omega]
    exact ⟨_, rfl, _, by rw [show (24 : Int) - 8 * ((j + 1 : Nat) : Int) = ((24 - 8 * j : Nat) : Int) + -8 by omega], w3⟩
  · obtain ⟨h', rfl, w1⟩ := hI
    dsimp only
    unfold LX5_addWord_3
    rw [if_pos (show w32 ((24 : Int) - 8 * ((4 : Nat) : Int)) < 0 by decide)]
    exact ⟨_, rfl, w1⟩
end
/-- the j-th word of a call -/
def wrd (x1 x2 x3 x4 x5 : Int) (j : Nat) : Int := if j < 4 then x1 else if j < 8 then x2 else if j < 12 then x3 else if j < 16 then x4 else x5
def wrM (b : Nat → Int) (z : Nat) (x1 x2 x3 x4 x5 : Int) : Nat → Nat → Int
  | 0 => b
  | j + 1 => upf (wrM b z x1 x2 x3 x4 x5 j) (z + j) (andI (shrI (wrd x1 x2 x3 x4 x5 j) ((24 - 8 * (j % 4) : Nat) : Int)) 255)
theorem rem4 : ∀ j : Nat, j < 20 → (24 : Int) - 8 * remI (j : Int) 4 = ((24 - 8 * (j % 4) : Nat) : Int) := by decide +kernel
section
variable {h : PH} {M S : MM} {Mk : Nat → MM} {e nx ct : Int} {rr tx bs sp u bf : Nat → Int} {d dr df : Int → Int} {dh : Nat → Int → Int}
theorem k_app {z : Nat} {x1 x2 x3 x4 x5 : Int} (w : WS h M S Mk e nx ct rr tx bs sp u bf d dr df dh) (hz : u 2 = z) (hz2 : z + 20 ≤ 900) : ∃ h', lp (fun st : Int × PH => LX8_append_23 227 x1 x2 x3 x4 x5 st.1 st.2) FU (0, h) = some h' ∧ WS h' M S Mk e nx ct rr tx bs sp (upf u 2 ((z + 20 : Nat) : Int)) (wrM bf z x1 x2 x3 x4 x5 20) d dr df dh := by
  refine lp_for (f := fun st : Int × PH => LX8_append_23 227 x1 x2 x3 x4 x5 st.1 st.2) (fun j st => ∃ h', st = ((j : Int), h') ∧ WS h' M S Mk e nx ct rr tx bs sp (upf u 2 ((z + j : Nat) : Int)) (wrM bf z x1 x2 x3 x4 x5 j) d dr df dh) _ (a := 0) (b := 20) (s := (0, h)) (by omega) (by omega) ⟨h, rfl, by rw [upf_same (by rw [hz]; rfl)]; exact w⟩ (fun j st h1 h2 hI => ?_) (fun st hI => ?_)
  · obtain ⟨h', rfl, w1⟩ := hI
    have w2 := ws_228 (x := wrM bf z x1 x2 x3 x4 x5 (j + 1)) w1
    have w3 := ws_227 (x := upf u 2 ((z + (j + 1) : Nat) : Int)) w2
    have J : ∀ s0, s0 = wrd x1 x2 x3 x4 x5 j → JX8_append_76 h' 227 x1 x2 x3 x4 x5 j s0 = some (.inl ((j : Int) + 1, (h'.set 228 (c4 (wrM bf z x1 x2 x3 x4 x5 (j + 1)))).set 227 (mdl (upf u 2 ((z + (j + 1) : Nat) : Int))))) := by
      intro s0 hs
      unfold JX8_append_76
      rw [z8_r1 (w_g227 w1), Option.bind_some, z8_i2 (w_g227 w1), Option.bind_some, upf_eq, if_neg (show ¬ w32 4 = 0 by decide), rem4 j h2, z4_s (w_g228 w1) (by omega) (by omega), Option.bind_some, Int.toNat_natCast, hs]
      rw [show upf (wrM bf z x1 x2 x3 x4 x5 j) (z + j) (andI (shrI (wrd x1 x2 x3 x4 x5 j) ((24 - 8 * (j % 4) : Nat) : Int)) 255) = wrM bf z x1 x2 x3 x4 x5 (j + 1) from rfl, z8_i2 (w_g227 w2), Option.bind_some, z8_w2 (w_g227 w2), Option.bind_some, upf_eq, upf_up]
      rw [show ((z + j : Nat) : Int) + 1 = ((z + (j + 1) : Nat) : Int) by omega]
    refine Or.inr ⟨_, ?_, _, rfl, w3⟩
    dsimp only
    unfold LX8_append_23
    rw [w32_nat (by omega), show w32 20 = 20 from rfl, show w32 4 = 4 from rfl, show w32 8 = 8 from rfl, show w32 12 = 12 from rfl, show w32 16 = 16 from rfl, if_pos (by omega)]
    unfold wrd at J
    by_cases c1 : j < 4
    · rw [if_pos (by omega)]; exact J x1 (by rw [if_pos c1])
    · rw [if_neg (by omega)]
      by_cases c2 : j < 8
      · rw [if_pos (by omega)]; exact J x2 (by rw [if_neg c1, if_pos c2])
      · rw [if_neg (by omega)]
        by_cases c3 : j < 12
        · rw [if_pos (by omega)]; exact J x3 (by rw [if_neg c1, if_neg c2, if_pos c3])
        · rw [if_neg (by omega)]
          by_cases c4 : j < 16
          · rw [if_pos (by omega)]; exact J x4 (by rw [if_neg c1, if_neg c2, if_neg c3, if_pos c4])
          · rw [if_neg (by omega)]; exact J x5 (by rw [if_neg c1, if_neg c2, if_neg c3, if_neg c4])
  · obtain ⟨h', rfl, w1⟩ := hI
    dsimp only
    unfold LX8_append_23
    rw [if_neg (show ¬ w32 ((20 : Nat) : Int) < w32 20 by decide)]
    exact ⟨_, rfl, w1⟩
end
/-- four bytes more on both sides -/
theorem by_four {b f : Nat → Int} {z : Nat} {x1 x2 x3 x4 x5 : Int} (hb : ∀ i, i < 900 → byR (b i) (f i)) (j : Nat) {x : Int} {c : Nat → Int} (hj : j < 5) (hx : x = wrd x1 x2 x3 x4 x5 (4 * j)) (hc : ∀ i, i < 900 → byR (c i) (wrM f z x1 x2 x3 x4 x5 (4 * j) i)) : ∀ i, i < 900 → byR (wrC c (z + 4 * j) x 4 i) (wrM f z x1 x2 x3 x4 x5 (4 * j + 4) i) := by
  have st : ∀ k, k ≤ 4 → ∀ i, i < 900 → byR (wrC c (z + 4 * j) x k i) (wrM f z x1 x2 x3 x4 x5 (4 * j + k) i) := by
    intro k
    induction k with
    | zero => intro _; exact hc
    | succ k ih =>
      intro hk i hi
      show byR (upf (wrC c (z + 4 * j) x k) (z + 4 * j + k) (sbI (ushrI x ((24 - 8 * k : Nat) : Int))) i) (upf (wrM f z x1 x2 x3 x4 x5 (4 * j + k)) (z + (4 * j + k)) (andI (shrI (wrd x1 x2 x3 x4 x5 (4 * j + k)) ((24 - 8 * ((4 * j + k) % 4) : Nat) : Int)) 255) i)
      by_cases e : i = z + 4 * j + k
      · subst e
        rw [upf_eq, show z + 4 * j + k = z + (4 * j + k) by omega, upf_eq, show (4 * j + k) % 4 = k by omega]
        have hw : wrd x1 x2 x3 x4 x5 (4 * j + k) = x := by
          rw [hx]
          unfold wrd
          have : j = 0 ∨ j = 1 ∨ j = 2 ∨ j = 3 ∨ j = 4 := by omega
          rcases this with rfl | rfl | rfl | rfl | rfl
          · rw [if_pos (by omega), if_pos (by omega)]
          · rw [if_neg (by omega), if_pos (by omega), if_neg (by omega), if_pos (by omega)]
          · rw [if_neg (by omega), if_neg (by omega), if_pos (by omega), if_neg (by omega), if_neg (by omega), if_pos (by omega)]
          · rw [if_neg (by omega), if_neg (by omega), if_neg (by omega), if_pos (by omega), if_neg (by omega), if_neg (by omega), if_neg (by omega), if_pos (by omega)]
          · rw [if_neg (by omega), if_neg (by omega), if_neg (by omega), if_neg (by omega), if_neg (by omega), if_neg (by omega), if_neg (by omega), if_neg (by omega)]
        rw [hw]
        exact by_low x (by omega)
      · rw [upf_ne e, upf_ne (by omega)]; exact ih (by omega) i hi
  exact st 4 (by omega)
section
variable {h : PH} {xs : Nat → Int} {L : Nat} {v4 : Int}
theorem lc0 (hs : ∀ j, j < L → -2147483648 ≤ xs j ∧ xs j < 2147483648) (h0 : 0 ≤ v4) (hL : v4 + 6 ≤ L) (w : Wld h) : ∃ h', LC0 xs L 0 227 243 v4 h = some h' ∧ Wld h' := by
  obtain ⟨M, S, Mk, e, n, k, rr, tx, bs, sp, u, bf, d, dr, df, dh, w, r⟩ := w
  obtain ⟨x1, hx1, hr1⟩ := sld_ok (i := v4 + 1) hs (by omega) (by omega)
  obtain ⟨x2, hx2, hr2⟩ := sld_ok (i := v4 + 2) hs (by omega) (by omega)
  obtain ⟨x3, hx3, hr3⟩ := sld_ok (i := v4 + 3) hs (by omega) (by omega)
  obtain ⟨x4, hx4, hr4⟩ := sld_ok (i := v4 + 4) hs (by omega) (by omega)
  obtain ⟨x5, hx5, hr5⟩ := sld_ok (i := v4 + 5) hs (by omega) (by omega)
  obtain ⟨r1, r2, r3, r4, r5, r6, r7, r10, r11⟩ := r
  unfold LC0
  simp only [hx1, hx2, hx3, hx4, hx5, Option.bind_some]
  obtain ⟨z, hz⟩ := Int.eq_ofNat_of_zero_le r5.1
  unfold FX7_append FX8_append
  rw [z0_O (w_e0 w), Option.bind_some, z0_r0 (w_e0 w), Option.bind_some, z1_r0 (w_e1 w), Option.bind_some, z2_i1 (w_e2 w), Option.bind_some, hz, show w32 880 = 880 from rfl, w32_nat (by omega)]
  by_cases c : (880 : Int) < z
  · rw [if_pos c, Option.bind_some]
    have w2 := ws_227 (x := upf u 0 0) w
    dsimp only
    rw [z8_O (w_g227 w), Option.bind_some, z8_w0 (w_g227 w), Option.bind_some, z8_i2 (w_g227 w2), Option.bind_some, upf_ne (by decide), r4, hz, show w32 900 = 900 from rfl, w32_eq (by omega) (by omega), if_pos (by omega), Option.bind_some, if_pos rfl]
    exact ⟨_, rfl, M, S, Mk, e, n, k, rr, tx, bs, sp, _, bf, d, dr, df, dh, w2, WR_u ⟨r1, r2, r3, r4, r5, r6, r7, r10, r11⟩⟩
  · rw [if_neg c]
    obtain ⟨h1, e1, w1⟩ := k_word (x := x1) w hz (by omega)
    obtain ⟨h2, e2, w2⟩ := k_word (x := x2) w1 upf_eq (by omega)
    obtain ⟨h3, e3, w3⟩ := k_word (x := x3) w2 upf_eq (by omega)
    obtain ⟨h4, e4, w4⟩ := k_word (x := x4) w3 upf_eq (by omega)
    obtain ⟨h5, e5, w5⟩ := k_word (x := x5) w4 upf_eq (by omega)
    have w6 := ws_227 (x := upf u 0 0) w5
    obtain ⟨h7, e7, w7⟩ := k_app (x1 := x1) (x2 := x2) (x3 := x3) (x4 := x4) (x5 := x5) w6 (z := z) (by rw [upf_ne (by decide), r4, hz]) (by omega)
    rw [e1, Option.bind_some, e2, Option.bind_some, e3, Option.bind_some, e4, Option.bind_some, e5, Option.bind_some, z2_i1 (w_e2 w5), Option.bind_some, Option.bind_some]
    dsimp only
    rw [z8_O (w_g227 w5), Option.bind_some, z8_w0 (w_g227 w5), Option.bind_some, z8_i2 (w_g227 w6), Option.bind_some, upf_ne (show 2 ≠ 0 by decide), r4, hz, show w32 900 = 900 from rfl, w32_eq (by omega) (by omega), if_neg (by omega), e7, Option.bind_some, z8_i2 (w_g227 w7), Option.bind_some, Option.bind_some, upf_eq, upf_eq, if_pos (by rw [show z + 4 + 4 + 4 + 4 + 4 = z + 20 by omega])]
    refine ⟨h7, rfl, M, S, Mk, e, n, k, rr, _, _, sp, _, _, d, dr, df, dh, w7, r1, r2, ?_, ?_, ?_, ?_, ?_, r10, r11⟩
    · rw [upf_ne (by decide), upf_ne (by decide)]; exact r3
    · rw [upf_eq, upf_eq]
    · rw [upf_eq]; omega
    · have b0 := by_four (z := z) (x1 := x1) (x2 := x2) (x3 := x3) (x4 := x4) (x5 := x5) r6 0 (x := x1) (by omega) rfl r6
      have b1 := by_four (z := z) (x1 := x1) (x2 := x2) (x3 := x3) (x4 := x4) (x5 := x5) r6 1 (x := x2) (by omega) rfl b0
      have b2 := by_four (z := z) (x1 := x1) (x2 := x2) (x3 := x3) (x4 := x4) (x5 := x5) r6 2 (x := x3) (by omega) rfl b1
      have b3 := by_four (z := z) (x1 := x1) (x2 := x2) (x3 := x3) (x4 := x4) (x5 := x5) r6 3 (x := x4) (by omega) rfl b2
      have b4 := by_four (z := z) (x1 := x1) (x2 := x2) (x3 := x3) (x4 := x4) (x5 := x5) r6 4 (x := x5) (by omega) rfl b3
      exact b4
    · rw [upf_ne (by decide), upf_ne (by decide)]; exact r7
end
