set_option linter.unusedVariables false
set_option linter.unusedSimpArgs false
section
variable {M M' : MM} {d : Int → Int}
theorem iv_10 (hk : ∀ k, k ≠ 10 → M' k = M k) (v : IvM M) : IvM M' := by
  unfold IvM Ok OkT OkC OkP OkQ OkR OkS OkB OkH runOk at v ⊢
  rw [hk 1 (by decide), hk 2 (by decide), hk 3 (by decide), hk 4 (by decide), hk 5 (by decide), hk 6 (by decide), hk 9 (by decide), hk 11 (by decide), hk 12 (by decide), hk 13 (by decide), hk 14 (by decide), hk 15 (by decide), hk 18 (by decide)]
  exact v
theorem rel_ten (hk : ∀ k, k ≠ 10 → M' k = M k) (v : Rel M d) : Rel M' d := by
  unfold Rel at v ⊢
  rw [hk 0 (by decide), hk 1 (by decide), hk 2 (by decide), hk 3 (by decide), hk 4 (by decide), hk 5 (by decide), hk 6 (by decide), hk 9 (by decide), hk 11 (by decide), hk 12 (by decide), hk 13 (by decide), hk 14 (by decide), hk 15 (by decide), hk 16 (by decide), hk 17 (by decide), hk 18 (by decide), hk 19 (by decide)]
  exact v
theorem pair_10 (hk : ∀ k, k ≠ 10 → M' k = M k) (v : Pair M d) : Pair M' d := by
  obtain ⟨v1, v2, v3, v4, v5⟩ := v
  refine ⟨iv_10 hk v1, rel_ten hk v2, relX_congr (hk 1 (by decide)) (hk 7 (by decide)) (hk 8 (by decide)) v3, ?_, ?_⟩
  · unfold clkOk at v4 ⊢; rw [hk 0 (by decide)]; exact v4
  · unfold OkF at v5 ⊢; rw [hk 1 (by decide), hk 9 (by decide), hk 11 (by decide), hk 13 (by decide)]; exact v5
end
section
variable {h : PH} {xs : Nat → Int} {L : Nat} {v4 : Int}
theorem lc21 (w : Wld h) : ∃ h', LC21 xs L 0 227 243 v4 h = some h' ∧ Wld h' := by
  obtain ⟨M, S, Mk, e, n, k, rr, tx, bs, sp, u, bf, d, dr, df, dh, w, r⟩ := w
  have hk : ∀ x, x ≠ 10 → chs M (M 1 0).toNat x = M x := fun x hx => chs_ne hx
  have w1 := ws_M (N := chs M (M 1 0).toNat) w (FM_congr (by rw [hk 0 (by decide)]) (hk 19 (by decide)) (w_f5 w))
  have w2 := ws_227 (x := upf u 0 0) w1
  obtain ⟨K, zc⟩ := w_g242 w2
  have z := w_g227 w1
  have z2 := w_g227 w2
  obtain ⟨K', hK⟩ := m_crit z2 (w_g229 w2) zc r.1.1.1 r.1.2.2.2.2 r.1.2.1
  unfold LC21 FX7_criticalPath FX8_criticalPath
  rw [z0_O (w_e0 w), Option.bind_some, z0_r1 (w_e0 w), Option.bind_some, b5_gfr0_0 (w_a5 w), Option.bind_some, b5_chain (w_a5 w) r.1.1.1, Option.bind_some, Option.bind_some]
  dsimp only
  rw [z8_O z, Option.bind_some, z8_w0 z, Option.bind_some, hK, Option.bind_some, Option.bind_some, if_pos rfl]
  refine ⟨_, rfl, _, S, Mk, e, n, k, rr, tx, bs, sp, _, bf, d, dr, df, dh, ws_242 w2, ?_⟩
  have r' := WR_u (x := 0) r
  exact ⟨pair_10 hk r'.1, r'.2⟩
/-! ===== checksum ===== -/
def ckT (M : MM) (v : Int) : Nat → Int
  | 0 => v
  | j + 1 => 31 * (31 * (31 * ckT M v j + w32 (M 2 j)) + w32 (M 4 j)) + w32 (ctr M j)
def ckQ (M : MM) (c : Nat) (v : Int) : Nat → Int
  | 0 => v
  | j + 1 => 31 * ckQ M c v j + w32 (M 12 (8 * c + j))
def ckC (M : MM) (v : Int) : Nat → Int
  | 0 => v
  | c + 1 => 31 * (31 * (31 * (31 * ckQ M c (ckC M v c) (M 13 c).toNat + w32 (M 14 c)) + w32 (M 15 c)) + w32 (M 16 c)) + w32 (M 17 c)
def ckS (M : MM) : Int := ckC M (ckT M (31 * w32 (M 0 3) + w32 (M 1 0 - cnt (unf M) (M 1 0).toNat)) (M 1 0).toNat) (M 11 0).toNat
theorem r_ck {e : Int} {M : MM} (z : h[0]? = some (c0 e)) (t : At h 5 M) (ok : Ok M) : FX7_checksum h 0 = some (ckS M) := by
  have hT := ok.1.1
  have hC := ok.2.1.1
  obtain ⟨n, hn⟩ := Int.eq_ofNat_of_zero_le hT.1
  obtain ⟨m, hm⟩ := Int.eq_ofNat_of_zero_le hC.1
  obtain ⟨y, e1, e2⟩ := b5_unf t ok.1
  unfold FX7_checksum
  rw [z0_O z, Option.bind_some, z0_r1 z, Option.bind_some, b5_gfr0_0 t, Option.bind_some, Option.bind_some, b5_gfr0_1 t, Option.bind_some, Option.bind_some, b5_gfi0_3 t, Option.bind_some, b5_fin t ok.1, Option.bind_some, e1, Option.bind_some]
  unfold ckS
  generalize 31 * w32 (M 0 3) + w32 (M 1 0 - cnt (unf M) (M 1 0).toNat) = v0
  rw [hn, hm, Int.toNat_natCast, Int.toNat_natCast]
  have L1 := lp_det (f := fun st : Int × Int => LX7_checksum_44 h 6 16 y st.1 st.2) (fun j => (ckT M v0 j, (j : Int))) (a := 0) (b := n) (r := ckT M v0 n) (by omega) (by omega) (fun j h1 h2 => ?_) ?_
  · have L1 : lp (fun st : Int × Int => LX7_checksum_44 h 6 16 y st.1 st.2) FU (v0, 0) = some (ckT M v0 n) := L1
    rw [L1, Option.bind_some]
    generalize ckT M v0 n = v1
    have L2 := lp_det (f := fun st : Int × Int => LX7_checksum_108 h 16 st.1 st.2) (fun j => (ckC M v1 j, (j : Int))) (a := 0) (b := m) (r := ckC M v1 m) (by omega) (by omega) (fun c h1 h2 => ?_) ?_
    · have L2 : lp (fun st : Int × Int => LX7_checksum_108 h 16 st.1 st.2) FU (v1, 0) = some (ckC M v1 m) := L2
      rw [L2]; rfl
    · have h8 := ok.2.1.2.2.2.1 c (by omega)
      obtain ⟨l, hl⟩ := Int.eq_ofNat_of_zero_le h8.1
      have L3 := lp_det (f := fun st : Int × Int => LX7_checksum_120 h 16 c st.1 st.2) (fun j => (ckQ M c (ckC M v1 c) j, (j : Int))) (a := 0) (b := l) (r := ckQ M c (ckC M v1 c) l) (by omega) (by omega) (fun j h1 h2 => ?_) ?_
      · have L3 : lp (fun st : Int × Int => LX7_checksum_120 h 16 c st.1 st.2) FU (ckC M v1 c, 0) = some (ckQ M c (ckC M v1 c) l) := L3
        unfold LX7_checksum_108
        rw [b5_gfi11_0 t, Option.bind_some, hm, w32_nat (by omega), w32_nat (by omega), if_pos (by omega), L3, Option.bind_some, b5_gfr11_5 t, Option.bind_some, b5_a14 t (by omega) (by omega), Option.bind_some, b5_gfr11_6 t, Option.bind_some, b5_a15 t (by omega) (by omega), Option.bind_some, b5_gfr11_7 t, Option.bind_some, b5_a16 t (by omega) (by omega), Option.bind_some, b5_gfr11_8 t, Option.bind_some, b5_a17 t (by omega) (by omega), Option.bind_some]
        rw [show ckC M v1 (c + 1) = 31 * (31 * (31 * (31 * ckQ M c (ckC M v1 c) (M 13 c).toNat + w32 (M 14 c)) + w32 (M 15 c)) + w32 (M 16 c)) + w32 (M 17 c) from rfl, hl, Int.toNat_natCast, Int.toNat_natCast]
        rfl
      · unfold LX7_checksum_120
        rw [b5_gfr11_4 t, Option.bind_some, b5_a13 t (by omega) (by omega), Option.bind_some, Int.toNat_natCast, hl, w32_nat (by omega), w32_nat (by omega), if_pos (by omega), b5_gfr11_3 t, Option.bind_some, b5_a12 t (by omega) (by omega), Option.bind_some, show ((c : Int) * 8 + j).toNat = 8 * c + j by omega]
        rfl
      · unfold LX7_checksum_120
        rw [b5_gfr11_4 t, Option.bind_some, b5_a13 t (by omega) (by omega), Option.bind_some, Int.toNat_natCast, hl, if_neg (Int.lt_irrefl _)]
    · unfold LX7_checksum_108
      rw [b5_gfi11_0 t, Option.bind_some, hm, if_neg (Int.lt_irrefl _)]
  · unfold LX7_checksum_44
    rw [b5_gfi1_0 t, Option.bind_some, hn, w32_nat (by omega), w32_nat (by omega), if_pos (by omega), b5_gfr1_2 t, Option.bind_some, b5_a2 t (by omega) (by omega), Option.bind_some, b5_gfr1_4 t, Option.bind_some, b5_a4 t (by omega) (by omega), Option.bind_some, b5_ctr t ok.1 e2 (by omega), Option.bind_some, Int.toNat_natCast]
    rfl
  · unfold LX7_checksum_44
    rw [b5_gfi1_0 t, Option.bind_some, hn, if_neg (Int.lt_irrefl _)]
theorem m_ck {u : Nat → Int} {M : MM} {d : Int → Int} (z : h[227]? = some (mdl u)) (zd : h[229]? = some (dcell d)) (ok : Ok M) (ob : OkB M) (r : Rel M d) : (lp (fun st : Int × Int => LX8_checksum_28 h 227 st.1 st.2) FU (((31 * (w32 (M 0 3))) + (w32 (M 1 0 - cnt (unf M) (M 1 0).toNat))), 0)).bind (fun ex16 => lp (fun st : Int × Int => LX8_checksum_100 h 227 st.1 st.2) FU (ex16, 0)) = some (ckS M) := by
  have hT := ok.1.1
  have hC := ok.2.1.1
  obtain ⟨n, hn⟩ := Int.eq_ofNat_of_zero_le hT.1
  obtain ⟨m, hm⟩ := Int.eq_ofNat_of_zero_le hC.1
  have e0 := r.1.1
  have e3 := r.1.2.2.2.1
  unfold ckS
  generalize 31 * w32 (M 0 3) + w32 (M 1 0 - cnt (unf M) (M 1 0).toNat) = v0
  rw [hn, hm, Int.toNat_natCast, Int.toNat_natCast]
  have L1 := lp_det (f := fun st : Int × Int => LX8_checksum_28 h 227 st.1 st.2) (fun j => (ckT M v0 j, (j : Int))) (a := 0) (b := n) (r := ckT M v0 n) (by omega) (by omega) (fun j h1 h2 => ?_) ?_
  · have L1 : lp (fun st : Int × Int => LX8_checksum_28 h 227 st.1 st.2) FU (v0, 0) = some (ckT M v0 n) := L1
    rw [L1, Option.bind_some]
    generalize ckT M v0 n = v1
    have L2 := lp_det (f := fun st : Int × Int => LX8_checksum_100 h 227 st.1 st.2) (fun j => (ckC M v1 j, (j : Int))) (a := 0) (b := m) (r := ckC M v1 m) (by omega) (by omega) (fun c h1 h2 => ?_) ?_
    · have L2 : lp (fun st : Int × Int => LX8_checksum_100 h 227 st.1 st.2) FU (v1, 0) = some (ckC M v1 m) := L2
      exact L2
    · have h8 := ok.2.1.2.2.2.1 c (by omega)
      obtain ⟨l, hl⟩ := Int.eq_ofNat_of_zero_le h8.1
      obtain ⟨a0, a1, a2, a3, a4, a5, -⟩ := r.2.2.2 c (by omega)
      have L3 := lp_det (f := fun st : Int × Int => LX8_checksum_113 h 227 c st.1 st.2) (fun j => (ckQ M c (ckC M v1 c) j, (j : Int))) (a := 0) (b := l) (r := ckQ M c (ckC M v1 c) l) (by omega) (by omega) (fun j h1 h2 => ?_) ?_
      · have L3 : lp (fun st : Int × Int => LX8_checksum_113 h 227 c st.1 st.2) FU (ckC M v1 c, 0) = some (ckQ M c (ckC M v1 c) l) := L3
        unfold LX8_checksum_100 FX8_core
        simp only [Option.bind_some]
        rw [z8_r8 z, Option.bind_some, zd_l zd (by omega) (by omega), Option.bind_some, e0, hm, w32_nat (by omega), w32_nat (by omega), if_pos (by omega), L3, Option.bind_some, Option.bind_some, zd_l zd (by omega) (by omega), Option.bind_some, a0, d_rem z zd ok r (by omega), Option.bind_some, Option.bind_some, zd_l zd (by omega) (by omega), Option.bind_some, a1, Option.bind_some, zd_l zd (by omega) (by omega), Option.bind_some, a2]
        rw [show ckC M v1 (c + 1) = 31 * (31 * (31 * (31 * ckQ M c (ckC M v1 c) (M 13 c).toNat + w32 (M 14 c)) + w32 (M 15 c)) + w32 (M 16 c)) + w32 (M 17 c) from rfl, hl, Int.toNat_natCast]
        rfl
      · unfold LX8_checksum_113 FX8_core
        simp only [Option.bind_some]
        rw [z8_r8 z, Option.bind_some, zd_l zd (by omega) (by omega), Option.bind_some, a4, hl, w32_nat (by omega), w32_nat (by omega), if_pos (by omega), Option.bind_some, zd_l zd (by omega) (by omega), Option.bind_some, a5 j (by omega)]
        rfl
      · unfold LX8_checksum_113 FX8_core
        simp only [Option.bind_some]
        rw [z8_r8 z, Option.bind_some, zd_l zd (by omega) (by omega), Option.bind_some, a4, hl, if_neg (Int.lt_irrefl _)]
    · unfold LX8_checksum_100
      rw [z8_r8 z, Option.bind_some, zd_l zd (by omega) (by omega), Option.bind_some, e0, hm, if_neg (Int.lt_irrefl _)]
  · obtain ⟨b0, b1, b2, b3, b4⟩ := r.2.2.1 j (by omega)
    unfold LX8_checksum_28 FX8_task
    simp only [Option.bind_some]
    rw [z8_r8 z, Option.bind_some, zd_l zd (by omega) (by omega), Option.bind_some, e3, hn, w32_nat (by omega), w32_nat (by omega), if_pos (by omega), Option.bind_some, zd_l zd (by omega) (by omega), Option.bind_some, b4, Option.bind_some, zd_l zd (by omega) (by omega), Option.bind_some, b1, Option.bind_some, d_ctr zd ok.1 ob r (by omega), Option.bind_some]
    rfl
  · unfold LX8_checksum_28
    rw [z8_r8 z, Option.bind_some, zd_l zd (by omega) (by omega), Option.bind_some, e3, hn, if_neg (Int.lt_irrefl _)]
theorem lc31 (w : Wld h) : ∃ h', LC31 xs L 0 227 243 v4 h = some h' ∧ Wld h' := by
  obtain ⟨M, S, Mk, e, n, k, rr, tx, bs, sp, u, bf, d, dr, df, dh, w, r⟩ := w
  have w2 := ws_227 (x := upf u 0 0) w
  have z := w_g227 w
  have z2 := w_g227 w2
  have hm := m_ck z2 (w_g229 w2) r.1.1.1 r.1.1.2.2.2.2.1 r.1.2.1
  obtain ⟨x1, g1, g2⟩ := bnd hm
  unfold LC31 FX8_checksum
  rw [r_ck (w_e0 w) (w_a5 w) r.1.1.1, Option.bind_some, z8_O z, Option.bind_some, z8_w0 z, Option.bind_some, z8_r8 z2, Option.bind_some, zd_l (w_g229 w2) (by omega) (by omega), Option.bind_some, Option.bind_some, d_fin (w_g229 w2) r.1.1.1.1 r.1.2.1, Option.bind_some, r.1.2.1.1.2.2.2.2.2.1, g1, Option.bind_some, g2, Option.bind_some, Option.bind_some, if_pos (cmpL_same rfl)]
  exact ⟨_, rfl, M, S, Mk, e, n, k, rr, tx, bs, sp, _, bf, d, dr, df, dh, w2, WR_u r⟩
end
