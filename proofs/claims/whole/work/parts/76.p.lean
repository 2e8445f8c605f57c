set_option linter.unusedVariables false
set_option linter.unusedSimpArgs false
/-! ===== run ===== -/
theorem hqs_lt {M : MM} {home c : Nat} (h : hqs M home = c) : (c : Int) < M 11 0 := by
  unfold hqs at h
  by_cases z : (home : Int) < M 11 0 ∧ M 13 home < M 11 1
  · rw [if_pos z] at h; omega
  · rw [if_neg z] at h
    rcases qfs_is M (M 11 0).toNat with ⟨e, -⟩ | ⟨b, e, hb, -⟩
    · rw [e] at h; omega
    · rw [e] at h; omega
theorem qst_13 {M M' : MM} (ok : Ok M) (h : qst M = some M') {q : Nat} (hq : M 11 0 ≤ q) : M' 13 q = M 13 q := by
  obtain ⟨t, c, -, -, -, e2, -, -, rfl⟩ := qst_spec ok h
  have := hqs_lt e2
  unfold putQ
  rw [up_ne (by decide), up_ni (by omega), up_ne (by decide)]
theorem qall_13 : ∀ {k : Nat} {M : MM}, Ok M → OkQ M → ∀ {q : Nat}, M 11 0 ≤ q → qall k M 13 q = M 13 q := by
  intro k
  induction k with
  | zero => intro M _ _ q _; rfl
  | succ k ih =>
    intro M h1 h2 q hq
    unfold qall
    cases hs : qst M with
    | none => rfl
    | some M' =>
      have e11 : M' 11 = M 11 := qst_keep h1 hs (by decide) (by decide) (by decide)
      exact (ih (qst_ok h1 hs) (qst_okq h1 h2 hs) (by rw [e11]; exact hq)).trans (qst_13 h1 hs hq)
theorem src_lt2 {M : MM} {c : Nat} (ok : OkC M) (hc : (c : Int) < M 11 0) : ((srcM M c : Nat) : Int) < M 11 0 := by
  obtain ⟨o1, -⟩ := ok
  unfold srcM
  split
  · obtain ⟨n, hn⟩ : ∃ n, (M 11 0).toNat = n + 1 := ⟨(M 11 0).toNat - 1, by omega⟩
    rw [hn]
    have := (lqs_is M n).1
    omega
  · exact hc
theorem sta_13 {ss : List Int} {M : MM} {c q : Nat} (ok : Ok M) (hc : (c : Int) < M 11 0) (hq : M 11 0 ≤ q) : staM ss M c 13 q = M 13 q := by
  by_cases h0 : M 13 (srcM M c) = 0
  · unfold staM; rw [if_pos h0]
  · rw [(staM_rows (ss := ss) h0).2.2.1, tk_13, if_neg (by have := src_lt2 ok.2.1 hc; omega)]
theorem cyc_13 {ss : List Int} {M : MM} (iv : IvM M) {q : Nat} (hq : M 11 0 ≤ q) : cyc ss M 13 q = M 13 q := by
  obtain ⟨okF, oqF, krF, osF, obF, ohF⟩ := iv_fin iv
  obtain ⟨ok, oq, kr, os, ob, oh⟩ := iv
  have hC := ok.2.1.1
  have fk : ∀ x, x ≠ 2 → x ≠ 8 → x ≠ 14 → x ≠ 15 → finM M (M 11 0).toNat x = M x := fun x z1 z2 z3 z4 => funext fun i => finM_keep z1 z2 (Or.inl ⟨z3, z4⟩)
  obtain ⟨okR1, oqR1⟩ := rdyM_ok (j := (M 1 0).toNat) okF oqF
  obtain ⟨⟨okQ, oqQ⟩, qk⟩ := qall_ok (k := 32) okR1 oqR1
  have osQ := okS_qall (k := 32) okR1 oqR1 (okS_rdy (j := (M 1 0).toNat) osF)
  have okQ : Ok (cycQ M) := okQ
  have oqQ : OkQ (cycQ M) := oqQ
  have osQ : OkS (cycQ M) := osQ
  have e11 : cycQ M 11 = M 11 := by
    unfold cycQ
    rw [qk 11 (by decide) (by decide) (by decide), rdy_ne (by decide), fk 11 (by decide) (by decide) (by decide) (by decide)]
  have krQ : OkR (cycQ M) := by
    refine okR_congr ?_ ?_ krF
    · unfold cycQ; rw [qk 11 (by decide) (by decide) (by decide), rdy_ne (by decide)]
    · unfold cycQ; rw [qk 14 (by decide) (by decide) (by decide), rdy_ne (by decide)]
  have eQ : cycQ M 13 q = M 13 q := by
    unfold cycQ
    rw [qall_13 okR1 oqR1 (by rw [rdy_ne (by decide), fk 11 (by decide) (by decide) (by decide) (by decide)]; exact hq), rdy_ne (by decide), fk 13 (by decide) (by decide) (by decide) (by decide)]
  have eS : ∀ j : Nat, (j : Int) ≤ M 11 0 → stsM ss (cycQ M) j 13 q = cycQ M 13 q := by
    intro j
    induction j with
    | zero => intro _; rfl
    | succ j ih =>
      intro hj
      obtain ⟨s1, -, -, -, s5, -⟩ := sts_iv (ss := ss) okQ oqQ krQ osQ (j := j) (by rw [e11]; omega)
      have s11 : stsM ss (cycQ M) j 11 = M 11 := (s5 11 (by unfold kpt; omega)).trans e11
      rw [show stsM ss (cycQ M) (j + 1) = if stsM ss (cycQ M) j 18 j = 0 ∧ stsM ss (cycQ M) j 14 j < 0 then staM ss (stsM ss (cycQ M) j) j else stsM ss (cycQ M) j from rfl]
      split
      · rw [sta_13 s1 (by rw [s11]; omega) (by rw [s11]; exact hq)]; exact ih (by omega)
      · exact ih (by omega)
  unfold cyc cycS
  rw [up_ne (by decide), bsyM_ne (by decide), eS _ (by omega), eQ]
/-- the machine and what is done after j cycles -/
def cyI (ss : List Int) (M : MM) : Nat → MM
  | 0 => M
  | j + 1 => cyc ss (cyI ss M j)
def dnI (ss : List Int) (M : MM) : Nat → Int
  | 0 => 0
  | j + 1 => dnI ss M j + finN (cyI ss M j) (cyI ss M j 11 0).toNat
theorem cyI_iv {ss : List Int} {M : MM} (iv : IvM M) (of : OkF M) : ∀ j : Nat, IvM (cyI ss M j) ∧ OkF (cyI ss M j) ∧ (∀ x, kpt x → cyI ss M j x = M x) ∧ cyI ss M j 0 2 = M 0 2 ∧ cyI ss M j 0 3 = M 0 3 + j := by
  intro j
  induction j with
  | zero => exact ⟨iv, of, fun _ _ => rfl, rfl, by simp [cyI]⟩
  | succ j ih =>
    obtain ⟨i1, i2, i3, i4, i5⟩ := ih
    obtain ⟨c1, c2, c3, c4⟩ := iv_cyc (ss := ss) i1
    refine ⟨c1, ⟨?_, ?_⟩, fun x hx => (c2 x hx).trans (i3 x hx), c3.trans i4, ?_⟩
    · show ∀ f g : Nat, f ≤ g → (g : Int) < cyc ss (cyI ss M j) 1 1 → cyc ss (cyI ss M j) 9 f ≤ cyc ss (cyI ss M j) 9 g
      rw [c2 1 (by unfold kpt; omega), c2 9 (by unfold kpt; omega)]; exact i2.1
    · intro c hc h
      have h : cyc ss (cyI ss M j) 11 0 ≤ c := h
      rw [c2 11 (by unfold kpt; omega)] at h
      show cyc ss (cyI ss M j) 13 c = 0
      rw [cyc_13 i1 h]; exact i2.2 c hc h
    · show cyc ss (cyI ss M j) 0 3 = _
      rw [c4, i5]; omega
section
variable {h : PH} {M S : MM} {Mk : Nat → MM} {e nx ct : Int} {rr tx bs sp u bf : Nat → Int} {d dr df : Int → Int} {dh : Nat → Int → Int} {ss : List Int}
theorem k_run (w : WS h M S Mk e nx ct rr tx bs sp u bf d dr df dh) (iv : IvM M) (of : OkF M) (cs : CodM M ss) (zz : FZ2 h (M 0 2).toNat ss) {c : Nat} (hc : c ≤ 200) : ∃ h', lp (fun st : Int × Int × PH => LX7_run_65 0 c st.1 st.2.1 st.2.2) FU (0, 0, h) = some (dnI ss M c, h') ∧ WS h' (cyI ss M c) S Mk e nx ct rr tx bs sp u bf d dr df dh := by
  have := lp_for (f := fun st : Int × Int × PH => LX7_run_65 0 c st.1 st.2.1 st.2.2) (fun j st => ∃ h', st = (dnI ss M j, (j : Int), h') ∧ WS h' (cyI ss M j) S Mk e nx ct rr tx bs sp u bf d dr df dh ∧ FZ2 h' (M 0 2).toNat ss) (fun q => ∃ h', q = (dnI ss M c, h') ∧ WS h' (cyI ss M c) S Mk e nx ct rr tx bs sp u bf d dr df dh) (a := 0) (b := c) (s := (0, 0, h)) (by omega) (by omega) ⟨h, rfl, w, zz⟩ (fun j st h1 h2 hI => ?_) (fun st hI => ?_)
  · obtain ⟨q, e1, h', rfl, e2⟩ := this
    exact ⟨h', e1, e2⟩
  · obtain ⟨h', rfl, w1, z1⟩ := hI
    obtain ⟨i1, i2, i3, i4, i5⟩ := cyI_iv (ss := ss) iv of j
    have cs1 : CodM (cyI ss M j) ss := codM_congr (i3 19 (by unfold kpt; omega)) cs
    have hz := FZ_of (p := 5) (by unfold mpl; omega) cs1 z1
    have z1' := z1
    obtain ⟨y1, y2, y3, K, y4⟩ := z1
    obtain ⟨⟨K', g1⟩, -⟩ := r_cycle (K := K) (w_a5 w1).1 i1.1 i1.2.1 (by rw [i4]; exact hz)
    rw [set_same y4, At_put (w_a5 w1)] at g1
    obtain ⟨c1, c2, c3, c4⟩ := iv_cyc (ss := ss) i1
    refine Or.inr ?_
    dsimp only
    unfold LX7_run_65
    rw [w32_nat (by omega), w32_nat (by omega), if_pos (by omega), z0_r1 (w_e0 w1), Option.bind_some, g1, Option.bind_some]
    have w2 := ws_skc (K := K') z1' w1
    have w3 := ws_M (N := cyc ss (cyI ss M j)) w2 (FM_congr (by rw [c3]) (c2 19 (by unfold kpt; omega)) (w_f5 w2))
    exact ⟨_, rfl, _, rfl, w3, FZ2_put (FZ2_skc z1' z1') (by unfold mpl; omega)⟩
  · obtain ⟨h', rfl, w1, z1⟩ := hI
    dsimp only
    unfold LX7_run_65
    rw [if_neg (Int.lt_irrefl _)]
    exact ⟨_, rfl, h', rfl, w1⟩
theorem k_mrun {T : MM} (w : WS h M S Mk e nx ct rr tx bs sp u bf d dr df dh) (iv : IvM T) (of : OkF T) (cs : CodM T ss) (r : Rel T d) (rx : RelX T d) {c : Nat} (hc : c ≤ 200) : ∃ h' d', lp (fun st : Int × Int × PH => LX8_run_74 227 c st.1 st.2.1 st.2.2) FU (0, 0, h) = some (dnI ss T c, h') ∧ WS h' M S Mk e nx ct rr tx bs sp u bf d' dr df dh ∧ Rel (cyI ss T c) d' ∧ RelX (cyI ss T c) d' ∧ h'[243]? = h[243]? := by
  have := lp_for (f := fun st : Int × Int × PH => LX8_run_74 227 c st.1 st.2.1 st.2.2) (fun j st => ∃ h' d', st = (dnI ss T j, (j : Int), h') ∧ WS h' M S Mk e nx ct rr tx bs sp u bf d' dr df dh ∧ Rel (cyI ss T j) d' ∧ RelX (cyI ss T j) d' ∧ h'[243]? = h[243]?) (fun q => ∃ h' d', q = (dnI ss T c, h') ∧ WS h' M S Mk e nx ct rr tx bs sp u bf d' dr df dh ∧ Rel (cyI ss T c) d' ∧ RelX (cyI ss T c) d' ∧ h'[243]? = h[243]?) (a := 0) (b := c) (s := (0, 0, h)) (by omega) (by omega) ⟨h, d, rfl, w, r, rx, rfl⟩ (fun j st h1 h2 hI => ?_) (fun st hI => ?_)
  · obtain ⟨q, e1, h', d', rfl, e2⟩ := this
    exact ⟨h', d', e1, e2⟩
  · obtain ⟨h', d1, rfl, w1, r1, rx1, o1⟩ := hI
    obtain ⟨i1, i2, i3, i4, i5⟩ := cyI_iv (ss := ss) iv of j
    have cs1 : CodM (cyI ss T j) ss := codM_congr (i3 19 (by unfold kpt; omega)) cs
    obtain ⟨K, zK⟩ := w_g241 w1
    have len := w_len w1
    obtain ⟨d2, K', g1, g2, g3, g4, g5⟩ := m_cycle (h := h') (a := 229) (b := 241) (mp := 227) (K := K) (by omega) (by omega) (by decide) (w_g227 w1) rfl (by decide) (by decide) i1 r1 cs1
    have hm : mh h' 229 241 d1 K = h' := by
      unfold mh sd
      rw [set_same zK, set_same (w_g229 w1)]
    rw [hm] at g1
    refine Or.inr ?_
    dsimp only
    unfold LX8_run_74
    rw [w32_nat (by omega), w32_nat (by omega), if_pos (by omega), z8_r8 (w_g227 w1), Option.bind_some, g1, Option.bind_some]
    refine ⟨_, rfl, _, d2, rfl, ws_229 (ws_241 w1), g2, g3 rx1, ?_⟩
    unfold mh sd
    rw [List.getElem?_set, if_neg (by decide), List.getElem?_set, if_neg (by decide)]; exact o1
  · obtain ⟨h', d1, rfl, w1, r1, rx1, o1⟩ := hI
    dsimp only
    unfold LX8_run_74
    rw [if_neg (Int.lt_irrefl _)]
    exact ⟨_, rfl, h', d1, rfl, w1, r1, rx1, o1⟩
end
section
variable {h : PH} {xs : Nat → Int} {L : Nat} {v4 : Int}
theorem lc24 (hs : ∀ j, j < L → -2147483648 ≤ xs j ∧ xs j < 2147483648) (h0 : 0 ≤ v4) (hL : v4 + 6 ≤ L) (w : Wld h) : ∃ h', LC24 xs L 0 227 243 v4 h = some h' ∧ Wld h' := by
  obtain ⟨M, S, Mk, e, n, k, rr, tx, bs, sp, u, bf, d, dr, df, dh, w, r⟩ := w
  obtain ⟨x, hx, hr⟩ := sld_ok (i := v4 + 1) hs (by omega) (by omega)
  have iv := r.1.1
  have rl := r.1.2.1
  have hC := iv.1.2.1.1
  have ck := r.1.2.2.2.1
  unfold clkOk at ck
  have z := w_g227 w
  have w4 := ws_227 (x := upf u 0 0) w
  have z4 := w_g227 w4
  have e5 := rl.1.2.2.2.2.2.1
  unfold LC24 FL_run
  simp only [hx, Option.bind_some]
  by_cases c : 1 ≤ x ∧ x ≤ 200
  · obtain ⟨t, ht⟩ := Int.eq_ofNat_of_zero_le (show 0 ≤ x by omega)
    by_cases c3 : M 11 0 = 0 ∨ 100000 < M 0 3 + x
    · have eA : FX7_run h 0 x = some (3, 0, h) := by
        unfold FX7_run
        rw [z0_O (w_e0 w), Option.bind_some, w32_eq hr.1 hr.2, show w32 1 = 1 from rfl, if_neg (by omega), show w32 200 = 200 from rfl, if_neg (by omega), r_rS (w_e0 w) (w_a5 w) hC, Option.bind_some]
        by_cases c4 : M 11 0 = 0
        · rw [if_pos c4, if_neg (by decide)]
        · rw [if_neg c4, if_pos rfl, z0_r1 (w_e0 w), Option.bind_some, b5_gfi0_3 (w_a5 w), Option.bind_some, w32_eq (by omega) (by omega), w32_eq (by omega) (by omega), if_pos (by omega)]
      rw [eA, Option.bind_some, if_neg (show ¬ (3 : Nat) = 0 by decide), if_neg (show ¬ (3 : Nat) = 2 by decide), if_pos rfl, Option.bind_some]
      dsimp only
      have w5 := ws_227 (x := upf u 0 2) w
      have eB : FX8_run h 227 x = some (0, h.set 227 (mdl (upf u 0 2))) := by
        unfold FX8_run JX8_run_22 JX8_run_52 JX8_run_57 JX8_run_64
        rw [z8_O z, Option.bind_some, z8_w0 z, Option.bind_some, m_in hr (by omega) (by omega), Option.bind_some, if_pos c, if_neg (show ¬ w32 1 = 0 by decide), m_fails0 z4 upf_eq, Option.bind_some, if_pos (show w32 0 = 0 by decide)]
        dsimp only
        rw [z8_r8 z4, Option.bind_some, zd_l (w_g229 w4) (by omega) (by omega), Option.bind_some, rl.1.1, m_fails1 z4 upf_eq (by omega), Option.bind_some, if_neg (show ¬ w32 1 = 0 by decide), List.set_set, upf_up, w32_eq (by omega) (by omega)]
        by_cases c4 : M 11 0 = 0
        · rw [if_pos c4]
        · rw [if_neg c4, Option.bind_some, zd_l (w_g229 w4) (by omega) (by omega), Option.bind_some, e5, w32_eq (x := M 0 3 + x) (by omega) (by omega), show w32 100000 = 100000 from rfl, if_pos (by omega)]
      rw [eB, Option.bind_some]
      exact ⟨_, lck_ok (w_g227 w5) upf_eq (fun q => absurd q (by decide)), M, S, Mk, e, n, k, rr, tx, bs, sp, _, bf, d, dr, df, dh, w5, WR_u r⟩
    · have c4 : ¬ M 11 0 = 0 := fun q => c3 (Or.inl q)
      have c5 : M 0 3 + x ≤ 100000 := by
        rcases Int.lt_or_le 100000 (M 0 3 + x) with q | q
        · exact absurd (Or.inr q) c3
        · exact q
      obtain ⟨h1, e1, w1⟩ := k_rem w iv r.2.2.2.2.2.2.1.1 r.2.2.2.2.2.2.1.2.1
      obtain ⟨zf, ss, cs, zz⟩ := w_f5 w1
      obtain ⟨h2, g1, w2⟩ := k_run w1 iv r.1.2.2.2.2 cs zz (c := t) (by omega)
      obtain ⟨x0, zx⟩ := w_g243 w2
      have w3 := ws_243 (x := w32 (dnI ss M t)) w2
      have eA : FX7_run h 0 x = some (0, dnI ss M t, h2) := by
        unfold FX7_run
        rw [z0_O (w_e0 w), Option.bind_some, w32_eq hr.1 hr.2, show w32 1 = 1 from rfl, if_neg (by omega), show w32 200 = 200 from rfl, if_neg (by omega), r_rS (w_e0 w) (w_a5 w) hC, Option.bind_some, if_neg c4, if_pos rfl, z0_r1 (w_e0 w), Option.bind_some, b5_gfi0_3 (w_a5 w), Option.bind_some, w32_eq (by omega) (by omega), w32_eq (by omega) (by omega), if_neg (by omega), z0_r3 (w_e0 w), Option.bind_some, Option.bind_some, e1, Option.bind_some, ht, g1, Option.bind_some]
      rw [eA, Option.bind_some, if_pos rfl, z243_s zx, Option.bind_some, Option.bind_some]
      dsimp only
      have z := w_g227 w3
      have w4 := ws_227 (x := upf u 0 0) w3
      have z4 := w_g227 w4
      obtain ⟨h5, f1, w5, f2⟩ := k_mrem (k := k) w4 r.2.2.2.2.2.2.1.2.1 (by rw [upf_ne (by decide)]; exact r.2.2.2.2.2.2.1.2.2)
      obtain ⟨h6, d6, m1, w6, m2, m3, m4⟩ := k_mrun (T := M) w5 iv r.1.2.2.2.2 cs rl r.1.2.2.1 (c := t) (by omega)
      have eB : FX8_run (h2.set 243 (c243 (w32 (dnI ss M t)))) 227 x = some (dnI ss M t, h6) := by
        unfold FX8_run JX8_run_22 JX8_run_57
        rw [z8_O z, Option.bind_some, z8_w0 z, Option.bind_some, m_in hr (by omega) (by omega), Option.bind_some, if_pos c, if_neg (show ¬ w32 1 = 0 by decide), m_fails0 z4 upf_eq, Option.bind_some, if_pos (show w32 0 = 0 by decide)]
        dsimp only
        rw [z8_r8 z4, Option.bind_some, zd_l (w_g229 w4) (by omega) (by omega), Option.bind_some, rl.1.1, w32_eq (by omega) (by omega), if_neg c4, Option.bind_some, zd_l (w_g229 w4) (by omega) (by omega), Option.bind_some, e5, w32_eq (x := M 0 3 + x) (by omega) (by omega), show w32 100000 = 100000 from rfl, if_neg (by omega), m_fails0 z4 upf_eq, Option.bind_some, if_pos (show w32 0 = 0 by decide)]
        dsimp only
        rw [f1, Option.bind_some, ht, m1, Option.bind_some]
      rw [eB, Option.bind_some]
      obtain ⟨i1, i2, i3, i4, i5⟩ := cyI_iv (ss := ss) iv r.1.2.2.2.2 t
      refine ⟨_, lck_ok (w_g227 w6) (by rw [upf_ne (by decide)]; exact upf_eq) (fun _ => ?_), _, S, _, e, nxt n, cup k, rr, tx, bs, sp, _, bf, _, dr, df, _, w6, WR_mut r ⟨i1, m2, m3, ?_, i2⟩⟩
      · rw [m4, f2, List.getElem?_set, if_neg (by decide), List.getElem?_set, if_pos rfl, if_pos (by have := w_len w2; omega)]
      · unfold clkOk; rw [i5]; omega
  · have eA : FX7_run h 0 x = some (2, 0, h) := by
      unfold FX7_run JX7_run_12
      rw [z0_O (w_e0 w), Option.bind_some, w32_eq hr.1 hr.2, show w32 1 = 1 from rfl, show w32 200 = 200 from rfl]
      by_cases a1 : x < 1
      · rw [if_pos a1]
      · rw [if_neg a1, if_pos (by omega)]
    rw [eA, Option.bind_some, if_neg (show ¬ (2 : Nat) = 0 by decide), if_pos rfl, Option.bind_some]
    dsimp only
    have w5 := ws_227 (x := upf u 0 1) w
    have eB : FX8_run h 227 x = some (0, h.set 227 (mdl (upf u 0 1))) := by
      unfold FX8_run JX8_run_22 JX8_run_64
      rw [z8_O z, Option.bind_some, z8_w0 z, Option.bind_some, m_in hr (by omega) (by omega), Option.bind_some, if_neg c, if_pos (show w32 0 = 0 by decide), m_fails1 z4 upf_eq (by omega), Option.bind_some, if_neg (show ¬ w32 1 = 0 by decide), List.set_set, upf_up]
    rw [eB, Option.bind_some]
    exact ⟨_, lck_ok (w_g227 w5) upf_eq (fun q => absurd q (by decide)), M, S, Mk, e, n, k, rr, tx, bs, sp, _, bf, d, dr, df, dh, w5, WR_u r⟩
end
