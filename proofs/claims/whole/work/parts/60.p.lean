set_option linter.unusedVariables false
set_option linter.unusedSimpArgs false
/-! ===== the reference: a cycle ===== -/
/-- the rows that a cycle leaves alone -/
def kpt (a : Nat) : Prop := a = 1 ∨ a = 3 ∨ a = 4 ∨ a = 5 ∨ a = 6 ∨ a = 9 ∨ a = 10 ∨ a = 11 ∨ a = 18 ∨ a = 19
theorem sta_kpt {ss : List Int} {M : MM} {c a : Nat} (h : kpt a) : staM ss M c a = M a := by
  unfold kpt at h
  exact staM_keep (by omega) (by omega) (by omega) (by omega) (by omega) (by omega) (by omega)
section
variable {h : PH} {a b mp : Nat} {d : Int → Int} {M : MM} {ss : List Int} {K : Nat → Int}
theorem m_starts {z : Int} {fs : List PV} (ha : a < h.length) (hb : b < h.length) (hab : a ≠ b) (hm : h[mp]? = some (.inr (8, fs))) (hf : fs[16]? = some (rf b)) (h1 : mp ≠ a) (h2 : mp ≠ b) (ok : Ok M) (oq : OkQ M) (kr : OkR M) (os : OkS M) (r : Rel M d) (cr : CodM M ss) :
    ∃ d' K', lp (fun st : Int × PH => LX8_cycle_11 mp a z st.1 st.2) FU (0, mh h a b d K) = some (mh h a b d' K') ∧ Rel (stsM ss M (M 11 0).toNat) d' ∧ (RelX M d → RelX (stsM ss M (M 11 0).toNat) d') ∧ Ok (stsM ss M (M 11 0).toNat) ∧ OkQ (stsM ss M (M 11 0).toNat) ∧ OkR (stsM ss M (M 11 0).toNat) ∧ OkS (stsM ss M (M 11 0).toNat) ∧ ∀ x, kpt x → stsM ss M (M 11 0).toNat x = M x := by
  have hC := ok.2.1.1
  obtain ⟨n, hn⟩ := Int.eq_ofNat_of_zero_le hC.1
  have := lp_for (f := fun st : Int × PH => LX8_cycle_11 mp a z st.1 st.2) (fun j st => ∃ d' K', st = ((j : Int), mh h a b d' K') ∧ Rel (stsM ss M j) d' ∧ (RelX M d → RelX (stsM ss M j) d') ∧ Ok (stsM ss M j) ∧ OkQ (stsM ss M j) ∧ OkR (stsM ss M j) ∧ OkS (stsM ss M j) ∧ ∀ x, kpt x → stsM ss M j x = M x) (fun q => ∃ d' K', q = mh h a b d' K' ∧ Rel (stsM ss M n) d' ∧ (RelX M d → RelX (stsM ss M n) d') ∧ Ok (stsM ss M n) ∧ OkQ (stsM ss M n) ∧ OkR (stsM ss M n) ∧ OkS (stsM ss M n) ∧ ∀ x, kpt x → stsM ss M n x = M x) (a := 0) (b := n) (s := (0, mh h a b d K)) (by omega) (by omega) ⟨d, K, rfl, r, id, ok, oq, kr, os, fun _ _ => rfl⟩ (fun j st z1 z2 hI => ?_) (fun st hI => ?_)
  · obtain ⟨q, e1, d', K', rfl, e2⟩ := this
    rw [hn, Int.toNat_natCast]
    exact ⟨d', K', e1, e2⟩
  · obtain ⟨d1, K1, rfl, r1, rx, ok1, oq1, kr1, os1, kp⟩ := hI
    have ha1 : a < (h.set b (lcell K1)).length := by simpa using ha
    have e11 : stsM ss M j 11 0 = n := by rw [kp 11 (by unfold kpt; omega)]; exact hn
    have hj : ((j : Nat) : Int) < stsM ss M j 11 0 := by omega
    obtain ⟨s0, -, -, s3, -⟩ := r1.2.2.2 j hj
    have k0 := r1.1.1
    have r14 := ok1.2.1.2.2.2.2.1 j hj
    have r18 := ok1.2.1.2.2.2.2.2 j (by omega)
    have hT := ok1.1.1
    unfold runOk at r14
    refine Or.inr ?_
    dsimp only
    rw [show stsM ss M (j + 1) = if stsM ss M j 18 j = 0 ∧ stsM ss M j 14 j < 0 then staM ss (stsM ss M j) j else stsM ss M j from rfl]
    unfold LX8_cycle_11 JX8_cycle_47 FX8_core
    rw [show mh h a b d1 K1 = sd (h.set b (lcell K1)) a d1 from rfl]
    simp (disch := omega) only [md_ald ha1, Option.bind_some, k0, e11, s0, s3, w32_eq]
    rw [if_pos (by omega)]
    by_cases c1 : stsM ss M j 18 j = 0
    · rw [if_pos c1]
      by_cases c2 : stsM ss M j 14 j < 0
      · rw [if_pos (by omega), if_pos ⟨c1, c2⟩]
        obtain ⟨d2, K2, g1, g2, g3⟩ := m_take (K := K1) ha hb hab hm hf h1 h2 ok1 oq1 os1 r1 (codM_congr (kp 19 (by unfold kpt; omega)) cr) hj c2
        obtain ⟨u1, u2⟩ := staM_ok (ss := ss) ok1 oq1 hj
        obtain ⟨u3, u4⟩ := okS_sta (ss := ss) ok1 oq1 kr1 os1 hj
        rw [show sd (h.set b (lcell K1)) a d1 = mh h a b d1 K1 from rfl, g1, Option.bind_some]
        exact ⟨_, rfl, d2, K2, rfl, g2, fun q => g3 (rx q), u1, u2, u4, u3, fun x hx => by rw [sta_kpt hx]; exact kp x hx⟩
      · rw [if_neg (by omega), if_neg (fun q => c2 q.2)]
        exact ⟨_, rfl, d1, K1, rfl, r1, rx, ok1, oq1, kr1, os1, kp⟩
    · rw [if_neg c1, if_neg (fun q => c1 q.1)]
      exact ⟨_, rfl, d1, K1, rfl, r1, rx, ok1, oq1, kr1, os1, kp⟩
  · obtain ⟨d1, K1, rfl, r1, rx, ok1, oq1, kr1, os1, kp⟩ := hI
    have ha1 : a < (h.set b (lcell K1)).length := by simpa using ha
    have e11 : stsM ss M n 11 0 = n := by rw [kp 11 (by unfold kpt; omega)]; exact hn
    have k0 := r1.1.1
    dsimp only
    unfold LX8_cycle_11
    rw [show mh h a b d1 K1 = sd (h.set b (lcell K1)) a d1 from rfl]
    simp (disch := omega) only [md_ald ha1, Option.bind_some, k0, e11, w32_eq]
    rw [if_neg (by omega)]
    exact ⟨_, rfl, d1, K1, rfl, r1, rx, ok1, oq1, kr1, os1, kp⟩
theorem rel_clk {M : MM} {d : Int → Int} {x : Int} (s : Sd M) (h0 : 0 ≤ M 1 1) (r : Rel M d) : Rel (up M 0 3 x) (ud d 5 x) := by
  obtain ⟨s1, s2, s3, s4, s5⟩ := s
  obtain ⟨⟨r0, r1, r2, r3, r4, r5⟩, rf, rt, rc⟩ := r
  have ek : ∀ k, k ≠ 0 → up M 0 3 x k = M k := fun k hk => up_ne hk
  refine ⟨⟨?_, ?_, ?_, ?_, ?_, ?_⟩, fun f hf => ?_, fun t ht => ?_, fun q hq => ?_⟩
  · rw [ud_ne (by omega), ek 11 (by decide)]; exact r0
  · rw [ud_ne (by omega), ek 11 (by decide)]; exact r1
  · rw [ud_ne (by omega), ek 11 (by decide)]; exact r2
  · rw [ud_ne (by omega), ek 1 (by decide)]; exact r3
  · rw [ud_ne (by omega), ek 1 (by decide)]; exact r4
  · refine ⟨?_, fun i hi => ?_⟩
    · rw [ud_eq, up_eq]
    · rw [ud_ne (by omega), ek 19 (by decide)]; exact r5.2 i hi
  · rw [ek 1 (by decide)] at hf
    rw [ud_ne (by omega), ek 9 (by decide)]; exact rf f hf
  · rw [ek 1 (by decide)] at ht
    rw [ek 3 (by decide), ek 4 (by decide), ek 5 (by decide), ek 6 (by decide), ek 2 (by decide), ud_ne (by omega), ud_ne (by omega), ud_ne (by omega), ud_ne (by omega), ud_ne (by omega)]
    exact rt t ht
  · rw [ek 11 (by decide)] at hq
    obtain ⟨a0, a1, a2, a3, a4, a5, a6⟩ := rc q hq
    rw [ek 14 (by decide), ek 16 (by decide), ek 17 (by decide), ek 18 (by decide), ek 13 (by decide), ek 12 (by decide), ek 15 (by decide), ud_ne (by omega), ud_ne (by omega), ud_ne (by omega), ud_ne (by omega), ud_ne (by omega)]
    refine ⟨a0, a1, a2, a3, a4, fun k hk => ?_, fun hr => ?_⟩
    · rw [ud_ne (by omega)]; exact a5 k hk
    · have := s5 q hq hr
      rw [ud_ne (by omega)]; exact a6 hr
theorem iv_fin (iv : IvM M) : IvM (finM M (M 11 0).toNat) := by
  obtain ⟨ok, oq, kr, os, ob, oh⟩ := iv
  have hC := ok.2.1.1
  obtain ⟨o1, o2⟩ := finM_ok (j := (M 11 0).toNat) ok oq (by omega)
  obtain ⟨o3, o4⟩ := okS_finM ok oq kr os (j := (M 11 0).toNat) (by omega)
  have fk : ∀ x, x ≠ 2 → x ≠ 8 → x ≠ 14 → x ≠ 15 → finM M (M 11 0).toNat x = M x := fun x z1 z2 z3 z4 => funext fun i => finM_keep z1 z2 (Or.inl ⟨z3, z4⟩)
  exact ⟨o1, o2, o4, o3, okB_congr (fk 1 (by decide) (by decide) (by decide) (by decide)) (fk 6 (by decide) (by decide) (by decide) (by decide)) ob, okH_congr (fk 1 (by decide) (by decide) (by decide) (by decide)) (fk 5 (by decide) (by decide) (by decide) (by decide)) (fk 11 (by decide) (by decide) (by decide) (by decide)) oh⟩
theorem m_cycle {fs : List PV} (ha : a < h.length) (hb : b < h.length) (hab : a ≠ b) (hm : h[mp]? = some (.inr (8, fs))) (hf : fs[16]? = some (rf b)) (h1 : mp ≠ a) (h2 : mp ≠ b) (iv : IvM M) (r : Rel M d) (cr : CodM M ss) :
    ∃ d' K', FX8_cycle (mh h a b d K) mp a = some (finN M (M 11 0).toNat, mh h a b d' K') ∧ Rel (cyc ss M) d' ∧ (RelX M d → RelX (cyc ss M) d') ∧ IvM (cyc ss M) ∧ ∀ x, kpt x → cyc ss M x = M x := by
  obtain ⟨ok, oq, kr, os, ob, oh⟩ := iv
  have hC := ok.2.1.1
  have ha1 : a < (h.set b (lcell K)).length := by simpa using ha
  obtain ⟨d1, g1, g2, g3, g4⟩ := m_goOn ha1 ok oq kr r
  obtain ⟨okF, oqF, krF, osF, obF, ohF⟩ := iv_fin ⟨ok, oq, kr, os, ob, oh⟩
  obtain ⟨d2, q1, q2, q3⟩ := m_queue ha1 okF oqF ohF obF g2
  have fk : ∀ x, x ≠ 2 → x ≠ 8 → x ≠ 14 → x ≠ 15 → finM M (M 11 0).toNat x = M x := fun x z1 z2 z3 z4 => funext fun i => finM_keep z1 z2 (Or.inl ⟨z3, z4⟩)
  rw [fk 1 (by decide) (by decide) (by decide) (by decide)] at q2 q3
  have q2 : Rel (cycQ M) d2 := q2
  have q3 : RelX (finM M (M 11 0).toNat) d1 → RelX (cycQ M) d2 := q3
  obtain ⟨okR1, oqR1⟩ := rdyM_ok (j := (M 1 0).toNat) okF oqF
  obtain ⟨⟨okQ, oqQ⟩, qk⟩ := qall_ok (k := 32) okR1 oqR1
  have osQ := okS_qall (k := 32) okR1 oqR1 (okS_rdy (j := (M 1 0).toNat) osF)
  have okQ : Ok (cycQ M) := okQ
  have oqQ : OkQ (cycQ M) := oqQ
  have osQ : OkS (cycQ M) := osQ
  have kQ : ∀ x, x ≠ 2 → x ≠ 8 → x ≠ 12 → x ≠ 13 → x ≠ 14 → x ≠ 15 → cycQ M x = M x := fun x z1 z2 z3 z4 z5 z6 => by
    unfold cycQ
    rw [qk x z1 z3 z4, rdy_ne z1, fk x z1 z2 z5 z6]
  have krQ : OkR (cycQ M) := by
    refine okR_congr ?_ ?_ krF
    · unfold cycQ; rw [qk 11 (by decide) (by decide) (by decide), rdy_ne (by decide)]
    · unfold cycQ; rw [qk 14 (by decide) (by decide) (by decide), rdy_ne (by decide)]
  have e11 : cycQ M 11 = M 11 := kQ 11 (by decide) (by decide) (by decide) (by decide) (by decide) (by decide)
  have e0 : cycQ M 0 = M 0 := kQ 0 (by decide) (by decide) (by decide) (by decide) (by decide) (by decide)
  obtain ⟨d3, K3, t1, t2, t3, t4, t5, t6, t7, t8⟩ := m_starts (K := K) (z := finN M (M 11 0).toNat) ha hb hab hm hf h1 h2 okQ oqQ krQ osQ q2 (codM_congr (kQ 19 (by decide) (by decide) (by decide) (by decide) (by decide) (by decide)) cr)
  rw [e11] at t2 t3 t4 t5 t6 t7 t8
  have t2 : Rel (cycS ss M) d3 := t2
  have t3 : RelX (cycQ M) d2 → RelX (cycS ss M) d3 := t3
  have t4 : Ok (cycS ss M) := t4
  have t5 : OkQ (cycS ss M) := t5
  have t6 : OkR (cycS ss M) := t6
  have t7 : OkS (cycS ss M) := t7
  have t8 : ∀ x, kpt x → cycS ss M x = cycQ M x := t8
  have ha3 : a < (h.set b (lcell K3)).length := by simpa using ha
  obtain ⟨d4, b1, b2, b3, b4⟩ := m_busy (z := finN M (M 11 0).toNat) ha3 t4 t2
  have c11 : cycS ss M 11 = M 11 := (t8 11 (by unfold kpt; omega)).trans e11
  have c0 : cycS ss M 0 = M 0 := by
    have : ∀ j, stsM ss (cycQ M) j 0 = cycQ M 0 := by
      intro j
      induction j with
      | zero => rfl
      | succ j ih =>
        unfold stsM
        split
        · rw [staM_keep (by decide) (by decide) (by decide) (by decide) (by decide) (by decide) (by decide)]; exact ih
        · exact ih
    unfold cycS
    rw [this, e0]
  rw [c11] at b2 b3
  have i0 : isO (mh h a b d K) 8 mp = some () := by
    unfold isO mh
    rw [sd_out h1, List.getElem?_set, if_neg (Ne.symm h2), hm]; rfl
  have kC : ∀ x, kpt x → cyc ss M x = M x := fun x hx => by
    have hx' := hx
    unfold kpt at hx'
    unfold cyc
    rw [up_ne (by omega), bsyM_ne (by omega), t8 x hx]
    exact kQ x (by omega) (by omega) (by omega) (by omega) (by omega) (by omega)
  have cb : ∀ x, x ≠ 0 → x ≠ 16 → cyc ss M x = cycS ss M x := fun x z1 z2 => by
    unfold cyc; rw [up_ne z1, bsyM_ne z2]
  have sdB := Sd_bsy (j := (M 11 0).toNat) (Sd_of t4)
  refine ⟨ud d4 5 (M 0 3 + 1), K3, ?_, ?_, fun rx => ?_, ⟨?_, ?_, ?_, ?_, ?_, ?_⟩, kC⟩
  · unfold FX8_cycle
    rw [i0, Option.bind_some, show mh h a b d K = sd (h.set b (lcell K)) a d from rfl, g1, Option.bind_some]
    dsimp only
    rw [q1, Option.bind_some, show sd (h.set b (lcell K)) a d2 = mh h a b d2 K from rfl, t1, Option.bind_some, show mh h a b d3 K3 = sd (h.set b (lcell K3)) a d3 from rfl, b1, Option.bind_some, md_ald ha3 (by omega) (by omega), Option.bind_some, md_ast ha3 (by omega) (by omega), Option.bind_some]
    rw [b2.1.2.2.2.2.2.1, bsyM_ne (by decide), c0]
    rfl
  · unfold cyc
    exact rel_clk sdB (by rw [bsyM_ne (by decide)]; exact t4.1.2.1.1) b2
  · intro t ht
    have := b3 (t3 (q3 (g4 rx)))
    unfold cyc at ht ⊢
    rw [up_ne (by decide)] at ht
    rw [up_ne (by decide), up_ne (by decide), ud_ne (by omega), ud_ne (by omega)]
    exact this t ht
  · unfold Ok OkT OkC OkP runOk at t4 ⊢
    rw [cb 1 (by decide) (by decide), cb 2 (by decide) (by decide), cb 9 (by decide) (by decide), cb 11 (by decide) (by decide), cb 13 (by decide) (by decide), cb 14 (by decide) (by decide), cb 15 (by decide) (by decide), cb 18 (by decide) (by decide), cb 3 (by decide) (by decide), cb 4 (by decide) (by decide), cb 5 (by decide) (by decide)]
    exact t4
  · unfold OkQ at t5 ⊢
    rw [cb 1 (by decide) (by decide), cb 12 (by decide) (by decide), cb 13 (by decide) (by decide)]
    exact t5
  · exact okR_congr (cb 11 (by decide) (by decide)) (cb 14 (by decide) (by decide)) t6
  · exact okS_congr (cb 2 (by decide) (by decide)) (cb 11 (by decide) (by decide)) (cb 12 (by decide) (by decide)) (cb 13 (by decide) (by decide)) (cb 14 (by decide) (by decide)) t7
  · exact okB_congr (kC 1 (by unfold kpt; omega)) (kC 6 (by unfold kpt; omega)) ob
  · exact okH_congr (kC 1 (by unfold kpt; omega)) (kC 5 (by unfold kpt; omega)) (kC 11 (by unfold kpt; omega)) oh
theorem mh_gf {fs : List PV} {k v : Nat} (hm : h[mp]? = some (.inr (8, fs))) (hf : fs[k]? = some (rf v)) (h1 : mp ≠ a) (h2 : mp ≠ b) : gfr (mh h a b d K) 8 mp k = some v := by
  unfold mh gfr
  rw [sd_out h1, List.getElem?_set, if_neg (Ne.symm h2), hm]
  simp [hf, rf]
theorem m_cuf {fs : List PV} (ha : a < h.length) (hb : b < h.length) (hab : a ≠ b) (hm : h[mp]? = some (.inr (8, fs))) (hf : fs[16]? = some (rf b)) (hf2 : fs[10]? = some (rf a)) (h1 : mp ≠ a) (h2 : mp ≠ b) (iv : IvM M) (r : Rel M d) (cr : CodM M ss) {lim : Nat} (hl : lim ≤ 500) :
    ∃ d' K', FX8_finishFuture (mh h a b d K) mp lim = some (cuf ss lim 0 M, mh h a b d' K') := by
  have i0 : isO (mh h a b d K) 8 mp = some () := by
    unfold isO mh
    rw [sd_out h1, List.getElem?_set, if_neg (Ne.symm h2), hm]; rfl
  unfold FX8_finishFuture
  rw [i0, Option.bind_some]
  have := lp_for (f := fun st : Int × PH => LX8_finishFuture_2 mp lim st.1 st.2) (fun j st => (j = lim + 1 ∧ ∃ d' K', st = ((j : Int), mh h a b d' K') ∧ cuf ss lim 0 M = -1) ∨ (j ≤ lim ∧ ∃ d' K' N, st = ((j : Int), mh h a b d' K') ∧ Rel N d' ∧ CodM N ss ∧ IvM N ∧ cuf ss (lim - j) j N = cuf ss lim 0 M)) (fun q => ∃ d' K', Sum.elim (fun q => q) (fun q => (-1, q)) q = (cuf ss lim 0 M, mh h a b d' K')) (a := 0) (b := lim + 1) (s := (0, mh h a b d K)) (by omega) (by omega) (Or.inr ⟨by omega, d, K, M, rfl, r, cr, iv, rfl⟩) (fun j st z1 z2 hI => ?_) (fun st hI => ?_)
  · obtain ⟨q, e1, d', K', e2⟩ := this
    refine ⟨d', K', ?_⟩
    rw [e1, Option.bind_some]
    rcases q with q | q
    · exact congrArg some e2
    · exact congrArg some e2
  · rcases hI with ⟨hj, -⟩ | ⟨hj, d1, K1, N, rfl, r1, cr1, iv1, hc⟩
    · omega
    have ha1 : a < (h.set b (lcell K1)).length := by simpa using ha
    have hT := iv1.1.1.1
    have e3 := m_fin ha1 iv1.1.1 r1
    dsimp only
    unfold LX8_finishFuture_2
    rw [w32_nat (by omega), w32_nat (by omega), if_neg (by omega), mh_gf hm hf2 h1 h2, Option.bind_some]
    rw [show mh h a b d1 K1 = sd (h.set b (lcell K1)) a d1 from rfl, e3, Option.bind_some, show sd (h.set b (lcell K1)) a d1 = mh h a b d1 K1 from rfl, Option.bind_some]
    rw [show mh h a b d1 K1 = sd (h.set b (lcell K1)) a d1 from rfl, md_ald ha1 (by omega) (by omega), Option.bind_some, r1.1.2.2.2.1, show sd (h.set b (lcell K1)) a d1 = mh h a b d1 K1 from rfl]
    have hle := cnt_le (f := unf N) (N 1 0).toNat
    rw [w32_eq (by omega) (by omega), w32_eq (by omega) (by omega)]
    by_cases c : cnt (unf N) (N 1 0).toNat = 0
    · rw [if_pos (by omega)]
      refine Or.inl ⟨_, rfl, d1, K1, ?_⟩
      have : cuf ss (lim - j) j N = j := by
        cases hk : lim - j with
        | zero => unfold cuf; rw [if_pos c]
        | succ k => unfold cuf; rw [if_pos c]
      rw [← hc, this]; rfl
    · rw [if_neg (by omega), Option.bind_some]
      obtain ⟨d2, K2, g1, g2, g3, g4, g5⟩ := m_cycle (K := K1) ha hb hab hm hf h1 h2 iv1 r1 cr1
      rw [g1, Option.bind_some]
      refine Or.inr ⟨_, rfl, ?_⟩
      by_cases hlast : j = lim
      · left
        refine ⟨by omega, d2, K2, rfl, ?_⟩
        rw [← hc, show lim - j = 0 by omega]
        unfold cuf
        rw [if_neg c]
      · right
        refine ⟨by omega, d2, K2, _, rfl, g2, codM_congr (g5 19 (by unfold kpt; omega)) cr1, g4, ?_⟩
        rw [← hc, show lim - j = (lim - (j + 1)) + 1 by omega]
        rw [show cuf ss (lim - (j + 1) + 1) j N = if cnt (unf N) (N 1 0).toNat = 0 then (j : Int) else cuf ss (lim - (j + 1)) (j + 1) (cyc ss N) from rfl, if_neg c]
  · rcases hI with ⟨hj, d1, K1, rfl, hc⟩ | ⟨hj, -⟩
    · dsimp only
      unfold LX8_finishFuture_2
      rw [w32_nat (by omega), w32_nat (by omega), if_pos (by omega)]
      exact ⟨_, rfl, d1, K1, by rw [hc]; rfl⟩
    · omega
end
