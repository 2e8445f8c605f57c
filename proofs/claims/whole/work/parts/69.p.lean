set_option linter.unusedVariables false
set_option linter.unusedSimpArgs false
/-! ===== copies ===== -/
section
variable {h : PH}
theorem dcell_congr {d d' : Int → Int} (e : ∀ i : Int, 0 ≤ i → i < 1824 → d' i = d i) : dcell d' = dcell d := by
  unfold dcell
  refine congrArg (fun l => (.inl (0, l) : PC)) ?_
  apply List.map_congr_left
  intro i hi
  have := List.mem_range.mp hi
  exact e i (by omega) (by omega)
theorem m_copy {a b : Nat} {d d' : Int → Int} (za : h[a]? = some (dcell d)) (zb : h[b]? = some (dcell d')) (hab : a ≠ b) : FX8_copy h a b = some (h.set b (dcell d)) := by
  have hl : b < h.length := by
    rcases Nat.lt_or_ge b h.length with q | q
    · exact q
    · rw [List.getElem?_eq_none q] at zb; cases zb
  have Za : ∀ x, (h.set b (dcell x))[a]? = some (dcell d) := fun x => by rw [List.getElem?_set, if_neg (Ne.symm hab)]; exact za
  have Zb : ∀ x, (h.set b (dcell x))[b]? = some (dcell x) := fun x => by simp [hl]
  unfold FX8_copy
  have L := lp_det (f := fun st : Int × PH => LX8_copy_2 a b st.1 st.2) (fun j => ((j : Int), h.set b (dcell (fun i => if i < (j : Int) then d i else d' i)))) (a := 0) (b := 1824) (r := h.set b (dcell (fun i => if i < ((1824 : Nat) : Int) then d i else d' i))) (by omega) (by omega) (fun j h1 h2 => ?_) ?_
  · rw [show dcell (fun i => if i < ((0 : Nat) : Int) then d i else d' i) = dcell d' from dcell_congr (fun i h1 h2 => by rw [if_neg (by omega)]), set_same zb] at L
    have L : lp (fun st : Int × PH => LX8_copy_2 a b st.1 st.2) FU (0, h) = _ := L
    rw [L, Option.bind_some, show dcell (fun i => if i < ((1824 : Nat) : Int) then d i else d' i) = dcell d from dcell_congr (fun i h1 h2 => by rw [if_pos (by omega)])]
  · unfold LX8_copy_2
    rw [w32_nat (by omega), show w32 1824 = 1824 from rfl, if_pos (by omega), zd_l (Za _) (by omega) (by omega), Option.bind_some, zd_s (Zb _) (by omega) (by omega), Option.bind_some, List.set_set]
    rw [show dcell (ud (fun i => if i < (j : Int) then d i else d' i) j (d j)) = dcell (fun i => if i < ((j + 1 : Nat) : Int) then d i else d' i) from dcell_congr (fun i h1 h2 => by
      unfold ud
      by_cases e : i = j
      · rw [if_pos e, if_pos (by omega), e]
      · rw [if_neg e]
        dsimp only
        by_cases c : i < (j : Int)
        · rw [if_pos c, if_pos (by omega)]
        · rw [if_neg c, if_neg (by omega)])]
    rfl
  · unfold LX8_copy_2
    rw [if_neg (show ¬ w32 ((1824 : Nat) : Int) < w32 1824 by decide)]
theorem FM_lt {M : MM} (z : FM h M) : (M 0 2).toNat < h.length ∧ 0 ≤ M 0 2 := by
  obtain ⟨z0, ss, -, z1, z2, -⟩ := z
  refine ⟨?_, z0⟩
  rcases Nat.lt_or_ge (M 0 2).toNat h.length with q | q
  · exact q
  · rw [List.getElem?_eq_none q] at z2; cases z2
theorem k_cpy {p q : Nat} {M N : MM} (t : At h p M) (t2 : At h q N) (ap : apart p q) (f : FM h N) (hb : ∀ c : Nat, c < 4 → N 18 c = 0 ∨ N 18 c = 1) : FX3_copyFrom h p q = some (putM h p (cpM M N)) := by
  obtain ⟨f1, f2⟩ := FM_lt f
  have := r_cpy (M := M) t.1 t2 ap hb f1 f2
  rw [At_put t] at this
  exact this
theorem cp_ne {M N : MM} {k : Nat} (hk : k ≠ 10) : cpM M N k = N k := by funext i; unfold cpM; rw [if_neg hk]
end
/-! ===== the cycle keeps what holds of a machine ===== -/
theorem sts_iv {ss : List Int} {M : MM} (ok : Ok M) (oq : OkQ M) (kr : OkR M) (os : OkS M) : ∀ {j : Nat}, (j : Int) ≤ M 11 0 → Ok (stsM ss M j) ∧ OkQ (stsM ss M j) ∧ OkR (stsM ss M j) ∧ OkS (stsM ss M j) ∧ (∀ x, kpt x → stsM ss M j x = M x) ∧ stsM ss M j 0 = M 0 := by
  intro j
  induction j with
  | zero => intro _; exact ⟨ok, oq, kr, os, fun _ _ => rfl, rfl⟩
  | succ j ih =>
    intro hj
    obtain ⟨o1, o2, o3, o4, o5, o6⟩ := ih (by omega)
    have h11 : (j : Int) < stsM ss M j 11 0 := by rw [o5 11 (by unfold kpt; omega)]; omega
    rw [show stsM ss M (j + 1) = if stsM ss M j 18 j = 0 ∧ stsM ss M j 14 j < 0 then staM ss (stsM ss M j) j else stsM ss M j from rfl]
    split
    · obtain ⟨u1, u2⟩ := staM_ok (ss := ss) o1 o2 h11
      obtain ⟨u3, u4⟩ := okS_sta (ss := ss) o1 o2 o3 o4 h11
      exact ⟨u1, u2, u4, u3, fun x hx => by rw [sta_kpt hx]; exact o5 x hx, by rw [staM_keep (by decide) (by decide) (by decide) (by decide) (by decide) (by decide) (by decide)]; exact o6⟩
    · exact ⟨o1, o2, o3, o4, o5, o6⟩
theorem iv_cyc {ss : List Int} {M : MM} (iv : IvM M) : IvM (cyc ss M) ∧ (∀ x, kpt x → cyc ss M x = M x) ∧ cyc ss M 0 2 = M 0 2 ∧ cyc ss M 0 3 = M 0 3 + 1 := by
  obtain ⟨okF, oqF, krF, osF, obF, ohF⟩ := iv_fin iv
  obtain ⟨ok, oq, kr, os, ob, oh⟩ := iv
  have hC := ok.2.1.1
  have fk : ∀ x, x ≠ 2 → x ≠ 8 → x ≠ 14 → x ≠ 15 → finM M (M 11 0).toNat x = M x := fun x z1 z2 z3 z4 => funext fun i => finM_keep z1 z2 (Or.inl ⟨z3, z4⟩)
  obtain ⟨okR1, oqR1⟩ := rdyM_ok (j := (M 1 0).toNat) okF oqF
  obtain ⟨⟨okQ, oqQ⟩, qk⟩ := qall_ok (k := 32) okR1 oqR1
  have osQ := okS_qall (k := 32) okR1 oqR1 (okS_rdy (j := (M 1 0).toNat) osF)
  have okQ : Ok (cycQ M) := okQ
  have oqQ : OkQ (cycQ M) := oqQ
  have osQ : OkS (cycQ M) := osQ
  have kQ : ∀ x, x ≠ 2 → x ≠ 8 → x ≠ 12 → x ≠ 13 → x ≠ 14 → x ≠ 15 → cycQ M x = M x := fun x z1 z2 z3 z4 z5 z6 => by
    unfold cycQ
    rw [qk x z1 z3 z4, rdy_ne z1, fk x z1 z2 z5 z6]
  have krQ : OkR (cycQ M) := by
    refine okR_congr ?_ ?_ krF
    · unfold cycQ; rw [qk 11 (by decide) (by decide) (by decide), rdy_ne (by decide)]
    · unfold cycQ; rw [qk 14 (by decide) (by decide) (by decide), rdy_ne (by decide)]
  have e11 : cycQ M 11 = M 11 := kQ 11 (by decide) (by decide) (by decide) (by decide) (by decide) (by decide)
  have e0 : cycQ M 0 = M 0 := kQ 0 (by decide) (by decide) (by decide) (by decide) (by decide) (by decide)
  obtain ⟨t4, t5, t6, t7, t8, t9⟩ := sts_iv (ss := ss) okQ oqQ krQ osQ (j := (M 11 0).toNat) (by rw [e11]; omega)
  have t4 : Ok (cycS ss M) := t4
  have t5 : OkQ (cycS ss M) := t5
  have t6 : OkR (cycS ss M) := t6
  have t7 : OkS (cycS ss M) := t7
  have t8 : ∀ x, kpt x → cycS ss M x = cycQ M x := t8
  have t9 : cycS ss M 0 = cycQ M 0 := t9
  have kC : ∀ x, kpt x → cyc ss M x = M x := fun x hx => by
    have hx' := hx
    unfold kpt at hx'
    unfold cyc
    rw [up_ne (by omega), bsyM_ne (by omega), t8 x hx]
    exact kQ x (by omega) (by omega) (by omega) (by omega) (by omega) (by omega)
  have cb : ∀ x, x ≠ 0 → x ≠ 16 → cyc ss M x = cycS ss M x := fun x z1 z2 => by
    unfold cyc; rw [up_ne z1, bsyM_ne z2]
  refine ⟨⟨?_, ?_, ?_, ?_, ?_, ?_⟩, kC, ?_, ?_⟩
  · unfold Ok OkT OkC OkP runOk at t4 ⊢
    rw [cb 1 (by decide) (by decide), cb 2 (by decide) (by decide), cb 9 (by decide) (by decide), cb 11 (by decide) (by decide), cb 13 (by decide) (by decide), cb 14 (by decide) (by decide), cb 15 (by decide) (by decide), cb 18 (by decide) (by decide), cb 3 (by decide) (by decide), cb 4 (by decide) (by decide), cb 5 (by decide) (by decide)]
    exact t4
  · unfold OkQ at t5 ⊢
    rw [cb 1 (by decide) (by decide), cb 12 (by decide) (by decide), cb 13 (by decide) (by decide)]
    exact t5
  · exact okR_congr (cb 11 (by decide) (by decide)) (cb 14 (by decide) (by decide)) t6
  · exact okS_congr (cb 2 (by decide) (by decide)) (cb 11 (by decide) (by decide)) (cb 12 (by decide) (by decide)) (cb 13 (by decide) (by decide)) (cb 14 (by decide) (by decide)) t7
  · exact okB_congr (kC 1 (by unfold kpt; omega)) (kC 6 (by unfold kpt; omega)) ob
  · exact okH_congr (kC 1 (by unfold kpt; omega)) (kC 5 (by unfold kpt; omega)) (kC 11 (by unfold kpt; omega)) oh
  · unfold cyc; rw [up_ni (by decide), bsyM_ne (by decide), t9, e0]
  · unfold cyc; rw [up_eq]
section
variable {h : PH} {p sk : Nat} {M : MM} {ss : List Int} {K : Nat → Int}
theorem r_cuf2 (hp : p + 19 ≤ h.length) (iv : IvM M) (hz : FZ h p (M 0 2).toNat ss sk) {lim : Nat} (hl : lim ≤ 500) : ∃ K' M', FX3_cyclesUntilFinished (putM (h.set sk (skc K)) p M) p lim = some (cuf ss lim 0 M, putM (h.set sk (skc K')) p M') ∧ IvM M' ∧ M' 0 2 = M 0 2 ∧ M' 19 = M 19 := by
  have hp0 : p + 19 ≤ h.length := hp
  unfold FX3_cyclesUntilFinished
  have hp1 : p + 19 ≤ (h.set sk (skc K)).length := by simpa using hp0
  rw [pm_isO0 hp1, Option.bind_some]
  have := lp_for (f := fun st : Int × PH => LX3_cyclesUntilFinished_2 p lim st.1 st.2) (fun j st => (j = lim + 1 ∧ ∃ K N, st = ((j : Int), putM (h.set sk (skc K)) p N) ∧ IvM N ∧ N 0 2 = M 0 2 ∧ N 19 = M 19 ∧ cuf ss lim 0 M = -1) ∨ (j ≤ lim ∧ ∃ K N, st = ((j : Int), putM (h.set sk (skc K)) p N) ∧ IvM N ∧ N 0 2 = M 0 2 ∧ N 19 = M 19 ∧ cuf ss (lim - j) j N = cuf ss lim 0 M)) (fun r => ∃ K N, Sum.elim (fun q => q) (fun q => (-1, q)) r = (cuf ss lim 0 M, putM (h.set sk (skc K)) p N) ∧ IvM N ∧ N 0 2 = M 0 2 ∧ N 19 = M 19) (a := 0) (b := lim + 1) (s := (0, putM (h.set sk (skc K)) p M)) (by omega) (by omega) (Or.inr ⟨by omega, K, M, rfl, iv, rfl, rfl, rfl⟩) (fun j st h1 h2 hI => ?_) (fun st hI => ?_)
  · obtain ⟨r, e1, K', N, e2, e3, e4, e5⟩ := this
    refine ⟨K', N, ?_, e3, e4, e5⟩
    rw [e1, Option.bind_some]
    rcases r with r | r
    · exact congrArg some e2
    · exact congrArg some e2
  · rcases hI with ⟨hj, -⟩ | ⟨hj, K1, N, rfl, ivN, n02, n19, hc⟩
    · omega
    have hp : p + 19 ≤ (h.set sk (skc K1)).length := by simpa using hp0
    obtain ⟨x, e1, e2⟩ := r_unf (h := h.set sk (skc K1)) (p := p) (M := N) hp ivN.1.1
    have e3 := isU_zero ivN.1.1 e2
    dsimp only
    unfold LX3_cyclesUntilFinished_2
    rw [w32_nat (by omega), w32_nat (by omega), if_neg (by omega), pm_gfr0_0 hp, Option.bind_some, e1, Option.bind_some]
    by_cases a : w32 x = 0
    · rw [if_pos a]
      refine Or.inl ⟨_, rfl, K1, N, ?_, ivN, n02, n19⟩
      have : cuf ss (lim - j) j N = j := by
        cases hk : lim - j with
        | zero => unfold cuf; rw [if_pos (e3.mp a)]
        | succ k => unfold cuf; rw [if_pos (e3.mp a)]
      rw [← hc, this]; rfl
    · rw [if_neg a]
      obtain ⟨⟨K2, c1⟩, -⟩ := r_cycle (K := K1) hp0 ivN.1 ivN.2.1 (by rw [n02]; exact hz)
      obtain ⟨c2, c3, c4, -⟩ := iv_cyc (ss := ss) ivN
      rw [c1, Option.bind_some]
      refine Or.inr ⟨_, rfl, ?_⟩
      have hz : ¬ cnt (unf N) (N 1 0).toNat = 0 := fun q => a (e3.mpr q)
      have c5 := (c3 19 (by unfold kpt; omega)).trans n19
      by_cases hlast : j = lim
      · left
        refine ⟨by omega, K2, _, rfl, c2, by rw [c4]; exact n02, c5, ?_⟩
        rw [← hc, show lim - j = 0 by omega]
        unfold cuf
        rw [if_neg hz]
      · right
        refine ⟨by omega, K2, _, rfl, c2, by rw [c4]; exact n02, c5, ?_⟩
        rw [← hc, show lim - j = (lim - (j + 1)) + 1 by omega]
        rw [show cuf ss (lim - (j + 1) + 1) j N = if cnt (unf N) (N 1 0).toNat = 0 then (j : Int) else cuf ss (lim - (j + 1)) (j + 1) (cyc ss N) from rfl, if_neg hz]
  · rcases hI with ⟨hj, K1, N, rfl, ivN, n02, n19, hc⟩ | ⟨hj, -⟩
    · dsimp only
      unfold LX3_cyclesUntilFinished_2
      rw [w32_nat (by omega), w32_nat (by omega), if_pos (by omega)]
      exact ⟨_, rfl, K1, N, by rw [hc]; rfl, ivN, n02, n19⟩
    · omega
end
/-! ===== formulas of the world ===== -/
theorem codM_d1 {M : MM} {ss : List Int} (c : CodM M ss) : 1 ≤ dF ss ∧ ssOk ss := by
  rcases c with ⟨-, rfl⟩ | ⟨-, -, -, c3, c4⟩
  · refine ⟨by decide, ?_⟩
    unfold ssOk
    simp
  · exact ⟨by unfold dF; rw [dok_top c3]; exact Nat.le_refl _, c4⟩
theorem FZ_of {h : PH} {p fo : Nat} {ss : List Int} {M : MM} (hp : mpl p) (c : CodM M ss) (z : FZ2 h fo ss) : FZ h p fo ss (fo + 2) := by
  obtain ⟨z1, z2, z3, K, z4⟩ := z
  obtain ⟨c1, c2⟩ := codM_d1 c
  have hl : fo + 2 < h.length := by
    rcases Nat.lt_or_ge (fo + 2) h.length with q | q
    · exact q
    · rw [List.getElem?_eq_none q] at z4; cases z4
  unfold fpl at z1
  unfold mpl at hp
  exact ⟨fo + 1, z2, z3, hl, ⟨by unfold outM; omega, by unfold outM; omega, by unfold outM; omega⟩, by omega, by omega, c2, c1⟩
section
variable {h : PH} {M S : MM} {Mk : Nat → MM} {e nx ct : Int} {rr tx bs sp u bf : Nat → Int} {d dr df : Int → Int} {dh : Nat → Int → Int}
/-- the spare machine's cycles until all is finished -/
theorem k_cuf (w : WS h M S Mk e nx ct rr tx bs sp u bf d dr df dh) (iv : IvM S) {lim : Nat} (hl : lim ≤ 500) : ∃ ss h' S', CodM S ss ∧ FX3_cyclesUntilFinished h 27 lim = some (cuf ss lim 0 S, h') ∧ IvM S' ∧ WS h' M S' Mk e nx ct rr tx bs sp u bf d dr df dh := by
  obtain ⟨z0, ss, zc, zz⟩ := w_f27 w
  have zz' := zz
  obtain ⟨z1, z2, z3, K, z4⟩ := zz'
  have hz := FZ_of (p := 27) (by unfold mpl; omega) zc zz
  obtain ⟨K', S', e1, e2, e3, e4⟩ := r_cuf2 (K := K) (w_a27 w).1 iv hz hl
  rw [set_same z4, At_put (w_a27 w)] at e1
  refine ⟨ss, _, S', zc, e1, e2, ?_⟩
  have w1 := ws_skc (K := K') zz w
  exact ws_S (N := S') w1 (FM_congr (by rw [e3]) e4 (FM_skc zz (w_f27 w)))
end
