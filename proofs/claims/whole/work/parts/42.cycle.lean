set_option linter.unusedVariables false
set_option linter.unusedSimpArgs false
/-! ===== the whole cycle ===== -/
theorem fin1_ok {M : MM} {c : Nat} (ok : Ok M) (oq : OkQ M) (hc : c < 4) : Ok (fin1 M c) ∧ OkQ (fin1 M c) := by
  obtain ⟨⟨t1, t2, t3, t4⟩, ⟨c1, c2, c3, c4, c5, c6⟩, okP⟩ := ok
  have kp : ∀ a i, a ≠ 2 → a ≠ 8 → a ≠ 14 → a ≠ 15 → fin1 M c a i = M a i := fun a i h2 h8 h14 h15 => fin1_keep h2 h8 (Or.inl ⟨h14, h15⟩)
  have k2 : ∀ t, fin1 M c 2 t = 4 ∨ fin1 M c 2 t = M 2 t := by
    intro t
    unfold fin1
    split
    · exact Or.inr rfl
    · split
      · rw [up_ne (by decide), up_ne (by decide)]
        by_cases e : t = (M 14 c).toNat
        · rw [e]; exact Or.inl up_eq
        · rw [up_ni e, up_ne (by decide)]; exact Or.inr rfl
      · rw [up_ne (by decide)]; exact Or.inr rfl
  refine ⟨⟨⟨?_, ?_, fun t ht => ?_, fun f hf => ?_⟩, ⟨?_, ?_, ?_, fun q hq => ?_, fun q hq => ?_, fun q hq => ?_⟩, fun t ht => ?_⟩, fun q hq k hk => ?_⟩
  · rw [kp _ _ (by decide) (by decide) (by decide) (by decide)]; exact t1
  · rw [kp _ _ (by decide) (by decide) (by decide) (by decide)]; exact t2
  · have := t3 t ht
    rcases k2 t with e | e <;> rw [e] <;> omega
  · rw [kp 1 1 (by decide) (by decide) (by decide) (by decide), kp 9 f (by decide) (by decide) (by decide) (by decide), kp 1 0 (by decide) (by decide) (by decide) (by decide)]; exact t4 f hf
  · rw [kp _ _ (by decide) (by decide) (by decide) (by decide)]; exact c1
  · rw [kp _ _ (by decide) (by decide) (by decide) (by decide)]; exact c2
  · rw [kp _ _ (by decide) (by decide) (by decide) (by decide)]; exact c3
  · rw [kp _ _ (by decide) (by decide) (by decide) (by decide)]; exact c4 q hq
  · rw [kp 11 0 (by decide) (by decide) (by decide) (by decide)] at hq
    have h := c5 q hq
    have k10 := kp 1 0 (by decide) (by decide) (by decide) (by decide)
    by_cases e : q = c
    · subst e
      unfold runOk at h ⊢
      rw [k10]
      unfold fin1
      split
      · exact h
      · split
        · left
          rw [up_eq, up_ne (show 15 ≠ 14 by decide), up_ne (show 15 ≠ 8 by decide), up_ne (show 15 ≠ 2 by decide), up_eq]
          omega
        · right
          rw [up_ne (show 14 ≠ 15 by decide), up_eq]
          omega
    · unfold runOk at h ⊢
      rw [k10, fin1_keep (by decide) (by decide) (Or.inr e), fin1_keep (by decide) (by decide) (Or.inr e)]
      exact h
  · rw [kp _ _ (by decide) (by decide) (by decide) (by decide)]; exact c6 q hq
  · rw [kp 1 0 (by decide) (by decide) (by decide) (by decide)] at ht
    rw [kp _ _ (by decide) (by decide) (by decide) (by decide), kp _ _ (by decide) (by decide) (by decide) (by decide), kp _ _ (by decide) (by decide) (by decide) (by decide)]; exact okP t ht
  · rw [kp _ _ (by decide) (by decide) (by decide) (by decide)] at hk
    rw [kp 12 _ (by decide) (by decide) (by decide) (by decide), kp 1 0 (by decide) (by decide) (by decide) (by decide)]; exact oq q hq k hk
theorem finM_ok {M : MM} (ok : Ok M) (oq : OkQ M) : ∀ {j : Nat}, j ≤ 4 → Ok (finM M j) ∧ OkQ (finM M j) := by
  intro j
  induction j with
  | zero => intro _; exact ⟨ok, oq⟩
  | succ j ih =>
    intro hj
    obtain ⟨h1, h2⟩ := ih (by omega)
    exact fin1_ok h1 h2 (by omega)
theorem rdyM_ok {M : MM} {j : Nat} (ok : Ok M) (oq : OkQ M) : Ok (rdyM M j) ∧ OkQ (rdyM M j) := by
  obtain ⟨okT, okC, okP⟩ := ok
  refine ⟨⟨rdy_ok okT, ?_, ?_⟩, ?_⟩
  · unfold OkC runOk at okC ⊢
    rw [rdy_ne (show 11 ≠ 2 by decide), rdy_ne (show 1 ≠ 2 by decide), rdy_ne (show 13 ≠ 2 by decide), rdy_ne (show 14 ≠ 2 by decide), rdy_ne (show 15 ≠ 2 by decide), rdy_ne (show 18 ≠ 2 by decide)]
    exact okC
  · unfold OkP at okP ⊢
    rw [rdy_ne (show 1 ≠ 2 by decide), rdy_ne (show 4 ≠ 2 by decide), rdy_ne (show 5 ≠ 2 by decide), rdy_ne (show 3 ≠ 2 by decide)]
    exact okP
  · unfold OkQ at oq ⊢
    rw [rdy_ne (show 1 ≠ 2 by decide), rdy_ne (show 13 ≠ 2 by decide), rdy_ne (show 12 ≠ 2 by decide)]
    exact oq
theorem qst_keep {M M' : MM} {a : Nat} (ok : Ok M) (h : qst M = some M') (h2 : a ≠ 2) (h12 : a ≠ 12) (h13 : a ≠ 13) : M' a = M a := by
  obtain ⟨t, c, -, -, -, -, -, -, rfl⟩ := qst_spec ok h
  unfold putQ
  rw [up_ne h2, up_ne h13, up_ne h12]
theorem qst_okq {M M' : MM} (ok : Ok M) (oq : OkQ M) (h : qst M = some M') : OkQ M' := by
  obtain ⟨t, c, e1, h1, h2, e2, h3, h4, rfl⟩ := qst_spec ok h
  have hc := ok.2.1.2.2.2.1 c h3
  have ht := ok.1.1
  unfold putQ
  intro q hq k hk
  have hq8 := ok.2.1.2.2.2.1 q hq
  rw [up_ne (show 13 ≠ 2 by decide)] at hk
  rw [up_ne (show 12 ≠ 2 by decide), up_ne (show 12 ≠ 13 by decide)]
  rw [up_ne (show 1 ≠ 2 by decide), up_ne (show 1 ≠ 13 by decide), up_ne (show 1 ≠ 12 by decide)]
  by_cases e : q = c
  · subst e
    rw [up_eq] at hk
    by_cases e2 : k = (M 13 q).toNat
    · subst e2; rw [up_eq]; omega
    · rw [up_ni (by omega)]; exact oq q hq k (by omega)
  · rw [up_ni e, up_ne (show 13 ≠ 12 by decide)] at hk
    rw [up_ni (by have := ok.2.1.2.1; omega)]; exact oq q hq k hk
theorem qall_ok : ∀ {k : Nat} {M : MM}, Ok M → OkQ M → (Ok (qall k M) ∧ OkQ (qall k M)) ∧ ∀ a, a ≠ 2 → a ≠ 12 → a ≠ 13 → qall k M a = M a := by
  intro k
  induction k with
  | zero => intro M h1 h2; exact ⟨⟨h1, h2⟩, fun _ _ _ _ => rfl⟩
  | succ k ih =>
    intro M h1 h2
    unfold qall
    cases hq : qst M with
    | none => exact ⟨⟨h1, h2⟩, fun _ _ _ _ => rfl⟩
    | some M' =>
      obtain ⟨g1, g2⟩ := ih (qst_ok h1 hq) (qst_okq h1 h2 hq)
      exact ⟨g1, fun a a2 a12 a13 => (g2 a a2 a12 a13).trans (qst_keep h1 hq a2 a12 a13)⟩
theorem bsyM_ne {M : MM} {n a : Nat} (h : a ≠ 16) : bsyM M n a = M a := by funext i; simp [bsyM, h]
def cycQ (M : MM) : MM := qall 32 (rdyM (finM M (M 11 0).toNat) (M 1 0).toNat)
def cycS (ss : List Int) (M : MM) : MM := stsM ss (cycQ M) (M 11 0).toNat
def cyc (ss : List Int) (M : MM) : MM := up (bsyM (cycS ss M) (M 11 0).toNat) 0 3 (M 0 3 + 1)
section
variable {h : PH} {p sk : Nat} {M : MM} {ss : List Int} {K : Nat → Int}
theorem r_cycle (hp : p + 19 ≤ h.length) (ok : Ok M) (oq : OkQ M) (hz : FZ h p (M 0 2).toNat ss sk) : (∃ K', FX3_cycle (putM (h.set sk (skc K)) p M) p = some (finN M (M 11 0).toNat, putM (h.set sk (skc K')) p (cyc ss M))) ∧ Ok (cyc ss M) ∧ OkQ (cyc ss M) ∧ cyc ss M 0 2 = M 0 2 ∧ cyc ss M 11 = M 11 ∧ cyc ss M 1 = M 1 := by
  have hp0 : p + 19 ≤ h.length := hp
  have hn4 := ok.2.1.1
  obtain ⟨f1, f2⟩ := finM_ok (j := (M 11 0).toNat) ok oq (by omega)
  obtain ⟨d1, d2⟩ := rdyM_ok (j := (M 1 0).toNat) f1 f2
  obtain ⟨⟨q1, q2⟩, q3⟩ := qall_ok (k := 32) d1 d2
  have fk : ∀ a, a ≠ 2 → a ≠ 8 → a ≠ 14 → a ≠ 15 → finM M (M 11 0).toNat a = M a := fun a h2 h8 h14 h15 => funext fun i => finM_keep h2 h8 (Or.inl ⟨h14, h15⟩)
  have qk : ∀ a, a ≠ 2 → a ≠ 8 → a ≠ 14 → a ≠ 15 → a ≠ 12 → a ≠ 13 → cycQ M a = M a := fun a h2 h8 h14 h15 h12 h13 => by
    unfold cycQ
    rw [q3 a h2 h12 h13, rdy_ne h2, fk a h2 h8 h14 h15]
  have q0 : cycQ M 0 = M 0 := qk 0 (by decide) (by decide) (by decide) (by decide) (by decide) (by decide)
  have q11 : cycQ M 11 = M 11 := qk 11 (by decide) (by decide) (by decide) (by decide) (by decide) (by decide)
  have q1' : cycQ M 1 = M 1 := qk 1 (by decide) (by decide) (by decide) (by decide) (by decide) (by decide)
  obtain ⟨K', s1, s2, s3, s4, s5, s6⟩ := r_starts (h := h) (p := p) (sk := sk) (K := K) (M := cycQ M) (ss := ss) hp0 q1 q2 (by rw [q0]; exact hz)
  rw [q11] at s1 s2 s3 s4 s5 s6
  rw [q0] at s4
  rw [q1'] at s6
  have s1 : FX3_startTasks (putM (h.set sk (skc K)) p (cycQ M)) p = some (putM (h.set sk (skc K')) p (cycS ss M)) := s1
  have s2 : Ok (cycS ss M) := s2
  have s3 : OkQ (cycS ss M) := s3
  have s4 : cycS ss M 0 = M 0 := s4
  have s5 : cycS ss M 11 = M 11 := s5
  have s6 : cycS ss M 1 = M 1 := s6
  have hp1 : p + 19 ≤ (h.set sk (skc K)).length := by simpa using hp0
  have hp2 : p + 19 ≤ (h.set sk (skc K')).length := by simpa using hp0
  refine ⟨⟨K', ?_⟩, ?_, ?_, ?_, ?_, ?_⟩
  · unfold FX3_cycle
    have e2 := r_rdy (h := h.set sk (skc K)) (p := p) (M := finM M (M 11 0).toNat) hp1 f1.1
    rw [fk 1 (by decide) (by decide) (by decide) (by decide)] at e2
    have e3 := r_queue (h := h.set sk (skc K)) (p := p) hp1 d1
    have e5 := r_busy (h := h.set sk (skc K')) (p := p) (M := cycS ss M) hp2 s2.1.1.2 s2.2.1
    rw [s5] at e5
    have hp := hp1
    simp only [pm_isO0 hp, Option.bind_some, r_finT hp ok.1.1.2 ok.2.1, pm_gfr0_0 hp, e2, e3]
    rw [show qall 32 (rdyM (finM M (M 11 0).toNat) (M 1 0).toNat) = cycQ M from rfl, s1]
    have hp := hp2
    simp only [pm_gfr0_1 hp, Option.bind_some, e5, pm_gfi0_3 hp, pm_pfi0_3 hp, bsyM_ne (show 0 ≠ 16 by decide), s4]
    rfl
  · obtain ⟨⟨t1, t2, t3, t4⟩, ⟨c1, c2, c3, c4, c5, c6⟩, okP⟩ := s2
    unfold cyc
    refine ⟨⟨?_, ?_, ?_, ?_⟩, ⟨?_, ?_, ?_, ?_, ?_, ?_⟩, ?_⟩
    · rw [up_ne (by decide), bsyM_ne (by decide)]; exact t1
    · rw [up_ne (by decide), bsyM_ne (by decide)]; exact t2
    · rw [up_ne (by decide), bsyM_ne (by decide)]; exact t3
    · rw [up_ne (by decide), bsyM_ne (by decide), up_ne (by decide), bsyM_ne (by decide)]; exact t4
    · rw [up_ne (by decide), bsyM_ne (by decide)]; exact c1
    · rw [up_ne (by decide), bsyM_ne (by decide)]; exact c2
    · rw [up_ne (by decide), bsyM_ne (by decide)]; exact c3
    · rw [up_ne (by decide), bsyM_ne (by decide)]; exact c4
    · unfold runOk at c5 ⊢
      rw [up_ne (show 11 ≠ 0 by decide), bsyM_ne (show 11 ≠ 16 by decide), up_ne (show 14 ≠ 0 by decide), bsyM_ne (show 14 ≠ 16 by decide), up_ne (show 15 ≠ 0 by decide), bsyM_ne (show 15 ≠ 16 by decide), up_ne (show 1 ≠ 0 by decide), bsyM_ne (show 1 ≠ 16 by decide)]; exact c5
    · rw [up_ne (by decide), bsyM_ne (by decide)]; exact c6
    · unfold OkP at okP ⊢
      rw [up_ne (show 1 ≠ 0 by decide), bsyM_ne (show 1 ≠ 16 by decide), up_ne (show 4 ≠ 0 by decide), bsyM_ne (show 4 ≠ 16 by decide), up_ne (show 5 ≠ 0 by decide), bsyM_ne (show 5 ≠ 16 by decide), up_ne (show 3 ≠ 0 by decide), bsyM_ne (show 3 ≠ 16 by decide)]; exact okP
  · unfold cyc OkQ
    rw [up_ne (show 13 ≠ 0 by decide), bsyM_ne (show 13 ≠ 16 by decide), up_ne (show 12 ≠ 0 by decide), bsyM_ne (show 12 ≠ 16 by decide), up_ne (show 1 ≠ 0 by decide), bsyM_ne (show 1 ≠ 16 by decide)]; exact s3
  · unfold cyc
    rw [up_ni (by decide), bsyM_ne (by decide), s4]
  · unfold cyc
    rw [up_ne (by decide), bsyM_ne (by decide), s5]
  · unfold cyc
    rw [up_ne (by decide), bsyM_ne (by decide), s6]
/-- the cycles until all is finished: k are left, n are past -/
def cuf (ss : List Int) : Nat → Nat → MM → Int
  | 0, n, M => if cnt (unf M) (M 1 0).toNat = 0 then n else -1
  | k + 1, n, M => if cnt (unf M) (M 1 0).toNat = 0 then n else cuf ss k (n + 1) (cyc ss M)
theorem isU_zero {M : MM} {x : Int} (ok : OkT M) (hx : isU M x) : w32 x = 0 ↔ cnt (unf M) (M 1 0).toNat = 0 := by
  rw [tb_eq0, cnt_zero]
  have := ok.1
  constructor
  · intro h i hi
    have h1 := h i (by omega)
    rw [hx i (by omega)] at h1
    simpa [show (i : Int) < M 1 0 by omega] using h1
  · intro h i hi
    rw [hx i hi]
    by_cases a : (i : Int) < M 1 0
    · rw [h i (by omega)]; simp
    · simp [a]
theorem r_cuf (hp : p + 19 ≤ h.length) (ok : Ok M) (oq : OkQ M) (hz : FZ h p (M 0 2).toNat ss sk) {lim : Nat} (hl : lim ≤ 500) : ∃ K' M', FX3_cyclesUntilFinished (putM (h.set sk (skc K)) p M) p lim = some (cuf ss lim 0 M, putM (h.set sk (skc K')) p M') ∧ Ok M' ∧ OkQ M' ∧ M' 0 2 = M 0 2 := by
  have hp0 : p + 19 ≤ h.length := hp
  unfold FX3_cyclesUntilFinished
  have hp1 : p + 19 ≤ (h.set sk (skc K)).length := by simpa using hp0
  rw [pm_isO0 hp1, Option.bind_some]
  have := lp_for (f := fun st : Int × PH => LX3_cyclesUntilFinished_2 p lim st.1 st.2) (fun j st => (j = lim + 1 ∧ ∃ K N, st = ((j : Int), putM (h.set sk (skc K)) p N) ∧ Ok N ∧ OkQ N ∧ N 0 2 = M 0 2 ∧ cuf ss lim 0 M = -1) ∨ (j ≤ lim ∧ ∃ K N, st = ((j : Int), putM (h.set sk (skc K)) p N) ∧ Ok N ∧ OkQ N ∧ N 0 2 = M 0 2 ∧ cuf ss (lim - j) j N = cuf ss lim 0 M)) (fun r => ∃ K N, Sum.elim (fun q => q) (fun q => (-1, q)) r = (cuf ss lim 0 M, putM (h.set sk (skc K)) p N) ∧ Ok N ∧ OkQ N ∧ N 0 2 = M 0 2) (a := 0) (b := lim + 1) (s := (0, putM (h.set sk (skc K)) p M)) (by omega) (by omega) (Or.inr ⟨by omega, K, M, rfl, ok, oq, rfl, rfl⟩) (fun j st h1 h2 hI => ?_) (fun st hI => ?_)
  · obtain ⟨r, e1, K', N, e2, e3, e4, e5⟩ := this
    refine ⟨K', N, ?_, e3, e4, e5⟩
    rw [e1, Option.bind_some]
    rcases r with r | r
    · exact congrArg some e2
    · exact congrArg some e2
  · rcases hI with ⟨hj, -⟩ | ⟨hj, K1, N, rfl, okN, oqN, n02, hc⟩
    · omega
    have hp : p + 19 ≤ (h.set sk (skc K1)).length := by simpa using hp0
    obtain ⟨x, e1, e2⟩ := r_unf (h := h.set sk (skc K1)) (p := p) (M := N) hp okN.1
    have e3 := isU_zero okN.1 e2
    dsimp only
    unfold LX3_cyclesUntilFinished_2
    rw [w32_nat (by omega), w32_nat (by omega), if_neg (by omega), pm_gfr0_0 hp, Option.bind_some, e1, Option.bind_some]
    by_cases a : w32 x = 0
    · rw [if_pos a]
      refine Or.inl ⟨_, rfl, K1, N, ?_, okN, oqN, n02⟩
      have : cuf ss (lim - j) j N = j := by
        cases hk : lim - j with
        | zero => unfold cuf; rw [if_pos (e3.mp a)]
        | succ k => unfold cuf; rw [if_pos (e3.mp a)]
      rw [← hc, this]; rfl
    · rw [if_neg a]
      obtain ⟨⟨K2, c1⟩, c2, c3, c4, c5, c6⟩ := r_cycle (K := K1) hp0 okN oqN (by rw [n02]; exact hz)
      rw [c1, Option.bind_some]
      refine Or.inr ⟨_, rfl, ?_⟩
      have hz : ¬ cnt (unf N) (N 1 0).toNat = 0 := fun q => a (e3.mpr q)
      by_cases hlast : j = lim
      · left
        refine ⟨by omega, K2, _, rfl, c2, c3, by rw [c4]; exact n02, ?_⟩
        rw [← hc, show lim - j = 0 by omega]
        unfold cuf
        rw [if_neg hz]
      · right
        refine ⟨by omega, K2, _, rfl, c2, c3, by rw [c4]; exact n02, ?_⟩
        rw [← hc, show lim - j = (lim - (j + 1)) + 1 by omega]
        rw [show cuf ss (lim - (j + 1) + 1) j N = if cnt (unf N) (N 1 0).toNat = 0 then (j : Int) else cuf ss (lim - (j + 1)) (j + 1) (cyc ss N) from rfl, if_neg hz]
  · rcases hI with ⟨hj, K1, N, rfl, okN, oqN, n02, hc⟩ | ⟨hj, -⟩
    · dsimp only
      unfold LX3_cyclesUntilFinished_2
      rw [w32_nat (by omega), w32_nat (by omega), if_pos (by omega)]
      exact ⟨_, rfl, K1, N, by rw [hc]; rfl, okN, oqN, n02⟩
    · omega
end
