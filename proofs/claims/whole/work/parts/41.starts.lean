set_option linter.unusedVariables false
set_option linter.unusedSimpArgs false
/-! ===== a cycle of the class's machine ===== -/
theorem staM_keep {ss : List Int} {M : MM} {c a : Nat} (h2 : a ≠ 2) (h7 : a ≠ 7) (h12 : a ≠ 12) (h13 : a ≠ 13) (h14 : a ≠ 14) (h15 : a ≠ 15) (h17 : a ≠ 17) : staM ss M c a = M a := by
  unfold staM
  split
  · rfl
  · split
    · rw [up_ne h17, up_ne h15, up_ne h15, up_ne h14, up_ne h7, up_ne h2]; exact tk_ne h12 h13
    · rw [up_ne h15, up_ne h14, up_ne h7, up_ne h2]; exact tk_ne h12 h13
theorem st_take {ss : List Int} {M : MM} {c : Nat} (ok : OkC M) (hc : (c : Int) < M 11 0) (h0 : M 13 (srcM M c) ≠ 0) : srcM M c < 4 ∧ (plcM M c : Int) < M 13 (srcM M c) := by
  have h1 := src_lt ok hc
  have h2 := ok.2.2.2.1 _ h1
  refine ⟨h1, ?_⟩
  unfold plcM
  split
  · omega
  · omega
theorem tk_12 {M : MM} {c k j : Nat} : tkM M c k 12 j = if 8 * c + k ≤ j ∧ j + 1 < 8 * c + (M 13 c).toNat then M 12 (j + 1) else M 12 j := by
  unfold tkM up shM
  rw [if_neg (by omega)]
  by_cases h : 8 * c + k ≤ j ∧ j + 1 < 8 * c + (M 13 c).toNat
  · rw [if_pos ⟨rfl, h⟩, if_pos h]
  · rw [if_neg (fun q => h q.2), if_neg h]
theorem tk_okq {M : MM} {s k : Nat} (ok : OkC M) (oq : OkQ M) (hs : s < 4) (hk : (k : Int) < M 13 s) : OkQ (tkM M s k) := by
  intro c hc j hj
  rw [tk_ne (show 1 ≠ 12 by decide) (show 1 ≠ 13 by decide)]
  have h8 := ok.2.2.2.1 s hs
  have h8c := ok.2.2.2.1 c hc
  rw [tk_13] at hj
  rw [tk_12]
  by_cases e : c = s
  · subst e
    rw [if_pos rfl] at hj
    split
    · have := oq c hc (j + 1) (by omega)
      rw [← Nat.add_assoc] at this
      exact this
    · exact oq c hc j (by omega)
  · rw [if_neg e] at hj
    rw [if_neg (by omega)]
    exact oq c hc j hj
theorem staM_ok {ss : List Int} {M : MM} {c : Nat} (ok : Ok M) (oq : OkQ M) (hc : (c : Int) < M 11 0) : Ok (staM ss M c) ∧ OkQ (staM ss M c) := by
  by_cases h0 : M 13 (srcM M c) = 0
  · unfold staM; rw [if_pos h0]; exact ⟨ok, oq⟩
  obtain ⟨⟨t1, t2, t3, t4⟩, okC, okP⟩ := ok
  obtain ⟨hs, hk⟩ := st_take (ss := ss) okC hc h0
  have hq := oq _ hs _ hk
  have htq := tk_okq okC oq hs hk
  have hL := lnF_in (v := fval (M 3 (stT M c)) (M 4 (stT M c)) c (stN M c 13 c)) (ss := ss)
  have okC' := okC
  obtain ⟨c1, c2, c3, c4, c5, c6⟩ := okC
  have k0 : staM ss M c 0 = M 0 := staM_keep (by decide) (by decide) (by decide) (by decide) (by decide) (by decide) (by decide)
  have k1 : staM ss M c 1 = M 1 := staM_keep (by decide) (by decide) (by decide) (by decide) (by decide) (by decide) (by decide)
  have k3 : staM ss M c 3 = M 3 := staM_keep (by decide) (by decide) (by decide) (by decide) (by decide) (by decide) (by decide)
  have k4 : staM ss M c 4 = M 4 := staM_keep (by decide) (by decide) (by decide) (by decide) (by decide) (by decide) (by decide)
  have k5 : staM ss M c 5 = M 5 := staM_keep (by decide) (by decide) (by decide) (by decide) (by decide) (by decide) (by decide)
  have k9 : staM ss M c 9 = M 9 := staM_keep (by decide) (by decide) (by decide) (by decide) (by decide) (by decide) (by decide)
  have k11 : staM ss M c 11 = M 11 := staM_keep (by decide) (by decide) (by decide) (by decide) (by decide) (by decide) (by decide)
  have k18 : staM ss M c 18 = M 18 := staM_keep (by decide) (by decide) (by decide) (by decide) (by decide) (by decide) (by decide)
  have k2 : ∀ t, staM ss M c 2 t = 3 ∨ staM ss M c 2 t = M 2 t := by
    intro t
    have : stN M c 2 = M 2 := tk_ne (by decide) (by decide)
    unfold staM
    rw [if_neg h0]
    split
    · rw [up_ne (by decide), up_ne (by decide), up_ne (by decide), up_ne (by decide), up_ne (by decide)]
      by_cases e : t = stT M c
      · subst e; exact Or.inl up_eq
      · rw [up_ni e, this]; exact Or.inr rfl
    · rw [up_ne (by decide), up_ne (by decide), up_ne (by decide)]
      by_cases e : t = stT M c
      · subst e; exact Or.inl up_eq
      · rw [up_ni e, this]; exact Or.inr rfl
  have k12 : staM ss M c 12 = tkM M (srcM M c) (plcM M c) 12 := by
    unfold staM; rw [if_neg h0]
    split
    · rw [up_ne (by decide), up_ne (by decide), up_ne (by decide), up_ne (by decide), up_ne (by decide), up_ne (by decide)]; rfl
    · rw [up_ne (by decide), up_ne (by decide), up_ne (by decide), up_ne (by decide)]; rfl
  have k13 : staM ss M c 13 = tkM M (srcM M c) (plcM M c) 13 := by
    unfold staM; rw [if_neg h0]
    split
    · rw [up_ne (by decide), up_ne (by decide), up_ne (by decide), up_ne (by decide), up_ne (by decide), up_ne (by decide)]; rfl
    · rw [up_ne (by decide), up_ne (by decide), up_ne (by decide), up_ne (by decide)]; rfl
  have kr : ∀ q, (q = c → (staM ss M c 14 q = stT M c ∧ 1 ≤ staM ss M c 15 q ∧ staM ss M c 15 q ≤ 1019)) ∧ (q ≠ c → staM ss M c 14 q = M 14 q ∧ staM ss M c 15 q = M 15 q) := by
    intro q
    have e14 : stN M c 14 = M 14 := tk_ne (by decide) (by decide)
    have e15 : stN M c 15 = M 15 := tk_ne (by decide) (by decide)
    unfold staM
    rw [if_neg h0]
    split
    · rw [up_ne (show 14 ≠ 17 by decide), up_ne (show 14 ≠ 15 by decide), up_ne (show 14 ≠ 15 by decide), up_ne (show 15 ≠ 17 by decide)]
      constructor
      · rintro rfl
        rw [up_eq, up_eq]
        unfold stL
        exact ⟨rfl, by omega, by omega⟩
      · intro e
        rw [up_ni e, up_ni e, up_ni e, up_ne (show 14 ≠ 7 by decide), up_ne (show 14 ≠ 2 by decide), up_ne (show 15 ≠ 14 by decide), up_ne (show 15 ≠ 7 by decide), up_ne (show 15 ≠ 2 by decide), e14, e15]
        exact ⟨rfl, rfl⟩
    · rw [up_ne (show 14 ≠ 15 by decide)]
      constructor
      · rintro rfl
        rw [up_eq, up_eq]
        unfold stL
        exact ⟨rfl, by omega, by omega⟩
      · intro e
        rw [up_ni e, up_ni e, up_ne (show 14 ≠ 7 by decide), up_ne (show 14 ≠ 2 by decide), up_ne (show 15 ≠ 14 by decide), up_ne (show 15 ≠ 7 by decide), up_ne (show 15 ≠ 2 by decide), e14, e15]
        exact ⟨rfl, rfl⟩
  have hT : (stT M c : Int) < M 1 0 := by unfold stT; omega
  refine ⟨⟨⟨by rw [k1]; exact t1, by rw [k1]; exact t2, fun t ht => ?_, by rw [k1, k9]; exact t4⟩, ⟨by rw [k11]; exact c1, by rw [k11]; exact c2, by rw [k11]; exact c3, fun q hq2 => ?_, fun q hq2 => ?_, by rw [k18]; exact c6⟩, fun t ht => by rw [k1] at ht; rw [k3, k4, k5]; exact okP t ht⟩, fun q hq2 k hk2 => ?_⟩
  · have := t3 t ht
    rcases k2 t with e | e <;> rw [e]
    · omega
    · exact this
  · have h1 := c4 q hq2
    have h2 := c4 _ hs
    rw [k13, tk_13]
    split <;> omega
  · have h1 := c5 q (by rw [k11] at hq2; exact hq2)
    unfold runOk at h1 ⊢
    rw [k1]
    by_cases e : q = c
    · have := (kr q).1 e
      right; omega
    · obtain ⟨e1, e2⟩ := (kr q).2 e
      rw [e1, e2]; exact h1
  · rw [k13] at hk2
    rw [k12, k1]
    have := htq q hq2 k hk2
    rw [tk_ne (show 1 ≠ 12 by decide) (show 1 ≠ 13 by decide)] at this
    exact this
section
variable {h : PH} {p sk : Nat} {M : MM} {ss : List Int} {K : Nat → Int}
theorem r_start (hp : p + 19 ≤ h.length) (ok : Ok M) (oq : OkQ M) (hz : FZ h p (M 0 2).toNat ss sk) {c : Nat} (hc : (c : Int) < M 11 0) : ∃ K', FX3_startTask (putM (h.set sk (skc K)) p M) p c = some (putM (h.set sk (skc K')) p (staM ss M c)) := by
  have c1 := ok.2.1.1
  have hc4 : c < 4 := by omega
  have h13 := ok.2.1.2.2.2.1 c hc4
  have hp0 : p + 19 ≤ h.length := hp
  have hp : p + 19 ≤ (h.set sk (skc K)).length := by simpa using hp
  unfold FX3_startTask JX3_startTask_17 JX3_startTask_33
  simp (disch := omega) only [pm_isO0 hp, pm_gfr0_0 hp, pm_gfr0_1 hp, pm_gfr0_2 hp, pm_gfi0_3 hp, pm_pfi0_3 hp, pm_isO1 hp, pm_gfi1_0 hp, pm_pfi1_0 hp, pm_gfi1_1 hp, pm_pfi1_1 hp, pm_gfr1_2 hp, pm_gfr1_3 hp, pm_gfr1_4 hp, pm_gfr1_5 hp, pm_gfr1_6 hp, pm_gfr1_7 hp, pm_gfr1_8 hp, pm_gfr1_9 hp, pm_gfr1_10 hp, pm_isO11 hp, pm_gfi11_0 hp, pm_pfi11_0 hp, pm_gfi11_1 hp, pm_pfi11_1 hp, pm_gfi11_2 hp, pm_pfi11_2 hp, pm_gfr11_3 hp, pm_gfr11_4 hp, pm_gfr11_5 hp, pm_gfr11_6 hp, pm_gfr11_7 hp, pm_gfr11_8 hp, pm_gfr11_9 hp, pa2 hp, ps2 hp, pa3 hp, ps3 hp, pa4 hp, ps4 hp, pa5 hp, ps5 hp, pa6 hp, ps6 hp, pa7 hp, ps7 hp, pa8 hp, ps8 hp, pa9 hp, ps9 hp, pa10 hp, ps10 hp, pa12 hp, ps12 hp, pa13 hp, ps13 hp, pa14 hp, ps14 hp, pa15 hp, ps15 hp, pa16 hp, ps16 hp, pa17 hp, ps17 hp, pa18 hp, ps18 hp, Option.bind_some, w32_eq, Int.toNat_natCast, if_true, if_false]
  by_cases a : M 13 c = 0
  · obtain ⟨b, e1, e2⟩ := r_long (h := h.set sk (skc K)) (p := p) hp ok.2.1 (by omega)
    have e3 : b = lqs M (M 11 0).toNat := by
      obtain ⟨n, hn⟩ : ∃ n, (M 11 0).toNat = n + 1 := ⟨(M 11 0).toNat - 1, by omega⟩
      rw [hn] at e2 ⊢
      exact isL_one e2 (lqs_is M n)
    have hsrc : srcM M c = b := by unfold srcM; rw [if_pos a, e3]
    have hb4 : b < 4 := by have := e2.1; omega
    have hb := ok.2.1.2.2.2.1 b hb4
    rw [if_pos a, if_neg (by decide), e1, Option.bind_some]
    simp (disch := omega) only [pm_isO0 hp, pm_gfr0_0 hp, pm_gfr0_1 hp, pm_gfr0_2 hp, pm_gfi0_3 hp, pm_pfi0_3 hp, pm_isO1 hp, pm_gfi1_0 hp, pm_pfi1_0 hp, pm_gfi1_1 hp, pm_pfi1_1 hp, pm_gfr1_2 hp, pm_gfr1_3 hp, pm_gfr1_4 hp, pm_gfr1_5 hp, pm_gfr1_6 hp, pm_gfr1_7 hp, pm_gfr1_8 hp, pm_gfr1_9 hp, pm_gfr1_10 hp, pm_isO11 hp, pm_gfi11_0 hp, pm_pfi11_0 hp, pm_gfi11_1 hp, pm_pfi11_1 hp, pm_gfi11_2 hp, pm_pfi11_2 hp, pm_gfr11_3 hp, pm_gfr11_4 hp, pm_gfr11_5 hp, pm_gfr11_6 hp, pm_gfr11_7 hp, pm_gfr11_8 hp, pm_gfr11_9 hp, pa2 hp, ps2 hp, pa3 hp, ps3 hp, pa4 hp, ps4 hp, pa5 hp, ps5 hp, pa6 hp, ps6 hp, pa7 hp, ps7 hp, pa8 hp, ps8 hp, pa9 hp, ps9 hp, pa10 hp, ps10 hp, pa12 hp, ps12 hp, pa13 hp, ps13 hp, pa14 hp, ps14 hp, pa15 hp, ps15 hp, pa16 hp, ps16 hp, pa17 hp, ps17 hp, pa18 hp, ps18 hp, Option.bind_some, w32_eq, Int.toNat_natCast, if_true, if_false]
    rw [if_neg (by decide)]
    by_cases b0 : M 13 b = 0
    · refine ⟨K, ?_⟩
      unfold JX3_startTask_58
      rw [b0, r_take0 hp (by omega), Option.bind_some, if_pos (show w32 (-1) < 0 by decide)]
      unfold staM
      rw [hsrc, if_pos b0]
    · obtain ⟨n, hn⟩ : ∃ n : Nat, M 13 b - 1 = n := ⟨(M 13 b - 1).toNat, by omega⟩
      obtain ⟨K', hK⟩ := r_st58 (K := K) (ssv := 1) hp0 ok oq hz hc4 hb4 (k := n) (by omega) (Or.inr rfl)
      refine ⟨K', ?_⟩
      rw [hn, hK, if_neg (by decide)]
      have hq := oq b hb4 n (by omega)
      have hpl : plcM M c = n := by unfold plcM; rw [if_pos a, hsrc]; omega
      unfold staM
      rw [hsrc, if_neg b0, if_pos a]
      unfold stL stT stN
      rw [hsrc, hpl]
      rw [show (((M 12 (8 * b + n)).toNat : Nat) : Int) = M 12 (8 * b + n) by omega]
  · have hsrc : srcM M c = c := by unfold srcM; rw [if_neg a]
    have hpl : plcM M c = 0 := by unfold plcM; rw [if_neg a]
    obtain ⟨K', hK⟩ := r_st58 (K := K) (ssv := 0) hp0 ok oq hz hc4 hc4 (k := 0) (by omega) (Or.inl rfl)
    refine ⟨K', ?_⟩
    rw [if_neg a]
    rw [show ((0 : Nat) : Int) = 0 from rfl] at hK
    rw [hK, if_pos rfl]
    have hq := oq c hc4 0 (by omega)
    unfold staM
    rw [hsrc, if_neg a, if_neg a]
    unfold stL stT stN
    rw [hsrc, hpl]
    rw [show (((M 12 (8 * c + 0)).toNat : Nat) : Int) = M 12 (8 * c + 0) by omega]
def stsM (ss : List Int) (M : MM) : Nat → MM
  | 0 => M
  | j + 1 => if stsM ss M j 18 j = 0 ∧ stsM ss M j 14 j < 0 then staM ss (stsM ss M j) j else stsM ss M j
theorem r_starts (hp : p + 19 ≤ h.length) (ok : Ok M) (oq : OkQ M) (hz : FZ h p (M 0 2).toNat ss sk) : ∃ K', FX3_startTasks (putM (h.set sk (skc K)) p M) p = some (putM (h.set sk (skc K')) p (stsM ss M (M 11 0).toNat)) ∧ Ok (stsM ss M (M 11 0).toNat) ∧ OkQ (stsM ss M (M 11 0).toNat) ∧ stsM ss M (M 11 0).toNat 0 = M 0 ∧ stsM ss M (M 11 0).toNat 11 = M 11 ∧ stsM ss M (M 11 0).toNat 1 = M 1 := by
  obtain ⟨n, hn⟩ := Int.eq_ofNat_of_zero_le ok.2.1.1.1
  have hn4 := ok.2.1.1.2
  have hp0 : p + 19 ≤ h.length := hp
  unfold FX3_startTasks
  have hp : p + 19 ≤ (h.set sk (skc K)).length := by simpa using hp
  simp (disch := omega) only [pm_isO0 hp, pm_gfr0_0 hp, pm_gfr0_1 hp, pm_gfr0_2 hp, pm_gfi0_3 hp, pm_pfi0_3 hp, pm_isO1 hp, pm_gfi1_0 hp, pm_pfi1_0 hp, pm_gfi1_1 hp, pm_pfi1_1 hp, pm_gfr1_2 hp, pm_gfr1_3 hp, pm_gfr1_4 hp, pm_gfr1_5 hp, pm_gfr1_6 hp, pm_gfr1_7 hp, pm_gfr1_8 hp, pm_gfr1_9 hp, pm_gfr1_10 hp, pm_isO11 hp, pm_gfi11_0 hp, pm_pfi11_0 hp, pm_gfi11_1 hp, pm_pfi11_1 hp, pm_gfi11_2 hp, pm_pfi11_2 hp, pm_gfr11_3 hp, pm_gfr11_4 hp, pm_gfr11_5 hp, pm_gfr11_6 hp, pm_gfr11_7 hp, pm_gfr11_8 hp, pm_gfr11_9 hp, pa2 hp, ps2 hp, pa3 hp, ps3 hp, pa4 hp, ps4 hp, pa5 hp, ps5 hp, pa6 hp, ps6 hp, pa7 hp, ps7 hp, pa8 hp, ps8 hp, pa9 hp, ps9 hp, pa10 hp, ps10 hp, pa12 hp, ps12 hp, pa13 hp, ps13 hp, pa14 hp, ps14 hp, pa15 hp, ps15 hp, pa16 hp, ps16 hp, pa17 hp, ps17 hp, pa18 hp, ps18 hp, Option.bind_some, w32_eq, Int.toNat_natCast, if_true, if_false]
  have := lp_for (f := fun st : Int × PH => LX3_startTasks_2 p st.1 st.2) (fun j st => ∃ K N, st = ((j : Int), putM (h.set sk (skc K)) p N) ∧ N = stsM ss M j ∧ Ok N ∧ OkQ N ∧ N 0 = M 0 ∧ N 11 = M 11 ∧ N 1 = M 1) (fun r => ∃ K N, r = putM (h.set sk (skc K)) p N ∧ N = stsM ss M n ∧ Ok N ∧ OkQ N ∧ N 0 = M 0 ∧ N 11 = M 11 ∧ N 1 = M 1) (a := 0) (b := n) (s := (0, putM (h.set sk (skc K)) p M)) (by omega) (by omega) ⟨K, M, rfl, rfl, ok, oq, rfl, rfl, rfl⟩ (fun j st h1 h2 hI => ?_) (fun st hI => ?_)
  · obtain ⟨r, e1, K', N, rfl, rfl, e2⟩ := this
    rw [hn, Int.toNat_natCast]
    exact ⟨K', by rw [e1]; rfl, e2⟩
  · obtain ⟨K1, N, rfl, hN, okN, oqN, n0, n11, n1⟩ := hI
    refine Or.inr ?_
    have hp : p + 19 ≤ (h.set sk (skc K1)).length := by simpa using hp0
    have e11 : N 11 0 = n := by rw [n11, hn]
    have r14 := okN.2.1.2.2.2.2.1 j (by omega)
    have r18 := okN.2.1.2.2.2.2.2 j (by omega)
    have hTN := okN.1.1
    have hw : -2147483648 ≤ N 14 j ∧ N 14 j < 2147483648 := by unfold runOk at r14; omega
    dsimp only
    unfold LX3_startTasks_2 JX3_startTasks_42
    simp (disch := omega) only [pm_isO0 hp, pm_gfr0_0 hp, pm_gfr0_1 hp, pm_gfr0_2 hp, pm_gfi0_3 hp, pm_pfi0_3 hp, pm_isO1 hp, pm_gfi1_0 hp, pm_pfi1_0 hp, pm_gfi1_1 hp, pm_pfi1_1 hp, pm_gfr1_2 hp, pm_gfr1_3 hp, pm_gfr1_4 hp, pm_gfr1_5 hp, pm_gfr1_6 hp, pm_gfr1_7 hp, pm_gfr1_8 hp, pm_gfr1_9 hp, pm_gfr1_10 hp, pm_isO11 hp, pm_gfi11_0 hp, pm_pfi11_0 hp, pm_gfi11_1 hp, pm_pfi11_1 hp, pm_gfi11_2 hp, pm_pfi11_2 hp, pm_gfr11_3 hp, pm_gfr11_4 hp, pm_gfr11_5 hp, pm_gfr11_6 hp, pm_gfr11_7 hp, pm_gfr11_8 hp, pm_gfr11_9 hp, pa2 hp, ps2 hp, pa3 hp, ps3 hp, pa4 hp, ps4 hp, pa5 hp, ps5 hp, pa6 hp, ps6 hp, pa7 hp, ps7 hp, pa8 hp, ps8 hp, pa9 hp, ps9 hp, pa10 hp, ps10 hp, pa12 hp, ps12 hp, pa13 hp, ps13 hp, pa14 hp, ps14 hp, pa15 hp, ps15 hp, pa16 hp, ps16 hp, pa17 hp, ps17 hp, pa18 hp, ps18 hp, Option.bind_some, w32_eq, Int.toNat_natCast, if_true, if_false, e11]
    rw [if_pos (by omega)]
    rw [show stsM ss M (j + 1) = if stsM ss M j 18 j = 0 ∧ stsM ss M j 14 j < 0 then staM ss (stsM ss M j) j else stsM ss M j from rfl, ← hN]
    by_cases a : N 18 j = 0
    · rw [if_pos a]
      by_cases b : N 14 j < 0
      · rw [if_pos b, if_pos ⟨a, b⟩]
        obtain ⟨K2, hK⟩ := r_start (K := K1) hp0 okN oqN (by rw [n0]; exact hz) (c := j) (by rw [e11]; omega)
        obtain ⟨g1, g2⟩ := staM_ok (ss := ss) (c := j) okN oqN (by rw [e11]; omega)
        rw [hK, Option.bind_some]
        refine ⟨_, rfl, K2, _, rfl, rfl, g1, g2, ?_, ?_, ?_⟩
        · rw [staM_keep (by decide) (by decide) (by decide) (by decide) (by decide) (by decide) (by decide)]; exact n0
        · rw [staM_keep (by decide) (by decide) (by decide) (by decide) (by decide) (by decide) (by decide)]; exact n11
        · rw [staM_keep (by decide) (by decide) (by decide) (by decide) (by decide) (by decide) (by decide)]; exact n1
      · rw [if_neg b, if_neg (fun q => b q.2)]
        exact ⟨_, rfl, K1, _, rfl, rfl, okN, oqN, n0, n11, n1⟩
    · rw [if_neg a, if_neg (fun q => a q.1)]
      exact ⟨_, rfl, K1, _, rfl, rfl, okN, oqN, n0, n11, n1⟩
  · obtain ⟨K1, N, rfl, hN, okN, oqN, n0, n11, n1⟩ := hI
    have hp : p + 19 ≤ (h.set sk (skc K1)).length := by simpa using hp0
    have e11 : N 11 0 = n := by rw [n11, hn]
    dsimp only
    unfold LX3_startTasks_2
    simp (disch := omega) only [pm_isO0 hp, pm_gfr0_0 hp, pm_gfr0_1 hp, pm_gfr0_2 hp, pm_gfi0_3 hp, pm_pfi0_3 hp, pm_isO1 hp, pm_gfi1_0 hp, pm_pfi1_0 hp, pm_gfi1_1 hp, pm_pfi1_1 hp, pm_gfr1_2 hp, pm_gfr1_3 hp, pm_gfr1_4 hp, pm_gfr1_5 hp, pm_gfr1_6 hp, pm_gfr1_7 hp, pm_gfr1_8 hp, pm_gfr1_9 hp, pm_gfr1_10 hp, pm_isO11 hp, pm_gfi11_0 hp, pm_pfi11_0 hp, pm_gfi11_1 hp, pm_pfi11_1 hp, pm_gfi11_2 hp, pm_pfi11_2 hp, pm_gfr11_3 hp, pm_gfr11_4 hp, pm_gfr11_5 hp, pm_gfr11_6 hp, pm_gfr11_7 hp, pm_gfr11_8 hp, pm_gfr11_9 hp, pa2 hp, ps2 hp, pa3 hp, ps3 hp, pa4 hp, ps4 hp, pa5 hp, ps5 hp, pa6 hp, ps6 hp, pa7 hp, ps7 hp, pa8 hp, ps8 hp, pa9 hp, ps9 hp, pa10 hp, ps10 hp, pa12 hp, ps12 hp, pa13 hp, ps13 hp, pa14 hp, ps14 hp, pa15 hp, ps15 hp, pa16 hp, ps16 hp, pa17 hp, ps17 hp, pa18 hp, ps18 hp, Option.bind_some, w32_eq, Int.toNat_natCast, if_true, if_false, e11]
    rw [if_neg (by omega)]
    exact ⟨_, rfl, K1, N, rfl, hN, okN, oqN, n0, n11, n1⟩
end
