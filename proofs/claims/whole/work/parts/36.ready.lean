set_option linter.unusedVariables false
set_option linter.unusedSimpArgs false
theorem opn_congr {M M' : MM} (h1 : ∀ t, unf M' t = unf M t) (h2 : M' 9 = M 9) : opn M' = opn M := by
  funext f
  unfold opn
  rw [h2, show unf M' = unf M from funext h1]
theorem ctr_congr {M M' : MM} (h1 : ∀ t, unf M' t = unf M t) (h2 : M' 6 = M 6) (h3 : M' 9 = M 9) (h4 : M' 1 = M 1) : ctr M' = ctr M := by
  funext t
  unfold ctr
  rw [opn_congr h1 h3, h2, h3, h4, show unf M' = unf M from funext h1]
/-- the tasks below j that are free become READY -/
def rdyM (M : MM) (j : Nat) : MM := fun k i => if k = 2 ∧ i < j ∧ M 2 i = 0 ∧ ctr M i = 0 then 1 else M k i
theorem rdy_ne {M : MM} {j k : Nat} (hk : k ≠ 2) : rdyM M j k = M k := by funext i; simp [rdyM, hk]
theorem rdy_unf {M : MM} {j : Nat} (t : Nat) : unf (rdyM M j) t = unf M t := by
  unfold unf rdyM
  by_cases h : t < j ∧ M 2 t = 0 ∧ ctr M t = 0
  · simp [h]
  · simp [h]
theorem rdy_ctr {M : MM} {j : Nat} : ctr (rdyM M j) = ctr M := ctr_congr rdy_unf (rdy_ne (by decide)) (rdy_ne (by decide)) (rdy_ne (by decide))
theorem rdy_ok {M : MM} {j : Nat} (ok : OkT M) : OkT (rdyM M j) := by
  obtain ⟨o1, o2, o3, o4⟩ := ok
  refine ⟨by rw [rdy_ne (by decide)]; exact o1, by rw [rdy_ne (by decide)]; exact o2, fun t ht => ?_, by rw [rdy_ne (by decide), rdy_ne (by decide)]; exact o4⟩
  unfold rdyM
  split
  · omega
  · exact o3 t ht
theorem rdy_isU {M : MM} {j : Nat} {x : Int} (hx : isU M x) : isU (rdyM M j) x := fun i hi => by rw [hx i hi, rdy_unf, rdy_ne (by decide)]
theorem rdy_step {M : MM} {j : Nat} : rdyM M (j + 1) = if M 2 j = 0 ∧ ctr M j = 0 then up (rdyM M j) 2 j 1 else rdyM M j := by
  by_cases h : M 2 j = 0 ∧ ctr M j = 0
  · rw [if_pos h]
    funext k i
    unfold up
    by_cases hki : k = 2 ∧ i = j
    · obtain ⟨rfl, rfl⟩ := hki; simp [rdyM, h]
    · rw [if_neg hki]
      unfold rdyM
      by_cases hk : k = 2
      · have : i ≠ j := fun e => hki ⟨hk, e⟩
        simp only [show (i < j + 1) = (i < j) by simp only [eq_iff_iff]; omega]
      · simp [hk]
  · rw [if_neg h]
    funext k i
    unfold rdyM
    by_cases hij : i = j
    · subst hij; simp [h]
    · simp only [show (i < j + 1) = (i < j) by simp only [eq_iff_iff]; omega]
theorem ctr_le {M : MM} (t : Nat) (o2 : M 1 1 ≤ 8) : ctr M t ≤ 40 := by
  unfold ctr
  have h1 := cnt_le (f := fun q => tb (M 6 t) q && (decide ((q : Int) < M 1 0) && unf M q)) 32
  have h2 := cnt_le (f := fun f => decide (M 9 f ≤ t) && !opn M f) (M 1 1).toNat
  omega
section
variable {h : PH} {p : Nat} {M : MM}
theorem r_rdy (hp : p + 19 ≤ h.length) (ok : OkT M) : FX6_readyAllFree (putM h p M) (p + 1) = some (putM h p (rdyM M (M 1 0).toNat)) := by
  obtain ⟨x, e, hx⟩ := r_unf (h := h) (p := p) hp ok
  have ok' := ok
  obtain ⟨o1, o2, o3, o4⟩ := ok
  obtain ⟨n, hn⟩ := Int.eq_ofNat_of_zero_le o1.1
  unfold FX6_readyAllFree
  simp (disch := omega) only [pm_isO0 hp, pm_gfr0_0 hp, pm_gfr0_1 hp, pm_gfr0_2 hp, pm_gfi0_3 hp, pm_pfi0_3 hp, pm_isO1 hp, pm_gfi1_0 hp, pm_pfi1_0 hp, pm_gfi1_1 hp, pm_pfi1_1 hp, pm_gfr1_2 hp, pm_gfr1_3 hp, pm_gfr1_4 hp, pm_gfr1_5 hp, pm_gfr1_6 hp, pm_gfr1_7 hp, pm_gfr1_8 hp, pm_gfr1_9 hp, pm_gfr1_10 hp, pm_isO11 hp, pm_gfi11_0 hp, pm_pfi11_0 hp, pm_gfi11_1 hp, pm_pfi11_1 hp, pm_gfi11_2 hp, pm_pfi11_2 hp, pm_gfr11_3 hp, pm_gfr11_4 hp, pm_gfr11_5 hp, pm_gfr11_6 hp, pm_gfr11_7 hp, pm_gfr11_8 hp, pm_gfr11_9 hp, pa2 hp, ps2 hp, pa3 hp, ps3 hp, pa4 hp, ps4 hp, pa5 hp, ps5 hp, pa6 hp, ps6 hp, pa7 hp, ps7 hp, pa8 hp, ps8 hp, pa9 hp, ps9 hp, pa10 hp, ps10 hp, pa12 hp, ps12 hp, pa13 hp, ps13 hp, pa14 hp, ps14 hp, pa15 hp, ps15 hp, pa16 hp, ps16 hp, pa17 hp, ps17 hp, pa18 hp, ps18 hp, Option.bind_some, w32_eq, Int.toNat_natCast, if_true, if_false, e]
  have := lp_det (f := fun st : Int × PH => LX6_readyAllFree_7 (p + 1) x st.1 st.2) (fun j => ((j : Int), putM h p (rdyM M j))) (a := 0) (b := n) (r := putM h p (rdyM M n)) (by omega) (by omega) (fun j h1 h2 => ?_) ?_
  · rw [show rdyM M 0 = M by funext k i; simp [rdyM]] at this
    rw [hn, Int.toNat_natCast]
    exact (congrArg (fun o => Option.bind o some) this).trans rfl
  · have hs := o3 j (by omega)
    have h10 : rdyM M j 1 0 = n := by rw [rdy_ne (by decide)]; exact hn
    have h2j : rdyM M j 2 j = M 2 j := by simp [rdyM]
    unfold LX6_readyAllFree_7 JX6_readyAllFree_40
    simp (disch := omega) only [pm_isO0 hp, pm_gfr0_0 hp, pm_gfr0_1 hp, pm_gfr0_2 hp, pm_gfi0_3 hp, pm_pfi0_3 hp, pm_isO1 hp, pm_gfi1_0 hp, pm_pfi1_0 hp, pm_gfi1_1 hp, pm_pfi1_1 hp, pm_gfr1_2 hp, pm_gfr1_3 hp, pm_gfr1_4 hp, pm_gfr1_5 hp, pm_gfr1_6 hp, pm_gfr1_7 hp, pm_gfr1_8 hp, pm_gfr1_9 hp, pm_gfr1_10 hp, pm_isO11 hp, pm_gfi11_0 hp, pm_pfi11_0 hp, pm_gfi11_1 hp, pm_pfi11_1 hp, pm_gfi11_2 hp, pm_pfi11_2 hp, pm_gfr11_3 hp, pm_gfr11_4 hp, pm_gfr11_5 hp, pm_gfr11_6 hp, pm_gfr11_7 hp, pm_gfr11_8 hp, pm_gfr11_9 hp, pa2 hp, ps2 hp, pa3 hp, ps3 hp, pa4 hp, ps4 hp, pa5 hp, ps5 hp, pa6 hp, ps6 hp, pa7 hp, ps7 hp, pa8 hp, ps8 hp, pa9 hp, ps9 hp, pa10 hp, ps10 hp, pa12 hp, ps12 hp, pa13 hp, ps13 hp, pa14 hp, ps14 hp, pa15 hp, ps15 hp, pa16 hp, ps16 hp, pa17 hp, ps17 hp, pa18 hp, ps18 hp, Option.bind_some, w32_eq, Int.toNat_natCast, if_true, if_false, h10, h2j]
    rw [if_pos (by omega), rdy_step]
    by_cases a : M 2 j = 0
    · rw [if_pos a, r_ctr hp (rdy_ok ok') (rdy_isU hx) (by omega), rdy_ctr]
      have := ctr_le (M := M) j o2.2
      simp (disch := omega) only [pm_isO0 hp, pm_gfr0_0 hp, pm_gfr0_1 hp, pm_gfr0_2 hp, pm_gfi0_3 hp, pm_pfi0_3 hp, pm_isO1 hp, pm_gfi1_0 hp, pm_pfi1_0 hp, pm_gfi1_1 hp, pm_pfi1_1 hp, pm_gfr1_2 hp, pm_gfr1_3 hp, pm_gfr1_4 hp, pm_gfr1_5 hp, pm_gfr1_6 hp, pm_gfr1_7 hp, pm_gfr1_8 hp, pm_gfr1_9 hp, pm_gfr1_10 hp, pm_isO11 hp, pm_gfi11_0 hp, pm_pfi11_0 hp, pm_gfi11_1 hp, pm_pfi11_1 hp, pm_gfi11_2 hp, pm_pfi11_2 hp, pm_gfr11_3 hp, pm_gfr11_4 hp, pm_gfr11_5 hp, pm_gfr11_6 hp, pm_gfr11_7 hp, pm_gfr11_8 hp, pm_gfr11_9 hp, pa2 hp, ps2 hp, pa3 hp, ps3 hp, pa4 hp, ps4 hp, pa5 hp, ps5 hp, pa6 hp, ps6 hp, pa7 hp, ps7 hp, pa8 hp, ps8 hp, pa9 hp, ps9 hp, pa10 hp, ps10 hp, pa12 hp, ps12 hp, pa13 hp, ps13 hp, pa14 hp, ps14 hp, pa15 hp, ps15 hp, pa16 hp, ps16 hp, pa17 hp, ps17 hp, pa18 hp, ps18 hp, Option.bind_some, w32_eq, Int.toNat_natCast, if_true, if_false]
      by_cases b : ctr M j = 0
      · simp [a, b]
      · simp [a, b]
    · rw [if_neg a]
      simp [a]
  · have h10 : rdyM M n 1 0 = n := by rw [rdy_ne (by decide)]; exact hn
    unfold LX6_readyAllFree_7
    simp (disch := omega) only [pm_isO0 hp, pm_gfr0_0 hp, pm_gfr0_1 hp, pm_gfr0_2 hp, pm_gfi0_3 hp, pm_pfi0_3 hp, pm_isO1 hp, pm_gfi1_0 hp, pm_pfi1_0 hp, pm_gfi1_1 hp, pm_pfi1_1 hp, pm_gfr1_2 hp, pm_gfr1_3 hp, pm_gfr1_4 hp, pm_gfr1_5 hp, pm_gfr1_6 hp, pm_gfr1_7 hp, pm_gfr1_8 hp, pm_gfr1_9 hp, pm_gfr1_10 hp, pm_isO11 hp, pm_gfi11_0 hp, pm_pfi11_0 hp, pm_gfi11_1 hp, pm_pfi11_1 hp, pm_gfi11_2 hp, pm_pfi11_2 hp, pm_gfr11_3 hp, pm_gfr11_4 hp, pm_gfr11_5 hp, pm_gfr11_6 hp, pm_gfr11_7 hp, pm_gfr11_8 hp, pm_gfr11_9 hp, pa2 hp, ps2 hp, pa3 hp, ps3 hp, pa4 hp, ps4 hp, pa5 hp, ps5 hp, pa6 hp, ps6 hp, pa7 hp, ps7 hp, pa8 hp, ps8 hp, pa9 hp, ps9 hp, pa10 hp, ps10 hp, pa12 hp, ps12 hp, pa13 hp, ps13 hp, pa14 hp, ps14 hp, pa15 hp, ps15 hp, pa16 hp, ps16 hp, pa17 hp, ps17 hp, pa18 hp, ps18 hp, Option.bind_some, w32_eq, Int.toNat_natCast, if_true, if_false, h10]
    rw [if_neg (by omega)]
/-- r is the READY task below n that is treated first, or -1 -/
def isF (M : MM) (n : Nat) (r : Int) : Prop := (r = -1 ∧ ∀ t, t < n → M 2 t ≠ 1) ∨ ∃ b : Nat, r = b ∧ b < n ∧ M 2 b = 1 ∧ ∀ t, t < n → M 2 t = 1 → M 4 t < M 4 b ∨ (M 4 t = M 4 b ∧ b ≤ t)
theorem r_first (hp : p + 19 ≤ h.length) (ok : OkT M) (hpr : ∀ t : Nat, (t : Int) < M 1 0 → 0 ≤ M 4 t ∧ M 4 t ≤ 9) : ∃ r, FX6_firstReady (putM h p M) (p + 1) = some r ∧ isF M (M 1 0).toNat r := by
  obtain ⟨o1, o2, o3, o4⟩ := ok
  obtain ⟨n, hn⟩ := Int.eq_ofNat_of_zero_le o1.1
  unfold FX6_firstReady
  simp (disch := omega) only [pm_isO0 hp, pm_gfr0_0 hp, pm_gfr0_1 hp, pm_gfr0_2 hp, pm_gfi0_3 hp, pm_pfi0_3 hp, pm_isO1 hp, pm_gfi1_0 hp, pm_pfi1_0 hp, pm_gfi1_1 hp, pm_pfi1_1 hp, pm_gfr1_2 hp, pm_gfr1_3 hp, pm_gfr1_4 hp, pm_gfr1_5 hp, pm_gfr1_6 hp, pm_gfr1_7 hp, pm_gfr1_8 hp, pm_gfr1_9 hp, pm_gfr1_10 hp, pm_isO11 hp, pm_gfi11_0 hp, pm_pfi11_0 hp, pm_gfi11_1 hp, pm_pfi11_1 hp, pm_gfi11_2 hp, pm_pfi11_2 hp, pm_gfr11_3 hp, pm_gfr11_4 hp, pm_gfr11_5 hp, pm_gfr11_6 hp, pm_gfr11_7 hp, pm_gfr11_8 hp, pm_gfr11_9 hp, pa2 hp, ps2 hp, pa3 hp, ps3 hp, pa4 hp, ps4 hp, pa5 hp, ps5 hp, pa6 hp, ps6 hp, pa7 hp, ps7 hp, pa8 hp, ps8 hp, pa9 hp, ps9 hp, pa10 hp, ps10 hp, pa12 hp, ps12 hp, pa13 hp, ps13 hp, pa14 hp, ps14 hp, pa15 hp, ps15 hp, pa16 hp, ps16 hp, pa17 hp, ps17 hp, pa18 hp, ps18 hp, Option.bind_some, w32_eq, Int.toNat_natCast, if_true, if_false]
  have := lp_for (f := fun st : Int × Int => LX6_firstReady_4 (putM h p M) (p + 1) st.1 st.2) (fun j st => st.2 = (j : Int) ∧ isF M j st.1) (fun r => isF M n r) (a := 0) (b := n) (s := (-1, 0)) (by omega) (by omega) ⟨rfl, Or.inl ⟨rfl, fun t ht => by omega⟩⟩ (fun j st h1 h2 hI => ?_) (fun st hI => ?_)
  · obtain ⟨r, e1, e2⟩ := this
    exact ⟨r, by rw [e1]; rfl, by rw [hn, Int.toNat_natCast]; exact e2⟩
  · obtain ⟨v1, v2⟩ := st
    obtain ⟨rfl, hb⟩ := hI
    dsimp only at hb ⊢
    refine Or.inr ?_
    have hs := o3 j (by omega)
    have hq := hpr j (by omega)
    unfold LX6_firstReady_4 JX6_firstReady_41 JX6_firstReady_43
    simp (disch := omega) only [pm_isO0 hp, pm_gfr0_0 hp, pm_gfr0_1 hp, pm_gfr0_2 hp, pm_gfi0_3 hp, pm_pfi0_3 hp, pm_isO1 hp, pm_gfi1_0 hp, pm_pfi1_0 hp, pm_gfi1_1 hp, pm_pfi1_1 hp, pm_gfr1_2 hp, pm_gfr1_3 hp, pm_gfr1_4 hp, pm_gfr1_5 hp, pm_gfr1_6 hp, pm_gfr1_7 hp, pm_gfr1_8 hp, pm_gfr1_9 hp, pm_gfr1_10 hp, pm_isO11 hp, pm_gfi11_0 hp, pm_pfi11_0 hp, pm_gfi11_1 hp, pm_pfi11_1 hp, pm_gfi11_2 hp, pm_pfi11_2 hp, pm_gfr11_3 hp, pm_gfr11_4 hp, pm_gfr11_5 hp, pm_gfr11_6 hp, pm_gfr11_7 hp, pm_gfr11_8 hp, pm_gfr11_9 hp, pa2 hp, ps2 hp, pa3 hp, ps3 hp, pa4 hp, ps4 hp, pa5 hp, ps5 hp, pa6 hp, ps6 hp, pa7 hp, ps7 hp, pa8 hp, ps8 hp, pa9 hp, ps9 hp, pa10 hp, ps10 hp, pa12 hp, ps12 hp, pa13 hp, ps13 hp, pa14 hp, ps14 hp, pa15 hp, ps15 hp, pa16 hp, ps16 hp, pa17 hp, ps17 hp, pa18 hp, ps18 hp, Option.bind_some, w32_eq, Int.toNat_natCast, if_true, if_false, hn]
    rw [if_pos (by omega)]
    by_cases a : M 2 j = 1
    · rw [if_pos a]
      rcases hb with ⟨rfl, hb⟩ | ⟨b, rfl, hb1, hb2, hb3⟩
      · rw [if_pos (by decide)]
        refine ⟨_, rfl, rfl, Or.inr ⟨j, rfl, by omega, a, fun t ht h1t => ?_⟩⟩
        by_cases htj : t = j
        · subst htj; exact Or.inr ⟨rfl, Nat.le_refl _⟩
        · exact absurd h1t (hb t (by omega))
      · have hq2 := hpr b (by omega)
        simp (disch := omega) only [pm_isO0 hp, pm_gfr0_0 hp, pm_gfr0_1 hp, pm_gfr0_2 hp, pm_gfi0_3 hp, pm_pfi0_3 hp, pm_isO1 hp, pm_gfi1_0 hp, pm_pfi1_0 hp, pm_gfi1_1 hp, pm_pfi1_1 hp, pm_gfr1_2 hp, pm_gfr1_3 hp, pm_gfr1_4 hp, pm_gfr1_5 hp, pm_gfr1_6 hp, pm_gfr1_7 hp, pm_gfr1_8 hp, pm_gfr1_9 hp, pm_gfr1_10 hp, pm_isO11 hp, pm_gfi11_0 hp, pm_pfi11_0 hp, pm_gfi11_1 hp, pm_pfi11_1 hp, pm_gfi11_2 hp, pm_pfi11_2 hp, pm_gfr11_3 hp, pm_gfr11_4 hp, pm_gfr11_5 hp, pm_gfr11_6 hp, pm_gfr11_7 hp, pm_gfr11_8 hp, pm_gfr11_9 hp, pa2 hp, ps2 hp, pa3 hp, ps3 hp, pa4 hp, ps4 hp, pa5 hp, ps5 hp, pa6 hp, ps6 hp, pa7 hp, ps7 hp, pa8 hp, ps8 hp, pa9 hp, ps9 hp, pa10 hp, ps10 hp, pa12 hp, ps12 hp, pa13 hp, ps13 hp, pa14 hp, ps14 hp, pa15 hp, ps15 hp, pa16 hp, ps16 hp, pa17 hp, ps17 hp, pa18 hp, ps18 hp, Option.bind_some, w32_eq, Int.toNat_natCast, if_true, if_false]
        rw [if_neg (by omega)]
        by_cases c : M 4 b < M 4 j
        · rw [if_pos c]
          refine ⟨_, rfl, rfl, Or.inr ⟨j, rfl, by omega, a, fun t ht h1t => ?_⟩⟩
          by_cases htj : t = j
          · subst htj; exact Or.inr ⟨rfl, Nat.le_refl _⟩
          · rcases hb3 t (by omega) h1t with h | h
            · exact Or.inl (by omega)
            · exact Or.inl (by omega)
        · rw [if_neg c]
          refine ⟨_, rfl, rfl, Or.inr ⟨b, rfl, by omega, hb2, fun t ht h1t => ?_⟩⟩
          by_cases htj : t = j
          · subst htj
            by_cases d : M 4 t = M 4 b
            · exact Or.inr ⟨d, by omega⟩
            · exact Or.inl (by omega)
          · exact hb3 t (by omega) h1t
    · rw [if_neg a]
      refine ⟨_, rfl, rfl, ?_⟩
      rcases hb with ⟨rfl, hb⟩ | ⟨b, rfl, hb1, hb2, hb3⟩
      · refine Or.inl ⟨rfl, fun t ht => ?_⟩
        by_cases htj : t = j
        · subst htj; exact a
        · exact hb t (by omega)
      · refine Or.inr ⟨b, rfl, by omega, hb2, fun t ht h1t => ?_⟩
        by_cases htj : t = j
        · subst htj; exact absurd h1t a
        · exact hb3 t (by omega) h1t
  · obtain ⟨v1, v2⟩ := st
    obtain ⟨rfl, hb⟩ := hI
    dsimp only at hb ⊢
    refine ⟨v1, ?_, hb⟩
    unfold LX6_firstReady_4
    simp (disch := omega) only [pm_isO0 hp, pm_gfr0_0 hp, pm_gfr0_1 hp, pm_gfr0_2 hp, pm_gfi0_3 hp, pm_pfi0_3 hp, pm_isO1 hp, pm_gfi1_0 hp, pm_pfi1_0 hp, pm_gfi1_1 hp, pm_pfi1_1 hp, pm_gfr1_2 hp, pm_gfr1_3 hp, pm_gfr1_4 hp, pm_gfr1_5 hp, pm_gfr1_6 hp, pm_gfr1_7 hp, pm_gfr1_8 hp, pm_gfr1_9 hp, pm_gfr1_10 hp, pm_isO11 hp, pm_gfi11_0 hp, pm_pfi11_0 hp, pm_gfi11_1 hp, pm_pfi11_1 hp, pm_gfi11_2 hp, pm_pfi11_2 hp, pm_gfr11_3 hp, pm_gfr11_4 hp, pm_gfr11_5 hp, pm_gfr11_6 hp, pm_gfr11_7 hp, pm_gfr11_8 hp, pm_gfr11_9 hp, pa2 hp, ps2 hp, pa3 hp, ps3 hp, pa4 hp, ps4 hp, pa5 hp, ps5 hp, pa6 hp, ps6 hp, pa7 hp, ps7 hp, pa8 hp, ps8 hp, pa9 hp, ps9 hp, pa10 hp, ps10 hp, pa12 hp, ps12 hp, pa13 hp, ps13 hp, pa14 hp, ps14 hp, pa15 hp, ps15 hp, pa16 hp, ps16 hp, pa17 hp, ps17 hp, pa18 hp, ps18 hp, Option.bind_some, w32_eq, Int.toNat_natCast, if_true, if_false, hn]
    rw [if_neg (by omega)]
end
