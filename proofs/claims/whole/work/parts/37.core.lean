set_option linter.unusedVariables false
set_option linter.unusedSimpArgs false
/-! ===== the core table ===== -/
/-- a core's task and time -/
def runOk (M : MM) (c : Nat) : Prop := (M 14 c = -1 ∧ M 15 c = 0) ∨ ((0 ≤ M 14 c ∧ M 14 c < M 1 0) ∧ 1 ≤ M 15 c ∧ M 15 c ≤ 1019)
def OkC (M : MM) : Prop := (0 ≤ M 11 0 ∧ M 11 0 ≤ 4) ∧ (0 ≤ M 11 1 ∧ M 11 1 ≤ 8) ∧ (0 ≤ M 11 2 ∧ M 11 2 ≤ 20) ∧ (∀ c : Nat, c < 4 → 0 ≤ M 13 c ∧ M 13 c ≤ 8) ∧ (∀ c : Nat, (c : Int) < M 11 0 → runOk M c) ∧ (∀ c : Nat, c < 4 → M 18 c = 0 ∨ M 18 c = 1)
/-- r is the shortest queue below n that is not full, or -1 -/
def isQ (M : MM) (n : Nat) (r : Int) : Prop := (r = -1 ∧ ∀ c, c < n → ¬ M 13 c < M 11 1) ∨ ∃ b : Nat, r = b ∧ b < n ∧ M 13 b < M 11 1 ∧ ∀ c, c < n → M 13 c < M 11 1 → M 13 b < M 13 c ∨ (M 13 b = M 13 c ∧ b ≤ c)
/-- the queue for a home core -/
def isH (M : MM) (home : Nat) (r : Int) : Prop := ((home : Int) < M 11 0 ∧ M 13 home < M 11 1 ∧ r = home) ∨ (¬ ((home : Int) < M 11 0 ∧ M 13 home < M 11 1) ∧ isQ M (M 11 0).toNat r)
/-- b is the longest queue below n -/
def isL (M : MM) (n b : Nat) : Prop := b < n ∧ ∀ c, c < n → M 13 c < M 13 b ∨ (M 13 c = M 13 b ∧ b ≤ c)
/-- a place of a queue taken out -/
def shM (M : MM) (c k i : Nat) : MM := fun a j => if a = 12 ∧ 8 * c + k ≤ j ∧ j + 1 < 8 * c + i then M 12 (j + 1) else M a j
def tkM (M : MM) (c k : Nat) : MM := up (shM M c k (M 13 c).toNat) 13 c (M 13 c - 1)
def putQ (M : MM) (c : Nat) (t : Int) : MM := up (up M 12 (8 * c + (M 13 c).toNat) t) 13 c (M 13 c + 1)
def bsyM (M : MM) (n : Nat) : MM := fun a i => if a = 16 ∧ i < n ∧ 0 ≤ M 14 i then M 16 i + 1 else M a i
theorem up_ne {M : MM} {k i k' : Nat} {x : Int} (h : k' ≠ k) : up M k i x k' = M k' := by funext j; simp [up, h]
theorem up_eq {M : MM} {k i : Nat} {x : Int} : up M k i x k i = x := by simp [up]
theorem up_ni {M : MM} {k i i' : Nat} {x : Int} (h : i' ≠ i) : up M k i x k i' = M k i' := by simp [up, h]
section
variable {h : PH} {p : Nat} {M : MM}
theorem r_qf (hp : p + 19 ≤ h.length) (ok : OkC M) {home : Nat} (hh : home < 4) : ∃ r, FX0_queueFor (putM h p M) (p + 11) home = some r ∧ isH M home r := by
  obtain ⟨o1, o2, o3, o4, o5, o6⟩ := ok
  obtain ⟨n, hn⟩ := Int.eq_ofNat_of_zero_le o1.1
  have hJ : ∃ r, JX0_queueFor_27 (putM h p M) (p + 11) = some r ∧ isQ M n r := by
    unfold JX0_queueFor_27
    have := lp_for (f := fun st : Int × Int => LX0_queueFor_31 (putM h p M) (p + 11) st.1 st.2) (fun j st => st.2 = (j : Int) ∧ isQ M j st.1) (fun r => isQ M n r) (a := 0) (b := n) (s := (-1, 0)) (by omega) (by omega) ⟨rfl, Or.inl ⟨rfl, fun t ht => by omega⟩⟩ (fun j st h1 h2 hI => ?_) (fun st hI => ?_)
    · obtain ⟨r, e1, e2⟩ := this
      exact ⟨r, by rw [e1]; rfl, e2⟩
    · obtain ⟨v1, v2⟩ := st
      obtain ⟨rfl, hb⟩ := hI
      dsimp only at hb ⊢
      refine Or.inr ?_
      have hs := o4 j (by omega)
      unfold LX0_queueFor_31 JX0_queueFor_71 JX0_queueFor_73
      simp (disch := omega) only [pm_isO0 hp, pm_gfr0_0 hp, pm_gfr0_1 hp, pm_gfr0_2 hp, pm_gfi0_3 hp, pm_pfi0_3 hp, pm_isO1 hp, pm_gfi1_0 hp, pm_pfi1_0 hp, pm_gfi1_1 hp, pm_pfi1_1 hp, pm_gfr1_2 hp, pm_gfr1_3 hp, pm_gfr1_4 hp, pm_gfr1_5 hp, pm_gfr1_6 hp, pm_gfr1_7 hp, pm_gfr1_8 hp, pm_gfr1_9 hp, pm_gfr1_10 hp, pm_isO11 hp, pm_gfi11_0 hp, pm_pfi11_0 hp, pm_gfi11_1 hp, pm_pfi11_1 hp, pm_gfi11_2 hp, pm_pfi11_2 hp, pm_gfr11_3 hp, pm_gfr11_4 hp, pm_gfr11_5 hp, pm_gfr11_6 hp, pm_gfr11_7 hp, pm_gfr11_8 hp, pm_gfr11_9 hp, pa2 hp, ps2 hp, pa3 hp, ps3 hp, pa4 hp, ps4 hp, pa5 hp, ps5 hp, pa6 hp, ps6 hp, pa7 hp, ps7 hp, pa8 hp, ps8 hp, pa9 hp, ps9 hp, pa10 hp, ps10 hp, pa12 hp, ps12 hp, pa13 hp, ps13 hp, pa14 hp, ps14 hp, pa15 hp, ps15 hp, pa16 hp, ps16 hp, pa17 hp, ps17 hp, pa18 hp, ps18 hp, Option.bind_some, w32_eq, Int.toNat_natCast, if_true, if_false, hn]
      rw [if_pos (by omega)]
      by_cases a : M 13 j < M 11 1
      · rw [if_pos a]
        rcases hb with ⟨rfl, hb⟩ | ⟨b, rfl, hb1, hb2, hb3⟩
        · rw [if_pos (by decide)]
          refine ⟨_, rfl, rfl, Or.inr ⟨j, rfl, by omega, a, fun t ht h1t => ?_⟩⟩
          by_cases htj : t = j
          · subst htj; exact Or.inr ⟨rfl, Nat.le_refl _⟩
          · exact absurd h1t (hb t (by omega))
        · have hq2 := o4 b (by omega)
          simp (disch := omega) only [pm_isO0 hp, pm_gfr0_0 hp, pm_gfr0_1 hp, pm_gfr0_2 hp, pm_gfi0_3 hp, pm_pfi0_3 hp, pm_isO1 hp, pm_gfi1_0 hp, pm_pfi1_0 hp, pm_gfi1_1 hp, pm_pfi1_1 hp, pm_gfr1_2 hp, pm_gfr1_3 hp, pm_gfr1_4 hp, pm_gfr1_5 hp, pm_gfr1_6 hp, pm_gfr1_7 hp, pm_gfr1_8 hp, pm_gfr1_9 hp, pm_gfr1_10 hp, pm_isO11 hp, pm_gfi11_0 hp, pm_pfi11_0 hp, pm_gfi11_1 hp, pm_pfi11_1 hp, pm_gfi11_2 hp, pm_pfi11_2 hp, pm_gfr11_3 hp, pm_gfr11_4 hp, pm_gfr11_5 hp, pm_gfr11_6 hp, pm_gfr11_7 hp, pm_gfr11_8 hp, pm_gfr11_9 hp, pa2 hp, ps2 hp, pa3 hp, ps3 hp, pa4 hp, ps4 hp, pa5 hp, ps5 hp, pa6 hp, ps6 hp, pa7 hp, ps7 hp, pa8 hp, ps8 hp, pa9 hp, ps9 hp, pa10 hp, ps10 hp, pa12 hp, ps12 hp, pa13 hp, ps13 hp, pa14 hp, ps14 hp, pa15 hp, ps15 hp, pa16 hp, ps16 hp, pa17 hp, ps17 hp, pa18 hp, ps18 hp, Option.bind_some, w32_eq, Int.toNat_natCast, if_true, if_false]
          rw [if_neg (by omega)]
          by_cases c : M 13 j < M 13 b
          · rw [if_pos c]
            refine ⟨_, rfl, rfl, Or.inr ⟨j, rfl, by omega, a, fun t ht h1t => ?_⟩⟩
            by_cases htj : t = j
            · subst htj; exact Or.inr ⟨rfl, Nat.le_refl _⟩
            · rcases hb3 t (by omega) h1t with h | h
              · exact Or.inl (by omega)
              · exact Or.inl (by omega)
          · rw [if_neg c]
            refine ⟨_, rfl, rfl, Or.inr ⟨b, rfl, by omega, hb2, fun t ht h1t => ?_⟩⟩
            by_cases htj : t = j
            · subst htj
              by_cases d : M 13 b = M 13 t
              · exact Or.inr ⟨d, by omega⟩
              · exact Or.inl (by omega)
            · exact hb3 t (by omega) h1t
      · rw [if_neg a]
        refine ⟨_, rfl, rfl, ?_⟩
        rcases hb with ⟨rfl, hb⟩ | ⟨b, rfl, hb1, hb2, hb3⟩
        · refine Or.inl ⟨rfl, fun t ht => ?_⟩
          by_cases htj : t = j
          · subst htj; exact a
          · exact hb t (by omega)
        · refine Or.inr ⟨b, rfl, by omega, hb2, fun t ht h1t => ?_⟩
          by_cases htj : t = j
          · subst htj; exact absurd h1t a
          · exact hb3 t (by omega) h1t
    · obtain ⟨v1, v2⟩ := st
      obtain ⟨rfl, hb⟩ := hI
      dsimp only at hb ⊢
      refine ⟨v1, ?_, hb⟩
      unfold LX0_queueFor_31
      simp (disch := omega) only [pm_isO0 hp, pm_gfr0_0 hp, pm_gfr0_1 hp, pm_gfr0_2 hp, pm_gfi0_3 hp, pm_pfi0_3 hp, pm_isO1 hp, pm_gfi1_0 hp, pm_pfi1_0 hp, pm_gfi1_1 hp, pm_pfi1_1 hp, pm_gfr1_2 hp, pm_gfr1_3 hp, pm_gfr1_4 hp, pm_gfr1_5 hp, pm_gfr1_6 hp, pm_gfr1_7 hp, pm_gfr1_8 hp, pm_gfr1_9 hp, pm_gfr1_10 hp, pm_isO11 hp, pm_gfi11_0 hp, pm_pfi11_0 hp, pm_gfi11_1 hp, pm_pfi11_1 hp, pm_gfi11_2 hp, pm_pfi11_2 hp, pm_gfr11_3 hp, pm_gfr11_4 hp, pm_gfr11_5 hp, pm_gfr11_6 hp, pm_gfr11_7 hp, pm_gfr11_8 hp, pm_gfr11_9 hp, pa2 hp, ps2 hp, pa3 hp, ps3 hp, pa4 hp, ps4 hp, pa5 hp, ps5 hp, pa6 hp, ps6 hp, pa7 hp, ps7 hp, pa8 hp, ps8 hp, pa9 hp, ps9 hp, pa10 hp, ps10 hp, pa12 hp, ps12 hp, pa13 hp, ps13 hp, pa14 hp, ps14 hp, pa15 hp, ps15 hp, pa16 hp, ps16 hp, pa17 hp, ps17 hp, pa18 hp, ps18 hp, Option.bind_some, w32_eq, Int.toNat_natCast, if_true, if_false, hn]
      rw [if_neg (by omega)]
  obtain ⟨r, e1, e2⟩ := hJ
  have hs := o4 home hh
  unfold FX0_queueFor isH
  simp (disch := omega) only [pm_isO0 hp, pm_gfr0_0 hp, pm_gfr0_1 hp, pm_gfr0_2 hp, pm_gfi0_3 hp, pm_pfi0_3 hp, pm_isO1 hp, pm_gfi1_0 hp, pm_pfi1_0 hp, pm_gfi1_1 hp, pm_pfi1_1 hp, pm_gfr1_2 hp, pm_gfr1_3 hp, pm_gfr1_4 hp, pm_gfr1_5 hp, pm_gfr1_6 hp, pm_gfr1_7 hp, pm_gfr1_8 hp, pm_gfr1_9 hp, pm_gfr1_10 hp, pm_isO11 hp, pm_gfi11_0 hp, pm_pfi11_0 hp, pm_gfi11_1 hp, pm_pfi11_1 hp, pm_gfi11_2 hp, pm_pfi11_2 hp, pm_gfr11_3 hp, pm_gfr11_4 hp, pm_gfr11_5 hp, pm_gfr11_6 hp, pm_gfr11_7 hp, pm_gfr11_8 hp, pm_gfr11_9 hp, pa2 hp, ps2 hp, pa3 hp, ps3 hp, pa4 hp, ps4 hp, pa5 hp, ps5 hp, pa6 hp, ps6 hp, pa7 hp, ps7 hp, pa8 hp, ps8 hp, pa9 hp, ps9 hp, pa10 hp, ps10 hp, pa12 hp, ps12 hp, pa13 hp, ps13 hp, pa14 hp, ps14 hp, pa15 hp, ps15 hp, pa16 hp, ps16 hp, pa17 hp, ps17 hp, pa18 hp, ps18 hp, Option.bind_some, w32_eq, Int.toNat_natCast, if_true, if_false, hn, e1]
  rw [if_neg (show ¬ (home : Int) < 0 by omega)]
  by_cases a : (home : Int) < n
  · rw [if_pos a]
    by_cases b : M 13 home < M 11 1
    · rw [if_pos b]; exact ⟨_, rfl, Or.inl ⟨a, b, rfl⟩⟩
    · rw [if_neg b]; exact ⟨_, rfl, Or.inr ⟨fun q => b q.2, e2⟩⟩
  · rw [if_neg a]; exact ⟨_, rfl, Or.inr ⟨fun q => a q.1, e2⟩⟩
theorem r_putL (hp : p + 19 ≤ h.length) (ok : OkC M) {c : Nat} (hc : c < 4) (hs : M 13 c < 8) {t : Int} : FX0_putLast (putM h p M) (p + 11) c t = some (putM h p (putQ M c t)) := by
  obtain ⟨o1, o2, o3, o4, o5, o6⟩ := ok
  have h1 := o4 c hc
  unfold FX0_putLast JX0_putLast_38 putQ
  simp (disch := omega) only [pm_isO0 hp, pm_gfr0_0 hp, pm_gfr0_1 hp, pm_gfr0_2 hp, pm_gfi0_3 hp, pm_pfi0_3 hp, pm_isO1 hp, pm_gfi1_0 hp, pm_pfi1_0 hp, pm_gfi1_1 hp, pm_pfi1_1 hp, pm_gfr1_2 hp, pm_gfr1_3 hp, pm_gfr1_4 hp, pm_gfr1_5 hp, pm_gfr1_6 hp, pm_gfr1_7 hp, pm_gfr1_8 hp, pm_gfr1_9 hp, pm_gfr1_10 hp, pm_isO11 hp, pm_gfi11_0 hp, pm_pfi11_0 hp, pm_gfi11_1 hp, pm_pfi11_1 hp, pm_gfi11_2 hp, pm_pfi11_2 hp, pm_gfr11_3 hp, pm_gfr11_4 hp, pm_gfr11_5 hp, pm_gfr11_6 hp, pm_gfr11_7 hp, pm_gfr11_8 hp, pm_gfr11_9 hp, pa2 hp, ps2 hp, pa3 hp, ps3 hp, pa4 hp, ps4 hp, pa5 hp, ps5 hp, pa6 hp, ps6 hp, pa7 hp, ps7 hp, pa8 hp, ps8 hp, pa9 hp, ps9 hp, pa10 hp, ps10 hp, pa12 hp, ps12 hp, pa13 hp, ps13 hp, pa14 hp, ps14 hp, pa15 hp, ps15 hp, pa16 hp, ps16 hp, pa17 hp, ps17 hp, pa18 hp, ps18 hp, Option.bind_some, w32_eq, Int.toNat_natCast, if_true, if_false]
  rw [if_pos (by omega)]
  simp (disch := omega) only [pm_isO0 hp, pm_gfr0_0 hp, pm_gfr0_1 hp, pm_gfr0_2 hp, pm_gfi0_3 hp, pm_pfi0_3 hp, pm_isO1 hp, pm_gfi1_0 hp, pm_pfi1_0 hp, pm_gfi1_1 hp, pm_pfi1_1 hp, pm_gfr1_2 hp, pm_gfr1_3 hp, pm_gfr1_4 hp, pm_gfr1_5 hp, pm_gfr1_6 hp, pm_gfr1_7 hp, pm_gfr1_8 hp, pm_gfr1_9 hp, pm_gfr1_10 hp, pm_isO11 hp, pm_gfi11_0 hp, pm_pfi11_0 hp, pm_gfi11_1 hp, pm_pfi11_1 hp, pm_gfi11_2 hp, pm_pfi11_2 hp, pm_gfr11_3 hp, pm_gfr11_4 hp, pm_gfr11_5 hp, pm_gfr11_6 hp, pm_gfr11_7 hp, pm_gfr11_8 hp, pm_gfr11_9 hp, pa2 hp, ps2 hp, pa3 hp, ps3 hp, pa4 hp, ps4 hp, pa5 hp, ps5 hp, pa6 hp, ps6 hp, pa7 hp, ps7 hp, pa8 hp, ps8 hp, pa9 hp, ps9 hp, pa10 hp, ps10 hp, pa12 hp, ps12 hp, pa13 hp, ps13 hp, pa14 hp, ps14 hp, pa15 hp, ps15 hp, pa16 hp, ps16 hp, pa17 hp, ps17 hp, pa18 hp, ps18 hp, Option.bind_some, w32_eq, Int.toNat_natCast, if_true, if_false, up_ne (show (13 : Nat) ≠ 12 by decide)]
  rw [show ((c : Int) * 8 + M 13 c).toNat = 8 * c + (M 13 c).toNat by omega]
theorem r_take (hp : p + 19 ≤ h.length) (ok : OkC M) {c k : Nat} (hc : c < 4) (hk : (k : Int) < M 13 c) : FX0_takeAt (putM h p M) (p + 11) c k = some (M 12 (8 * c + k), putM h p (tkM M c k)) := by
  obtain ⟨o1, o2, o3, o4, o5, o6⟩ := ok
  have h1 := o4 c hc
  obtain ⟨n, hn⟩ := Int.eq_ofNat_of_zero_le h1.1
  unfold FX0_takeAt
  simp (disch := omega) only [pm_isO0 hp, pm_gfr0_0 hp, pm_gfr0_1 hp, pm_gfr0_2 hp, pm_gfi0_3 hp, pm_pfi0_3 hp, pm_isO1 hp, pm_gfi1_0 hp, pm_pfi1_0 hp, pm_gfi1_1 hp, pm_pfi1_1 hp, pm_gfr1_2 hp, pm_gfr1_3 hp, pm_gfr1_4 hp, pm_gfr1_5 hp, pm_gfr1_6 hp, pm_gfr1_7 hp, pm_gfr1_8 hp, pm_gfr1_9 hp, pm_gfr1_10 hp, pm_isO11 hp, pm_gfi11_0 hp, pm_pfi11_0 hp, pm_gfi11_1 hp, pm_pfi11_1 hp, pm_gfi11_2 hp, pm_pfi11_2 hp, pm_gfr11_3 hp, pm_gfr11_4 hp, pm_gfr11_5 hp, pm_gfr11_6 hp, pm_gfr11_7 hp, pm_gfr11_8 hp, pm_gfr11_9 hp, pa2 hp, ps2 hp, pa3 hp, ps3 hp, pa4 hp, ps4 hp, pa5 hp, ps5 hp, pa6 hp, ps6 hp, pa7 hp, ps7 hp, pa8 hp, ps8 hp, pa9 hp, ps9 hp, pa10 hp, ps10 hp, pa12 hp, ps12 hp, pa13 hp, ps13 hp, pa14 hp, ps14 hp, pa15 hp, ps15 hp, pa16 hp, ps16 hp, pa17 hp, ps17 hp, pa18 hp, ps18 hp, Option.bind_some, w32_eq, Int.toNat_natCast, if_true, if_false]
  rw [if_neg (by omega), if_pos hk]
  have := lp_det (f := fun st : Int × PH => LX0_takeAt_36 (p + 11) c ((c : Int) * 8) (M 12 ((c : Int) * 8 + k).toNat) st.1 st.2) (fun i => ((i : Int), putM h p (shM M c k i))) (a := k + 1) (b := n) (r := putM h p (shM M c k n)) (by omega) (by omega) (fun i h1 h2 => ?_) ?_
  · rw [show shM M c k (k + 1) = M by funext a j; unfold shM; rw [if_neg (by omega)]] at this
    rw [show ((k + 1 : Nat) : Int) = (k : Int) + 1 by omega] at this
    rw [this]
    have e13 : shM M c k n 13 c = n := by unfold shM; rw [if_neg (by omega), hn]
    simp (disch := omega) only [pm_isO0 hp, pm_gfr0_0 hp, pm_gfr0_1 hp, pm_gfr0_2 hp, pm_gfi0_3 hp, pm_pfi0_3 hp, pm_isO1 hp, pm_gfi1_0 hp, pm_pfi1_0 hp, pm_gfi1_1 hp, pm_pfi1_1 hp, pm_gfr1_2 hp, pm_gfr1_3 hp, pm_gfr1_4 hp, pm_gfr1_5 hp, pm_gfr1_6 hp, pm_gfr1_7 hp, pm_gfr1_8 hp, pm_gfr1_9 hp, pm_gfr1_10 hp, pm_isO11 hp, pm_gfi11_0 hp, pm_pfi11_0 hp, pm_gfi11_1 hp, pm_pfi11_1 hp, pm_gfi11_2 hp, pm_pfi11_2 hp, pm_gfr11_3 hp, pm_gfr11_4 hp, pm_gfr11_5 hp, pm_gfr11_6 hp, pm_gfr11_7 hp, pm_gfr11_8 hp, pm_gfr11_9 hp, pa2 hp, ps2 hp, pa3 hp, ps3 hp, pa4 hp, ps4 hp, pa5 hp, ps5 hp, pa6 hp, ps6 hp, pa7 hp, ps7 hp, pa8 hp, ps8 hp, pa9 hp, ps9 hp, pa10 hp, ps10 hp, pa12 hp, ps12 hp, pa13 hp, ps13 hp, pa14 hp, ps14 hp, pa15 hp, ps15 hp, pa16 hp, ps16 hp, pa17 hp, ps17 hp, pa18 hp, ps18 hp, Option.bind_some, w32_eq, Int.toNat_natCast, if_true, if_false, e13]
    unfold tkM
    rw [hn, Int.toNat_natCast, show ((c : Int) * 8 + k).toNat = 8 * c + k by omega]
  · have e13 : shM M c k i 13 c = n := by unfold shM; rw [if_neg (by omega), hn]
    have e12 : shM M c k i 12 (8 * c + i) = M 12 (8 * c + i) := by unfold shM; rw [if_neg (by omega)]
    unfold LX0_takeAt_36
    simp (disch := omega) only [pm_isO0 hp, pm_gfr0_0 hp, pm_gfr0_1 hp, pm_gfr0_2 hp, pm_gfi0_3 hp, pm_pfi0_3 hp, pm_isO1 hp, pm_gfi1_0 hp, pm_pfi1_0 hp, pm_gfi1_1 hp, pm_pfi1_1 hp, pm_gfr1_2 hp, pm_gfr1_3 hp, pm_gfr1_4 hp, pm_gfr1_5 hp, pm_gfr1_6 hp, pm_gfr1_7 hp, pm_gfr1_8 hp, pm_gfr1_9 hp, pm_gfr1_10 hp, pm_isO11 hp, pm_gfi11_0 hp, pm_pfi11_0 hp, pm_gfi11_1 hp, pm_pfi11_1 hp, pm_gfi11_2 hp, pm_pfi11_2 hp, pm_gfr11_3 hp, pm_gfr11_4 hp, pm_gfr11_5 hp, pm_gfr11_6 hp, pm_gfr11_7 hp, pm_gfr11_8 hp, pm_gfr11_9 hp, pa2 hp, ps2 hp, pa3 hp, ps3 hp, pa4 hp, ps4 hp, pa5 hp, ps5 hp, pa6 hp, ps6 hp, pa7 hp, ps7 hp, pa8 hp, ps8 hp, pa9 hp, ps9 hp, pa10 hp, ps10 hp, pa12 hp, ps12 hp, pa13 hp, ps13 hp, pa14 hp, ps14 hp, pa15 hp, ps15 hp, pa16 hp, ps16 hp, pa17 hp, ps17 hp, pa18 hp, ps18 hp, Option.bind_some, w32_eq, Int.toNat_natCast, if_true, if_false, e13]
    rw [if_pos (by omega)]
    rw [show ((c : Int) * 8 + i).toNat = 8 * c + i by omega, show ((c : Int) * 8 + i - 1).toNat = 8 * c + i - 1 by omega, e12]
    congr 3
    congr 1
    funext a j
    unfold up shM
    by_cases ha : a = 12
    · subst ha
      by_cases hj : j = 8 * c + i - 1
      · subst hj
        rw [if_pos ⟨rfl, rfl⟩, if_pos ⟨rfl, by omega, by omega⟩]
        congr 1; omega
      · rw [if_neg (fun q => hj q.2)]
        by_cases hr : 8 * c + k ≤ j ∧ j + 1 < 8 * c + i
        · rw [if_pos ⟨rfl, hr⟩, if_pos ⟨rfl, by omega, by omega⟩]
        · rw [if_neg (fun q => hr q.2), if_neg (fun q => by omega)]
    · simp [ha]
  · have e13 : shM M c k n 13 c = n := by unfold shM; rw [if_neg (by omega), hn]
    unfold LX0_takeAt_36
    simp (disch := omega) only [pm_isO0 hp, pm_gfr0_0 hp, pm_gfr0_1 hp, pm_gfr0_2 hp, pm_gfi0_3 hp, pm_pfi0_3 hp, pm_isO1 hp, pm_gfi1_0 hp, pm_pfi1_0 hp, pm_gfi1_1 hp, pm_pfi1_1 hp, pm_gfr1_2 hp, pm_gfr1_3 hp, pm_gfr1_4 hp, pm_gfr1_5 hp, pm_gfr1_6 hp, pm_gfr1_7 hp, pm_gfr1_8 hp, pm_gfr1_9 hp, pm_gfr1_10 hp, pm_isO11 hp, pm_gfi11_0 hp, pm_pfi11_0 hp, pm_gfi11_1 hp, pm_pfi11_1 hp, pm_gfi11_2 hp, pm_pfi11_2 hp, pm_gfr11_3 hp, pm_gfr11_4 hp, pm_gfr11_5 hp, pm_gfr11_6 hp, pm_gfr11_7 hp, pm_gfr11_8 hp, pm_gfr11_9 hp, pa2 hp, ps2 hp, pa3 hp, ps3 hp, pa4 hp, ps4 hp, pa5 hp, ps5 hp, pa6 hp, ps6 hp, pa7 hp, ps7 hp, pa8 hp, ps8 hp, pa9 hp, ps9 hp, pa10 hp, ps10 hp, pa12 hp, ps12 hp, pa13 hp, ps13 hp, pa14 hp, ps14 hp, pa15 hp, ps15 hp, pa16 hp, ps16 hp, pa17 hp, ps17 hp, pa18 hp, ps18 hp, Option.bind_some, w32_eq, Int.toNat_natCast, if_true, if_false, e13]
    rw [if_neg (by omega)]
theorem r_long (hp : p + 19 ≤ h.length) (ok : OkC M) (hn : 1 ≤ M 11 0) : ∃ b : Nat, FX0_longestQueue (putM h p M) (p + 11) = some (b : Int) ∧ isL M (M 11 0).toNat b := by
  obtain ⟨o1, o2, o3, o4, o5, o6⟩ := ok
  obtain ⟨n, hn⟩ := Int.eq_ofNat_of_zero_le o1.1
  unfold FX0_longestQueue
  simp (disch := omega) only [pm_isO0 hp, pm_gfr0_0 hp, pm_gfr0_1 hp, pm_gfr0_2 hp, pm_gfi0_3 hp, pm_pfi0_3 hp, pm_isO1 hp, pm_gfi1_0 hp, pm_pfi1_0 hp, pm_gfi1_1 hp, pm_pfi1_1 hp, pm_gfr1_2 hp, pm_gfr1_3 hp, pm_gfr1_4 hp, pm_gfr1_5 hp, pm_gfr1_6 hp, pm_gfr1_7 hp, pm_gfr1_8 hp, pm_gfr1_9 hp, pm_gfr1_10 hp, pm_isO11 hp, pm_gfi11_0 hp, pm_pfi11_0 hp, pm_gfi11_1 hp, pm_pfi11_1 hp, pm_gfi11_2 hp, pm_pfi11_2 hp, pm_gfr11_3 hp, pm_gfr11_4 hp, pm_gfr11_5 hp, pm_gfr11_6 hp, pm_gfr11_7 hp, pm_gfr11_8 hp, pm_gfr11_9 hp, pa2 hp, ps2 hp, pa3 hp, ps3 hp, pa4 hp, ps4 hp, pa5 hp, ps5 hp, pa6 hp, ps6 hp, pa7 hp, ps7 hp, pa8 hp, ps8 hp, pa9 hp, ps9 hp, pa10 hp, ps10 hp, pa12 hp, ps12 hp, pa13 hp, ps13 hp, pa14 hp, ps14 hp, pa15 hp, ps15 hp, pa16 hp, ps16 hp, pa17 hp, ps17 hp, pa18 hp, ps18 hp, Option.bind_some, w32_eq, Int.toNat_natCast, if_true, if_false]
  have := lp_for (f := fun st : Int × Int => LX0_longestQueue_4 (putM h p M) (p + 11) st.1 st.2) (fun j st => st.2 = (j : Int) ∧ ∃ b : Nat, st.1 = b ∧ isL M j b) (fun r => ∃ b : Nat, r = b ∧ isL M n b) (a := 1) (b := n) (s := (0, 1)) (by omega) (by omega) ⟨rfl, 0, rfl, by omega, fun t ht => Or.inr ⟨by rw [show t = 0 by omega], by omega⟩⟩ (fun j st h1 h2 hI => ?_) (fun st hI => ?_)
  · obtain ⟨r, e1, b, rfl, e2⟩ := this
    exact ⟨b, by rw [e1]; rfl, by rw [hn, Int.toNat_natCast]; exact e2⟩
  · obtain ⟨v1, v2⟩ := st
    obtain ⟨rfl, b, rfl, hb1, hb2⟩ := hI
    dsimp only
    refine Or.inr ?_
    have hs := o4 j (by omega)
    have hs2 := o4 b (by omega)
    unfold LX0_longestQueue_4 JX0_longestQueue_29
    simp (disch := omega) only [pm_isO0 hp, pm_gfr0_0 hp, pm_gfr0_1 hp, pm_gfr0_2 hp, pm_gfi0_3 hp, pm_pfi0_3 hp, pm_isO1 hp, pm_gfi1_0 hp, pm_pfi1_0 hp, pm_gfi1_1 hp, pm_pfi1_1 hp, pm_gfr1_2 hp, pm_gfr1_3 hp, pm_gfr1_4 hp, pm_gfr1_5 hp, pm_gfr1_6 hp, pm_gfr1_7 hp, pm_gfr1_8 hp, pm_gfr1_9 hp, pm_gfr1_10 hp, pm_isO11 hp, pm_gfi11_0 hp, pm_pfi11_0 hp, pm_gfi11_1 hp, pm_pfi11_1 hp, pm_gfi11_2 hp, pm_pfi11_2 hp, pm_gfr11_3 hp, pm_gfr11_4 hp, pm_gfr11_5 hp, pm_gfr11_6 hp, pm_gfr11_7 hp, pm_gfr11_8 hp, pm_gfr11_9 hp, pa2 hp, ps2 hp, pa3 hp, ps3 hp, pa4 hp, ps4 hp, pa5 hp, ps5 hp, pa6 hp, ps6 hp, pa7 hp, ps7 hp, pa8 hp, ps8 hp, pa9 hp, ps9 hp, pa10 hp, ps10 hp, pa12 hp, ps12 hp, pa13 hp, ps13 hp, pa14 hp, ps14 hp, pa15 hp, ps15 hp, pa16 hp, ps16 hp, pa17 hp, ps17 hp, pa18 hp, ps18 hp, Option.bind_some, w32_eq, Int.toNat_natCast, if_true, if_false, hn]
    rw [if_pos (by omega)]
    by_cases c : M 13 b < M 13 j
    · rw [if_pos c]
      refine ⟨_, rfl, rfl, j, rfl, by omega, fun t ht => ?_⟩
      by_cases htj : t = j
      · subst htj; exact Or.inr ⟨rfl, Nat.le_refl _⟩
      · rcases hb2 t (by omega) with h | h
        · exact Or.inl (by omega)
        · exact Or.inl (by omega)
    · rw [if_neg c]
      refine ⟨_, rfl, rfl, b, rfl, by omega, fun t ht => ?_⟩
      by_cases htj : t = j
      · subst htj
        by_cases d : M 13 t = M 13 b
        · exact Or.inr ⟨d, by omega⟩
        · exact Or.inl (by omega)
      · exact hb2 t (by omega)
  · obtain ⟨v1, v2⟩ := st
    obtain ⟨rfl, b, rfl, hb⟩ := hI
    dsimp only
    refine ⟨_, ?_, b, rfl, hb⟩
    unfold LX0_longestQueue_4
    simp (disch := omega) only [pm_isO0 hp, pm_gfr0_0 hp, pm_gfr0_1 hp, pm_gfr0_2 hp, pm_gfi0_3 hp, pm_pfi0_3 hp, pm_isO1 hp, pm_gfi1_0 hp, pm_pfi1_0 hp, pm_gfi1_1 hp, pm_pfi1_1 hp, pm_gfr1_2 hp, pm_gfr1_3 hp, pm_gfr1_4 hp, pm_gfr1_5 hp, pm_gfr1_6 hp, pm_gfr1_7 hp, pm_gfr1_8 hp, pm_gfr1_9 hp, pm_gfr1_10 hp, pm_isO11 hp, pm_gfi11_0 hp, pm_pfi11_0 hp, pm_gfi11_1 hp, pm_pfi11_1 hp, pm_gfi11_2 hp, pm_pfi11_2 hp, pm_gfr11_3 hp, pm_gfr11_4 hp, pm_gfr11_5 hp, pm_gfr11_6 hp, pm_gfr11_7 hp, pm_gfr11_8 hp, pm_gfr11_9 hp, pa2 hp, ps2 hp, pa3 hp, ps3 hp, pa4 hp, ps4 hp, pa5 hp, ps5 hp, pa6 hp, ps6 hp, pa7 hp, ps7 hp, pa8 hp, ps8 hp, pa9 hp, ps9 hp, pa10 hp, ps10 hp, pa12 hp, ps12 hp, pa13 hp, ps13 hp, pa14 hp, ps14 hp, pa15 hp, ps15 hp, pa16 hp, ps16 hp, pa17 hp, ps17 hp, pa18 hp, ps18 hp, Option.bind_some, w32_eq, Int.toNat_natCast, if_true, if_false, hn]
    rw [if_neg (by omega)]
theorem r_busy (hp : p + 19 ≤ h.length) (hT : M 1 0 ≤ 32) (ok : OkC M) : FX0_countBusy (putM h p M) (p + 11) = some (putM h p (bsyM M (M 11 0).toNat)) := by
  obtain ⟨o1, o2, o3, o4, o5, o6⟩ := ok
  obtain ⟨n, hn⟩ := Int.eq_ofNat_of_zero_le o1.1
  unfold FX0_countBusy
  simp (disch := omega) only [pm_isO0 hp, pm_gfr0_0 hp, pm_gfr0_1 hp, pm_gfr0_2 hp, pm_gfi0_3 hp, pm_pfi0_3 hp, pm_isO1 hp, pm_gfi1_0 hp, pm_pfi1_0 hp, pm_gfi1_1 hp, pm_pfi1_1 hp, pm_gfr1_2 hp, pm_gfr1_3 hp, pm_gfr1_4 hp, pm_gfr1_5 hp, pm_gfr1_6 hp, pm_gfr1_7 hp, pm_gfr1_8 hp, pm_gfr1_9 hp, pm_gfr1_10 hp, pm_isO11 hp, pm_gfi11_0 hp, pm_pfi11_0 hp, pm_gfi11_1 hp, pm_pfi11_1 hp, pm_gfi11_2 hp, pm_pfi11_2 hp, pm_gfr11_3 hp, pm_gfr11_4 hp, pm_gfr11_5 hp, pm_gfr11_6 hp, pm_gfr11_7 hp, pm_gfr11_8 hp, pm_gfr11_9 hp, pa2 hp, ps2 hp, pa3 hp, ps3 hp, pa4 hp, ps4 hp, pa5 hp, ps5 hp, pa6 hp, ps6 hp, pa7 hp, ps7 hp, pa8 hp, ps8 hp, pa9 hp, ps9 hp, pa10 hp, ps10 hp, pa12 hp, ps12 hp, pa13 hp, ps13 hp, pa14 hp, ps14 hp, pa15 hp, ps15 hp, pa16 hp, ps16 hp, pa17 hp, ps17 hp, pa18 hp, ps18 hp, Option.bind_some, w32_eq, Int.toNat_natCast, if_true, if_false]
  have := lp_det (f := fun st : Int × PH => LX0_countBusy_2 (p + 11) st.1 st.2) (fun j => ((j : Int), putM h p (bsyM M j))) (a := 0) (b := n) (r := putM h p (bsyM M n)) (by omega) (by omega) (fun j h1 h2 => ?_) ?_
  · rw [show bsyM M 0 = M by funext a i; simp [bsyM]] at this
    rw [hn, Int.toNat_natCast]
    exact (congrArg (fun o => Option.bind o some) this).trans rfl
  · have hr := o5 j (by omega)
    have e0 : bsyM M j 11 0 = n := by simp [bsyM, hn]
    have e1 : bsyM M j 14 j = M 14 j := by simp [bsyM]
    have e2 : bsyM M j 16 j = M 16 j := by simp [bsyM]
    unfold LX0_countBusy_2 JX0_countBusy_29
    have hw : -2147483648 ≤ M 14 j ∧ M 14 j < 2147483648 := by unfold runOk at hr; omega
    simp (disch := omega) only [pm_isO0 hp, pm_gfr0_0 hp, pm_gfr0_1 hp, pm_gfr0_2 hp, pm_gfi0_3 hp, pm_pfi0_3 hp, pm_isO1 hp, pm_gfi1_0 hp, pm_pfi1_0 hp, pm_gfi1_1 hp, pm_pfi1_1 hp, pm_gfr1_2 hp, pm_gfr1_3 hp, pm_gfr1_4 hp, pm_gfr1_5 hp, pm_gfr1_6 hp, pm_gfr1_7 hp, pm_gfr1_8 hp, pm_gfr1_9 hp, pm_gfr1_10 hp, pm_isO11 hp, pm_gfi11_0 hp, pm_pfi11_0 hp, pm_gfi11_1 hp, pm_pfi11_1 hp, pm_gfi11_2 hp, pm_pfi11_2 hp, pm_gfr11_3 hp, pm_gfr11_4 hp, pm_gfr11_5 hp, pm_gfr11_6 hp, pm_gfr11_7 hp, pm_gfr11_8 hp, pm_gfr11_9 hp, pa2 hp, ps2 hp, pa3 hp, ps3 hp, pa4 hp, ps4 hp, pa5 hp, ps5 hp, pa6 hp, ps6 hp, pa7 hp, ps7 hp, pa8 hp, ps8 hp, pa9 hp, ps9 hp, pa10 hp, ps10 hp, pa12 hp, ps12 hp, pa13 hp, ps13 hp, pa14 hp, ps14 hp, pa15 hp, ps15 hp, pa16 hp, ps16 hp, pa17 hp, ps17 hp, pa18 hp, ps18 hp, Option.bind_some, w32_eq, Int.toNat_natCast, if_true, if_false, e0, e1, e2]
    rw [if_pos (by omega)]
    by_cases a : M 14 j < 0
    · rw [if_pos a]
      congr 3
      congr 1
      funext b i
      unfold bsyM
      by_cases hij : i = j
      · subst hij; rw [if_neg (by omega), if_neg (by omega)]
      · simp only [show (i < j + 1) = (i < j) by simp only [eq_iff_iff]; omega]
    · rw [if_neg a]
      congr 3
      congr 1
      funext b i
      unfold up
      by_cases hij : b = 16 ∧ i = j
      · obtain ⟨rfl, rfl⟩ := hij
        rw [if_pos ⟨rfl, rfl⟩]
        unfold bsyM
        rw [if_pos ⟨rfl, by omega, by omega⟩]
      · rw [if_neg hij]
        unfold bsyM
        by_cases hb : b = 16
        · have : i ≠ j := fun e => hij ⟨hb, e⟩
          simp only [show (i < j + 1) = (i < j) by simp only [eq_iff_iff]; omega]
        · simp [hb]
  · have e0 : bsyM M n 11 0 = n := by simp [bsyM, hn]
    unfold LX0_countBusy_2
    simp (disch := omega) only [pm_isO0 hp, pm_gfr0_0 hp, pm_gfr0_1 hp, pm_gfr0_2 hp, pm_gfi0_3 hp, pm_pfi0_3 hp, pm_isO1 hp, pm_gfi1_0 hp, pm_pfi1_0 hp, pm_gfi1_1 hp, pm_pfi1_1 hp, pm_gfr1_2 hp, pm_gfr1_3 hp, pm_gfr1_4 hp, pm_gfr1_5 hp, pm_gfr1_6 hp, pm_gfr1_7 hp, pm_gfr1_8 hp, pm_gfr1_9 hp, pm_gfr1_10 hp, pm_isO11 hp, pm_gfi11_0 hp, pm_pfi11_0 hp, pm_gfi11_1 hp, pm_pfi11_1 hp, pm_gfi11_2 hp, pm_pfi11_2 hp, pm_gfr11_3 hp, pm_gfr11_4 hp, pm_gfr11_5 hp, pm_gfr11_6 hp, pm_gfr11_7 hp, pm_gfr11_8 hp, pm_gfr11_9 hp, pa2 hp, ps2 hp, pa3 hp, ps3 hp, pa4 hp, ps4 hp, pa5 hp, ps5 hp, pa6 hp, ps6 hp, pa7 hp, ps7 hp, pa8 hp, ps8 hp, pa9 hp, ps9 hp, pa10 hp, ps10 hp, pa12 hp, ps12 hp, pa13 hp, ps13 hp, pa14 hp, ps14 hp, pa15 hp, ps15 hp, pa16 hp, ps16 hp, pa17 hp, ps17 hp, pa18 hp, ps18 hp, Option.bind_some, w32_eq, Int.toNat_natCast, if_true, if_false, e0]
    rw [if_neg (by omega)]
end
