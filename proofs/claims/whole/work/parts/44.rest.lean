set_option linter.unusedVariables false
set_option linter.unusedSimpArgs false
/-! ===== adding, starting again, single bits ===== -/
def addM (M : MM) (d pr ho be : Int) : MM := up (up (up (up (up (up (up (up M 2 (M 1 0).toNat 0) 3 (M 1 0).toNat d) 4 (M 1 0).toNat pr) 5 (M 1 0).toNat ho) 6 (M 1 0).toNat be) 7 (M 1 0).toNat (-1)) 8 (M 1 0).toNat (-1)) 1 0 (M 1 0 + 1)
def addF (M : MM) : MM := up (up M 9 (M 1 1).toNat (M 1 0)) 1 1 (M 1 1 + 1)
/-- the tasks below j start again on c cores -/
def saT (M : MM) (c : Int) (j : Nat) : MM := fun a i => if a = 2 ∧ i < j ∧ M 2 i ≠ 5 then 0 else if a = 5 ∧ i < j then remI (M 5 i) c else M a i
def saC (M : MM) (j : Nat) : MM := fun a i => if 13 ≤ a ∧ a ≤ 18 ∧ i < j then (if a = 14 then -1 else 0) else M a i
def saM (M : MM) (c : Int) : MM := up (saC (up (saT M c (M 1 0).toNat) 11 0 c) 4) 0 3 0
section
variable {h : PH} {p : Nat} {M : MM}
theorem r_bit {x : Int} {t : Nat} (ht : t < 2147483648) : FX7_hasBit h x t = some (if t < 32 ∧ tb x t = true then 1 else 0) := by
  unfold FX7_hasBit JX7_hasBit_22 JX7_hasBit_23
  rw [w32_nat ht, if_neg (by omega), show w32 32 = 32 from rfl]
  by_cases a : t < 32
  · rw [if_pos (by omega), ushr_bit x a]
    by_cases b : tb x t = true
    · simp [a, b, show w32 1 = 1 from rfl]
    · simp [a, b, show w32 0 = 0 from rfl]
  · rw [if_neg (by omega), if_pos (Or.inl rfl), if_neg (fun q => a q.1)]
theorem r_add {d pr ho be : Int} (hp : p + 19 ≤ h.length) (h0 : 0 ≤ M 1 0) (h1 : M 1 0 < 32) : FX6_add (putM h p M) (p + 1) d pr ho be = some (putM h p (addM M d pr ho be)) := by
  unfold FX6_add addM
  simp (disch := omega) only [pm_isO0 hp, pm_gfr0_0 hp, pm_gfr0_1 hp, pm_gfr0_2 hp, pm_gfi0_3 hp, pm_pfi0_3 hp, pm_isO1 hp, pm_gfi1_0 hp, pm_pfi1_0 hp, pm_gfi1_1 hp, pm_pfi1_1 hp, pm_gfr1_2 hp, pm_gfr1_3 hp, pm_gfr1_4 hp, pm_gfr1_5 hp, pm_gfr1_6 hp, pm_gfr1_7 hp, pm_gfr1_8 hp, pm_gfr1_9 hp, pm_gfr1_10 hp, pm_isO11 hp, pm_gfi11_0 hp, pm_pfi11_0 hp, pm_gfi11_1 hp, pm_pfi11_1 hp, pm_gfi11_2 hp, pm_pfi11_2 hp, pm_gfr11_3 hp, pm_gfr11_4 hp, pm_gfr11_5 hp, pm_gfr11_6 hp, pm_gfr11_7 hp, pm_gfr11_8 hp, pm_gfr11_9 hp, pa2 hp, ps2 hp, pa3 hp, ps3 hp, pa4 hp, ps4 hp, pa5 hp, ps5 hp, pa6 hp, ps6 hp, pa7 hp, ps7 hp, pa8 hp, ps8 hp, pa9 hp, ps9 hp, pa10 hp, ps10 hp, pa12 hp, ps12 hp, pa13 hp, ps13 hp, pa14 hp, ps14 hp, pa15 hp, ps15 hp, pa16 hp, ps16 hp, pa17 hp, ps17 hp, pa18 hp, ps18 hp, Option.bind_some, w32_eq, Int.toNat_natCast, if_true, if_false]
  rw [if_pos (by omega)]
  simp (disch := omega) only [pm_isO0 hp, pm_gfr0_0 hp, pm_gfr0_1 hp, pm_gfr0_2 hp, pm_gfi0_3 hp, pm_pfi0_3 hp, pm_isO1 hp, pm_gfi1_0 hp, pm_pfi1_0 hp, pm_gfi1_1 hp, pm_pfi1_1 hp, pm_gfr1_2 hp, pm_gfr1_3 hp, pm_gfr1_4 hp, pm_gfr1_5 hp, pm_gfr1_6 hp, pm_gfr1_7 hp, pm_gfr1_8 hp, pm_gfr1_9 hp, pm_gfr1_10 hp, pm_isO11 hp, pm_gfi11_0 hp, pm_pfi11_0 hp, pm_gfi11_1 hp, pm_pfi11_1 hp, pm_gfi11_2 hp, pm_pfi11_2 hp, pm_gfr11_3 hp, pm_gfr11_4 hp, pm_gfr11_5 hp, pm_gfr11_6 hp, pm_gfr11_7 hp, pm_gfr11_8 hp, pm_gfr11_9 hp, pa2 hp, ps2 hp, pa3 hp, ps3 hp, pa4 hp, ps4 hp, pa5 hp, ps5 hp, pa6 hp, ps6 hp, pa7 hp, ps7 hp, pa8 hp, ps8 hp, pa9 hp, ps9 hp, pa10 hp, ps10 hp, pa12 hp, ps12 hp, pa13 hp, ps13 hp, pa14 hp, ps14 hp, pa15 hp, ps15 hp, pa16 hp, ps16 hp, pa17 hp, ps17 hp, pa18 hp, ps18 hp, Option.bind_some, w32_eq, Int.toNat_natCast, if_true, if_false, up_ne (show (1 : Nat) ≠ 2 by decide), up_ne (show (1 : Nat) ≠ 3 by decide), up_ne (show (1 : Nat) ≠ 4 by decide), up_ne (show (1 : Nat) ≠ 5 by decide), up_ne (show (1 : Nat) ≠ 6 by decide), up_ne (show (1 : Nat) ≠ 7 by decide), up_ne (show (1 : Nat) ≠ 8 by decide)]
theorem r_addF (hp : p + 19 ≤ h.length) (h0 : 0 ≤ M 1 1) (h1 : M 1 1 < 8) : FX6_addFence (putM h p M) (p + 1) = some (putM h p (addF M)) := by
  unfold FX6_addFence JX6_addFence_32 addF
  simp (disch := omega) only [pm_isO0 hp, pm_gfr0_0 hp, pm_gfr0_1 hp, pm_gfr0_2 hp, pm_gfi0_3 hp, pm_pfi0_3 hp, pm_isO1 hp, pm_gfi1_0 hp, pm_pfi1_0 hp, pm_gfi1_1 hp, pm_pfi1_1 hp, pm_gfr1_2 hp, pm_gfr1_3 hp, pm_gfr1_4 hp, pm_gfr1_5 hp, pm_gfr1_6 hp, pm_gfr1_7 hp, pm_gfr1_8 hp, pm_gfr1_9 hp, pm_gfr1_10 hp, pm_isO11 hp, pm_gfi11_0 hp, pm_pfi11_0 hp, pm_gfi11_1 hp, pm_pfi11_1 hp, pm_gfi11_2 hp, pm_pfi11_2 hp, pm_gfr11_3 hp, pm_gfr11_4 hp, pm_gfr11_5 hp, pm_gfr11_6 hp, pm_gfr11_7 hp, pm_gfr11_8 hp, pm_gfr11_9 hp, pa2 hp, ps2 hp, pa3 hp, ps3 hp, pa4 hp, ps4 hp, pa5 hp, ps5 hp, pa6 hp, ps6 hp, pa7 hp, ps7 hp, pa8 hp, ps8 hp, pa9 hp, ps9 hp, pa10 hp, ps10 hp, pa12 hp, ps12 hp, pa13 hp, ps13 hp, pa14 hp, ps14 hp, pa15 hp, ps15 hp, pa16 hp, ps16 hp, pa17 hp, ps17 hp, pa18 hp, ps18 hp, Option.bind_some, w32_eq, Int.toNat_natCast, if_true, if_false]
  rw [if_pos (by omega)]
  simp (disch := omega) only [pm_isO0 hp, pm_gfr0_0 hp, pm_gfr0_1 hp, pm_gfr0_2 hp, pm_gfi0_3 hp, pm_pfi0_3 hp, pm_isO1 hp, pm_gfi1_0 hp, pm_pfi1_0 hp, pm_gfi1_1 hp, pm_pfi1_1 hp, pm_gfr1_2 hp, pm_gfr1_3 hp, pm_gfr1_4 hp, pm_gfr1_5 hp, pm_gfr1_6 hp, pm_gfr1_7 hp, pm_gfr1_8 hp, pm_gfr1_9 hp, pm_gfr1_10 hp, pm_isO11 hp, pm_gfi11_0 hp, pm_pfi11_0 hp, pm_gfi11_1 hp, pm_pfi11_1 hp, pm_gfi11_2 hp, pm_pfi11_2 hp, pm_gfr11_3 hp, pm_gfr11_4 hp, pm_gfr11_5 hp, pm_gfr11_6 hp, pm_gfr11_7 hp, pm_gfr11_8 hp, pm_gfr11_9 hp, pa2 hp, ps2 hp, pa3 hp, ps3 hp, pa4 hp, ps4 hp, pa5 hp, ps5 hp, pa6 hp, ps6 hp, pa7 hp, ps7 hp, pa8 hp, ps8 hp, pa9 hp, ps9 hp, pa10 hp, ps10 hp, pa12 hp, ps12 hp, pa13 hp, ps13 hp, pa14 hp, ps14 hp, pa15 hp, ps15 hp, pa16 hp, ps16 hp, pa17 hp, ps17 hp, pa18 hp, ps18 hp, Option.bind_some, w32_eq, Int.toNat_natCast, if_true, if_false, up_ne (show (1 : Nat) ≠ 9 by decide)]
theorem r_saT {c : Nat} (hp : p + 19 ≤ h.length) (ok : OkT M) (hc : 1 ≤ c ∧ c ≤ 4) : FX6_startAgainOn (putM h p M) (p + 1) c = some (putM h p (saT M c (M 1 0).toNat)) := by
  obtain ⟨o1, o2, o3, o4⟩ := ok
  obtain ⟨n, hn⟩ := Int.eq_ofNat_of_zero_le o1.1
  unfold FX6_startAgainOn
  simp (disch := omega) only [pm_isO0 hp, pm_gfr0_0 hp, pm_gfr0_1 hp, pm_gfr0_2 hp, pm_gfi0_3 hp, pm_pfi0_3 hp, pm_isO1 hp, pm_gfi1_0 hp, pm_pfi1_0 hp, pm_gfi1_1 hp, pm_pfi1_1 hp, pm_gfr1_2 hp, pm_gfr1_3 hp, pm_gfr1_4 hp, pm_gfr1_5 hp, pm_gfr1_6 hp, pm_gfr1_7 hp, pm_gfr1_8 hp, pm_gfr1_9 hp, pm_gfr1_10 hp, pm_isO11 hp, pm_gfi11_0 hp, pm_pfi11_0 hp, pm_gfi11_1 hp, pm_pfi11_1 hp, pm_gfi11_2 hp, pm_pfi11_2 hp, pm_gfr11_3 hp, pm_gfr11_4 hp, pm_gfr11_5 hp, pm_gfr11_6 hp, pm_gfr11_7 hp, pm_gfr11_8 hp, pm_gfr11_9 hp, pa2 hp, ps2 hp, pa3 hp, ps3 hp, pa4 hp, ps4 hp, pa5 hp, ps5 hp, pa6 hp, ps6 hp, pa7 hp, ps7 hp, pa8 hp, ps8 hp, pa9 hp, ps9 hp, pa10 hp, ps10 hp, pa12 hp, ps12 hp, pa13 hp, ps13 hp, pa14 hp, ps14 hp, pa15 hp, ps15 hp, pa16 hp, ps16 hp, pa17 hp, ps17 hp, pa18 hp, ps18 hp, Option.bind_some, w32_eq, Int.toNat_natCast, if_true, if_false]
  have := lp_det (f := fun st : Int × PH => LX6_startAgainOn_2 (p + 1) c st.1 st.2) (fun j => ((j : Int), putM h p (saT M c j))) (a := 0) (b := n) (r := putM h p (saT M c n)) (by omega) (by omega) (fun j h1 h2 => ?_) ?_
  · rw [show saT M c 0 = M by funext a i; simp [saT]] at this
    rw [hn, Int.toNat_natCast]
    exact (congrArg (fun o => Option.bind o some) this).trans rfl
  · have hs := o3 j (by omega)
    have e0 : saT M c j 1 0 = n := by simp [saT, hn]
    have e2 : saT M c j 2 j = M 2 j := by simp [saT]
    have e5 : saT M c j 5 j = M 5 j := by simp [saT]
    unfold LX6_startAgainOn_2 JX6_startAgainOn_27 JX6_startAgainOn_45
    simp (disch := omega) only [pm_isO0 hp, pm_gfr0_0 hp, pm_gfr0_1 hp, pm_gfr0_2 hp, pm_gfi0_3 hp, pm_pfi0_3 hp, pm_isO1 hp, pm_gfi1_0 hp, pm_pfi1_0 hp, pm_gfi1_1 hp, pm_pfi1_1 hp, pm_gfr1_2 hp, pm_gfr1_3 hp, pm_gfr1_4 hp, pm_gfr1_5 hp, pm_gfr1_6 hp, pm_gfr1_7 hp, pm_gfr1_8 hp, pm_gfr1_9 hp, pm_gfr1_10 hp, pm_isO11 hp, pm_gfi11_0 hp, pm_pfi11_0 hp, pm_gfi11_1 hp, pm_pfi11_1 hp, pm_gfi11_2 hp, pm_pfi11_2 hp, pm_gfr11_3 hp, pm_gfr11_4 hp, pm_gfr11_5 hp, pm_gfr11_6 hp, pm_gfr11_7 hp, pm_gfr11_8 hp, pm_gfr11_9 hp, pa2 hp, ps2 hp, pa3 hp, ps3 hp, pa4 hp, ps4 hp, pa5 hp, ps5 hp, pa6 hp, ps6 hp, pa7 hp, ps7 hp, pa8 hp, ps8 hp, pa9 hp, ps9 hp, pa10 hp, ps10 hp, pa12 hp, ps12 hp, pa13 hp, ps13 hp, pa14 hp, ps14 hp, pa15 hp, ps15 hp, pa16 hp, ps16 hp, pa17 hp, ps17 hp, pa18 hp, ps18 hp, Option.bind_some, w32_eq, Int.toNat_natCast, if_true, if_false, e0, e2]
    rw [if_pos (by omega)]
    by_cases a : M 2 j = 5
    · rw [if_pos a, if_pos (by omega), if_neg (by omega)]
      simp (disch := omega) only [pm_isO0 hp, pm_gfr0_0 hp, pm_gfr0_1 hp, pm_gfr0_2 hp, pm_gfi0_3 hp, pm_pfi0_3 hp, pm_isO1 hp, pm_gfi1_0 hp, pm_pfi1_0 hp, pm_gfi1_1 hp, pm_pfi1_1 hp, pm_gfr1_2 hp, pm_gfr1_3 hp, pm_gfr1_4 hp, pm_gfr1_5 hp, pm_gfr1_6 hp, pm_gfr1_7 hp, pm_gfr1_8 hp, pm_gfr1_9 hp, pm_gfr1_10 hp, pm_isO11 hp, pm_gfi11_0 hp, pm_pfi11_0 hp, pm_gfi11_1 hp, pm_pfi11_1 hp, pm_gfi11_2 hp, pm_pfi11_2 hp, pm_gfr11_3 hp, pm_gfr11_4 hp, pm_gfr11_5 hp, pm_gfr11_6 hp, pm_gfr11_7 hp, pm_gfr11_8 hp, pm_gfr11_9 hp, pa2 hp, ps2 hp, pa3 hp, ps3 hp, pa4 hp, ps4 hp, pa5 hp, ps5 hp, pa6 hp, ps6 hp, pa7 hp, ps7 hp, pa8 hp, ps8 hp, pa9 hp, ps9 hp, pa10 hp, ps10 hp, pa12 hp, ps12 hp, pa13 hp, ps13 hp, pa14 hp, ps14 hp, pa15 hp, ps15 hp, pa16 hp, ps16 hp, pa17 hp, ps17 hp, pa18 hp, ps18 hp, Option.bind_some, w32_eq, Int.toNat_natCast, if_true, if_false, e5]
      congr 3
      congr 1
      funext b i
      unfold up saT
      by_cases hi : i = j
      · subst hi
        by_cases b5 : b = 5
        · subst b5; simp
        · simp [b5, a]
      · simp only [hi, and_false, if_false, show (i < j + 1) = (i < j) by simp only [eq_iff_iff]; omega]
    · rw [if_neg a, if_pos (by omega), if_neg (by omega)]
      simp (disch := omega) only [pm_isO0 hp, pm_gfr0_0 hp, pm_gfr0_1 hp, pm_gfr0_2 hp, pm_gfi0_3 hp, pm_pfi0_3 hp, pm_isO1 hp, pm_gfi1_0 hp, pm_pfi1_0 hp, pm_gfi1_1 hp, pm_pfi1_1 hp, pm_gfr1_2 hp, pm_gfr1_3 hp, pm_gfr1_4 hp, pm_gfr1_5 hp, pm_gfr1_6 hp, pm_gfr1_7 hp, pm_gfr1_8 hp, pm_gfr1_9 hp, pm_gfr1_10 hp, pm_isO11 hp, pm_gfi11_0 hp, pm_pfi11_0 hp, pm_gfi11_1 hp, pm_pfi11_1 hp, pm_gfi11_2 hp, pm_pfi11_2 hp, pm_gfr11_3 hp, pm_gfr11_4 hp, pm_gfr11_5 hp, pm_gfr11_6 hp, pm_gfr11_7 hp, pm_gfr11_8 hp, pm_gfr11_9 hp, pa2 hp, ps2 hp, pa3 hp, ps3 hp, pa4 hp, ps4 hp, pa5 hp, ps5 hp, pa6 hp, ps6 hp, pa7 hp, ps7 hp, pa8 hp, ps8 hp, pa9 hp, ps9 hp, pa10 hp, ps10 hp, pa12 hp, ps12 hp, pa13 hp, ps13 hp, pa14 hp, ps14 hp, pa15 hp, ps15 hp, pa16 hp, ps16 hp, pa17 hp, ps17 hp, pa18 hp, ps18 hp, Option.bind_some, w32_eq, Int.toNat_natCast, if_true, if_false, e5, up_ne (show (5 : Nat) ≠ 2 by decide)]
      congr 3
      congr 1
      funext b i
      unfold up saT
      by_cases hi : i = j
      · subst hi
        by_cases b5 : b = 5
        · subst b5; simp
        · by_cases b2 : b = 2
          · subst b2; simp [a]
          · simp [b5, b2]
      · simp only [hi, and_false, if_false, show (i < j + 1) = (i < j) by simp only [eq_iff_iff]; omega]
  · have e0 : saT M c n 1 0 = n := by simp [saT, hn]
    unfold LX6_startAgainOn_2
    simp (disch := omega) only [pm_isO0 hp, pm_gfr0_0 hp, pm_gfr0_1 hp, pm_gfr0_2 hp, pm_gfi0_3 hp, pm_pfi0_3 hp, pm_isO1 hp, pm_gfi1_0 hp, pm_pfi1_0 hp, pm_gfi1_1 hp, pm_pfi1_1 hp, pm_gfr1_2 hp, pm_gfr1_3 hp, pm_gfr1_4 hp, pm_gfr1_5 hp, pm_gfr1_6 hp, pm_gfr1_7 hp, pm_gfr1_8 hp, pm_gfr1_9 hp, pm_gfr1_10 hp, pm_isO11 hp, pm_gfi11_0 hp, pm_pfi11_0 hp, pm_gfi11_1 hp, pm_pfi11_1 hp, pm_gfi11_2 hp, pm_pfi11_2 hp, pm_gfr11_3 hp, pm_gfr11_4 hp, pm_gfr11_5 hp, pm_gfr11_6 hp, pm_gfr11_7 hp, pm_gfr11_8 hp, pm_gfr11_9 hp, pa2 hp, ps2 hp, pa3 hp, ps3 hp, pa4 hp, ps4 hp, pa5 hp, ps5 hp, pa6 hp, ps6 hp, pa7 hp, ps7 hp, pa8 hp, ps8 hp, pa9 hp, ps9 hp, pa10 hp, ps10 hp, pa12 hp, ps12 hp, pa13 hp, ps13 hp, pa14 hp, ps14 hp, pa15 hp, ps15 hp, pa16 hp, ps16 hp, pa17 hp, ps17 hp, pa18 hp, ps18 hp, Option.bind_some, w32_eq, Int.toNat_natCast, if_true, if_false, e0]
    rw [if_neg (by omega)]
theorem r_saC {c : Nat} (hp : p + 19 ≤ h.length) (hc : c ≤ 4) : FX0_startAgainOn (putM h p M) (p + 11) c = some (putM h p (saC (up M 11 0 c) 4)) := by
  unfold FX0_startAgainOn
  simp (disch := omega) only [pm_isO0 hp, pm_gfr0_0 hp, pm_gfr0_1 hp, pm_gfr0_2 hp, pm_gfi0_3 hp, pm_pfi0_3 hp, pm_isO1 hp, pm_gfi1_0 hp, pm_pfi1_0 hp, pm_gfi1_1 hp, pm_pfi1_1 hp, pm_gfr1_2 hp, pm_gfr1_3 hp, pm_gfr1_4 hp, pm_gfr1_5 hp, pm_gfr1_6 hp, pm_gfr1_7 hp, pm_gfr1_8 hp, pm_gfr1_9 hp, pm_gfr1_10 hp, pm_isO11 hp, pm_gfi11_0 hp, pm_pfi11_0 hp, pm_gfi11_1 hp, pm_pfi11_1 hp, pm_gfi11_2 hp, pm_pfi11_2 hp, pm_gfr11_3 hp, pm_gfr11_4 hp, pm_gfr11_5 hp, pm_gfr11_6 hp, pm_gfr11_7 hp, pm_gfr11_8 hp, pm_gfr11_9 hp, pa2 hp, ps2 hp, pa3 hp, ps3 hp, pa4 hp, ps4 hp, pa5 hp, ps5 hp, pa6 hp, ps6 hp, pa7 hp, ps7 hp, pa8 hp, ps8 hp, pa9 hp, ps9 hp, pa10 hp, ps10 hp, pa12 hp, ps12 hp, pa13 hp, ps13 hp, pa14 hp, ps14 hp, pa15 hp, ps15 hp, pa16 hp, ps16 hp, pa17 hp, ps17 hp, pa18 hp, ps18 hp, Option.bind_some, w32_eq, Int.toNat_natCast, if_true, if_false]
  rw [show minI (c : Int) 4 = c by unfold minI; rw [w32_nat (by omega), show w32 4 = 4 from rfl]; split <;> omega]
  generalize up M 11 0 (c : Int) = M1
  have := lp_det (f := fun st : Int × PH => LX0_startAgainOn_11 (p + 11) st.1 st.2) (fun j => ((j : Int), putM h p (saC M1 j))) (a := 0) (b := 4) (r := putM h p (saC M1 4)) (by omega) (by omega) (fun j h1 h2 => ?_) ?_
  · rw [show saC M1 0 = M1 by funext a i; simp [saC]] at this
    exact (congrArg (fun o => Option.bind o some) this).trans rfl
  · unfold LX0_startAgainOn_11
    rw [if_pos (by rw [w32_nat (by omega)]; have : w32 4 = 4 := rfl; omega)]
    simp (disch := omega) only [pm_isO0 hp, pm_gfr0_0 hp, pm_gfr0_1 hp, pm_gfr0_2 hp, pm_gfi0_3 hp, pm_pfi0_3 hp, pm_isO1 hp, pm_gfi1_0 hp, pm_pfi1_0 hp, pm_gfi1_1 hp, pm_pfi1_1 hp, pm_gfr1_2 hp, pm_gfr1_3 hp, pm_gfr1_4 hp, pm_gfr1_5 hp, pm_gfr1_6 hp, pm_gfr1_7 hp, pm_gfr1_8 hp, pm_gfr1_9 hp, pm_gfr1_10 hp, pm_isO11 hp, pm_gfi11_0 hp, pm_pfi11_0 hp, pm_gfi11_1 hp, pm_pfi11_1 hp, pm_gfi11_2 hp, pm_pfi11_2 hp, pm_gfr11_3 hp, pm_gfr11_4 hp, pm_gfr11_5 hp, pm_gfr11_6 hp, pm_gfr11_7 hp, pm_gfr11_8 hp, pm_gfr11_9 hp, pa2 hp, ps2 hp, pa3 hp, ps3 hp, pa4 hp, ps4 hp, pa5 hp, ps5 hp, pa6 hp, ps6 hp, pa7 hp, ps7 hp, pa8 hp, ps8 hp, pa9 hp, ps9 hp, pa10 hp, ps10 hp, pa12 hp, ps12 hp, pa13 hp, ps13 hp, pa14 hp, ps14 hp, pa15 hp, ps15 hp, pa16 hp, ps16 hp, pa17 hp, ps17 hp, pa18 hp, ps18 hp, Option.bind_some, w32_eq, Int.toNat_natCast, if_true, if_false]
    congr 3
    congr 1
    funext b i
    unfold up saC
    by_cases hi : i = j
    · subst hi
      by_cases b18 : b = 18
      · subst b18; simp
      by_cases b17 : b = 17
      · subst b17; simp
      by_cases b16 : b = 16
      · subst b16; simp
      by_cases b15 : b = 15
      · subst b15; simp
      by_cases b14 : b = 14
      · subst b14; simp
      by_cases b13 : b = 13
      · subst b13; simp
      simp [b18, b17, b16, b15, b14, b13]
      intro q1 q2
      omega
    · simp only [hi, and_false, if_false, show (i < j + 1) = (i < j) by simp only [eq_iff_iff]; omega]
  · unfold LX0_startAgainOn_11
    rw [if_neg (show ¬ w32 ((4 : Nat) : Int) < w32 4 by decide)]
theorem r_saM {c : Nat} (hp : p + 19 ≤ h.length) (ok : OkT M) (hc : 1 ≤ c ∧ c ≤ 4) : FX3_startAgainOn (putM h p M) p c = some (putM h p (saM M c)) := by
  unfold FX3_startAgainOn saM
  simp only [pm_isO0 hp, pm_gfr0_0 hp, pm_gfr0_1 hp, pm_gfr0_2 hp, pm_gfi0_3 hp, pm_pfi0_3 hp, pm_isO1 hp, pm_gfi1_0 hp, pm_pfi1_0 hp, pm_gfi1_1 hp, pm_pfi1_1 hp, pm_gfr1_2 hp, pm_gfr1_3 hp, pm_gfr1_4 hp, pm_gfr1_5 hp, pm_gfr1_6 hp, pm_gfr1_7 hp, pm_gfr1_8 hp, pm_gfr1_9 hp, pm_gfr1_10 hp, pm_isO11 hp, pm_gfi11_0 hp, pm_pfi11_0 hp, pm_gfi11_1 hp, pm_pfi11_1 hp, pm_gfi11_2 hp, pm_pfi11_2 hp, pm_gfr11_3 hp, pm_gfr11_4 hp, pm_gfr11_5 hp, pm_gfr11_6 hp, pm_gfr11_7 hp, pm_gfr11_8 hp, pm_gfr11_9 hp, pa2 hp, ps2 hp, pa3 hp, ps3 hp, pa4 hp, ps4 hp, pa5 hp, ps5 hp, pa6 hp, ps6 hp, pa7 hp, ps7 hp, pa8 hp, ps8 hp, pa9 hp, ps9 hp, pa10 hp, ps10 hp, pa12 hp, ps12 hp, pa13 hp, ps13 hp, pa14 hp, ps14 hp, pa15 hp, ps15 hp, pa16 hp, ps16 hp, pa17 hp, ps17 hp, pa18 hp, ps18 hp, Option.bind_some, w32_eq, Int.toNat_natCast, if_true, if_false, r_saT hp ok hc, r_saC hp hc.2]
end
