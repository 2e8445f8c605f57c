set_option linter.unusedVariables false
set_option linter.unusedSimpArgs false
/-! ===== the task table ===== -/
def unf (M : MM) (t : Nat) : Bool := decide (M 2 t ≠ 4 ∧ M 2 t ≠ 5)
/-- what holds of a machine's numbers -/
def OkT (M : MM) : Prop := (0 ≤ M 1 0 ∧ M 1 0 ≤ 32) ∧ (0 ≤ M 1 1 ∧ M 1 1 ≤ 8) ∧ (∀ t : Nat, t < 32 → 0 ≤ M 2 t ∧ M 2 t ≤ 5) ∧ (∀ f : Nat, f < 8 → (f : Int) < M 1 1 → 0 ≤ M 9 f ∧ M 9 f ≤ M 1 0)
theorem w32_nat {n : Nat} (h : n < 2147483648) : w32 (n : Int) = n := w32_eq (by omega) (by omega)
/-- a fence is open -/
def opn (M : MM) (f : Nat) : Bool := decide (cnt (unf M) (M 9 f).toNat = 0)
/-- the counter of a task -/
def ctr (M : MM) (t : Nat) : Nat := cnt (fun q => tb (M 6 t) q && (decide ((q : Int) < M 1 0) && unf M q)) 32 + cnt (fun f => decide (M 9 f ≤ t) && !opn M f) (M 1 1).toNat
theorem tb_low : ∀ t : Nat, t < 32 → ∀ i : Nat, i < 32 → tb (shlI 1 (t : Int) - 1) i = decide (i < t) := by decide +kernel
theorem tb_all : ∀ i : Nat, i < 32 → tb (-1) i = true := by decide +kernel
/-- the bits of the unfinished tasks -/
def isU (M : MM) (x : Int) : Prop := ∀ i : Nat, i < 32 → tb x i = (decide ((i : Int) < M 1 0) && unf M i)
section
variable {h : PH} {p : Nat} {M : MM}
theorem r_unf (hp : p + 19 ≤ h.length) (ok : OkT M) : ∃ x, FX6_unfinishedBits (putM h p M) (p + 1) = some x ∧ isU M x := by
  obtain ⟨o1, o2, o3, o4⟩ := ok
  obtain ⟨n, hn⟩ := Int.eq_ofNat_of_zero_le o1.1
  have hn32 : n ≤ 32 := by omega
  unfold FX6_unfinishedBits
  have := lp_for (f := fun st : Int × Int => LX6_unfinishedBits_4 (putM h p M) (p + 1) st.1 st.2) (fun j st => st.2 = (j : Int) ∧ ∀ i, i < 32 → tb st.1 i = (decide (i < j) && unf M i)) (fun x => ∀ i, i < 32 → tb x i = (decide (i < n) && unf M i)) (a := 0) (b := n) (s := (0, 0)) (by omega) (by omega) ⟨rfl, fun i hi => by simp [tb_zero]⟩ (fun j st h1 h2 hI => ?_) (fun st hI => ?_)
  · obtain ⟨x, e1, e2⟩ := this
    refine ⟨x, by simp [pm_isO0 hp, pm_gfr0_0 hp, pm_gfr0_1 hp, pm_gfr0_2 hp, pm_gfi0_3 hp, pm_pfi0_3 hp, pm_isO1 hp, pm_gfi1_0 hp, pm_pfi1_0 hp, pm_gfi1_1 hp, pm_pfi1_1 hp, pm_gfr1_2 hp, pm_gfr1_3 hp, pm_gfr1_4 hp, pm_gfr1_5 hp, pm_gfr1_6 hp, pm_gfr1_7 hp, pm_gfr1_8 hp, pm_gfr1_9 hp, pm_gfr1_10 hp, pm_isO11 hp, pm_gfi11_0 hp, pm_pfi11_0 hp, pm_gfi11_1 hp, pm_pfi11_1 hp, pm_gfi11_2 hp, pm_pfi11_2 hp, pm_gfr11_3 hp, pm_gfr11_4 hp, pm_gfr11_5 hp, pm_gfr11_6 hp, pm_gfr11_7 hp, pm_gfr11_8 hp, pm_gfr11_9 hp, pa2 hp, ps2 hp, pa3 hp, ps3 hp, pa4 hp, ps4 hp, pa5 hp, ps5 hp, pa6 hp, ps6 hp, pa7 hp, ps7 hp, pa8 hp, ps8 hp, pa9 hp, ps9 hp, pa10 hp, ps10 hp, pa12 hp, ps12 hp, pa13 hp, ps13 hp, pa14 hp, ps14 hp, pa15 hp, ps15 hp, pa16 hp, ps16 hp, pa17 hp, ps17 hp, pa18 hp, ps18 hp, Option.bind_some, w32_eq, Int.toNat_natCast, if_true, if_false, e1], fun i hi => ?_⟩
    rw [e2 i hi, hn]
    simp
  · obtain ⟨v1, v2⟩ := st
    obtain ⟨rfl, hb⟩ := hI
    dsimp only at hb ⊢
    refine Or.inr ?_
    have hs := o3 j (by omega)
    have key : LX6_unfinishedBits_4 (putM h p M) (p + 1) v1 (j : Int) = some (.inl (if unf M j then orI v1 (shlI 1 j) else v1, (j : Int) + 1)) := by
      unfold LX6_unfinishedBits_4 JX6_unfinishedBits_38
      simp only [pm_isO0 hp, pm_gfr0_0 hp, pm_gfr0_1 hp, pm_gfr0_2 hp, pm_gfi0_3 hp, pm_pfi0_3 hp, pm_isO1 hp, pm_gfi1_0 hp, pm_pfi1_0 hp, pm_gfi1_1 hp, pm_pfi1_1 hp, pm_gfr1_2 hp, pm_gfr1_3 hp, pm_gfr1_4 hp, pm_gfr1_5 hp, pm_gfr1_6 hp, pm_gfr1_7 hp, pm_gfr1_8 hp, pm_gfr1_9 hp, pm_gfr1_10 hp, pm_isO11 hp, pm_gfi11_0 hp, pm_pfi11_0 hp, pm_gfi11_1 hp, pm_pfi11_1 hp, pm_gfi11_2 hp, pm_pfi11_2 hp, pm_gfr11_3 hp, pm_gfr11_4 hp, pm_gfr11_5 hp, pm_gfr11_6 hp, pm_gfr11_7 hp, pm_gfr11_8 hp, pm_gfr11_9 hp, pa2 hp, ps2 hp, pa3 hp, ps3 hp, pa4 hp, ps4 hp, pa5 hp, ps5 hp, pa6 hp, ps6 hp, pa7 hp, ps7 hp, pa8 hp, ps8 hp, pa9 hp, ps9 hp, pa10 hp, ps10 hp, pa12 hp, ps12 hp, pa13 hp, ps13 hp, pa14 hp, ps14 hp, pa15 hp, ps15 hp, pa16 hp, ps16 hp, pa17 hp, ps17 hp, pa18 hp, ps18 hp, Option.bind_some, w32_eq, Int.toNat_natCast, if_true, if_false, Option.bind_some, pm_ald hp (show tyM 2 = some 0 from rfl), hn]
      rw [w32_nat (by omega), w32_eq (x := (n : Int)) (by omega) (by omega), if_pos (by omega), if_pos (by simp [lnM]; omega)]
      simp only [Option.bind_some, Int.toNat_natCast]
      rw [w32_eq (x := M 2 j) (by omega) (by omega), show w32 4 = 4 from rfl, show w32 5 = 5 from rfl]
      unfold unf
      by_cases a : M 2 j = 4
      · simp [a]
      · by_cases b : M 2 j = 5
        · simp [a, b]
        · simp [a, b]
    refine ⟨_, key, rfl, fun i hi => ?_⟩
    cases hu : unf M j with
    | false =>
      simp only [Bool.false_eq_true, if_false]
      rw [hb i hi]
      by_cases hij : i = j
      · subst hij; simp [hu]
      · rw [show decide (i < j + 1) = decide (i < j) by simp only [decide_eq_decide]; omega]
    | true =>
      simp only [if_true]
      rw [tb_or, hb i hi, tb_bit (by omega) hi]
      by_cases hij : i = j
      · subst hij; simp [hu]
      · rw [show decide (i < j + 1) = decide (i < j) by simp only [decide_eq_decide]; omega]
        simp [hij]
  · obtain ⟨v1, v2⟩ := st
    obtain ⟨rfl, hb⟩ := hI
    dsimp only at hb ⊢
    refine ⟨v1, ?_, hb⟩
    unfold LX6_unfinishedBits_4
    simp only [pm_isO0 hp, pm_gfr0_0 hp, pm_gfr0_1 hp, pm_gfr0_2 hp, pm_gfi0_3 hp, pm_pfi0_3 hp, pm_isO1 hp, pm_gfi1_0 hp, pm_pfi1_0 hp, pm_gfi1_1 hp, pm_pfi1_1 hp, pm_gfr1_2 hp, pm_gfr1_3 hp, pm_gfr1_4 hp, pm_gfr1_5 hp, pm_gfr1_6 hp, pm_gfr1_7 hp, pm_gfr1_8 hp, pm_gfr1_9 hp, pm_gfr1_10 hp, pm_isO11 hp, pm_gfi11_0 hp, pm_pfi11_0 hp, pm_gfi11_1 hp, pm_pfi11_1 hp, pm_gfi11_2 hp, pm_pfi11_2 hp, pm_gfr11_3 hp, pm_gfr11_4 hp, pm_gfr11_5 hp, pm_gfr11_6 hp, pm_gfr11_7 hp, pm_gfr11_8 hp, pm_gfr11_9 hp, pa2 hp, ps2 hp, pa3 hp, ps3 hp, pa4 hp, ps4 hp, pa5 hp, ps5 hp, pa6 hp, ps6 hp, pa7 hp, ps7 hp, pa8 hp, ps8 hp, pa9 hp, ps9 hp, pa10 hp, ps10 hp, pa12 hp, ps12 hp, pa13 hp, ps13 hp, pa14 hp, ps14 hp, pa15 hp, ps15 hp, pa16 hp, ps16 hp, pa17 hp, ps17 hp, pa18 hp, ps18 hp, Option.bind_some, w32_eq, Int.toNat_natCast, if_true, if_false, Option.bind_some, hn]
    rw [if_neg (by omega)]
theorem r_opn {x : Int} {f : Nat} (hp : p + 19 ≤ h.length) (ok : OkT M) (hx : isU M x) (hf : (f : Int) < M 1 1) : FX6_opens (putM h p M) (p + 1) f x = some (if opn M f then 1 else 0) := by
  obtain ⟨o1, o2, o3, o4⟩ := ok
  have hf8 : f < 8 := by omega
  obtain ⟨k1, k2⟩ := o4 f hf8 hf
  obtain ⟨n, hn⟩ := Int.eq_ofNat_of_zero_le k1
  have key : ∀ y : Int, (∀ i : Nat, i < 32 → tb y i = decide (i < n)) → (w32 (andI x y) = 0 ↔ opn M f = true) := by
    intro y hy
    rw [tb_eq0]
    unfold opn
    rw [decide_eq_true_iff, hn, Int.toNat_natCast, cnt_zero]
    constructor
    · intro q i hi
      have := q i (by omega)
      rw [tb_and, hy i (by omega), hx i (by omega)] at this
      simpa [hi, show (i : Int) < M 1 0 by omega] using this
    · intro q i hi
      rw [tb_and, hy i hi, hx i hi]
      by_cases hin : i < n
      · rw [q i hin]; simp
      · simp [hin]
  unfold FX6_opens JX6_opens_22 JX6_opens_36
  simp (disch := omega) only [pm_isO0 hp, pm_gfr0_0 hp, pm_gfr0_1 hp, pm_gfr0_2 hp, pm_gfi0_3 hp, pm_pfi0_3 hp, pm_isO1 hp, pm_gfi1_0 hp, pm_pfi1_0 hp, pm_gfi1_1 hp, pm_pfi1_1 hp, pm_gfr1_2 hp, pm_gfr1_3 hp, pm_gfr1_4 hp, pm_gfr1_5 hp, pm_gfr1_6 hp, pm_gfr1_7 hp, pm_gfr1_8 hp, pm_gfr1_9 hp, pm_gfr1_10 hp, pm_isO11 hp, pm_gfi11_0 hp, pm_pfi11_0 hp, pm_gfi11_1 hp, pm_pfi11_1 hp, pm_gfi11_2 hp, pm_pfi11_2 hp, pm_gfr11_3 hp, pm_gfr11_4 hp, pm_gfr11_5 hp, pm_gfr11_6 hp, pm_gfr11_7 hp, pm_gfr11_8 hp, pm_gfr11_9 hp, pa2 hp, ps2 hp, pa3 hp, ps3 hp, pa4 hp, ps4 hp, pa5 hp, ps5 hp, pa6 hp, ps6 hp, pa7 hp, ps7 hp, pa8 hp, ps8 hp, pa9 hp, ps9 hp, pa10 hp, ps10 hp, pa12 hp, ps12 hp, pa13 hp, ps13 hp, pa14 hp, ps14 hp, pa15 hp, ps15 hp, pa16 hp, ps16 hp, pa17 hp, ps17 hp, pa18 hp, ps18 hp, Option.bind_some, w32_eq, Int.toNat_natCast, if_true, if_false, hn]
  by_cases hc : n < 32
  · rw [if_pos (by omega)]
    have := key _ (tb_low n hc)
    by_cases ho : opn M f = true
    · simp [this.mpr ho, ho]
    · simp [mt this.mp ho, ho]
  · rw [if_neg (by omega)]
    have := key (-1) (fun i hi => by rw [tb_all i hi, eq_comm, decide_eq_true_iff]; omega)
    by_cases ho : opn M f = true
    · simp [this.mpr ho, ho]
    · simp [mt this.mp ho, ho]
theorem r_ctr {x : Int} {t : Nat} (hp : p + 19 ≤ h.length) (ok : OkT M) (hx : isU M x) (ht : t < 32) : FX6_counterOf (putM h p M) (p + 1) t x = some (ctr M t : Int) := by
  have ok' := ok
  obtain ⟨o1, o2, o3, o4⟩ := ok
  obtain ⟨n, hn⟩ := Int.eq_ofNat_of_zero_le o2.1
  unfold FX6_counterOf
  simp (disch := omega) only [pm_isO0 hp, pm_gfr0_0 hp, pm_gfr0_1 hp, pm_gfr0_2 hp, pm_gfi0_3 hp, pm_pfi0_3 hp, pm_isO1 hp, pm_gfi1_0 hp, pm_pfi1_0 hp, pm_gfi1_1 hp, pm_pfi1_1 hp, pm_gfr1_2 hp, pm_gfr1_3 hp, pm_gfr1_4 hp, pm_gfr1_5 hp, pm_gfr1_6 hp, pm_gfr1_7 hp, pm_gfr1_8 hp, pm_gfr1_9 hp, pm_gfr1_10 hp, pm_isO11 hp, pm_gfi11_0 hp, pm_pfi11_0 hp, pm_gfi11_1 hp, pm_pfi11_1 hp, pm_gfi11_2 hp, pm_pfi11_2 hp, pm_gfr11_3 hp, pm_gfr11_4 hp, pm_gfr11_5 hp, pm_gfr11_6 hp, pm_gfr11_7 hp, pm_gfr11_8 hp, pm_gfr11_9 hp, pa2 hp, ps2 hp, pa3 hp, ps3 hp, pa4 hp, ps4 hp, pa5 hp, ps5 hp, pa6 hp, ps6 hp, pa7 hp, ps7 hp, pa8 hp, ps8 hp, pa9 hp, ps9 hp, pa10 hp, ps10 hp, pa12 hp, ps12 hp, pa13 hp, ps13 hp, pa14 hp, ps14 hp, pa15 hp, ps15 hp, pa16 hp, ps16 hp, pa17 hp, ps17 hp, pa18 hp, ps18 hp, Option.bind_some, w32_eq, Int.toNat_natCast, if_true, if_false, bitCount_eq]
  have e0 : cnt (tb (andI (M 6 t) x)) 32 = cnt (fun q => tb (M 6 t) q && (decide ((q : Int) < M 1 0) && unf M q)) 32 := cnt_congr (fun i hi => by rw [tb_and, hx i hi])
  rw [e0]
  have hle := cnt_le (f := fun q => tb (M 6 t) q && (decide ((q : Int) < M 1 0) && unf M q)) 32
  obtain ⟨c0, hc0⟩ : ∃ c0 : Nat, c0 = cnt (fun q => tb (M 6 t) q && (decide ((q : Int) < M 1 0) && unf M q)) 32 := ⟨_, rfl⟩
  have hct : ctr M t = c0 + cnt (fun f => decide (M 9 f ≤ t) && !opn M f) n := by unfold ctr; rw [hc0, hn, Int.toNat_natCast]
  rw [← hc0] at hle ⊢
  rw [hct]
  have := lp_det (f := fun st : Int × Int => LX6_counterOf_15 (putM h p M) (p + 1) (t : Int) x st.1 st.2) (fun j => (((c0 + cnt (fun f => decide (M 9 f ≤ t) && !opn M f) j : Nat) : Int), (j : Int))) (a := 0) (b := n) (r := ((c0 + cnt (fun f => decide (M 9 f ≤ t) && !opn M f) n : Nat) : Int)) (by omega) (by omega) (fun j h1 h2 => ?_) ?_
  · simp only [cnt, Nat.add_zero] at this
    rw [show ((0 : Nat) : Int) = 0 from rfl] at this
    rw [this]
    rfl
  · have h9 := o4 j (by omega) (by omega)
    unfold LX6_counterOf_15 JX6_counterOf_48
    simp (disch := omega) only [pm_isO0 hp, pm_gfr0_0 hp, pm_gfr0_1 hp, pm_gfr0_2 hp, pm_gfi0_3 hp, pm_pfi0_3 hp, pm_isO1 hp, pm_gfi1_0 hp, pm_pfi1_0 hp, pm_gfi1_1 hp, pm_pfi1_1 hp, pm_gfr1_2 hp, pm_gfr1_3 hp, pm_gfr1_4 hp, pm_gfr1_5 hp, pm_gfr1_6 hp, pm_gfr1_7 hp, pm_gfr1_8 hp, pm_gfr1_9 hp, pm_gfr1_10 hp, pm_isO11 hp, pm_gfi11_0 hp, pm_pfi11_0 hp, pm_gfi11_1 hp, pm_pfi11_1 hp, pm_gfi11_2 hp, pm_pfi11_2 hp, pm_gfr11_3 hp, pm_gfr11_4 hp, pm_gfr11_5 hp, pm_gfr11_6 hp, pm_gfr11_7 hp, pm_gfr11_8 hp, pm_gfr11_9 hp, pa2 hp, ps2 hp, pa3 hp, ps3 hp, pa4 hp, ps4 hp, pa5 hp, ps5 hp, pa6 hp, ps6 hp, pa7 hp, ps7 hp, pa8 hp, ps8 hp, pa9 hp, ps9 hp, pa10 hp, ps10 hp, pa12 hp, ps12 hp, pa13 hp, ps13 hp, pa14 hp, ps14 hp, pa15 hp, ps15 hp, pa16 hp, ps16 hp, pa17 hp, ps17 hp, pa18 hp, ps18 hp, Option.bind_some, w32_eq, Int.toNat_natCast, if_true, if_false, hn]
    rw [if_pos (by omega), r_opn hp ok' hx (by omega)]
    simp only [cnt, Option.bind_some]
    by_cases a : (t : Int) < M 9 j
    · simp [a, show ¬ (M 9 j ≤ t) by omega]
    · by_cases ho : opn M j = true
      · simp [a, ho, show w32 1 = 1 from rfl]
      · simp [a, ho, show w32 0 = 0 from rfl, show M 9 j ≤ t by omega, Int.add_assoc]
  · unfold LX6_counterOf_15
    simp (disch := omega) only [pm_isO0 hp, pm_gfr0_0 hp, pm_gfr0_1 hp, pm_gfr0_2 hp, pm_gfi0_3 hp, pm_pfi0_3 hp, pm_isO1 hp, pm_gfi1_0 hp, pm_pfi1_0 hp, pm_gfi1_1 hp, pm_pfi1_1 hp, pm_gfr1_2 hp, pm_gfr1_3 hp, pm_gfr1_4 hp, pm_gfr1_5 hp, pm_gfr1_6 hp, pm_gfr1_7 hp, pm_gfr1_8 hp, pm_gfr1_9 hp, pm_gfr1_10 hp, pm_isO11 hp, pm_gfi11_0 hp, pm_pfi11_0 hp, pm_gfi11_1 hp, pm_pfi11_1 hp, pm_gfi11_2 hp, pm_pfi11_2 hp, pm_gfr11_3 hp, pm_gfr11_4 hp, pm_gfr11_5 hp, pm_gfr11_6 hp, pm_gfr11_7 hp, pm_gfr11_8 hp, pm_gfr11_9 hp, pa2 hp, ps2 hp, pa3 hp, ps3 hp, pa4 hp, ps4 hp, pa5 hp, ps5 hp, pa6 hp, ps6 hp, pa7 hp, ps7 hp, pa8 hp, ps8 hp, pa9 hp, ps9 hp, pa10 hp, ps10 hp, pa12 hp, ps12 hp, pa13 hp, ps13 hp, pa14 hp, ps14 hp, pa15 hp, ps15 hp, pa16 hp, ps16 hp, pa17 hp, ps17 hp, pa18 hp, ps18 hp, Option.bind_some, w32_eq, Int.toNat_natCast, if_true, if_false, hn]
    rw [if_neg (by omega)]
theorem r_fin (hp : p + 19 ≤ h.length) (ok : OkT M) : FX6_finishedTotal (putM h p M) (p + 1) = some (M 1 0 - cnt (unf M) (M 1 0).toNat) := by
  obtain ⟨x, e, hx⟩ := r_unf (h := h) (p := p) hp ok
  obtain ⟨o1, o2, o3, o4⟩ := ok
  obtain ⟨n, hn⟩ := Int.eq_ofNat_of_zero_le o1.1
  unfold FX6_finishedTotal
  simp (disch := omega) only [pm_isO0 hp, pm_gfr0_0 hp, pm_gfr0_1 hp, pm_gfr0_2 hp, pm_gfi0_3 hp, pm_pfi0_3 hp, pm_isO1 hp, pm_gfi1_0 hp, pm_pfi1_0 hp, pm_gfi1_1 hp, pm_pfi1_1 hp, pm_gfr1_2 hp, pm_gfr1_3 hp, pm_gfr1_4 hp, pm_gfr1_5 hp, pm_gfr1_6 hp, pm_gfr1_7 hp, pm_gfr1_8 hp, pm_gfr1_9 hp, pm_gfr1_10 hp, pm_isO11 hp, pm_gfi11_0 hp, pm_pfi11_0 hp, pm_gfi11_1 hp, pm_pfi11_1 hp, pm_gfi11_2 hp, pm_pfi11_2 hp, pm_gfr11_3 hp, pm_gfr11_4 hp, pm_gfr11_5 hp, pm_gfr11_6 hp, pm_gfr11_7 hp, pm_gfr11_8 hp, pm_gfr11_9 hp, pa2 hp, ps2 hp, pa3 hp, ps3 hp, pa4 hp, ps4 hp, pa5 hp, ps5 hp, pa6 hp, ps6 hp, pa7 hp, ps7 hp, pa8 hp, ps8 hp, pa9 hp, ps9 hp, pa10 hp, ps10 hp, pa12 hp, ps12 hp, pa13 hp, ps13 hp, pa14 hp, ps14 hp, pa15 hp, ps15 hp, pa16 hp, ps16 hp, pa17 hp, ps17 hp, pa18 hp, ps18 hp, Option.bind_some, w32_eq, Int.toNat_natCast, if_true, if_false, e, bitCount_eq]
  congr 3
  rw [hn, Int.toNat_natCast, show 32 = n + (32 - n) by omega, cnt_add]
  rw [cnt_congr (g := unf M) (fun i hi => by rw [hx i (by omega)]; simp; omega), cnt_zero (f := fun i => tb x (n + i)) |>.mpr (fun i hi => by rw [hx (n + i) (by omega)]; simp; omega)]
  rfl
end
