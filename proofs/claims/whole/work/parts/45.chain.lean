set_option linter.unusedVariables false
set_option linter.unusedSimpArgs false
/-! ===== the longest chain ===== -/
def fcd (M : MM) (t : Nat) : Nat → Int
  | 0 => 0
  | f + 1 => if M 9 f ≤ t then M 9 f else fcd M t f
def mx (a b : Int) : Int := if a < b then b else a
def bst (M : MM) (t : Nat) : Nat → Int
  | 0 => 0
  | u + 1 => if (u : Int) < fcd M t (M 1 1).toNat ∨ tb (M 6 t) u = true then mx (bst M t u) (M 10 u) else bst M t u
def chs (M : MM) : Nat → MM
  | 0 => M
  | j + 1 => if unf M j then up (up (chs M j) 10 j 0) 10 j (M 3 j + bst (up (chs M j) 10 j 0) j j) else up (chs M j) 10 j 0
def lgs (M : MM) : Nat → Int
  | 0 => 0
  | j + 1 => if unf M j then mx (lgs M j) (chs M (j + 1) 10 j) else lgs M j
theorem maxI_mx {a b : Int} (ha : -2147483648 ≤ a ∧ a < 2147483648) (hb : -2147483648 ≤ b ∧ b < 2147483648) : maxI a b = mx a b := by
  unfold maxI mx
  rw [w32_eq ha.1 ha.2, w32_eq hb.1 hb.2]
theorem fcd_in {M : MM} {t : Nat} (ok : OkT M) : ∀ {f : Nat}, (f : Int) ≤ M 1 1 → 0 ≤ fcd M t f ∧ fcd M t f ≤ 32 := by
  intro f
  induction f with
  | zero => intro _; unfold fcd; omega
  | succ f ih =>
    intro hf
    obtain ⟨o1, o2, o3, o4⟩ := ok
    have := o4 f (by omega) (by omega)
    unfold fcd
    split
    · omega
    · exact ih (by omega)
theorem bst_in {M : MM} {t B : Nat} : ∀ {u : Nat}, (∀ v : Nat, v < u → 0 ≤ M 10 v ∧ M 10 v ≤ B) → 0 ≤ bst M t u ∧ bst M t u ≤ B := by
  intro u
  induction u with
  | zero => intro _; unfold bst; omega
  | succ u ih =>
    intro h
    have h1 := ih (fun v hv => h v (by omega))
    have h2 := h u (by omega)
    unfold bst mx
    split
    · split <;> omega
    · exact h1
theorem chs_ne {M : MM} {a : Nat} (h : a ≠ 10) : ∀ {j : Nat}, chs M j a = M a := by
  intro j
  induction j with
  | zero => rfl
  | succ j ih =>
    unfold chs
    split
    · rw [up_ne h, up_ne h, ih]
    · rw [up_ne h, ih]
theorem chs_in {M : MM} (okP : OkP M) : ∀ {j : Nat}, (j : Int) ≤ M 1 0 → ∀ u : Nat, u < j → 0 ≤ chs M j 10 u ∧ chs M j 10 u ≤ 99 * j := by
  intro j
  induction j with
  | zero => intro _ u hu; omega
  | succ j ih =>
    intro hj u hu
    have hd := (okP j (by omega)).2.2
    have hB := bst_in (M := up (chs M j) 10 j 0) (t := j) (B := 99 * j) (u := j) (fun v hv => by
      rw [up_ni (by omega)]
      have := ih (by omega) v hv
      omega)
    unfold chs
    by_cases e : u = j
    · subst e
      split
      · rw [up_eq]; omega
      · rw [up_eq]; omega
    · have := ih (by omega) u (by omega)
      split
      · rw [up_ni e, up_ni e]; omega
      · rw [up_ni e]; omega
section
variable {h : PH} {p : Nat} {M : MM}
theorem r_bst {t : Nat} (hp : p + 19 ≤ h.length) (ok : OkT M) (ht : t < 32) (hc : ∀ u : Nat, u < t → 0 ≤ M 10 u ∧ M 10 u ≤ 5000) : FX6_longestChainBefore (putM h p M) (p + 1) t = some (bst M t t) := by
  have ok' := ok
  obtain ⟨o1, o2, o3, o4⟩ := ok
  obtain ⟨n, hn⟩ := Int.eq_ofNat_of_zero_le o2.1
  have hF := fcd_in (t := t) ok' (f := n) (by omega)
  unfold FX6_longestChainBefore
  simp (disch := omega) only [pm_isO0 hp, pm_gfr0_0 hp, pm_gfr0_1 hp, pm_gfr0_2 hp, pm_gfi0_3 hp, pm_pfi0_3 hp, pm_isO1 hp, pm_gfi1_0 hp, pm_pfi1_0 hp, pm_gfi1_1 hp, pm_pfi1_1 hp, pm_gfr1_2 hp, pm_gfr1_3 hp, pm_gfr1_4 hp, pm_gfr1_5 hp, pm_gfr1_6 hp, pm_gfr1_7 hp, pm_gfr1_8 hp, pm_gfr1_9 hp, pm_gfr1_10 hp, pm_isO11 hp, pm_gfi11_0 hp, pm_pfi11_0 hp, pm_gfi11_1 hp, pm_pfi11_1 hp, pm_gfi11_2 hp, pm_pfi11_2 hp, pm_gfr11_3 hp, pm_gfr11_4 hp, pm_gfr11_5 hp, pm_gfr11_6 hp, pm_gfr11_7 hp, pm_gfr11_8 hp, pm_gfr11_9 hp, pa2 hp, ps2 hp, pa3 hp, ps3 hp, pa4 hp, ps4 hp, pa5 hp, ps5 hp, pa6 hp, ps6 hp, pa7 hp, ps7 hp, pa8 hp, ps8 hp, pa9 hp, ps9 hp, pa10 hp, ps10 hp, pa12 hp, ps12 hp, pa13 hp, ps13 hp, pa14 hp, ps14 hp, pa15 hp, ps15 hp, pa16 hp, ps16 hp, pa17 hp, ps17 hp, pa18 hp, ps18 hp, Option.bind_some, w32_eq, Int.toNat_natCast, if_true, if_false]
  have L1 := lp_det (f := fun st : Int × Int => LX6_longestChainBefore_4 (putM h p M) (p + 1) t st.1 st.2) (fun f => (fcd M t f, (f : Int))) (a := 0) (b := n) (r := fcd M t n) (by omega) (by omega) (fun f h1 h2 => ?_) ?_
  · have L2 := lp_det (f := fun st : Int × Int => LX6_longestChainBefore_40 (putM h p M) (p + 1) t (fcd M t n) st.1 st.2) (fun u => (bst M t u, (u : Int))) (a := 0) (b := t) (r := bst M t t) (by omega) (by omega) (fun u h1 h2 => ?_) ?_
    · have L1 : lp (fun st : Int × Int => LX6_longestChainBefore_4 (putM h p M) (p + 1) t st.1 st.2) FU (0, 0) = some (fcd M t n) := L1
      have L2 : lp (fun st : Int × Int => LX6_longestChainBefore_40 (putM h p M) (p + 1) t (fcd M t n) st.1 st.2) FU (0, 0) = some (bst M t t) := L2
      rw [L1, Option.bind_some, L2]; rfl
    · have hb := bst_in (M := M) (t := t) (B := 5000) (u := u) (fun v hv => hc v (by omega))
      have hu := hc u h2
      unfold LX6_longestChainBefore_40 JX6_longestChainBefore_66 JX6_longestChainBefore_78
      simp (disch := omega) only [pm_isO0 hp, pm_gfr0_0 hp, pm_gfr0_1 hp, pm_gfr0_2 hp, pm_gfi0_3 hp, pm_pfi0_3 hp, pm_isO1 hp, pm_gfi1_0 hp, pm_pfi1_0 hp, pm_gfi1_1 hp, pm_pfi1_1 hp, pm_gfr1_2 hp, pm_gfr1_3 hp, pm_gfr1_4 hp, pm_gfr1_5 hp, pm_gfr1_6 hp, pm_gfr1_7 hp, pm_gfr1_8 hp, pm_gfr1_9 hp, pm_gfr1_10 hp, pm_isO11 hp, pm_gfi11_0 hp, pm_pfi11_0 hp, pm_gfi11_1 hp, pm_pfi11_1 hp, pm_gfi11_2 hp, pm_pfi11_2 hp, pm_gfr11_3 hp, pm_gfr11_4 hp, pm_gfr11_5 hp, pm_gfr11_6 hp, pm_gfr11_7 hp, pm_gfr11_8 hp, pm_gfr11_9 hp, pa2 hp, ps2 hp, pa3 hp, ps3 hp, pa4 hp, ps4 hp, pa5 hp, ps5 hp, pa6 hp, ps6 hp, pa7 hp, ps7 hp, pa8 hp, ps8 hp, pa9 hp, ps9 hp, pa10 hp, ps10 hp, pa12 hp, ps12 hp, pa13 hp, ps13 hp, pa14 hp, ps14 hp, pa15 hp, ps15 hp, pa16 hp, ps16 hp, pa17 hp, ps17 hp, pa18 hp, ps18 hp, Option.bind_some, w32_eq, Int.toNat_natCast, if_true, if_false]
      rw [if_pos (by omega), maxI_mx (by omega) (by omega), r_bit (by omega)]
      rw [show bst M t (u + 1) = if (u : Int) < fcd M t (M 1 1).toNat ∨ tb (M 6 t) u = true then mx (bst M t u) (M 10 u) else bst M t u from rfl, hn, Int.toNat_natCast]
      by_cases a : (u : Int) < fcd M t n
      · rw [if_pos a, if_pos (Or.inl a)]; rfl
      · rw [if_neg a, Option.bind_some]
        by_cases b : tb (M 6 t) u = true
        · rw [if_pos (show u < 32 ∧ tb (M 6 t) u = true from ⟨by omega, b⟩), if_neg (show ¬ w32 1 = 0 by decide), if_pos (Or.inr b)]; rfl
        · rw [if_neg (show ¬ (u < 32 ∧ tb (M 6 t) u = true) from fun q => b q.2), if_pos (show w32 0 = 0 by decide), if_neg (show ¬ ((u : Int) < fcd M t n ∨ tb (M 6 t) u = true) from fun q => by rcases q with q | q; exact a q; exact b q)]; rfl
    · unfold LX6_longestChainBefore_40
      simp (disch := omega) only [pm_isO0 hp, pm_gfr0_0 hp, pm_gfr0_1 hp, pm_gfr0_2 hp, pm_gfi0_3 hp, pm_pfi0_3 hp, pm_isO1 hp, pm_gfi1_0 hp, pm_pfi1_0 hp, pm_gfi1_1 hp, pm_pfi1_1 hp, pm_gfr1_2 hp, pm_gfr1_3 hp, pm_gfr1_4 hp, pm_gfr1_5 hp, pm_gfr1_6 hp, pm_gfr1_7 hp, pm_gfr1_8 hp, pm_gfr1_9 hp, pm_gfr1_10 hp, pm_isO11 hp, pm_gfi11_0 hp, pm_pfi11_0 hp, pm_gfi11_1 hp, pm_pfi11_1 hp, pm_gfi11_2 hp, pm_pfi11_2 hp, pm_gfr11_3 hp, pm_gfr11_4 hp, pm_gfr11_5 hp, pm_gfr11_6 hp, pm_gfr11_7 hp, pm_gfr11_8 hp, pm_gfr11_9 hp, pa2 hp, ps2 hp, pa3 hp, ps3 hp, pa4 hp, ps4 hp, pa5 hp, ps5 hp, pa6 hp, ps6 hp, pa7 hp, ps7 hp, pa8 hp, ps8 hp, pa9 hp, ps9 hp, pa10 hp, ps10 hp, pa12 hp, ps12 hp, pa13 hp, ps13 hp, pa14 hp, ps14 hp, pa15 hp, ps15 hp, pa16 hp, ps16 hp, pa17 hp, ps17 hp, pa18 hp, ps18 hp, Option.bind_some, w32_eq, Int.toNat_natCast, if_true, if_false]
      rw [if_neg (by omega)]
  · have h9 := o4 f (by omega) (by omega)
    unfold LX6_longestChainBefore_4 JX6_longestChainBefore_29
    simp (disch := omega) only [pm_isO0 hp, pm_gfr0_0 hp, pm_gfr0_1 hp, pm_gfr0_2 hp, pm_gfi0_3 hp, pm_pfi0_3 hp, pm_isO1 hp, pm_gfi1_0 hp, pm_pfi1_0 hp, pm_gfi1_1 hp, pm_pfi1_1 hp, pm_gfr1_2 hp, pm_gfr1_3 hp, pm_gfr1_4 hp, pm_gfr1_5 hp, pm_gfr1_6 hp, pm_gfr1_7 hp, pm_gfr1_8 hp, pm_gfr1_9 hp, pm_gfr1_10 hp, pm_isO11 hp, pm_gfi11_0 hp, pm_pfi11_0 hp, pm_gfi11_1 hp, pm_pfi11_1 hp, pm_gfi11_2 hp, pm_pfi11_2 hp, pm_gfr11_3 hp, pm_gfr11_4 hp, pm_gfr11_5 hp, pm_gfr11_6 hp, pm_gfr11_7 hp, pm_gfr11_8 hp, pm_gfr11_9 hp, pa2 hp, ps2 hp, pa3 hp, ps3 hp, pa4 hp, ps4 hp, pa5 hp, ps5 hp, pa6 hp, ps6 hp, pa7 hp, ps7 hp, pa8 hp, ps8 hp, pa9 hp, ps9 hp, pa10 hp, ps10 hp, pa12 hp, ps12 hp, pa13 hp, ps13 hp, pa14 hp, ps14 hp, pa15 hp, ps15 hp, pa16 hp, ps16 hp, pa17 hp, ps17 hp, pa18 hp, ps18 hp, Option.bind_some, w32_eq, Int.toNat_natCast, if_true, if_false, hn]
    rw [if_pos (by omega)]
    rw [show fcd M t (f + 1) = if M 9 f ≤ t then M 9 f else fcd M t f from rfl]
    by_cases a : (t : Int) < M 9 f
    · rw [if_pos a, if_neg (by omega)]; rfl
    · rw [if_neg a, if_pos (by omega)]; rfl
  · unfold LX6_longestChainBefore_4
    simp (disch := omega) only [pm_isO0 hp, pm_gfr0_0 hp, pm_gfr0_1 hp, pm_gfr0_2 hp, pm_gfi0_3 hp, pm_pfi0_3 hp, pm_isO1 hp, pm_gfi1_0 hp, pm_pfi1_0 hp, pm_gfi1_1 hp, pm_pfi1_1 hp, pm_gfr1_2 hp, pm_gfr1_3 hp, pm_gfr1_4 hp, pm_gfr1_5 hp, pm_gfr1_6 hp, pm_gfr1_7 hp, pm_gfr1_8 hp, pm_gfr1_9 hp, pm_gfr1_10 hp, pm_isO11 hp, pm_gfi11_0 hp, pm_pfi11_0 hp, pm_gfi11_1 hp, pm_pfi11_1 hp, pm_gfi11_2 hp, pm_pfi11_2 hp, pm_gfr11_3 hp, pm_gfr11_4 hp, pm_gfr11_5 hp, pm_gfr11_6 hp, pm_gfr11_7 hp, pm_gfr11_8 hp, pm_gfr11_9 hp, pa2 hp, ps2 hp, pa3 hp, ps3 hp, pa4 hp, ps4 hp, pa5 hp, ps5 hp, pa6 hp, ps6 hp, pa7 hp, ps7 hp, pa8 hp, ps8 hp, pa9 hp, ps9 hp, pa10 hp, ps10 hp, pa12 hp, ps12 hp, pa13 hp, ps13 hp, pa14 hp, ps14 hp, pa15 hp, ps15 hp, pa16 hp, ps16 hp, pa17 hp, ps17 hp, pa18 hp, ps18 hp, Option.bind_some, w32_eq, Int.toNat_natCast, if_true, if_false, hn]
    rw [if_neg (by omega)]
theorem lgs_in (hT : M 1 0 ≤ 32) (okP : OkP M) : ∀ {j : Nat}, (j : Int) ≤ M 1 0 → 0 ≤ lgs M j ∧ lgs M j ≤ 4000 := by
  intro j
  induction j with
  | zero => intro _; unfold lgs; omega
  | succ j ih =>
    intro hj
    have h1 := ih (by omega)
    have h2 := chs_in okP (j := j + 1) hj j (by omega)
    unfold lgs mx
    split
    · split <;> omega
    · exact h1
theorem r_chain (hp : p + 19 ≤ h.length) (ok : Ok M) : FX6_longestChain (putM h p M) (p + 1) = some (lgs M (M 1 0).toNat, putM h p (chs M (M 1 0).toNat)) := by
  obtain ⟨x, e, hx⟩ := r_unf (h := h) (p := p) hp ok.1
  have okT := ok.1
  have okP := ok.2.2
  obtain ⟨⟨o1, o2, o3, o4⟩, -, -⟩ := ok
  obtain ⟨n, hn⟩ := Int.eq_ofNat_of_zero_le o1.1
  unfold FX6_longestChain
  simp (disch := omega) only [pm_isO0 hp, pm_gfr0_0 hp, pm_gfr0_1 hp, pm_gfr0_2 hp, pm_gfi0_3 hp, pm_pfi0_3 hp, pm_isO1 hp, pm_gfi1_0 hp, pm_pfi1_0 hp, pm_gfi1_1 hp, pm_pfi1_1 hp, pm_gfr1_2 hp, pm_gfr1_3 hp, pm_gfr1_4 hp, pm_gfr1_5 hp, pm_gfr1_6 hp, pm_gfr1_7 hp, pm_gfr1_8 hp, pm_gfr1_9 hp, pm_gfr1_10 hp, pm_isO11 hp, pm_gfi11_0 hp, pm_pfi11_0 hp, pm_gfi11_1 hp, pm_pfi11_1 hp, pm_gfi11_2 hp, pm_pfi11_2 hp, pm_gfr11_3 hp, pm_gfr11_4 hp, pm_gfr11_5 hp, pm_gfr11_6 hp, pm_gfr11_7 hp, pm_gfr11_8 hp, pm_gfr11_9 hp, pa2 hp, ps2 hp, pa3 hp, ps3 hp, pa4 hp, ps4 hp, pa5 hp, ps5 hp, pa6 hp, ps6 hp, pa7 hp, ps7 hp, pa8 hp, ps8 hp, pa9 hp, ps9 hp, pa10 hp, ps10 hp, pa12 hp, ps12 hp, pa13 hp, ps13 hp, pa14 hp, ps14 hp, pa15 hp, ps15 hp, pa16 hp, ps16 hp, pa17 hp, ps17 hp, pa18 hp, ps18 hp, Option.bind_some, w32_eq, Int.toNat_natCast, if_true, if_false, e]
  have := lp_det (f := fun st : Int × Int × PH => LX6_longestChain_9 (p + 1) x st.1 st.2.1 st.2.2) (fun j => (lgs M j, (j : Int), putM h p (chs M j))) (a := 0) (b := n) (r := (lgs M n, putM h p (chs M n))) (by omega) (by omega) (fun j h1 h2 => ?_) ?_
  · have this : lp (fun st : Int × Int × PH => LX6_longestChain_9 (p + 1) x st.1 st.2.1 st.2.2) FU (0, 0, putM h p M) = some (lgs M n, putM h p (chs M n)) := this
    rw [this, hn, Int.toNat_natCast]; rfl
  · have e10 : chs M j 1 0 = n := by rw [chs_ne (by decide)]; exact hn
    have hd := (okP j (by omega)).2.2
    have okN : OkT (up (chs M j) 10 j 0) := by
      refine ⟨?_, ?_, ?_, ?_⟩
      · rw [up_ne (by decide), chs_ne (by decide)]; exact o1
      · rw [up_ne (by decide), chs_ne (by decide)]; exact o2
      · rw [up_ne (by decide), chs_ne (by decide)]; exact o3
      · rw [up_ne (by decide), chs_ne (by decide), up_ne (by decide), chs_ne (by decide)]; exact o4
    have hcj : ∀ u : Nat, u < j → 0 ≤ up (chs M j) 10 j 0 10 u ∧ up (chs M j) 10 j 0 10 u ≤ (99 * j : Nat) := fun u hu => by
      rw [up_ni (by omega)]
      have := chs_in okP (j := j) (by omega) u hu
      omega
    have hb := bst_in (t := j) hcj
    have hl := lgs_in (M := M) o1.2 okP (j := j) (by omega)
    unfold LX6_longestChain_9 JX6_longestChain_61
    simp (disch := omega) only [pm_isO0 hp, pm_gfr0_0 hp, pm_gfr0_1 hp, pm_gfr0_2 hp, pm_gfi0_3 hp, pm_pfi0_3 hp, pm_isO1 hp, pm_gfi1_0 hp, pm_pfi1_0 hp, pm_gfi1_1 hp, pm_pfi1_1 hp, pm_gfr1_2 hp, pm_gfr1_3 hp, pm_gfr1_4 hp, pm_gfr1_5 hp, pm_gfr1_6 hp, pm_gfr1_7 hp, pm_gfr1_8 hp, pm_gfr1_9 hp, pm_gfr1_10 hp, pm_isO11 hp, pm_gfi11_0 hp, pm_pfi11_0 hp, pm_gfi11_1 hp, pm_pfi11_1 hp, pm_gfi11_2 hp, pm_pfi11_2 hp, pm_gfr11_3 hp, pm_gfr11_4 hp, pm_gfr11_5 hp, pm_gfr11_6 hp, pm_gfr11_7 hp, pm_gfr11_8 hp, pm_gfr11_9 hp, pa2 hp, ps2 hp, pa3 hp, ps3 hp, pa4 hp, ps4 hp, pa5 hp, ps5 hp, pa6 hp, ps6 hp, pa7 hp, ps7 hp, pa8 hp, ps8 hp, pa9 hp, ps9 hp, pa10 hp, ps10 hp, pa12 hp, ps12 hp, pa13 hp, ps13 hp, pa14 hp, ps14 hp, pa15 hp, ps15 hp, pa16 hp, ps16 hp, pa17 hp, ps17 hp, pa18 hp, ps18 hp, Option.bind_some, w32_eq, Int.toNat_natCast, if_true, if_false, e10]
    rw [if_pos (by omega), r_bit (by omega), Option.bind_some]
    have hbit : (j < 32 ∧ tb x j = true) ↔ unf M j = true := by
      rw [hx j (by omega)]
      simp [show (j : Int) < M 1 0 by omega, show j < 32 by omega]
    rw [show lgs M (j + 1) = if unf M j then mx (lgs M j) (chs M (j + 1) 10 j) else lgs M j from rfl]
    rw [show chs M (j + 1) = if unf M j then up (up (chs M j) 10 j 0) 10 j (M 3 j + bst (up (chs M j) 10 j 0) j j) else up (chs M j) 10 j 0 from rfl]
    by_cases a : unf M j = true
    · rw [if_pos (hbit.mpr a), if_neg (by decide)]
      simp only [a, if_true]
      rw [r_bst hp okN (by omega) (fun u hu => by have := hcj u hu; omega)]
      simp (disch := omega) only [pm_isO0 hp, pm_gfr0_0 hp, pm_gfr0_1 hp, pm_gfr0_2 hp, pm_gfi0_3 hp, pm_pfi0_3 hp, pm_isO1 hp, pm_gfi1_0 hp, pm_pfi1_0 hp, pm_gfi1_1 hp, pm_pfi1_1 hp, pm_gfr1_2 hp, pm_gfr1_3 hp, pm_gfr1_4 hp, pm_gfr1_5 hp, pm_gfr1_6 hp, pm_gfr1_7 hp, pm_gfr1_8 hp, pm_gfr1_9 hp, pm_gfr1_10 hp, pm_isO11 hp, pm_gfi11_0 hp, pm_pfi11_0 hp, pm_gfi11_1 hp, pm_pfi11_1 hp, pm_gfi11_2 hp, pm_pfi11_2 hp, pm_gfr11_3 hp, pm_gfr11_4 hp, pm_gfr11_5 hp, pm_gfr11_6 hp, pm_gfr11_7 hp, pm_gfr11_8 hp, pm_gfr11_9 hp, pa2 hp, ps2 hp, pa3 hp, ps3 hp, pa4 hp, ps4 hp, pa5 hp, ps5 hp, pa6 hp, ps6 hp, pa7 hp, ps7 hp, pa8 hp, ps8 hp, pa9 hp, ps9 hp, pa10 hp, ps10 hp, pa12 hp, ps12 hp, pa13 hp, ps13 hp, pa14 hp, ps14 hp, pa15 hp, ps15 hp, pa16 hp, ps16 hp, pa17 hp, ps17 hp, pa18 hp, ps18 hp, Option.bind_some, w32_eq, Int.toNat_natCast, if_true, if_false, up_ne (show (3 : Nat) ≠ 10 by decide), chs_ne (M := M) (show (3 : Nat) ≠ 10 by decide), up_eq]
      rw [maxI_mx (by omega) (by omega)]
      rfl
    · rw [if_neg (fun q => a (hbit.mp q)), if_pos (by decide), if_neg a, if_neg a]
      rfl
  · have e10 : chs M n 1 0 = n := by rw [chs_ne (by decide)]; exact hn
    unfold LX6_longestChain_9
    simp (disch := omega) only [pm_isO0 hp, pm_gfr0_0 hp, pm_gfr0_1 hp, pm_gfr0_2 hp, pm_gfi0_3 hp, pm_pfi0_3 hp, pm_isO1 hp, pm_gfi1_0 hp, pm_pfi1_0 hp, pm_gfi1_1 hp, pm_pfi1_1 hp, pm_gfr1_2 hp, pm_gfr1_3 hp, pm_gfr1_4 hp, pm_gfr1_5 hp, pm_gfr1_6 hp, pm_gfr1_7 hp, pm_gfr1_8 hp, pm_gfr1_9 hp, pm_gfr1_10 hp, pm_isO11 hp, pm_gfi11_0 hp, pm_pfi11_0 hp, pm_gfi11_1 hp, pm_pfi11_1 hp, pm_gfi11_2 hp, pm_pfi11_2 hp, pm_gfr11_3 hp, pm_gfr11_4 hp, pm_gfr11_5 hp, pm_gfr11_6 hp, pm_gfr11_7 hp, pm_gfr11_8 hp, pm_gfr11_9 hp, pa2 hp, ps2 hp, pa3 hp, ps3 hp, pa4 hp, ps4 hp, pa5 hp, ps5 hp, pa6 hp, ps6 hp, pa7 hp, ps7 hp, pa8 hp, ps8 hp, pa9 hp, ps9 hp, pa10 hp, ps10 hp, pa12 hp, ps12 hp, pa13 hp, ps13 hp, pa14 hp, ps14 hp, pa15 hp, ps15 hp, pa16 hp, ps16 hp, pa17 hp, ps17 hp, pa18 hp, ps18 hp, Option.bind_some, w32_eq, Int.toNat_natCast, if_true, if_false, e10]
    rw [if_neg (by omega)]
end
