set_option linter.unusedVariables false
set_option linter.unusedSimpArgs false
/-! ===== tasks that finish, tasks that are queued ===== -/
def fin1 (M : MM) (c : Nat) : MM := if M 14 c < 0 then M else if M 15 c = 1 then up (up (up (up M 15 c (M 15 c - 1)) 2 (M 14 c).toNat 4) 8 (M 14 c).toNat (M 0 3)) 14 c (-1) else up M 15 c (M 15 c - 1)
def finM (M : MM) : Nat → MM
  | 0 => M
  | j + 1 => fin1 (finM M j) j
def finN (M : MM) : Nat → Int
  | 0 => 0
  | j + 1 => finN M j + if 0 ≤ finM M j 14 j ∧ finM M j 15 j = 1 then 1 else 0
theorem fin1_keep {M : MM} {c a i : Nat} (h2 : a ≠ 2) (h8 : a ≠ 8) (h : (a ≠ 14 ∧ a ≠ 15) ∨ i ≠ c) : fin1 M c a i = M a i := by
  unfold fin1
  split
  · rfl
  · split
    · unfold up
      rw [if_neg (by omega), if_neg (by omega), if_neg (by omega), if_neg (by omega)]
    · unfold up
      rw [if_neg (by omega)]
theorem finM_keep {M : MM} {a i : Nat} (h2 : a ≠ 2) (h8 : a ≠ 8) : ∀ {j : Nat}, ((a ≠ 14 ∧ a ≠ 15) ∨ j ≤ i) → finM M j a i = M a i := by
  intro j
  induction j with
  | zero => intro _; rfl
  | succ j ih =>
    intro h
    unfold finM
    rw [fin1_keep h2 h8 (by omega), ih (by omega)]
/-- the READY task that is treated first -/
def frs (M : MM) : Nat → Int
  | 0 => -1
  | n + 1 => if M 2 n = 1 ∧ (frs M n < 0 ∨ M 4 (frs M n).toNat < M 4 n) then n else frs M n
theorem frs_is (M : MM) : ∀ n, isF M n (frs M n) := by
  intro n
  induction n with
  | zero => exact Or.inl ⟨rfl, fun t ht => by omega⟩
  | succ n ih =>
    unfold frs
    rcases ih with ⟨e, hb⟩ | ⟨b, e, hb1, hb2, hb3⟩
    · rw [e]
      by_cases a : M 2 n = 1
      · rw [if_pos ⟨a, Or.inl (by decide)⟩]
        refine Or.inr ⟨n, rfl, by omega, a, fun t ht h1 => ?_⟩
        by_cases htj : t = n
        · subst htj; exact Or.inr ⟨rfl, Nat.le_refl _⟩
        · exact absurd h1 (hb t (by omega))
      · rw [if_neg (fun q => a q.1)]
        refine Or.inl ⟨rfl, fun t ht => ?_⟩
        by_cases htj : t = n
        · subst htj; exact a
        · exact hb t (by omega)
    · rw [e]
      by_cases a : M 2 n = 1 ∧ M 4 b < M 4 n
      · rw [if_pos ⟨a.1, Or.inr a.2⟩]
        refine Or.inr ⟨n, rfl, by omega, a.1, fun t ht h1 => ?_⟩
        by_cases htj : t = n
        · subst htj; exact Or.inr ⟨rfl, Nat.le_refl _⟩
        · rcases hb3 t (by omega) h1 with h | h <;> exact Or.inl (by omega)
      · rw [if_neg (fun q => a ⟨q.1, by rcases q.2 with h | h; omega; exact h⟩)]
        refine Or.inr ⟨b, rfl, by omega, hb2, fun t ht h1 => ?_⟩
        by_cases htj : t = n
        · subst htj
          by_cases d : M 4 t = M 4 b
          · exact Or.inr ⟨d, by omega⟩
          · have : ¬ M 4 b < M 4 t := fun q => a ⟨h1, q⟩
            exact Or.inl (by omega)
        · exact hb3 t (by omega) h1
theorem isF_one {M : MM} {n : Nat} {r r' : Int} (h : isF M n r) (h' : isF M n r') : r = r' := by
  rcases h with ⟨e, hb⟩ | ⟨b, e, hb1, hb2, hb3⟩ <;> rcases h' with ⟨e', hb'⟩ | ⟨b', e', hb1', hb2', hb3'⟩
  · rw [e, e']
  · exact absurd hb2' (hb b' hb1')
  · exact absurd hb2 (hb' b hb1)
  · rcases hb3 b' hb1' hb2' with h | h <;> rcases hb3' b hb1 hb2 with h' | h' <;> omega
def qfs (M : MM) : Nat → Int
  | 0 => -1
  | n + 1 => if M 13 n < M 11 1 ∧ (qfs M n < 0 ∨ M 13 n < M 13 (qfs M n).toNat) then n else qfs M n
theorem qfs_is (M : MM) : ∀ n, isQ M n (qfs M n) := by
  intro n
  induction n with
  | zero => exact Or.inl ⟨rfl, fun t ht => by omega⟩
  | succ n ih =>
    unfold qfs
    rcases ih with ⟨e, hb⟩ | ⟨b, e, hb1, hb2, hb3⟩
    · rw [e]
      by_cases a : M 13 n < M 11 1
      · rw [if_pos ⟨a, Or.inl (by decide)⟩]
        refine Or.inr ⟨n, rfl, by omega, a, fun t ht h1 => ?_⟩
        by_cases htj : t = n
        · subst htj; exact Or.inr ⟨rfl, Nat.le_refl _⟩
        · exact absurd h1 (hb t (by omega))
      · rw [if_neg (fun q => a q.1)]
        refine Or.inl ⟨rfl, fun t ht => ?_⟩
        by_cases htj : t = n
        · subst htj; exact a
        · exact hb t (by omega)
    · rw [e]
      by_cases a : M 13 n < M 11 1 ∧ M 13 n < M 13 b
      · rw [if_pos ⟨a.1, Or.inr a.2⟩]
        refine Or.inr ⟨n, rfl, by omega, a.1, fun t ht h1 => ?_⟩
        by_cases htj : t = n
        · subst htj; exact Or.inr ⟨rfl, Nat.le_refl _⟩
        · rcases hb3 t (by omega) h1 with h | h <;> exact Or.inl (by omega)
      · rw [if_neg (fun q => a ⟨q.1, by rcases q.2 with h | h; omega; exact h⟩)]
        refine Or.inr ⟨b, rfl, by omega, hb2, fun t ht h1 => ?_⟩
        by_cases htj : t = n
        · subst htj
          by_cases d : M 13 b = M 13 t
          · exact Or.inr ⟨d, by omega⟩
          · have : ¬ M 13 t < M 13 b := fun q => a ⟨h1, q⟩
            exact Or.inl (by omega)
        · exact hb3 t (by omega) h1
theorem isQ_one {M : MM} {n : Nat} {r r' : Int} (h : isQ M n r) (h' : isQ M n r') : r = r' := by
  rcases h with ⟨e, hb⟩ | ⟨b, e, hb1, hb2, hb3⟩ <;> rcases h' with ⟨e', hb'⟩ | ⟨b', e', hb1', hb2', hb3'⟩
  · rw [e, e']
  · exact absurd hb2' (hb b' hb1')
  · exact absurd hb2 (hb' b hb1)
  · rcases hb3 b' hb1' hb2' with h | h <;> rcases hb3' b hb1 hb2 with h' | h' <;> omega
/-- the queue for a home core -/
def hqs (M : MM) (home : Nat) : Int := if (home : Int) < M 11 0 ∧ M 13 home < M 11 1 then home else qfs M (M 11 0).toNat
theorem isH_hqs {M : MM} {home : Nat} {r : Int} (h : isH M home r) : r = hqs M home := by
  unfold hqs
  rcases h with ⟨h1, h2, h3⟩ | ⟨h1, h2⟩
  · rw [if_pos ⟨h1, h2⟩, h3]
  · rw [if_neg h1]; exact isQ_one h2 (qfs_is _ _)
/-- one task queued -/
def qst (M : MM) : Option MM :=
  if frs M (M 1 0).toNat < 0 then none else
  if hqs M (M 5 (frs M (M 1 0).toNat).toNat).toNat < 0 then none else
  some (up (putQ M (hqs M (M 5 (frs M (M 1 0).toNat).toNat).toNat).toNat (frs M (M 1 0).toNat)) 2 (frs M (M 1 0).toNat).toNat 2)
def qall : Nat → MM → MM
  | 0, M => M
  | k + 1, M => match qst M with
    | none => M
    | some M' => qall k M'
def OkP (M : MM) : Prop := ∀ t : Nat, (t : Int) < M 1 0 → (0 ≤ M 4 t ∧ M 4 t ≤ 9) ∧ (0 ≤ M 5 t ∧ M 5 t < 4) ∧ (1 ≤ M 3 t ∧ M 3 t ≤ 99)
def Ok (M : MM) : Prop := OkT M ∧ OkC M ∧ OkP M
theorem qst_spec {M M' : MM} (ok : Ok M) (h : qst M = some M') : ∃ t c : Nat, frs M (M 1 0).toNat = t ∧ (t : Int) < M 1 0 ∧ M 2 t = 1 ∧ hqs M (M 5 t).toNat = c ∧ c < 4 ∧ M 13 c < M 11 1 ∧ M' = up (putQ M c t) 2 t 2 := by
  unfold qst at h
  obtain ⟨⟨o1, -⟩, ⟨c1, c2, -⟩, op⟩ := ok
  rcases frs_is M (M 1 0).toNat with ⟨e, -⟩ | ⟨t, e, ht, h2, -⟩
  · rw [e] at h; simp at h
  · rw [e] at h
    rw [if_neg (by omega)] at h
    simp only [Int.toNat_natCast] at h
    split at h
    · cases h
    · rename_i hh
      have hc : ∃ c : Nat, hqs M (M 5 t).toNat = c ∧ c < 4 ∧ M 13 c < M 11 1 := by
        unfold hqs at hh ⊢
        split
        · rename_i q
          have := op t (by omega)
          exact ⟨_, rfl, by omega, q.2⟩
        · rename_i q
          rw [if_neg q] at hh
          rcases qfs_is M (M 11 0).toNat with ⟨e, -⟩ | ⟨b, e, hb, h3, -⟩
          · rw [e] at hh; exact absurd (by decide) hh
          · exact ⟨b, e, by omega, h3⟩
      obtain ⟨c, e2, e3, e4⟩ := hc
      rw [e2, Int.toNat_natCast] at h
      cases h
      exact ⟨t, c, e, by omega, h2, e2, e3, e4, rfl⟩
theorem qst_ok {M M' : MM} (ok : Ok M) (h : qst M = some M') : Ok M' := by
  obtain ⟨t, c, e1, h1, h2, e2, h3, h4, rfl⟩ := qst_spec ok h
  obtain ⟨⟨o1, o2, o3, o4⟩, ⟨c1, c2, c3, c4, c5, c6⟩, op⟩ := ok
  unfold putQ
  refine ⟨⟨?_, ?_, fun q hq => ?_, ?_⟩, ⟨?_, ?_, ?_, fun q hq => ?_, fun q hq => ?_, fun q hq => ?_⟩, fun q hq => ?_⟩
  · simpa [up] using o1
  · simpa [up] using o2
  · have := o3 q hq
    simp only [up]
    split
    · omega
    · simpa using this
  · simpa [up] using o4
  · simpa [up] using c1
  · simpa [up] using c2
  · simpa [up] using c3
  · have h5 := c4 q hq
    simp only [up]
    rw [if_neg (by omega)]
    split
    · rename_i hc; have := c4 c h3; omega
    · rw [if_neg (by omega)]; exact h5
  · have := c5 q (by simpa [up] using hq)
    unfold runOk at this ⊢
    simpa [up] using this
  · have := c6 q hq
    simpa [up] using this
  · have := op q (by simpa [up] using hq)
    simpa [up] using this
section
variable {h : PH} {p : Nat} {M : MM}
theorem r_finT (hp : p + 19 ≤ h.length) (hT : M 1 0 ≤ 32) (ok : OkC M) : FX3_finishTasks (putM h p M) p = some (finN M (M 11 0).toNat, putM h p (finM M (M 11 0).toNat)) := by
  obtain ⟨o1, o2, o3, o4, o5, o6⟩ := ok
  obtain ⟨n, hn⟩ := Int.eq_ofNat_of_zero_le o1.1
  unfold FX3_finishTasks
  simp (disch := omega) only [pm_isO0 hp, pm_gfr0_0 hp, pm_gfr0_1 hp, pm_gfr0_2 hp, pm_gfi0_3 hp, pm_pfi0_3 hp, pm_isO1 hp, pm_gfi1_0 hp, pm_pfi1_0 hp, pm_gfi1_1 hp, pm_pfi1_1 hp, pm_gfr1_2 hp, pm_gfr1_3 hp, pm_gfr1_4 hp, pm_gfr1_5 hp, pm_gfr1_6 hp, pm_gfr1_7 hp, pm_gfr1_8 hp, pm_gfr1_9 hp, pm_gfr1_10 hp, pm_isO11 hp, pm_gfi11_0 hp, pm_pfi11_0 hp, pm_gfi11_1 hp, pm_pfi11_1 hp, pm_gfi11_2 hp, pm_pfi11_2 hp, pm_gfr11_3 hp, pm_gfr11_4 hp, pm_gfr11_5 hp, pm_gfr11_6 hp, pm_gfr11_7 hp, pm_gfr11_8 hp, pm_gfr11_9 hp, pa2 hp, ps2 hp, pa3 hp, ps3 hp, pa4 hp, ps4 hp, pa5 hp, ps5 hp, pa6 hp, ps6 hp, pa7 hp, ps7 hp, pa8 hp, ps8 hp, pa9 hp, ps9 hp, pa10 hp, ps10 hp, pa12 hp, ps12 hp, pa13 hp, ps13 hp, pa14 hp, ps14 hp, pa15 hp, ps15 hp, pa16 hp, ps16 hp, pa17 hp, ps17 hp, pa18 hp, ps18 hp, Option.bind_some, w32_eq, Int.toNat_natCast, if_true, if_false]
  have := lp_det (f := fun st : Int × Int × PH => LX3_finishTasks_4 p st.1 st.2.1 st.2.2) (fun j => (finN M j, (j : Int), putM h p (finM M j))) (a := 0) (b := n) (r := (finN M n, putM h p (finM M n))) (by omega) (by omega) (fun j h1 h2 => ?_) ?_
  · rw [hn, Int.toNat_natCast]
    exact (congrArg (fun o => Option.bind o _) this).trans rfl
  · have e0 : finM M j 11 0 = n := by rw [finM_keep (by decide) (by decide) (by omega), hn]
    have e1 : finM M j 14 j = M 14 j := finM_keep (by decide) (by decide) (by omega)
    have e2 : finM M j 15 j = M 15 j := finM_keep (by decide) (by decide) (by omega)
    have e3 : finM M j 0 3 = M 0 3 := finM_keep (by decide) (by decide) (by omega)
    have hr := o5 j (by omega)
    unfold runOk at hr
    have hw : -2147483648 ≤ M 14 j ∧ M 14 j < 2147483648 := by omega
    unfold LX3_finishTasks_4 JX3_finishTasks_90
    simp (disch := omega) only [pm_isO0 hp, pm_gfr0_0 hp, pm_gfr0_1 hp, pm_gfr0_2 hp, pm_gfi0_3 hp, pm_pfi0_3 hp, pm_isO1 hp, pm_gfi1_0 hp, pm_pfi1_0 hp, pm_gfi1_1 hp, pm_pfi1_1 hp, pm_gfr1_2 hp, pm_gfr1_3 hp, pm_gfr1_4 hp, pm_gfr1_5 hp, pm_gfr1_6 hp, pm_gfr1_7 hp, pm_gfr1_8 hp, pm_gfr1_9 hp, pm_gfr1_10 hp, pm_isO11 hp, pm_gfi11_0 hp, pm_pfi11_0 hp, pm_gfi11_1 hp, pm_pfi11_1 hp, pm_gfi11_2 hp, pm_pfi11_2 hp, pm_gfr11_3 hp, pm_gfr11_4 hp, pm_gfr11_5 hp, pm_gfr11_6 hp, pm_gfr11_7 hp, pm_gfr11_8 hp, pm_gfr11_9 hp, pa2 hp, ps2 hp, pa3 hp, ps3 hp, pa4 hp, ps4 hp, pa5 hp, ps5 hp, pa6 hp, ps6 hp, pa7 hp, ps7 hp, pa8 hp, ps8 hp, pa9 hp, ps9 hp, pa10 hp, ps10 hp, pa12 hp, ps12 hp, pa13 hp, ps13 hp, pa14 hp, ps14 hp, pa15 hp, ps15 hp, pa16 hp, ps16 hp, pa17 hp, ps17 hp, pa18 hp, ps18 hp, Option.bind_some, w32_eq, Int.toNat_natCast, if_true, if_false, e0, e1, e2]
    rw [if_pos (by omega)]
    rw [show finM M (j + 1) = fin1 (finM M j) j from rfl, show finN M (j + 1) = finN M j + (if 0 ≤ finM M j 14 j ∧ finM M j 15 j = 1 then 1 else 0) from rfl]
    unfold fin1
    rw [e1, e2, e3]
    by_cases a : M 14 j < 0
    · rw [if_pos a, if_pos a, if_neg (by omega), Int.add_zero]
      rfl
    · rw [if_neg a, if_neg a]
      simp (disch := omega) only [pm_isO0 hp, pm_gfr0_0 hp, pm_gfr0_1 hp, pm_gfr0_2 hp, pm_gfi0_3 hp, pm_pfi0_3 hp, pm_isO1 hp, pm_gfi1_0 hp, pm_pfi1_0 hp, pm_gfi1_1 hp, pm_pfi1_1 hp, pm_gfr1_2 hp, pm_gfr1_3 hp, pm_gfr1_4 hp, pm_gfr1_5 hp, pm_gfr1_6 hp, pm_gfr1_7 hp, pm_gfr1_8 hp, pm_gfr1_9 hp, pm_gfr1_10 hp, pm_isO11 hp, pm_gfi11_0 hp, pm_pfi11_0 hp, pm_gfi11_1 hp, pm_pfi11_1 hp, pm_gfi11_2 hp, pm_pfi11_2 hp, pm_gfr11_3 hp, pm_gfr11_4 hp, pm_gfr11_5 hp, pm_gfr11_6 hp, pm_gfr11_7 hp, pm_gfr11_8 hp, pm_gfr11_9 hp, pa2 hp, ps2 hp, pa3 hp, ps3 hp, pa4 hp, ps4 hp, pa5 hp, ps5 hp, pa6 hp, ps6 hp, pa7 hp, ps7 hp, pa8 hp, ps8 hp, pa9 hp, ps9 hp, pa10 hp, ps10 hp, pa12 hp, ps12 hp, pa13 hp, ps13 hp, pa14 hp, ps14 hp, pa15 hp, ps15 hp, pa16 hp, ps16 hp, pa17 hp, ps17 hp, pa18 hp, ps18 hp, Option.bind_some, w32_eq, Int.toNat_natCast, if_true, if_false, up_eq, e2]
      by_cases b : M 15 j = 1
      · rw [if_pos (show M 15 j - 1 = 0 by omega), if_pos b, if_pos ⟨by omega, b⟩]
        simp (disch := omega) only [pm_isO0 hp, pm_gfr0_0 hp, pm_gfr0_1 hp, pm_gfr0_2 hp, pm_gfi0_3 hp, pm_pfi0_3 hp, pm_isO1 hp, pm_gfi1_0 hp, pm_pfi1_0 hp, pm_gfi1_1 hp, pm_pfi1_1 hp, pm_gfr1_2 hp, pm_gfr1_3 hp, pm_gfr1_4 hp, pm_gfr1_5 hp, pm_gfr1_6 hp, pm_gfr1_7 hp, pm_gfr1_8 hp, pm_gfr1_9 hp, pm_gfr1_10 hp, pm_isO11 hp, pm_gfi11_0 hp, pm_pfi11_0 hp, pm_gfi11_1 hp, pm_pfi11_1 hp, pm_gfi11_2 hp, pm_pfi11_2 hp, pm_gfr11_3 hp, pm_gfr11_4 hp, pm_gfr11_5 hp, pm_gfr11_6 hp, pm_gfr11_7 hp, pm_gfr11_8 hp, pm_gfr11_9 hp, pa2 hp, ps2 hp, pa3 hp, ps3 hp, pa4 hp, ps4 hp, pa5 hp, ps5 hp, pa6 hp, ps6 hp, pa7 hp, ps7 hp, pa8 hp, ps8 hp, pa9 hp, ps9 hp, pa10 hp, ps10 hp, pa12 hp, ps12 hp, pa13 hp, ps13 hp, pa14 hp, ps14 hp, pa15 hp, ps15 hp, pa16 hp, ps16 hp, pa17 hp, ps17 hp, pa18 hp, ps18 hp, Option.bind_some, w32_eq, Int.toNat_natCast, if_true, if_false, up_eq, up_ne (show (0 : Nat) ≠ 2 by decide), up_ne (show (0 : Nat) ≠ 15 by decide), e3]
        rfl
      · rw [if_neg (show ¬ M 15 j - 1 = 0 by omega), if_neg b, if_neg (by omega), Int.add_zero]
        rfl
  · have e0 : finM M n 11 0 = n := by rw [finM_keep (by decide) (by decide) (by omega), hn]
    unfold LX3_finishTasks_4
    simp (disch := omega) only [pm_isO0 hp, pm_gfr0_0 hp, pm_gfr0_1 hp, pm_gfr0_2 hp, pm_gfi0_3 hp, pm_pfi0_3 hp, pm_isO1 hp, pm_gfi1_0 hp, pm_pfi1_0 hp, pm_gfi1_1 hp, pm_pfi1_1 hp, pm_gfr1_2 hp, pm_gfr1_3 hp, pm_gfr1_4 hp, pm_gfr1_5 hp, pm_gfr1_6 hp, pm_gfr1_7 hp, pm_gfr1_8 hp, pm_gfr1_9 hp, pm_gfr1_10 hp, pm_isO11 hp, pm_gfi11_0 hp, pm_pfi11_0 hp, pm_gfi11_1 hp, pm_pfi11_1 hp, pm_gfi11_2 hp, pm_pfi11_2 hp, pm_gfr11_3 hp, pm_gfr11_4 hp, pm_gfr11_5 hp, pm_gfr11_6 hp, pm_gfr11_7 hp, pm_gfr11_8 hp, pm_gfr11_9 hp, pa2 hp, ps2 hp, pa3 hp, ps3 hp, pa4 hp, ps4 hp, pa5 hp, ps5 hp, pa6 hp, ps6 hp, pa7 hp, ps7 hp, pa8 hp, ps8 hp, pa9 hp, ps9 hp, pa10 hp, ps10 hp, pa12 hp, ps12 hp, pa13 hp, ps13 hp, pa14 hp, ps14 hp, pa15 hp, ps15 hp, pa16 hp, ps16 hp, pa17 hp, ps17 hp, pa18 hp, ps18 hp, Option.bind_some, w32_eq, Int.toNat_natCast, if_true, if_false, e0]
    rw [if_neg (by omega)]
theorem r_queue (hp : p + 19 ≤ h.length) (ok : Ok M) : FX3_queueTasks (putM h p M) p = some (putM h p (qall 32 M)) := by
  unfold FX3_queueTasks
  simp (disch := omega) only [pm_isO0 hp, pm_gfr0_0 hp, pm_gfr0_1 hp, pm_gfr0_2 hp, pm_gfi0_3 hp, pm_pfi0_3 hp, pm_isO1 hp, pm_gfi1_0 hp, pm_pfi1_0 hp, pm_gfi1_1 hp, pm_pfi1_1 hp, pm_gfr1_2 hp, pm_gfr1_3 hp, pm_gfr1_4 hp, pm_gfr1_5 hp, pm_gfr1_6 hp, pm_gfr1_7 hp, pm_gfr1_8 hp, pm_gfr1_9 hp, pm_gfr1_10 hp, pm_isO11 hp, pm_gfi11_0 hp, pm_pfi11_0 hp, pm_gfi11_1 hp, pm_pfi11_1 hp, pm_gfi11_2 hp, pm_pfi11_2 hp, pm_gfr11_3 hp, pm_gfr11_4 hp, pm_gfr11_5 hp, pm_gfr11_6 hp, pm_gfr11_7 hp, pm_gfr11_8 hp, pm_gfr11_9 hp, pa2 hp, ps2 hp, pa3 hp, ps3 hp, pa4 hp, ps4 hp, pa5 hp, ps5 hp, pa6 hp, ps6 hp, pa7 hp, ps7 hp, pa8 hp, ps8 hp, pa9 hp, ps9 hp, pa10 hp, ps10 hp, pa12 hp, ps12 hp, pa13 hp, ps13 hp, pa14 hp, ps14 hp, pa15 hp, ps15 hp, pa16 hp, ps16 hp, pa17 hp, ps17 hp, pa18 hp, ps18 hp, Option.bind_some, w32_eq, Int.toNat_natCast, if_true, if_false]
  have := lp_for (f := fun st : Int × PH => LX3_queueTasks_2 p st.1 st.2) (fun j st => ∃ N, st = ((j : Int), putM h p N) ∧ Ok N ∧ qall (32 - j) N = qall 32 M) (fun r => Sum.elim id (Sum.elim id id) r = putM h p (qall 32 M)) (a := 0) (b := 32) (s := (0, putM h p M)) (by omega) (by omega) ⟨M, rfl, ok, rfl⟩ (fun j st h1 h2 hI => ?_) (fun st hI => ?_)
  · obtain ⟨r, e1, e2⟩ := this
    rw [e1]
    rcases r with r | r | r <;> exact congrArg some e2
  · obtain ⟨N, rfl, okN, hq⟩ := hI
    obtain ⟨r, f1, f2⟩ := r_first (h := h) (p := p) hp okN.1 (fun t ht => (okN.2.2 t ht).1)
    have f3 := isF_one f2 (frs_is N _)
    dsimp only
    unfold LX3_queueTasks_2
    simp (disch := omega) only [pm_isO0 hp, pm_gfr0_0 hp, pm_gfr0_1 hp, pm_gfr0_2 hp, pm_gfi0_3 hp, pm_pfi0_3 hp, pm_isO1 hp, pm_gfi1_0 hp, pm_pfi1_0 hp, pm_gfi1_1 hp, pm_pfi1_1 hp, pm_gfr1_2 hp, pm_gfr1_3 hp, pm_gfr1_4 hp, pm_gfr1_5 hp, pm_gfr1_6 hp, pm_gfr1_7 hp, pm_gfr1_8 hp, pm_gfr1_9 hp, pm_gfr1_10 hp, pm_isO11 hp, pm_gfi11_0 hp, pm_pfi11_0 hp, pm_gfi11_1 hp, pm_pfi11_1 hp, pm_gfi11_2 hp, pm_pfi11_2 hp, pm_gfr11_3 hp, pm_gfr11_4 hp, pm_gfr11_5 hp, pm_gfr11_6 hp, pm_gfr11_7 hp, pm_gfr11_8 hp, pm_gfr11_9 hp, pa2 hp, ps2 hp, pa3 hp, ps3 hp, pa4 hp, ps4 hp, pa5 hp, ps5 hp, pa6 hp, ps6 hp, pa7 hp, ps7 hp, pa8 hp, ps8 hp, pa9 hp, ps9 hp, pa10 hp, ps10 hp, pa12 hp, ps12 hp, pa13 hp, ps13 hp, pa14 hp, ps14 hp, pa15 hp, ps15 hp, pa16 hp, ps16 hp, pa17 hp, ps17 hp, pa18 hp, ps18 hp, Option.bind_some, w32_eq, Int.toNat_natCast, if_true, if_false, f1]
    rw [if_pos (by omega)]
    rw [show 32 - j = (32 - (j + 1)) + 1 by omega] at hq
    rw [qall] at hq
    rcases f2 with ⟨e, -⟩ | ⟨t, e, ht, -⟩
    · rw [e, if_pos (by decide)]
      refine Or.inl ⟨_, rfl, ?_⟩
      have : qst N = none := by unfold qst; rw [← f3, e]; rfl
      rw [this] at hq
      rw [← hq]; rfl
    · have ht32 : t < 32 := by have := okN.1.1; omega
      have hh := (okN.2.2 t (by omega)).2.1
      obtain ⟨c, g1, g2⟩ := r_qf (h := h) (p := p) hp okN.2.1 (home := (N 5 t).toNat) (by omega)
      have g3 := isH_hqs g2
      rw [show (((N 5 t).toNat : Nat) : Int) = N 5 t by omega] at g1
      rw [e]
      simp (disch := omega) only [pm_isO0 hp, pm_gfr0_0 hp, pm_gfr0_1 hp, pm_gfr0_2 hp, pm_gfi0_3 hp, pm_pfi0_3 hp, pm_isO1 hp, pm_gfi1_0 hp, pm_pfi1_0 hp, pm_gfi1_1 hp, pm_pfi1_1 hp, pm_gfr1_2 hp, pm_gfr1_3 hp, pm_gfr1_4 hp, pm_gfr1_5 hp, pm_gfr1_6 hp, pm_gfr1_7 hp, pm_gfr1_8 hp, pm_gfr1_9 hp, pm_gfr1_10 hp, pm_isO11 hp, pm_gfi11_0 hp, pm_pfi11_0 hp, pm_gfi11_1 hp, pm_pfi11_1 hp, pm_gfi11_2 hp, pm_pfi11_2 hp, pm_gfr11_3 hp, pm_gfr11_4 hp, pm_gfr11_5 hp, pm_gfr11_6 hp, pm_gfr11_7 hp, pm_gfr11_8 hp, pm_gfr11_9 hp, pa2 hp, ps2 hp, pa3 hp, ps3 hp, pa4 hp, ps4 hp, pa5 hp, ps5 hp, pa6 hp, ps6 hp, pa7 hp, ps7 hp, pa8 hp, ps8 hp, pa9 hp, ps9 hp, pa10 hp, ps10 hp, pa12 hp, ps12 hp, pa13 hp, ps13 hp, pa14 hp, ps14 hp, pa15 hp, ps15 hp, pa16 hp, ps16 hp, pa17 hp, ps17 hp, pa18 hp, ps18 hp, Option.bind_some, w32_eq, Int.toNat_natCast, if_true, if_false, g1]
      rw [if_neg (by omega)]
      have hcr : c = -1 ∨ ∃ b : Nat, c = b ∧ b < 4 ∧ N 13 b < N 11 1 := by
        rcases g2 with ⟨a1, a2, a3⟩ | ⟨-, ⟨a1, -⟩ | ⟨b, a1, a2, a3, -⟩⟩
        · exact Or.inr ⟨_, a3, by have := okN.2.1.1; omega, a2⟩
        · exact Or.inl a1
        · exact Or.inr ⟨b, a1, by have := okN.2.1.1; omega, a3⟩
      rcases hcr with rfl | ⟨b, rfl, hb4, hb⟩
      · rw [if_pos (by decide)]
        refine Or.inl ⟨_, rfl, ?_⟩
        have : qst N = none := by unfold qst; rw [← f3, e, if_neg (by omega), Int.toNat_natCast, ← g3]; rfl
        rw [this] at hq
        rw [← hq]; rfl
      · have hq8 : N 13 b < 8 := by have := okN.2.1.2.1; omega
        have hs : qst N = some (up (putQ N b t) 2 t 2) := by
          unfold qst
          rw [← f3, e, if_neg (by omega), Int.toNat_natCast, ← g3, if_neg (by omega), Int.toNat_natCast]
        rw [w32_eq (by omega) (by omega), if_neg (by omega), r_putL hp okN.2.1 hb4 hq8]
        simp (disch := omega) only [pm_isO0 hp, pm_gfr0_0 hp, pm_gfr0_1 hp, pm_gfr0_2 hp, pm_gfi0_3 hp, pm_pfi0_3 hp, pm_isO1 hp, pm_gfi1_0 hp, pm_pfi1_0 hp, pm_gfi1_1 hp, pm_pfi1_1 hp, pm_gfr1_2 hp, pm_gfr1_3 hp, pm_gfr1_4 hp, pm_gfr1_5 hp, pm_gfr1_6 hp, pm_gfr1_7 hp, pm_gfr1_8 hp, pm_gfr1_9 hp, pm_gfr1_10 hp, pm_isO11 hp, pm_gfi11_0 hp, pm_pfi11_0 hp, pm_gfi11_1 hp, pm_pfi11_1 hp, pm_gfi11_2 hp, pm_pfi11_2 hp, pm_gfr11_3 hp, pm_gfr11_4 hp, pm_gfr11_5 hp, pm_gfr11_6 hp, pm_gfr11_7 hp, pm_gfr11_8 hp, pm_gfr11_9 hp, pa2 hp, ps2 hp, pa3 hp, ps3 hp, pa4 hp, ps4 hp, pa5 hp, ps5 hp, pa6 hp, ps6 hp, pa7 hp, ps7 hp, pa8 hp, ps8 hp, pa9 hp, ps9 hp, pa10 hp, ps10 hp, pa12 hp, ps12 hp, pa13 hp, ps13 hp, pa14 hp, ps14 hp, pa15 hp, ps15 hp, pa16 hp, ps16 hp, pa17 hp, ps17 hp, pa18 hp, ps18 hp, Option.bind_some, w32_eq, Int.toNat_natCast, if_true, if_false]
        refine Or.inr ⟨_, rfl, up (putQ N b t) 2 t 2, rfl, qst_ok okN hs, ?_⟩
        rw [hs] at hq
        exact hq
  · obtain ⟨N, rfl, okN, hq⟩ := hI
    dsimp only
    unfold LX3_queueTasks_2
    rw [if_neg (by decide)]
    exact ⟨_, rfl, congrArg (putM h p) hq⟩
end
