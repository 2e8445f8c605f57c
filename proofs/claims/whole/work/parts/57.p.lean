set_option linter.unusedVariables false
set_option linter.unusedSimpArgs false
/-! ===== what is queued is QUEUED, what runs is RUNNING ===== -/
def OkS (M : MM) : Prop :=
  (∀ c k : Nat, c < 4 → (k : Int) < M 13 c → M 2 (M 12 (8 * c + k)).toNat = 2) ∧
  (∀ c : Nat, (c : Int) < M 11 0 → 0 ≤ M 14 c → M 2 (M 14 c).toNat = 3) ∧
  (∀ c k c' k' : Nat, c < 4 → c' < 4 → (k : Int) < M 13 c → (k' : Int) < M 13 c' → M 12 (8 * c + k) = M 12 (8 * c' + k') → c = c' ∧ k = k')
theorem okS_congr {M M' : MM} (h2 : M' 2 = M 2) (h11 : M' 11 = M 11) (h12 : M' 12 = M 12) (h13 : M' 13 = M 13) (h14 : M' 14 = M 14) (s : OkS M) : OkS M' := by
  unfold OkS at s ⊢
  rw [h2, h11, h12, h13, h14]; exact s
theorem okR_congr {M M' : MM} (h11 : M' 11 = M 11) (h14 : M' 14 = M 14) (s : OkR M) : OkR M' := by
  unfold OkR at s ⊢
  rw [h11, h14]; exact s
theorem okB_congr {M M' : MM} (h1 : M' 1 = M 1) (h6 : M' 6 = M 6) (s : OkB M) : OkB M' := by
  unfold OkB at s ⊢
  rw [h1, h6]; exact s
theorem okH_congr {M M' : MM} (h1 : M' 1 = M 1) (h5 : M' 5 = M 5) (h11 : M' 11 = M 11) (s : OkH M) : OkH M' := by
  unfold OkH at s ⊢
  rw [h1, h5, h11]; exact s
theorem okS_fin1 {M : MM} {c : Nat} (ok : Ok M) (oq : OkQ M) (kr : OkR M) (s : OkS M) (hc : (c : Int) < M 11 0) : OkS (fin1 M c) := by
  have hr := ok.2.1.2.2.2.2.1 c hc
  unfold runOk at hr
  obtain ⟨s1, s2, s3⟩ := s
  unfold fin1
  by_cases a : M 14 c < 0
  · rw [if_pos a]; exact ⟨s1, s2, s3⟩
  rw [if_neg a]
  by_cases b : M 15 c = 1
  · rw [if_pos b]
    have hs := s2 c hc (by omega)
    refine ⟨fun q k hq hk => ?_, fun q hq h0 => ?_, ?_⟩
    · rw [up_ne (show 13 ≠ 14 by decide), up_ne (show 13 ≠ 8 by decide), up_ne (show 13 ≠ 2 by decide), up_ne (show 13 ≠ 15 by decide)] at hk
      rw [up_ne (show 12 ≠ 14 by decide), up_ne (show 12 ≠ 8 by decide), up_ne (show 12 ≠ 2 by decide), up_ne (show 12 ≠ 15 by decide), up_ne (show 2 ≠ 14 by decide), up_ne (show 2 ≠ 8 by decide)]
      have := s1 q k hq hk
      rw [up_ni (by intro e; rw [e] at this; omega), up_ne (show 2 ≠ 15 by decide)]; exact this
    · rw [up_ne (show 11 ≠ 14 by decide), up_ne (show 11 ≠ 8 by decide), up_ne (show 11 ≠ 2 by decide), up_ne (show 11 ≠ 15 by decide)] at hq
      by_cases e : q = c
      · subst e; rw [up_eq] at h0; omega
      · rw [up_ni e, up_ne (show 14 ≠ 8 by decide), up_ne (show 14 ≠ 2 by decide), up_ne (show 14 ≠ 15 by decide)] at h0 ⊢
        rw [up_ne (show 2 ≠ 14 by decide), up_ne (show 2 ≠ 8 by decide)]
        have h1 := s2 q hq h0
        have h2 := kr q c hq hc e h0
        rw [up_ni (by omega), up_ne (show 2 ≠ 15 by decide)]; exact h1
    · rw [up_ne (show 13 ≠ 14 by decide), up_ne (show 13 ≠ 8 by decide), up_ne (show 13 ≠ 2 by decide), up_ne (show 13 ≠ 15 by decide), up_ne (show 12 ≠ 14 by decide), up_ne (show 12 ≠ 8 by decide), up_ne (show 12 ≠ 2 by decide), up_ne (show 12 ≠ 15 by decide)]
      exact s3
  · rw [if_neg b]
    exact okS_congr (up_ne (by decide)) (up_ne (by decide)) (up_ne (by decide)) (up_ne (by decide)) (up_ne (by decide)) ⟨s1, s2, s3⟩
theorem okS_finM {M : MM} (ok : Ok M) (oq : OkQ M) (kr : OkR M) (s : OkS M) : ∀ {j : Nat}, (j : Int) ≤ M 11 0 → OkS (finM M j) ∧ OkR (finM M j) := by
  intro j
  induction j with
  | zero => intro _; exact ⟨s, kr⟩
  | succ j ih =>
    intro hj
    obtain ⟨h1, h2⟩ := ih (by omega)
    have h4 := ok.2.1.1
    obtain ⟨o1, o2⟩ := finM_ok (j := j) ok oq (by omega)
    have e11 : finM M j 11 0 = M 11 0 := finM_keep (by decide) (by decide) (Or.inl ⟨by decide, by decide⟩)
    exact ⟨okS_fin1 o1 o2 h2 h1 (by rw [e11]; omega), okR_fin1 h2⟩
theorem okS_rdy {M : MM} {j : Nat} (s : OkS M) : OkS (rdyM M j) := by
  obtain ⟨s1, s2, s3⟩ := s
  refine ⟨fun q k hq hk => ?_, fun q hq h0 => ?_, ?_⟩
  · rw [rdy_ne (show 13 ≠ 2 by decide)] at hk
    rw [rdy_ne (show 12 ≠ 2 by decide)]
    have := s1 q k hq hk
    unfold rdyM
    rw [if_neg (by rintro ⟨-, -, e, -⟩; omega)]; exact this
  · rw [rdy_ne (show 11 ≠ 2 by decide)] at hq
    rw [rdy_ne (show 14 ≠ 2 by decide)] at h0 ⊢
    have := s2 q hq h0
    unfold rdyM
    rw [if_neg (by rintro ⟨-, -, e, -⟩; omega)]; exact this
  · rw [rdy_ne (show 13 ≠ 2 by decide), rdy_ne (show 12 ≠ 2 by decide)]; exact s3
theorem okS_qst {M M' : MM} (ok : Ok M) (oq : OkQ M) (s : OkS M) (h : qst M = some M') : OkS M' := by
  obtain ⟨t, c, e1, h1, h2, e2, h3, h4, rfl⟩ := qst_spec ok h
  have h8 := ok.2.1.2.2.2.1 c h3
  have hcap := ok.2.1.2.1
  obtain ⟨s1, s2, s3⟩ := s
  have k13 : ∀ q, up (putQ M c t) 2 t 2 13 q = if q = c then M 13 c + 1 else M 13 q := by
    intro q
    rw [up_ne (by decide)]; unfold putQ
    by_cases e : q = c
    · subst e; rw [up_eq, if_pos rfl]
    · rw [up_ni e, up_ne (by decide), if_neg e]
  have k12 : ∀ q, up (putQ M c t) 2 t 2 12 q = if q = 8 * c + (M 13 c).toNat then (t : Int) else M 12 q := by
    intro q
    rw [up_ne (by decide)]; unfold putQ
    rw [up_ne (by decide)]
    by_cases e : q = 8 * c + (M 13 c).toNat
    · subst e; rw [up_eq, if_pos rfl]
    · rw [up_ni e, if_neg e]
  have k2 : ∀ q, up (putQ M c t) 2 t 2 2 q = if q = t then 2 else M 2 q := by
    intro q
    by_cases e : q = t
    · subst e; rw [up_eq, if_pos rfl]
    · rw [up_ni e, if_neg e]; unfold putQ; rw [up_ne (by decide), up_ne (by decide)]
  have k11 : up (putQ M c t) 2 t 2 11 = M 11 := by rw [up_ne (by decide)]; unfold putQ; rw [up_ne (by decide), up_ne (by decide)]
  have k14 : up (putQ M c t) 2 t 2 14 = M 14 := by rw [up_ne (by decide)]; unfold putQ; rw [up_ne (by decide), up_ne (by decide)]
  have old : ∀ q k : Nat, q < 4 → (k : Int) < M 13 q → 8 * q + k ≠ 8 * c + (M 13 c).toNat := by
    intro q k hq hk
    have := ok.2.1.2.2.2.1 q hq
    by_cases e : q = c
    · subst e; omega
    · omega
  have cas : ∀ q k : Nat, q < 4 → (k : Int) < up (putQ M c t) 2 t 2 13 q → (q = c ∧ (k : Int) = M 13 c) ∨ (k : Int) < M 13 q := by
    intro q k hq hk
    rw [k13] at hk
    by_cases e : q = c
    · rw [if_pos e] at hk; subst e
      by_cases e2 : (k : Int) = M 13 q
      · exact Or.inl ⟨rfl, e2⟩
      · exact Or.inr (by omega)
    · rw [if_neg e] at hk; exact Or.inr hk
  refine ⟨fun q k hq hk => ?_, fun q hq h0 => ?_, fun q k q' k' hq hq' hk hk' he => ?_⟩
  · rw [k12]
    rcases cas q k hq hk with ⟨e, ek⟩ | hk
    · rw [if_pos (by subst e; omega), k2, Int.toNat_natCast, if_pos rfl]
    · rw [if_neg (old q k hq hk), k2]
      have := s1 q k hq hk
      rw [if_neg (by intro e; rw [e] at this; omega)]; exact this
  · rw [k11] at hq
    rw [k14] at h0 ⊢
    have := s2 q hq h0
    rw [k2, if_neg (by intro e; rw [e] at this; omega)]; exact this
  · rw [k12, k12] at he
    rcases cas q k hq hk with ⟨e, ek⟩ | hk <;> rcases cas q' k' hq' hk' with ⟨e', ek'⟩ | hk'
    · exact ⟨by omega, by omega⟩
    · rw [if_pos (by subst e; omega), if_neg (old q' k' hq' hk')] at he
      have := s1 q' k' hq' hk'
      rw [← he, Int.toNat_natCast] at this; omega
    · rw [if_neg (old q k hq hk), if_pos (by subst e'; omega)] at he
      have := s1 q k hq hk
      rw [he, Int.toNat_natCast] at this; omega
    · rw [if_neg (old q k hq hk), if_neg (old q' k' hq' hk')] at he
      exact s3 q k q' k' hq hq' hk hk' he
theorem okS_qall : ∀ {k : Nat} {M : MM}, Ok M → OkQ M → OkS M → OkS (qall k M) := by
  intro k
  induction k with
  | zero => intro M _ _ h; exact h
  | succ k ih =>
    intro M h1 h2 h3
    unfold qall
    cases hq : qst M with
    | none => exact h3
    | some M' => exact ih (qst_ok h1 hq) (qst_okq h1 h2 hq) (okS_qst h1 h2 h3 hq)
/-- the place of the old queue that a place of the queue is, once one is taken out -/
theorem tk_old {M : MM} {s k q j : Nat} (h8 : ∀ c : Nat, c < 4 → 0 ≤ M 13 c ∧ M 13 c ≤ 8) (hs : s < 4) (hq : q < 4) (hk : (k : Int) < M 13 s) (hj : (j : Int) < tkM M s k 13 q) : ∃ j' : Nat, tkM M s k 12 (8 * q + j) = M 12 (8 * q + j') ∧ (j' : Int) < M 13 q ∧ ¬ (q = s ∧ j' = k) ∧ (q = s → (j' = if k ≤ j then j + 1 else j)) ∧ (q ≠ s → j' = j) := by
  have a1 := h8 s hs
  have a2 := h8 q hq
  rw [tk_13] at hj
  rw [tk_12]
  by_cases e : q = s
  · subst e
    rw [if_pos rfl] at hj
    by_cases c : k ≤ j
    · rw [if_pos (by omega)]
      exact ⟨j + 1, by rw [Nat.add_assoc], by omega, by omega, fun _ => by rw [if_pos c], fun h => absurd rfl h⟩
    · rw [if_neg (by omega)]
      exact ⟨j, rfl, by omega, by omega, fun _ => by rw [if_neg c], fun h => absurd rfl h⟩
  · rw [if_neg e] at hj
    rw [if_neg (by omega)]
    exact ⟨j, rfl, hj, fun h => e h.1, fun h => absurd h e, fun _ => rfl⟩
theorem staM_rows {ss : List Int} {M : MM} {c : Nat} (h0 : M 13 (srcM M c) ≠ 0) :
    (∀ q, staM ss M c 2 q = if q = stT M c then 3 else M 2 q) ∧ staM ss M c 12 = tkM M (srcM M c) (plcM M c) 12 ∧ staM ss M c 13 = tkM M (srcM M c) (plcM M c) 13 ∧ (∀ q, staM ss M c 14 q = if q = c then (stT M c : Int) else M 14 q) ∧ (∀ q, staM ss M c 7 q = if q = stT M c then (c : Int) else M 7 q) ∧ staM ss M c 8 = M 8 := by
  have e2 : stN M c 2 = M 2 := tk_ne (by decide) (by decide)
  have e14 : stN M c 14 = M 14 := tk_ne (by decide) (by decide)
  have e7 : stN M c 7 = M 7 := tk_ne (by decide) (by decide)
  refine ⟨fun q => ?_, ?_, ?_, fun q => ?_, fun q => ?_, ?_⟩
  · unfold staM
    rw [if_neg h0]
    split
    · rw [up_ne (by decide), up_ne (by decide), up_ne (by decide), up_ne (by decide), up_ne (by decide)]
      by_cases e : q = stT M c
      · subst e; rw [up_eq, if_pos rfl]
      · rw [up_ni e, e2, if_neg e]
    · rw [up_ne (by decide), up_ne (by decide), up_ne (by decide)]
      by_cases e : q = stT M c
      · subst e; rw [up_eq, if_pos rfl]
      · rw [up_ni e, e2, if_neg e]
  · unfold staM
    rw [if_neg h0]
    split
    · rw [up_ne (by decide), up_ne (by decide), up_ne (by decide), up_ne (by decide), up_ne (by decide), up_ne (by decide)]; rfl
    · rw [up_ne (by decide), up_ne (by decide), up_ne (by decide), up_ne (by decide)]; rfl
  · unfold staM
    rw [if_neg h0]
    split
    · rw [up_ne (by decide), up_ne (by decide), up_ne (by decide), up_ne (by decide), up_ne (by decide), up_ne (by decide)]; rfl
    · rw [up_ne (by decide), up_ne (by decide), up_ne (by decide), up_ne (by decide)]; rfl
  · unfold staM
    rw [if_neg h0]
    split
    · rw [up_ne (by decide), up_ne (by decide), up_ne (by decide)]
      by_cases e : q = c
      · subst e; rw [up_eq, if_pos rfl]
      · rw [up_ni e, up_ne (by decide), up_ne (by decide), e14, if_neg e]
    · rw [up_ne (by decide)]
      by_cases e : q = c
      · subst e; rw [up_eq, if_pos rfl]
      · rw [up_ni e, up_ne (by decide), up_ne (by decide), e14, if_neg e]
  · unfold staM
    rw [if_neg h0]
    split
    · rw [up_ne (by decide), up_ne (by decide), up_ne (by decide), up_ne (by decide)]
      by_cases e : q = stT M c
      · subst e; rw [up_eq, if_pos rfl]
      · rw [up_ni e, up_ne (by decide), e7, if_neg e]
    · rw [up_ne (by decide), up_ne (by decide)]
      by_cases e : q = stT M c
      · subst e; rw [up_eq, if_pos rfl]
      · rw [up_ni e, up_ne (by decide), e7, if_neg e]
  · exact staM_keep (by decide) (by decide) (by decide) (by decide) (by decide) (by decide) (by decide)
theorem okS_sta {ss : List Int} {M : MM} {c : Nat} (ok : Ok M) (oq : OkQ M) (kr : OkR M) (s : OkS M) (hc : (c : Int) < M 11 0) : OkS (staM ss M c) ∧ OkR (staM ss M c) := by
  by_cases h0 : M 13 (srcM M c) = 0
  · unfold staM; rw [if_pos h0]; exact ⟨s, kr⟩
  obtain ⟨s1, s2, s3⟩ := s
  obtain ⟨hs, hk⟩ := st_take (ss := ss) ok.2.1 hc h0
  have h8 := ok.2.1.2.2.2.1
  have hq0 := oq _ hs _ hk
  have hst := s1 _ _ hs hk
  obtain ⟨k2, k12, k13, k14, -, -⟩ := staM_rows (ss := ss) h0
  have k11 : staM ss M c 11 = M 11 := staM_keep (by decide) (by decide) (by decide) (by decide) (by decide) (by decide) (by decide)
  have hT : (M 12 (8 * srcM M c + plcM M c)).toNat = stT M c := rfl
  rw [hT] at hst
  refine ⟨⟨fun q j hq hj => ?_, fun q hq hr => ?_, fun q j q' j' hq hq' hj hj' he => ?_⟩, fun q q' hq hq' hne h0 => ?_⟩
  · rw [k13] at hj
    obtain ⟨j', e1, e2, e3, -⟩ := tk_old h8 hs hq hk hj
    rw [k12, e1, k2]
    have := s1 q j' hq e2
    have hj'q := oq q hq j' e2
    rw [if_neg (fun e => e3 (s3 q j' _ _ hq hs e2 hk (by unfold stT at e; omega)))]; exact this
  · rw [k11] at hq
    rw [k14] at hr ⊢
    by_cases e : q = c
    · rw [if_pos e, k2, Int.toNat_natCast, if_pos rfl]
    · rw [if_neg e] at hr ⊢
      have := s2 q hq hr
      rw [k2, if_neg (by intro e; rw [e] at this; omega)]; exact this
  · rw [k13] at hj hj'
    obtain ⟨i, e1, e2, e3, e4, e5⟩ := tk_old h8 hs hq hk hj
    obtain ⟨i', f1, f2, f3, f4, f5⟩ := tk_old h8 hs hq' hk hj'
    rw [k12, e1, f1] at he
    obtain ⟨g1, g2⟩ := s3 q i q' i' hq hq' e2 f2 he
    refine ⟨g1, ?_⟩
    subst g1
    by_cases e : q = srcM M c
    · have a1 := e4 e
      have a2 := f4 e
      by_cases x : plcM M c ≤ j <;> by_cases y : plcM M c ≤ j'
      · rw [if_pos x] at a1; rw [if_pos y] at a2; omega
      · rw [if_pos x] at a1; rw [if_neg y] at a2; omega
      · rw [if_neg x] at a1; rw [if_pos y] at a2; omega
      · rw [if_neg x] at a1; rw [if_neg y] at a2; omega
    · rw [← e5 e, ← f5 e]; exact g2
  · rw [k11] at hq hq'
    rw [k14, k14] at *
    by_cases e : q = c
    · rw [if_pos e, if_neg (fun e' => hne (e.trans e'.symm))]
      intro z
      have := s2 q' hq' (by omega)
      rw [← z, Int.toNat_natCast] at this; omega
    · rw [if_neg e] at h0 ⊢
      by_cases e' : q' = c
      · rw [if_pos e']
        intro z
        have := s2 q hq h0
        rw [z, Int.toNat_natCast] at this; omega
      · rw [if_neg e']
        exact kr q q' hq hq' hne h0
def IvM (M : MM) : Prop := Ok M ∧ OkQ M ∧ OkR M ∧ OkS M ∧ OkB M ∧ OkH M
