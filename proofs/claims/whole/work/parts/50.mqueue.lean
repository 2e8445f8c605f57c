set_option linter.unusedVariables false
set_option linter.unusedSimpArgs false
/-! ===== the reference: tasks are queued ===== -/
theorem rel_putQ {N : MM} {d : Int → Int} {c : Nat} {x : Int} (s : Sd N) (hP : 0 ≤ N 1 1) (r : Rel N d) (hc : (c : Int) < N 11 0) (hs : N 13 c < 8) : Rel (putQ N c x) (ud (ud d (272 + 13 * c + 5 + N 13 c) x) (272 + 13 * c + 4) (N 13 c + 1)) := by
  obtain ⟨s1, s2, s3, s4, s5⟩ := s
  have hc8 := s4 c (by omega)
  obtain ⟨⟨r0, r1, r2, r3, r4, r5⟩, rf, rt, rc⟩ := r
  have e1 : putQ N c x 1 = N 1 := by unfold putQ; rw [up_ne (by decide), up_ne (by decide)]
  have e11 : putQ N c x 11 = N 11 := by unfold putQ; rw [up_ne (by decide), up_ne (by decide)]
  have ek : ∀ a, a ≠ 12 → a ≠ 13 → putQ N c x a = N a := fun a h1 h2 => by unfold putQ; rw [up_ne h2, up_ne h1]
  refine ⟨⟨?_, ?_, ?_, ?_, ?_, ?_⟩, fun f hf => ?_, fun t ht => ?_, fun q hq => ?_⟩
  · rw [ud_ne (by omega), ud_ne (by omega), e11]; exact r0
  · rw [ud_ne (by omega), ud_ne (by omega), e11]; exact r1
  · rw [ud_ne (by omega), ud_ne (by omega), e11]; exact r2
  · rw [ud_ne (by omega), ud_ne (by omega), e1]; exact r3
  · rw [ud_ne (by omega), ud_ne (by omega), e1]; exact r4
  · refine ⟨?_, fun i hi => ?_⟩
    · rw [ud_ne (by omega), ud_ne (by omega), ek 0 (by decide) (by decide)]; exact r5.1
    · rw [ud_ne (by omega), ud_ne (by omega), ek 19 (by decide) (by decide)]; exact r5.2 i hi
  · rw [e1] at hf
    rw [ud_ne (by omega), ud_ne (by omega), ek 9 (by decide) (by decide)]; exact rf f hf
  · rw [e1] at ht
    rw [ek 3 (by decide) (by decide), ek 4 (by decide) (by decide), ek 5 (by decide) (by decide), ek 6 (by decide) (by decide), ek 2 (by decide) (by decide)]
    have := rt t ht
    refine ⟨?_, ?_, ?_, ?_, ?_⟩
    · rw [ud_ne (by omega), ud_ne (by omega)]; exact this.1
    · rw [ud_ne (by omega), ud_ne (by omega)]; exact this.2.1
    · rw [ud_ne (by omega), ud_ne (by omega)]; exact this.2.2.1
    · rw [ud_ne (by omega), ud_ne (by omega)]; exact this.2.2.2.1
    · rw [ud_ne (by omega), ud_ne (by omega)]; exact this.2.2.2.2
  · rw [e11] at hq
    obtain ⟨a0, a1, a2, a3, a4, a5, a6⟩ := rc q hq
    have hq8 := s4 q (by omega)
    rw [ek 14 (by decide) (by decide), ek 16 (by decide) (by decide), ek 17 (by decide) (by decide), ek 18 (by decide) (by decide), ek 15 (by decide) (by decide)]
    refine ⟨?_, ?_, ?_, ?_, ?_, fun k hk => ?_, fun hr => ?_⟩
    · rw [ud_ne (by omega), ud_ne (by omega)]; exact a0
    · rw [ud_ne (by omega), ud_ne (by omega)]; exact a1
    · rw [ud_ne (by omega), ud_ne (by omega)]; exact a2
    · rw [ud_ne (by omega), ud_ne (by omega)]; exact a3
    · unfold putQ
      by_cases e : q = c
      · subst e; rw [ud_eq, up_eq]
      · rw [ud_ne (by omega), ud_ne (by omega), up_ni e, up_ne (by decide)]; exact a4
    · unfold putQ at hk ⊢
      rw [up_ne (show 12 ≠ 13 by decide)]
      by_cases e : q = c
      · subst e
        rw [up_eq] at hk
        by_cases e2 : (k : Int) = N 13 q
        · rw [ud_ne (by omega), e2, ud_eq, show 8 * q + k = 8 * q + (N 13 q).toNat by omega, up_eq]
        · rw [ud_ne (by omega), ud_ne (by omega), up_ni (by omega)]; exact a5 k (by omega)
      · rw [up_ni e, up_ne (show 13 ≠ 12 by decide)] at hk
        rw [ud_ne (by omega), ud_ne (by omega), up_ni (by omega)]; exact a5 k hk
    · have := s5 q hq hr
      rw [ud_ne (by omega), ud_ne (by omega)]; exact a6 hr
theorem cnt_drop {f g : Nat → Bool} {j : Nat} (hf : f j = true) (hg : ∀ i, g i = (f i && decide (i ≠ j))) : ∀ {n : Nat}, (j < n → cnt g n + 1 = cnt f n) ∧ (n ≤ j → cnt g n = cnt f n) := by
  intro n
  induction n with
  | zero => exact ⟨fun h => by omega, fun _ => rfl⟩
  | succ n ih =>
    simp only [cnt]
    constructor
    · intro h
      by_cases e : j = n
      · subst e
        rw [ih.2 (Nat.le_refl _), hg, hf]; simp
      · rw [hg n, ← ih.1 (by omega)]
        simp [Ne.symm e]
        omega
    · intro h
      rw [hg n, ih.2 (by omega)]
      simp [show n ≠ j by omega]
def rdc (N : MM) : Nat := cnt (fun t => decide (N 2 t = 1)) (N 1 0).toNat
def scn (N : MM) (pr : Int) (j : Nat) : Prop := ∀ t : Nat, (t : Int) < N 1 0 → N 2 t = 1 → N 4 t < pr ∨ (N 4 t = pr ∧ j ≤ t)
/-- what holds between two turns -/
def qI (F : MM) (X : Prop) (N : MM) (d : Int → Int) : Prop := Rel N d ∧ Ok N ∧ OkQ N ∧ OkH N ∧ (∃ k, rdc N ≤ k ∧ qall k N = F) ∧ (X → RelX N d)
theorem scn_first {N : MM} {pr : Int} {j : Nat} (hs : scn N pr j) (hj : (j : Int) < N 1 0) (h1 : N 2 j = 1) (h2 : N 4 j = pr) : frs N (N 1 0).toNat = j := by
  refine isF_one (frs_is N _) (Or.inr ⟨j, rfl, by omega, h1, fun t ht h1t => ?_⟩)
  rcases hs t (by omega) h1t with h | h
  · exact Or.inl (by omega)
  · exact Or.inr ⟨by omega, h.2⟩
section
variable {h : PH} {a : Nat} {F : MM} {X : Prop}
theorem m_qin (ha : a < h.length) {pr : Nat} (hpr : pr ≤ 9) {N : MM} {d : Int → Int} (q : qI F X N d) (hs : scn N pr 0) : ∃ o, lp (fun st : Int × PH => LX8_queueReady_52 a pr st.1 st.2) FU (0, sd h a d) = some o ∧ Sum.elim (fun g => ∃ d', g = sd h a d' ∧ Rel F d' ∧ (X → RelX F d')) (fun g => ∃ N' d', g = sd h a d' ∧ qI F X N' d' ∧ scn N' ((pr : Int) - 1) 0) o := by
  have hT := q.2.1.1.1
  obtain ⟨n, hn⟩ := Int.eq_ofNat_of_zero_le hT.1
  refine lp_for (f := fun st : Int × PH => LX8_queueReady_52 a pr st.1 st.2) (fun j st => ∃ N' d', st = ((j : Int), sd h a d') ∧ qI F X N' d' ∧ scn N' pr j ∧ N' 1 0 = n) _ (a := 0) (b := n) (s := (0, sd h a d)) (by omega) (by omega) ⟨N, d, rfl, q, hs, hn⟩ (fun j st h1 h2 hI => ?_) (fun st hI => ?_)
  · obtain ⟨N1, d1, rfl, q1, hs1, e10⟩ := hI
    have q1' := q1
    obtain ⟨r1, ok1, oq1, oh1, ⟨k, hk, hq⟩, rx⟩ := q1
    have hj : ((j : Nat) : Int) < N1 1 0 := by omega
    have k3 := r1.1.2.2.2.1
    obtain ⟨-, b1, -, -, b4⟩ := r1.2.2.1 j hj
    have hst := ok1.1.2.2.1 j (by omega)
    have hp := (ok1.2.2 j hj).1
    dsimp only
    unfold LX8_queueReady_52 JX8_queueReady_137 FX8_task FX8_core
    simp (disch := omega) only [md_ald ha, Option.bind_some, k3, e10, b1, b4, w32_eq]
    rw [if_pos (by omega)]
    have skip : scn N1 pr j → ¬ (N1 2 j = 1 ∧ N1 4 j = pr) → scn N1 pr (j + 1) := fun s1 hn1 t ht h1t => by
      rcases s1 t ht h1t with h | h
      · exact Or.inl h
      · refine Or.inr ⟨h.1, ?_⟩
        by_cases e : t = j
        · subst e; exact absurd ⟨h1t, h.1⟩ hn1
        · omega
    by_cases c1 : N1 2 j = 1
    · rw [if_pos c1]
      by_cases c2 : N1 4 j = pr
      · rw [if_pos c2, m_coreFor ha ok1 oh1 r1 hj, Option.bind_some]
        have hf := scn_first hs1 hj c1 c2
        have hrd : 1 ≤ rdc N1 := by
          rcases Nat.eq_zero_or_pos (rdc N1) with z | z
          · have := cnt_zero.mp z j (by omega)
            simp [c1] at this
          · exact z
        obtain ⟨k, rfl⟩ : ∃ m, k = m + 1 := ⟨k - 1, by omega⟩
        rw [qall] at hq
        cases hqs1 : qst N1 with
        | none =>
          rw [hqs1] at hq
          have hneg : hqs N1 (N1 5 j).toNat = -1 := by
            unfold qst at hqs1
            rw [hf, if_neg (by omega), Int.toNat_natCast] at hqs1
            have hlt : hqs N1 (N1 5 j).toNat < 0 := by
              by_cases z : hqs N1 (N1 5 j).toNat < 0
              · exact z
              · rw [if_neg z] at hqs1; cases hqs1
            unfold hqs at hlt ⊢
            by_cases z : (((N1 5 j).toNat : Nat) : Int) < N1 11 0 ∧ N1 13 (N1 5 j).toNat < N1 11 1
            · rw [if_pos z] at hlt; omega
            · rw [if_neg z] at hlt ⊢
              rcases qfs_is N1 (N1 11 0).toNat with ⟨e, -⟩ | ⟨b, e, -⟩
              · exact e
              · rw [e] at hlt; omega
          rw [hneg, if_pos (show w32 (-1) = -1 by decide)]
          have hq : N1 = F := hq
          exact Or.inl ⟨_, rfl, d1, rfl, by rw [← hq]; exact r1, by rw [← hq]; exact rx⟩
        | some N2 =>
          have okN2 := qst_ok ok1 hqs1
          have oqN2 := qst_okq ok1 oq1 hqs1
          rw [hqs1] at hq
          obtain ⟨t, c, f1, f2, f3, f4, f5, f6, f7⟩ := qst_spec ok1 hqs1
          obtain rfl : j = t := by rw [hf] at f1; omega
          have hcap := ok1.2.1.2.1
          have hcl : (c : Int) < N1 11 0 := by
            unfold hqs at f4
            by_cases z : (((N1 5 j).toNat : Nat) : Int) < N1 11 0 ∧ N1 13 (N1 5 j).toNat < N1 11 1
            · rw [if_pos z] at f4; omega
            · rw [if_neg z] at f4
              rcases qfs_is N1 (N1 11 0).toNat with ⟨e, -⟩ | ⟨b, e, hb, -⟩
              · rw [e] at f4; omega
              · rw [e] at f4; omega
          have b13 := (r1.2.2.2 c hcl).2.2.2.2.1
          have hc8 := ok1.2.1.2.2.2.1 c f5
          have sN := Sd_of ok1
          rw [f4, w32_nat (by omega), if_neg (by omega)]
          simp (disch := omega) only [md_ald ha, md_ast ha, Option.bind_some, b13]
          rw [ud_ne (show (272 + 13 * (c : Int) + 4) ≠ 272 + 13 * (c : Int) + 5 + N1 13 c by omega), b13]
          have r2 := rel_putQ (x := (j : Int)) sN ok1.1.2.1.1 r1 hcl (by omega)
          have s2 : Sd (putQ N1 c j) := by
            have e1 : putQ N1 c j 1 = N1 1 := by unfold putQ; rw [up_ne (by decide), up_ne (by decide)]
            have e11 : putQ N1 c j 11 = N1 11 := by unfold putQ; rw [up_ne (by decide), up_ne (by decide)]
            have e14 : putQ N1 c j 14 = N1 14 := by unfold putQ; rw [up_ne (by decide), up_ne (by decide)]
            unfold Sd at sN ⊢
            rw [e1, e11, e14]
            refine ⟨sN.1, sN.2.1, sN.2.2.1, fun q hq => ?_, sN.2.2.2.2⟩
            have := sN.2.2.2.1 q hq
            unfold putQ
            by_cases e : q = c
            · subst e; rw [up_eq]; omega
            · rw [up_ni e, up_ne (by decide)]; exact this
          have e1 : putQ N1 c j 1 = N1 1 := by unfold putQ; rw [up_ne (by decide), up_ne (by decide)]
          have r3 := rel_st s2.1 s2.2.1 s2.2.2.1 s2.2.2.2.1 r2 s2.2.2.2.2 (t := j) (x := 2) (by rw [e1]; exact hj)
          rw [← f7] at r3
          have n1 : N2 1 = N1 1 := by rw [f7, up_ne (by decide)]; exact e1
          have n5 : N2 5 = N1 5 := by rw [f7, up_ne (by decide)]; unfold putQ; rw [up_ne (by decide), up_ne (by decide)]
          have n4 : N2 4 = N1 4 := by rw [f7, up_ne (by decide)]; unfold putQ; rw [up_ne (by decide), up_ne (by decide)]
          have n11 : N2 11 = N1 11 := by rw [f7, up_ne (by decide)]; unfold putQ; rw [up_ne (by decide), up_ne (by decide)]
          have n2 : ∀ i, N2 2 i = if i = j then 2 else N1 2 i := by
            intro i
            rw [f7]
            by_cases e : i = j
            · subst e; rw [up_eq, if_pos rfl]
            · rw [up_ni e, if_neg e]; unfold putQ; rw [up_ne (by decide), up_ne (by decide)]
          refine Or.inr ⟨_, rfl, N2, _, rfl, ⟨r3, okN2, oqN2, ?_, ⟨k, ?_, hq⟩, fun hx => ?_⟩, ?_, by rw [n1]; exact e10⟩
          · unfold OkH at oh1 ⊢
            rw [n1, n5, n11]; exact oh1
          · have := (cnt_drop (f := fun t => decide (N1 2 t = 1)) (g := fun t => decide (N2 2 t = 1)) (j := j) (by simp [c1]) (fun i => by
              rw [n2 i]
              by_cases e : i = j
              · simp [e]
              · simp [e]) (n := (N1 1 0).toNat)).1 (by omega)
            unfold rdc at hk ⊢
            rw [n1]
            omega
          · intro t ht
            rw [n1] at ht
            have := rx hx t ht
            rw [f7, up_ne (show 7 ≠ 2 by decide), up_ne (show 8 ≠ 2 by decide)]
            rw [show putQ N1 c j 7 = N1 7 by unfold putQ; rw [up_ne (by decide), up_ne (by decide)], show putQ N1 c j 8 = N1 8 by unfold putQ; rw [up_ne (by decide), up_ne (by decide)]]
            rw [ud_ne (by omega), ud_ne (by omega), ud_ne (by omega), ud_ne (by omega), ud_ne (by omega), ud_ne (by omega)]
            exact this
          · intro t ht h1t
            rw [n1] at ht
            rw [n2 t] at h1t
            rw [n4]
            by_cases e : t = j
            · rw [if_pos e] at h1t; omega
            · rw [if_neg e] at h1t
              rcases hs1 t ht h1t with h | h
              · exact Or.inl h
              · exact Or.inr ⟨h.1, by omega⟩
      · rw [if_neg c2]
        exact Or.inr ⟨_, rfl, N1, d1, rfl, q1', skip hs1 (fun z => c2 z.2), e10⟩
    · rw [if_neg c1]
      exact Or.inr ⟨_, rfl, N1, d1, rfl, q1', skip hs1 (fun z => c1 z.1), e10⟩
  · obtain ⟨N1, d1, rfl, q1, hs1, e10⟩ := hI
    have k3 := q1.1.1.2.2.2.1
    dsimp only
    unfold LX8_queueReady_52
    simp (disch := omega) only [md_ald ha, Option.bind_some, k3, e10, w32_eq]
    rw [if_neg (by omega)]
    refine ⟨_, rfl, N1, d1, rfl, q1, fun t ht h1t => ?_⟩
    rcases hs1 t ht h1t with h | h
    · by_cases e : N1 4 t = (pr : Int) - 1
      · exact Or.inr ⟨e, by omega⟩
      · exact Or.inl (by omega)
    · omega
end
