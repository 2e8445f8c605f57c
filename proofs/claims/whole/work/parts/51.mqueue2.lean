set_option linter.unusedVariables false
set_option linter.unusedSimpArgs false
theorem qall_none {N : MM} (hq : qst N = none) : ∀ k, qall k N = N := by
  intro k
  cases k with
  | zero => rfl
  | succ k => rw [qall, hq]
section
variable {h : PH} {a : Nat} {F : MM} {X : Prop}
theorem m_qout (ha : a < h.length) {N : MM} {d : Int → Int} (q : qI F X N d) (hs : scn N 9 0) : ∃ o, lp (fun st : Int × PH => LX8_queueReady_46 a st.1 st.2) FU (9, sd h a d) = some o ∧ ∃ d', Sum.elim id id o = sd h a d' ∧ Rel F d' ∧ (X → RelX F d') := by
  refine lp_for (f := fun st : Int × PH => LX8_queueReady_46 a st.1 st.2) (fun i st => ∃ N' d', st = ((9 : Int) - i, sd h a d') ∧ qI F X N' d' ∧ scn N' ((9 : Int) - i) 0) _ (a := 0) (b := 10) (s := (9, sd h a d)) (by omega) (by omega) ⟨N, d, rfl, q, hs⟩ (fun i st h1 h2 hI => ?_) (fun st hI => ?_)
  · obtain ⟨N1, d1, rfl, q1, hs1⟩ := hI
    have e9 : (9 : Int) - i = ((9 - i : Nat) : Int) := by omega
    rw [e9] at hs1 ⊢
    obtain ⟨o, e1, e2⟩ := m_qin ha (pr := 9 - i) (by omega) q1 hs1
    dsimp only
    unfold LX8_queueReady_46
    rw [w32_nat (by omega), if_neg (by omega), e1, Option.bind_some]
    rcases o with o | o
    · obtain ⟨d', g1, g2, g3⟩ := e2
      exact Or.inl ⟨_, rfl, d', g1, g2, g3⟩
    · obtain ⟨N', d', g1, g2, g3⟩ := e2
      subst g1
      refine Or.inr ⟨_, rfl, N', d', ?_, g2, ?_⟩
      · congr 1
        omega
      · rw [show (9 : Int) - ((i + 1 : Nat) : Int) = ((9 - i : Nat) : Int) - 1 by omega]; exact g3
  · obtain ⟨N1, d1, rfl, q1, hs1⟩ := hI
    dsimp only
    unfold LX8_queueReady_46
    rw [if_pos (by decide)]
    refine ⟨_, rfl, d1, rfl, ?_⟩
    obtain ⟨r1, ok1, oq1, oh1, ⟨k, hk, hq⟩, rx⟩ := q1
    have hno : qst N1 = none := by
      have : frs N1 (N1 1 0).toNat = -1 := by
        refine isF_one (frs_is N1 _) (Or.inl ⟨rfl, fun t ht h1t => ?_⟩)
        have hp := (ok1.2.2 t (by omega)).1
        rcases hs1 t (by omega) h1t with h | h <;> omega
      unfold qst
      rw [this]; rfl
    rw [qall_none hno] at hq
    subst hq
    exact ⟨r1, rx⟩
theorem m_queue (ha : a < h.length) {M : MM} {d : Int → Int} (ok : Ok M) (oq : OkQ M) (oh : OkH M) (ob : OkB M) (r : Rel M d) : ∃ d', FX8_queueReady (sd h a d) a = some (sd h a d') ∧ Rel (qall 32 (rdyM M (M 1 0).toNat)) d' ∧ (RelX M d → RelX (qall 32 (rdyM M (M 1 0).toNat)) d') := by
  obtain ⟨d1, e1, e2, e3⟩ := m_rdy ha ok oq ob r
  obtain ⟨ok1, oq1⟩ := rdyM_ok (j := (M 1 0).toNat) ok oq
  have hT := ok1.1.1
  have qi : qI (qall 32 (rdyM M (M 1 0).toNat)) (RelX M d) (rdyM M (M 1 0).toNat) d1 := ⟨e2, ok1, oq1, by unfold OkH at oh ⊢; rw [rdy_ne (show 1 ≠ 2 by decide), rdy_ne (show 5 ≠ 2 by decide), rdy_ne (show 11 ≠ 2 by decide)]; exact oh, ⟨32, by unfold rdc; exact Nat.le_trans (cnt_le _) (by omega), rfl⟩, e3⟩
  have hs : scn (rdyM M (M 1 0).toNat) 9 0 := fun t ht _ => by
    have := (ok1.2.2 t ht).1
    by_cases e : rdyM M (M 1 0).toNat 4 t = 9
    · exact Or.inr ⟨e, by omega⟩
    · exact Or.inl (by omega)
  obtain ⟨o, f1, d2, f2, f3, f4⟩ := m_qout ha qi hs
  refine ⟨d2, ?_, f3, f4⟩
  unfold FX8_queueReady
  rw [e1, Option.bind_some, f1, Option.bind_some]
  rcases o with o | o
  · exact congrArg some f2
  · exact congrArg some f2
end
