set_option linter.unusedVariables false
set_option linter.unusedSimpArgs false
/-! ===== the reference: the queue for a task, tasks that get ready ===== -/
/-- a task's home is a core -/
def OkH (M : MM) : Prop := ∀ t : Nat, (t : Int) < M 1 0 → M 5 t < M 11 0
section
variable {h : PH} {a : Nat} {d : Int → Int} {M : MM}
theorem m_coreFor (ha : a < h.length) (ok : Ok M) (oh : OkH M) (r : Rel M d) {t : Nat} (ht : (t : Int) < M 1 0) : FX8_coreFor (sd h a d) a t = some (hqs M (M 5 t).toNat) := by
  obtain ⟨o1, o2, o3, o4, o5, o6⟩ := ok.2.1
  have hT := ok.1.1
  obtain ⟨n, hn⟩ := Int.eq_ofNat_of_zero_le o1.1
  have hho := (ok.2.2 t ht).2.1
  have hh := oh t ht
  obtain ⟨e, he⟩ := Int.eq_ofNat_of_zero_le hho.1
  have e5 := (r.2.2.1 t ht).2.2.1
  have e13 := (r.2.2.2 e (by omega)).2.2.2.2.1
  have h13 := o4 e (by omega)
  have k0 := r.1.1
  have k1 := r.1.2.1
  unfold FX8_coreFor FX8_task FX8_core
  simp (disch := omega) only [md_ald ha, Option.bind_some, e5, he, e13, k1, w32_eq]
  unfold hqs
  rw [Int.toNat_natCast]
  by_cases c : M 13 e < M 11 1
  · rw [if_pos c, if_pos ⟨by omega, c⟩]
  · rw [if_neg c, if_neg (fun q => c q.2)]
    have := lp_for (f := fun st : Int × Int => LX8_coreFor_30 (sd h a d) a st.1 st.2) (fun j st => st.2 = (j : Int) ∧ isQ M j st.1) (fun r => isQ M n r) (a := 0) (b := n) (s := (-1, 0)) (by omega) (by omega) ⟨rfl, Or.inl ⟨rfl, fun t ht => by omega⟩⟩ (fun j st h1 h2 hI => ?_) (fun st hI => ?_)
    · obtain ⟨q, e1, e2⟩ := this
      rw [e1, Option.bind_some, hn, Int.toNat_natCast, isQ_one e2 (qfs_is _ _)]
    · obtain ⟨v1, v2⟩ := st
      obtain ⟨rfl, hb⟩ := hI
      dsimp only at hb ⊢
      refine Or.inr ?_
      have hs := o4 j (by omega)
      have ej := (r.2.2.2 j (by omega)).2.2.2.2.1
      unfold LX8_coreFor_30 JX8_coreFor_78 JX8_coreFor_81 FX8_core
      simp (disch := omega) only [md_ald ha, Option.bind_some, k0, k1, hn, ej, w32_eq]
      rw [if_pos (by omega)]
      by_cases b1 : M 13 j < M 11 1
      · rw [if_pos b1]
        rcases hb with ⟨rfl, hb⟩ | ⟨b, rfl, hb1, hb2, hb3⟩
        · rw [if_pos (show w32 (-1) = -1 by decide)]
          refine ⟨_, rfl, rfl, Or.inr ⟨j, rfl, by omega, b1, fun t ht h1t => ?_⟩⟩
          by_cases htj : t = j
          · subst htj; exact Or.inr ⟨rfl, Nat.le_refl _⟩
          · exact absurd h1t (hb t (by omega))
        · have hq2 := o4 b (by omega)
          have eb := (r.2.2.2 b (by omega)).2.2.2.2.1
          simp (disch := omega) only [md_ald ha, Option.bind_some, eb, w32_eq]
          rw [if_neg (by omega)]
          by_cases c2 : M 13 j < M 13 b
          · rw [if_pos c2]
            refine ⟨_, rfl, rfl, Or.inr ⟨j, rfl, by omega, b1, fun t ht h1t => ?_⟩⟩
            by_cases htj : t = j
            · subst htj; exact Or.inr ⟨rfl, Nat.le_refl _⟩
            · rcases hb3 t (by omega) h1t with h | h
              · exact Or.inl (by omega)
              · exact Or.inl (by omega)
          · rw [if_neg c2]
            refine ⟨_, rfl, rfl, Or.inr ⟨b, rfl, by omega, hb2, fun t ht h1t => ?_⟩⟩
            by_cases htj : t = j
            · subst htj
              by_cases dd : M 13 b = M 13 t
              · exact Or.inr ⟨dd, by omega⟩
              · exact Or.inl (by omega)
            · exact hb3 t (by omega) h1t
      · rw [if_neg b1]
        refine ⟨_, rfl, rfl, ?_⟩
        rcases hb with ⟨rfl, hb⟩ | ⟨b, rfl, hb1, hb2, hb3⟩
        · refine Or.inl ⟨rfl, fun t ht => ?_⟩
          by_cases htj : t = j
          · subst htj; exact b1
          · exact hb t (by omega)
        · refine Or.inr ⟨b, rfl, by omega, hb2, fun t ht h1t => ?_⟩
          by_cases htj : t = j
          · subst htj; exact absurd h1t b1
          · exact hb3 t (by omega) h1t
    · obtain ⟨v1, v2⟩ := st
      obtain ⟨rfl, hb⟩ := hI
      dsimp only at hb ⊢
      refine ⟨v1, ?_, hb⟩
      unfold LX8_coreFor_30
      simp (disch := omega) only [md_ald ha, Option.bind_some, k0, hn, w32_eq]
      rw [if_neg (by omega)]
theorem rdyM_b {j : Nat} (ob : OkB M) : OkB (rdyM M j) := by
  unfold OkB at ob ⊢
  rw [rdy_ne (show 1 ≠ 2 by decide), rdy_ne (show 6 ≠ 2 by decide)]
  exact ob
theorem m_rdy (ha : a < h.length) (ok : Ok M) (oq : OkQ M) (ob : OkB M) (r : Rel M d) : ∃ d', lp (fun st : Int × PH => LX8_queueReady_2 a st.1 st.2) FU (0, sd h a d) = some (sd h a d') ∧ Rel (rdyM M (M 1 0).toNat) d' ∧ (RelX M d → RelX (rdyM M (M 1 0).toNat) d') := by
  have hT := ok.1.1
  obtain ⟨n, hn⟩ := Int.eq_ofNat_of_zero_le hT.1
  have := lp_for (f := fun st : Int × PH => LX8_queueReady_2 a st.1 st.2) (fun j st => ∃ d', st = ((j : Int), sd h a d') ∧ Rel (rdyM M j) d' ∧ (RelX M d → RelX (rdyM M j) d')) (fun q => ∃ d', q = sd h a d' ∧ Rel (rdyM M n) d' ∧ (RelX M d → RelX (rdyM M n) d')) (a := 0) (b := n) (s := (0, sd h a d)) (by omega) (by omega) ⟨d, rfl, by rw [show rdyM M 0 = M by funext k i; simp [rdyM]]; exact r, by rw [show rdyM M 0 = M by funext k i; simp [rdyM]]; exact id⟩ (fun j st h1 h2 hI => ?_) (fun st hI => ?_)
  · obtain ⟨q, e1, d', rfl, e2, e3⟩ := this
    rw [e1, hn, Int.toNat_natCast]
    exact ⟨d', rfl, e2, e3⟩
  · obtain ⟨d1, rfl, r1, rx⟩ := hI
    obtain ⟨okj, oqj⟩ := rdyM_ok (j := j) ok oq
    have e10 : rdyM M j 1 0 = n := by rw [rdy_ne (by decide)]; exact hn
    have hs := ok.1.2.2.1 j (by omega)
    have hj : ((j : Nat) : Int) < rdyM M j 1 0 := by omega
    have e2 := (r1.2.2.1 j hj).2.2.2.2
    have h2j : rdyM M j 2 j = M 2 j := by simp [rdyM]
    have k3 := r1.1.2.2.2.1
    have hc := m_ctr ha okj.1 (rdyM_b ob) r1 hj
    rw [rdy_ctr] at hc
    have hle := ctr_le (M := M) j ok.1.2.1.2
    refine Or.inr ?_
    dsimp only
    unfold LX8_queueReady_2 JX8_queueReady_37 FX8_task
    rw [h2j] at e2
    simp (disch := omega) only [md_ald ha, md_ast ha, Option.bind_some, k3, e10, e2, hc, w32_eq]
    rw [if_pos (by omega)]
    have s := Sd_of okj
    rw [rdy_step]
    by_cases b : M 2 j = 0
    · rw [if_pos b]
      by_cases c : ctr M j = 0
      · rw [if_pos (by omega), if_pos ⟨b, c⟩]
        refine ⟨_, rfl, _, rfl, rel_st s.1 s.2.1 s.2.2.1 s.2.2.2.1 r1 s.2.2.2.2 (t := j) (x := 1) hj, fun q t ht => ?_⟩
        rw [up_ne (show 1 ≠ 2 by decide)] at ht
        rw [up_ne (show 7 ≠ 2 by decide), up_ne (show 8 ≠ 2 by decide), ud_ne (by omega), ud_ne (by omega)]
        exact rx q t ht
      · rw [if_neg (by omega), if_neg (fun q => c q.2)]
        exact ⟨_, rfl, d1, rfl, r1, rx⟩
    · rw [if_neg b, if_neg (fun q => b q.1)]
      exact ⟨_, rfl, d1, rfl, r1, rx⟩
  · obtain ⟨d1, rfl, r1, rx⟩ := hI
    have e10 : rdyM M n 1 0 = n := by rw [rdy_ne (by decide)]; exact hn
    have k3 := r1.1.2.2.2.1
    dsimp only
    unfold LX8_queueReady_2
    simp (disch := omega) only [md_ald ha, Option.bind_some, k3, e10, w32_eq]
    rw [if_neg (by omega)]
    exact ⟨_, rfl, d1, rfl, r1, rx⟩
end
