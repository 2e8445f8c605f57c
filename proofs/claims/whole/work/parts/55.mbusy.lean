set_option linter.unusedVariables false
set_option linter.unusedSimpArgs false
/-! ===== the reference: busy cores ===== -/
theorem ud_same {d : Int → Int} {i x : Int} (h : d i = x) : ud d i x = d := by
  funext j
  unfold ud
  by_cases e : j = i
  · rw [if_pos e, e, h]
  · rw [if_neg e]
theorem bsy_step {M : MM} {j : Nat} : bsyM M (j + 1) = if 0 ≤ M 14 j then up (bsyM M j) 16 j (M 16 j + 1) else bsyM M j := by
  by_cases h : 0 ≤ M 14 j
  · rw [if_pos h]
    funext k i
    unfold up
    by_cases hki : k = 16 ∧ i = j
    · obtain ⟨rfl, rfl⟩ := hki; simp [bsyM, h]
    · rw [if_neg hki]
      unfold bsyM
      by_cases hk : k = 16
      · have : i ≠ j := fun e => hki ⟨hk, e⟩
        simp only [show (i < j + 1) = (i < j) by simp only [eq_iff_iff]; omega]
      · simp [hk]
  · rw [if_neg h]
    funext k i
    unfold bsyM
    by_cases hij : i = j
    · subst hij; simp [h]
    · simp only [show (i < j + 1) = (i < j) by simp only [eq_iff_iff]; omega]
theorem Sd_bsy {M : MM} {j : Nat} (s : Sd M) : Sd (bsyM M j) := by
  unfold Sd at s ⊢
  rw [bsyM_ne (show 1 ≠ 16 by decide), bsyM_ne (show 11 ≠ 16 by decide), bsyM_ne (show 13 ≠ 16 by decide), bsyM_ne (show 14 ≠ 16 by decide)]
  exact s
section
variable {h : PH} {a : Nat} {M : MM} {d : Int → Int}
theorem m_busy {z : Int} (ha : a < h.length) (ok : Ok M) (r : Rel M d) : ∃ d', lp (fun st : Int × PH => LX8_cycle_55 a z st.1 st.2) FU (0, sd h a d) = some (sd h a d') ∧ Rel (bsyM M (M 11 0).toNat) d' ∧ (RelX M d → RelX (bsyM M (M 11 0).toNat) d') ∧ (∀ i : Int, (∀ c : Nat, c < 4 → i ≠ 272 + 13 * c + 1) → d' i = d i) := by
  have hC := ok.2.1.1
  have hT := ok.1.1
  obtain ⟨n, hn⟩ := Int.eq_ofNat_of_zero_le hC.1
  have b0 : bsyM M 0 = M := by funext k i; simp [bsyM]
  have := lp_for (f := fun st : Int × PH => LX8_cycle_55 a z st.1 st.2) (fun j st => ∃ d', st = ((j : Int), sd h a d') ∧ Rel (bsyM M j) d' ∧ (RelX M d → RelX (bsyM M j) d') ∧ (∀ i : Int, (∀ c : Nat, c < 4 → i ≠ 272 + 13 * c + 1) → d' i = d i)) (fun q => ∃ d', q = sd h a d' ∧ Rel (bsyM M n) d' ∧ (RelX M d → RelX (bsyM M n) d') ∧ (∀ i : Int, (∀ c : Nat, c < 4 → i ≠ 272 + 13 * c + 1) → d' i = d i)) (a := 0) (b := n) (s := (0, sd h a d)) (by omega) (by omega) ⟨d, rfl, by rw [b0]; exact r, by rw [b0]; exact id, fun _ _ => rfl⟩ (fun j st h1 h2 hI => ?_) (fun st hI => ?_)
  · obtain ⟨q, e1, d', rfl, e2, e3, e4⟩ := this
    rw [e1, hn, Int.toNat_natCast]
    exact ⟨d', rfl, e2, e3, e4⟩
  · obtain ⟨d1, rfl, r1, rx, fr⟩ := hI
    have e11 : bsyM M j 11 0 = n := by rw [bsyM_ne (by decide)]; exact hn
    have hj : ((j : Nat) : Int) < bsyM M j 11 0 := by omega
    obtain ⟨s0, s1, -⟩ := r1.2.2.2 j hj
    have e14 : bsyM M j 14 j = M 14 j := by rw [bsyM_ne (by decide)]
    have e16 : bsyM M j 16 j = M 16 j := by simp [bsyM]
    rw [e14] at s0
    rw [e16] at s1
    have hr := ok.2.1.2.2.2.2.1 j (by omega)
    unfold runOk at hr
    have s := Sd_bsy (j := j) (Sd_of ok)
    have k0 := r1.1.1
    refine Or.inr ?_
    dsimp only
    unfold LX8_cycle_55 JX8_cycle_88 FX8_core
    simp (disch := omega) only [md_ald ha, md_ast ha, Option.bind_some, k0, e11, s0, s1, w32_eq]
    rw [if_pos (by omega), bsy_step]
    by_cases b : 0 ≤ M 14 j
    · rw [if_neg (by omega), if_pos b]
      refine ⟨_, rfl, _, rfl, rel_busy s.1 s.2.1 s.2.2.1 s.2.2.2.1 r1 s.2.2.2.2 (c := j) (x := M 16 j + 1) hj, fun q t ht => ?_, fun i hi => ?_⟩
      · rw [up_ne (show 1 ≠ 16 by decide)] at ht
        have ht2 : (t : Int) < M 1 0 := by rw [bsyM_ne (show 1 ≠ 16 by decide)] at ht; exact ht
        rw [up_ne (show 7 ≠ 16 by decide), up_ne (show 8 ≠ 16 by decide), ud_ne (by omega), ud_ne (by omega)]
        exact rx q t ht
      · rw [ud_ne (hi j (by omega))]; exact fr i hi
    · rw [if_pos (by omega), if_neg b, Int.add_zero, ud_same s1]
      exact ⟨_, rfl, d1, rfl, r1, rx, fr⟩
  · obtain ⟨d1, rfl, r1, rx, fr⟩ := hI
    have e11 : bsyM M n 11 0 = n := by rw [bsyM_ne (by decide)]; exact hn
    have k0 := r1.1.1
    dsimp only
    unfold LX8_cycle_55
    simp (disch := omega) only [md_ald ha, Option.bind_some, k0, e11, w32_eq]
    rw [if_neg (by omega)]
    exact ⟨_, rfl, d1, rfl, r1, rx, fr⟩
end
