set_option linter.unusedVariables false
set_option linter.unusedSimpArgs false
def Sd (M : MM) : Prop := M 1 0 ≤ 32 ∧ M 1 1 ≤ 8 ∧ M 11 0 ≤ 4 ∧ (∀ c : Nat, c < 4 → 0 ≤ M 13 c ∧ M 13 c ≤ 8) ∧ ∀ q : Nat, (q : Int) < M 11 0 → 0 ≤ M 14 q → M 14 q < M 1 0
theorem Sd_up {M : MM} {k i : Nat} {x : Int} (h1 : k ≠ 1) (h11 : k ≠ 11) (h13 : k ≠ 13) (h14 : k ≠ 14) (s : Sd M) : Sd (up M k i x) := by
  unfold Sd at s ⊢
  rw [up_ne (Ne.symm h1), up_ne (Ne.symm h11), up_ne (Ne.symm h13), up_ne (Ne.symm h14)]
  exact s
theorem Sd_of {M : MM} (ok : Ok M) : Sd M := ⟨ok.1.1.2, ok.1.2.1.2, ok.2.1.1.2, ok.2.1.2.2.2.1, fun q hq h => by
  have := ok.2.1.2.2.2.2.1 q hq
  unfold runOk at this
  omega⟩
theorem rel_fin1 {M : MM} {d : Int → Int} {c : Nat} (ok : Ok M) (kr : OkR M) (r : Rel M d) (hc : (c : Int) < M 11 0) : Rel (fin1 M c) (dfin1 M d c) := by
  have hr := ok.2.1.2.2.2.2.1 c hc
  have s := Sd_of ok
  unfold fin1 dfin1
  by_cases a : M 14 c < 0
  · rw [if_pos a, if_pos a]; exact r
  rw [if_neg a, if_neg a]
  unfold runOk at hr
  obtain ⟨t, ht⟩ := Int.eq_ofNat_of_zero_le (show 0 ≤ M 14 c by omega)
  have g1 := rel_left s.1 s.2.1 s.2.2.1 s.2.2.2.1 r kr (x := M 15 c - 1) hc (by omega) (by omega)
  have s1 : Sd (up M 15 c (M 15 c - 1)) := Sd_up (by decide) (by decide) (by decide) (by decide) s
  by_cases b : M 15 c = 1
  · rw [if_pos b, if_pos b]
    rw [ht] at g1 ⊢
    rw [Int.toNat_natCast]
    have g2 := rel_st s1.1 s1.2.1 s1.2.2.1 s1.2.2.2.1 g1 s1.2.2.2.2 (t := t) (x := 4) (by rw [up_ne (by decide)]; omega)
    have s2 : Sd (up (up M 15 c (M 15 c - 1)) 2 t 4) := Sd_up (by decide) (by decide) (by decide) (by decide) s1
    have g3 := rel_8 s2.1 s2.2.1 s2.2.2.1 s2.2.2.2.1 g2 (t := t) (x := M 0 3)
    have s3 : Sd (up (up (up M 15 c (M 15 c - 1)) 2 t 4) 8 t (M 0 3)) := Sd_up (by decide) (by decide) (by decide) (by decide) s2
    have g4 := rel_d7 s3.1 s3.2.1 s3.2.2.1 s3.2.2.2.1 g3 s3.2.2.2.2 (t := t) (x := M 0 3) (by rw [up_ne (by decide), up_ne (by decide), up_ne (by decide)]; omega)
    exact rel_stop s3.1 s3.2.1 s3.2.2.1 s3.2.2.2.1 g4 s3.2.2.2.2 (c := c) (by rw [up_ne (by decide), up_ne (by decide), up_ne (by decide)]; exact hc)
  · rw [if_neg b, if_neg b]
    exact g1
theorem relX_fin1 {M : MM} {d : Int → Int} {c : Nat} (ok : Ok M) (r : RelX M d) (hc : (c : Int) < M 11 0) : RelX (fin1 M c) (dfin1 M d c) := by
  have hr := ok.2.1.2.2.2.2.1 c hc
  have hT := ok.1.1
  have hC := ok.2.1.1
  unfold runOk at hr
  intro t ht
  rw [fin1_keep (show 1 ≠ 2 by decide) (by decide) (Or.inl ⟨by decide, by decide⟩)] at ht
  obtain ⟨x1, x2⟩ := r t ht
  rw [fin1_keep (show 7 ≠ 2 by decide) (by decide) (Or.inl ⟨by decide, by decide⟩)]
  unfold fin1 dfin1
  by_cases a : M 14 c < 0
  · rw [if_pos a, if_pos a]; exact ⟨x1, x2⟩
  rw [if_neg a, if_neg a]
  obtain ⟨s, hs⟩ := Int.eq_ofNat_of_zero_le (show 0 ≤ M 14 c by omega)
  by_cases b : M 15 c = 1
  · rw [if_pos b, if_pos b, hs, Int.toNat_natCast]
    rw [up_ne (show 8 ≠ 14 by decide)]
    refine ⟨?_, ?_⟩
    · rw [ud_ne (by omega), ud_ne (by omega), ud_ne (by omega), ud_ne (by omega)]; exact x1
    · rw [ud_ne (by omega)]
      by_cases e : t = s
      · subst e; rw [ud_eq, up_eq]
      · rw [ud_ne (by omega), ud_ne (by omega), ud_ne (by omega), up_ni e, up_ne (show 8 ≠ 2 by decide), up_ne (show 8 ≠ 15 by decide)]; exact x2
  · rw [if_neg b, if_neg b, up_ne (show 8 ≠ 15 by decide), ud_ne (by omega), ud_ne (by omega)]
    exact ⟨x1, x2⟩
section
variable {h : PH} {a : Nat} {d : Int → Int} {M : MM}
theorem m_goOn (ha : a < h.length) (ok : Ok M) (oq : OkQ M) (kr : OkR M) (r : Rel M d) : ∃ d', FX8_goOn (sd h a d) a = some (finN M (M 11 0).toNat, sd h a d') ∧ Rel (finM M (M 11 0).toNat) d' ∧ OkR (finM M (M 11 0).toNat) ∧ (RelX M d → RelX (finM M (M 11 0).toNat) d') := by
  have hC := ok.2.1.1
  obtain ⟨n, hn⟩ := Int.eq_ofNat_of_zero_le hC.1
  unfold FX8_goOn
  have := lp_for (f := fun st : Int × Int × PH => LX8_goOn_4 a st.1 st.2.1 st.2.2) (fun j st => ∃ d', st = (finN M j, (j : Int), sd h a d') ∧ Rel (finM M j) d' ∧ Ok (finM M j) ∧ OkR (finM M j) ∧ (RelX M d → RelX (finM M j) d')) (fun q => ∃ d', q = (finN M n, sd h a d') ∧ Rel (finM M n) d' ∧ OkR (finM M n) ∧ (RelX M d → RelX (finM M n) d')) (a := 0) (b := n) (s := (0, 0, sd h a d)) (by omega) (by omega) ⟨d, rfl, r, ok, kr, id⟩ (fun j st h1 h2 hI => ?_) (fun st hI => ?_)
  · obtain ⟨q, e1, d', rfl, e2, e3, e4⟩ := this
    rw [e1, hn, Int.toNat_natCast]
    exact ⟨d', rfl, e2, e3, e4⟩
  · obtain ⟨d1, rfl, r1, ok1, kr1, rx⟩ := hI
    refine Or.inr ?_
    have e11 : finM M j 11 0 = n := by rw [finM_keep (by decide) (by decide) (by omega), hn]
    have hc1 : ((j : Nat) : Int) < finM M j 11 0 := by omega
    have hru := ok1.2.1.2.2.2.2.1 j hc1
    have hT := ok1.1.1
    obtain ⟨s0, -, -, -, -, -, s6⟩ := r1.2.2.2 j hc1
    have key : LX8_goOn_4 a (finN M j) (j : Int) (sd h a d1) = some (.inl (finN M (j + 1), (j : Int) + 1, sd h a (dfin1 (finM M j) d1 j))) := by
      have k5 := r1.1.2.2.2.2.2.1
      have k0 := r1.1.1
      rw [show finN M (j + 1) = finN M j + (if 0 ≤ finM M j 14 j ∧ finM M j 15 j = 1 then 1 else 0) from rfl]
      generalize finM M j = N at *
      unfold runOk at hru
      unfold LX8_goOn_4 JX8_goOn_87 FX8_core FX8_task dfin1
      simp (disch := omega) only [md_ald ha, Option.bind_some, k0, e11, s0, w32_eq]
      rw [if_pos (by omega)]
      by_cases b : N 14 j < 0
      · rw [if_pos (by omega), if_pos b, if_neg (by omega), Int.add_zero]
      · rw [if_neg (by omega), if_neg b]
        have s6' := s6 (by omega)
        simp (disch := omega) only [md_ald ha, md_ast ha, Option.bind_some, s6', ud_eq, w32_eq]
        by_cases b2 : N 15 j = 1
        · rw [if_neg (by omega), if_pos ⟨by omega, b2⟩, if_pos b2]
          rw [show ud (ud d1 (16 + 8 * N 14 j + 5) (N 15 j - 1)) (16 + 8 * N 14 j + 4) 4 5 = N 0 3 by rw [ud_ne (by omega), ud_ne (by omega), k5]]
        · rw [if_pos (by omega), if_neg (by omega), if_neg b2, Int.add_zero]
    refine ⟨_, key, dfin1 (finM M j) d1 j, rfl, rel_fin1 ok1 kr1 r1 hc1, (finM_ok ok oq (j := j + 1) (by omega)).1, okR_fin1 kr1, fun q => relX_fin1 ok1 (rx q) hc1⟩
  · obtain ⟨d1, rfl, r1, ok1, kr1, rx⟩ := hI
    have e11 : finM M n 11 0 = n := by rw [finM_keep (by decide) (by decide) (by omega), hn]
    have k0 := r1.1.1
    dsimp only
    unfold LX8_goOn_4
    simp (disch := omega) only [md_ald ha, Option.bind_some, k0, e11, w32_eq]
    rw [if_neg (by omega)]
    exact ⟨_, rfl, d1, rfl, r1, kr1, rx⟩
end
