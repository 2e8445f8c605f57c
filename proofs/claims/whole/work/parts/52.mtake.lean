set_option linter.unusedVariables false
set_option linter.unusedSimpArgs false
/-! ===== the reference: a place taken out of a queue ===== -/
def dsh (d : Int → Int) (lo hi : Int) : Int → Int := fun j => if lo ≤ j ∧ j < hi then d (j + 1) else d j
theorem dsh_out {d : Int → Int} {lo hi j : Int} (h : ¬ (lo ≤ j ∧ j < hi)) : dsh d lo hi j = d j := by unfold dsh; rw [if_neg h]
theorem dsh_in {d : Int → Int} {lo hi j : Int} (h : lo ≤ j ∧ j < hi) : dsh d lo hi j = d (j + 1) := by unfold dsh; rw [if_pos h]
def dtk (M : MM) (d : Int → Int) (c k : Nat) : Int → Int := dsh (ud d (272 + 13 * c + 4) (M 13 c - 1)) (272 + 13 * c + 5 + k) (272 + 13 * c + 5 + (M 13 c - 1))
theorem rel_tk {M : MM} {d : Int → Int} {c k : Nat} (s : Sd M) (hP : 0 ≤ M 1 1) (r : Rel M d) (hc : (c : Int) < M 11 0) (hk : (k : Int) < M 13 c) : Rel (tkM M c k) (dtk M d c k) := by
  obtain ⟨s1, s2, s3, s4, s5⟩ := s
  have hc8 := s4 c (by omega)
  obtain ⟨⟨r0, r1, r2, r3, r4, r5⟩, rf, rt, rc⟩ := r
  have ek : ∀ b, b ≠ 12 → b ≠ 13 → tkM M c k b = M b := fun b h1 h2 => tk_ne h1 h2
  unfold dtk
  refine ⟨⟨?_, ?_, ?_, ?_, ?_, ?_⟩, fun f hf => ?_, fun t ht => ?_, fun q hq => ?_⟩
  · rw [dsh_out (by omega), ud_ne (by omega), ek 11 (by decide) (by decide)]; exact r0
  · rw [dsh_out (by omega), ud_ne (by omega), ek 11 (by decide) (by decide)]; exact r1
  · rw [dsh_out (by omega), ud_ne (by omega), ek 11 (by decide) (by decide)]; exact r2
  · rw [dsh_out (by omega), ud_ne (by omega), ek 1 (by decide) (by decide)]; exact r3
  · rw [dsh_out (by omega), ud_ne (by omega), ek 1 (by decide) (by decide)]; exact r4
  · refine ⟨?_, fun i hi => ?_⟩
    · rw [dsh_out (by omega), ud_ne (by omega), ek 0 (by decide) (by decide)]; exact r5.1
    · rw [dsh_out (by omega), ud_ne (by omega), ek 19 (by decide) (by decide)]; exact r5.2 i hi
  · rw [ek 1 (by decide) (by decide)] at hf
    rw [dsh_out (by omega), ud_ne (by omega), ek 9 (by decide) (by decide)]; exact rf f hf
  · rw [ek 1 (by decide) (by decide)] at ht
    rw [ek 3 (by decide) (by decide), ek 4 (by decide) (by decide), ek 5 (by decide) (by decide), ek 6 (by decide) (by decide), ek 2 (by decide) (by decide)]
    have := rt t ht
    refine ⟨?_, ?_, ?_, ?_, ?_⟩
    · rw [dsh_out (by omega), ud_ne (by omega)]; exact this.1
    · rw [dsh_out (by omega), ud_ne (by omega)]; exact this.2.1
    · rw [dsh_out (by omega), ud_ne (by omega)]; exact this.2.2.1
    · rw [dsh_out (by omega), ud_ne (by omega)]; exact this.2.2.2.1
    · rw [dsh_out (by omega), ud_ne (by omega)]; exact this.2.2.2.2
  · rw [ek 11 (by decide) (by decide)] at hq
    obtain ⟨a0, a1, a2, a3, a4, a5, a6⟩ := rc q hq
    have hq8 := s4 q (by omega)
    rw [ek 14 (by decide) (by decide), ek 16 (by decide) (by decide), ek 17 (by decide) (by decide), ek 18 (by decide) (by decide), ek 15 (by decide) (by decide)]
    refine ⟨?_, ?_, ?_, ?_, ?_, fun i hi => ?_, fun hr => ?_⟩
    · rw [dsh_out (by omega), ud_ne (by omega)]; exact a0
    · rw [dsh_out (by omega), ud_ne (by omega)]; exact a1
    · rw [dsh_out (by omega), ud_ne (by omega)]; exact a2
    · rw [dsh_out (by omega), ud_ne (by omega)]; exact a3
    · rw [dsh_out (by omega), tk_13]
      by_cases e : q = c
      · subst e; rw [ud_eq, if_pos rfl]
      · rw [ud_ne (by omega), if_neg e]; exact a4
    · rw [tk_13] at hi
      rw [tk_12]
      by_cases e : q = c
      · subst e
        rw [if_pos rfl] at hi
        by_cases z : k ≤ i
        · rw [dsh_in (by omega), ud_ne (by omega), if_pos (by omega)]
          have := a5 (i + 1) (by omega)
          rw [show (272 + 13 * (q : Int) + 5 + (i : Int) + 1) = 272 + 13 * (q : Int) + 5 + ((i + 1 : Nat) : Int) by omega, this]
          rfl
        · rw [dsh_out (by omega), ud_ne (by omega), if_neg (by omega)]; exact a5 i (by omega)
      · rw [if_neg e] at hi
        rw [dsh_out (by omega), ud_ne (by omega), if_neg (by omega)]; exact a5 i hi
    · have := s5 q hq hr
      rw [dsh_out (by omega), ud_ne (by omega)]; exact a6 hr
section
variable {h : PH} {a : Nat} {M : MM} {d : Int → Int}
theorem m_takeOut (ha : a < h.length) (s : Sd M) (r : Rel M d) {c k : Nat} (hc : (c : Int) < M 11 0) (hk : (k : Int) < M 13 c) : FX8_takeOut (sd h a d) a c k = some (M 12 (8 * c + k), sd h a (dtk M d c k)) := by
  obtain ⟨s1, s2, s3, s4, s5⟩ := s
  have hc8 := s4 c (by omega)
  obtain ⟨-, -, -, -, a4, a5, -⟩ := r.2.2.2 c hc
  obtain ⟨n, hn⟩ : ∃ n : Nat, M 13 c - 1 = n := ⟨(M 13 c - 1).toNat, by omega⟩
  have e5 := a5 k hk
  unfold FX8_takeOut FX8_core
  simp (disch := omega) only [md_ald ha, md_ast ha, Option.bind_some, e5, a4]
  unfold dtk
  rw [hn]
  have hB : ud d (272 + 13 * (c : Int) + 4) n (272 + 13 * (c : Int) + 4) = n := ud_eq
  generalize ud d (272 + 13 * (c : Int) + 4) n = d1 at hB
  have L := lp_det (f := fun st : Int × PH => LX8_takeOut_26 a (272 + 13 * c) (M 12 (8 * c + k)) st.1 st.2) (fun i => ((i : Int), sd h a (dsh d1 (272 + 13 * c + 5 + k) (272 + 13 * c + 5 + i)))) (a := k) (b := n) (r := sd h a (dsh d1 (272 + 13 * c + 5 + k) (272 + 13 * c + 5 + n))) (by omega) (by omega) (fun i h1 h2 => ?_) ?_
  · rw [show dsh d1 (272 + 13 * (c : Int) + 5 + k) (272 + 13 * c + 5 + k) = d1 by funext j; exact dsh_out (by omega)] at L
    rw [L]; rfl
  · have e4 : dsh d1 (272 + 13 * (c : Int) + 5 + k) (272 + 13 * c + 5 + i) (272 + 13 * c + 4) = n := by rw [dsh_out (by omega)]; exact hB
    unfold LX8_takeOut_26
    simp (disch := omega) only [md_ald ha, md_ast ha, Option.bind_some, e4, w32_eq]
    rw [if_pos (by omega), dsh_out (by omega)]
    refine congrArg (fun q => some (Sum.inl q)) ?_
    refine congrArg (fun q => (((i : Int) + 1), sd h a q)) ?_
    funext j
    unfold ud dsh
    by_cases e : j = 272 + 13 * (c : Int) + 5 + i
    · rw [if_pos e, if_pos (by omega), e]
    · rw [if_neg e]
      by_cases z : 272 + 13 * (c : Int) + 5 + k ≤ j ∧ j < 272 + 13 * (c : Int) + 5 + i
      · rw [if_pos z, if_pos (by omega)]
      · rw [if_neg z, if_neg (by omega)]
  · have e4 : dsh d1 (272 + 13 * (c : Int) + 5 + k) (272 + 13 * c + 5 + n) (272 + 13 * c + 4) = n := by rw [dsh_out (by omega)]; exact hB
    unfold LX8_takeOut_26
    simp (disch := omega) only [md_ald ha, Option.bind_some, e4, w32_eq]
    rw [if_neg (by omega)]
end
