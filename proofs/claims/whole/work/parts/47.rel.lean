set_option linter.unusedVariables false
set_option linter.unusedSimpArgs false
/-! ===== running tasks go on ===== -/
/-- no task runs on two cores -/
def OkR (M : MM) : Prop := ∀ c c' : Nat, (c : Int) < M 11 0 → (c' : Int) < M 11 0 → c ≠ c' → 0 ≤ M 14 c → M 14 c ≠ M 14 c'
/-- where and when a task ran -/
def RelX (M : MM) (d : Int → Int) : Prop := ∀ t : Nat, (t : Int) < M 1 0 → d (16 + 8 * t + 6) = M 7 t ∧ d (16 + 8 * t + 7) = M 8 t
def dfin1 (M : MM) (d : Int → Int) (c : Nat) : Int → Int :=
  if M 14 c < 0 then d else if M 15 c = 1 then ud (ud (ud (ud d (16 + 8 * M 14 c + 5) (M 15 c - 1)) (16 + 8 * M 14 c + 4) 4) (16 + 8 * M 14 c + 7) (M 0 3)) (272 + 13 * c + 0) (-1) else ud d (16 + 8 * M 14 c + 5) (M 15 c - 1)
theorem ud_ne {d : Int → Int} {i j x : Int} (h : j ≠ i) : ud d i x j = d j := by simp [ud, h]
theorem ud_eq {d : Int → Int} {i x : Int} : ud d i x i = x := by simp [ud]
theorem okR_fin1 {M : MM} {c : Nat} (r : OkR M) : OkR (fin1 M c) := by
  intro a b ha hb hab h0
  rw [fin1_keep (show 11 ≠ 2 by decide) (by decide) (Or.inl ⟨by decide, by decide⟩)] at ha hb
  have e : ∀ q : Nat, fin1 M c 14 q = M 14 q ∨ fin1 M c 14 q = -1 := by
    intro q
    unfold fin1
    split
    · exact Or.inl rfl
    · split
      · by_cases e : q = c
        · subst e; exact Or.inr up_eq
        · rw [up_ni e, up_ne (by decide), up_ne (by decide), up_ne (by decide)]; exact Or.inl rfl
      · rw [up_ne (by decide)]; exact Or.inl rfl
  have := r a b ha hb hab
  rcases e a with e1 | e1 <;> rcases e b with e2 | e2 <;> rw [e1] at h0 ⊢ <;> rw [e2] <;> omega
theorem rel_left {M : MM} {d : Int → Int} (hT : M 1 0 ≤ 32) (hF : M 1 1 ≤ 8) (hC : M 11 0 ≤ 4) (h8 : ∀ c : Nat, c < 4 → 0 ≤ M 13 c ∧ M 13 c ≤ 8) (r : Rel M d) (kr : OkR M) {c : Nat} {x : Int} (hc : (c : Int) < M 11 0) (h0 : 0 ≤ M 14 c) (h1 : M 14 c < M 1 0) : Rel (up M 15 c x) (ud d (16 + 8 * M 14 c + 5) x) := by
  obtain ⟨⟨r0, r1, r2, r3, r4, r5⟩, rf, rt, rc⟩ := r
  refine ⟨⟨?_, ?_, ?_, ?_, ?_, ?_⟩, fun f hf => ?_, fun t1 ht1 => ?_, fun q hq => ?_⟩
  · rw [ud_ne (by omega), up_ne (show 11 ≠ 15 by decide)]; exact r0
  · rw [ud_ne (by omega), up_ne (show 11 ≠ 15 by decide)]; exact r1
  · rw [ud_ne (by omega), up_ne (show 11 ≠ 15 by decide)]; exact r2
  · rw [ud_ne (by omega), up_ne (show 1 ≠ 15 by decide)]; exact r3
  · rw [ud_ne (by omega), up_ne (show 1 ≠ 15 by decide)]; exact r4
  · refine ⟨?_, fun i hi => ?_⟩
    · rw [ud_ne (by omega), up_ne (show 0 ≠ 15 by decide)]; exact r5.1
    · rw [ud_ne (by omega), up_ne (show 19 ≠ 15 by decide)]; exact r5.2 i hi
  · rw [up_ne (show 1 ≠ 15 by decide)] at hf
    rw [ud_ne (by omega), up_ne (show 9 ≠ 15 by decide)]; exact rf f hf
  · rw [up_ne (show 1 ≠ 15 by decide)] at ht1
    obtain ⟨a0, a1, a2, a3, a4⟩ := rt t1 ht1
    refine ⟨?_, ?_, ?_, ?_, ?_⟩
    · rw [ud_ne (by omega), up_ne (show 3 ≠ 15 by decide)]; exact a0
    · rw [ud_ne (by omega), up_ne (show 4 ≠ 15 by decide)]; exact a1
    · rw [ud_ne (by omega), up_ne (show 5 ≠ 15 by decide)]; exact a2
    · rw [ud_ne (by omega), up_ne (show 6 ≠ 15 by decide)]; exact a3
    · rw [ud_ne (by omega), up_ne (show 2 ≠ 15 by decide)]; exact a4
  · rw [up_ne (show 11 ≠ 15 by decide)] at hq
    obtain ⟨s0, s1, s2, s3, s4, s5, s6⟩ := rc q hq
    have h8q := h8 q (by omega)
    refine ⟨?_, ?_, ?_, ?_, ?_, fun k hk => ?_, fun hr => ?_⟩
    · rw [ud_ne (by omega), up_ne (show 14 ≠ 15 by decide)]; exact s0
    · rw [ud_ne (by omega), up_ne (show 16 ≠ 15 by decide)]; exact s1
    · rw [ud_ne (by omega), up_ne (show 17 ≠ 15 by decide)]; exact s2
    · rw [ud_ne (by omega), up_ne (show 18 ≠ 15 by decide)]; exact s3
    · rw [ud_ne (by omega), up_ne (show 13 ≠ 15 by decide)]; exact s4
    · rw [up_ne (show 13 ≠ 15 by decide)] at hk; rw [ud_ne (by omega), up_ne (show 12 ≠ 15 by decide)]; exact s5 k hk
    · rw [up_ne (show 14 ≠ 15 by decide)] at hr ⊢
      by_cases e : q = c
      · subst e; rw [ud_eq, up_eq]
      · rw [up_ni e, ud_ne (by have := kr c q hc hq (Ne.symm e) h0; omega)]; exact s6 hr
theorem rel_st {M : MM} {d : Int → Int} (hT : M 1 0 ≤ 32) (hF : M 1 1 ≤ 8) (hC : M 11 0 ≤ 4) (h8 : ∀ c : Nat, c < 4 → 0 ≤ M 13 c ∧ M 13 c ≤ 8) (r : Rel M d) (kq : ∀ q : Nat, (q : Int) < M 11 0 → 0 ≤ M 14 q → M 14 q < M 1 0) {t : Nat} {x : Int} (ht : (t : Int) < M 1 0) : Rel (up M 2 t x) (ud d (16 + 8 * (t : Int) + 4) x) := by
  obtain ⟨⟨r0, r1, r2, r3, r4, r5⟩, rf, rt, rc⟩ := r
  refine ⟨⟨?_, ?_, ?_, ?_, ?_, ?_⟩, fun f hf => ?_, fun t1 ht1 => ?_, fun q hq => ?_⟩
  · rw [ud_ne (by omega), up_ne (show 11 ≠ 2 by decide)]; exact r0
  · rw [ud_ne (by omega), up_ne (show 11 ≠ 2 by decide)]; exact r1
  · rw [ud_ne (by omega), up_ne (show 11 ≠ 2 by decide)]; exact r2
  · rw [ud_ne (by omega), up_ne (show 1 ≠ 2 by decide)]; exact r3
  · rw [ud_ne (by omega), up_ne (show 1 ≠ 2 by decide)]; exact r4
  · refine ⟨?_, fun i hi => ?_⟩
    · rw [ud_ne (by omega), up_ne (show 0 ≠ 2 by decide)]; exact r5.1
    · rw [ud_ne (by omega), up_ne (show 19 ≠ 2 by decide)]; exact r5.2 i hi
  · rw [up_ne (show 1 ≠ 2 by decide)] at hf
    rw [ud_ne (by omega), up_ne (show 9 ≠ 2 by decide)]; exact rf f hf
  · rw [up_ne (show 1 ≠ 2 by decide)] at ht1
    obtain ⟨a0, a1, a2, a3, a4⟩ := rt t1 ht1
    refine ⟨?_, ?_, ?_, ?_, ?_⟩
    · rw [ud_ne (by omega), up_ne (show 3 ≠ 2 by decide)]; exact a0
    · rw [ud_ne (by omega), up_ne (show 4 ≠ 2 by decide)]; exact a1
    · rw [ud_ne (by omega), up_ne (show 5 ≠ 2 by decide)]; exact a2
    · rw [ud_ne (by omega), up_ne (show 6 ≠ 2 by decide)]; exact a3
    · by_cases e : t1 = t
      · subst e; rw [ud_eq, up_eq]
      · rw [ud_ne (by omega), up_ni e]; exact a4
  · rw [up_ne (show 11 ≠ 2 by decide)] at hq
    obtain ⟨s0, s1, s2, s3, s4, s5, s6⟩ := rc q hq
    have h8q := h8 q (by omega)
    refine ⟨?_, ?_, ?_, ?_, ?_, fun k hk => ?_, fun hr => ?_⟩
    · rw [ud_ne (by omega), up_ne (show 14 ≠ 2 by decide)]; exact s0
    · rw [ud_ne (by omega), up_ne (show 16 ≠ 2 by decide)]; exact s1
    · rw [ud_ne (by omega), up_ne (show 17 ≠ 2 by decide)]; exact s2
    · rw [ud_ne (by omega), up_ne (show 18 ≠ 2 by decide)]; exact s3
    · rw [ud_ne (by omega), up_ne (show 13 ≠ 2 by decide)]; exact s4
    · rw [up_ne (show 13 ≠ 2 by decide)] at hk; rw [ud_ne (by omega), up_ne (show 12 ≠ 2 by decide)]; exact s5 k hk
    · rw [up_ne (show 14 ≠ 2 by decide)] at hr ⊢; rw [ud_ne (by have := kq q hq hr; omega), up_ne (show 15 ≠ 2 by decide)]; exact s6 hr
theorem rel_pr {M : MM} {d : Int → Int} (hT : M 1 0 ≤ 32) (hF : M 1 1 ≤ 8) (hC : M 11 0 ≤ 4) (h8 : ∀ c : Nat, c < 4 → 0 ≤ M 13 c ∧ M 13 c ≤ 8) (r : Rel M d) (kq : ∀ q : Nat, (q : Int) < M 11 0 → 0 ≤ M 14 q → M 14 q < M 1 0) {t : Nat} {x : Int} (ht : (t : Int) < M 1 0) : Rel (up M 4 t x) (ud d (16 + 8 * (t : Int) + 1) x) := by
  obtain ⟨⟨r0, r1, r2, r3, r4, r5⟩, rf, rt, rc⟩ := r
  refine ⟨⟨?_, ?_, ?_, ?_, ?_, ?_⟩, fun f hf => ?_, fun t1 ht1 => ?_, fun q hq => ?_⟩
  · rw [ud_ne (by omega), up_ne (show 11 ≠ 4 by decide)]; exact r0
  · rw [ud_ne (by omega), up_ne (show 11 ≠ 4 by decide)]; exact r1
  · rw [ud_ne (by omega), up_ne (show 11 ≠ 4 by decide)]; exact r2
  · rw [ud_ne (by omega), up_ne (show 1 ≠ 4 by decide)]; exact r3
  · rw [ud_ne (by omega), up_ne (show 1 ≠ 4 by decide)]; exact r4
  · refine ⟨?_, fun i hi => ?_⟩
    · rw [ud_ne (by omega), up_ne (show 0 ≠ 4 by decide)]; exact r5.1
    · rw [ud_ne (by omega), up_ne (show 19 ≠ 4 by decide)]; exact r5.2 i hi
  · rw [up_ne (show 1 ≠ 4 by decide)] at hf
    rw [ud_ne (by omega), up_ne (show 9 ≠ 4 by decide)]; exact rf f hf
  · rw [up_ne (show 1 ≠ 4 by decide)] at ht1
    obtain ⟨a0, a1, a2, a3, a4⟩ := rt t1 ht1
    refine ⟨?_, ?_, ?_, ?_, ?_⟩
    · rw [ud_ne (by omega), up_ne (show 3 ≠ 4 by decide)]; exact a0
    · by_cases e : t1 = t
      · subst e; rw [ud_eq, up_eq]
      · rw [ud_ne (by omega), up_ni e]; exact a1
    · rw [ud_ne (by omega), up_ne (show 5 ≠ 4 by decide)]; exact a2
    · rw [ud_ne (by omega), up_ne (show 6 ≠ 4 by decide)]; exact a3
    · rw [ud_ne (by omega), up_ne (show 2 ≠ 4 by decide)]; exact a4
  · rw [up_ne (show 11 ≠ 4 by decide)] at hq
    obtain ⟨s0, s1, s2, s3, s4, s5, s6⟩ := rc q hq
    have h8q := h8 q (by omega)
    refine ⟨?_, ?_, ?_, ?_, ?_, fun k hk => ?_, fun hr => ?_⟩
    · rw [ud_ne (by omega), up_ne (show 14 ≠ 4 by decide)]; exact s0
    · rw [ud_ne (by omega), up_ne (show 16 ≠ 4 by decide)]; exact s1
    · rw [ud_ne (by omega), up_ne (show 17 ≠ 4 by decide)]; exact s2
    · rw [ud_ne (by omega), up_ne (show 18 ≠ 4 by decide)]; exact s3
    · rw [ud_ne (by omega), up_ne (show 13 ≠ 4 by decide)]; exact s4
    · rw [up_ne (show 13 ≠ 4 by decide)] at hk; rw [ud_ne (by omega), up_ne (show 12 ≠ 4 by decide)]; exact s5 k hk
    · rw [up_ne (show 14 ≠ 4 by decide)] at hr ⊢; rw [ud_ne (by have := kq q hq hr; omega), up_ne (show 15 ≠ 4 by decide)]; exact s6 hr
theorem rel_d7 {M : MM} {d : Int → Int} (hT : M 1 0 ≤ 32) (hF : M 1 1 ≤ 8) (hC : M 11 0 ≤ 4) (h8 : ∀ c : Nat, c < 4 → 0 ≤ M 13 c ∧ M 13 c ≤ 8) (r : Rel M d) (kq : ∀ q : Nat, (q : Int) < M 11 0 → 0 ≤ M 14 q → M 14 q < M 1 0) {t : Nat} {x : Int} (ht : (t : Int) < M 1 0) : Rel M (ud d (16 + 8 * (t : Int) + 7) x) := by
  obtain ⟨⟨r0, r1, r2, r3, r4, r5⟩, rf, rt, rc⟩ := r
  refine ⟨⟨?_, ?_, ?_, ?_, ?_, ?_⟩, fun f hf => ?_, fun t1 ht1 => ?_, fun q hq => ?_⟩
  · rw [ud_ne (by omega)]; exact r0
  · rw [ud_ne (by omega)]; exact r1
  · rw [ud_ne (by omega)]; exact r2
  · rw [ud_ne (by omega)]; exact r3
  · rw [ud_ne (by omega)]; exact r4
  · refine ⟨?_, fun i hi => ?_⟩
    · rw [ud_ne (by omega)]; exact r5.1
    · rw [ud_ne (by omega)]; exact r5.2 i hi
  · rw [ud_ne (by omega)]; exact rf f hf
  · obtain ⟨a0, a1, a2, a3, a4⟩ := rt t1 ht1
    refine ⟨?_, ?_, ?_, ?_, ?_⟩
    · rw [ud_ne (by omega)]; exact a0
    · rw [ud_ne (by omega)]; exact a1
    · rw [ud_ne (by omega)]; exact a2
    · rw [ud_ne (by omega)]; exact a3
    · rw [ud_ne (by omega)]; exact a4
  · obtain ⟨s0, s1, s2, s3, s4, s5, s6⟩ := rc q hq
    have h8q := h8 q (by omega)
    refine ⟨?_, ?_, ?_, ?_, ?_, fun k hk => ?_, fun hr => ?_⟩
    · rw [ud_ne (by omega)]; exact s0
    · rw [ud_ne (by omega)]; exact s1
    · rw [ud_ne (by omega)]; exact s2
    · rw [ud_ne (by omega)]; exact s3
    · rw [ud_ne (by omega)]; exact s4
    · rw [ud_ne (by omega)]; exact s5 k hk
    · rw [ud_ne (by have := kq q hq hr; omega)]; exact s6 hr
theorem rel_d6 {M : MM} {d : Int → Int} (hT : M 1 0 ≤ 32) (hF : M 1 1 ≤ 8) (hC : M 11 0 ≤ 4) (h8 : ∀ c : Nat, c < 4 → 0 ≤ M 13 c ∧ M 13 c ≤ 8) (r : Rel M d) (kq : ∀ q : Nat, (q : Int) < M 11 0 → 0 ≤ M 14 q → M 14 q < M 1 0) {t : Nat} {x : Int} (ht : (t : Int) < M 1 0) : Rel M (ud d (16 + 8 * (t : Int) + 6) x) := by
  obtain ⟨⟨r0, r1, r2, r3, r4, r5⟩, rf, rt, rc⟩ := r
  refine ⟨⟨?_, ?_, ?_, ?_, ?_, ?_⟩, fun f hf => ?_, fun t1 ht1 => ?_, fun q hq => ?_⟩
  · rw [ud_ne (by omega)]; exact r0
  · rw [ud_ne (by omega)]; exact r1
  · rw [ud_ne (by omega)]; exact r2
  · rw [ud_ne (by omega)]; exact r3
  · rw [ud_ne (by omega)]; exact r4
  · refine ⟨?_, fun i hi => ?_⟩
    · rw [ud_ne (by omega)]; exact r5.1
    · rw [ud_ne (by omega)]; exact r5.2 i hi
  · rw [ud_ne (by omega)]; exact rf f hf
  · obtain ⟨a0, a1, a2, a3, a4⟩ := rt t1 ht1
    refine ⟨?_, ?_, ?_, ?_, ?_⟩
    · rw [ud_ne (by omega)]; exact a0
    · rw [ud_ne (by omega)]; exact a1
    · rw [ud_ne (by omega)]; exact a2
    · rw [ud_ne (by omega)]; exact a3
    · rw [ud_ne (by omega)]; exact a4
  · obtain ⟨s0, s1, s2, s3, s4, s5, s6⟩ := rc q hq
    have h8q := h8 q (by omega)
    refine ⟨?_, ?_, ?_, ?_, ?_, fun k hk => ?_, fun hr => ?_⟩
    · rw [ud_ne (by omega)]; exact s0
    · rw [ud_ne (by omega)]; exact s1
    · rw [ud_ne (by omega)]; exact s2
    · rw [ud_ne (by omega)]; exact s3
    · rw [ud_ne (by omega)]; exact s4
    · rw [ud_ne (by omega)]; exact s5 k hk
    · rw [ud_ne (by have := kq q hq hr; omega)]; exact s6 hr
theorem rel_8 {M : MM} {d : Int → Int} (hT : M 1 0 ≤ 32) (hF : M 1 1 ≤ 8) (hC : M 11 0 ≤ 4) (h8 : ∀ c : Nat, c < 4 → 0 ≤ M 13 c ∧ M 13 c ≤ 8) (r : Rel M d) {t : Nat} {x : Int} : Rel (up M 8 t x) d := by
  obtain ⟨⟨r0, r1, r2, r3, r4, r5⟩, rf, rt, rc⟩ := r
  refine ⟨⟨?_, ?_, ?_, ?_, ?_, ?_⟩, fun f hf => ?_, fun t1 ht1 => ?_, fun q hq => ?_⟩
  · rw [up_ne (show 11 ≠ 8 by decide)]; exact r0
  · rw [up_ne (show 11 ≠ 8 by decide)]; exact r1
  · rw [up_ne (show 11 ≠ 8 by decide)]; exact r2
  · rw [up_ne (show 1 ≠ 8 by decide)]; exact r3
  · rw [up_ne (show 1 ≠ 8 by decide)]; exact r4
  · refine ⟨?_, fun i hi => ?_⟩
    · rw [up_ne (show 0 ≠ 8 by decide)]; exact r5.1
    · rw [up_ne (show 19 ≠ 8 by decide)]; exact r5.2 i hi
  · rw [up_ne (show 1 ≠ 8 by decide)] at hf
    rw [up_ne (show 9 ≠ 8 by decide)]; exact rf f hf
  · rw [up_ne (show 1 ≠ 8 by decide)] at ht1
    obtain ⟨a0, a1, a2, a3, a4⟩ := rt t1 ht1
    refine ⟨?_, ?_, ?_, ?_, ?_⟩
    · rw [up_ne (show 3 ≠ 8 by decide)]; exact a0
    · rw [up_ne (show 4 ≠ 8 by decide)]; exact a1
    · rw [up_ne (show 5 ≠ 8 by decide)]; exact a2
    · rw [up_ne (show 6 ≠ 8 by decide)]; exact a3
    · rw [up_ne (show 2 ≠ 8 by decide)]; exact a4
  · rw [up_ne (show 11 ≠ 8 by decide)] at hq
    obtain ⟨s0, s1, s2, s3, s4, s5, s6⟩ := rc q hq
    have h8q := h8 q (by omega)
    refine ⟨?_, ?_, ?_, ?_, ?_, fun k hk => ?_, fun hr => ?_⟩
    · rw [up_ne (show 14 ≠ 8 by decide)]; exact s0
    · rw [up_ne (show 16 ≠ 8 by decide)]; exact s1
    · rw [up_ne (show 17 ≠ 8 by decide)]; exact s2
    · rw [up_ne (show 18 ≠ 8 by decide)]; exact s3
    · rw [up_ne (show 13 ≠ 8 by decide)]; exact s4
    · rw [up_ne (show 13 ≠ 8 by decide)] at hk; rw [up_ne (show 12 ≠ 8 by decide)]; exact s5 k hk
    · rw [up_ne (show 14 ≠ 8 by decide)] at hr ⊢; rw [up_ne (show 15 ≠ 8 by decide)]; exact s6 hr
theorem rel_7 {M : MM} {d : Int → Int} (hT : M 1 0 ≤ 32) (hF : M 1 1 ≤ 8) (hC : M 11 0 ≤ 4) (h8 : ∀ c : Nat, c < 4 → 0 ≤ M 13 c ∧ M 13 c ≤ 8) (r : Rel M d) {t : Nat} {x : Int} : Rel (up M 7 t x) d := by
  obtain ⟨⟨r0, r1, r2, r3, r4, r5⟩, rf, rt, rc⟩ := r
  refine ⟨⟨?_, ?_, ?_, ?_, ?_, ?_⟩, fun f hf => ?_, fun t1 ht1 => ?_, fun q hq => ?_⟩
  · rw [up_ne (show 11 ≠ 7 by decide)]; exact r0
  · rw [up_ne (show 11 ≠ 7 by decide)]; exact r1
  · rw [up_ne (show 11 ≠ 7 by decide)]; exact r2
  · rw [up_ne (show 1 ≠ 7 by decide)]; exact r3
  · rw [up_ne (show 1 ≠ 7 by decide)]; exact r4
  · refine ⟨?_, fun i hi => ?_⟩
    · rw [up_ne (show 0 ≠ 7 by decide)]; exact r5.1
    · rw [up_ne (show 19 ≠ 7 by decide)]; exact r5.2 i hi
  · rw [up_ne (show 1 ≠ 7 by decide)] at hf
    rw [up_ne (show 9 ≠ 7 by decide)]; exact rf f hf
  · rw [up_ne (show 1 ≠ 7 by decide)] at ht1
    obtain ⟨a0, a1, a2, a3, a4⟩ := rt t1 ht1
    refine ⟨?_, ?_, ?_, ?_, ?_⟩
    · rw [up_ne (show 3 ≠ 7 by decide)]; exact a0
    · rw [up_ne (show 4 ≠ 7 by decide)]; exact a1
    · rw [up_ne (show 5 ≠ 7 by decide)]; exact a2
    · rw [up_ne (show 6 ≠ 7 by decide)]; exact a3
    · rw [up_ne (show 2 ≠ 7 by decide)]; exact a4
  · rw [up_ne (show 11 ≠ 7 by decide)] at hq
    obtain ⟨s0, s1, s2, s3, s4, s5, s6⟩ := rc q hq
    have h8q := h8 q (by omega)
    refine ⟨?_, ?_, ?_, ?_, ?_, fun k hk => ?_, fun hr => ?_⟩
    · rw [up_ne (show 14 ≠ 7 by decide)]; exact s0
    · rw [up_ne (show 16 ≠ 7 by decide)]; exact s1
    · rw [up_ne (show 17 ≠ 7 by decide)]; exact s2
    · rw [up_ne (show 18 ≠ 7 by decide)]; exact s3
    · rw [up_ne (show 13 ≠ 7 by decide)]; exact s4
    · rw [up_ne (show 13 ≠ 7 by decide)] at hk; rw [up_ne (show 12 ≠ 7 by decide)]; exact s5 k hk
    · rw [up_ne (show 14 ≠ 7 by decide)] at hr ⊢; rw [up_ne (show 15 ≠ 7 by decide)]; exact s6 hr
theorem rel_10 {M : MM} {d : Int → Int} (hT : M 1 0 ≤ 32) (hF : M 1 1 ≤ 8) (hC : M 11 0 ≤ 4) (h8 : ∀ c : Nat, c < 4 → 0 ≤ M 13 c ∧ M 13 c ≤ 8) (r : Rel M d) {t : Nat} {x : Int} : Rel (up M 10 t x) d := by
  obtain ⟨⟨r0, r1, r2, r3, r4, r5⟩, rf, rt, rc⟩ := r
  refine ⟨⟨?_, ?_, ?_, ?_, ?_, ?_⟩, fun f hf => ?_, fun t1 ht1 => ?_, fun q hq => ?_⟩
  · rw [up_ne (show 11 ≠ 10 by decide)]; exact r0
  · rw [up_ne (show 11 ≠ 10 by decide)]; exact r1
  · rw [up_ne (show 11 ≠ 10 by decide)]; exact r2
  · rw [up_ne (show 1 ≠ 10 by decide)]; exact r3
  · rw [up_ne (show 1 ≠ 10 by decide)]; exact r4
  · refine ⟨?_, fun i hi => ?_⟩
    · rw [up_ne (show 0 ≠ 10 by decide)]; exact r5.1
    · rw [up_ne (show 19 ≠ 10 by decide)]; exact r5.2 i hi
  · rw [up_ne (show 1 ≠ 10 by decide)] at hf
    rw [up_ne (show 9 ≠ 10 by decide)]; exact rf f hf
  · rw [up_ne (show 1 ≠ 10 by decide)] at ht1
    obtain ⟨a0, a1, a2, a3, a4⟩ := rt t1 ht1
    refine ⟨?_, ?_, ?_, ?_, ?_⟩
    · rw [up_ne (show 3 ≠ 10 by decide)]; exact a0
    · rw [up_ne (show 4 ≠ 10 by decide)]; exact a1
    · rw [up_ne (show 5 ≠ 10 by decide)]; exact a2
    · rw [up_ne (show 6 ≠ 10 by decide)]; exact a3
    · rw [up_ne (show 2 ≠ 10 by decide)]; exact a4
  · rw [up_ne (show 11 ≠ 10 by decide)] at hq
    obtain ⟨s0, s1, s2, s3, s4, s5, s6⟩ := rc q hq
    have h8q := h8 q (by omega)
    refine ⟨?_, ?_, ?_, ?_, ?_, fun k hk => ?_, fun hr => ?_⟩
    · rw [up_ne (show 14 ≠ 10 by decide)]; exact s0
    · rw [up_ne (show 16 ≠ 10 by decide)]; exact s1
    · rw [up_ne (show 17 ≠ 10 by decide)]; exact s2
    · rw [up_ne (show 18 ≠ 10 by decide)]; exact s3
    · rw [up_ne (show 13 ≠ 10 by decide)]; exact s4
    · rw [up_ne (show 13 ≠ 10 by decide)] at hk; rw [up_ne (show 12 ≠ 10 by decide)]; exact s5 k hk
    · rw [up_ne (show 14 ≠ 10 by decide)] at hr ⊢; rw [up_ne (show 15 ≠ 10 by decide)]; exact s6 hr
theorem rel_stop {M : MM} {d : Int → Int} (hT : M 1 0 ≤ 32) (hF : M 1 1 ≤ 8) (hC : M 11 0 ≤ 4) (h8 : ∀ c : Nat, c < 4 → 0 ≤ M 13 c ∧ M 13 c ≤ 8) (r : Rel M d) (kq : ∀ q : Nat, (q : Int) < M 11 0 → 0 ≤ M 14 q → M 14 q < M 1 0) {c : Nat} (hc : (c : Int) < M 11 0) : Rel (up M 14 c (-1)) (ud d (272 + 13 * (c : Int) + 0) (-1)) := by
  obtain ⟨⟨r0, r1, r2, r3, r4, r5⟩, rf, rt, rc⟩ := r
  refine ⟨⟨?_, ?_, ?_, ?_, ?_, ?_⟩, fun f hf => ?_, fun t1 ht1 => ?_, fun q hq => ?_⟩
  · rw [ud_ne (by omega), up_ne (show 11 ≠ 14 by decide)]; exact r0
  · rw [ud_ne (by omega), up_ne (show 11 ≠ 14 by decide)]; exact r1
  · rw [ud_ne (by omega), up_ne (show 11 ≠ 14 by decide)]; exact r2
  · rw [ud_ne (by omega), up_ne (show 1 ≠ 14 by decide)]; exact r3
  · rw [ud_ne (by omega), up_ne (show 1 ≠ 14 by decide)]; exact r4
  · refine ⟨?_, fun i hi => ?_⟩
    · rw [ud_ne (by omega), up_ne (show 0 ≠ 14 by decide)]; exact r5.1
    · rw [ud_ne (by omega), up_ne (show 19 ≠ 14 by decide)]; exact r5.2 i hi
  · rw [up_ne (show 1 ≠ 14 by decide)] at hf
    rw [ud_ne (by omega), up_ne (show 9 ≠ 14 by decide)]; exact rf f hf
  · rw [up_ne (show 1 ≠ 14 by decide)] at ht1
    obtain ⟨a0, a1, a2, a3, a4⟩ := rt t1 ht1
    refine ⟨?_, ?_, ?_, ?_, ?_⟩
    · rw [ud_ne (by omega), up_ne (show 3 ≠ 14 by decide)]; exact a0
    · rw [ud_ne (by omega), up_ne (show 4 ≠ 14 by decide)]; exact a1
    · rw [ud_ne (by omega), up_ne (show 5 ≠ 14 by decide)]; exact a2
    · rw [ud_ne (by omega), up_ne (show 6 ≠ 14 by decide)]; exact a3
    · rw [ud_ne (by omega), up_ne (show 2 ≠ 14 by decide)]; exact a4
  · rw [up_ne (show 11 ≠ 14 by decide)] at hq
    obtain ⟨s0, s1, s2, s3, s4, s5, s6⟩ := rc q hq
    have h8q := h8 q (by omega)
    refine ⟨?_, ?_, ?_, ?_, ?_, fun k hk => ?_, fun hr => ?_⟩
    · by_cases e : q = c
      · subst e; rw [ud_eq, up_eq]
      · rw [ud_ne (by omega), up_ni e]; exact s0
    · rw [ud_ne (by omega), up_ne (show 16 ≠ 14 by decide)]; exact s1
    · rw [ud_ne (by omega), up_ne (show 17 ≠ 14 by decide)]; exact s2
    · rw [ud_ne (by omega), up_ne (show 18 ≠ 14 by decide)]; exact s3
    · rw [ud_ne (by omega), up_ne (show 13 ≠ 14 by decide)]; exact s4
    · rw [up_ne (show 13 ≠ 14 by decide)] at hk; rw [ud_ne (by omega), up_ne (show 12 ≠ 14 by decide)]; exact s5 k hk
    · by_cases e : q = c
      · subst e; rw [up_eq] at hr; omega
      · rw [up_ni e] at hr ⊢; rw [ud_ne (by have := kq q hq hr; omega), up_ne (show 15 ≠ 14 by decide)]; exact s6 hr
theorem rel_busy {M : MM} {d : Int → Int} (hT : M 1 0 ≤ 32) (hF : M 1 1 ≤ 8) (hC : M 11 0 ≤ 4) (h8 : ∀ c : Nat, c < 4 → 0 ≤ M 13 c ∧ M 13 c ≤ 8) (r : Rel M d) (kq : ∀ q : Nat, (q : Int) < M 11 0 → 0 ≤ M 14 q → M 14 q < M 1 0) {c : Nat} {x : Int} (hc : (c : Int) < M 11 0) : Rel (up M 16 c x) (ud d (272 + 13 * (c : Int) + 1) x) := by
  obtain ⟨⟨r0, r1, r2, r3, r4, r5⟩, rf, rt, rc⟩ := r
  refine ⟨⟨?_, ?_, ?_, ?_, ?_, ?_⟩, fun f hf => ?_, fun t1 ht1 => ?_, fun q hq => ?_⟩
  · rw [ud_ne (by omega), up_ne (show 11 ≠ 16 by decide)]; exact r0
  · rw [ud_ne (by omega), up_ne (show 11 ≠ 16 by decide)]; exact r1
  · rw [ud_ne (by omega), up_ne (show 11 ≠ 16 by decide)]; exact r2
  · rw [ud_ne (by omega), up_ne (show 1 ≠ 16 by decide)]; exact r3
  · rw [ud_ne (by omega), up_ne (show 1 ≠ 16 by decide)]; exact r4
  · refine ⟨?_, fun i hi => ?_⟩
    · rw [ud_ne (by omega), up_ne (show 0 ≠ 16 by decide)]; exact r5.1
    · rw [ud_ne (by omega), up_ne (show 19 ≠ 16 by decide)]; exact r5.2 i hi
  · rw [up_ne (show 1 ≠ 16 by decide)] at hf
    rw [ud_ne (by omega), up_ne (show 9 ≠ 16 by decide)]; exact rf f hf
  · rw [up_ne (show 1 ≠ 16 by decide)] at ht1
    obtain ⟨a0, a1, a2, a3, a4⟩ := rt t1 ht1
    refine ⟨?_, ?_, ?_, ?_, ?_⟩
    · rw [ud_ne (by omega), up_ne (show 3 ≠ 16 by decide)]; exact a0
    · rw [ud_ne (by omega), up_ne (show 4 ≠ 16 by decide)]; exact a1
    · rw [ud_ne (by omega), up_ne (show 5 ≠ 16 by decide)]; exact a2
    · rw [ud_ne (by omega), up_ne (show 6 ≠ 16 by decide)]; exact a3
    · rw [ud_ne (by omega), up_ne (show 2 ≠ 16 by decide)]; exact a4
  · rw [up_ne (show 11 ≠ 16 by decide)] at hq
    obtain ⟨s0, s1, s2, s3, s4, s5, s6⟩ := rc q hq
    have h8q := h8 q (by omega)
    refine ⟨?_, ?_, ?_, ?_, ?_, fun k hk => ?_, fun hr => ?_⟩
    · rw [ud_ne (by omega), up_ne (show 14 ≠ 16 by decide)]; exact s0
    · by_cases e : q = c
      · subst e; rw [ud_eq, up_eq]
      · rw [ud_ne (by omega), up_ni e]; exact s1
    · rw [ud_ne (by omega), up_ne (show 17 ≠ 16 by decide)]; exact s2
    · rw [ud_ne (by omega), up_ne (show 18 ≠ 16 by decide)]; exact s3
    · rw [ud_ne (by omega), up_ne (show 13 ≠ 16 by decide)]; exact s4
    · rw [up_ne (show 13 ≠ 16 by decide)] at hk; rw [ud_ne (by omega), up_ne (show 12 ≠ 16 by decide)]; exact s5 k hk
    · rw [up_ne (show 14 ≠ 16 by decide)] at hr ⊢; rw [ud_ne (by have := kq q hq hr; omega), up_ne (show 15 ≠ 16 by decide)]; exact s6 hr
theorem rel_steal {M : MM} {d : Int → Int} (hT : M 1 0 ≤ 32) (hF : M 1 1 ≤ 8) (hC : M 11 0 ≤ 4) (h8 : ∀ c : Nat, c < 4 → 0 ≤ M 13 c ∧ M 13 c ≤ 8) (r : Rel M d) (kq : ∀ q : Nat, (q : Int) < M 11 0 → 0 ≤ M 14 q → M 14 q < M 1 0) {c : Nat} {x : Int} (hc : (c : Int) < M 11 0) : Rel (up M 17 c x) (ud d (272 + 13 * (c : Int) + 2) x) := by
  obtain ⟨⟨r0, r1, r2, r3, r4, r5⟩, rf, rt, rc⟩ := r
  refine ⟨⟨?_, ?_, ?_, ?_, ?_, ?_⟩, fun f hf => ?_, fun t1 ht1 => ?_, fun q hq => ?_⟩
  · rw [ud_ne (by omega), up_ne (show 11 ≠ 17 by decide)]; exact r0
  · rw [ud_ne (by omega), up_ne (show 11 ≠ 17 by decide)]; exact r1
  · rw [ud_ne (by omega), up_ne (show 11 ≠ 17 by decide)]; exact r2
  · rw [ud_ne (by omega), up_ne (show 1 ≠ 17 by decide)]; exact r3
  · rw [ud_ne (by omega), up_ne (show 1 ≠ 17 by decide)]; exact r4
  · refine ⟨?_, fun i hi => ?_⟩
    · rw [ud_ne (by omega), up_ne (show 0 ≠ 17 by decide)]; exact r5.1
    · rw [ud_ne (by omega), up_ne (show 19 ≠ 17 by decide)]; exact r5.2 i hi
  · rw [up_ne (show 1 ≠ 17 by decide)] at hf
    rw [ud_ne (by omega), up_ne (show 9 ≠ 17 by decide)]; exact rf f hf
  · rw [up_ne (show 1 ≠ 17 by decide)] at ht1
    obtain ⟨a0, a1, a2, a3, a4⟩ := rt t1 ht1
    refine ⟨?_, ?_, ?_, ?_, ?_⟩
    · rw [ud_ne (by omega), up_ne (show 3 ≠ 17 by decide)]; exact a0
    · rw [ud_ne (by omega), up_ne (show 4 ≠ 17 by decide)]; exact a1
    · rw [ud_ne (by omega), up_ne (show 5 ≠ 17 by decide)]; exact a2
    · rw [ud_ne (by omega), up_ne (show 6 ≠ 17 by decide)]; exact a3
    · rw [ud_ne (by omega), up_ne (show 2 ≠ 17 by decide)]; exact a4
  · rw [up_ne (show 11 ≠ 17 by decide)] at hq
    obtain ⟨s0, s1, s2, s3, s4, s5, s6⟩ := rc q hq
    have h8q := h8 q (by omega)
    refine ⟨?_, ?_, ?_, ?_, ?_, fun k hk => ?_, fun hr => ?_⟩
    · rw [ud_ne (by omega), up_ne (show 14 ≠ 17 by decide)]; exact s0
    · rw [ud_ne (by omega), up_ne (show 16 ≠ 17 by decide)]; exact s1
    · by_cases e : q = c
      · subst e; rw [ud_eq, up_eq]
      · rw [ud_ne (by omega), up_ni e]; exact s2
    · rw [ud_ne (by omega), up_ne (show 18 ≠ 17 by decide)]; exact s3
    · rw [ud_ne (by omega), up_ne (show 13 ≠ 17 by decide)]; exact s4
    · rw [up_ne (show 13 ≠ 17 by decide)] at hk; rw [ud_ne (by omega), up_ne (show 12 ≠ 17 by decide)]; exact s5 k hk
    · rw [up_ne (show 14 ≠ 17 by decide)] at hr ⊢; rw [ud_ne (by have := kq q hq hr; omega), up_ne (show 15 ≠ 17 by decide)]; exact s6 hr
theorem rel_pause {M : MM} {d : Int → Int} (hT : M 1 0 ≤ 32) (hF : M 1 1 ≤ 8) (hC : M 11 0 ≤ 4) (h8 : ∀ c : Nat, c < 4 → 0 ≤ M 13 c ∧ M 13 c ≤ 8) (r : Rel M d) (kq : ∀ q : Nat, (q : Int) < M 11 0 → 0 ≤ M 14 q → M 14 q < M 1 0) {c : Nat} {x : Int} (hc : (c : Int) < M 11 0) : Rel (up M 18 c x) (ud d (272 + 13 * (c : Int) + 3) x) := by
  obtain ⟨⟨r0, r1, r2, r3, r4, r5⟩, rf, rt, rc⟩ := r
  refine ⟨⟨?_, ?_, ?_, ?_, ?_, ?_⟩, fun f hf => ?_, fun t1 ht1 => ?_, fun q hq => ?_⟩
  · rw [ud_ne (by omega), up_ne (show 11 ≠ 18 by decide)]; exact r0
  · rw [ud_ne (by omega), up_ne (show 11 ≠ 18 by decide)]; exact r1
  · rw [ud_ne (by omega), up_ne (show 11 ≠ 18 by decide)]; exact r2
  · rw [ud_ne (by omega), up_ne (show 1 ≠ 18 by decide)]; exact r3
  · rw [ud_ne (by omega), up_ne (show 1 ≠ 18 by decide)]; exact r4
  · refine ⟨?_, fun i hi => ?_⟩
    · rw [ud_ne (by omega), up_ne (show 0 ≠ 18 by decide)]; exact r5.1
    · rw [ud_ne (by omega), up_ne (show 19 ≠ 18 by decide)]; exact r5.2 i hi
  · rw [up_ne (show 1 ≠ 18 by decide)] at hf
    rw [ud_ne (by omega), up_ne (show 9 ≠ 18 by decide)]; exact rf f hf
  · rw [up_ne (show 1 ≠ 18 by decide)] at ht1
    obtain ⟨a0, a1, a2, a3, a4⟩ := rt t1 ht1
    refine ⟨?_, ?_, ?_, ?_, ?_⟩
    · rw [ud_ne (by omega), up_ne (show 3 ≠ 18 by decide)]; exact a0
    · rw [ud_ne (by omega), up_ne (show 4 ≠ 18 by decide)]; exact a1
    · rw [ud_ne (by omega), up_ne (show 5 ≠ 18 by decide)]; exact a2
    · rw [ud_ne (by omega), up_ne (show 6 ≠ 18 by decide)]; exact a3
    · rw [ud_ne (by omega), up_ne (show 2 ≠ 18 by decide)]; exact a4
  · rw [up_ne (show 11 ≠ 18 by decide)] at hq
    obtain ⟨s0, s1, s2, s3, s4, s5, s6⟩ := rc q hq
    have h8q := h8 q (by omega)
    refine ⟨?_, ?_, ?_, ?_, ?_, fun k hk => ?_, fun hr => ?_⟩
    · rw [ud_ne (by omega), up_ne (show 14 ≠ 18 by decide)]; exact s0
    · rw [ud_ne (by omega), up_ne (show 16 ≠ 18 by decide)]; exact s1
    · rw [ud_ne (by omega), up_ne (show 17 ≠ 18 by decide)]; exact s2
    · by_cases e : q = c
      · subst e; rw [ud_eq, up_eq]
      · rw [ud_ne (by omega), up_ni e]; exact s3
    · rw [ud_ne (by omega), up_ne (show 13 ≠ 18 by decide)]; exact s4
    · rw [up_ne (show 13 ≠ 18 by decide)] at hk; rw [ud_ne (by omega), up_ne (show 12 ≠ 18 by decide)]; exact s5 k hk
    · rw [up_ne (show 14 ≠ 18 by decide)] at hr ⊢; rw [ud_ne (by have := kq q hq hr; omega), up_ne (show 15 ≠ 18 by decide)]; exact s6 hr
