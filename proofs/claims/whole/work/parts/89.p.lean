set_option linter.unusedVariables false
set_option linter.unusedSimpArgs false
/-! ===== what holds of the spare machine and the draft while a setup is read ===== -/
def gh (S : MM) (d : Int → Int) : MM := fun k i => if k = 19 then d (i : Int) else S k i
theorem gh_ne {S : MM} {d : Int → Int} {k : Nat} (h : k ≠ 19) : gh S d k = S k := by funext i; unfold gh; rw [if_neg h]
def PF (S : MM) (dr : Int → Int) : Prop := IvM S ∧ Rel (gh S dr) dr ∧ RelX S dr ∧ OkF S ∧ S 0 3 = 0 ∧ 1 ≤ S 11 0
theorem rel_gh {M S : MM} {d : Int → Int} (r : Rel M d) (e : ∀ k, k ≠ 19 → S k = M k) : Rel (gh S d) d := by
  obtain ⟨⟨r0, r1, r2, r3, r4, r5⟩, rf, rt, rc⟩ := r
  have g : ∀ k, k ≠ 19 → gh S d k = M k := fun k hk => (gh_ne hk).trans (e k hk)
  refine ⟨⟨?_, ?_, ?_, ?_, ?_, ?_, fun i hi => ?_⟩, ?_, ?_, ?_⟩
  · rw [g 11 (by decide)]; exact r0
  · rw [g 11 (by decide)]; exact r1
  · rw [g 11 (by decide)]; exact r2
  · rw [g 1 (by decide)]; exact r3
  · rw [g 1 (by decide)]; exact r4
  · rw [g 0 (by decide)]; exact r5.1
  · unfold gh; rw [if_pos rfl, show ((i.toNat : Nat) : Int) = i by omega]
  · rw [g 1 (by decide), g 9 (by decide)]; exact rf
  · rw [g 1 (by decide), g 3 (by decide), g 4 (by decide), g 5 (by decide), g 6 (by decide), g 2 (by decide)]; exact rt
  · rw [g 11 (by decide), g 14 (by decide), g 16 (by decide), g 17 (by decide), g 18 (by decide), g 13 (by decide), g 12 (by decide), g 15 (by decide)]; exact rc
theorem rel_kd {S : MM} {d d' : Int → Int} (s : Sd S) (r : Rel (gh S d) d) (e : ∀ i : Int, i < 324 → i ≠ 6 → i ≠ 7 → d' i = d i) : Rel (gh S d') d' := by
  obtain ⟨s1, s2, s3, s4, s5⟩ := s
  obtain ⟨⟨r0, r1, r2, r3, r4, r5⟩, rf, rt, rc⟩ := r
  have g : ∀ k, k ≠ 19 → gh S d' k = gh S d k := fun k hk => (gh_ne hk).trans (gh_ne hk).symm
  have g' : ∀ k, k ≠ 19 → gh S d k = S k := fun k hk => gh_ne hk
  refine ⟨⟨?_, ?_, ?_, ?_, ?_, ?_, fun i hi => ?_⟩, fun f hf => ?_, fun t ht => ?_, fun c hc => ?_⟩
  · rw [g 11 (by decide), e _ (by omega) (by omega) (by omega)]; exact r0
  · rw [g 11 (by decide), e _ (by omega) (by omega) (by omega)]; exact r1
  · rw [g 11 (by decide), e _ (by omega) (by omega) (by omega)]; exact r2
  · rw [g 1 (by decide), e _ (by omega) (by omega) (by omega)]; exact r3
  · rw [g 1 (by decide), e _ (by omega) (by omega) (by omega)]; exact r4
  · rw [g 0 (by decide), e _ (by omega) (by omega) (by omega)]; exact r5.1
  · unfold gh; rw [if_pos rfl, show ((i.toNat : Nat) : Int) = i by omega]
  · rw [g 1 (by decide)] at hf
    have hf' := hf
    rw [g' 1 (by decide)] at hf'
    rw [g 9 (by decide), e _ (by omega) (by omega) (by omega)]; exact rf f hf
  · rw [g 1 (by decide)] at ht
    have ht' := ht
    rw [g' 1 (by decide)] at ht'
    rw [g 3 (by decide), g 4 (by decide), g 5 (by decide), g 6 (by decide), g 2 (by decide), e _ (by omega) (by omega) (by omega), e _ (by omega) (by omega) (by omega), e _ (by omega) (by omega) (by omega), e _ (by omega) (by omega) (by omega), e _ (by omega) (by omega) (by omega)]; exact rt t ht
  · rw [g 11 (by decide)] at hc
    have hc' := hc
    rw [g' 11 (by decide)] at hc'
    obtain ⟨a0, a1, a2, a3, a4, a5, a6⟩ := rc c hc
    rw [g 14 (by decide), g 16 (by decide), g 17 (by decide), g 18 (by decide), g 13 (by decide), g 12 (by decide), g 15 (by decide), e _ (by omega) (by omega) (by omega), e _ (by omega) (by omega) (by omega), e _ (by omega) (by omega) (by omega), e _ (by omega) (by omega) (by omega), e _ (by omega) (by omega) (by omega)]
    refine ⟨a0, a1, a2, a3, a4, fun k hk => ?_, fun hr => ?_⟩
    · have hk' := hk
      rw [g' 13 (by decide)] at hk'
      have := s4 c (by omega)
      rw [e _ (by omega) (by omega) (by omega)]; exact a5 k hk
    · have hr' := hr
      rw [g' 14 (by decide)] at hr'
      have := s5 c hc' hr'
      rw [e _ (by rw [g' 14 (by decide)]; omega) (by rw [g' 14 (by decide)]; omega) (by rw [g' 14 (by decide)]; omega)]; exact a6 hr
theorem pf_kd {S : MM} {d d' : Int → Int} (p : PF S d) (e : ∀ i : Int, i < 324 → i ≠ 6 → i ≠ 7 → d' i = d i) : PF S d' := by
  obtain ⟨p1, p2, p3, p4, p5, p6⟩ := p
  have hT := p1.1.1.1
  refine ⟨p1, rel_kd (Sd_of p1.1) p2 e, fun t ht => ?_, p4, p5, p6⟩
  rw [e _ (by omega) (by omega) (by omega), e _ (by omega) (by omega) (by omega)]
  exact p3 t ht
theorem pf_add {S : MM} {dr : Int → Int} {t : Nat} {du pr ho be : Int} (p : PF S dr) (ht : S 1 0 = t) (ht2 : t < 32) (h1 : 1 ≤ du ∧ du ≤ 99) (h2 : 0 ≤ pr ∧ pr ≤ 9) (h3 : 0 ≤ ho ∧ ho < S 11 0) (h4 : ∀ q, t ≤ q → q < 32 → tb be q = false) : PF (addM S du pr ho be) (ud (dadd dr t du pr ho) (16 + 8 * (t : Int) + 3) be) := by
  obtain ⟨p1, p2, p3, p4, p5, p6⟩ := p
  have s := Sd_of p1.1
  have sg : Sd (gh S dr) := by
    unfold Sd at s ⊢
    rw [gh_ne (show 1 ≠ 19 by decide), gh_ne (show 11 ≠ 19 by decide), gh_ne (show 13 ≠ 19 by decide), gh_ne (show 14 ≠ 19 by decide)]; exact s
  have rxg : RelX (gh S dr) dr := relX_congr (gh_ne (by decide)) (gh_ne (by decide)) (gh_ne (by decide)) p3
  obtain ⟨a1, a2⟩ := rel_add (du := du) (pr := pr) (ho := ho) (be := be) sg (by rw [gh_ne (by decide)]; exact p1.1.1.2.1.1) p2 rxg (by rw [gh_ne (by decide)]; exact ht) ht2
  have eq : ∀ k, k ≠ 19 → addM S du pr ho be k = addM (gh S dr) du pr ho be k := fun k hk => by
    funext i
    unfold addM up
    rw [gh_ne (show 1 ≠ 19 by decide), gh_ne hk]
  obtain ⟨b0, b1⟩ := add_1 (M := S) (du := du) (pr := pr) (ho := ho) (be := be)
  refine ⟨iv_add p1 ht ht2 h1 h2 h3 h4, rel_gh a1 eq, relX_congr (eq 1 (by decide)) (eq 7 (by decide)) (eq 8 (by decide)) a2, ?_, ?_, ?_⟩
  · unfold OkF at p4 ⊢
    rw [b1, add_r (show 9 ≠ 1 by decide) (by omega), add_r (show 11 ≠ 1 by decide) (by omega), add_r (show 13 ≠ 1 by decide) (by omega)]; exact p4
  · rw [add_r (by decide) (by omega)]; exact p5
  · rw [add_r (by decide) (by omega)]; exact p6
theorem pf_fence {S : MM} {dr : Int → Int} {m : Nat} (p : PF S dr) (hm : S 1 1 = m) (hm8 : m < 8) : PF (addF S) (ud (ud dr (8 + (m : Int)) (dr 3)) 4 ((m : Int) + 1)) := by
  obtain ⟨p1, p2, p3, p4, p5, p6⟩ := p
  have s := Sd_of p1.1
  have hT := p1.1.1.1
  obtain ⟨⟨⟨t1, t2, t3, t4⟩, okC, okP⟩, oq, kr, os, ob, oh⟩ := p1
  have e3 : dr 3 = S 1 0 := by have := p2.1.2.2.2.1; rw [gh_ne (by decide)] at this; exact this
  have ek : ∀ k, k ≠ 1 → k ≠ 9 → addF S k = S k := fun k h1 h2 => by unfold addF; rw [up_ne h1, up_ne h2]
  have e10 : addF S 1 0 = S 1 0 := by unfold addF; rw [up_ni (by decide), up_ne (by decide)]
  have e11 : addF S 1 1 = (m : Int) + 1 := by unfold addF; rw [up_eq, hm]
  have e9 : ∀ f, addF S 9 f = if f = m then S 1 0 else S 9 f := fun f => by
    unfold addF
    rw [up_ne (by decide), hm, Int.toNat_natCast]
    by_cases z : f = m
    · subst z; rw [up_eq, if_pos rfl]
    · rw [up_ni z, if_neg z]
  have hD : ∀ i : Int, i ≠ 4 → i ≠ 8 + (m : Int) → ud (ud dr (8 + (m : Int)) (dr 3)) 4 ((m : Int) + 1) i = dr i := fun i h1 h2 => by rw [ud_ne h1, ud_ne h2]
  have g : ∀ k, k ≠ 19 → k ≠ 1 → k ≠ 9 → gh (addF S) (ud (ud dr (8 + (m : Int)) (dr 3)) 4 ((m : Int) + 1)) k = gh S dr k := fun k h1 h2 h3 => by rw [gh_ne h1, gh_ne h1, ek k h2 h3]
  obtain ⟨⟨r0, r1, r2, r3, r4, r5⟩, rf, rt, rc⟩ := p2
  have hF : ∀ f : Nat, (f : Int) < (m : Int) + 1 → 0 ≤ (if f = m then S 1 0 else S 9 f) ∧ (if f = m then S 1 0 else S 9 f) ≤ S 1 0 := fun f hf => by
    by_cases z : f = m
    · rw [if_pos z]; omega
    · rw [if_neg z]; exact t4 f (by omega) (by omega)
  refine ⟨⟨⟨⟨by rw [e10]; exact t1, by rw [e11]; omega, by rw [ek 2 (by decide) (by decide)]; exact t3, fun f hf hf2 => by rw [e11] at hf2; rw [e9, e10]; exact hF f hf2⟩, ?_, ?_⟩, ?_, okR_congr (ek 11 (by decide) (by decide)) (ek 14 (by decide) (by decide)) kr, okS_congr (ek 2 (by decide) (by decide)) (ek 11 (by decide) (by decide)) (ek 12 (by decide) (by decide)) (ek 13 (by decide) (by decide)) (ek 14 (by decide) (by decide)) os, ?_, ?_⟩, ⟨⟨?_, ?_, ?_, ?_, ?_, ?_, fun i hi => ?_⟩, fun f hf => ?_, fun t ht => ?_, fun c hc => ?_⟩, fun t ht => ?_, ⟨fun a b hab hb => ?_, ?_⟩, ?_, ?_⟩
  · unfold OkC runOk at okC ⊢; rw [ek 11 (by decide) (by decide), ek 13 (by decide) (by decide), ek 14 (by decide) (by decide), ek 15 (by decide) (by decide), ek 18 (by decide) (by decide), e10]; exact okC
  · unfold OkP at okP ⊢; rw [e10, ek 4 (by decide) (by decide), ek 5 (by decide) (by decide), ek 3 (by decide) (by decide)]; exact okP
  · unfold OkQ at oq ⊢; rw [e10, ek 13 (by decide) (by decide), ek 12 (by decide) (by decide)]; exact oq
  · unfold OkB at ob ⊢; rw [e10, ek 6 (by decide) (by decide)]; exact ob
  · unfold OkH at oh ⊢; rw [e10, ek 5 (by decide) (by decide), ek 11 (by decide) (by decide)]; exact oh
  · rw [hD _ (by omega) (by omega), g 11 (by decide) (by decide) (by decide)]; exact r0
  · rw [hD _ (by omega) (by omega), g 11 (by decide) (by decide) (by decide)]; exact r1
  · rw [hD _ (by omega) (by omega), g 11 (by decide) (by decide) (by decide)]; exact r2
  · rw [hD _ (by omega) (by omega), gh_ne (by decide), e10]; exact e3
  · rw [ud_eq, gh_ne (by decide), e11]
  · rw [hD _ (by omega) (by omega), g 0 (by decide) (by decide) (by decide)]; exact r5.1
  · show _ = gh (addF S) _ 19 i.toNat
    unfold gh; rw [if_pos rfl, show ((i.toNat : Nat) : Int) = i by omega]
  · rw [gh_ne (by decide), e11] at hf
    rw [gh_ne (by decide), e9]
    by_cases z : f = m
    · subst z; rw [if_pos rfl, ud_ne (by omega), ud_eq]; exact e3
    · rw [if_neg z, hD _ (by omega) (by omega)]
      have := rf f (by rw [gh_ne (by decide)]; omega)
      rw [gh_ne (by decide)] at this; exact this
  · rw [gh_ne (by decide), e10] at ht
    have := rt t (by rw [gh_ne (by decide)]; exact ht)
    rw [g 3 (by decide) (by decide) (by decide), g 4 (by decide) (by decide) (by decide), g 5 (by decide) (by decide) (by decide), g 6 (by decide) (by decide) (by decide), g 2 (by decide) (by decide) (by decide), hD _ (by omega) (by omega), hD _ (by omega) (by omega), hD _ (by omega) (by omega), hD _ (by omega) (by omega), hD _ (by omega) (by omega)]; exact this
  · rw [g 11 (by decide) (by decide) (by decide)] at hc
    have hc' := hc
    rw [gh_ne (by decide)] at hc'
    obtain ⟨a0, a1, a2, a3, a4, a5, a6⟩ := rc c hc
    rw [g 14 (by decide) (by decide) (by decide), g 16 (by decide) (by decide) (by decide), g 17 (by decide) (by decide) (by decide), g 18 (by decide) (by decide) (by decide), g 13 (by decide) (by decide) (by decide), g 12 (by decide) (by decide) (by decide), g 15 (by decide) (by decide) (by decide), hD _ (by omega) (by omega), hD _ (by omega) (by omega), hD _ (by omega) (by omega), hD _ (by omega) (by omega), hD _ (by omega) (by omega)]
    refine ⟨a0, a1, a2, a3, a4, fun k hk => ?_, fun hr => ?_⟩
    · rw [hD _ (by omega) (by omega)]; exact a5 k hk
    · have hr' := hr
      rw [gh_ne (by decide)] at hr'
      rw [hD _ (by rw [gh_ne (by decide)]; omega) (by rw [gh_ne (by decide)]; omega)]; exact a6 hr
  · rw [e10] at ht
    rw [ek 7 (by decide) (by decide), ek 8 (by decide) (by decide), hD _ (by omega) (by omega), hD _ (by omega) (by omega)]; exact p3 t ht
  · rw [e11] at hb
    rw [e9, e9]
    by_cases za : a = m
    · by_cases zb : b = m
      · rw [if_pos za, if_pos zb]; omega
      · omega
    · rw [if_neg za]
      by_cases zb : b = m
      · rw [if_pos zb]; exact (t4 a (by omega) (by omega)).2
      · rw [if_neg zb]; exact p4.1 a b hab (by omega)
  · intro c hc hcc
    rw [ek 11 (by decide) (by decide)] at hcc
    rw [ek 13 (by decide) (by decide)]; exact p4.2 c hc hcc
  · rw [ek 0 (by decide) (by decide)]; exact p5
  · rw [ek 11 (by decide) (by decide)]; exact p6
