set_option linter.unusedVariables false
set_option linter.unusedSimpArgs false
/-! ===== the reference: a core takes a task ===== -/
theorem cds_congr {d d' : Int → Int} (h7 : d' 7 = d 7) (hc : ∀ i : Int, 324 ≤ i → d' i = d i) : ∀ {ss : List Int} {pos : Int}, 0 ≤ pos → cds d pos ss → cds d' pos ss := by
  intro ss
  induction ss with
  | nil => intro pos hp h; unfold cds at h ⊢; omega
  | cons s r ih =>
    intro pos hp h
    unfold cds at h ⊢
    rw [hc _ (by omega), hc _ (by omega)]
    split at h
    · rename_i z; rw [if_pos z]; exact ⟨h.1, h.2.1, ih (by omega) h.2.2⟩
    · rename_i z; rw [if_neg z]
      split at h
      · rename_i z; rw [if_pos z]; exact ⟨h.1, h.2.1, ih (by omega) h.2.2⟩
      · rename_i z; rw [if_neg z]; exact ⟨h.1, ih (by omega) h.2⟩
/-- the ghost row keeps the steps' codes -/
def CodM (M : MM) (ss : List Int) : Prop := CodeR (fun i => M 19 i.toNat) ss
theorem codeR_congr {d d' : Int → Int} {ss : List Int} (h6 : d' 6 = d 6) (h7 : d' 7 = d 7) (hc : ∀ i : Int, 324 ≤ i → d' i = d i) (c : CodeR d ss) : CodeR d' ss := by
  rcases c with ⟨c1, c2⟩ | ⟨c1, c2, c3, c4⟩
  · exact Or.inl ⟨by rw [h6]; exact c1, c2⟩
  · exact Or.inr ⟨by rw [h6]; exact c1, by rw [h7]; exact c2, cds_congr h7 hc (by omega) c3, c4⟩
theorem codM_of {M : MM} {d : Int → Int} {ss : List Int} (r : Rel M d) (c : CodM M ss) : CodeR d ss :=
  codeR_congr (d := fun i => M 19 i.toNat) (r.1.2.2.2.2.2.2 6 (by omega)) (r.1.2.2.2.2.2.2 7 (by omega)) (fun i hi => r.1.2.2.2.2.2.2 i (by omega)) c
theorem codM_congr {M M' : MM} {ss : List Int} (h : M' 19 = M 19) (c : CodM M ss) : CodM M' ss := by unfold CodM at c ⊢; rw [h]; exact c
theorem codM_d {M : MM} {d : Int → Int} {ss : List Int} (r : Rel M d) (c : CodeR d ss) : CodM M ss :=
  codeR_congr (d := d) (r.1.2.2.2.2.2.2 6 (by omega)).symm (r.1.2.2.2.2.2.2 7 (by omega)).symm (fun i hi => (r.1.2.2.2.2.2.2 i (by omega)).symm) c
/-- a core gets a task and its time -/
theorem rel_run {M : MM} {d : Int → Int} (s : Sd M) (r : Rel M d) {c t : Nat} {x : Int} (hc : (c : Int) < M 11 0) (ht : (t : Int) < M 1 0) (hn : ∀ q : Nat, (q : Int) < M 11 0 → q ≠ c → M 14 q ≠ t) : Rel (up (up M 14 c t) 15 c x) (ud (ud d (272 + 13 * (c : Int) + 0) t) (16 + 8 * (t : Int) + 5) x) := by
  obtain ⟨s1, s2, s3, s4, s5⟩ := s
  obtain ⟨⟨r0, r1, r2, r3, r4, r5⟩, rf, rt, rc⟩ := r
  have ek : ∀ b, b ≠ 14 → b ≠ 15 → up (up M 14 c t) 15 c x b = M b := fun b h1 h2 => by rw [up_ne h2, up_ne h1]
  have e14 : up (up M 14 c t) 15 c x 14 = up M 14 c t 14 := up_ne (by decide)
  refine ⟨⟨?_, ?_, ?_, ?_, ?_, ?_⟩, fun f hf => ?_, fun t1 ht1 => ?_, fun q hq => ?_⟩
  · rw [ud_ne (by omega), ud_ne (by omega), ek 11 (by decide) (by decide)]; exact r0
  · rw [ud_ne (by omega), ud_ne (by omega), ek 11 (by decide) (by decide)]; exact r1
  · rw [ud_ne (by omega), ud_ne (by omega), ek 11 (by decide) (by decide)]; exact r2
  · rw [ud_ne (by omega), ud_ne (by omega), ek 1 (by decide) (by decide)]; exact r3
  · rw [ud_ne (by omega), ud_ne (by omega), ek 1 (by decide) (by decide)]; exact r4
  · refine ⟨?_, fun i hi => ?_⟩
    · rw [ud_ne (by omega), ud_ne (by omega), ek 0 (by decide) (by decide)]; exact r5.1
    · rw [ud_ne (by omega), ud_ne (by omega), ek 19 (by decide) (by decide)]; exact r5.2 i hi
  · rw [ek 1 (by decide) (by decide)] at hf
    rw [ud_ne (by omega), ud_ne (by omega), ek 9 (by decide) (by decide)]; exact rf f hf
  · rw [ek 1 (by decide) (by decide)] at ht1
    rw [ek 3 (by decide) (by decide), ek 4 (by decide) (by decide), ek 5 (by decide) (by decide), ek 6 (by decide) (by decide), ek 2 (by decide) (by decide)]
    have := rt t1 ht1
    refine ⟨?_, ?_, ?_, ?_, ?_⟩
    · rw [ud_ne (by omega), ud_ne (by omega)]; exact this.1
    · rw [ud_ne (by omega), ud_ne (by omega)]; exact this.2.1
    · rw [ud_ne (by omega), ud_ne (by omega)]; exact this.2.2.1
    · rw [ud_ne (by omega), ud_ne (by omega)]; exact this.2.2.2.1
    · rw [ud_ne (by omega), ud_ne (by omega)]; exact this.2.2.2.2
  · rw [ek 11 (by decide) (by decide)] at hq
    obtain ⟨a0, a1, a2, a3, a4, a5, a6⟩ := rc q hq
    have hq8 := s4 q (by omega)
    rw [ek 16 (by decide) (by decide), ek 17 (by decide) (by decide), ek 18 (by decide) (by decide), ek 13 (by decide) (by decide), ek 12 (by decide) (by decide), e14]
    refine ⟨?_, ?_, ?_, ?_, ?_, fun i hi => ?_, fun hr => ?_⟩
    · rw [ud_ne (by omega)]
      by_cases e : q = c
      · subst e; rw [ud_eq, up_eq]
      · rw [ud_ne (by omega), up_ni e]; exact a0
    · rw [ud_ne (by omega), ud_ne (by omega)]; exact a1
    · rw [ud_ne (by omega), ud_ne (by omega)]; exact a2
    · rw [ud_ne (by omega), ud_ne (by omega)]; exact a3
    · rw [ud_ne (by omega), ud_ne (by omega)]; exact a4
    · rw [ud_ne (by omega), ud_ne (by omega)]; exact a5 i hi
    · by_cases e : q = c
      · subst e; rw [up_eq, ud_eq, up_eq]
      · rw [up_ni e] at hr ⊢
        have h1 := s5 q hq hr
        have h2 := hn q hq e
        rw [ud_ne (by omega), ud_ne (by omega), up_ni e, up_ne (show 15 ≠ 14 by decide)]; exact a6 hr
theorem Sd_tk {M : MM} {c k : Nat} (s : Sd M) (hc : c < 4) (hk : (k : Int) < M 13 c) : Sd (tkM M c k) := by
  obtain ⟨s1, s2, s3, s4, s5⟩ := s
  have hc8 := s4 c hc
  unfold Sd
  rw [tk_ne (show 1 ≠ 12 by decide) (by decide), tk_ne (show 11 ≠ 12 by decide) (by decide), tk_ne (show 14 ≠ 12 by decide) (by decide)]
  refine ⟨s1, s2, s3, fun q hq => ?_, s5⟩
  have := s4 q hq
  rw [tk_13]; split <;> omega
section
variable {h : PH} {a b mp : Nat} {d : Int → Int} {M : MM} {ss : List Int} {K : Nat → Int}
/-- the part behind the choice of the queue; M has counted the theft -/
theorem m_t132 {fs : List PV} {cost : Int} (ha : a < h.length) (hb : b < h.length) (hab : a ≠ b) (hm : h[mp]? = some (.inr (8, fs))) (hf : fs[16]? = some (rf b)) (h1 : mp ≠ a) (h2 : mp ≠ b) (ok : Ok M) (oq : OkQ M) (os : OkS M) (r : Rel M d) (cr : CodM M ss) {c s k : Nat} (hc : (c : Int) < M 11 0) (hi : M 14 c < 0) (hs : (s : Int) < M 11 0) (hk : (k : Int) < M 13 s) :
    ∃ d' K', JX8_take_132 (mh h a b d K) mp a c cost k s a = some (mh h a b d' K') ∧
      Rel (up (up (up (up (tkM M s k) 2 (M 12 (8 * s + k)).toNat 3) 7 (M 12 (8 * s + k)).toNat c) 14 c (M 12 (8 * s + k))) 15 c (lnF (fval (M 3 (M 12 (8 * s + k)).toNat) (M 4 (M 12 (8 * s + k)).toNat) c (tkM M s k 13 c)) ss + cost)) d' ∧
      (RelX M d → RelX (up (tkM M s k) 7 (M 12 (8 * s + k)).toNat c) d') := by
  have hT := ok.1.1
  have hC := ok.2.1.1
  have hq := oq s (by omega) k hk
  obtain ⟨t, ht⟩ := Int.eq_ofNat_of_zero_le hq.1
  have hP := ok.2.2 t (by omega)
  have hst := os.1 s k (by omega) hk
  rw [ht, Int.toNat_natCast] at hst
  have sd0 := Sd_of ok
  have e0 := m_takeOut (h := h.set b (lcell K)) (a := a) (d := d) (by simpa using ha) sd0 r hs hk
  have r1 := rel_tk sd0 ok.1.2.1.1 r hs hk
  have s1 := Sd_tk sd0 (c := s) (by omega) hk
  rw [ht] at e0 ⊢
  rw [Int.toNat_natCast]
  -- the data after the task is taken out
  have kk : ∀ x, x ≠ 12 → x ≠ 13 → tkM M s k x = M x := fun x z1 z2 => tk_ne z1 z2
  have hl := ha
  have ha1 : a < (h.set b (lcell K)).length := by simpa using ha
  unfold JX8_take_132
  rw [show mh h a b d K = sd (h.set b (lcell K)) a d from rfl, e0, Option.bind_some]
  dsimp only
  unfold FX8_core FX8_task
  simp only [Option.bind_some]
  generalize hd1 : dtk M d s k = d1 at r1
  rw [md_ast ha1 (by omega) (by omega), Option.bind_some, md_ast ha1 (by omega) (by omega), Option.bind_some, md_ast ha1 (by omega) (by omega), Option.bind_some]
  have f3 := (r1.2.2.1 t (by rw [kk 1 (by decide) (by decide)]; omega))
  have f13 := (r1.2.2.2 c (by rw [kk 11 (by decide) (by decide)]; omega)).2.2.2.2.1
  have h13 := s1.2.2.2.1 c (by omega)
  rw [kk 3 (by decide) (by decide), kk 4 (by decide) (by decide)] at f3
  have cr1 : CodeR (ud (ud (ud d1 (272 + 13 * (c : Int) + 0) t) (16 + 8 * (t : Int) + 4) 3) (16 + 8 * (t : Int) + 6) c) ss := by
    refine codeR_congr (d := d1) ?_ ?_ (fun i hi => ?_) (codM_of r1 (codM_congr (kk 19 (by decide) (by decide)) cr))
    · rw [ud_ne (by omega), ud_ne (by omega), ud_ne (by omega)]
    · rw [ud_ne (by omega), ud_ne (by omega), ud_ne (by omega)]
    · rw [ud_ne (by omega), ud_ne (by omega), ud_ne (by omega)]
  obtain ⟨K', hK⟩ := m_len (h := h) (a := a) (b := b) (mp := mp) (K := K) (t := t) (c := c) (x3 := M 3 t) (x4 := M 4 t) (x13 := tkM M s k 13 c) ha hb hab hm hf h1 h2 cr1 (by omega) (by omega) (by rw [ud_ne (by omega), ud_ne (by omega), ud_ne (by omega)]; exact f3.1) (by rw [ud_ne (by omega), ud_ne (by omega), ud_ne (by omega)]; exact f3.2.1) (by rw [ud_ne (by omega), ud_ne (by omega), ud_ne (by omega)]; exact f13) (by omega) h13
  rw [show sd (h.set b (lcell K)) a (ud (ud (ud d1 (272 + 13 * (c : Int) + 0) t) (16 + 8 * (t : Int) + 4) 3) (16 + 8 * (t : Int) + 6) c) = mh h a b (ud (ud (ud d1 (272 + 13 * (c : Int) + 0) t) (16 + 8 * (t : Int) + 4) 3) (16 + 8 * (t : Int) + 6) c) K from rfl, hK, Option.bind_some]
  dsimp only
  rw [show mh h a b (ud (ud (ud d1 (272 + 13 * (c : Int) + 0) t) (16 + 8 * (t : Int) + 4) 3) (16 + 8 * (t : Int) + 6) c) K' = sd (h.set b (lcell K')) a (ud (ud (ud d1 (272 + 13 * (c : Int) + 0) t) (16 + 8 * (t : Int) + 4) 3) (16 + 8 * (t : Int) + 6) c) from rfl, md_ast (by simpa using ha) (by omega) (by omega), Option.bind_some]
  refine ⟨_, K', rfl, ?_, ?_⟩
  · have g1 := rel_st s1.1 s1.2.1 s1.2.2.1 s1.2.2.2.1 r1 s1.2.2.2.2 (t := t) (x := 3) (by rw [kk 1 (by decide) (by decide)]; omega)
    have s2 : Sd (up (tkM M s k) 2 t 3) := Sd_up (by decide) (by decide) (by decide) (by decide) s1
    have g2 := rel_7 s2.1 s2.2.1 s2.2.2.1 s2.2.2.2.1 g1 (t := t) (x := c)
    have s3 : Sd (up (up (tkM M s k) 2 t 3) 7 t c) := Sd_up (by decide) (by decide) (by decide) (by decide) s2
    have g3 := rel_d6 s3.1 s3.2.1 s3.2.2.1 s3.2.2.2.1 g2 s3.2.2.2.2 (t := t) (x := c) (by rw [up_ne (by decide), up_ne (by decide), kk 1 (by decide) (by decide)]; omega)
    have g4 := rel_run s3 g3 (c := c) (t := t) (x := lnF (fval (M 3 t) (M 4 t) c (tkM M s k 13 c)) ss + cost) (by rw [up_ne (by decide), up_ne (by decide), kk 11 (by decide) (by decide)]; exact hc) (by rw [up_ne (by decide), up_ne (by decide), kk 1 (by decide) (by decide)]; omega) (by
      intro q hq hne
      rw [up_ne (by decide), up_ne (by decide), kk 11 (by decide) (by decide)] at hq
      rw [up_ne (by decide), up_ne (by decide), kk 14 (by decide) (by decide)]
      intro e
      have := os.2.1 q hq (by omega)
      rw [e, Int.toNat_natCast] at this; omega)
    refine (congrArg (Rel _) ?_).mp g4
    funext j
    unfold ud
    by_cases z1 : j = 16 + 8 * (t : Int) + 5
    · rw [if_pos z1, if_pos z1]
    · rw [if_neg z1, if_neg z1]
      by_cases z2 : j = 272 + 13 * (c : Int) + 0
      · rw [if_pos z2, if_neg (by omega), if_neg (by omega), if_pos z2]
      · rw [if_neg z2]
        by_cases z3 : j = 16 + 8 * (t : Int) + 6
        · rw [if_pos z3, if_pos z3]
        · rw [if_neg z3, if_neg z3]
          by_cases z4 : j = 16 + 8 * (t : Int) + 4
          · rw [if_pos z4, if_pos z4]
          · rw [if_neg z4, if_neg z4, if_neg z2]
  · intro rx q hq2
    rw [up_ne (by decide), kk 1 (by decide) (by decide)] at hq2
    have := rx q hq2
    have hd : ∀ i : Int, i < 272 → d1 i = d i := fun i hi => by rw [← hd1]; unfold dtk; rw [dsh_out (by omega), ud_ne (by omega)]
    rw [up_ne (show 8 ≠ 7 by decide), kk 8 (by decide) (by decide)]
    refine ⟨?_, ?_⟩
    · rw [ud_ne (by omega)]
      by_cases e : q = t
      · subst e; rw [ud_eq, up_eq]
      · rw [ud_ne (by omega), ud_ne (by omega), ud_ne (by omega), hd _ (by omega), up_ni e, kk 7 (by decide) (by decide)]; exact this.1
    · rw [ud_ne (by omega), ud_ne (by omega), ud_ne (by omega), ud_ne (by omega), hd _ (by omega)]; exact this.2
end
