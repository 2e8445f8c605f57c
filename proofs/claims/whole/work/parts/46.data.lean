set_option linter.unusedVariables false
set_option linter.unusedSimpArgs false
/-! ===== the reference's data: an array of 1824 ints at a place ===== -/
def ud (d : Int → Int) (i x : Int) : Int → Int := fun j => if j = i then x else d j
def dcell (d : Int → Int) : PC := .inl (0, (List.range 1824).map (fun n : Nat => d (n : Int)))
def sd (h : PH) (a : Nat) (d : Int → Int) : PH := h.set a (dcell d)
section
variable {h : PH} {a : Nat} {d : Int → Int}
theorem sd_at (ha : a < h.length) : (sd h a d)[a]? = some (dcell d) := by simp [sd, ha]
theorem sd_len : (sd h a d).length = h.length := by simp [sd]
theorem sd_out {b : Nat} (hb : b ≠ a) : (sd h a d)[b]? = h[b]? := by unfold sd; rw [List.getElem?_set, if_neg (Ne.symm hb)]
theorem sd_sd {d' : Int → Int} : sd (sd h a d) a d' = sd h a d' := by unfold sd; rw [List.set_set]
theorem md_ald {i : Int} (ha : a < h.length) (h0 : 0 ≤ i) (h1 : i < 1824) : ald 0 (sd h a d) a i = some (d i) := by
  unfold ald
  rw [sd_at ha]
  simp only [dcell]
  rw [if_pos (by simp; omega)]
  rw [List.getElem?_map, List.getElem?_range (by omega)]
  simp only [Option.map_some]
  rw [Int.toNat_of_nonneg h0]
theorem md_ast {i x : Int} (ha : a < h.length) (h0 : 0 ≤ i) (h1 : i < 1824) : ast 0 (sd h a d) a i x = some (sd h a (ud d i x)) := by
  unfold ast
  rw [sd_at ha]
  simp only [dcell, List.length_map, List.length_range]
  rw [if_pos (by simp; omega)]
  unfold sd
  rw [List.set_set]
  refine congrArg (fun l => some (h.set a (.inl (0, l)))) ?_
  apply List.ext_getElem?
  intro j
  by_cases hj : j < 1824
  · by_cases hij : i.toNat = j
    · subst hij
      simp [List.getElem?_set, hj, ud, Int.toNat_of_nonneg h0]
    · rw [List.getElem?_set, if_neg hij]
      simp [hj, ud]
      omega
  · simp [List.getElem?_set, hj]
end
/-! ===== the class's machine and the reference's data ===== -/
/-- row 19 of M is no cell of the class's machine: it keeps the codes -/
def Rel (M : MM) (d : Int → Int) : Prop :=
  (d 0 = M 11 0 ∧ d 1 = M 11 1 ∧ d 2 = M 11 2 ∧ d 3 = M 1 0 ∧ d 4 = M 1 1 ∧ d 5 = M 0 3 ∧ ∀ i : Int, (i = 6 ∨ i = 7 ∨ 324 ≤ i) → d i = M 19 i.toNat) ∧
  (∀ f : Nat, (f : Int) < M 1 1 → d (8 + f) = M 9 f) ∧
  (∀ t : Nat, (t : Int) < M 1 0 → d (16 + 8 * t) = M 3 t ∧ d (16 + 8 * t + 1) = M 4 t ∧ d (16 + 8 * t + 2) = M 5 t ∧ d (16 + 8 * t + 3) = M 6 t ∧ d (16 + 8 * t + 4) = M 2 t) ∧
  (∀ c : Nat, (c : Int) < M 11 0 → d (272 + 13 * c + 0) = M 14 c ∧ d (272 + 13 * c + 1) = M 16 c ∧ d (272 + 13 * c + 2) = M 17 c ∧ d (272 + 13 * c + 3) = M 18 c ∧ d (272 + 13 * c + 4) = M 13 c ∧ (∀ k : Nat, (k : Int) < M 13 c → d (272 + 13 * c + 5 + k) = M 12 (8 * c + k)) ∧ (0 ≤ M 14 c → d (16 + 8 * M 14 c + 5) = M 15 c))
/-- what a task waits for lies before it -/
def OkB (M : MM) : Prop := ∀ t : Nat, (t : Int) < M 1 0 → ∀ q : Nat, t ≤ q → q < 32 → tb (M 6 t) q = false
section
variable {h : PH} {a : Nat} {d : Int → Int} {M : MM}
theorem m_isFin (ha : a < h.length) (ok : OkT M) (r : Rel M d) {t : Nat} (ht : (t : Int) < M 1 0) : FX8_isFinished (sd h a d) a t = some (if unf M t then 0 else 1) := by
  obtain ⟨o1, o2, o3, o4⟩ := ok
  have h1 := o3 t (by omega)
  have h2 := (r.2.2.1 t ht).2.2.2.2
  unfold FX8_isFinished FX8_task JX8_isFinished_17
  simp (disch := omega) only [Option.bind_some, md_ald ha, h2, w32_eq]
  unfold unf
  by_cases c : M 2 t < 4
  · rw [if_pos c, if_pos (Or.inl trivial), if_pos (by simp; omega)]
  · rw [if_neg c, if_pos (Or.inr trivial), if_neg (by simp; omega)]
theorem m_isOpn (ha : a < h.length) (ok : OkT M) (r : Rel M d) {f : Nat} (hf : (f : Int) < M 1 1) : FX8_isOpened (sd h a d) a f = some (if opn M f then 1 else 0) := by
  have ok' := ok
  obtain ⟨o1, o2, o3, o4⟩ := ok
  have h9 := o4 f (by omega) hf
  have e9 := r.2.1 f hf
  obtain ⟨n, hn⟩ := Int.eq_ofNat_of_zero_le h9.1
  unfold FX8_isOpened
  have := lp_for (f := fun st : Int => LX8_isOpened_2 (sd h a d) a f st) (fun j st => st = (j : Int) ∧ cnt (unf M) j = 0) (fun q => Sum.elim (fun _ => opn M f = false) (fun _ => opn M f = true) q) (a := 0) (b := n) (s := 0) (by omega) (by omega) ⟨rfl, rfl⟩ (fun j st h1 h2 hI => ?_) (fun st hI => ?_)
  · obtain ⟨q, e1, e2⟩ := this
    rw [e1, Option.bind_some]
    rcases q with q | q
    · rw [show opn M f = false from e2]; rfl
    · rw [show opn M f = true from e2]; rfl
  · obtain ⟨rfl, hc⟩ := hI
    unfold LX8_isOpened_2
    simp (disch := omega) only [md_ald ha, Option.bind_some, e9, hn, w32_eq]
    rw [if_pos (by omega), m_isFin ha ok' r (by omega), Option.bind_some]
    by_cases u : unf M j = true
    · rw [if_pos u, if_pos (show w32 0 = 0 by decide)]
      refine Or.inl ⟨_, rfl, ?_⟩
      show opn M f = false
      unfold opn
      rw [decide_eq_false_iff_not, hn, Int.toNat_natCast, cnt_zero]
      intro q
      rw [q j h2] at u; cases u
    · rw [if_neg u, if_neg (show ¬ w32 1 = 0 by decide)]
      refine Or.inr ⟨_, rfl, rfl, ?_⟩
      unfold cnt
      rw [hc, if_neg u]
  · obtain ⟨rfl, hc⟩ := hI
    unfold LX8_isOpened_2
    simp (disch := omega) only [md_ald ha, Option.bind_some, e9, hn, w32_eq]
    rw [if_neg (by omega)]
    refine ⟨_, rfl, ?_⟩
    show opn M f = true
    unfold opn
    rw [decide_eq_true_iff, hn, Int.toNat_natCast]
    exact hc
theorem ctr_low (o1 : 0 ≤ M 1 0 ∧ M 1 0 ≤ 32) (ob : OkB M) {t : Nat} (ht : (t : Int) < M 1 0) : cnt (fun q => tb (M 6 t) q && (decide ((q : Int) < M 1 0) && unf M q)) 32 = cnt (fun q => tb (M 6 t) q && unf M q) t := by
  rw [show 32 = t + (32 - t) by omega, cnt_add]
  rw [show cnt (fun i => (fun q => tb (M 6 t) q && (decide ((q : Int) < M 1 0) && unf M q)) (t + i)) (32 - t) = 0 from cnt_zero.mpr (fun i hi => by
    dsimp only
    rw [ob t ht (t + i) (by omega) (by omega)]; rfl), Nat.add_zero]
  exact cnt_congr (fun i hi => by simp [show (i : Int) < M 1 0 by omega])
theorem m_ctr (ha : a < h.length) (ok : OkT M) (ob : OkB M) (r : Rel M d) {t : Nat} (ht : (t : Int) < M 1 0) : FX8_counterOf (sd h a d) a t = some (ctr M t : Int) := by
  have ok' := ok
  obtain ⟨o1, o2, o3, o4⟩ := ok
  obtain ⟨n, hn⟩ := Int.eq_ofNat_of_zero_le o2.1
  have e6 := (r.2.2.1 t ht).2.2.2.1
  obtain ⟨c0, hc0⟩ : ∃ c0 : Nat, c0 = cnt (fun q => tb (M 6 t) q && unf M q) t := ⟨_, rfl⟩
  have hct : ctr M t = c0 + cnt (fun f => decide (M 9 f ≤ t) && !opn M f) n := by unfold ctr; rw [ctr_low o1 ob ht, hc0, hn, Int.toNat_natCast]
  have hle := cnt_le (f := fun q => tb (M 6 t) q && unf M q) t
  rw [← hc0] at hle
  unfold FX8_counterOf
  have L1 := lp_det (f := fun st : Int × Int => LX8_counterOf_4 (sd h a d) a t st.1 st.2) (fun j => ((cnt (fun q => tb (M 6 t) q && unf M q) j : Int), (j : Int))) (a := 0) (b := t) (r := (c0 : Int)) (by omega) (by omega) (fun j h1 h2 => ?_) ?_
  · have L1 : lp (fun st : Int × Int => LX8_counterOf_4 (sd h a d) a t st.1 st.2) FU (0, 0) = some (c0 : Int) := L1
    have L2 := lp_det (f := fun st : Int × Int => LX8_counterOf_49 (sd h a d) a t st.1 st.2) (fun j => (((c0 + cnt (fun f => decide (M 9 f ≤ t) && !opn M f) j : Nat) : Int), (j : Int))) (a := 0) (b := n) (r := ((ctr M t : Nat) : Int)) (by omega) (by omega) (fun j h1 h2 => ?_) ?_
    · simp only [cnt, Nat.add_zero] at L2
      rw [show ((0 : Nat) : Int) = 0 from rfl] at L2
      rw [L1, Option.bind_some, L2]; rfl
    · have h9 := o4 j (by omega) (by omega)
      have e9 := r.2.1 j (by omega)
      unfold LX8_counterOf_49 JX8_counterOf_79 JX8_counterOf_80
      simp (disch := omega) only [md_ald ha, Option.bind_some, r.1.2.2.2.2.1, hn, e9, w32_eq]
      rw [if_pos (by omega), m_isOpn ha ok' r (by omega), Option.bind_some]
      simp only [cnt]
      by_cases c : (t : Int) < M 9 j
      · simp [c, show ¬ (M 9 j ≤ t) by omega]
      · by_cases ho : opn M j = true
        · simp [c, ho, show w32 1 = 1 from rfl]
        · simp [c, ho, show w32 0 = 0 from rfl, show M 9 j ≤ t by omega, Int.add_assoc]
    · unfold LX8_counterOf_49
      simp (disch := omega) only [md_ald ha, Option.bind_some, r.1.2.2.2.2.1, hn, w32_eq]
      rw [if_neg (by omega), hct]
  · unfold LX8_counterOf_4 JX8_counterOf_38 JX8_counterOf_39 FX8_task
    simp (disch := omega) only [md_ald ha, Option.bind_some, e6, w32_eq]
    rw [if_pos (by omega), shr_bit _ (by omega), m_isFin ha ok' r (by omega), Option.bind_some]
    simp only [cnt]
    by_cases b : tb (M 6 t) j = true
    · by_cases u : unf M j = true
      · simp [b, u, show w32 1 = 1 from rfl, show w32 0 = 0 from rfl]
      · simp [b, u, show w32 1 = 1 from rfl]
    · simp [b, show w32 0 = 0 from rfl]
  · unfold LX8_counterOf_4
    simp (disch := omega) only [w32_eq]
    rw [if_neg (by omega), hc0]
theorem m_fin (ha : a < h.length) (ok : OkT M) (r : Rel M d) : FX8_finishedOf (sd h a d) a = some (M 1 0 - cnt (unf M) (M 1 0).toNat) := by
  have ok' := ok
  obtain ⟨o1, o2, o3, o4⟩ := ok
  obtain ⟨n, hn⟩ := Int.eq_ofNat_of_zero_le o1.1
  unfold FX8_finishedOf
  have L1 := lp_det (f := fun st : Int × Int => LX8_finishedOf_4 (sd h a d) a st.1 st.2) (fun j => ((j : Int) - cnt (unf M) j, (j : Int))) (a := 0) (b := n) (r := (n : Int) - cnt (unf M) n) (by omega) (by omega) (fun j h1 h2 => ?_) ?_
  · have L1 : lp (fun st : Int × Int => LX8_finishedOf_4 (sd h a d) a st.1 st.2) FU (0, 0) = some ((n : Int) - cnt (unf M) n) := L1
    rw [L1, hn, Int.toNat_natCast]; rfl
  · unfold LX8_finishedOf_4 JX8_finishedOf_25
    simp (disch := omega) only [md_ald ha, Option.bind_some, r.1.2.2.2.1, hn, w32_eq]
    rw [if_pos (by omega), m_isFin ha ok' r (by omega), Option.bind_some]
    simp only [cnt]
    by_cases u : unf M j = true
    · simp [u, show w32 0 = 0 from rfl]; omega
    · simp [u, show w32 1 = 1 from rfl]; omega
  · unfold LX8_finishedOf_4
    simp (disch := omega) only [md_ald ha, Option.bind_some, r.1.2.2.2.1, hn, w32_eq]
    rw [if_neg (by omega)]
end
