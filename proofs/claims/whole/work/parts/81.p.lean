set_option linter.unusedVariables false
set_option linter.unusedSimpArgs false
/-! ===== the class: tokens ===== -/
abbrev XC : Type := MM × (Nat → MM) × (Int × Int × Int) × ((Nat → Int) × (Nat → Int) × (Nat → Int)) × ((Int → Int) × (Int → Int) × (Int → Int)) × (Nat → Int → Int) × Nat
/-- the world while the class reads: what changes is told -/
def CWd (X : XC) (h : PH) (S : MM) (rr tx sp : Nat → Int) : Prop := WS h X.1 S X.2.1 X.2.2.1.1 X.2.2.1.2.1 X.2.2.1.2.2 rr tx X.2.2.2.1.1 sp X.2.2.2.1.2.1 X.2.2.2.1.2.2 X.2.2.2.2.1.1 X.2.2.2.2.1.2.1 X.2.2.2.2.1.2.2 X.2.2.2.2.2.1 ∧ h.length = X.2.2.2.2.2.2
/-- the class's text is f, of n bytes -/
def TX (X : XC) (f : Nat → Int) (n : Nat) : Prop := n ≤ 900 ∧ (∀ i, i < 900 → byR (X.2.2.2.1.1 i) (f i)) ∧ ∀ i, i < 900 → 0 ≤ f i ∧ f i ≤ 255
def TOK (f : Nat → Int) (n : Nat) (tx : Nat → Int) (s : Nat) : Prop := tx 2 = n ∧ tx 3 = kd f n s ∧ tx 4 = s ∧ tx 5 = en f n s ∧ tx 6 = tvl f n s ∧ st f n s
section
variable {X : XC} {f : Nat → Int} {n : Nat} {h : PH} {S : MM} {rr tx sp : Nat → Int}
theorem cw_2 {x : Nat → Int} (w : CWd X h S rr tx sp) : CWd X (h.set 2 (c2 x)) S rr x sp := ⟨ws_2 w.1, by simpa using w.2⟩
theorem cw_1 {x : Nat → Int} (w : CWd X h S rr tx sp) : CWd X (h.set 1 (c1 x)) S x tx sp := ⟨ws_1 w.1, by simpa using w.2⟩
theorem cw_4 {x : Nat → Int} (w : CWd X h S rr tx sp) : CWd X (h.set 4 (c4 x)) S rr tx x := ⟨ws_4 w.1, by simpa using w.2⟩
theorem cw_S {N : MM} (w : CWd X h S rr tx sp) (z : FM h N) : CWd X (putM h 27 N) N rr tx sp := ⟨ws_S w.1 z, by rw [putM_len]; exact w.2⟩
theorem cw_e1 (w : CWd X h S rr tx sp) : h[1]? = some (c1 rr) := w_e1 w.1
theorem cw_e2 (w : CWd X h S rr tx sp) : h[2]? = some (c2 tx) := w_e2 w.1
theorem cw_e3 (w : CWd X h S rr tx sp) : h[3]? = some (c3 X.2.2.2.1.1) := w_e3 w.1
theorem cw_e4 (w : CWd X h S rr tx sp) : h[4]? = some (c4 sp) := w_e4 w.1
theorem cw_a27 (w : CWd X h S rr tx sp) : At h 27 S := w_a27 w.1
theorem cw_f27 (w : CWd X h S rr tx sp) : FM h S := w_f27 w.1
theorem by_eq {b x c : Int} (h : byR b x) (hc : 0 ≤ c ∧ c < 128) : (w32 b = w32 c ↔ x = c) := by
  obtain ⟨h1, h2⟩ := h
  rw [w32_eq (by omega) (by omega), w32_eq (by omega) (by omega), h2]
  split <;> omega
theorem by_lt {b x c : Int} (h : byR b x) (hc : 0 < c ∧ c < 128) : (w32 b < w32 c ↔ (x < c ∨ 128 ≤ x)) := by
  obtain ⟨h1, h2⟩ := h
  rw [w32_eq (by omega) (by omega), w32_eq (by omega) (by omega), h2]
  split <;> omega
theorem by_gt {b x c : Int} (h : byR b x) (hc : 0 < c ∧ c < 128) : (w32 c < w32 b ↔ (c < x ∧ x < 128)) := by
  obtain ⟨h1, h2⟩ := h
  rw [w32_eq (by omega) (by omega), w32_eq (by omega) (by omega), h2]
  split <;> omega
theorem by_nn {b x : Int} (h : byR b x) (hx : 0 ≤ x ∧ x < 128) : b = x := by
  obtain ⟨h1, h2⟩ := h
  split at h2 <;> omega
theorem c_skip (w : CWd X h S rr tx sp) (t : TX X f n) {b : Nat} (h2 : tx 2 = n) (h4 : tx 4 = b) (hb : b ≤ n) : ∃ h', lp (fun st : PH => LX5_advance_8 2 st) FU h = some h' ∧ CWd X h' S rr (upf tx 4 (skS f n b : Nat)) sp := by
  obtain ⟨t1, t2, t3⟩ := t
  refine lp_for (f := fun st : PH => LX5_advance_8 2 st) (fun i g => CWd X g S rr (upf tx 4 (i : Nat)) sp ∧ ∀ j, b ≤ j → j < i → isSp f j = true) _ (a := b) (b := n) (s := h) hb (by omega) ⟨by rw [upf_same h4]; exact w, fun j h1 h2 => by omega⟩ (fun i g h1 h2' hI => ?_) (fun g hI => ?_)
  · obtain ⟨w1, hj⟩ := hI
    have hby := t2 i (by omega)
    unfold LX5_advance_8
    rw [z2_i4 (cw_e2 w1), Option.bind_some, z2_i2 (cw_e2 w1), Option.bind_some, upf_eq, upf_ne (by decide), h2, w32_nat (by omega), w32_nat (by omega), if_pos (by omega), z2_r0 (cw_e2 w1), Option.bind_some, Option.bind_some, z3_l (cw_e3 w1) (by omega) (by omega), Option.bind_some, Int.toNat_natCast]
    by_cases c : f i = 32
    · rw [if_pos ((by_eq hby (by omega)).mpr c), Option.bind_some, z2_w4 (cw_e2 w1), Option.bind_some, upf_up]
      refine Or.inr ⟨_, rfl, ?_, fun j h3 h4 => ?_⟩
      · rw [show (i : Int) + 1 = ((i + 1 : Nat) : Int) by omega]
        have := cw_2 (x := upf tx 4 ((i + 1 : Nat) : Int)) w1
        exact this
      · by_cases e : j = i
        · subst e; unfold isSp; exact decide_eq_true c
        · exact hj j h3 (by omega)
    · rw [if_neg (fun q => c ((by_eq hby (by omega)).mp q))]
      refine Or.inl ⟨_, rfl, ?_⟩
      have : skS f n b = i := rE_eq h1 (Or.inl (by omega)) (fun j h3 h4 => ⟨by omega, hj j h3 h4⟩) (fun q => c (by have := q.2; unfold isSp at this; exact of_decide_eq_true this))
      rw [this]; exact w1
  · obtain ⟨w1, hj⟩ := hI
    unfold LX5_advance_8
    rw [z2_i4 (cw_e2 w1), Option.bind_some, z2_i2 (cw_e2 w1), Option.bind_some, upf_eq, upf_ne (by decide), h2, if_neg (Int.lt_irrefl _)]
    refine ⟨_, rfl, ?_⟩
    have : skS f n b = n := rE_eq hb (Or.inl (by omega)) (fun j h3 h4 => ⟨by omega, hj j h3 h4⟩) (fun q => by omega)
    rw [this]; exact w1
theorem c_dig (w : CWd X h S rr tx sp) (t : TX X f n) {s : Nat} (h2 : tx 2 = n) (h5 : tx 5 = s) (h6 : tx 6 = 0) (hs : s ≤ n) : ∃ h', lp (fun st : PH => LX5_advance_59 2 st) FU h = some h' ∧ CWd X h' S rr (upf (upf tx 5 (rE (isDg f) n s : Nat)) 6 (tvl f n s)) sp := by
  obtain ⟨t1, t2, t3⟩ := t
  have fin : ∀ i, s ≤ i → i ≤ n → (∀ j, s ≤ j → j < i → isDg f j = true) → ¬ (i < n ∧ isDg f i = true) → rE (isDg f) n s = i ∧ tvl f n s = nv f s (i - s) := by
    intro i h1 h2 h3 h4
    have : rE (isDg f) n s = i := rE_eq h1 (Or.inl h2) (fun j h5 h6 => ⟨by omega, h3 j h5 h6⟩) h4
    refine ⟨this, ?_⟩
    unfold tvl
    rw [this]
  refine lp_for (f := fun st : PH => LX5_advance_59 2 st) (fun i g => CWd X g S rr (upf (upf tx 5 (i : Nat)) 6 (nv f s (i - s))) sp ∧ ∀ j, s ≤ j → j < i → isDg f j = true) _ (a := s) (b := n) (s := h) hs (by omega) ⟨by rw [Nat.sub_self]; rw [upf_same h5, upf_same (by rw [h6]; rfl)]; exact w, fun j h1 h2 => by omega⟩ (fun i g h1 h2' hI => ?_) (fun g hI => ?_)
  · obtain ⟨w1, hj⟩ := hI
    have hby := t2 i (by omega)
    have hf := t3 i (by omega)
    unfold LX5_advance_59 JX5_advance_131
    rw [z2_i5 (cw_e2 w1), Option.bind_some, z2_i2 (cw_e2 w1), Option.bind_some, upf_ne (show 5 ≠ 6 by decide), upf_eq, upf_ne (show 2 ≠ 6 by decide), upf_ne (show 2 ≠ 5 by decide), h2, w32_nat (by omega), w32_nat (by omega), if_pos (by omega), z2_r0 (cw_e2 w1), Option.bind_some, Option.bind_some, z3_l (cw_e3 w1) (by omega) (by omega), Option.bind_some, Int.toNat_natCast]
    by_cases c : 48 ≤ f i ∧ f i ≤ 57
    · have hd : isDg f i = true := decide_eq_true c
      have hr : i + 1 ≤ rE (isDg f) n s := by
        have a0 := rE_ge (P := isDg f) (n := n) (p := s)
        rcases Nat.lt_or_ge i (rE (isDg f) n s) with q | q
        · exact q
        · have a1 := rE_end (P := isDg f) (n := n) (p := s)
          exfalso
          rcases Nat.lt_or_eq_of_le q with q2 | q2
          · exact a1 ⟨by omega, hj _ a0 q2⟩
          · rw [q2] at a1; exact a1 ⟨h2', hd⟩
      have hv := nv_nn (f := f) (n := n) (s := s) t3 t1 (k := i - s) (by omega)
      have hb := by_nn hby (by omega)
      rw [if_neg (fun q => by have := (by_lt hby (by omega)).mp q; omega), Option.bind_some, Option.bind_some, z3_l (cw_e3 w1) (by omega) (by omega), Option.bind_some, Int.toNat_natCast, if_neg (fun q => by have := (by_gt hby (by omega)).mp q; omega), z2_i6 (cw_e2 w1), Option.bind_some, upf_eq, show w32 1000000 = 1000000 from rfl, w32_eq (by omega) (by omega)]
      have hns : i + 1 - s = (i - s) + 1 := by omega
      have hpl : s + (i - s) = i := by omega
      by_cases c2 : nv f s (i - s) < 1000000
      · rw [if_pos c2, Option.bind_some, Option.bind_some, Option.bind_some, z3_l (cw_e3 w1) (by omega) (by omega), Option.bind_some, Int.toNat_natCast, hb, z2_w6 (cw_e2 w1), Option.bind_some, upf_up]
        have w2 := cw_2 (x := upf (upf tx 5 (i : Nat)) 6 (10 * nv f s (i - s) + (f i - 48))) w1
        rw [z2_i5 (cw_e2 w2), Option.bind_some, z2_w5 (cw_e2 w2), Option.bind_some, upf_ne (show 5 ≠ 6 by decide), upf_eq]
        refine Or.inr ⟨_, rfl, ?_, fun j h3 h4 => ?_⟩
        · have w3 := cw_2 (x := upf (upf tx 5 ((i + 1 : Nat) : Int)) 6 (nv f s (i + 1 - s))) w2
          rw [show upf (upf (upf tx 5 (i : Nat)) 6 (10 * nv f s (i - s) + (f i - 48))) 5 ((i : Int) + 1) = upf (upf tx 5 ((i + 1 : Nat) : Int)) 6 (nv f s (i + 1 - s)) by
            rw [hns]
            rw [show nv f s (i - s + 1) = 10 * nv f s (i - s) + (f i - 48) by rw [nv, if_pos c2, hpl]]
            funext q
            unfold upf
            by_cases q5 : q = 5
            · rw [if_pos q5, if_neg (by omega), if_pos q5]; omega
            · rw [if_neg q5]
              by_cases q6 : q = 6
              · rw [if_pos q6, if_pos q6]
              · rw [if_neg q6, if_neg q6, if_neg q5, if_neg q5]]
          exact w3
        · by_cases e : j = i
          · subst e; exact hd
          · exact hj j h3 (by omega)
      · rw [if_neg c2, Option.bind_some, z2_w5 (cw_e2 w1), Option.bind_some]
        refine Or.inr ⟨_, rfl, ?_, fun j h3 h4 => ?_⟩
        · have w3 := cw_2 (x := upf (upf tx 5 ((i + 1 : Nat) : Int)) 6 (nv f s (i + 1 - s))) w1
          rw [show upf (upf (upf tx 5 (i : Nat)) 6 (nv f s (i - s))) 5 ((i : Int) + 1) = upf (upf tx 5 ((i + 1 : Nat) : Int)) 6 (nv f s (i + 1 - s)) by
            rw [hns]
            rw [show nv f s (i - s + 1) = nv f s (i - s) by rw [nv, if_neg c2]]
            funext q
            unfold upf
            by_cases q5 : q = 5
            · rw [if_pos q5, if_neg (by omega), if_pos q5]; omega
            · rw [if_neg q5]
              by_cases q6 : q = 6
              · rw [if_pos q6, if_pos q6]
              · rw [if_neg q6, if_neg q6, if_neg q5, if_neg q5]]
          exact w3
        · by_cases e : j = i
          · subst e; exact hd
          · exact hj j h3 (by omega)
    · have hd : ¬ (i < n ∧ isDg f i = true) := fun q => c (of_decide_eq_true q.2)
      obtain ⟨e1, e2⟩ := fin i h1 (by omega) hj hd
      refine Or.inl ⟨g, ?_, by rw [e1, e2]; exact w1⟩
      by_cases c2 : f i < 48 ∨ 128 ≤ f i
      · rw [if_pos ((by_lt hby (by omega)).mpr c2)]
      · rw [if_neg (fun q => c2 ((by_lt hby (by omega)).mp q)), Option.bind_some, Option.bind_some, z3_l (cw_e3 w1) (by omega) (by omega), Option.bind_some, Int.toNat_natCast, if_pos ((by_gt hby (by omega)).mpr (by omega))]
  · obtain ⟨w1, hj⟩ := hI
    obtain ⟨e1, e2⟩ := fin n hs (by omega) hj (fun q => by omega)
    unfold LX5_advance_59
    rw [z2_i5 (cw_e2 w1), Option.bind_some, z2_i2 (cw_e2 w1), Option.bind_some, upf_ne (show 5 ≠ 6 by decide), upf_eq, upf_ne (show 2 ≠ 6 by decide), upf_ne (show 2 ≠ 5 by decide), h2, if_neg (Int.lt_irrefl _)]
    exact ⟨_, rfl, by rw [e1, e2]; exact w1⟩
theorem c_let (w : CWd X h S rr tx sp) (t : TX X f n) {s : Nat} (h2 : tx 2 = n) (h5 : tx 5 = s) (hs : s ≤ n) : ∃ h', lp (fun st : PH => LX5_advance_161 2 st) FU h = some h' ∧ CWd X h' S rr (upf tx 5 (rE (isLt f) n s : Nat)) sp := by
  obtain ⟨t1, t2, t3⟩ := t
  refine lp_for (f := fun st : PH => LX5_advance_161 2 st) (fun i g => CWd X g S rr (upf tx 5 (i : Nat)) sp ∧ ∀ j, s ≤ j → j < i → isLt f j = true) _ (a := s) (b := n) (s := h) hs (by omega) ⟨by rw [upf_same h5]; exact w, fun j h1 h2 => by omega⟩ (fun i g h1 h2' hI => ?_) (fun g hI => ?_)
  · obtain ⟨w1, hj⟩ := hI
    have hby := t2 i (by omega)
    have hf := t3 i (by omega)
    unfold LX5_advance_161
    rw [z2_i5 (cw_e2 w1), Option.bind_some, z2_i2 (cw_e2 w1), Option.bind_some, upf_eq, upf_ne (show 2 ≠ 5 by decide), h2, w32_nat (by omega), w32_nat (by omega), if_pos (by omega), z2_r0 (cw_e2 w1), Option.bind_some, Option.bind_some, z3_l (cw_e3 w1) (by omega) (by omega), Option.bind_some, Int.toNat_natCast]
    by_cases c : 97 ≤ f i ∧ f i ≤ 122
    · have hd : isLt f i = true := decide_eq_true c
      rw [if_neg (fun q => by have := (by_lt hby (by omega)).mp q; omega), Option.bind_some, Option.bind_some, z3_l (cw_e3 w1) (by omega) (by omega), Option.bind_some, Int.toNat_natCast, if_neg (fun q => by have := (by_gt hby (by omega)).mp q; omega), Option.bind_some, z2_w5 (cw_e2 w1), Option.bind_some, upf_up]
      refine Or.inr ⟨_, rfl, ?_, fun j h3 h4 => ?_⟩
      · rw [show (i : Int) + 1 = ((i + 1 : Nat) : Int) by omega]
        have := cw_2 (x := upf tx 5 ((i + 1 : Nat) : Int)) w1
        exact this
      · by_cases e : j = i
        · subst e; exact hd
        · exact hj j h3 (by omega)
    · have hd : ¬ (i < n ∧ isLt f i = true) := fun q => c (of_decide_eq_true q.2)
      have e1 : rE (isLt f) n s = i := rE_eq h1 (Or.inl (by omega)) (fun j h5 h6 => ⟨by omega, hj j h5 h6⟩) hd
      refine Or.inl ⟨g, ?_, by rw [e1]; exact w1⟩
      by_cases c2 : f i < 97 ∨ 128 ≤ f i
      · rw [if_pos ((by_lt hby (by omega)).mpr c2)]
      · rw [if_neg (fun q => c2 ((by_lt hby (by omega)).mp q)), Option.bind_some, Option.bind_some, z3_l (cw_e3 w1) (by omega) (by omega), Option.bind_some, Int.toNat_natCast, if_pos ((by_gt hby (by omega)).mpr (by omega))]
  · obtain ⟨w1, hj⟩ := hI
    have e1 : rE (isLt f) n s = n := rE_eq hs (Or.inl (by omega)) (fun j h5 h6 => ⟨by omega, hj j h5 h6⟩) (fun q => by omega)
    unfold LX5_advance_161
    rw [z2_i5 (cw_e2 w1), Option.bind_some, z2_i2 (cw_e2 w1), Option.bind_some, upf_eq, upf_ne (show 2 ≠ 5 by decide), h2, if_neg (Int.lt_irrefl _)]
    exact ⟨_, rfl, by rw [e1]; exact w1⟩
theorem c_adv (w : CWd X h S rr tx sp) (t : TX X f n) {b : Nat} (h2 : tx 2 = n) (h5 : tx 5 = b) (hb : b ≤ n) : ∃ h' tx', FX5_advance h 2 = some h' ∧ CWd X h' S rr tx' sp ∧ TOK f n tx' (skS f n b) ∧ tx' 1 = tx 1 := by
  have hn := t.1
  have hst : st f n (skS f n b) := sk_st hb
  unfold FX5_advance JX5_advance_46
  rw [z2_O (cw_e2 w), Option.bind_some, z2_i5 (cw_e2 w), Option.bind_some, z2_w4 (cw_e2 w), Option.bind_some, h5]
  have w1 := cw_2 (x := upf tx 4 (b : Nat)) w
  obtain ⟨g1, e1, w2⟩ := c_skip w1 t (b := b) (by rw [upf_ne (by decide)]; exact h2) upf_eq hb
  rw [e1, Option.bind_some]
  rw [upf_up] at w2
  generalize skS f n b = s at *
  have hs := hst.1
  rw [z2_i4 (cw_e2 w2), Option.bind_some, upf_eq, z2_w5 (cw_e2 w2), Option.bind_some]
  have w3 := cw_2 (x := upf (upf tx 4 (s : Nat)) 5 (s : Nat)) w2
  rw [z2_w6 (cw_e2 w3), Option.bind_some]
  have w4 := cw_2 (x := upf (upf (upf tx 4 (s : Nat)) 5 (s : Nat)) 6 0) w3
  obtain ⟨g2, e2, w5⟩ := c_dig w4 t (s := s) (by rw [upf_ne (by decide), upf_ne (by decide), upf_ne (by decide)]; exact h2) (by rw [upf_ne (by decide), upf_eq]) upf_eq hs
  rw [e2, Option.bind_some]
  generalize htx : upf (upf (upf (upf (upf tx 4 (s : Nat)) 5 (s : Nat)) 6 0) 5 (rE (isDg f) n s : Nat)) 6 (tvl f n s) = ty at w5
  have y1 : ty 1 = tx 1 := by rw [← htx]; simp [upf]
  have y2 : ty 2 = n := by rw [← htx]; simp [upf]; exact h2
  have y4 : ty 4 = s := by rw [← htx]; simp [upf]
  have y5 : ty 5 = (rE (isDg f) n s : Nat) := by rw [← htx]; simp [upf]
  have y6 : ty 6 = tvl f n s := by rw [← htx]; simp [upf]
  have hdl : rE (isDg f) n s ≤ n := rE_le hs
  unfold JX5_advance_144
  rw [z2_i5 (cw_e2 w5), Option.bind_some, z2_i4 (cw_e2 w5), Option.bind_some, y4, y5, w32_nat (by omega), w32_nat (by omega)]
  by_cases c : s < n ∧ isDg f s = true
  · have hgt : s < rE (isDg f) n s := by
      rw [rE_step c]
      have := rE_ge (P := isDg f) (n := n) (p := s + 1)
      omega
    rw [if_pos (by omega), z2_w3 (cw_e2 w5), Option.bind_some]
    have w6 := cw_2 (x := upf ty 3 1) w5
    refine ⟨_, _, rfl, w6, ⟨?_, ?_, ?_, ?_, ?_, hst⟩, ?_⟩
    · rw [upf_ne (by decide)]; exact y2
    · rw [upf_eq]; unfold kd; rw [if_pos c.1, if_pos c.2]; rfl
    · rw [upf_ne (by decide)]; exact y4
    · rw [upf_ne (by decide), y5]; unfold en; rw [if_pos c.1, if_pos c.2]
    · rw [upf_ne (by decide)]; exact y6
    · rw [upf_ne (by decide)]; exact y1
  · have hge : rE (isDg f) n s = s := rE_stop c
    rw [if_neg (by omega)]
    rw [hge] at y5
    obtain ⟨g3, e3, w6⟩ := c_let w5 t (s := s) y2 y5 hs
    rw [e3, Option.bind_some]
    unfold JX5_advance_213 JX5_advance_266
    rw [z2_i5 (cw_e2 w6), Option.bind_some, z2_i4 (cw_e2 w6), Option.bind_some, upf_eq, upf_ne (by decide), y4]
    have hll : rE (isLt f) n s ≤ n := rE_le hs
    rw [w32_nat (by omega), w32_nat (by omega)]
    by_cases c2 : s < n ∧ isLt f s = true
    · have hgt : s < rE (isLt f) n s := by
        rw [rE_step c2]
        have := rE_ge (P := isLt f) (n := n) (p := s + 1)
        omega
      rw [if_pos (by omega), z2_w3 (cw_e2 w6), Option.bind_some]
      have w7 := cw_2 (x := upf (upf ty 5 (rE (isLt f) n s : Nat)) 3 2) w6
      have hnd : ¬ isDg f s = true := fun q => c ⟨c2.1, q⟩
      refine ⟨_, _, rfl, w7, ⟨?_, ?_, ?_, ?_, ?_, hst⟩, ?_⟩
      · rw [upf_ne (by decide), upf_ne (by decide)]; exact y2
      · rw [upf_eq]; unfold kd; rw [if_pos c2.1, if_neg hnd, if_pos c2.2]; rfl
      · rw [upf_ne (by decide), upf_ne (by decide)]; exact y4
      · rw [upf_ne (by decide), upf_eq]; unfold en; rw [if_pos c2.1, if_neg hnd, if_pos c2.2]
      · rw [upf_ne (by decide), upf_ne (by decide)]; exact y6
      · rw [upf_ne (by decide), upf_ne (by decide)]; exact y1
    · have hge2 : rE (isLt f) n s = s := rE_stop c2
      rw [hge2] at w6 ⊢
      rw [if_neg (by omega), Option.bind_some, z2_i2 (cw_e2 w6), Option.bind_some, upf_ne (by decide), y2, w32_nat (by omega), w32_nat (by omega)]
      by_cases c3 : s < n
      · have hnd : ¬ isDg f s = true := fun q => c ⟨c3, q⟩
        have hnl : ¬ isLt f s = true := fun q => c2 ⟨c3, q⟩
        rw [if_pos (by omega), z2_w3 (cw_e2 w6), Option.bind_some]
        have w7 := cw_2 (x := upf (upf ty 5 (s : Nat)) 3 3) w6
        rw [z2_i4 (cw_e2 w7), Option.bind_some, z2_w5 (cw_e2 w7), Option.bind_some, upf_ne (show 4 ≠ 3 by decide), upf_ne (show 4 ≠ 5 by decide), y4]
        have w8 := cw_2 (x := upf (upf (upf ty 5 (s : Nat)) 3 3) 5 ((s : Int) + 1)) w7
        refine ⟨_, _, rfl, w8, ⟨?_, ?_, ?_, ?_, ?_, hst⟩, ?_⟩
        · rw [upf_ne (by decide), upf_ne (by decide), upf_ne (by decide)]; exact y2
        · rw [upf_ne (by decide), upf_eq]; unfold kd; rw [if_pos c3, if_neg hnd, if_neg hnl]; rfl
        · rw [upf_ne (by decide), upf_ne (by decide), upf_ne (by decide)]; exact y4
        · rw [upf_eq]; unfold en; rw [if_pos c3, if_neg hnd, if_neg hnl]; omega
        · rw [upf_ne (by decide), upf_ne (by decide), upf_ne (by decide)]; exact y6
        · rw [upf_ne (by decide), upf_ne (by decide), upf_ne (by decide)]; exact y1
      · rw [if_neg (by omega), z2_w3 (cw_e2 w6), Option.bind_some]
        have w7 := cw_2 (x := upf (upf ty 5 (s : Nat)) 3 0) w6
        refine ⟨_, _, rfl, w7, ⟨?_, ?_, ?_, ?_, ?_, hst⟩, ?_⟩
        · rw [upf_ne (by decide), upf_ne (by decide)]; exact y2
        · rw [upf_eq]; unfold kd; rw [if_neg c3]; rfl
        · rw [upf_ne (by decide), upf_ne (by decide)]; exact y4
        · rw [upf_ne (by decide), upf_eq]; unfold en; rw [if_neg c3]
        · rw [upf_ne (by decide), upf_ne (by decide)]; exact y6
        · rw [upf_ne (by decide), upf_ne (by decide)]; exact y1
end
