set_option linter.unusedVariables false
set_option linter.unusedSimpArgs false
/-! ===== the class: words, marks, numbers ===== -/
def wch (w : Nat) : List Int := strB.getD w []
def wln (w : Nat) : Nat := (wch w).length
def wmt (f : Nat → Int) (s w : Nat) : Nat → Bool
  | 0 => true
  | k + 1 => wmt f s w k && decide (f (s + k) = (wch w).getD k 0)
/-- the token at s is the word w -/
def wd (f : Nat → Int) (n s w : Nat) : Bool := decide (kd f n s = 2 ∧ en f n s = s + wln w) && wmt f s w (wln w)
theorem wmt_iff {f : Nat → Int} {s w : Nat} : ∀ {k : Nat}, (wmt f s w k = true ↔ ∀ i, i < k → f (s + i) = (wch w).getD i 0) := by
  intro k
  induction k with
  | zero => unfold wmt; simp
  | succ k ih =>
    unfold wmt
    rw [Bool.and_eq_true, ih, decide_eq_true_iff]
    constructor
    · rintro ⟨h1, h2⟩ i hi
      by_cases e : i = k
      · subst e; exact h2
      · exact h1 i (by omega)
    · intro h; exact ⟨fun i hi => h i (by omega), h k (by omega)⟩
theorem wch_in : ∀ w : Nat, w < 9 → ∀ i : Nat, i < 9 → i < wln w → 97 ≤ (wch w).getD i 0 ∧ (wch w).getD i 0 ≤ 122 := by decide +kernel
theorem wln_in : ∀ w : Nat, w < 9 → 4 ≤ wln w ∧ wln w ≤ 8 := by decide +kernel
theorem sln_eq {w : Nat} (hw : w < 9) : sln w = some (wln w : Int) := by unfold sln; rw [if_pos hw]; rfl
theorem schr_eq {w i : Nat} (hw : w < 9) (hi : i < wln w) : schr w (i : Int) = some ((wch w).getD i 0) := by
  unfold schr
  rw [if_pos ⟨hw, by omega⟩, Int.toNat_natCast]
  show (wch w)[i]? = _
  rw [List.getD_eq_getElem?_getD, List.getElem?_eq_getElem hi]
  rfl
theorem kd_le {f : Nat → Int} {n s : Nat} : kd f n s ≤ 3 := by
  unfold kd
  split
  · split
    · omega
    · split <;> omega
  · omega
section
variable {X : XC} {f : Nat → Int} {n : Nat} {h : PH} {S : MM} {rr tx sp : Nat → Int}
theorem c_mark (w : CWd X h S rr tx sp) (t : TX X f n) {s : Nat} (k : TOK f n tx s) {m : Int} (hm : 0 ≤ m ∧ m < 128) : FX5_isMark h 2 m = some (if kd f n s = 3 ∧ f s = m then 1 else 0) := by
  obtain ⟨k2, k3, k4, k5, k6, ks⟩ := k
  obtain ⟨t1, t2, t3⟩ := t
  have hs := ks.1
  have hkd := kd_le (f := f) (n := n) (s := s)
  unfold FX5_isMark JX5_isMark_25 JX5_isMark_26
  rw [z2_O (cw_e2 w), Option.bind_some, z2_i3 (cw_e2 w), Option.bind_some, k3, w32_nat (by omega), show w32 3 = 3 from rfl]
  by_cases c : kd f n s = 3
  · have hlt : s < n := by
      rcases Nat.lt_or_ge s n with q | q
      · exact q
      · unfold kd at c; rw [if_neg (by omega)] at c; omega
    have hb := t2 s (by omega)
    rw [if_pos (by omega), z2_r0 (cw_e2 w), Option.bind_some, z2_i4 (cw_e2 w), Option.bind_some, k4, z3_l (cw_e3 w) (by omega) (by omega), Option.bind_some, Int.toNat_natCast]
    by_cases c2 : f s = m
    · rw [if_pos ((by_eq hb hm).mpr c2), if_pos (Or.inr rfl), if_pos ⟨c, c2⟩]
    · rw [if_neg (fun q => c2 ((by_eq hb hm).mp q)), if_pos (Or.inl rfl), if_neg (fun q => c2 q.2)]
  · rw [if_neg (by omega), if_pos (Or.inl rfl), if_neg (fun q => c q.1)]
theorem c_word (w : CWd X h S rr tx sp) (t : TX X f n) {s : Nat} (k : TOK f n tx s) {v : Nat} (hv : v < 9) : FX5_isWord h 2 v = some (if wd f n s v then 1 else 0) := by
  obtain ⟨k2, k3, k4, k5, k6, ks⟩ := k
  obtain ⟨t1, t2, t3⟩ := t
  have hs := ks.1
  have hl := wln_in v hv
  have hen := en_le (f := f) (n := n) hs
  have hge : s ≤ en f n s := by
    unfold en
    split
    · split
      · exact rE_ge
      · split
        · exact rE_ge
        · omega
    · omega
  have hkd := kd_le (f := f) (n := n) (s := s)
  unfold FX5_isWord JX5_isWord_24
  rw [z2_O (cw_e2 w), Option.bind_some, z2_i3 (cw_e2 w), Option.bind_some, k3, w32_nat (by omega), show w32 2 = 2 from rfl]
  unfold wd
  by_cases c : kd f n s = 2
  · rw [if_pos (by omega), z2_i5 (cw_e2 w), Option.bind_some, z2_i4 (cw_e2 w), Option.bind_some, sln_eq hv, Option.bind_some, k4, k5, w32_eq (by omega) (by omega), w32_nat (by omega)]
    by_cases c2 : en f n s = s + wln v
    · rw [if_pos (by omega)]
      have := lp_for (f := fun st : Int => LX5_isWord_28 h 2 v st) (fun i st => st = (i : Int) ∧ wmt f s v i = true) (fun q => Sum.elim (fun _ => wmt f s v (wln v) = false) (fun _ => wmt f s v (wln v) = true) q) (a := 0) (b := wln v) (s := 0) (by omega) (by omega) ⟨rfl, rfl⟩ (fun i st h1 h2 hI => ?_) (fun st hI => ?_)
      · obtain ⟨q, e1, e2⟩ := this
        rw [e1, Option.bind_some]
        rcases q with q | q
        · have e2 : wmt f s v (wln v) = false := e2
          rw [e2]; simp
        · have e2 : wmt f s v (wln v) = true := e2
          rw [e2]; simp [c, c2]
      · obtain ⟨rfl, hm⟩ := hI
        have hb := t2 (s + i) (by omega)
        have hw := wch_in v hv i (by omega) h2
        unfold LX5_isWord_28
        rw [sln_eq hv, Option.bind_some, w32_nat (by omega), w32_nat (by omega), if_pos (by omega), z2_r0 (cw_e2 w), Option.bind_some, z2_i4 (cw_e2 w), Option.bind_some, k4, z3_l (cw_e3 w) (by omega) (by omega), Option.bind_some, schr_eq hv h2, Option.bind_some, show ((s : Int) + i).toNat = s + i by omega]
        by_cases c3 : f (s + i) = (wch v).getD i 0
        · rw [if_pos ((by_eq hb (by omega)).mpr c3)]
          refine Or.inr ⟨_, rfl, rfl, ?_⟩
          unfold wmt
          rw [hm, Bool.true_and]; exact decide_eq_true c3
        · rw [if_neg (fun q => c3 ((by_eq hb (by omega)).mp q))]
          refine Or.inl ⟨_, rfl, ?_⟩
          show wmt f s v (wln v) = false
          rw [← Bool.not_eq_true, wmt_iff]
          intro q
          exact c3 (q i h2)
      · obtain ⟨rfl, hm⟩ := hI
        unfold LX5_isWord_28
        rw [sln_eq hv, Option.bind_some, if_neg (Int.lt_irrefl _)]
        exact ⟨_, rfl, hm⟩
    · rw [if_neg (by omega)]
      simp [c2]
  · rw [if_neg (by omega)]
    simp [c]
theorem c_fail (w : CWd X h S rr tx sp) {s c : Int} (h4 : tx 4 = s) : FX4_fail h 1 c = some (0, (h.set 1 (c1 (upf rr 1 c))).set 1 (c1 (upf (upf rr 1 c) 2 s))) ∧ CWd X ((h.set 1 (c1 (upf rr 1 c))).set 1 (c1 (upf (upf rr 1 c) 2 s))) S (upf (upf rr 1 c) 2 s) tx sp := by
  have w1 := cw_1 (x := upf rr 1 c) w
  have w2 := cw_1 (x := upf (upf rr 1 c) 2 s) w1
  refine ⟨?_, w2⟩
  unfold FX4_fail
  rw [z1_O (cw_e1 w), Option.bind_some, z1_w1 (cw_e1 w), Option.bind_some, z1_r0 (cw_e1 w1), Option.bind_some, z2_i4 (cw_e2 w1), Option.bind_some, h4, z1_w2 (cw_e1 w1), Option.bind_some]
/-- the class has failed -/
def CF (X : XC) (h : PH) (t1 : Int) (q : Int × Nat) : Prop := ∃ S rr tx sp, CWd X h S rr tx sp ∧ IvM S ∧ rr 1 = q.1 ∧ rr 2 = q.2 ∧ tx 1 = t1 ∧ 0 ≤ rr 4 ∧ rr 4 ≤ 900
theorem c_failF (w : CWd X h S rr tx sp) (iv : IvM S) (h9 : 0 ≤ rr 4 ∧ rr 4 ≤ 900) {s : Nat} {c : Int} (h4 : tx 4 = s) : ∃ h', FX4_fail h 1 c = some (0, h') ∧ CF X h' (tx 1) (c, s) := by
  obtain ⟨e, w1⟩ := c_fail (c := c) w h4
  exact ⟨_, e, S, _, tx, sp, w1, iv, by rw [upf_ne (by decide), upf_eq], upf_eq, rfl, by rw [upf_ne (by decide), upf_ne (by decide)]; exact h9⟩
/-- a number is taken: the answer is told -/
def sNum (f : Nat → Int) (n : Nat) (lo hi : Int) (s : Nat) : (Int × Nat) ⊕ (Int × Nat) :=
  if kd f n s = 1 then (if tvl f n s < lo ∨ hi < tvl f n s then .inl (-3, s) else .inr (tvl f n s, nx f n s)) else .inl (-2, s)
theorem c_num (w : CWd X h S rr tx sp) (t : TX X f n) (iv : IvM S) (h9 : 0 ≤ rr 4 ∧ rr 4 ≤ 900) {s : Nat} (k : TOK f n tx s) {lo hi : Int} (hl : -2147483648 ≤ lo ∧ lo < 2147483648) (hh : -2147483648 ≤ hi ∧ hi < 2147483648) :
    (∃ q h', sNum f n lo hi s = .inl q ∧ FX4_takeNumber h 1 lo hi = some (-1, h') ∧ CF X h' (tx 1) q) ∨ (∃ h' tx', sNum f n lo hi s = .inr (tvl f n s, nx f n s) ∧ FX4_takeNumber h 1 lo hi = some (tvl f n s, h') ∧ CWd X h' S rr tx' sp ∧ TOK f n tx' (nx f n s) ∧ tx' 1 = tx 1 ∧ s < n ∧ lo ≤ tvl f n s ∧ tvl f n s ≤ hi) := by
  have k' := k
  obtain ⟨k2, k3, k4, k5, k6, ks⟩ := k
  have hv := tvl_in (f := f) (n := n) (s := s) t.2.2 t.1
  have hkd := kd_le (f := f) (n := n) (s := s)
  unfold sNum FX4_takeNumber JX4_takeNumber_38
  rw [z1_O (cw_e1 w), Option.bind_some, z1_r0 (cw_e1 w), Option.bind_some, z2_i6 (cw_e2 w), Option.bind_some, Option.bind_some, z2_i3 (cw_e2 w), Option.bind_some, k3, k6, w32_nat (by omega), show w32 1 = 1 from rfl, w32_eq (x := tvl f n s) (by omega) (by omega), w32_eq hl.1 hl.2, w32_eq hh.1 hh.2]
  by_cases c : kd f n s = 1
  · have hlt : s < n := by
      rcases Nat.lt_or_ge s n with q | q
      · exact q
      · unfold kd at c; rw [if_neg (by omega)] at c; omega
    rw [if_pos c, if_pos (show ((kd f n s : Nat) : Int) = 1 by omega)]
    by_cases c2 : tvl f n s < lo ∨ hi < tvl f n s
    · rw [if_pos c2]
      obtain ⟨h', e1, e2⟩ := c_failF (c := -3) w iv h9 k4
      refine Or.inl ⟨_, h', rfl, ?_, e2⟩
      by_cases c3 : tvl f n s < lo
      · rw [if_pos c3, e1, Option.bind_some]
      · rw [if_neg c3, if_pos (by omega), e1, Option.bind_some]
    · rw [if_neg c2, if_neg (show ¬ tvl f n s < lo by omega), if_neg (show ¬ hi < tvl f n s by omega), Option.bind_some]
      obtain ⟨h', tx', e1, e2, e3, e4⟩ := c_adv w t k2 k5 (en_le ks.1)
      rw [e1, Option.bind_some]
      exact Or.inr ⟨h', tx', rfl, rfl, e2, e3, e4, hlt, by omega, by omega⟩
  · rw [if_neg c, if_neg (show ¬ ((kd f n s : Nat) : Int) = 1 by omega)]
    obtain ⟨h', e1, e2⟩ := c_failF (c := -2) w iv h9 k4
    refine Or.inl ⟨_, h', rfl, ?_, e2⟩
    rw [e1, Option.bind_some]
theorem c_tmark (w : CWd X h S rr tx sp) (t : TX X f n) (iv : IvM S) (h9 : 0 ≤ rr 4 ∧ rr 4 ≤ 900) {s : Nat} (k : TOK f n tx s) {m : Int} (hm : 0 ≤ m ∧ m < 128) :
    (¬ (kd f n s = 3 ∧ f s = m) ∧ ∃ h', FX4_takeMark h 1 m = some (0, h') ∧ CF X h' (tx 1) (-2, s)) ∨ ((kd f n s = 3 ∧ f s = m) ∧ ∃ h' tx', FX4_takeMark h 1 m = some (1, h') ∧ CWd X h' S rr tx' sp ∧ TOK f n tx' (nx f n s) ∧ tx' 1 = tx 1) := by
  have k' := k
  obtain ⟨k2, k3, k4, k5, k6, ks⟩ := k
  unfold FX4_takeMark
  rw [z1_O (cw_e1 w), Option.bind_some, z1_r0 (cw_e1 w), Option.bind_some, c_mark w t k' hm, Option.bind_some]
  by_cases c : kd f n s = 3 ∧ f s = m
  · rw [if_pos c, if_neg (show ¬ w32 1 = 0 by decide), Option.bind_some]
    obtain ⟨h', tx', e1, e2, e3, e4⟩ := c_adv w t k2 k5 (en_le ks.1)
    rw [e1, Option.bind_some]
    exact Or.inr ⟨c, h', tx', rfl, e2, e3, e4⟩
  · rw [if_neg c, if_pos (show w32 0 = 0 by decide)]
    obtain ⟨h', e1, e2⟩ := c_failF (c := -2) w iv h9 k4
    rw [e1, Option.bind_some, if_pos (Or.inl rfl)]
    exact Or.inl ⟨c, h', rfl, e2⟩
/-- the steps that the class keeps -/
def STP (rr sp : Nat → Int) (ss : List Int) : Prop := rr 4 = ss.length ∧ ∀ i, i < ss.length → sp i = ss.getD i 0
theorem c_step (w : CWd X h S rr tx sp) {ss : List Int} (k : STP rr sp ss) {x : Int} (hl : ss.length < 900) : ∃ h' sp', FX4_addStep h 1 x = some h' ∧ CWd X h' S (upf rr 4 ((ss.length + 1 : Nat) : Int)) tx sp' ∧ STP (upf rr 4 ((ss.length + 1 : Nat) : Int)) sp' (ss ++ [x]) := by
  obtain ⟨k1, k2⟩ := k
  have w1 := cw_4 (x := upf sp ss.length x) w
  have w2 := cw_1 (x := upf rr 4 ((ss.length + 1 : Nat) : Int)) w1
  refine ⟨_, upf sp ss.length x, ?_, w2, by rw [upf_eq]; simp, fun i hi => ?_⟩
  · unfold FX4_addStep JX4_addStep_30
    rw [z1_O (cw_e1 w), Option.bind_some, z1_i4 (cw_e1 w), Option.bind_some, k1, w32_nat (by omega), show w32 900 = 900 from rfl, if_pos (by omega), z1_r3 (cw_e1 w), Option.bind_some, Option.bind_some, z4_s (cw_e4 w) (by omega) (by omega), Option.bind_some, Int.toNat_natCast, z1_i4 (cw_e1 w1), Option.bind_some, z1_w4 (cw_e1 w1), Option.bind_some, k1, show (ss.length : Int) + 1 = ((ss.length + 1 : Nat) : Int) by omega]
  · rw [List.length_append] at hi
    by_cases e : i = ss.length
    · subst e; rw [upf_eq]; simp
    · rw [upf_ne e, k2 i (by simp at hi; omega)]
      simp only [List.getD_eq_getElem?_getD]
      rw [List.getElem?_append_left (by simp at hi; omega)]
/-- a step that may not fit -/
theorem c_stepF (q : Int × Nat) {t1 x : Int} (c : CF X h t1 q) : ∃ h', FX4_addStep h 1 x = some h' ∧ CF X h' t1 q := by
  obtain ⟨S, rr, tx, sp, w, iv, r1, r2, r3, r4⟩ := c
  unfold FX4_addStep JX4_addStep_30
  rw [z1_O (cw_e1 w), Option.bind_some, z1_i4 (cw_e1 w), Option.bind_some, show w32 900 = 900 from rfl, w32_eq (by omega) (by omega)]
  by_cases z : rr 4 < 900
  · have w1 := cw_4 (x := upf sp (rr 4).toNat x) w
    have w2 := cw_1 (x := upf rr 4 (rr 4 + 1)) w1
    rw [if_pos z, z1_r3 (cw_e1 w), Option.bind_some, Option.bind_some, z4_s (cw_e4 w) (by omega) (by omega), Option.bind_some, z1_i4 (cw_e1 w1), Option.bind_some, z1_w4 (cw_e1 w1), Option.bind_some]
    exact ⟨_, rfl, S, _, tx, _, w2, iv, by rw [upf_ne (by decide)]; exact r1, by rw [upf_ne (by decide)]; exact r2, r3, by rw [upf_eq]; omega⟩
  · rw [if_neg z]
    exact ⟨_, rfl, S, rr, tx, sp, w, iv, r1, r2, r3, r4⟩
end
