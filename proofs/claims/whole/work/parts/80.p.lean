set_option linter.unusedVariables false
set_option linter.unusedSimpArgs false
/-! ===== tokens of the text ===== -/
/-- the first place from p on, below n, where P fails; else n -/
def rn (P : Nat → Bool) (n : Nat) : Nat → Nat → Nat
  | 0, p => p
  | k + 1, p => if p < n ∧ P p = true then rn P n k (p + 1) else p
theorem rn_ge {P : Nat → Bool} {n : Nat} : ∀ {k p : Nat}, p ≤ rn P n k p := by
  intro k
  induction k with
  | zero => intro p; exact Nat.le_refl _
  | succ k ih =>
    intro p
    unfold rn
    split
    · exact Nat.le_trans (Nat.le_succ p) ih
    · exact Nat.le_refl _
theorem rn_le {P : Nat → Bool} {n : Nat} : ∀ {k p : Nat}, p ≤ n → rn P n k p ≤ n := by
  intro k
  induction k with
  | zero => intro p h; exact h
  | succ k ih =>
    intro p h
    unfold rn
    split
    · rename_i c; exact ih (by omega)
    · exact h
theorem rn_end {P : Nat → Bool} {n : Nat} : ∀ {k p : Nat}, n ≤ p + k → ¬ (rn P n k p < n ∧ P (rn P n k p) = true) := by
  intro k
  induction k with
  | zero => intro p h; unfold rn; omega
  | succ k ih =>
    intro p h
    unfold rn
    split
    · exact ih (by omega)
    · rename_i c; exact c
theorem rn_in {P : Nat → Bool} {n : Nat} : ∀ {k p i : Nat}, p ≤ i → i < rn P n k p → i < n ∧ P i = true := by
  intro k
  induction k with
  | zero => intro p i h1 h2; unfold rn at h2; omega
  | succ k ih =>
    intro p i h1 h2
    unfold rn at h2
    split at h2
    · rename_i c
      by_cases e : i = p
      · subst e; exact c
      · exact ih (by omega) h2
    · omega
/-- the end of the run from p on -/
def rE (P : Nat → Bool) (n p : Nat) : Nat := rn P n n p
theorem rE_eq {P : Nat → Bool} {n p q : Nat} (h1 : p ≤ q) (h2 : q ≤ n ∨ q = p) (h3 : ∀ i, p ≤ i → i < q → i < n ∧ P i = true) (h4 : ¬ (q < n ∧ P q = true)) : rE P n p = q := by
  have a1 := rn_ge (P := P) (n := n) (k := n) (p := p)
  have a2 := rn_end (P := P) (n := n) (k := n) (p := p) (by omega)
  have a3 := fun i => rn_in (P := P) (n := n) (k := n) (p := p) (i := i)
  unfold rE
  rcases Nat.lt_trichotomy (rn P n n p) q with c | c | c
  · exact absurd (h3 _ a1 c) a2
  · exact c
  · exact absurd (a3 q h1 c) h4
theorem rE_ge {P : Nat → Bool} {n p : Nat} : p ≤ rE P n p := rn_ge
theorem rE_le {P : Nat → Bool} {n p : Nat} (h : p ≤ n) : rE P n p ≤ n := rn_le h
theorem rE_end {P : Nat → Bool} {n p : Nat} : ¬ (rE P n p < n ∧ P (rE P n p) = true) := rn_end (by omega)
theorem rE_in {P : Nat → Bool} {n p i : Nat} (h1 : p ≤ i) (h2 : i < rE P n p) : i < n ∧ P i = true := rn_in h1 h2
theorem rE_step {P : Nat → Bool} {n p : Nat} (h : p < n ∧ P p = true) : rE P n p = rE P n (p + 1) :=
  rE_eq (by have := rE_ge (P := P) (n := n) (p := p + 1); omega) (Or.inl (rE_le (by omega))) (fun i h1 h2 => by
    by_cases e : i = p
    · subst e; exact h
    · exact rE_in (by omega) h2) rE_end
theorem rE_stop {P : Nat → Bool} {n p : Nat} (h : ¬ (p < n ∧ P p = true)) : rE P n p = p := rE_eq (Nat.le_refl _) (Or.inr rfl) (fun i h1 h2 => by omega) h
section
variable (f : Nat → Int) (n : Nat)
def isSp (i : Nat) : Bool := decide (f i = 32)
def isDg (i : Nat) : Bool := decide (48 ≤ f i ∧ f i ≤ 57)
def isLt (i : Nat) : Bool := decide (97 ≤ f i ∧ f i ≤ 122)
def skS (p : Nat) : Nat := rE (isSp f) n p
/-- a number's value, as the class keeps it, after k digits -/
def nv (s : Nat) : Nat → Int
  | 0 => 0
  | k + 1 => if nv s k < 1000000 then 10 * nv s k + (f (s + k) - 48) else nv s k
def kd (s : Nat) : Nat := if s < n then (if isDg f s then 1 else if isLt f s then 2 else 3) else 0
def en (s : Nat) : Nat := if s < n then (if isDg f s then rE (isDg f) n s else if isLt f s then rE (isLt f) n s else s + 1) else s
def tvl (s : Nat) : Int := nv f s (rE (isDg f) n s - s)
def nx (s : Nat) : Nat := skS f n (en f n s)
/-- a token starts at s -/
def st (s : Nat) : Prop := s ≤ n ∧ ¬ (s < n ∧ isSp f s = true)
end
section
variable {f : Nat → Int} {n : Nat}
theorem sk_st {p : Nat} (h : p ≤ n) : st f n (skS f n p) := ⟨rE_le h, rE_end⟩
theorem st_sk {s : Nat} (h : st f n s) : skS f n s = s := rE_stop h.2
theorem en_le {s : Nat} (h : s ≤ n) : en f n s ≤ n := by
  unfold en
  split
  · split
    · exact rE_le h
    · split
      · exact rE_le h
      · omega
  · exact h
theorem en_gt {s : Nat} (h : s < n) : s < en f n s := by
  unfold en
  rw [if_pos h]
  split
  · rename_i c
    rw [rE_step ⟨h, c⟩]
    have := rE_ge (P := isDg f) (n := n) (p := s + 1)
    omega
  · split
    · rename_i c
      rw [rE_step ⟨h, c⟩]
      have := rE_ge (P := isLt f) (n := n) (p := s + 1)
      omega
    · omega
theorem nx_gt {s : Nat} (h : s < n) : s < nx f n s := Nat.lt_of_lt_of_le (en_gt h) rE_ge
theorem nx_st {s : Nat} (h : s ≤ n) : st f n (nx f n s) := sk_st (en_le h)
theorem nv_nn (hf : ∀ i, i < 900 → 0 ≤ f i ∧ f i ≤ 255) (hn : n ≤ 900) {s : Nat} : ∀ {k : Nat}, s + k ≤ rE (isDg f) n s → 0 ≤ nv f s k ∧ nv f s k ≤ 10000000 := by
  intro k
  induction k with
  | zero => intro _; unfold nv; omega
  | succ k ih =>
    intro h
    have h1 := ih (by omega)
    have h2 := rE_in (P := isDg f) (n := n) (p := s) (i := s + k) (by omega) (by omega)
    have h3 := h2.2
    unfold isDg at h3
    rw [decide_eq_true_iff] at h3
    unfold nv
    split <;> omega
theorem tvl_in (hf : ∀ i, i < 900 → 0 ≤ f i ∧ f i ≤ 255) (hn : n ≤ 900) {s : Nat} : 0 ≤ tvl f n s ∧ tvl f n s ≤ 10000000 := nv_nn hf hn (by have := rE_ge (P := isDg f) (n := n) (p := s); omega)
end
