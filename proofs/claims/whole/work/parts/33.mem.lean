set_option linter.unusedVariables false
set_option linter.unusedSimpArgs false
/-! ===== loops ===== -/
theorem lp_mono {σ ρ : Type} {f : σ → Option (σ ⊕ ρ)} : ∀ (n m : Nat) (s : σ) (r : ρ), n ≤ m → lp f n s = some r → lp f m s = some r := by
  intro n
  induction n with
  | zero => intro m s r _ h; cases h
  | succ n ih =>
    intro m s r hm h
    obtain ⟨m, rfl⟩ : ∃ k, m = k + 1 := ⟨m - 1, by omega⟩
    rw [lp] at h ⊢
    cases hf : f s with
    | none => rw [hf] at h; cases h
    | some q =>
      rw [hf] at h
      cases q with
      | inl s' => exact ih m s' r (by omega) h
      | inr r' => exact h
/-- n bounds the turns that are left -/
theorem lp_inv {σ ρ : Type} {f : σ → Option (σ ⊕ ρ)} (I : Nat → σ → Prop) (P : ρ → Prop) (step : ∀ k s, I k s → (∃ r, f s = some (.inr r) ∧ P r) ∨ (∃ k' s', k = k' + 1 ∧ f s = some (.inl s') ∧ I k' s')) : ∀ n s, I n s → ∃ r, lp f (n + 1) s = some r ∧ P r := by
  intro n
  induction n with
  | zero =>
    intro s h
    rcases step _ _ h with ⟨r, h1, h2⟩ | ⟨k', s', h1, _⟩
    · exact ⟨r, by rw [lp, h1], h2⟩
    · omega
  | succ n ih =>
    intro s h
    rcases step _ _ h with ⟨r, h1, h2⟩ | ⟨k', s', h1, h2, h3⟩
    · exact ⟨r, by rw [lp, h1], h2⟩
    · obtain rfl : n = k' := by omega
      obtain ⟨r, h4, h5⟩ := ih s' h3
      exact ⟨r, by rw [lp, h2]; exact h4, h5⟩
/-- a counting loop, from a to b, that may leave early -/
theorem lp_for {σ ρ : Type} {f : σ → Option (σ ⊕ ρ)} (I : Nat → σ → Prop) (P : ρ → Prop) {a b : Nat} {s : σ} (hab : a ≤ b) (hb : b < a + 4999) (h0 : I a s)
    (step : ∀ i s, a ≤ i → i < b → I i s → (∃ r, f s = some (.inr r) ∧ P r) ∨ (∃ s', f s = some (.inl s') ∧ I (i + 1) s')) (fin : ∀ s, I b s → ∃ r, f s = some (.inr r) ∧ P r) : ∃ r, lp f FU s = some r ∧ P r := by
  have := lp_inv (f := f) (fun k s => ∃ i, a ≤ i ∧ i + k = b ∧ I i s) P (by
    rintro k s ⟨i, h1, h2, h3⟩
    cases k with
    | zero => exact Or.inl (fin s (by obtain rfl : i = b := by omega
                                      exact h3))
    | succ k =>
      rcases step i s h1 (by omega) h3 with h | ⟨s', h4, h5⟩
      · exact Or.inl h
      · exact Or.inr ⟨k, s', rfl, h4, i + 1, by omega, by omega, h5⟩) (b - a) s ⟨a, Nat.le_refl _, by omega, h0⟩
  obtain ⟨r, h1, h2⟩ := this
  exact ⟨r, lp_mono _ _ _ _ (by unfold FU; omega) h1, h2⟩
/-- a counting loop whose states are told -/
theorem lp_det {σ ρ : Type} {f : σ → Option (σ ⊕ ρ)} (S : Nat → σ) {a b : Nat} {r : ρ} (hab : a ≤ b) (hb : b < a + 4999) (step : ∀ i, a ≤ i → i < b → f (S i) = some (.inl (S (i + 1)))) (fin : f (S b) = some (.inr r)) : lp f FU (S a) = some r := by
  obtain ⟨r', h1, h2⟩ := lp_for (f := f) (fun i s => s = S i) (fun x => x = r) hab hb rfl (fun i s h1 h2 e => Or.inr ⟨_, by rw [e]; exact step i h1 h2, rfl⟩) (fun s e => ⟨r, by rw [e]; exact fin, rfl⟩)
  rw [h1, h2]
/-! ===== a machine's cells as a function of place and index ===== -/
abbrev MM : Type := Nat → Nat → Int
def up (M : MM) (k i : Nat) (x : Int) : MM := fun k' i' => if k' = k ∧ i' = i then x else M k' i'
def lnM (k : Nat) : Nat := if k = 9 then 8 else if k ≤ 12 then 32 else 4
def tyM (k : Nat) : Option Nat := if 2 ≤ k ∧ k ≤ 10 ∨ 12 ≤ k ∧ k ≤ 17 then some 0 else if k = 18 then some 2 else none
def rf (a : Nat) : PV := .inr (some a)
def vi (x : Int) : PV := .inl x
def cellM (p : Nat) (M : MM) (k : Nat) : PC :=
  if k = 0 then .inr (3, [rf (p + 1), rf (p + 11), rf (M 0 2).toNat, vi (M 0 3)])
  else if k = 1 then .inr (6, [vi (M 1 0), vi (M 1 1), rf (p + 2), rf (p + 3), rf (p + 4), rf (p + 5), rf (p + 6), rf (p + 7), rf (p + 8), rf (p + 9), rf (p + 10)])
  else if k = 11 then .inr (0, [vi (M 11 0), vi (M 11 1), vi (M 11 2), rf (p + 12), rf (p + 13), rf (p + 14), rf (p + 15), rf (p + 16), rf (p + 17), rf (p + 18)])
  else .inl (if k = 18 then 2 else 0, (List.range (lnM k)).map (M k))
def putM (h : PH) (p : Nat) (M : MM) : PH := h.mapIdx (fun a c => if p ≤ a ∧ a < p + 19 then cellM p M (a - p) else c)
theorem putM_len {h : PH} {p : Nat} {M : MM} : (putM h p M).length = h.length := by simp [putM]
theorem putM_in {h : PH} {p k : Nat} {M : MM} (hp : p + 19 ≤ h.length) (hk : k < 19) : (putM h p M)[p + k]? = some (cellM p M k) := by
  simp [putM, List.getElem?_mapIdx, show p + k < h.length by omega, hk]
theorem putM_out {h : PH} {p a : Nat} {M : MM} (ha : a < p ∨ p + 19 ≤ a) : (putM h p M)[a]? = h[a]? := by
  simp only [putM, List.getElem?_mapIdx]
  cases h[a]? with
  | none => rfl
  | some c => simp; intro _ _; omega
theorem putM_ext {h h' : PH} {p : Nat} {M : MM} (hl : h'.length = h.length) (hp : p + 19 ≤ h.length) (h1 : ∀ k, k < 19 → h'[p + k]? = some (cellM p M k)) (h2 : ∀ a, (a < p ∨ p + 19 ≤ a) → h'[a]? = h[a]?) : h' = putM h p M := by
  apply List.ext_getElem?
  intro a
  by_cases ha : a < p ∨ p + 19 ≤ a
  · rw [h2 a ha, putM_out ha]
  · have := h1 (a - p) (by omega)
    rw [show p + (a - p) = a by omega] at this
    rw [this]
    have h3 := putM_in (M := M) hp (k := a - p) (by omega)
    rw [show p + (a - p) = a by omega] at h3
    exact h3.symm
theorem putM_put {h : PH} {p : Nat} {M M' : MM} (hp : p + 19 ≤ h.length) : putM (putM h p M) p M' = putM h p M' :=
  putM_ext (by simp [putM_len]) hp (fun k hk => putM_in (by rw [putM_len]; exact hp) hk) (fun a ha => by rw [putM_out ha, putM_out ha])
theorem putM_set {h : PH} {p k : Nat} {M M' : MM} (hp : p + 19 ≤ h.length) (hk : k < 19) (hs : ∀ j, j < 19 → j ≠ k → cellM p M' j = cellM p M j) : (putM h p M).set (p + k) (cellM p M' k) = putM h p M' := by
  refine putM_ext (by simp [putM_len]) hp (fun j hj => ?_) (fun a ha => ?_)
  · rw [List.getElem?_set]
    by_cases hjk : p + k = p + j
    · obtain rfl : k = j := by omega
      simp [putM_len]; omega
    · rw [if_neg hjk, putM_in hp hj, hs j hj (by omega)]
  · rw [List.getElem?_set, if_neg (by omega), putM_out ha]
theorem map_up {n k i : Nat} {M : MM} {x : Int} : (List.range n).map (up M k i x k) = ((List.range n).map (M k)).set i x := by
  apply List.ext_getElem?
  intro j
  by_cases hj : j < n
  · by_cases hij : i = j
    · subst hij; simp [List.getElem?_set, hj, up]
    · simp [List.getElem?_set, hj, up, hij, Ne.symm hij]
  · simp [List.getElem?_set, hj]
theorem cellM_up {p k i j : Nat} {M : MM} {x : Int} (h : j ≠ k) : cellM p (up M k i x) j = cellM p M j := by
  unfold cellM
  by_cases h0 : j = 0
  · simp [h0] at h ⊢
    simp [up, h]
  by_cases h1 : j = 1
  · simp [h1] at h ⊢
    simp [up, h]
  by_cases h2 : j = 11
  · simp [h2] at h ⊢
    simp [up, h]
  simp only [if_neg h0, if_neg h1, if_neg h2]
  congr 3
  funext t
  simp [up, h]
theorem cellM_arr {p k t : Nat} {M : MM} (hk : tyM k = some t) : cellM p M k = .inl (t, (List.range (lnM k)).map (M k)) ∧ k < 19 := by
  unfold tyM at hk
  split at hk
  · rename_i h
    cases hk
    constructor
    · unfold cellM
      simp [show k ≠ 0 by omega, show k ≠ 1 by omega, show k ≠ 11 by omega, show k ≠ 18 by omega]
    · omega
  · split at hk
    · rename_i h
      cases hk; subst h
      exact ⟨rfl, by decide⟩
    · cases hk
section
variable {h : PH} {p : Nat} {M : MM}
theorem pm_ald {k t : Nat} {i : Int} (hp : p + 19 ≤ h.length) (hk : tyM k = some t) : ald t (putM h p M) (p + k) i = if 0 ≤ i ∧ i < lnM k then some (M k i.toNat) else none := by
  obtain ⟨h1, h2⟩ := cellM_arr (p := p) (M := M) hk
  unfold ald
  rw [putM_in hp h2, h1]
  by_cases hi : 0 ≤ i
  · simp only [hi, and_self, if_true, true_and]
    by_cases hl : i < lnM k
    · simp [hl, show i.toNat < lnM k by omega]
    · simp [hl]; omega
  · simp [hi]
theorem pm_ast {k t : Nat} {i x : Int} (hp : p + 19 ≤ h.length) (hk : tyM k = some t) (hi : 0 ≤ i ∧ i < lnM k) (hx : t = 2 → 0 ≤ x ∧ x < 2) : ast t (putM h p M) (p + k) i x = some (putM h p (up M k i.toNat x)) := by
  obtain ⟨h1, h2⟩ := cellM_arr (p := p) (M := M) hk
  obtain ⟨h3, -⟩ := cellM_arr (p := p) (M := up M k i.toNat x) hk
  have ht : t ≠ 1 := by
    unfold tyM at hk
    split at hk
    · cases hk; decide
    · split at hk
      · cases hk; decide
      · cases hk
  unfold ast
  rw [putM_in hp h2, h1]
  simp only [List.length_map, List.length_range, true_and]
  rw [if_pos ⟨hi, fun h => absurd h ht, hx⟩, ← map_up, ← h3]
  rw [putM_set hp h2 (fun j _ hj => cellM_up hj)]
theorem pm_at0 (hp : p + 19 ≤ h.length) : (putM h p M)[p]? = some (cellM p M 0) := putM_in (k := 0) hp (by decide)
theorem pm_isO0 (hp : p + 19 ≤ h.length) : isO (putM h p M) 3 p = some () := by unfold isO; rw [pm_at0 hp]; rfl
theorem pm_gfr0_0 (hp : p + 19 ≤ h.length) : gfr (putM h p M) 3 p 0 = some (p + 1) := by unfold gfr; rw [pm_at0 hp]; rfl
theorem pm_gfr0_1 (hp : p + 19 ≤ h.length) : gfr (putM h p M) 3 p 1 = some (p + 11) := by unfold gfr; rw [pm_at0 hp]; rfl
theorem pm_gfr0_2 (hp : p + 19 ≤ h.length) : gfr (putM h p M) 3 p 2 = some (M 0 2).toNat := by unfold gfr; rw [pm_at0 hp]; rfl
theorem pm_pfr0_2 {v : Nat} (hp : p + 19 ≤ h.length) (hv : v < h.length) : pfr (putM h p M) 3 p 2 v = some (putM h p (up M 0 2 v)) := by
  unfold pfr
  rw [pm_at0 hp]
  simp only [cellM, if_true, putM_len, hv, and_true]
  exact congrArg some (putM_set (k := 0) (M' := up M 0 2 v) hp (by decide) (fun j _ hj => cellM_up hj))
theorem pm_gfi0_3 (hp : p + 19 ≤ h.length) : gfi (putM h p M) 3 p 3 = some (M 0 3) := by unfold gfi; rw [pm_at0 hp]; rfl
theorem pm_pfi0_3 {x : Int} (hp : p + 19 ≤ h.length) : pfi (putM h p M) 3 p 3 x = some (putM h p (up M 0 3 x)) := by
  unfold pfi
  rw [pm_at0 hp]
  exact congrArg some (putM_set (k := 0) (M' := up M 0 3 x) hp (by decide) (fun j _ hj => cellM_up hj))
theorem pm_at1 (hp : p + 19 ≤ h.length) : (putM h p M)[p + 1]? = some (cellM p M 1) := putM_in (k := 1) hp (by decide)
theorem pm_isO1 (hp : p + 19 ≤ h.length) : isO (putM h p M) 6 (p + 1) = some () := by unfold isO; rw [pm_at1 hp]; rfl
theorem pm_gfi1_0 (hp : p + 19 ≤ h.length) : gfi (putM h p M) 6 (p + 1) 0 = some (M 1 0) := by unfold gfi; rw [pm_at1 hp]; rfl
theorem pm_pfi1_0 {x : Int} (hp : p + 19 ≤ h.length) : pfi (putM h p M) 6 (p + 1) 0 x = some (putM h p (up M 1 0 x)) := by
  unfold pfi
  rw [pm_at1 hp]
  exact congrArg some (putM_set (k := 1) (M' := up M 1 0 x) hp (by decide) (fun j _ hj => cellM_up hj))
theorem pm_gfi1_1 (hp : p + 19 ≤ h.length) : gfi (putM h p M) 6 (p + 1) 1 = some (M 1 1) := by unfold gfi; rw [pm_at1 hp]; rfl
theorem pm_pfi1_1 {x : Int} (hp : p + 19 ≤ h.length) : pfi (putM h p M) 6 (p + 1) 1 x = some (putM h p (up M 1 1 x)) := by
  unfold pfi
  rw [pm_at1 hp]
  exact congrArg some (putM_set (k := 1) (M' := up M 1 1 x) hp (by decide) (fun j _ hj => cellM_up hj))
theorem pm_gfr1_2 (hp : p + 19 ≤ h.length) : gfr (putM h p M) 6 (p + 1) 2 = some (p + 2) := by unfold gfr; rw [pm_at1 hp]; rfl
theorem pm_gfr1_3 (hp : p + 19 ≤ h.length) : gfr (putM h p M) 6 (p + 1) 3 = some (p + 3) := by unfold gfr; rw [pm_at1 hp]; rfl
theorem pm_gfr1_4 (hp : p + 19 ≤ h.length) : gfr (putM h p M) 6 (p + 1) 4 = some (p + 4) := by unfold gfr; rw [pm_at1 hp]; rfl
theorem pm_gfr1_5 (hp : p + 19 ≤ h.length) : gfr (putM h p M) 6 (p + 1) 5 = some (p + 5) := by unfold gfr; rw [pm_at1 hp]; rfl
theorem pm_gfr1_6 (hp : p + 19 ≤ h.length) : gfr (putM h p M) 6 (p + 1) 6 = some (p + 6) := by unfold gfr; rw [pm_at1 hp]; rfl
theorem pm_gfr1_7 (hp : p + 19 ≤ h.length) : gfr (putM h p M) 6 (p + 1) 7 = some (p + 7) := by unfold gfr; rw [pm_at1 hp]; rfl
theorem pm_gfr1_8 (hp : p + 19 ≤ h.length) : gfr (putM h p M) 6 (p + 1) 8 = some (p + 8) := by unfold gfr; rw [pm_at1 hp]; rfl
theorem pm_gfr1_9 (hp : p + 19 ≤ h.length) : gfr (putM h p M) 6 (p + 1) 9 = some (p + 9) := by unfold gfr; rw [pm_at1 hp]; rfl
theorem pm_gfr1_10 (hp : p + 19 ≤ h.length) : gfr (putM h p M) 6 (p + 1) 10 = some (p + 10) := by unfold gfr; rw [pm_at1 hp]; rfl
theorem pm_at11 (hp : p + 19 ≤ h.length) : (putM h p M)[p + 11]? = some (cellM p M 11) := putM_in (k := 11) hp (by decide)
theorem pm_isO11 (hp : p + 19 ≤ h.length) : isO (putM h p M) 0 (p + 11) = some () := by unfold isO; rw [pm_at11 hp]; rfl
theorem pm_gfi11_0 (hp : p + 19 ≤ h.length) : gfi (putM h p M) 0 (p + 11) 0 = some (M 11 0) := by unfold gfi; rw [pm_at11 hp]; rfl
theorem pm_pfi11_0 {x : Int} (hp : p + 19 ≤ h.length) : pfi (putM h p M) 0 (p + 11) 0 x = some (putM h p (up M 11 0 x)) := by
  unfold pfi
  rw [pm_at11 hp]
  exact congrArg some (putM_set (k := 11) (M' := up M 11 0 x) hp (by decide) (fun j _ hj => cellM_up hj))
theorem pm_gfi11_1 (hp : p + 19 ≤ h.length) : gfi (putM h p M) 0 (p + 11) 1 = some (M 11 1) := by unfold gfi; rw [pm_at11 hp]; rfl
theorem pm_pfi11_1 {x : Int} (hp : p + 19 ≤ h.length) : pfi (putM h p M) 0 (p + 11) 1 x = some (putM h p (up M 11 1 x)) := by
  unfold pfi
  rw [pm_at11 hp]
  exact congrArg some (putM_set (k := 11) (M' := up M 11 1 x) hp (by decide) (fun j _ hj => cellM_up hj))
theorem pm_gfi11_2 (hp : p + 19 ≤ h.length) : gfi (putM h p M) 0 (p + 11) 2 = some (M 11 2) := by unfold gfi; rw [pm_at11 hp]; rfl
theorem pm_pfi11_2 {x : Int} (hp : p + 19 ≤ h.length) : pfi (putM h p M) 0 (p + 11) 2 x = some (putM h p (up M 11 2 x)) := by
  unfold pfi
  rw [pm_at11 hp]
  exact congrArg some (putM_set (k := 11) (M' := up M 11 2 x) hp (by decide) (fun j _ hj => cellM_up hj))
theorem pm_gfr11_3 (hp : p + 19 ≤ h.length) : gfr (putM h p M) 0 (p + 11) 3 = some (p + 12) := by unfold gfr; rw [pm_at11 hp]; rfl
theorem pm_gfr11_4 (hp : p + 19 ≤ h.length) : gfr (putM h p M) 0 (p + 11) 4 = some (p + 13) := by unfold gfr; rw [pm_at11 hp]; rfl
theorem pm_gfr11_5 (hp : p + 19 ≤ h.length) : gfr (putM h p M) 0 (p + 11) 5 = some (p + 14) := by unfold gfr; rw [pm_at11 hp]; rfl
theorem pm_gfr11_6 (hp : p + 19 ≤ h.length) : gfr (putM h p M) 0 (p + 11) 6 = some (p + 15) := by unfold gfr; rw [pm_at11 hp]; rfl
theorem pm_gfr11_7 (hp : p + 19 ≤ h.length) : gfr (putM h p M) 0 (p + 11) 7 = some (p + 16) := by unfold gfr; rw [pm_at11 hp]; rfl
theorem pm_gfr11_8 (hp : p + 19 ≤ h.length) : gfr (putM h p M) 0 (p + 11) 8 = some (p + 17) := by unfold gfr; rw [pm_at11 hp]; rfl
theorem pm_gfr11_9 (hp : p + 19 ≤ h.length) : gfr (putM h p M) 0 (p + 11) 9 = some (p + 18) := by unfold gfr; rw [pm_at11 hp]; rfl
theorem pa2 {i : Int} (hp : p + 19 ≤ h.length) (h0 : 0 ≤ i) (h1 : i < 32) : ald 0 (putM h p M) (p + 2) i = some (M 2 i.toNat) := by rw [pm_ald hp (show tyM 2 = some 0 from rfl), if_pos ⟨h0, h1⟩]
theorem ps2 {i x : Int} (hp : p + 19 ≤ h.length) (h0 : 0 ≤ i) (h1 : i < 32) : ast 0 (putM h p M) (p + 2) i x = some (putM h p (up M 2 i.toNat x)) := pm_ast hp (show tyM 2 = some 0 from rfl) ⟨h0, h1⟩ (fun h => absurd h (by decide))
theorem pa3 {i : Int} (hp : p + 19 ≤ h.length) (h0 : 0 ≤ i) (h1 : i < 32) : ald 0 (putM h p M) (p + 3) i = some (M 3 i.toNat) := by rw [pm_ald hp (show tyM 3 = some 0 from rfl), if_pos ⟨h0, h1⟩]
theorem ps3 {i x : Int} (hp : p + 19 ≤ h.length) (h0 : 0 ≤ i) (h1 : i < 32) : ast 0 (putM h p M) (p + 3) i x = some (putM h p (up M 3 i.toNat x)) := pm_ast hp (show tyM 3 = some 0 from rfl) ⟨h0, h1⟩ (fun h => absurd h (by decide))
theorem pa4 {i : Int} (hp : p + 19 ≤ h.length) (h0 : 0 ≤ i) (h1 : i < 32) : ald 0 (putM h p M) (p + 4) i = some (M 4 i.toNat) := by rw [pm_ald hp (show tyM 4 = some 0 from rfl), if_pos ⟨h0, h1⟩]
theorem ps4 {i x : Int} (hp : p + 19 ≤ h.length) (h0 : 0 ≤ i) (h1 : i < 32) : ast 0 (putM h p M) (p + 4) i x = some (putM h p (up M 4 i.toNat x)) := pm_ast hp (show tyM 4 = some 0 from rfl) ⟨h0, h1⟩ (fun h => absurd h (by decide))
theorem pa5 {i : Int} (hp : p + 19 ≤ h.length) (h0 : 0 ≤ i) (h1 : i < 32) : ald 0 (putM h p M) (p + 5) i = some (M 5 i.toNat) := by rw [pm_ald hp (show tyM 5 = some 0 from rfl), if_pos ⟨h0, h1⟩]
theorem ps5 {i x : Int} (hp : p + 19 ≤ h.length) (h0 : 0 ≤ i) (h1 : i < 32) : ast 0 (putM h p M) (p + 5) i x = some (putM h p (up M 5 i.toNat x)) := pm_ast hp (show tyM 5 = some 0 from rfl) ⟨h0, h1⟩ (fun h => absurd h (by decide))
theorem pa6 {i : Int} (hp : p + 19 ≤ h.length) (h0 : 0 ≤ i) (h1 : i < 32) : ald 0 (putM h p M) (p + 6) i = some (M 6 i.toNat) := by rw [pm_ald hp (show tyM 6 = some 0 from rfl), if_pos ⟨h0, h1⟩]
theorem ps6 {i x : Int} (hp : p + 19 ≤ h.length) (h0 : 0 ≤ i) (h1 : i < 32) : ast 0 (putM h p M) (p + 6) i x = some (putM h p (up M 6 i.toNat x)) := pm_ast hp (show tyM 6 = some 0 from rfl) ⟨h0, h1⟩ (fun h => absurd h (by decide))
theorem pa7 {i : Int} (hp : p + 19 ≤ h.length) (h0 : 0 ≤ i) (h1 : i < 32) : ald 0 (putM h p M) (p + 7) i = some (M 7 i.toNat) := by rw [pm_ald hp (show tyM 7 = some 0 from rfl), if_pos ⟨h0, h1⟩]
theorem ps7 {i x : Int} (hp : p + 19 ≤ h.length) (h0 : 0 ≤ i) (h1 : i < 32) : ast 0 (putM h p M) (p + 7) i x = some (putM h p (up M 7 i.toNat x)) := pm_ast hp (show tyM 7 = some 0 from rfl) ⟨h0, h1⟩ (fun h => absurd h (by decide))
theorem pa8 {i : Int} (hp : p + 19 ≤ h.length) (h0 : 0 ≤ i) (h1 : i < 32) : ald 0 (putM h p M) (p + 8) i = some (M 8 i.toNat) := by rw [pm_ald hp (show tyM 8 = some 0 from rfl), if_pos ⟨h0, h1⟩]
theorem ps8 {i x : Int} (hp : p + 19 ≤ h.length) (h0 : 0 ≤ i) (h1 : i < 32) : ast 0 (putM h p M) (p + 8) i x = some (putM h p (up M 8 i.toNat x)) := pm_ast hp (show tyM 8 = some 0 from rfl) ⟨h0, h1⟩ (fun h => absurd h (by decide))
theorem pa9 {i : Int} (hp : p + 19 ≤ h.length) (h0 : 0 ≤ i) (h1 : i < 8) : ald 0 (putM h p M) (p + 9) i = some (M 9 i.toNat) := by rw [pm_ald hp (show tyM 9 = some 0 from rfl), if_pos ⟨h0, h1⟩]
theorem ps9 {i x : Int} (hp : p + 19 ≤ h.length) (h0 : 0 ≤ i) (h1 : i < 8) : ast 0 (putM h p M) (p + 9) i x = some (putM h p (up M 9 i.toNat x)) := pm_ast hp (show tyM 9 = some 0 from rfl) ⟨h0, h1⟩ (fun h => absurd h (by decide))
theorem pa10 {i : Int} (hp : p + 19 ≤ h.length) (h0 : 0 ≤ i) (h1 : i < 32) : ald 0 (putM h p M) (p + 10) i = some (M 10 i.toNat) := by rw [pm_ald hp (show tyM 10 = some 0 from rfl), if_pos ⟨h0, h1⟩]
theorem ps10 {i x : Int} (hp : p + 19 ≤ h.length) (h0 : 0 ≤ i) (h1 : i < 32) : ast 0 (putM h p M) (p + 10) i x = some (putM h p (up M 10 i.toNat x)) := pm_ast hp (show tyM 10 = some 0 from rfl) ⟨h0, h1⟩ (fun h => absurd h (by decide))
theorem pa12 {i : Int} (hp : p + 19 ≤ h.length) (h0 : 0 ≤ i) (h1 : i < 32) : ald 0 (putM h p M) (p + 12) i = some (M 12 i.toNat) := by rw [pm_ald hp (show tyM 12 = some 0 from rfl), if_pos ⟨h0, h1⟩]
theorem ps12 {i x : Int} (hp : p + 19 ≤ h.length) (h0 : 0 ≤ i) (h1 : i < 32) : ast 0 (putM h p M) (p + 12) i x = some (putM h p (up M 12 i.toNat x)) := pm_ast hp (show tyM 12 = some 0 from rfl) ⟨h0, h1⟩ (fun h => absurd h (by decide))
theorem pa13 {i : Int} (hp : p + 19 ≤ h.length) (h0 : 0 ≤ i) (h1 : i < 4) : ald 0 (putM h p M) (p + 13) i = some (M 13 i.toNat) := by rw [pm_ald hp (show tyM 13 = some 0 from rfl), if_pos ⟨h0, h1⟩]
theorem ps13 {i x : Int} (hp : p + 19 ≤ h.length) (h0 : 0 ≤ i) (h1 : i < 4) : ast 0 (putM h p M) (p + 13) i x = some (putM h p (up M 13 i.toNat x)) := pm_ast hp (show tyM 13 = some 0 from rfl) ⟨h0, h1⟩ (fun h => absurd h (by decide))
theorem pa14 {i : Int} (hp : p + 19 ≤ h.length) (h0 : 0 ≤ i) (h1 : i < 4) : ald 0 (putM h p M) (p + 14) i = some (M 14 i.toNat) := by rw [pm_ald hp (show tyM 14 = some 0 from rfl), if_pos ⟨h0, h1⟩]
theorem ps14 {i x : Int} (hp : p + 19 ≤ h.length) (h0 : 0 ≤ i) (h1 : i < 4) : ast 0 (putM h p M) (p + 14) i x = some (putM h p (up M 14 i.toNat x)) := pm_ast hp (show tyM 14 = some 0 from rfl) ⟨h0, h1⟩ (fun h => absurd h (by decide))
theorem pa15 {i : Int} (hp : p + 19 ≤ h.length) (h0 : 0 ≤ i) (h1 : i < 4) : ald 0 (putM h p M) (p + 15) i = some (M 15 i.toNat) := by rw [pm_ald hp (show tyM 15 = some 0 from rfl), if_pos ⟨h0, h1⟩]
theorem ps15 {i x : Int} (hp : p + 19 ≤ h.length) (h0 : 0 ≤ i) (h1 : i < 4) : ast 0 (putM h p M) (p + 15) i x = some (putM h p (up M 15 i.toNat x)) := pm_ast hp (show tyM 15 = some 0 from rfl) ⟨h0, h1⟩ (fun h => absurd h (by decide))
theorem pa16 {i : Int} (hp : p + 19 ≤ h.length) (h0 : 0 ≤ i) (h1 : i < 4) : ald 0 (putM h p M) (p + 16) i = some (M 16 i.toNat) := by rw [pm_ald hp (show tyM 16 = some 0 from rfl), if_pos ⟨h0, h1⟩]
theorem ps16 {i x : Int} (hp : p + 19 ≤ h.length) (h0 : 0 ≤ i) (h1 : i < 4) : ast 0 (putM h p M) (p + 16) i x = some (putM h p (up M 16 i.toNat x)) := pm_ast hp (show tyM 16 = some 0 from rfl) ⟨h0, h1⟩ (fun h => absurd h (by decide))
theorem pa17 {i : Int} (hp : p + 19 ≤ h.length) (h0 : 0 ≤ i) (h1 : i < 4) : ald 0 (putM h p M) (p + 17) i = some (M 17 i.toNat) := by rw [pm_ald hp (show tyM 17 = some 0 from rfl), if_pos ⟨h0, h1⟩]
theorem ps17 {i x : Int} (hp : p + 19 ≤ h.length) (h0 : 0 ≤ i) (h1 : i < 4) : ast 0 (putM h p M) (p + 17) i x = some (putM h p (up M 17 i.toNat x)) := pm_ast hp (show tyM 17 = some 0 from rfl) ⟨h0, h1⟩ (fun h => absurd h (by decide))
theorem pa18 {i : Int} (hp : p + 19 ≤ h.length) (h0 : 0 ≤ i) (h1 : i < 4) : ald 2 (putM h p M) (p + 18) i = some (M 18 i.toNat) := by rw [pm_ald hp (show tyM 18 = some 2 from rfl), if_pos ⟨h0, h1⟩]
theorem ps18 {i x : Int} (hp : p + 19 ≤ h.length) (h0 : 0 ≤ i) (h1 : i < 4) (h2 : 0 ≤ x) (h3 : x < 2) : ast 2 (putM h p M) (p + 18) i x = some (putM h p (up M 18 i.toNat x)) := pm_ast hp (show tyM 18 = some 2 from rfl) ⟨h0, h1⟩ (fun _ => ⟨h2, h3⟩)
end
