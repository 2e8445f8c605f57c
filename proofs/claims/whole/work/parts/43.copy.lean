set_option linter.unusedVariables false
set_option linter.unusedSimpArgs false
/-! ===== a machine at a place, and copying ===== -/
def At (h : PH) (p : Nat) (M : MM) : Prop := p + 19 ≤ h.length ∧ ∀ k, k < 19 → h[p + k]? = some (cellM p M k)
theorem At_put {h : PH} {p : Nat} {M : MM} (a : At h p M) : putM h p M = h := (putM_ext rfl a.1 a.2 (fun _ _ => rfl)).symm
theorem At_of {h : PH} {p : Nat} {M : MM} (hp : p + 19 ≤ h.length) : At (putM h p M) p M := ⟨by rw [putM_len]; exact hp, fun k hk => putM_in hp hk⟩
/-- two machines apart -/
def apart (p q : Nat) : Prop := p + 19 ≤ q ∨ q + 19 ≤ p
theorem At_frame {h : PH} {p q : Nat} {M N : MM} (a : At h q N) (d : apart p q) : At (putM h p M) q N := ⟨by rw [putM_len]; exact a.1, fun k hk => by
  rw [putM_out (by unfold apart at d; omega)]; exact a.2 k hk⟩
theorem putM_congr {h : PH} {p : Nat} {M M' : MM} (e : ∀ k, k < 19 → cellM p M k = cellM p M' k) : putM h p M = putM h p M' := by
  unfold putM
  congr 1
  funext a c
  split
  · exact e _ (by omega)
  · rfl
section
variable {h : PH} {p q : Nat} {M N : MM}
theorem at_gfr0_0 (a : At h q N) : gfr h 3 q 0 = some (q + 1) := by have := pm_gfr0_0 (h := h) (p := q) (M := N) a.1; rw [At_put a] at this; exact this
theorem at_gfr0_1 (a : At h q N) : gfr h 3 q 1 = some (q + 11) := by have := pm_gfr0_1 (h := h) (p := q) (M := N) a.1; rw [At_put a] at this; exact this
theorem at_gfr0_2 (a : At h q N) : gfr h 3 q 2 = some (N 0 2).toNat := by have := pm_gfr0_2 (h := h) (p := q) (M := N) a.1; rw [At_put a] at this; exact this
theorem at_gfi0_3 (a : At h q N) : gfi h 3 q 3 = some (N 0 3) := by have := pm_gfi0_3 (h := h) (p := q) (M := N) a.1; rw [At_put a] at this; exact this
theorem at_gfi1_0 (a : At h q N) : gfi h 6 (q + 1) 0 = some (N 1 0) := by have := pm_gfi1_0 (h := h) (p := q) (M := N) a.1; rw [At_put a] at this; exact this
theorem at_gfi1_1 (a : At h q N) : gfi h 6 (q + 1) 1 = some (N 1 1) := by have := pm_gfi1_1 (h := h) (p := q) (M := N) a.1; rw [At_put a] at this; exact this
theorem at_gfr1_2 (a : At h q N) : gfr h 6 (q + 1) 2 = some (q + 2) := by have := pm_gfr1_2 (h := h) (p := q) (M := N) a.1; rw [At_put a] at this; exact this
theorem at_gfr1_3 (a : At h q N) : gfr h 6 (q + 1) 3 = some (q + 3) := by have := pm_gfr1_3 (h := h) (p := q) (M := N) a.1; rw [At_put a] at this; exact this
theorem at_gfr1_4 (a : At h q N) : gfr h 6 (q + 1) 4 = some (q + 4) := by have := pm_gfr1_4 (h := h) (p := q) (M := N) a.1; rw [At_put a] at this; exact this
theorem at_gfr1_5 (a : At h q N) : gfr h 6 (q + 1) 5 = some (q + 5) := by have := pm_gfr1_5 (h := h) (p := q) (M := N) a.1; rw [At_put a] at this; exact this
theorem at_gfr1_6 (a : At h q N) : gfr h 6 (q + 1) 6 = some (q + 6) := by have := pm_gfr1_6 (h := h) (p := q) (M := N) a.1; rw [At_put a] at this; exact this
theorem at_gfr1_7 (a : At h q N) : gfr h 6 (q + 1) 7 = some (q + 7) := by have := pm_gfr1_7 (h := h) (p := q) (M := N) a.1; rw [At_put a] at this; exact this
theorem at_gfr1_8 (a : At h q N) : gfr h 6 (q + 1) 8 = some (q + 8) := by have := pm_gfr1_8 (h := h) (p := q) (M := N) a.1; rw [At_put a] at this; exact this
theorem at_gfr1_9 (a : At h q N) : gfr h 6 (q + 1) 9 = some (q + 9) := by have := pm_gfr1_9 (h := h) (p := q) (M := N) a.1; rw [At_put a] at this; exact this
theorem at_gfr1_10 (a : At h q N) : gfr h 6 (q + 1) 10 = some (q + 10) := by have := pm_gfr1_10 (h := h) (p := q) (M := N) a.1; rw [At_put a] at this; exact this
theorem at_gfi11_0 (a : At h q N) : gfi h 0 (q + 11) 0 = some (N 11 0) := by have := pm_gfi11_0 (h := h) (p := q) (M := N) a.1; rw [At_put a] at this; exact this
theorem at_gfi11_1 (a : At h q N) : gfi h 0 (q + 11) 1 = some (N 11 1) := by have := pm_gfi11_1 (h := h) (p := q) (M := N) a.1; rw [At_put a] at this; exact this
theorem at_gfi11_2 (a : At h q N) : gfi h 0 (q + 11) 2 = some (N 11 2) := by have := pm_gfi11_2 (h := h) (p := q) (M := N) a.1; rw [At_put a] at this; exact this
theorem at_gfr11_3 (a : At h q N) : gfr h 0 (q + 11) 3 = some (q + 12) := by have := pm_gfr11_3 (h := h) (p := q) (M := N) a.1; rw [At_put a] at this; exact this
theorem at_gfr11_4 (a : At h q N) : gfr h 0 (q + 11) 4 = some (q + 13) := by have := pm_gfr11_4 (h := h) (p := q) (M := N) a.1; rw [At_put a] at this; exact this
theorem at_gfr11_5 (a : At h q N) : gfr h 0 (q + 11) 5 = some (q + 14) := by have := pm_gfr11_5 (h := h) (p := q) (M := N) a.1; rw [At_put a] at this; exact this
theorem at_gfr11_6 (a : At h q N) : gfr h 0 (q + 11) 6 = some (q + 15) := by have := pm_gfr11_6 (h := h) (p := q) (M := N) a.1; rw [At_put a] at this; exact this
theorem at_gfr11_7 (a : At h q N) : gfr h 0 (q + 11) 7 = some (q + 16) := by have := pm_gfr11_7 (h := h) (p := q) (M := N) a.1; rw [At_put a] at this; exact this
theorem at_gfr11_8 (a : At h q N) : gfr h 0 (q + 11) 8 = some (q + 17) := by have := pm_gfr11_8 (h := h) (p := q) (M := N) a.1; rw [At_put a] at this; exact this
theorem at_gfr11_9 (a : At h q N) : gfr h 0 (q + 11) 9 = some (q + 18) := by have := pm_gfr11_9 (h := h) (p := q) (M := N) a.1; rw [At_put a] at this; exact this
theorem at_a2 {i : Int} (a : At h q N) (h0 : 0 ≤ i) (h1 : i < 32) : ald 0 h (q + 2) i = some (N 2 i.toNat) := by have := pa2 (h := h) (p := q) (M := N) a.1 h0 h1; rw [At_put a] at this; exact this
theorem at_a3 {i : Int} (a : At h q N) (h0 : 0 ≤ i) (h1 : i < 32) : ald 0 h (q + 3) i = some (N 3 i.toNat) := by have := pa3 (h := h) (p := q) (M := N) a.1 h0 h1; rw [At_put a] at this; exact this
theorem at_a4 {i : Int} (a : At h q N) (h0 : 0 ≤ i) (h1 : i < 32) : ald 0 h (q + 4) i = some (N 4 i.toNat) := by have := pa4 (h := h) (p := q) (M := N) a.1 h0 h1; rw [At_put a] at this; exact this
theorem at_a5 {i : Int} (a : At h q N) (h0 : 0 ≤ i) (h1 : i < 32) : ald 0 h (q + 5) i = some (N 5 i.toNat) := by have := pa5 (h := h) (p := q) (M := N) a.1 h0 h1; rw [At_put a] at this; exact this
theorem at_a6 {i : Int} (a : At h q N) (h0 : 0 ≤ i) (h1 : i < 32) : ald 0 h (q + 6) i = some (N 6 i.toNat) := by have := pa6 (h := h) (p := q) (M := N) a.1 h0 h1; rw [At_put a] at this; exact this
theorem at_a7 {i : Int} (a : At h q N) (h0 : 0 ≤ i) (h1 : i < 32) : ald 0 h (q + 7) i = some (N 7 i.toNat) := by have := pa7 (h := h) (p := q) (M := N) a.1 h0 h1; rw [At_put a] at this; exact this
theorem at_a8 {i : Int} (a : At h q N) (h0 : 0 ≤ i) (h1 : i < 32) : ald 0 h (q + 8) i = some (N 8 i.toNat) := by have := pa8 (h := h) (p := q) (M := N) a.1 h0 h1; rw [At_put a] at this; exact this
theorem at_a9 {i : Int} (a : At h q N) (h0 : 0 ≤ i) (h1 : i < 8) : ald 0 h (q + 9) i = some (N 9 i.toNat) := by have := pa9 (h := h) (p := q) (M := N) a.1 h0 h1; rw [At_put a] at this; exact this
theorem at_a10 {i : Int} (a : At h q N) (h0 : 0 ≤ i) (h1 : i < 32) : ald 0 h (q + 10) i = some (N 10 i.toNat) := by have := pa10 (h := h) (p := q) (M := N) a.1 h0 h1; rw [At_put a] at this; exact this
theorem at_a12 {i : Int} (a : At h q N) (h0 : 0 ≤ i) (h1 : i < 32) : ald 0 h (q + 12) i = some (N 12 i.toNat) := by have := pa12 (h := h) (p := q) (M := N) a.1 h0 h1; rw [At_put a] at this; exact this
theorem at_a13 {i : Int} (a : At h q N) (h0 : 0 ≤ i) (h1 : i < 4) : ald 0 h (q + 13) i = some (N 13 i.toNat) := by have := pa13 (h := h) (p := q) (M := N) a.1 h0 h1; rw [At_put a] at this; exact this
theorem at_a14 {i : Int} (a : At h q N) (h0 : 0 ≤ i) (h1 : i < 4) : ald 0 h (q + 14) i = some (N 14 i.toNat) := by have := pa14 (h := h) (p := q) (M := N) a.1 h0 h1; rw [At_put a] at this; exact this
theorem at_a15 {i : Int} (a : At h q N) (h0 : 0 ≤ i) (h1 : i < 4) : ald 0 h (q + 15) i = some (N 15 i.toNat) := by have := pa15 (h := h) (p := q) (M := N) a.1 h0 h1; rw [At_put a] at this; exact this
theorem at_a16 {i : Int} (a : At h q N) (h0 : 0 ≤ i) (h1 : i < 4) : ald 0 h (q + 16) i = some (N 16 i.toNat) := by have := pa16 (h := h) (p := q) (M := N) a.1 h0 h1; rw [At_put a] at this; exact this
theorem at_a17 {i : Int} (a : At h q N) (h0 : 0 ≤ i) (h1 : i < 4) : ald 0 h (q + 17) i = some (N 17 i.toNat) := by have := pa17 (h := h) (p := q) (M := N) a.1 h0 h1; rw [At_put a] at this; exact this
theorem at_a18 {i : Int} (a : At h q N) (h0 : 0 ≤ i) (h1 : i < 4) : ald 2 h (q + 18) i = some (N 18 i.toNat) := by have := pa18 (h := h) (p := q) (M := N) a.1 h0 h1; rw [At_put a] at this; exact this
/-- a row written over -/
def upr (M : MM) (k : Nat) (f : Nat → Int) : MM := fun a i => if a = k then f i else M a i
theorem cellM_upr {p k j : Nat} {M : MM} {f : Nat → Int} (h : j ≠ k) : cellM p (upr M k f) j = cellM p M j := by
  unfold cellM
  by_cases h0 : j = 0
  · simp [h0] at h ⊢
    simp [upr, h]
  by_cases h1 : j = 1
  · simp [h1] at h ⊢
    simp [upr, h]
  by_cases h2 : j = 11
  · simp [h2] at h ⊢
    simp [upr, h]
  simp only [if_neg h0, if_neg h1, if_neg h2]
  congr 3
  funext t
  simp [upr, h]
theorem r_acpy {k : Nat} (hp : p + 19 ≤ h.length) (a : At (putM h p M) q N) (d : apart p q) (hk : tyM k = some 0) : acpy (putM h p M) (q + k) 0 (p + k) 0 (lnM k) = some (putM h p (upr M k (N k))) := by
  obtain ⟨h1, h2⟩ := cellM_arr (p := p) (M := M) hk
  obtain ⟨h3, -⟩ := cellM_arr (p := q) (M := N) hk
  obtain ⟨h4, -⟩ := cellM_arr (p := p) (M := upr M k (N k)) hk
  unfold acpy
  rw [a.2 k h2, putM_in hp h2, h1, h3]
  dsimp only
  rw [if_pos (by simp; unfold apart at d; omega)]
  congr 1
  rw [show ((List.range (lnM k)).map (M k)).take (0 : Int).toNat ++ (((List.range (lnM k)).map (N k)).drop (0 : Int).toNat).take ((lnM k : Nat) : Int).toNat ++ ((List.range (lnM k)).map (M k)).drop ((0 : Int).toNat + ((lnM k : Nat) : Int).toNat) = (List.range (lnM k)).map (upr M k (N k) k) by
    simp
    rw [List.take_of_length_le (by simp), List.drop_eq_nil_of_le (by simp), List.append_nil, show upr M k (N k) k = N k by funext i; simp [upr]]]
  rw [← h4]
  exact putM_set hp h2 (fun j _ hj => cellM_upr hj)
theorem upr_ne {k a : Nat} {f : Nat → Int} (h : a ≠ k) : upr M k f a = M a := by funext i; simp [upr, h]
theorem upr_eq {k : Nat} {f : Nat → Int} : upr M k f k = f := by funext i; simp [upr]
theorem r_cpyT (hp : p + 19 ≤ h.length) (a : At h q N) (d : apart p q) : FX6_copyFrom (putM h p M) (p + 1) (q + 1) = some (putM h p (upr (upr (upr (upr (upr (upr (upr (upr (up (up M 1 0 (N 1 0)) 1 1 (N 1 1)) 2 (N 2)) 3 (N 3)) 4 (N 4)) 5 (N 5)) 6 (N 6)) 7 (N 7)) 8 (N 8)) 9 (N 9))) := by
  have aa : ∀ M, At (putM h p M) q N := fun M => At_frame a d
  have c2 := fun M => r_acpy (M := M) (k := 2) hp (aa M) d rfl
  have c3 := fun M => r_acpy (M := M) (k := 3) hp (aa M) d rfl
  have c4 := fun M => r_acpy (M := M) (k := 4) hp (aa M) d rfl
  have c5 := fun M => r_acpy (M := M) (k := 5) hp (aa M) d rfl
  have c6 := fun M => r_acpy (M := M) (k := 6) hp (aa M) d rfl
  have c7 := fun M => r_acpy (M := M) (k := 7) hp (aa M) d rfl
  have c8 := fun M => r_acpy (M := M) (k := 8) hp (aa M) d rfl
  have c9 := fun M => r_acpy (M := M) (k := 9) hp (aa M) d rfl
  rw [show ((lnM 2 : Nat) : Int) = 32 from rfl] at c2
  rw [show ((lnM 3 : Nat) : Int) = 32 from rfl] at c3
  rw [show ((lnM 4 : Nat) : Int) = 32 from rfl] at c4
  rw [show ((lnM 5 : Nat) : Int) = 32 from rfl] at c5
  rw [show ((lnM 6 : Nat) : Int) = 32 from rfl] at c6
  rw [show ((lnM 7 : Nat) : Int) = 32 from rfl] at c7
  rw [show ((lnM 8 : Nat) : Int) = 32 from rfl] at c8
  rw [show ((lnM 9 : Nat) : Int) = 8 from rfl] at c9
  unfold FX6_copyFrom
  simp only [pm_isO0 hp, pm_gfr0_0 hp, pm_gfr0_1 hp, pm_gfr0_2 hp, pm_gfi0_3 hp, pm_pfi0_3 hp, pm_isO1 hp, pm_gfi1_0 hp, pm_pfi1_0 hp, pm_gfi1_1 hp, pm_pfi1_1 hp, pm_gfr1_2 hp, pm_gfr1_3 hp, pm_gfr1_4 hp, pm_gfr1_5 hp, pm_gfr1_6 hp, pm_gfr1_7 hp, pm_gfr1_8 hp, pm_gfr1_9 hp, pm_gfr1_10 hp, pm_isO11 hp, pm_gfi11_0 hp, pm_pfi11_0 hp, pm_gfi11_1 hp, pm_pfi11_1 hp, pm_gfi11_2 hp, pm_pfi11_2 hp, pm_gfr11_3 hp, pm_gfr11_4 hp, pm_gfr11_5 hp, pm_gfr11_6 hp, pm_gfr11_7 hp, pm_gfr11_8 hp, pm_gfr11_9 hp, pa2 hp, ps2 hp, pa3 hp, ps3 hp, pa4 hp, ps4 hp, pa5 hp, ps5 hp, pa6 hp, ps6 hp, pa7 hp, ps7 hp, pa8 hp, ps8 hp, pa9 hp, ps9 hp, pa10 hp, ps10 hp, pa12 hp, ps12 hp, pa13 hp, ps13 hp, pa14 hp, ps14 hp, pa15 hp, ps15 hp, pa16 hp, ps16 hp, pa17 hp, ps17 hp, pa18 hp, ps18 hp, Option.bind_some, w32_eq, Int.toNat_natCast, if_true, if_false, at_gfr0_0 (aa _), at_gfr0_1 (aa _), at_gfr0_2 (aa _), at_gfi0_3 (aa _), at_gfi1_0 (aa _), at_gfi1_1 (aa _), at_gfr1_2 (aa _), at_gfr1_3 (aa _), at_gfr1_4 (aa _), at_gfr1_5 (aa _), at_gfr1_6 (aa _), at_gfr1_7 (aa _), at_gfr1_8 (aa _), at_gfr1_9 (aa _), at_gfr1_10 (aa _), at_gfi11_0 (aa _), at_gfi11_1 (aa _), at_gfi11_2 (aa _), at_gfr11_3 (aa _), at_gfr11_4 (aa _), at_gfr11_5 (aa _), at_gfr11_6 (aa _), at_gfr11_7 (aa _), at_gfr11_8 (aa _), at_gfr11_9 (aa _), c2, c3, c4, c5, c6, c7, c8, c9, Option.bind_some]
/-- the cores' rows below j -/
def cpj (M N : MM) (j : Nat) : MM := fun a i => if 13 ≤ a ∧ a ≤ 18 ∧ i < j then N a i else M a i
theorem r_cpyC (hp : p + 19 ≤ h.length) (a : At h q N) (d : apart p q) (hb : ∀ c : Nat, c < 4 → N 18 c = 0 ∨ N 18 c = 1) : FX0_copyFrom (putM h p M) (p + 11) (q + 11) = some (putM h p (cpj (upr (up (up (up M 11 0 (N 11 0)) 11 1 (N 11 1)) 11 2 (N 11 2)) 12 (N 12)) N 4)) := by
  have aa : ∀ M, At (putM h p M) q N := fun M => At_frame a d
  have c12 := fun M => r_acpy (M := M) (k := 12) hp (aa M) d rfl
  rw [show ((lnM 12 : Nat) : Int) = 32 from rfl] at c12
  unfold FX0_copyFrom
  simp only [pm_isO0 hp, pm_gfr0_0 hp, pm_gfr0_1 hp, pm_gfr0_2 hp, pm_gfi0_3 hp, pm_pfi0_3 hp, pm_isO1 hp, pm_gfi1_0 hp, pm_pfi1_0 hp, pm_gfi1_1 hp, pm_pfi1_1 hp, pm_gfr1_2 hp, pm_gfr1_3 hp, pm_gfr1_4 hp, pm_gfr1_5 hp, pm_gfr1_6 hp, pm_gfr1_7 hp, pm_gfr1_8 hp, pm_gfr1_9 hp, pm_gfr1_10 hp, pm_isO11 hp, pm_gfi11_0 hp, pm_pfi11_0 hp, pm_gfi11_1 hp, pm_pfi11_1 hp, pm_gfi11_2 hp, pm_pfi11_2 hp, pm_gfr11_3 hp, pm_gfr11_4 hp, pm_gfr11_5 hp, pm_gfr11_6 hp, pm_gfr11_7 hp, pm_gfr11_8 hp, pm_gfr11_9 hp, pa2 hp, ps2 hp, pa3 hp, ps3 hp, pa4 hp, ps4 hp, pa5 hp, ps5 hp, pa6 hp, ps6 hp, pa7 hp, ps7 hp, pa8 hp, ps8 hp, pa9 hp, ps9 hp, pa10 hp, ps10 hp, pa12 hp, ps12 hp, pa13 hp, ps13 hp, pa14 hp, ps14 hp, pa15 hp, ps15 hp, pa16 hp, ps16 hp, pa17 hp, ps17 hp, pa18 hp, ps18 hp, Option.bind_some, w32_eq, Int.toNat_natCast, if_true, if_false, at_gfr0_0 (aa _), at_gfr0_1 (aa _), at_gfr0_2 (aa _), at_gfi0_3 (aa _), at_gfi1_0 (aa _), at_gfi1_1 (aa _), at_gfr1_2 (aa _), at_gfr1_3 (aa _), at_gfr1_4 (aa _), at_gfr1_5 (aa _), at_gfr1_6 (aa _), at_gfr1_7 (aa _), at_gfr1_8 (aa _), at_gfr1_9 (aa _), at_gfr1_10 (aa _), at_gfi11_0 (aa _), at_gfi11_1 (aa _), at_gfi11_2 (aa _), at_gfr11_3 (aa _), at_gfr11_4 (aa _), at_gfr11_5 (aa _), at_gfr11_6 (aa _), at_gfr11_7 (aa _), at_gfr11_8 (aa _), at_gfr11_9 (aa _), c12, Option.bind_some]
  generalize upr (up (up (up M 11 0 (N 11 0)) 11 1 (N 11 1)) 11 2 (N 11 2)) 12 (N 12) = M1
  have := lp_det (f := fun st : Int × PH => LX0_copyFrom_41 (p + 11) (q + 11) st.1 st.2) (fun j => ((j : Int), putM h p (cpj M1 N j))) (a := 0) (b := 4) (r := putM h p (cpj M1 N 4)) (by omega) (by omega) (fun j h1 h2 => ?_) ?_
  · rw [show cpj M1 N 0 = M1 by funext a i; simp [cpj]] at this
    exact (congrArg (fun o => Option.bind o some) this).trans rfl
  · have hbj := hb j h2
    unfold LX0_copyFrom_41
    rw [if_pos (by rw [w32_nat (by omega)]; have : w32 4 = 4 := rfl; omega)]
    simp (disch := omega) only [pm_isO0 hp, pm_gfr0_0 hp, pm_gfr0_1 hp, pm_gfr0_2 hp, pm_gfi0_3 hp, pm_pfi0_3 hp, pm_isO1 hp, pm_gfi1_0 hp, pm_pfi1_0 hp, pm_gfi1_1 hp, pm_pfi1_1 hp, pm_gfr1_2 hp, pm_gfr1_3 hp, pm_gfr1_4 hp, pm_gfr1_5 hp, pm_gfr1_6 hp, pm_gfr1_7 hp, pm_gfr1_8 hp, pm_gfr1_9 hp, pm_gfr1_10 hp, pm_isO11 hp, pm_gfi11_0 hp, pm_pfi11_0 hp, pm_gfi11_1 hp, pm_pfi11_1 hp, pm_gfi11_2 hp, pm_pfi11_2 hp, pm_gfr11_3 hp, pm_gfr11_4 hp, pm_gfr11_5 hp, pm_gfr11_6 hp, pm_gfr11_7 hp, pm_gfr11_8 hp, pm_gfr11_9 hp, pa2 hp, ps2 hp, pa3 hp, ps3 hp, pa4 hp, ps4 hp, pa5 hp, ps5 hp, pa6 hp, ps6 hp, pa7 hp, ps7 hp, pa8 hp, ps8 hp, pa9 hp, ps9 hp, pa10 hp, ps10 hp, pa12 hp, ps12 hp, pa13 hp, ps13 hp, pa14 hp, ps14 hp, pa15 hp, ps15 hp, pa16 hp, ps16 hp, pa17 hp, ps17 hp, pa18 hp, ps18 hp, Option.bind_some, w32_eq, Int.toNat_natCast, if_true, if_false, at_gfr0_0 (aa _), at_gfr0_1 (aa _), at_gfr0_2 (aa _), at_gfi0_3 (aa _), at_gfi1_0 (aa _), at_gfi1_1 (aa _), at_gfr1_2 (aa _), at_gfr1_3 (aa _), at_gfr1_4 (aa _), at_gfr1_5 (aa _), at_gfr1_6 (aa _), at_gfr1_7 (aa _), at_gfr1_8 (aa _), at_gfr1_9 (aa _), at_gfr1_10 (aa _), at_gfi11_0 (aa _), at_gfi11_1 (aa _), at_gfi11_2 (aa _), at_gfr11_3 (aa _), at_gfr11_4 (aa _), at_gfr11_5 (aa _), at_gfr11_6 (aa _), at_gfr11_7 (aa _), at_gfr11_8 (aa _), at_gfr11_9 (aa _), at_a2 (aa _), at_a3 (aa _), at_a4 (aa _), at_a5 (aa _), at_a6 (aa _), at_a7 (aa _), at_a8 (aa _), at_a9 (aa _), at_a10 (aa _), at_a12 (aa _), at_a13 (aa _), at_a14 (aa _), at_a15 (aa _), at_a16 (aa _), at_a17 (aa _), at_a18 (aa _), Option.bind_some]
    congr 3
    congr 1
    funext b i
    unfold up cpj
    by_cases hi : i = j
    · subst hi
      by_cases b18 : b = 18
      · subst b18; simp
      by_cases b17 : b = 17
      · subst b17; simp
      by_cases b16 : b = 16
      · subst b16; simp
      by_cases b15 : b = 15
      · subst b15; simp
      by_cases b14 : b = 14
      · subst b14; simp
      by_cases b13 : b = 13
      · subst b13; simp
      simp [b18, b17, b16, b15, b14, b13]
      intro q1 q2
      omega
    · simp only [hi, and_false, if_false, show (i < j + 1) = (i < j) by simp only [eq_iff_iff]; omega]
  · unfold LX0_copyFrom_41
    rw [if_neg (show ¬ w32 ((4 : Nat) : Int) < w32 4 by decide)]
/-- what a copy is -/
def cpM (M N : MM) : MM := fun a i => if a = 10 then M 10 i else N a i
theorem r_cpy (hp : p + 19 ≤ h.length) (a : At h q N) (d : apart p q) (hb : ∀ c : Nat, c < 4 → N 18 c = 0 ∨ N 18 c = 1) (hf : (N 0 2).toNat < h.length) (hf0 : 0 ≤ N 0 2) : FX3_copyFrom (putM h p M) p q = some (putM h p (cpM M N)) := by
  have aa : ∀ M, At (putM h p M) q N := fun M => At_frame a d
  have eT := fun M => r_cpyT (M := M) hp a d
  have eC := fun M => r_cpyC (M := M) hp a d hb
  unfold FX3_copyFrom
  simp only [pm_isO0 hp, pm_gfr0_0 hp, pm_gfr0_1 hp, pm_gfr0_2 hp, pm_gfi0_3 hp, pm_pfi0_3 hp, pm_isO1 hp, pm_gfi1_0 hp, pm_pfi1_0 hp, pm_gfi1_1 hp, pm_pfi1_1 hp, pm_gfr1_2 hp, pm_gfr1_3 hp, pm_gfr1_4 hp, pm_gfr1_5 hp, pm_gfr1_6 hp, pm_gfr1_7 hp, pm_gfr1_8 hp, pm_gfr1_9 hp, pm_gfr1_10 hp, pm_isO11 hp, pm_gfi11_0 hp, pm_pfi11_0 hp, pm_gfi11_1 hp, pm_pfi11_1 hp, pm_gfi11_2 hp, pm_pfi11_2 hp, pm_gfr11_3 hp, pm_gfr11_4 hp, pm_gfr11_5 hp, pm_gfr11_6 hp, pm_gfr11_7 hp, pm_gfr11_8 hp, pm_gfr11_9 hp, pa2 hp, ps2 hp, pa3 hp, ps3 hp, pa4 hp, ps4 hp, pa5 hp, ps5 hp, pa6 hp, ps6 hp, pa7 hp, ps7 hp, pa8 hp, ps8 hp, pa9 hp, ps9 hp, pa10 hp, ps10 hp, pa12 hp, ps12 hp, pa13 hp, ps13 hp, pa14 hp, ps14 hp, pa15 hp, ps15 hp, pa16 hp, ps16 hp, pa17 hp, ps17 hp, pa18 hp, ps18 hp, Option.bind_some, w32_eq, Int.toNat_natCast, if_true, if_false, at_gfr0_0 (aa _), at_gfr0_1 (aa _), at_gfr0_2 (aa _), at_gfi0_3 (aa _), at_gfi1_0 (aa _), at_gfi1_1 (aa _), at_gfr1_2 (aa _), at_gfr1_3 (aa _), at_gfr1_4 (aa _), at_gfr1_5 (aa _), at_gfr1_6 (aa _), at_gfr1_7 (aa _), at_gfr1_8 (aa _), at_gfr1_9 (aa _), at_gfr1_10 (aa _), at_gfi11_0 (aa _), at_gfi11_1 (aa _), at_gfi11_2 (aa _), at_gfr11_3 (aa _), at_gfr11_4 (aa _), at_gfr11_5 (aa _), at_gfr11_6 (aa _), at_gfr11_7 (aa _), at_gfr11_8 (aa _), at_gfr11_9 (aa _), eT, eC, Option.bind_some]
  rw [pm_pfr0_2 hp hf, Option.bind_some]
  simp only [pm_isO0 hp, pm_gfr0_0 hp, pm_gfr0_1 hp, pm_gfr0_2 hp, pm_gfi0_3 hp, pm_pfi0_3 hp, pm_isO1 hp, pm_gfi1_0 hp, pm_pfi1_0 hp, pm_gfi1_1 hp, pm_pfi1_1 hp, pm_gfr1_2 hp, pm_gfr1_3 hp, pm_gfr1_4 hp, pm_gfr1_5 hp, pm_gfr1_6 hp, pm_gfr1_7 hp, pm_gfr1_8 hp, pm_gfr1_9 hp, pm_gfr1_10 hp, pm_isO11 hp, pm_gfi11_0 hp, pm_pfi11_0 hp, pm_gfi11_1 hp, pm_pfi11_1 hp, pm_gfi11_2 hp, pm_pfi11_2 hp, pm_gfr11_3 hp, pm_gfr11_4 hp, pm_gfr11_5 hp, pm_gfr11_6 hp, pm_gfr11_7 hp, pm_gfr11_8 hp, pm_gfr11_9 hp, pa2 hp, ps2 hp, pa3 hp, ps3 hp, pa4 hp, ps4 hp, pa5 hp, ps5 hp, pa6 hp, ps6 hp, pa7 hp, ps7 hp, pa8 hp, ps8 hp, pa9 hp, ps9 hp, pa10 hp, ps10 hp, pa12 hp, ps12 hp, pa13 hp, ps13 hp, pa14 hp, ps14 hp, pa15 hp, ps15 hp, pa16 hp, ps16 hp, pa17 hp, ps17 hp, pa18 hp, ps18 hp, Option.bind_some, w32_eq, Int.toNat_natCast, if_true, if_false, at_gfr0_0 (aa _), at_gfr0_1 (aa _), at_gfr0_2 (aa _), at_gfi0_3 (aa _), at_gfi1_0 (aa _), at_gfi1_1 (aa _), at_gfr1_2 (aa _), at_gfr1_3 (aa _), at_gfr1_4 (aa _), at_gfr1_5 (aa _), at_gfr1_6 (aa _), at_gfr1_7 (aa _), at_gfr1_8 (aa _), at_gfr1_9 (aa _), at_gfr1_10 (aa _), at_gfi11_0 (aa _), at_gfi11_1 (aa _), at_gfi11_2 (aa _), at_gfr11_3 (aa _), at_gfr11_4 (aa _), at_gfr11_5 (aa _), at_gfr11_6 (aa _), at_gfr11_7 (aa _), at_gfr11_8 (aa _), at_gfr11_9 (aa _), Option.bind_some]
  congr 1
  apply putM_congr
  intro k hk
  rcases Nat.lt_or_ge k 13 with h13 | h13
  · have hk2 : k = 0 ∨ k = 1 ∨ k = 2 ∨ k = 3 ∨ k = 4 ∨ k = 5 ∨ k = 6 ∨ k = 7 ∨ k = 8 ∨ k = 9 ∨ k = 10 ∨ k = 11 ∨ k = 12 := by omega
    rcases hk2 with rfl | rfl | rfl | rfl | rfl | rfl | rfl | rfl | rfl | rfl | rfl | rfl | rfl <;> simp [cellM, up, upr, cpj, cpM, rf, vi, Int.toNat_of_nonneg hf0]
  · unfold cellM
    simp only [show k ≠ 0 by omega, show k ≠ 1 by omega, show k ≠ 11 by omega, if_false]
    congr 2
    apply List.map_congr_left
    intro i hi
    have hi4 : i < 4 := by
      have := List.mem_range.mp hi
      unfold lnM at this
      rw [if_neg (by omega), if_neg (by omega)] at this
      exact this
    unfold up cpj cpM
    rw [if_neg (by omega), if_neg (by omega), if_pos ⟨h13, by omega, hi4⟩, if_neg (by omega)]
end
