set_option linter.unusedVariables false
set_option linter.unusedSimpArgs false
/-! ===== the law's loop ===== -/
theorem and_31 (x : Int) : 0 ≤ w32 (andI x 31) ∧ w32 (andI x 31) ≤ 31 := by
  rw [andI_w, ← andI_w, w32_bv, bv_and]
  have e : (bv x &&& bv 31).toNat = (bv x).toNat &&& 31 := by rw [BitVec.toNat_and]; rfl
  have l : (bv x &&& bv 31).toNat ≤ 31 := by rw [e]; exact Nat.and_le_right
  rw [BitVec.toInt_eq_toNat_of_lt (by omega)]
  omega
section
variable {h : PH} {xs : Nat → Int} {L : Nat} {v4 : Int}
theorem law_step (hs : ∀ j, j < L → -2147483648 ≤ xs j ∧ xs j < 2147483648) (h0 : 0 ≤ v4) (hL : v4 + 6 ≤ L) (w : Wld h) : ∃ h', LawStep xs L 0 227 243 v4 h = some h' ∧ Wld h' := by
  obtain ⟨x, hx, -⟩ := sld_ok (i := v4) hs (by omega) (by omega)
  unfold LawStep
  rw [hx, Option.bind_some]
  have hy := and_31 x
  generalize w32 (andI x 31) = y at hy ⊢
  by_cases c0 : y = 0
  · rw [if_pos c0]; exact lc0 hs h0 hL w
  rw [if_neg c0]
  by_cases c1 : y = 1
  · rw [if_pos c1]; exact lc1 hs h0 hL w
  rw [if_neg c1]
  by_cases c2 : y = 2
  · rw [if_pos c2]; exact lc2 w
  rw [if_neg c2]
  by_cases c3 : y = 3
  · rw [if_pos c3]; exact lc3 w
  rw [if_neg c3]
  by_cases c4 : y = 4
  · rw [if_pos c4]; exact lc4 w
  rw [if_neg c4]
  by_cases c5 : y = 5
  · rw [if_pos c5]; exact lc5 w
  rw [if_neg c5]
  by_cases c6 : y = 6
  · rw [if_pos c6]; exact lc6 w
  rw [if_neg c6]
  by_cases c7 : y = 7
  · rw [if_pos c7]; exact lc7 hs h0 hL w
  rw [if_neg c7]
  by_cases c8 : y = 8
  · rw [if_pos c8]; exact lc8 hs h0 hL w
  rw [if_neg c8]
  by_cases c9 : y = 9
  · rw [if_pos c9]; exact lc9 hs h0 hL w
  rw [if_neg c9]
  by_cases c10 : y = 10
  · rw [if_pos c10]; exact lc10 hs h0 hL w
  rw [if_neg c10]
  by_cases c11 : y = 11
  · rw [if_pos c11]; exact lc11 hs h0 hL w
  rw [if_neg c11]
  by_cases c12 : y = 12
  · rw [if_pos c12]; exact lc12 hs h0 hL w
  rw [if_neg c12]
  by_cases c13 : y = 13
  · rw [if_pos c13]; exact lc13 hs h0 hL w
  rw [if_neg c13]
  by_cases c14 : y = 14
  · rw [if_pos c14]; exact lc14 hs h0 hL w
  rw [if_neg c14]
  by_cases c15 : y = 15
  · rw [if_pos c15]; exact lc15 hs h0 hL w
  rw [if_neg c15]
  by_cases c16 : y = 16
  · rw [if_pos c16]; exact lc16 hs h0 hL w
  rw [if_neg c16]
  by_cases c17 : y = 17
  · rw [if_pos c17]; exact lc17 hs h0 hL w
  rw [if_neg c17]
  by_cases c18 : y = 18
  · rw [if_pos c18]; exact lc18 hs h0 hL w
  rw [if_neg c18]
  by_cases c19 : y = 19
  · rw [if_pos c19]; exact lc19 hs h0 hL w
  rw [if_neg c19]
  by_cases c20 : y = 20
  · rw [if_pos c20]; exact lc20 w
  rw [if_neg c20]
  by_cases c21 : y = 21
  · rw [if_pos c21]; exact lc21 w
  rw [if_neg c21]
  by_cases c22 : y = 22
  · rw [if_pos c22]; exact lc22 hs h0 hL w
  rw [if_neg c22]
  by_cases c23 : y = 23
  · rw [if_pos c23]; exact lc23 hs h0 hL w
  rw [if_neg c23]
  by_cases c24 : y = 24
  · rw [if_pos c24]; exact lc24 hs h0 hL w
  rw [if_neg c24]
  by_cases c25 : y = 25
  · rw [if_pos c25]; exact lc25 hs h0 hL w
  rw [if_neg c25]
  by_cases c26 : y = 26
  · rw [if_pos c26]; exact lc26 hs h0 hL w
  rw [if_neg c26]
  by_cases c27 : y = 27
  · rw [if_pos c27]; exact lc27 hs h0 hL w
  rw [if_neg c27]
  by_cases c28 : y = 28
  · rw [if_pos c28]; exact lc28 hs h0 hL w
  rw [if_neg c28]
  by_cases c29 : y = 29
  · rw [if_pos c29]; exact lc29 hs h0 hL w
  rw [if_neg c29]
  by_cases c30 : y = 30
  · rw [if_pos c30]; exact lc30 w
  rw [if_neg c30]
  by_cases c31 : y = 31
  · rw [if_pos c31]; exact lc31 w
  rw [if_neg c31]
  omega
theorem law_loop (hs : ∀ j, j < L → -2147483648 ≤ xs j ∧ xs j < 2147483648) (hL : L ≤ 3072) : ∀ (m i : Nat) (h : PH), Wld h → L < 6 * (i + (m + 1)) → i ≤ 600 → lp (fun st : Int × PH => LawF xs L 0 227 243 st.1 st.2) (m + 1) (((6 * i : Nat) : Int), h) = some () := by
  intro m
  induction m with
  | zero =>
    intro i h w h1 h2
    have F : LawF xs L 0 227 243 ((6 * i : Nat) : Int) h = some (.inr ()) := by
      unfold LawF
      rw [w32_eq (x := (L : Int) - 6) (by omega) (by omega), w32_nat (by omega), if_pos (by omega)]
    rw [lp]
    dsimp only
    rw [F]
  | succ m ih =>
    intro i h w h1 h2
    by_cases c : (L : Int) - 6 < ((6 * i : Nat) : Int)
    · have F : LawF xs L 0 227 243 ((6 * i : Nat) : Int) h = some (.inr ()) := by
        unfold LawF
        rw [w32_eq (x := (L : Int) - 6) (by omega) (by omega), w32_nat (by omega), if_pos c]
      rw [lp]
      dsimp only
      rw [F]
    · obtain ⟨h', e1, w1⟩ := law_step (h := h) (v4 := ((6 * i : Nat) : Int)) hs (by omega) (by omega) w
      have F : LawF xs L 0 227 243 ((6 * i : Nat) : Int) h = some (.inl (((6 * i : Nat) : Int) + 6, h')) := by
        unfold LawF
        rw [w32_eq (x := (L : Int) - 6) (by omega) (by omega), w32_nat (by omega), if_neg c, e1, Option.bind_some]
      rw [lp]
      dsimp only
      rw [F]
      dsimp only
      rw [show ((6 * i : Nat) : Int) + 6 = ((6 * (i + 1) : Nat) : Int) by omega]
      exact ih (i + 1) h' w1 (by omega) (by omega)
end
/-! ===== the world at the start ===== -/
def Zm (p : Nat) : MM := fun a i => if a = 0 ∧ i = 2 then ((p + 19 : Nat) : Int) else 0
def rr00 : Nat → Int := fun i => if i = 2 then -1 else 0
def uu00 : Nat → Int := fun i => if i = 7 then -1 else 0
def mch (p : Nat) : PH := (List.range 19).map (cellM p (Zm p)) ++ [.inr (1, [rf (p + 19 + 1), rf (p + 19 + 2)]), .inl (0, [-1]), skc (fun _ => 0)]
def H00 : PH := [c0 (-1), c1 rr00, c2 (fun _ => 0), c3 (fun _ => 0), c4 (fun _ => 0)] ++ mch 5 ++ mch 27 ++ [c49 0 0, c50] ++ (List.range 8).flatMap (fun i => mch (51 + 22 * i)) ++ [mdl uu00, c4 (fun _ => 0), dcell (fun _ => 0), dcell (fun _ => 0), dcell (fun _ => 0), c232] ++ List.replicate 8 (dcell (fun _ => 0)) ++ [lcell (fun _ => 0), c242 (fun _ => 0), c243 0]
def eqL {α : Type} (f : α → α → Bool) : List α → List α → Bool
  | [], [] => true
  | a :: r, b :: s => f a b && eqL f r s
  | _, _ => false
theorem eqL_ok {α : Type} {f : α → α → Bool} (hf : ∀ a b, f a b = true → a = b) : ∀ {l m : List α}, eqL f l m = true → l = m := by
  intro l
  induction l with
  | nil => intro m h; cases m with
    | nil => rfl
    | cons b s => cases h
  | cons a r ih => intro m h; cases m with
    | nil => cases h
    | cons b s =>
      rw [eqL, Bool.and_eq_true] at h
      rw [hf a b h.1, ih h.2]
def eqV : PV → PV → Bool
  | .inl x, .inl y => decide (x = y)
  | .inr x, .inr y => decide (x = y)
  | _, _ => false
theorem eqV_ok (a b : PV) (h : eqV a b = true) : a = b := by
  cases a with
  | inl x => cases b with
    | inl y => rw [of_decide_eq_true h]
    | inr y => cases h
  | inr x => cases b with
    | inl y => cases h
    | inr y => rw [of_decide_eq_true h]
def eqC : PC → PC → Bool
  | .inl q, .inl r => decide (q.1 = r.1) && eqL (fun x y => decide (x = y)) q.2 r.2
  | .inr q, .inr r => decide (q.1 = r.1) && eqL eqV q.2 r.2
  | _, _ => false
theorem eqC_ok (a b : PC) (h : eqC a b = true) : a = b := by
  cases a with
  | inl q => cases b with
    | inl r =>
      rw [eqC, Bool.and_eq_true] at h
      rw [Prod.ext (of_decide_eq_true h.1) (eqL_ok (fun x y => of_decide_eq_true) h.2)]
    | inr r => cases h
  | inr q => cases b with
    | inl r => cases h
    | inr r =>
      rw [eqC, Bool.and_eq_true] at h
      rw [Prod.ext (of_decide_eq_true h.1) (eqL_ok eqV_ok h.2)]
def eqO : Option PC → PC → Bool
  | some a, b => eqC a b
  | none, _ => false
theorem eqO_ok {a : Option PC} {b : PC} (h : eqO a b = true) : a = some b := by
  cases a with
  | none => cases h
  | some a => rw [eqC_ok a b h]
def eqP : Option (Nat × Nat × Nat × PH) → Bool
  | some q => decide (q.1 = 0 ∧ q.2.1 = 227 ∧ q.2.2.1 = 243) && eqL eqC q.2.2.2 H00
  | none => false
set_option maxRecDepth 1000000 in
theorem pre_b : eqP (LawPre []) = true := by decide +kernel
theorem pre_ok : LawPre [] = some (0, 227, 243, H00) := by
  have := pre_b
  cases e : LawPre [] with
  | none => rw [e] at this; cases this
  | some q =>
    obtain ⟨q1, q2, q3, q4⟩ := q
    rw [e, eqP, Bool.and_eq_true] at this
    obtain ⟨a1, a2, a3⟩ := of_decide_eq_true this.1
    have a4 : q4 = H00 := eqL_ok eqC_ok this.2
    dsimp only at a1 a2 a3
    rw [a1, a2, a3, a4]
theorem iv_z {p : Nat} : IvM (Zm p) := by
  have z : ∀ a i, a ≠ 0 → Zm p a i = 0 := fun a i h => by unfold Zm; rw [if_neg (by omega)]
  unfold IvM Ok OkT OkC OkP OkQ OkR OkS OkB OkH
  simp only [z 1 _ (by decide), z 2 _ (by decide), z 13 _ (by decide), z 11 _ (by decide), z 18 _ (by decide)]
  refine ⟨⟨⟨by omega, by omega, fun t ht => by omega, fun f h1 h2 => by omega⟩, ⟨by omega, by omega, by omega, fun c hc => by omega, fun c hc => by omega, fun c hc => Or.inl trivial⟩, fun t ht => by omega⟩, fun c hc k hk => by omega, fun c c' h1 => by omega, ⟨fun c k h1 h2 => by omega, fun c h1 => by omega, fun c k c' k' h1 h2 h3 => by omega⟩, fun t ht => by omega, fun t ht => by omega⟩
theorem pair_z {p : Nat} : Pair (Zm p) (fun _ => 0) := by
  have z : ∀ a i, a ≠ 0 → Zm p a i = 0 := fun a i h => by unfold Zm; rw [if_neg (by omega)]
  have z3 : Zm p 0 3 = 0 := by unfold Zm; rw [if_neg (by omega)]
  refine ⟨iv_z, ?_, ?_, ?_, ?_⟩
  · unfold Rel
    rw [z3, z 1 _ (by decide), z 1 _ (by decide), z 11 _ (by decide), z 11 _ (by decide), z 11 _ (by decide)]
    exact ⟨⟨rfl, rfl, rfl, rfl, rfl, rfl, fun i _ => (z 19 _ (by decide)).symm⟩, fun f h => by omega, fun t h => by omega, fun c h => by omega⟩
  · intro t h; rw [z 1 _ (by decide)] at h; omega
  · unfold clkOk; rw [z3]; omega
  · refine ⟨fun f g _ h => ?_, fun c _ _ => z 13 _ (by decide)⟩
    rw [z 1 _ (by decide)] at h; omega
theorem cod_z {p : Nat} : CodM (Zm p) [-1] := Or.inl ⟨by show Zm p 19 6 = 0; unfold Zm; rw [if_neg (by omega)], rfl⟩
theorem fm_z {h : PH} {p : Nat} (hf : fpl (p + 19)) (h1 : h[p + 19]? = some (.inr (1, [rf (p + 19 + 1), rf (p + 19 + 2)]))) (h2 : h[p + 19 + 1]? = some (.inl (0, [-1]))) (h3 : h[p + 19 + 2]? = some (skc (fun _ => 0))) : FM h (Zm p) := by
  have e : Zm p 0 2 = ((p + 19 : Nat) : Int) := by unfold Zm; rw [if_pos ⟨rfl, rfl⟩]
  refine ⟨by rw [e]; omega, [-1], cod_z, ?_⟩
  rw [e, Int.toNat_natCast]
  exact ⟨hf, h1, h2, _, h3⟩
theorem ws_a : 244 ≤ H00.length ∧ eqO (H00[0]?) (c0 (-1)) = true ∧ eqO (H00[1]?) (c1 rr00) = true ∧ eqO (H00[2]?) (c2 (fun _ => 0)) = true ∧ eqO (H00[3]?) (c3 (fun _ => 0)) = true ∧ eqO (H00[4]?) (c4 (fun _ => 0)) = true ∧ eqO (H00[49]?) (c49 0 0) = true ∧ eqO (H00[50]?) c50 = true := by decide +kernel
theorem ws_b : (∀ k, k < 19 → eqO (H00[5 + k]?) (cellM 5 (Zm 5) k) = true) ∧ (∀ k, k < 19 → eqO (H00[27 + k]?) (cellM 27 (Zm 27) k) = true) ∧ (∀ i, i < 8 → ∀ k, k < 19 → eqO (H00[51 + 22 * i + k]?) (cellM (51 + 22 * i) (Zm (51 + 22 * i)) k) = true) := by decide +kernel
theorem ws_c : (eqO (H00[5 + 19]?) (.inr (1, [rf (5 + 19 + 1), rf (5 + 19 + 2)])) = true ∧ eqO (H00[5 + 19 + 1]?) (.inl (0, [-1])) = true ∧ eqO (H00[5 + 19 + 2]?) (skc (fun _ => 0)) = true) ∧ (eqO (H00[27 + 19]?) (.inr (1, [rf (27 + 19 + 1), rf (27 + 19 + 2)])) = true ∧ eqO (H00[27 + 19 + 1]?) (.inl (0, [-1])) = true ∧ eqO (H00[27 + 19 + 2]?) (skc (fun _ => 0)) = true) ∧ ∀ i, i < 8 → (eqO (H00[51 + 22 * i + 19]?) (.inr (1, [rf (51 + 22 * i + 19 + 1), rf (51 + 22 * i + 19 + 2)])) = true ∧ eqO (H00[51 + 22 * i + 19 + 1]?) (.inl (0, [-1])) = true ∧ eqO (H00[51 + 22 * i + 19 + 2]?) (skc (fun _ => 0)) = true) := by decide +kernel
theorem ws_d : eqO (H00[227]?) (mdl uu00) = true ∧ eqO (H00[228]?) (c4 (fun _ => 0)) = true ∧ eqO (H00[229]?) (dcell (fun _ => 0)) = true ∧ eqO (H00[230]?) (dcell (fun _ => 0)) = true ∧ eqO (H00[231]?) (dcell (fun _ => 0)) = true ∧ eqO (H00[232]?) c232 = true ∧ (∀ i, i < 8 → eqO (H00[233 + i]?) (dcell (fun _ => 0)) = true) ∧ eqO (H00[241]?) (lcell (fun _ => 0)) = true ∧ eqO (H00[242]?) (c242 (fun _ => 0)) = true ∧ eqO (H00[243]?) (c243 0) = true := by decide +kernel
theorem wld_z : Wld H00 := by
  obtain ⟨a1, a2, a3, a4, a5, a6, a7, a8⟩ := ws_a
  obtain ⟨b1, b2, b3⟩ := ws_b
  obtain ⟨⟨f1, f2, f3⟩, ⟨g1, g2, g3⟩, k1⟩ := ws_c
  obtain ⟨d1, d2, d3, d4, d5, d6, d7, d8, d9, d10⟩ := ws_d
  refine ⟨Zm 5, Zm 27, fun i => Zm (51 + 22 * i), -1, 0, 0, rr00, fun _ => 0, fun _ => 0, fun _ => 0, uu00, fun _ => 0, fun _ => 0, fun _ => 0, fun _ => 0, fun _ _ => 0, ⟨a1, eqO_ok a2, eqO_ok a3, eqO_ok a4, eqO_ok a5, eqO_ok a6, eqO_ok a7, eqO_ok a8, ⟨by omega, fun k hk => eqO_ok (b1 k hk)⟩, ⟨by omega, fun k hk => eqO_ok (b2 k hk)⟩, fun i hi => ⟨by omega, fun k hk => eqO_ok (b3 i hi k hk)⟩, fm_z (by unfold fpl; omega) (eqO_ok f1) (eqO_ok f2) (eqO_ok f3), fm_z (by unfold fpl; omega) (eqO_ok g1) (eqO_ok g2) (eqO_ok g3), fun i hi => fm_z (by unfold fpl; omega) (eqO_ok (k1 i hi).1) (eqO_ok (k1 i hi).2.1) (eqO_ok (k1 i hi).2.2), eqO_ok d1, eqO_ok d2, eqO_ok d3, eqO_ok d4, eqO_ok d5, eqO_ok d6, fun i hi => eqO_ok (d7 i hi), ⟨_, eqO_ok d8⟩, ⟨_, eqO_ok d9⟩, ⟨_, eqO_ok d10⟩⟩, ?_⟩
  refine ⟨pair_z, iv_z, rfl, rfl, by decide, fun i hi => (show byR 0 0 from ⟨by omega, by rw [if_neg (by omega)]⟩), ⟨by omega, by omega, rfl⟩, fun j hj => by omega, fun i hi c hc => Or.inl ?_⟩
  show Zm (51 + 22 * i) 18 c = 0
  unfold Zm; rw [if_neg (by omega)]
theorem pure_ok : PURE := by
  intro xs L hL hs
  refine ⟨_, pre_ok, ?_⟩
  exact law_loop (fun j _ => hs j) hL 512 0 H00 wld_z (by omega) (by omega)
