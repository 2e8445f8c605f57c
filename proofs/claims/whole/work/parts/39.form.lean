set_option linter.unusedVariables false
set_option linter.unusedSimpArgs false
/-! ===== formulas ===== -/
def clp (x : Int) : Int := if 1000000 < x then 1000000 else if x < -1000000 then -1000000 else x
def rs (op a b : Int) : Int := if op = -5 then clp (a + b) else if op = -6 then clp (a - b) else if op = -7 then clp (a * b) else if b = 0 then 0 else clp (divL a b)
def inR (x : Int) : Prop := -1000000 ≤ x ∧ x ≤ 1000000
theorem clp_in (x : Int) : inR (clp x) := by unfold clp inR; split <;> (try split) <;> omega
theorem rs_in (op a b : Int) : inR (rs op a b) := by
  unfold rs
  split
  · exact clp_in _
  · split
    · exact clp_in _
    · split
      · exact clp_in _
      · split
        · unfold inR; omega
        · exact clp_in _
theorem mul_in {a b : Int} (ha : inR a) (hb : inR b) : -1000000000000 ≤ a * b ∧ a * b ≤ 1000000000000 := by
  unfold inR at ha hb
  have h1 : (a * b).natAbs ≤ 1000000 * 1000000 := by
    rw [Int.natAbs_mul]
    exact Nat.mul_le_mul (by omega) (by omega)
  omega
theorem div_in {a b : Int} (ha : inR a) (hb : inR b) : inR (divL a b) := by
  unfold inR at ha hb ⊢
  unfold divL
  rw [Int64.toInt_div]
  have e1 : (Int64.ofInt a).toInt = a := w64_eq (by omega) (by omega)
  have e2 : (Int64.ofInt b).toInt = b := w64_eq (by omega) (by omega)
  rw [e1, e2]
  have h1 : (a.tdiv b).natAbs ≤ 1000000 := by
    rw [Int.natAbs_tdiv]
    exact Nat.le_trans (Nat.div_le_self _ _) (by omega)
  rw [Int.bmod_eq_of_le (by omega) (by omega)]
  omega
theorem clp_56 {h : PH} {v : Int} (h1 : -9000000000000000000 ≤ v) (h2 : v ≤ 9000000000000000000) : JX1_result_56 h v = some (clp v) := by
  unfold JX1_result_56 maxL64 minL64 clp
  rw [w64_eq (x := v) (by omega) (by omega), show w64 1000000 = 1000000 from rfl, show w64 (-1000000) = -1000000 from rfl]
  by_cases a : v < 1000000
  · rw [if_pos a, w64_eq (x := v) (by omega) (by omega), if_neg (show ¬ 1000000 < v by omega)]
  · rw [if_neg a, show w64 1000000 = 1000000 from rfl, if_neg (by decide)]
    by_cases b : 1000000 < v
    · rw [if_pos b]
    · rw [if_neg b, if_neg (by omega), show v = 1000000 by omega]
theorem r_res {h : PH} {op a b : Int} (ho : -8 ≤ op ∧ op ≤ -5) (ha : inR a) (hb : inR b) : FX1_result h op a b = some (rs op a b) := by
  have ha' := ha
  have hb' := hb
  unfold inR at ha hb
  have hm := mul_in ha' hb'
  have hd := div_in ha' hb'
  unfold inR at hd
  unfold FX1_result rs
  simp (disch := omega) only [w32_eq]
  by_cases a1 : op = -5
  · rw [if_pos a1, if_pos a1, clp_56 (by omega) (by omega)]
  rw [if_neg a1, if_neg a1]
  by_cases a2 : op = -6
  · rw [if_pos a2, if_pos a2, clp_56 (by omega) (by omega)]
  rw [if_neg a2, if_neg a2]
  by_cases a3 : op = -7
  · rw [if_pos a3, if_pos a3, clp_56 (by omega) (by omega)]
  rw [if_neg a3, if_neg a3]
  unfold cmpL
  rw [w64_eq (x := b) (by omega) (by omega), show w64 0 = 0 from rfl]
  by_cases a4 : b = 0
  · subst a4
    simp [show w32 0 = 0 from rfl, clp_56 (h := h) (v := 0) (by omega) (by omega), clp]
  · have e := clp_56 (h := h) (v := divL a b) (by omega) (by omega)
    by_cases a5 : b < 0
    · rw [if_pos a5, if_neg (by decide), if_neg a4, if_neg a4, e]
    · rw [if_neg a5, if_neg a4, if_neg (by decide), if_neg a4, e, if_neg a4]
/-- what a step that is no operator is worth -/
def fval (d pr c l s : Int) : Int := if 0 ≤ s then s else if s = -1 then d else if s = -2 then pr else if s = -3 then c else l
def upf (K : Nat → Int) (i : Nat) (x : Int) : Nat → Int := fun j => if j = i then x else K j
/-- one step on a stack of top and places -/
def stp (v : Int → Int) (q : Nat × (Nat → Int)) (s : Int) : Nat × (Nat → Int) :=
  if s ≤ -5 then (if q.1 < 2 then q else (q.1 - 1, upf q.2 (q.1 - 2) (rs s (q.2 (q.1 - 2)) (q.2 (q.1 - 1)))))
  else if q.1 < 11 then (q.1 + 1, upf q.2 q.1 (v s)) else q
def evF (v : Int → Int) (ss : List Int) (q : Nat × (Nat → Int)) : Nat × (Nat → Int) := ss.foldl (stp v) q
def skc (K : Nat → Int) : PC := .inl (0, (List.range 11).map K)
theorem map_upf {n i : Nat} {K : Nat → Int} {x : Int} : (List.range n).map (upf K i x) = ((List.range n).map K).set i x := by
  apply List.ext_getElem?
  intro j
  by_cases hj : j < n
  · by_cases hij : i = j
    · subst hij; simp [List.getElem?_set, hj, upf]
    · simp [List.getElem?_set, hj, upf, hij, Ne.symm hij]
  · simp [List.getElem?_set, hj]
/-- the stack stays within 11 places, its numbers within the limit -/
def stOk (q : Nat × (Nat → Int)) : Prop := q.1 ≤ 11 ∧ ∀ i, i < q.1 → inR (q.2 i)
theorem stp_ok {v : Int → Int} {q : Nat × (Nat → Int)} {s : Int} (h : stOk q) (hv : -5 < s → inR (v s)) : stOk (stp v q s) := by
  obtain ⟨h1, h2⟩ := h
  unfold stp
  split
  · split
    · exact ⟨h1, h2⟩
    · refine ⟨by simp; omega, fun i hi => ?_⟩
      simp only [upf]
      split
      · exact rs_in _ _ _
      · exact h2 i (by simp at hi; omega)
  · split
    · refine ⟨by simp; omega, fun i hi => ?_⟩
      simp only [upf]
      split
      · exact hv (by omega)
      · exact h2 i (by simp at hi; omega)
    · exact ⟨h1, h2⟩
theorem evF_ok {v : Int → Int} : ∀ {ss : List Int} {q : Nat × (Nat → Int)}, stOk q → (∀ s ∈ ss, -5 < s → inR (v s)) → stOk (evF v ss q) := by
  intro ss
  induction ss with
  | nil => intro q h _; exact h
  | cons s ss ih =>
    intro q h hv
    exact ih (stp_ok h (hv s (by simp))) (fun s hs => hv s (by simp [hs]))
/-- steps as they can be -/
def ssOk (ss : List Int) : Prop := ss.length ≤ 900 ∧ ∀ s ∈ ss, -8 ≤ s ∧ s ≤ 9999
def lenF (v : Int → Int) (ss : List Int) (K : Nat → Int) : Int := if (evF v ss (0, K)).2 0 < 1 then 1 else if 999 < (evF v ss (0, K)).2 0 then 999 else (evF v ss (0, K)).2 0
theorem r_len {h : PH} {fo st sk : Nat} {ss : List Int} {K : Nat → Int} {d pr c l : Int} (h1 : h[fo]? = some (.inr (1, [rf st, rf sk]))) (h2 : h[st]? = some (.inl (0, ss))) (h3 : h[sk]? = some (skc K)) (hne : st ≠ sk) (hne2 : fo ≠ sk) (hss : ssOk ss) (hv : ∀ s ∈ ss, -5 < s → inR (fval d pr c l s))
    (htop : 1 ≤ (evF (fval d pr c l) ss (0, K)).1) : FX1_lengthFor h fo d pr c l = some (lenF (fval d pr c l) ss K, h.set sk (skc (evF (fval d pr c l) ss (0, K)).2)) := by
  obtain ⟨hl, hs⟩ := hss
  have hskl : sk < h.length := by
    rcases Nat.lt_or_ge sk h.length with q | q
    · exact q
    · rw [List.getElem?_eq_none q] at h3; cases h3
  have g1 : ∀ K, (h.set sk (skc K))[fo]? = some (.inr (1, [rf st, rf sk])) := fun K => by rw [List.getElem?_set, if_neg (Ne.symm hne2), h1]
  have g2 : ∀ K, (h.set sk (skc K))[st]? = some (.inl (0, ss)) := fun K => by rw [List.getElem?_set, if_neg (Ne.symm hne), h2]
  have g3 : ∀ K, (h.set sk (skc K))[sk]? = some (skc K) := fun K => by simp [hskl]
  have a1 : ∀ K, gfr (h.set sk (skc K)) 1 fo 0 = some st := fun K => by unfold gfr; rw [g1]; rfl
  have a2 : ∀ K, gfr (h.set sk (skc K)) 1 fo 1 = some sk := fun K => by unfold gfr; rw [g1]; rfl
  have a3 : ∀ K, alen (h.set sk (skc K)) st = some (ss.length : Int) := fun K => by unfold alen; rw [g2]; rfl
  have a4 : ∀ K (i : Nat), ald 0 (h.set sk (skc K)) st (i : Int) = ss[i]? := fun K i => by unfold ald; rw [g2]; simp
  have a5 : ∀ K (i : Nat), i < 11 → ald 0 (h.set sk (skc K)) sk (i : Int) = some (K i) := fun K i hi => by unfold ald; rw [g3]; simp [skc, hi]
  have a6 : ∀ K (i : Nat) x, i < 11 → ast 0 (h.set sk (skc K)) sk (i : Int) x = some (h.set sk (skc (upf K i x))) := fun K i x hi => by
    unfold ast
    rw [g3]
    simp only [skc, List.length_map, List.length_range]
    rw [if_pos (by simp; omega), Int.toNat_natCast, ← map_upf, List.set_set]
  have ok : ∀ i, stOk (evF (fval d pr c l) (ss.take i) (0, K)) := fun i => evF_ok ⟨by simp, fun i hi => by simp at hi⟩ (fun s hs => hv s (List.mem_of_mem_take hs))
  unfold FX1_lengthFor
  have h0 : isO h 1 fo = some () := by unfold isO; rw [h1]; rfl
  have hset : h.set sk (skc K) = h := by
    apply List.ext_getElem?
    intro a
    rw [List.getElem?_set]
    split
    · rename_i e; subst e; exact h3.symm
    · rfl
  have := lp_det (f := fun st : Int × Int × PH => LX1_lengthFor_6 fo d pr c l st.1 st.2.1 st.2.2) (fun i => (((evF (fval d pr c l) (ss.take i) (0, K)).1 : Int), (i : Int), h.set sk (skc (evF (fval d pr c l) (ss.take i) (0, K)).2))) (a := 0) (b := ss.length) (r := h.set sk (skc (evF (fval d pr c l) ss (0, K)).2)) (by omega) (by omega) (fun i h1 h2 => ?_) ?_
  · rw [show evF (fval d pr c l) (ss.take 0) (0, K) = (0, K) from rfl, hset] at this
    rw [h0, Option.bind_some]
    rw [show (((0 : Nat) : Int)) = 0 from rfl] at this
    rw [this, Option.bind_some, a2, Option.bind_some, show (0 : Int) = ((0 : Nat) : Int) from rfl, a5 _ 0 (by decide), Option.bind_some]
    have hk := (ok ss.length).2 0 (by rw [List.take_length]; omega)
    rw [List.take_length] at hk
    unfold inR at hk
    unfold lenF maxI minI
    simp (disch := omega) only [w32_eq]
    congr 2
    by_cases b1 : (evF (fval d pr c l) ss (0, K)).2 0 < 999
    · rw [if_pos b1]
      by_cases b2 : 1 < (evF (fval d pr c l) ss (0, K)).2 0
      · rw [if_pos b2, if_neg (by omega), if_neg (by omega)]
      · rw [if_neg b2]
        by_cases b3 : (evF (fval d pr c l) ss (0, K)).2 0 < 1
        · rw [if_pos b3]
        · rw [if_neg b3, if_neg (by omega)]; omega
    · rw [if_neg b1, if_pos (by decide), if_neg (by omega)]
      by_cases b2 : 999 < (evF (fval d pr c l) ss (0, K)).2 0
      · rw [if_pos b2]
      · rw [if_neg b2]; omega
  · have hsi : ss[i]? = some ss[i] := List.getElem?_eq_getElem h2
    have hmem : ss[i] ∈ ss := List.getElem_mem h2
    have hr := hs _ hmem
    have hvs := hv _ hmem
    have hq := ok i
    have hnext : evF (fval d pr c l) (ss.take (i + 1)) (0, K) = stp (fval d pr c l) (evF (fval d pr c l) (ss.take i) (0, K)) ss[i] := by
      unfold evF
      rw [List.take_add_one, hsi, Option.toList_some, List.foldl_append]
      rfl
    rw [hnext]
    generalize evF (fval d pr c l) (ss.take i) (0, K) = q at hq
    generalize ss[i] = s at *
    obtain ⟨top, K1⟩ := q
    obtain ⟨q1, q2⟩ := hq
    dsimp only at q1 q2 ⊢
    unfold LX1_lengthFor_6 JX1_lengthFor_133 JX1_lengthFor_137
    simp only [a1, a2, a3, a4, hsi, Option.bind_some]
    simp (disch := omega) only [w32_eq]
    rw [if_pos (by omega)]
    unfold stp
    by_cases b1 : s ≤ -5
    · rw [if_neg (by omega), if_pos b1]
      by_cases b2 : top < 2
      · rw [if_pos (by omega), if_pos b2]; rfl
      · rw [if_neg (by omega), if_neg b2]
        dsimp only
        rw [show (top : Int) + -1 - 1 = ((top - 2 : Nat) : Int) by omega, show (top : Int) + -1 = ((top - 1 : Nat) : Int) by omega]
        have r1 := q2 (top - 2) (by omega)
        have r2 := q2 (top - 1) (by omega)
        rw [a5 _ _ (by omega), Option.bind_some, a5 _ _ (by omega), Option.bind_some]
        unfold inR at r1 r2
        rw [w32_eq (x := K1 (top - 2)) (by omega) (by omega), w32_eq (x := K1 (top - 1)) (by omega) (by omega), r_res ⟨hr.1, b1⟩ (q2 (top - 2) (by omega)) (q2 (top - 1) (by omega)), Option.bind_some, a6 _ _ _ (by omega)]
        rfl
    · rw [if_pos (by omega), if_neg b1]
      by_cases b2 : top < 11
      · rw [if_pos (by omega), if_pos b2]
        dsimp only
        unfold fval
        by_cases c1 : s < 0
        · rw [if_pos c1, if_neg (show ¬ 0 ≤ s by omega)]
          by_cases c2 : s = -1
          · rw [if_pos c2, if_pos c2, a6 _ _ _ b2]; rfl
          · rw [if_neg c2, if_neg c2]
            by_cases c3 : s = -2
            · rw [if_pos c3, if_pos c3, a6 _ _ _ b2]; rfl
            · rw [if_neg c3, if_neg c3]
              by_cases c4 : s = -3
              · rw [if_pos c4, if_pos c4, a6 _ _ _ b2]; rfl
              · rw [if_neg c4, if_neg c4, a6 _ _ _ b2]; rfl
        · rw [if_neg c1, if_pos (show 0 ≤ s by omega), a6 _ _ _ b2]; rfl
      · rw [if_neg (by omega), if_neg b2]; rfl
  · rw [List.take_length]
    unfold LX1_lengthFor_6
    simp only [a1, a3, Option.bind_some]
    simp (disch := omega) only [w32_eq]
    rw [if_neg (by omega)]
