set_option linter.unusedVariables false
set_option linter.unusedSimpArgs false
/-! ===== criticalPath, checksum ===== -/
theorem fcd_iff {M : MM} {t p : Nat} (of : OkF M) : ∀ {f : Nat}, (f : Int) ≤ M 1 1 → ((p : Int) < fcd M t f ↔ ∃ g : Nat, g < f ∧ (p : Int) < M 9 g ∧ M 9 g ≤ t) := by
  intro f
  induction f with
  | zero => intro _; unfold fcd; constructor
            · intro h; omega
            · rintro ⟨g, h, -⟩; omega
  | succ f ih =>
    intro hf
    have ih := ih (by omega)
    unfold fcd
    by_cases c : M 9 f ≤ t
    · rw [if_pos c]
      constructor
      · intro h; exact ⟨f, by omega, h, c⟩
      · rintro ⟨g, h1, h2, h3⟩
        have := of.1 g f (by omega) (by omega)
        omega
    · rw [if_neg c, ih]
      constructor
      · rintro ⟨g, h1, h2⟩; exact ⟨g, by omega, h2⟩
      · rintro ⟨g, h1, h2, h3⟩
        exact ⟨g, by have : g ≠ f := fun e => by subst e; exact c h3
                     omega, h2, h3⟩
section
variable {h : PH} {u : Nat → Int} {d : Int → Int} {M : MM}
theorem m_ahead (z : h[227]? = some (mdl u)) (zd : h[229]? = some (dcell d)) (ok : Ok M) (of : OkF M) (r : Rel M d) {p t : Nat} (ht : (t : Int) < M 1 0) (hp : p < t) : FX8_isAhead h 227 p t = some (if (p : Int) < fcd M t (M 1 1).toNat ∨ tb (M 6 t) p = true then 1 else 0) := by
  have hT := ok.1.1
  have hF := ok.1.2.1
  obtain ⟨n, hn⟩ := Int.eq_ofNat_of_zero_le hF.1
  have e6 := (r.2.2.1 t ht).2.2.2.1
  have e4 := r.1.2.2.2.2.1
  have fi := fcd_iff (M := M) (t := t) (p := p) of (f := n) (by omega)
  rw [hn, Int.toNat_natCast]
  unfold FX8_isAhead FX8_task
  rw [z8_O z, Option.bind_some, z8_r8 z, Option.bind_some, Option.bind_some, zd_l zd (by omega) (by omega), Option.bind_some, e6, shr_bit _ (by omega)]
  by_cases b : tb (M 6 t) p = true
  · rw [if_pos (Or.inr b)]
    simp [b]
  · rw [if_neg (by simp [b]; decide)]
    have := lp_for (f := fun st : Int => LX8_isAhead_23 h 227 p t st) (fun j st => st = (j : Int) ∧ ∀ g : Nat, g < j → ¬ ((p : Int) < M 9 g ∧ M 9 g ≤ t)) (fun q => Sum.elim (fun _ => ∃ g : Nat, g < n ∧ (p : Int) < M 9 g ∧ M 9 g ≤ t) (fun _ => ¬ ∃ g : Nat, g < n ∧ (p : Int) < M 9 g ∧ M 9 g ≤ t) q) (a := 0) (b := n) (s := 0) (by omega) (by omega) ⟨rfl, fun g hg => by omega⟩ (fun j st h1 h2 hI => ?_) (fun st hI => ?_)
    · obtain ⟨q, e1, e2⟩ := this
      rw [e1, Option.bind_some]
      rcases q with q | q
      · have e2 : ∃ g : Nat, g < n ∧ (p : Int) < M 9 g ∧ M 9 g ≤ t := e2
        rw [if_pos (Or.inl (fi.mpr e2))]; rfl
      · have e2 : ¬ ∃ g : Nat, g < n ∧ (p : Int) < M 9 g ∧ M 9 g ≤ t := e2
        rw [if_neg (fun q => by rcases q with q | q; exact e2 (fi.mp q); exact b q)]; rfl
    · obtain ⟨rfl, hb⟩ := hI
      have e9 := r.2.1 j (by omega)
      have h9 := ok.1.2.2.2 j (by omega) (by omega)
      unfold LX8_isAhead_23 JX8_isAhead_61
      rw [z8_r8 z, Option.bind_some, zd_l zd (by omega) (by omega), Option.bind_some, e4, hn]
      simp (disch := omega) only [w32_eq]
      rw [if_pos (by omega), Option.bind_some, zd_l zd (by omega) (by omega), Option.bind_some, e9]
      by_cases c1 : (p : Int) < M 9 j
      · simp (disch := omega) only [w32_eq]
        rw [if_pos c1, Option.bind_some, zd_l zd (by omega) (by omega), Option.bind_some]
        by_cases c2 : (t : Int) < M 9 j
        · rw [e9, w32_eq (by omega) (by omega), if_pos c2]
          refine Or.inr ⟨_, rfl, rfl, fun g hg => ?_⟩
          by_cases eg : g = j
          · subst eg; omega
          · exact hb g (by omega)
        · rw [e9, w32_eq (by omega) (by omega), if_neg c2]
          exact Or.inl ⟨_, rfl, j, h2, c1, by omega⟩
      · simp (disch := omega) only [w32_eq]
        rw [if_neg c1]
        refine Or.inr ⟨_, rfl, rfl, fun g hg => ?_⟩
        by_cases eg : g = j
        · subst eg; omega
        · exact hb g (by omega)
    · obtain ⟨rfl, hb⟩ := hI
      unfold LX8_isAhead_23
      rw [z8_r8 z, Option.bind_some, zd_l zd (by omega) (by omega), Option.bind_some, e4, hn]
      simp (disch := omega) only [w32_eq]
      rw [if_neg (by omega)]
      refine ⟨_, rfl, ?_⟩
      rintro ⟨g, h1, h2⟩
      exact hb g h1 h2
theorem max_mx {a b : Int} (ha : -2147483648 ≤ a ∧ a < 2147483648) (hb : -2147483648 ≤ b ∧ b < 2147483648) : FX8_max h a b = some (mx a b) := by
  unfold FX8_max JX8_max_10 mx
  rw [w32_eq ha.1 ha.2, w32_eq hb.1 hb.2]
  by_cases c : b < a
  · rw [if_pos c, if_neg (by omega)]
  · rw [if_neg c]
    by_cases c2 : a < b
    · rw [if_pos c2]
    · rw [if_neg c2]; congr 1; omega
theorem bst_congr {M N : MM} {t : Nat} : ∀ {v : Nat}, N 9 = M 9 → N 1 = M 1 → N 6 = M 6 → (∀ q, q < v → N 10 q = M 10 q) → bst N t v = bst M t v := by
  intro v
  induction v with
  | zero => intro _ _ _ _; rfl
  | succ v ih =>
    intro h9 h1 h6 h10
    have fc : ∀ f, fcd N t f = fcd M t f := by
      intro f
      induction f with
      | zero => rfl
      | succ f ihf => unfold fcd; rw [h9, ihf]
    unfold bst
    rw [ih h9 h1 h6 (fun q hq => h10 q (by omega)), h1, h6, fc, h10 v (by omega)]
theorem chs_low {j i : Nat} (hi : i < j) : chs M (j + 1) 10 i = chs M j 10 i := by
  rw [show chs M (j + 1) = if unf M j then up (up (chs M j) 10 j 0) 10 j (M 3 j + bst (up (chs M j) 10 j 0) j j) else up (chs M j) 10 j 0 from rfl]
  split
  · rw [up_ni (by omega), up_ni (by omega)]
  · rw [up_ni (by omega)]
theorem chs_at {j : Nat} : chs M (j + 1) 10 j = if unf M j then M 3 j + bst (up (chs M j) 10 j 0) j j else 0 := by
  rw [show chs M (j + 1) = if unf M j then up (up (chs M j) 10 j 0) 10 j (M 3 j + bst (up (chs M j) 10 j 0) j j) else up (chs M j) 10 j 0 from rfl]
  split
  · rw [up_eq]
  · rw [up_eq]
theorem m_crit {K : Nat → Int} (z : h[227]? = some (mdl u)) (zd : h[229]? = some (dcell d)) (zc : h[242]? = some (c242 K)) (ok : Ok M) (of : OkF M) (r : Rel M d) : ∃ K', lp (fun st : Int × Int × PH => LX8_criticalPath_9 227 st.1 st.2.1 st.2.2) FU (0, 0, h) = some (lgs M (M 1 0).toNat, h.set 242 (c242 K')) := by
  have hT := ok.1.1
  obtain ⟨n, hn⟩ := Int.eq_ofNat_of_zero_le hT.1
  have hl : 242 < h.length := by
    rcases Nat.lt_or_ge 242 h.length with q | q
    · exact q
    · rw [List.getElem?_eq_none q] at zc; cases zc
  have Z : ∀ K, (h.set 242 (c242 K))[227]? = some (mdl u) := fun K => by rw [List.getElem?_set, if_neg (by decide)]; exact z
  have Zd : ∀ K, (h.set 242 (c242 K))[229]? = some (dcell d) := fun K => by rw [List.getElem?_set, if_neg (by decide)]; exact zd
  have Zc : ∀ K, (h.set 242 (c242 K))[242]? = some (c242 K) := fun K => by simp [hl]
  have e3 := r.1.2.2.2.1
  have := lp_for (f := fun st : Int × Int × PH => LX8_criticalPath_9 227 st.1 st.2.1 st.2.2) (fun j st => ∃ K, st = (lgs M j, (j : Int), h.set 242 (c242 K)) ∧ ∀ i, i < j → K i = chs M j 10 i) (fun q => ∃ K, q = (lgs M n, h.set 242 (c242 K))) (a := 0) (b := n) (s := (0, 0, h)) (by omega) (by omega) ⟨K, by rw [set_same zc]; rfl, fun i hi => by omega⟩ (fun j st h1 h2 hI => ?_) (fun st hI => ?_)
  · obtain ⟨q, e1, K', rfl⟩ := this
    rw [hn, Int.toNat_natCast]
    exact ⟨K', e1⟩
  · obtain ⟨K1, rfl, hK⟩ := hI
    have hcj := chs_in ok.2.2 (j := j) (by omega)
    have hc1 := chs_in ok.2.2 (j := j + 1) (by omega) j (by omega)
    have hlg := lgs_in (M := M) hT.2 ok.2.2 (j := j) (by omega)
    have hd := (ok.2.2 j (by omega)).2.2
    have e16 := (r.2.2.1 j (by omega)).1
    refine Or.inr ?_
    dsimp only
    unfold LX8_criticalPath_9 JX8_criticalPath_112
    rw [z8_r8 (Z K1), Option.bind_some, zd_l (Zd K1) (by omega) (by omega), Option.bind_some, e3, hn, w32_nat (by omega), w32_nat (by omega), if_pos (by omega), z8_r17 (Z K1), Option.bind_some, z242_s (Zc K1) (by omega) (by omega), Option.bind_some, List.set_set, z8_r8 (Z _), Option.bind_some, d_isFin (Zd _) ok.1 r (by omega), Option.bind_some, Int.toNat_natCast]
    rw [show lgs M (j + 1) = if unf M j then mx (lgs M j) (chs M (j + 1) 10 j) else lgs M j from rfl]
    by_cases un : unf M j = true
    · rw [if_pos un, if_pos un, if_pos (show w32 0 = 0 by decide)]
      rw [chs_at, if_pos un] at hc1
      have hbx : ∀ p, p ≤ j → 0 ≤ bst (up (chs M j) 10 j 0) j p ∧ bst (up (chs M j) 10 j 0) j p ≤ (99 * j : Nat) := fun p hp => bst_in (fun v hv => by
        rw [up_ni (by omega)]
        have := hcj v (by omega)
        omega)
      have L := lp_det (f := fun st : Int × PH => LX8_criticalPath_42 227 (lgs M j) j st.1 st.2) (fun p => ((p : Int), h.set 242 (c242 (upf K1 j (bst (up (chs M j) 10 j 0) j p))))) (a := 0) (b := j) (r := h.set 242 (c242 (upf K1 j (bst (up (chs M j) 10 j 0) j j)))) (by omega) (by omega) (fun p p1 p2 => ?_) ?_
      · have L : lp (fun st : Int × PH => LX8_criticalPath_42 227 (lgs M j) j st.1 st.2) FU (0, h.set 242 (c242 (upf K1 j 0))) = some (h.set 242 (c242 (upf K1 j (bst (up (chs M j) 10 j 0) j j)))) := L
        rw [L, Option.bind_some, z8_r17 (Z _), Option.bind_some, z242_l (Zc _) (by omega) (by omega), Option.bind_some, z8_r8 (Z _), Option.bind_some]
        unfold FX8_task
        rw [Option.bind_some, zd_l (Zd _) (by omega) (by omega), Option.bind_some, e16, z242_s (Zc _) (by omega) (by omega), Option.bind_some, List.set_set, Int.toNat_natCast, upf_eq, upf_up, z8_r17 (Z _), Option.bind_some, z242_l (Zc _) (by omega) (by omega), Option.bind_some, Int.toNat_natCast, upf_eq]
        rw [max_mx (by omega) (by omega), Option.bind_some]
        refine ⟨_, rfl, upf K1 j (bst (up (chs M j) 10 j 0) j j + M 3 j), ?_, fun i hi => ?_⟩
        · rw [chs_at, if_pos un, Int.add_comm]; rfl
        · by_cases ei : i = j
          · subst ei; rw [upf_eq, chs_at, if_pos un, Int.add_comm]
          · rw [upf_ne ei, chs_low (by omega)]; exact hK i (by omega)
      · have ah := m_ahead (Z (upf K1 j (bst (up (chs M j) 10 j 0) j p))) (Zd _) ok of r (p := p) (t := j) (by omega) p2
        unfold LX8_criticalPath_42 JX8_criticalPath_77
        rw [w32_nat (by omega), w32_nat (by omega), if_pos (by omega), ah, Option.bind_some]
        rw [show bst (up (chs M j) 10 j 0) j (p + 1) = if (p : Int) < fcd (up (chs M j) 10 j 0) j ((up (chs M j) 10 j 0) 1 1).toNat ∨ tb ((up (chs M j) 10 j 0) 6 j) p = true then mx (bst (up (chs M j) 10 j 0) j p) ((up (chs M j) 10 j 0) 10 p) else bst (up (chs M j) 10 j 0) j p from rfl]
        have fc : fcd (up (chs M j) 10 j 0) j ((up (chs M j) 10 j 0) 1 1).toNat = fcd M j (M 1 1).toNat := by
          rw [up_ne (by decide), chs_ne (by decide)]
          generalize (M 1 1).toNat = f
          induction f with
          | zero => rfl
          | succ f ih => unfold fcd; rw [up_ne (by decide), chs_ne (by decide), ih]
        rw [fc, up_ne (show 6 ≠ 10 by decide), chs_ne (by decide)]
        have hb := hbx p (by omega)
        have hcp := hcj p p2
        by_cases a : (p : Int) < fcd M j (M 1 1).toNat ∨ tb (M 6 j) p = true
        · rw [if_pos a, if_pos a, if_neg (show ¬ w32 1 = 0 by decide), z8_r17 (Z _), Option.bind_some, Option.bind_some, z242_l (Zc _) (by omega) (by omega), Option.bind_some, Option.bind_some, z242_l (Zc _) (by omega) (by omega), Option.bind_some, Int.toNat_natCast, Int.toNat_natCast, upf_eq, upf_ne (by omega), hK p p2, max_mx (by omega) (by omega), Option.bind_some, z242_s (Zc _) (by omega) (by omega), Option.bind_some, List.set_set, Int.toNat_natCast, upf_up, up_ni (by omega)]
          rfl
        · rw [if_neg a, if_neg a, if_pos (show w32 0 = 0 by decide)]
          rfl
      · unfold LX8_criticalPath_42
        rw [if_neg (by rw [w32_nat (by omega)]; omega)]
    · rw [if_neg un, if_neg un, if_neg (show ¬ w32 1 = 0 by decide)]
      refine ⟨_, rfl, upf K1 j 0, rfl, fun i hi => ?_⟩
      by_cases ei : i = j
      · subst ei; rw [upf_eq, chs_at, if_neg un]
      · rw [upf_ne ei, chs_low (by omega)]; exact hK i (by omega)
  · obtain ⟨K1, rfl, hK⟩ := hI
    dsimp only
    unfold LX8_criticalPath_9
    rw [z8_r8 (Z K1), Option.bind_some, zd_l (Zd K1) (by omega) (by omega), Option.bind_some, e3, hn, w32_nat (by omega), if_neg (by omega)]
    exact ⟨_, rfl, K1, rfl⟩
end
