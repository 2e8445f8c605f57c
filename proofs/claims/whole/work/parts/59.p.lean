set_option linter.unusedVariables false
set_option linter.unusedSimpArgs false
theorem up_comm {M : MM} {k i k' i' : Nat} {x x' : Int} (hk : k ≠ k') : up (up M k i x) k' i' x' = up (up M k' i' x') k i x := by
  funext b j
  unfold up
  by_cases e : b = k' ∧ j = i'
  · rw [if_pos e, if_neg (fun q => hk (q.1.symm.trans e.1)), if_pos e]
  · rw [if_neg e]
    by_cases e2 : b = k ∧ j = i
    · rw [if_pos e2, if_pos e2]
    · rw [if_neg e2, if_neg e2, if_neg e]
theorem up_up {M : MM} {k i : Nat} {x x' : Int} : up (up M k i x) k i x' = up M k i x' := by
  funext b j
  unfold up
  by_cases e : b = k ∧ j = i
  · rw [if_pos e, if_pos e]
  · rw [if_neg e, if_neg e, if_neg e]
theorem tk_up {M : MM} {k i s j : Nat} {x : Int} (h12 : k ≠ 12) (h13 : k ≠ 13) : tkM (up M k i x) s j = up (tkM M s j) k i x := by
  funext b n
  unfold tkM shM up
  rw [if_neg (show ¬ (13 = k ∧ s = i) from fun q => h13 q.1.symm)]
  simp only [show ∀ w, ¬ (12 = k ∧ w = i) from fun w q => h12 q.1.symm, if_false]
  by_cases e : b = k ∧ n = i
  · rw [if_neg (by omega), if_neg (by omega)]
    simp [e]
  · rw [if_neg e, if_neg e]
theorem relX_congr {M M' : MM} {d : Int → Int} (h1 : M' 1 = M 1) (h7 : M' 7 = M 7) (h8 : M' 8 = M 8) (r : RelX M d) : RelX M' d := by
  unfold RelX at r ⊢
  rw [h1, h7, h8]; exact r
theorem ok_17 {M : MM} {c : Nat} {x : Int} (ok : Ok M) (oq : OkQ M) (os : OkS M) : Ok (up M 17 c x) ∧ OkQ (up M 17 c x) ∧ OkS (up M 17 c x) := by
  refine ⟨?_, ?_, okS_congr (up_ne (by decide)) (up_ne (by decide)) (up_ne (by decide)) (up_ne (by decide)) (up_ne (by decide)) os⟩
  · unfold Ok OkT OkC OkP runOk at ok ⊢
    rw [up_ne (show 1 ≠ 17 by decide), up_ne (show 2 ≠ 17 by decide), up_ne (show 9 ≠ 17 by decide), up_ne (show 11 ≠ 17 by decide), up_ne (show 13 ≠ 17 by decide), up_ne (show 14 ≠ 17 by decide), up_ne (show 15 ≠ 17 by decide), up_ne (show 18 ≠ 17 by decide), up_ne (show 3 ≠ 17 by decide), up_ne (show 4 ≠ 17 by decide), up_ne (show 5 ≠ 17 by decide)]
    exact ok
  · unfold OkQ at oq ⊢
    rw [up_ne (show 1 ≠ 17 by decide), up_ne (show 12 ≠ 17 by decide), up_ne (show 13 ≠ 17 by decide)]
    exact oq
section
variable {h : PH} {a b mp : Nat} {d : Int → Int} {M : MM} {ss : List Int} {K : Nat → Int}
theorem m_take {fs : List PV} (ha : a < h.length) (hb : b < h.length) (hab : a ≠ b) (hm : h[mp]? = some (.inr (8, fs))) (hf : fs[16]? = some (rf b)) (h1 : mp ≠ a) (h2 : mp ≠ b) (ok : Ok M) (oq : OkQ M) (os : OkS M) (r : Rel M d) (cr : CodM M ss) {c : Nat} (hc : (c : Int) < M 11 0) (hi : M 14 c < 0) :
    ∃ d' K', FX8_take (mh h a b d K) mp a c = some (mh h a b d' K') ∧ Rel (staM ss M c) d' ∧ (RelX M d → RelX (staM ss M c) d') := by
  have hT := ok.1.1
  have hC := ok.2.1.1
  have h8 := ok.2.1.2.2.2.1
  have ha1 : a < (h.set b (lcell K)).length := by simpa using ha
  have i0 : isO (mh h a b d K) 8 mp = some () := by
    unfold isO mh
    rw [sd_out h1, List.getElem?_set, if_neg (Ne.symm h2), hm]; rfl
  have hc8 := h8 c (by omega)
  have e13 := (r.2.2.2 c hc).2.2.2.2.1
  have e17 := (r.2.2.2 c hc).2.2.1
  unfold FX8_take
  rw [i0, Option.bind_some]
  unfold FX8_core
  rw [Option.bind_some, show mh h a b d K = sd (h.set b (lcell K)) a d from rfl, md_ald ha1 (by omega) (by omega), Option.bind_some, e13, w32_eq (by omega) (by omega)]
  by_cases z : M 13 c = 0
  · rw [if_pos z, m_src ha1 ok r hc, Option.bind_some, Option.bind_some]
    have hs : srcM M c = lqs M (M 11 0).toNat := by unfold srcM; rw [if_pos z]
    have hs4 : ((srcM M c : Nat) : Int) < M 11 0 := by
      rw [hs]
      obtain ⟨n, hn⟩ : ∃ n, (M 11 0).toNat = n + 1 := ⟨(M 11 0).toNat - 1, by omega⟩
      rw [hn]
      have := (lqs_is M n).1
      omega
    rw [← hs]
    have es := (r.2.2.2 _ hs4).2.2.2.2.1
    have hs8 := h8 (srcM M c) (by omega)
    rw [md_ald ha1 (by omega) (by omega), Option.bind_some, es, w32_eq (by omega) (by omega)]
    by_cases z2 : M 13 (srcM M c) = 0
    · rw [if_pos z2]
      refine ⟨d, K, rfl, ?_⟩
      unfold staM
      rw [if_pos z2]
      exact ⟨r, id⟩
    · rw [if_neg z2, md_ald ha1 (by omega) (by omega), Option.bind_some, Option.bind_some, md_ald ha1 (by omega) (by omega), Option.bind_some, md_ast ha1 (by omega) (by omega), Option.bind_some, e17, r.1.2.2.1]
      have sd0 := Sd_of ok
      have r1 := rel_steal sd0.1 sd0.2.1 sd0.2.2.1 sd0.2.2.2.1 r sd0.2.2.2.2 (c := c) (x := M 17 c + 1) hc
      obtain ⟨ok1, oq1, os1⟩ := ok_17 (c := c) (x := M 17 c + 1) ok oq os
      have hne : srcM M c ≠ c := fun e => by rw [e] at z2; exact z2 z
      unfold JX8_take_111
      rw [w32_nat (by omega), w32_nat (by omega), if_neg (by omega)]
      unfold FX8_core
      rw [Option.bind_some, md_ald ha1 (by omega) (by omega), Option.bind_some, ud_ne (by omega), es]
      obtain ⟨k, hk⟩ : ∃ k : Nat, M 13 (srcM M c) - 1 = k := ⟨(M 13 (srcM M c) - 1).toNat, by omega⟩
      rw [hk]
      have hpl : plcM M c = k := by unfold plcM; rw [if_pos z]; omega
      obtain ⟨d', K', g1, g2, g3⟩ := m_t132 (K := K) (cost := M 11 2) (c := c) (s := srcM M c) (k := k) (ss := ss) ha hb hab hm hf h1 h2 ok1 oq1 os1 r1 (codM_congr (up_ne (by decide)) cr) (by rw [up_ne (by decide)]; exact hc) (by rw [up_ne (by decide)]; exact hi) (by rw [up_ne (by decide)]; exact hs4) (by rw [up_ne (by decide)]; omega)
      refine ⟨d', K', g1, ?_, fun rx => ?_⟩
      · refine (congrArg (fun q => Rel q d') ?_).mp g2
        rw [up_ne (show 12 ≠ 17 by decide), up_ne (show 3 ≠ 17 by decide), up_ne (show 4 ≠ 17 by decide), tk_up (by decide) (by decide), up_ne (show 13 ≠ 17 by decide)]
        unfold staM stL stN stT
        rw [if_neg z2, if_pos z, hpl]
        have hq := oq (srcM M c) (by omega) k (by omega)
        rw [Int.toNat_of_nonneg hq.1]
        rw [up_up]
        rw [up_comm (k := 17) (k' := 2) (by decide), up_comm (k := 17) (k' := 7) (by decide), up_comm (k := 17) (k' := 14) (by decide), up_comm (k := 17) (k' := 15) (by decide)]
      · obtain ⟨-, -, -, -, k7, k8⟩ := staM_rows (ss := ss) z2
        refine relX_congr ?_ ?_ ?_ (g3 (fun t ht => ?_))
        · rw [staM_keep (by decide) (by decide) (by decide) (by decide) (by decide) (by decide) (by decide), up_ne (by decide), tk_ne (by decide) (by decide), up_ne (by decide)]
        · funext q
          rw [k7, up_ne (show 12 ≠ 17 by decide)]
          unfold stT
          rw [hpl]
          by_cases e : q = (M 12 (8 * srcM M c + k)).toNat
          · rw [if_pos e, ← e, up_eq]
          · rw [if_neg e, up_ni e, tk_ne (by decide) (by decide), up_ne (by decide)]
        · rw [k8, up_ne (by decide), tk_ne (by decide) (by decide), up_ne (by decide)]
        · rw [up_ne (by decide)] at ht
          rw [up_ne (show 7 ≠ 17 by decide), up_ne (show 8 ≠ 17 by decide), ud_ne (by omega), ud_ne (by omega)]
          exact rx t ht
  · rw [if_neg z]
    have hs : srcM M c = c := by unfold srcM; rw [if_neg z]
    have hpl : plcM M c = 0 := by unfold plcM; rw [if_neg z]
    have z2 : M 13 (srcM M c) ≠ 0 := by rw [hs]; exact z
    unfold JX8_take_111
    rw [if_pos rfl]
    obtain ⟨d', K', g1, g2, g3⟩ := m_t132 (K := K) (cost := 0) (c := c) (s := c) (k := 0) (ss := ss) ha hb hab hm hf h1 h2 ok oq os r cr hc hi hc (by omega)
    refine ⟨d', K', g1, ?_, fun rx => ?_⟩
    · refine (congrArg (fun q => Rel q d') ?_).mp g2
      unfold staM stL stN stT
      rw [if_neg z2, if_neg z, hpl, hs, Int.add_zero]
      have hq := oq c (by omega) 0 (by omega)
      rw [Int.toNat_of_nonneg hq.1]
    · obtain ⟨-, -, -, -, k7, k8⟩ := staM_rows (ss := ss) z2
      refine relX_congr ?_ ?_ ?_ (g3 rx)
      · rw [staM_keep (by decide) (by decide) (by decide) (by decide) (by decide) (by decide) (by decide), up_ne (by decide), tk_ne (by decide) (by decide)]
      · funext q
        rw [k7]
        unfold stT
        rw [hpl, hs]
        by_cases e : q = (M 12 (8 * c + 0)).toNat
        · rw [if_pos e, ← e, up_eq]
        · rw [if_neg e, up_ni e, tk_ne (by decide) (by decide)]
      · rw [k8, up_ne (by decide), tk_ne (by decide) (by decide)]
end
