set_option linter.unusedVariables false
set_option linter.unusedSimpArgs false
/-! ===== the setup: new cells ===== -/
theorem get_app {h l : PH} {a : Nat} {c : PC} (e : h[a]? = some c) : (h ++ l)[a]? = some c := by
  have : a < h.length := by
    rcases Nat.lt_or_ge a h.length with q | q
    · exact q
    · rw [List.getElem?_eq_none q] at e; cases e
  rw [List.getElem?_append_left this]; exact e
theorem at_app {h l : PH} {p : Nat} {M : MM} (t : At h p M) : At (h ++ l) p M := ⟨by rw [List.length_append]; have := t.1; omega, fun k hk => get_app (t.2 k hk)⟩
theorem fm_app {h l : PH} {M : MM} (z : FM h M) : FM (h ++ l) M := by
  obtain ⟨z0, ss, z1, y1, y2, y3, K, y4⟩ := z
  exact ⟨z0, ss, z1, y1, get_app y2, get_app y3, K, get_app y4⟩
theorem gdL_ok {h0 h : PH} {vs : List Nat} (hl : h0.length ≤ h.length) (hv : ∀ v ∈ vs, v < h.length) : gdL h0 h vs = some () := by unfold gdL; rw [if_pos ⟨hl, hv⟩]
theorem exs_code {ls : Int} {ss : List Int} {dr : Int → Int} (e : EXS ls ss dr) : CodeR dr ss := by
  rcases e with ⟨-, e2, e3, -⟩ | ⟨-, e2, e3, e4, e5, e6⟩
  · exact Or.inl ⟨e3, e2⟩
  · exact Or.inr ⟨e2, by have := (cnt_b e3 e4 (by omega) (by omega)).2; omega, e3, dk_dok e4, ⟨by omega, e5⟩⟩
theorem gh_19 {S : MM} {dr : Int → Int} {i : Int} (hi : 0 ≤ i) : gh S dr 19 i.toNat = dr i := by unfold gh; rw [if_pos rfl, Int.toNat_of_nonneg hi]
theorem exs_cod {S : MM} {ls : Int} {ss : List Int} {dr : Int → Int} (e : EXS ls ss dr) : CodM (gh S dr) ss := by
  unfold CodM
  exact codeR_congr (d := dr) (gh_19 (by omega)) (gh_19 (by omega)) (fun i hi => gh_19 (by omega)) (exs_code e)
theorem steps_eq {sp : Nat → Int} {ss : List Int} (hl : ss.length ≤ 900) (k : ∀ i, i < ss.length → sp i = ss.getD i 0) : ((List.range 900).map sp).take ss.length = ss := by
  apply List.ext_getElem?
  intro i
  rw [List.getElem?_take]
  by_cases c : i < ss.length
  · rw [if_pos c, List.getElem?_map, List.getElem?_range (by omega)]
    have := k i c
    rw [List.getD_eq_getElem?_getD, List.getElem?_eq_getElem c] at this
    rw [List.getElem?_eq_getElem c]
    simp [this]
  · rw [if_neg c, List.getElem?_eq_none (by omega)]
section
variable {h : PH} {M S : MM} {Mk : Nat → MM} {e nx ct : Int} {rr tx bs sp u bf : Nat → Int} {d dc df : Int → Int} {dh : Nat → Int → Int}
theorem ws_app {l : PH} (w : WS h M S Mk e nx ct rr tx bs sp u bf d dc df dh) : WS (h ++ l) M S Mk e nx ct rr tx bs sp u bf d dc df dh := by
  obtain ⟨len, e0, e1, e2, e3, e4, e49, e50, a5, a27, aK, f5, f27, fK, g227, g228, g229, g230, g231, g232, gH, g241, g242, g243⟩ := w
  exact ⟨by rw [List.length_append]; omega, get_app e0, get_app e1, get_app e2, get_app e3, get_app e4, get_app e49, get_app e50, at_app a5, at_app a27, fun i hi => at_app (aK i hi), fm_app f5, fm_app f27, fun i hi => fm_app (fK i hi), get_app g227, get_app g228, get_app g229, get_app g230, get_app g231, get_app g232, fun i hi => get_app (gH i hi), by obtain ⟨x, hx⟩ := g241; exact ⟨x, get_app hx⟩, by obtain ⟨x, hx⟩ := g242; exact ⟨x, get_app hx⟩, by obtain ⟨x, hx⟩ := g243; exact ⟨x, get_app hx⟩⟩
theorem k_cpo {ss : List Int} (w : WS h M S Mk e nx ct rr tx bs sp u bf d dc df dh) (hl : ss.length < 895) (k : ∀ i, i < ss.length → sp i = ss.getD i 0) : cpo h 4 ss.length = some (h ++ [.inl (0, ss)]) := by
  have e4 := w_e4 w
  have len := w_len w
  have a1 : alen h 4 = some 900 := by unfold alen; rw [e4]; unfold c4; dsimp only; rw [if_pos (by decide), List.length_map, List.length_range]; rfl
  unfold cpo
  rw [a1, Option.bind_some, w32_nat (by omega), show w32 900 = 900 from rfl, if_neg (by omega), gdL_ok (Nat.le_refl _) (by intro v hv; simp at hv; omega), Option.bind_some]
  unfold nwa
  rw [if_pos (by omega), Option.bind_some, if_pos (by omega)]
  have hm : minI 900 (ss.length : Int) = ss.length := by unfold minI; rw [w32_nat (by omega), show w32 900 = 900 from rfl, if_pos (by omega)]
  rw [hm]
  unfold acpy
  rw [get_app e4]
  have : (h ++ [(.inl (0, List.replicate (ss.length : Int).toNat 0) : PC)])[h.length]? = some (.inl (0, List.replicate (ss.length : Int).toNat 0)) := by simp
  rw [this]
  unfold c4
  dsimp only
  rw [if_pos (by refine ⟨⟨rfl, rfl, by omega⟩, by omega, ?_, ?_⟩ <;> simp <;> omega)]
  congr 1
  simp only [Int.toNat_natCast, Int.toNat_zero, List.take_zero, List.drop_zero, Nat.zero_add, List.nil_append]
  rw [steps_eq (by omega) k, List.drop_eq_nil_of_le (by simp), List.append_nil]
  simp
theorem newOK {h0 : PH} {ss : List Int} {dr : Int → Int} {ls : Int} (w : WS h M S Mk e nx ct rr tx bs sp u bf d dc df dh) (hl : h0.length ≤ h.length) (k : STP rr sp ss) (ex : EXS ls ss dr) : ∃ h', JX4_readSetup_77 h0 h 1 27 = some (1, h') ∧ WS h' M (gh (up S 0 2 (h.length : Nat)) dr) Mk e nx ct rr tx bs sp u bf d dc df dh := by
  have hs := exs_len ex
  have len := w_len w
  have w1 := ws_app (l := [(.inr (1, dflt 1) : PC)]) w
  have w4 := ws_app (l := [(.inr (1, [rf (h.length + 1), rf (h.length + 2)]) : PC), .inl (0, ss), .inl (0, List.replicate 11 0)]) w
  have hN : gh (up S 0 2 (h.length : Nat)) dr 0 2 = (h.length : Nat) := by rw [gh_ne (by decide), up_eq]
  have fz : FM (h ++ [(.inr (1, [rf (h.length + 1), rf (h.length + 2)]) : PC), .inl (0, ss), .inl (0, List.replicate 11 0)]) (gh (up S 0 2 (h.length : Nat)) dr) := by
    refine ⟨by rw [hN]; omega, ss, exs_cod ex, ?_⟩
    rw [hN, Int.toNat_natCast]
    refine ⟨Or.inr (Or.inr (Or.inr len)), by simp, ?_, (fun _ => 0), ?_⟩
    · rw [List.getElem?_append_right (by omega), show h.length + 1 - h.length = 1 by omega]; rfl
    · rw [List.getElem?_append_right (by omega), show h.length + 2 - h.length = 2 by omega]; rfl
  have w5 := ws_S (N := gh (up S 0 2 (h.length : Nat)) dr) w4 fz
  refine ⟨_, ?_, w5⟩
  unfold JX4_readSetup_77
  rw [gdL_ok hl (by intro v hv; simp at hv; omega), Option.bind_some]
  unfold nwo
  rw [Option.bind_some, z1_r3 (w_e1 w1), Option.bind_some, z1_i4 (w_e1 w1), Option.bind_some, gdL_ok (by simp; omega) (by intro v hv; simp at hv ⊢; omega), Option.bind_some, k.1, k_cpo w1 hs k.2, Option.bind_some, gdL_ok (by simp; omega) (by intro v hv; simp at hv ⊢; omega), Option.bind_some]
  have FI : FX1_init (h ++ [(.inr (1, dflt 1) : PC)] ++ [.inl (0, ss)]) h.length (h ++ [(.inr (1, dflt 1) : PC)]).length = some (h ++ [(.inr (1, [rf (h.length + 1), rf (h.length + 2)]) : PC), .inl (0, ss), .inl (0, List.replicate 11 0)]) := by
    have g1 : ∀ (c : PC) (r : PH), (h ++ c :: r)[h.length]? = some c := fun c r => by simp
    have s1 : ∀ (c c' : PC) (r : PH), (h ++ c :: r).set h.length c' = h ++ c' :: r := fun c c' r => by simp
    unfold FX1_init
    rw [show h ++ [(.inr (1, dflt 1) : PC)] ++ [.inl (0, ss)] = h ++ [(.inr (1, dflt 1) : PC), .inl (0, ss)] by simp, show (h ++ [(.inr (1, dflt 1) : PC)]).length = h.length + 1 by simp]
    unfold isO
    rw [g1]
    dsimp only
    rw [if_pos rfl, Option.bind_some, gdL_ok (Nat.le_refl _) (by intro v hv; simp at hv ⊢; omega), Option.bind_some]
    unfold nwa
    rw [if_pos (by omega), Option.bind_some, show (h ++ [(.inr (1, dflt 1) : PC), .inl (0, ss)]).length = h.length + 2 by simp, show h ++ [(.inr (1, dflt 1) : PC), .inl (0, ss)] ++ [.inl (0, List.replicate (11 : Int).toNat 0)] = h ++ [(.inr (1, dflt 1) : PC), .inl (0, ss), .inl (0, List.replicate 11 0)] by simp]
    unfold pfr
    rw [g1]
    dsimp only
    rw [if_pos (by refine ⟨⟨rfl, by decide⟩, ?_⟩; simp), Option.bind_some, s1, g1]
    dsimp only
    rw [if_pos (by refine ⟨⟨rfl, by rw [List.length_set]; decide⟩, ?_⟩; simp), Option.bind_some, s1]
    rfl
  rw [FI, Option.bind_some, b27_w0_2 (w_a27 w4) (by simp), Option.bind_some]
  rw [putM_congr (M' := gh (up S 0 2 (h.length : Nat)) dr)]
  intro k hk
  unfold cellM
  rw [gh_ne (show 0 ≠ 19 by decide), gh_ne (show 1 ≠ 19 by decide), gh_ne (show 11 ≠ 19 by decide), gh_ne (show k ≠ 19 by omega)]
end
