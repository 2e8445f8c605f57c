set_option linter.unusedVariables false
set_option linter.unusedSimpArgs false
/-! ===== the reference: whom a core steals from ===== -/
section
variable {h : PH} {a mp : Nat} {M : MM} {d : Int → Int}
theorem m_src (ha : a < h.length) (ok : Ok M) (r : Rel M d) {c : Nat} (hc : (c : Int) < M 11 0) : lp (fun st : Int × Int => LX8_take_19 (sd h a d) mp a c st.1 st.2) FU (c, 0) = some ((lqs M (M 11 0).toNat : Nat) : Int) := by
  have hC := ok.2.1.1
  have h8 := ok.2.1.2.2.2.1
  obtain ⟨n, hn⟩ := Int.eq_ofNat_of_zero_le hC.1
  have k0 := r.1.1
  have := lp_for (f := fun st : Int × Int => LX8_take_19 (sd h a d) mp a c st.1 st.2) (fun j st => st.2 = (j : Int) ∧ ∃ b : Nat, st.1 = b ∧ b < n ∧ ∀ o : Nat, o < j → M 13 o < M 13 b ∨ (M 13 o = M 13 b ∧ b ≤ o)) (fun q => ∃ b : Nat, q = b ∧ isL M n b) (a := 0) (b := n) (s := ((c : Int), 0)) (by omega) (by omega) ⟨rfl, c, rfl, by omega, fun o ho => by omega⟩ (fun j st h1 h2 hI => ?_) (fun st hI => ?_)
  · obtain ⟨q, e1, b, rfl, e2⟩ := this
    rw [e1, hn, Int.toNat_natCast]
    obtain ⟨m, rfl⟩ : ∃ m, n = m + 1 := ⟨n - 1, by omega⟩
    rw [isL_one e2 (lqs_is M m)]
  · obtain ⟨v1, v2⟩ := st
    obtain ⟨rfl, b, rfl, hb, hI⟩ := hI
    dsimp only
    have ej := (r.2.2.2 j (by omega)).2.2.2.2.1
    have eb := (r.2.2.2 b (by omega)).2.2.2.2.1
    have gj := h8 j (by omega)
    have gb := h8 b (by omega)
    refine Or.inr ?_
    unfold LX8_take_19 JX8_take_73 JX8_take_76 FX8_core
    simp (disch := omega) only [md_ald ha, Option.bind_some, k0, hn, ej, eb, w32_eq]
    rw [if_pos (by omega)]
    by_cases x1 : M 13 b < M 13 j
    · rw [if_pos x1]
      refine ⟨_, rfl, rfl, j, rfl, by omega, fun o ho => ?_⟩
      by_cases e : o = j
      · subst e; exact Or.inr ⟨rfl, Nat.le_refl _⟩
      · rcases hI o (by omega) with q | q <;> exact Or.inl (by omega)
    · rw [if_neg x1]
      by_cases x2 : (j : Int) < b
      · rw [if_pos x2]
        by_cases x3 : M 13 j = M 13 b
        · rw [if_pos x3]
          refine ⟨_, rfl, rfl, j, rfl, by omega, fun o ho => ?_⟩
          by_cases e : o = j
          · subst e; exact Or.inr ⟨rfl, Nat.le_refl _⟩
          · rcases hI o (by omega) with q | q
            · exact Or.inl (by omega)
            · omega
        · rw [if_neg x3]
          refine ⟨_, rfl, rfl, b, rfl, hb, fun o ho => ?_⟩
          by_cases e : o = j
          · subst e; exact Or.inl (by omega)
          · exact hI o (by omega)
      · rw [if_neg x2]
        refine ⟨_, rfl, rfl, b, rfl, hb, fun o ho => ?_⟩
        by_cases e : o = j
        · subst e
          by_cases x4 : M 13 o = M 13 b
          · exact Or.inr ⟨x4, by omega⟩
          · exact Or.inl (by omega)
        · exact hI o (by omega)
  · obtain ⟨v1, v2⟩ := st
    obtain ⟨rfl, b, rfl, hb, hI⟩ := hI
    dsimp only
    refine ⟨_, ?_, b, rfl, hb, hI⟩
    unfold LX8_take_19
    simp (disch := omega) only [md_ald ha, Option.bind_some, k0, hn, w32_eq]
    rw [if_neg (by omega)]
end
