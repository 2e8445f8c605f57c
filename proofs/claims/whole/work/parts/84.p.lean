set_option linter.unusedVariables false
set_option linter.unusedSimpArgs false
/-! ===== the reference: numbers, codes ===== -/
def mn (x : Int) : Int := if 1000000 < x then 1000000 else x
theorem mn_step {v c : Int} (hv : 0 ≤ v) (hc : 0 ≤ c ∧ c ≤ 9) : (if 1000000 < 10 * mn v + c then 1000000 else 10 * mn v + c) = mn (if v < 1000000 then 10 * v + c else v) := by
  unfold mn
  split <;> split <;> split <;> (try split at *) <;> omega
section
variable {Y : YM} {f : Nat → Int} {n : Nat} {g : PH} {u : Nat → Int} {dr : Int → Int}
theorem dg_iff (r : RT Y f n) {s : Nat} : (48 ≤ bt f n s ∧ bt f n s ≤ 57) ↔ kd f n s = 1 := by
  unfold bt kd
  by_cases c : s < n
  · rw [if_pos c, if_pos c]
    constructor
    · intro h; rw [if_pos (show isDg f s = true from decide_eq_true h)]
    · intro h
      rcases hb : isDg f s with _ | _
      · rw [hb, if_neg (by decide)] at h
        split at h <;> omega
      · exact of_decide_eq_true hb
  · rw [if_neg c, if_neg c]; omega
theorem m_isDg (r : RT Y f n) {s : Nat} {g : PH} : FX8_isDigit g (bt f n s) = some (if kd f n s = 1 then 1 else 0) := by
  have hb := bt_in (f := f) (n := n) r (p := s)
  have := dg_iff r (s := s)
  unfold FX8_isDigit
  rw [m_in (by omega) (by omega) (by omega), Option.bind_some]
  by_cases c : kd f n s = 1
  · rw [if_pos (this.mpr c), if_pos c, if_pos (Or.inr rfl)]
  · rw [if_neg (fun q => c (this.mp q)), if_neg c, if_pos (Or.inl rfl)]
theorem m_num (w : MW Y g u dr) (r : RT Y f n) {s : Nat} (k : POS f n u s) {lo hi : Int} (hl : 0 ≤ lo ∧ lo ≤ 1000) (hh : -1 ≤ hi ∧ hi ≤ 9999) :
    (∃ q v g', sNum f n lo hi s = .inl q ∧ FX8_number g 227 lo hi = some (v, g') ∧ MF Y g' u q) ∨ (∃ g' u', sNum f n lo hi s = .inr (tvl f n s, nx f n s) ∧ FX8_number g 227 lo hi = some (tvl f n s, g') ∧ MW Y g' u' dr ∧ POS f n u' (nx f n s) ∧ keepU u u' ∧ u' 14 = u 14 ∧ u' 15 = u 15 ∧ u' 13 = s ∧ s < n ∧ lo ≤ tvl f n s ∧ tvl f n s ≤ hi) := by
  have hst := pos_st k
  have hsn := hst.1
  have hn := r.1
  have k' := k
  obtain ⟨k3, k5, q, k4, hq, hs⟩ := k
  obtain ⟨g1, e1, w1⟩ := m_next w r k'
  have hv := tvl_in (f := f) (n := n) (s := s) r.2.2 hn
  unfold sNum FX8_number JX8_number_109
  rw [z8_O (mw_z w), Option.bind_some, m_good w k5, Option.bind_some, if_neg (show ¬ w32 1 = 0 by decide), e1, Option.bind_some]
  dsimp only
  rw [m_isDg r, Option.bind_some]
  by_cases c : kd f n s = 1
  · rw [if_pos c, if_pos c, if_neg (show ¬ w32 1 = 0 by decide)]
    have hlt : s < n := by
      rcases Nat.lt_or_ge s n with q | q
      · exact q
      · unfold kd at c; rw [if_neg (by omega)] at c; omega
    have hd : isDg f s = true := by
      rcases hb : isDg f s with _ | _
      · unfold kd at c; rw [if_pos hlt, hb, if_neg (by decide)] at c
        split at c <;> omega
      · rfl
    have he : en f n s = rE (isDg f) n s := by unfold en; rw [if_pos hlt, if_pos hd]
    have w2 := mw_8 (x := upf (upf u 4 (s : Nat)) 13 (s : Nat)) w1
    rw [z8_i4 (mw_z w1), Option.bind_some, upf_eq, z8_w13 (mw_z w1), Option.bind_some]
    have L := lp_for (f := fun st : Int × PH => LX8_number_41 227 lo hi st.1 st.2) (fun i st => ∃ g', st = (mn (nv f s (i - s)), g') ∧ MW Y g' (upf (upf u 13 (s : Nat)) 4 (i : Nat)) dr ∧ ∀ j, s ≤ j → j < i → isDg f j = true) (fun o => ∃ g', o = (mn (tvl f n s), g') ∧ MW Y g' (upf (upf u 13 (s : Nat)) 4 (en f n s : Nat)) dr) (a := s) (b := n) (s := (0, g1.set 227 (mdl (upf (upf u 4 (s : Nat)) 13 (s : Nat))))) hsn (by omega) ⟨_, by rw [Nat.sub_self]; rfl, by
      rw [show upf (upf u 13 (s : Nat)) 4 (s : Nat) = upf (upf u 4 (s : Nat)) 13 (s : Nat) by
        funext z
        unfold upf
        by_cases z4 : z = 4
        · rw [if_pos z4, if_neg (by omega), if_pos z4]
        · rw [if_neg z4]
          by_cases z13 : z = 13
          · rw [if_pos z13, if_pos z13]
          · rw [if_neg z13, if_neg z13, if_neg z4]]
      exact w2, fun j h1 h2 => by omega⟩ (fun i o h1 h2 hI => ?_) (fun o hI => ?_)
    · obtain ⟨o, e2, g3, rfl, w3⟩ := L
      rw [e2, Option.bind_some]
      dsimp only
      have hm : -2147483648 ≤ mn (tvl f n s) ∧ mn (tvl f n s) < 2147483648 := by unfold mn; split <;> omega
      rw [m_in hm (by omega) (by omega), Option.bind_some]
      by_cases c2 : tvl f n s < lo ∨ hi < tvl f n s
      · rw [if_pos c2, if_neg (show ¬ (lo ≤ mn (tvl f n s) ∧ mn (tvl f n s) ≤ hi) by unfold mn; split <;> omega), if_pos (show w32 0 = 0 by decide), z8_i13 (mw_z w3), Option.bind_some, upf_ne (by decide), upf_eq]
        obtain ⟨g4, e4, m4, -⟩ := m_report w3 (by rw [upf_ne (by decide), upf_ne (by decide)]; exact k5) (c := -3) (p := s) (by omega)
        rw [e4, Option.bind_some]
        exact Or.inl ⟨_, _, g4, rfl, rfl, MF_keep (keep_trans (keep_up (by omega)) (keep_up (by omega))) m4⟩
      · have hme : mn (tvl f n s) = tvl f n s := by unfold mn; rw [if_neg (by omega)]
        rw [hme, if_neg c2, if_pos (show lo ≤ tvl f n s ∧ tvl f n s ≤ hi by omega), if_neg (show ¬ w32 1 = 0 by decide)]
        refine Or.inr ⟨g3, _, rfl, rfl, w3, ?_, keep_trans (keep_up (by omega)) (keep_up (by omega)), ?_, ?_, ?_, hlt, by omega, by omega⟩
        · exact pos_at (by rw [upf_ne (by decide)]; exact k3) (by rw [upf_ne (by decide)]; exact k5) (en_le hsn) rfl
        · rw [upf_ne (by decide), upf_ne (by decide)]
        · rw [upf_ne (by decide), upf_ne (by decide)]
        · rw [upf_ne (by decide), upf_eq]
    · obtain ⟨g3, rfl, w3, hj⟩ := hI
      have h3 : upf (upf u 13 (s : Nat)) 4 (i : Nat) 3 = n := by rw [upf_ne (by decide), upf_ne (by decide)]; exact k3
      dsimp only
      unfold LX8_number_41
      rw [z8_i4 (mw_z w3), Option.bind_some, upf_eq, m_byte w3 r h3 (by omega), Option.bind_some, m_isDg r, Option.bind_some]
      by_cases c2 : kd f n i = 1
      · have hdi : isDg f i = true := by
          rcases hb : isDg f i with _ | _
          · unfold kd at c2; rw [if_pos h2, hb, if_neg (by decide)] at c2
            split at c2 <;> omega
          · rfl
        have hfi := of_decide_eq_true hdi
        have hr : i + 1 ≤ rE (isDg f) n s := by
          have a0 := rE_ge (P := isDg f) (n := n) (p := s)
          rcases Nat.lt_or_ge i (rE (isDg f) n s) with q | q
          · exact q
          · have a1 := rE_end (P := isDg f) (n := n) (p := s)
            exfalso
            rcases Nat.lt_or_eq_of_le q with q2 | q2
            · exact a1 ⟨by omega, hj _ a0 q2⟩
            · rw [q2] at a1; exact a1 ⟨h2, hdi⟩
        have hnv := nv_nn (f := f) (n := n) (s := s) r.2.2 hn (k := i - s) (by omega)
        have hmn : 0 ≤ mn (nv f s (i - s)) ∧ mn (nv f s (i - s)) ≤ 1000000 := by unfold mn; split <;> omega
        rw [if_pos c2, if_neg (show ¬ w32 1 = 0 by decide), Option.bind_some, m_byte w3 r h3 (by omega), Option.bind_some]
        have hbt : bt f n i = f i := by unfold bt; rw [if_pos h2]
        have hM : FX8_min g3 1000000 (10 * mn (nv f s (i - s)) + bt f n i - 48) = some (mn (nv f s (i + 1 - s))) := by
          unfold FX8_min JX8_min_10
          rw [hbt, show w32 1000000 = 1000000 from rfl, w32_eq (by omega) (by omega), show i + 1 - s = (i - s) + 1 by omega]
          rw [nv, show s + (i - s) = i by omega, ← mn_step hnv.1 (show 0 ≤ f i - 48 ∧ f i - 48 ≤ 9 by omega)]
          by_cases y : 1000000 < 10 * mn (nv f s (i - s)) + f i - 48
          · rw [if_pos y, if_pos (by omega)]
          · rw [if_neg y, if_neg (by omega)]; congr 1; omega
        rw [hM, Option.bind_some, Option.bind_some, z8_w4 (mw_z w3), Option.bind_some, upf_up, show (i : Int) + 1 = ((i + 1 : Nat) : Int) by omega]
        refine Or.inr ⟨_, rfl, _, rfl, mw_8 w3, fun j h4 h5 => ?_⟩
        by_cases ej : j = i
        · subst ej; exact hdi
        · exact hj j h4 (by omega)
      · have hnd : ¬ (i < n ∧ isDg f i = true) := fun y => c2 (by unfold kd; rw [if_pos h2, if_pos y.2])
        have hE : rE (isDg f) n s = i := rE_eq h1 (Or.inl (by omega)) (fun j h4 h5 => ⟨by omega, hj j h4 h5⟩) hnd
        rw [if_neg c2, if_pos (show w32 0 = 0 by decide)]
        refine Or.inl ⟨_, rfl, g3, ?_, ?_⟩
        · unfold tvl; rw [hE]
        · rw [he, hE]; exact w3
    · obtain ⟨g3, rfl, w3, hj⟩ := hI
      have h3 : upf (upf u 13 (s : Nat)) 4 (n : Nat) 3 = n := by rw [upf_ne (by decide), upf_ne (by decide)]; exact k3
      have hE : rE (isDg f) n s = n := rE_eq hsn (Or.inl (by omega)) (fun j h4 h5 => ⟨by omega, hj j h4 h5⟩) (fun y => by omega)
      dsimp only
      unfold LX8_number_41
      rw [z8_i4 (mw_z w3), Option.bind_some, upf_eq, m_byte w3 r h3 (by omega), Option.bind_some, m_isDg r, Option.bind_some, if_neg (show ¬ kd f n n = 1 by unfold kd; rw [if_neg (Nat.lt_irrefl n)]; omega), if_pos (show w32 0 = 0 by decide)]
      refine ⟨_, rfl, g3, ?_, ?_⟩
      · unfold tvl; rw [hE]
      · rw [he, hE]; exact w3
  · rw [if_neg c, if_neg c, if_pos (show w32 0 = 0 by decide), z8_i4 (mw_z w1), Option.bind_some, upf_eq]
    obtain ⟨g2, e2, m2, -⟩ := m_report w1 (by rw [upf_ne (by decide)]; exact k5) (c := -2) (p := s) (by omega)
    rw [e2, Option.bind_some]
    exact Or.inl ⟨_, _, g2, rfl, rfl, MF_keep (keep_up (by omega)) m2⟩
theorem m_emit (w : MW Y g u dr) (h5 : u 5 = 0) {v : Int} (h7 : 0 ≤ dr 7 ∧ dr 7 < 1500) : ∃ g', FX8_emit g 227 v = some g' ∧ MW Y g' u (ud (ud dr (324 + dr 7) v) 7 (dr 7 + 1)) := by
  have w1 := mw_d (x := ud dr (324 + dr 7) v) w
  have w2 := mw_d (x := ud (ud dr (324 + dr 7) v) 7 (dr 7 + 1)) w1
  unfold FX8_emit
  rw [z8_O (mw_z w), Option.bind_some, m_good w h5, Option.bind_some, if_neg (show ¬ w32 1 = 0 by decide), z8_r9 (mw_z w), Option.bind_some, Option.bind_some, zd_l (mw_dr w) (by omega) (by omega), Option.bind_some, zd_s (mw_dr w) (by omega) (by omega), Option.bind_some, z8_r9 (mw_z w1), Option.bind_some, zd_l (mw_dr w1) (by omega) (by omega), Option.bind_some, ud_ne (by omega), zd_s (mw_dr w1) (by omega) (by omega), Option.bind_some]
  exact ⟨_, rfl, w2⟩
end
/-! codes and steps -/
/-- the depth goes from t to t' -/
def dk : Nat → List Int → Nat → Prop
  | t, [], t' => t = t'
  | t, s :: r, t' => if s ≤ -5 then 2 ≤ t ∧ dk (t - 1) r t' else t < 11 ∧ dk (t + 1) r t'
theorem dk_app : ∀ {l l' : List Int} {t t' t'' : Nat}, dk t l t' → dk t' l' t'' → dk t (l ++ l') t'' := by
  intro l
  induction l with
  | nil => intro l' t t' t'' h1 h2; unfold dk at h1; rw [h1]; exact h2
  | cons s r ih =>
    intro l' t t' t'' h1 h2
    unfold dk at h1
    show dk t (s :: (r ++ l')) t''
    unfold dk
    split at h1
    · rename_i c; rw [if_pos c]; exact ⟨h1.1, ih h1.2 h2⟩
    · rename_i c; rw [if_neg c]; exact ⟨h1.1, ih h1.2 h2⟩
theorem dk_dok : ∀ {l : List Int} {t : Nat}, dk t l 1 → dok t l := by
  intro l
  induction l with
  | nil => intro t h; exact h
  | cons s r ih =>
    intro t h
    unfold dk at h
    unfold dok
    split at h
    · rename_i c; rw [if_pos c]; exact ⟨h.1, ih h.2⟩
    · rename_i c; rw [if_neg c]; exact ⟨h.1, ih h.2⟩
theorem cds_cnt {d : Int → Int} : ∀ {l : List Int} {pos : Int} {t t' : Nat}, cds d pos l → dk t l t' → 2 * (d 7 - pos) = 3 * l.length + t' - t := by
  intro l
  induction l with
  | nil => intro pos t t' h1 h2; unfold cds at h1; unfold dk at h2; simp; omega
  | cons s r ih =>
    intro pos t t' h1 h2
    unfold cds at h1
    unfold dk at h2
    by_cases c : s ≤ -5
    · rw [if_neg (by omega), if_neg (by omega)] at h1
      rw [if_pos c] at h2
      have := ih h1.2 h2.2
      simp only [List.length_cons]
      omega
    · rw [if_neg c] at h2
      have h3 : cds d (pos + 2) r := by
        by_cases z : 0 ≤ s
        · rw [if_pos z] at h1; exact h1.2.2
        · rw [if_neg z, if_pos (by omega)] at h1; exact h1.2.2
      have := ih h3 h2.2
      simp only [List.length_cons]
      omega
/-- codes one behind the other -/
theorem cds_cong {d d' : Int → Int} (q : Int) : ∀ {l : List Int} {pos : Int}, 0 ≤ pos → cds d pos l → d 7 ≤ q → (∀ i : Int, 324 ≤ i → i < 324 + q → d' i = d i) → ∀ {l' : List Int}, (d' 7 = d 7 → True) → (cds d' (d 7) l' → cds d' pos (l ++ l')) := by
  intro l
  induction l with
  | nil => intro pos hp h1 h2 h3 l' _ h4; unfold cds at h1; rw [← h1]; exact h4
  | cons s r ih =>
    intro pos hp h1 h2 h3 l' ht h4
    have hle := cds_le h1
    simp only [List.length_cons] at hle
    unfold cds at h1
    show cds d' pos (s :: (r ++ l'))
    unfold cds
    by_cases z : 0 ≤ s
    · rw [if_pos z] at h1 ⊢
      have := cds_le h1.2.2
      exact ⟨by rw [h3 _ (by omega) (by omega)]; exact h1.1, by rw [h3 _ (by omega) (by omega)]; exact h1.2.1, ih (by omega) h1.2.2 h2 h3 ht h4⟩
    · rw [if_neg z] at h1 ⊢
      by_cases z2 : -4 ≤ s
      · rw [if_pos z2] at h1 ⊢
        have := cds_le h1.2.2
        exact ⟨by rw [h3 _ (by omega) (by omega)]; exact h1.1, by rw [h3 _ (by omega) (by omega)]; exact h1.2.1, ih (by omega) h1.2.2 h2 h3 ht h4⟩
      · rw [if_neg z2] at h1 ⊢
        exact ⟨by rw [h3 _ (by omega) (by omega)]; exact h1.1, ih (by omega) h1.2 h2 h3 ht h4⟩
