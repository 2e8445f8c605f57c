set_option linter.unusedVariables false
set_option linter.unusedSimpArgs false
/-! ===== expressions: what is told of both sides ===== -/
def keepD (d d' : Int → Int) : Prop := ∀ i : Int, i < 324 → i ≠ 7 → d' i = d i
theorem keepD_refl {d : Int → Int} : keepD d d := fun _ _ _ => rfl
theorem keepD_trans {d d' d'' : Int → Int} (a : keepD d d') (b : keepD d' d'') : keepD d d'' := fun i h1 h2 => (b i h1 h2).trans (a i h1 h2)
/-- the draft with a step's codes more -/
def em1 (d : Int → Int) (x : Int) : Int → Int := if x ≤ -5 then ud (ud d (324 + d 7) (-3 - x)) 7 (d 7 + 1) else if 0 ≤ x then ud (ud (ud (ud d (324 + d 7) 0) 7 (d 7 + 1)) (324 + (d 7 + 1)) x) 7 (d 7 + 1 + 1) else ud (ud (ud (ud d (324 + d 7) 1) 7 (d 7 + 1)) (324 + (d 7 + 1)) (-(x + 1))) 7 (d 7 + 1 + 1)
def app (d : Int → Int) (l : List Int) : Int → Int := l.foldl em1 d
theorem app_app {d : Int → Int} {a b : List Int} : app d (a ++ b) = app (app d a) b := by unfold app; rw [List.foldl_append]
def EC (X : XC) (f : Nat → Int) (n : Nat) (R : PH → Option (Int × PH)) (s : Nat) (ss : List Int) (q : Int × Nat) : Prop :=
  ∀ h S rr tx sp, CWd X h S rr tx sp → IvM S → TOK f n tx s → STP rr sp ss → ∃ h', R h = some (0, h') ∧ CF X h' (tx 1) q
def ECs (X : XC) (f : Nat → Int) (n : Nat) (R : PH → Option (Int × PH)) (s : Nat) (ss : List Int) (s' : Nat) (l : List Int) : Prop :=
  ∀ h S rr tx sp, CWd X h S rr tx sp → IvM S → TOK f n tx s → STP rr sp ss → ∃ h' rr' tx' sp', R h = some (1, h') ∧ CWd X h' S rr' tx' sp' ∧ TOK f n tx' s' ∧ STP rr' sp' (ss ++ l) ∧ tx' 1 = tx 1 ∧ rr' 5 = rr 5
def EM (f : Nat → Int) (n : Nat) (R : PH → Option PH) (de s : Nat) (ss : List Int) (q : Int × Nat) : Prop :=
  ∀ (Y : YM), RT Y f n → ∀ g u dr, MW Y g u dr → POS f n u s → u 14 = de → cds dr 0 ss → ∃ g', R g = some g' ∧ MF Y g' u q
def EMs (f : Nat → Int) (n : Nat) (R : PH → Option PH) (de s : Nat) (ss : List Int) (s' : Nat) (l : List Int) : Prop :=
  ∀ (Y : YM), RT Y f n → ∀ g u dr, MW Y g u dr → POS f n u s → u 14 = de → cds dr 0 ss → ∃ g' u' dr', R g = some g' ∧ MW Y g' u' dr' ∧ POS f n u' s' ∧ u' 14 = de ∧ u' 15 = u 15 ∧ keepU u u' ∧ cds dr' 0 (ss ++ l) ∧ keepD dr dr' ∧ dr' = app dr l
def EP (n s s' : Nat) (l : List Int) (t t' : Nat) : Prop := s ≤ s' ∧ s' ≤ n ∧ l.length + s ≤ s' ∧ dk t l t' ∧ ∀ x ∈ l, -8 ≤ x ∧ x ≤ 9999
def EX (X : XC) (f : Nat → Int) (n : Nat) (RC : PH → Option (Int × PH)) (RM : PH → Option PH) (de s : Nat) (ss : List Int) (t t' : Nat) : Prop :=
  (∃ q, EC X f n RC s ss q ∧ EM f n RM de s ss q) ∨ (∃ s' l, EP n s s' l t t' ∧ ECs X f n RC s ss s' l ∧ EMs f n RM de s ss s' l)
/-- before an expression -/
def PRE (n de s : Nat) (ss : List Int) (t c : Nat) : Prop := s ≤ n ∧ de ≤ 4 ∧ dk 0 ss t ∧ t ≤ 2 * de + c ∧ ss.length + 6 ≤ s
section
variable {Y : YM} {f : Nat → Int} {n : Nat} {g : PH} {u : Nat → Int} {dr : Int → Int}
theorem cnt_b {ss : List Int} {t : Nat} (c : cds dr 0 ss) (k : dk 0 ss t) (hl : ss.length ≤ 900) (ht : t ≤ 11) : 0 ≤ dr 7 ∧ dr 7 ≤ 1356 := by
  have h1 := cds_cnt c k
  have h2 := cds_le c
  omega
theorem emit1 {ss : List Int} {x : Int} (w : MW Y g u dr) (h5 : u 5 = 0) (c : cds dr 0 ss) (h7 : 0 ≤ dr 7 ∧ dr 7 < 1500) (hx : -8 ≤ x ∧ x ≤ -5) : ∃ g' dr', FX8_emit g 227 (-3 - x) = some g' ∧ MW Y g' u dr' ∧ cds dr' 0 (ss ++ [x]) ∧ keepD dr dr' ∧ dr' = em1 dr x := by
  obtain ⟨g', e1, w1⟩ := m_emit (v := -3 - x) w h5 h7
  refine ⟨g', _, e1, w1, ?_, fun i h1 h2 => by rw [ud_ne h2, ud_ne (by omega)], by unfold em1; rw [if_pos hx.2]⟩
  refine cds_cong (d := dr) (dr 7) (by omega) c (by omega) (fun i h1 h2 => by rw [ud_ne (by omega), ud_ne (by omega)]) (fun _ => trivial) ?_
  unfold cds
  rw [if_neg (by omega), if_neg (by omega)]
  refine ⟨by rw [ud_ne (by omega), ud_eq], ?_⟩
  unfold cds
  rw [ud_eq]
theorem emit2 {ss : List Int} {x a b : Int} (w : MW Y g u dr) (h5 : u 5 = 0) (c : cds dr 0 ss) (h7 : 0 ≤ dr 7 ∧ dr 7 < 1490) (hx : (0 ≤ x ∧ a = 0 ∧ b = x) ∨ (-4 ≤ x ∧ x ≤ -1 ∧ a = 1 ∧ b = -(x + 1))) : ∃ g1 g' dr', FX8_emit g 227 a = some g1 ∧ FX8_emit g1 227 b = some g' ∧ MW Y g' u dr' ∧ cds dr' 0 (ss ++ [x]) ∧ keepD dr dr' ∧ dr' = em1 dr x := by
  obtain ⟨g1, e1, w1⟩ := m_emit (v := a) w h5 (by omega)
  obtain ⟨g', e2, w2⟩ := m_emit (v := b) w1 h5 (by rw [ud_eq]; omega)
  rw [ud_eq] at w2
  refine ⟨g1, g', _, e1, e2, w2, ?_, fun i h1 h2 => by rw [ud_ne h2, ud_ne (by omega), ud_ne h2, ud_ne (by omega)], by
    unfold em1
    rcases hx with ⟨x1, x2, x3⟩ | ⟨x0, x1, x2, x3⟩
    · rw [if_neg (by omega), if_pos x1, x2, x3]
    · rw [if_neg (by omega), if_neg (by omega), x2, x3]⟩
  refine cds_cong (d := dr) (dr 7) (by omega) c (by omega) (fun i h1 h2 => by rw [ud_ne (by omega), ud_ne (by omega), ud_ne (by omega), ud_ne (by omega)]) (fun _ => trivial) ?_
  have a1 : ud (ud (ud (ud dr (324 + dr 7) a) 7 (dr 7 + 1)) (324 + (dr 7 + 1)) b) 7 (dr 7 + 1 + 1) (324 + dr 7) = a := by rw [ud_ne (by omega), ud_ne (by omega), ud_ne (by omega), ud_eq]
  have a2 : ud (ud (ud (ud dr (324 + dr 7) a) 7 (dr 7 + 1)) (324 + (dr 7 + 1)) b) 7 (dr 7 + 1 + 1) (324 + (dr 7 + 1)) = b := by rw [ud_ne (by omega), ud_eq]
  have a3 : ud (ud (ud (ud dr (324 + dr 7) a) 7 (dr 7 + 1)) (324 + (dr 7 + 1)) b) 7 (dr 7 + 1 + 1) 7 = dr 7 + 2 := by rw [ud_eq]; omega
  unfold cds
  rcases hx with ⟨x1, x2, x3⟩ | ⟨x0, x1, x2, x3⟩
  · rw [if_pos x1]
    refine ⟨by rw [a1, x2], by rw [a2, x3], ?_⟩
    unfold cds
    exact a3
  · rw [if_neg (by omega), if_pos x0]
    refine ⟨by rw [a1, x2], by rw [a2, x3], ?_⟩
    unfold cds
    exact a3
/-- a failed reference goes through -/
theorem mf_set {q : Int × Nat} {u0 : Nat → Int} (m : MF Y g u0 q) : ∃ v, gfi g 8 227 4 = some (v 4) ∧ gfi g 8 227 14 = some (v 14) ∧ (∀ x, pfi g 8 227 4 x = some (g.set 227 (mdl (upf v 4 x))) ∧ MF Y (g.set 227 (mdl (upf v 4 x))) u0 q) ∧ (∀ x, pfi g 8 227 14 x = some (g.set 227 (mdl (upf v 14 x))) ∧ MF Y (g.set 227 (mdl (upf v 14 x))) u0 q) := by
  obtain ⟨v, d, w, m1, m2, m3, m4⟩ := m
  refine ⟨v, z8_i4 (mw_z w), z8_i14 (mw_z w), fun x => ⟨z8_w4 (mw_z w), ?_⟩, fun x => ⟨z8_w14 (mw_z w), ?_⟩⟩
  · exact ⟨_, d, mw_8 w, by rw [upf_ne (by decide)]; exact m1, by rw [upf_ne (by decide)]; exact m2, m3, keep_trans m4 (keep_up (by omega))⟩
  · exact ⟨_, d, mw_8 w, by rw [upf_ne (by decide)]; exact m1, by rw [upf_ne (by decide)]; exact m2, m3, keep_trans m4 (keep_up (by omega))⟩
theorem mf_fac {N : Nat} {q : Int × Nat} {u0 : Nat → Int} (m : MF Y g u0 q) : FRRecM (N + 1) 2 g 227 = some g := by
  show FX8_factor (FRRecM N) g 227 = some g
  unfold FX8_factor
  rw [mf_O m, Option.bind_some, mf_bad m, Option.bind_some, if_pos (by decide)]
theorem mf_term {N : Nat} {q : Int × Nat} {u0 : Nat → Int} (m : MF Y g u0 q) : FRRecM (N + 2) 1 g 227 = some g := by
  show FX8_term (FRRecM (N + 1)) g 227 = some g
  unfold FX8_term JX8_term_74
  have L : LX8_term_4 (FRRecM (N + 1)) 227 g = some (.inr g) := by
    unfold LX8_term_4
    rw [mf_bad m, Option.bind_some, if_pos (by decide)]
  rw [mf_O m, Option.bind_some, mf_fac m, Option.bind_some]
  unfold FU
  rw [lp, L]
  rfl
theorem mf_sum {N : Nat} {q : Int × Nat} {u0 : Nat → Int} (m : MF Y g u0 q) : FRRecM (N + 3) 0 g 227 = some g := by
  show FX8_sum (FRRecM (N + 2)) g 227 = some g
  unfold FX8_sum JX8_sum_74
  have L : LX8_sum_4 (FRRecM (N + 2)) 227 g = some (.inr g) := by
    unfold LX8_sum_4
    rw [mf_bad m, Option.bind_some, if_pos (by decide)]
  rw [mf_O m, Option.bind_some, mf_term m, Option.bind_some]
  unfold FU
  rw [lp, L]
  rfl
end
theorem bt_tx {X : XC} {f : Nat → Int} {n s : Nat} (t : TX X f n) : -1 ≤ bt f n s ∧ bt f n s ≤ 255 := by
  have hn := t.1
  unfold bt
  split
  · have := t.2.2 s (by omega); omega
  · omega
theorem stp_len {rr sp : Nat → Int} {ss : List Int} (k : STP rr sp ss) (h : ss.length ≤ 900) : 0 ≤ rr 4 ∧ rr 4 ≤ 900 := by rw [k.1]; omega
