set_option linter.unusedVariables false
set_option linter.unusedSimpArgs false
/-! ===== the reference: tokens ===== -/
abbrev YM : Type := (MM × MM × (Nat → MM)) × (Int × Int × Int) × ((Nat → Int) × (Nat → Int) × (Nat → Int) × (Nat → Int) × (Nat → Int)) × ((Int → Int) × (Int → Int)) × (Nat → Int → Int) × Option PC
/-- the world while the reference reads -/
def MW (Y : YM) (g : PH) (u : Nat → Int) (dr : Int → Int) : Prop := WS g Y.1.1 Y.1.2.1 Y.1.2.2 Y.2.1.1 Y.2.1.2.1 Y.2.1.2.2 Y.2.2.1.1 Y.2.2.1.2.1 Y.2.2.1.2.2.1 Y.2.2.1.2.2.2.1 u Y.2.2.1.2.2.2.2 Y.2.2.2.1.1 dr Y.2.2.2.1.2 Y.2.2.2.2.1 ∧ g[243]? = Y.2.2.2.2.2
def RT (Y : YM) (f : Nat → Int) (n : Nat) : Prop := n ≤ 900 ∧ Y.2.2.1.2.2.2.2 = f ∧ ∀ i, i < 900 → 0 ≤ f i ∧ f i ≤ 255
def keepU (u0 u : Nat → Int) : Prop := u 0 = u0 0 ∧ u 2 = u0 2 ∧ u 3 = u0 3 ∧ u 7 = u0 7 ∧ u 12 = u0 12 ∧ (u 5 = 0 → u0 5 = 0 ∧ u 6 = u0 6)
def bt (f : Nat → Int) (n p : Nat) : Int := if p < n then f p else -1
/-- the reference has failed -/
def MF (Y : YM) (g : PH) (u0 : Nat → Int) (q : Int × Nat) : Prop := ∃ u dr, MW Y g u dr ∧ u 5 = q.1 ∧ u 6 = q.2 ∧ (-5 ≤ q.1 ∧ q.1 ≤ -2) ∧ keepU u0 u
/-- the reference stands before the token at s -/
def POS (f : Nat → Int) (n : Nat) (u : Nat → Int) (s : Nat) : Prop := u 3 = n ∧ u 5 = 0 ∧ ∃ q : Nat, u 4 = q ∧ q ≤ n ∧ skS f n q = s
theorem keep_refl {u : Nat → Int} : keepU u u := ⟨rfl, rfl, rfl, rfl, rfl, fun h => ⟨h, rfl⟩⟩
theorem keep_trans {u v w : Nat → Int} (a : keepU u v) (b : keepU v w) : keepU u w := ⟨b.1.trans a.1, b.2.1.trans a.2.1, b.2.2.1.trans a.2.2.1, b.2.2.2.1.trans a.2.2.2.1, b.2.2.2.2.1.trans a.2.2.2.2.1, fun h => ⟨(a.2.2.2.2.2 (b.2.2.2.2.2 h).1).1, ((b.2.2.2.2.2 h).2).trans (a.2.2.2.2.2 (b.2.2.2.2.2 h).1).2⟩⟩
theorem keep_up {u : Nat → Int} {k : Nat} {x : Int} (hk : k ≠ 0 ∧ k ≠ 2 ∧ k ≠ 3 ∧ k ≠ 7 ∧ k ≠ 12 ∧ k ≠ 5 ∧ k ≠ 6) : keepU u (upf u k x) := ⟨upf_ne (by omega), upf_ne (by omega), upf_ne (by omega), upf_ne (by omega), upf_ne (by omega), fun h => by rw [upf_ne (by omega)] at h; exact ⟨h, upf_ne (by omega)⟩⟩
theorem keep_rep {u : Nat → Int} {c p : Int} (hc : c ≠ 0) : keepU u (upf (upf u 5 c) 6 p) := ⟨by rw [upf_ne (by decide), upf_ne (by decide)], by rw [upf_ne (by decide), upf_ne (by decide)], by rw [upf_ne (by decide), upf_ne (by decide)], by rw [upf_ne (by decide), upf_ne (by decide)], by rw [upf_ne (by decide), upf_ne (by decide)], fun h => by rw [upf_ne (by decide), upf_eq] at h; exact absurd h hc⟩
theorem MF_keep {Y : YM} {g : PH} {u0 u1 : Nat → Int} {q : Int × Nat} (k : keepU u0 u1) (m : MF Y g u1 q) : MF Y g u0 q := by
  obtain ⟨u, dr, m1, m2, m3, m4, m5⟩ := m
  exact ⟨u, dr, m1, m2, m3, m4, keep_trans k m5⟩
section
variable {Y : YM} {f : Nat → Int} {n : Nat} {g : PH} {u : Nat → Int} {dr : Int → Int}
theorem mw_8 {x : Nat → Int} (w : MW Y g u dr) : MW Y (g.set 227 (mdl x)) x dr := ⟨ws_227 w.1, by rw [List.getElem?_set, if_neg (by decide)]; exact w.2⟩
theorem mw_d {x : Int → Int} (w : MW Y g u dr) : MW Y (g.set 230 (dcell x)) u x := ⟨ws_230 w.1, by rw [List.getElem?_set, if_neg (by decide)]; exact w.2⟩
theorem mw_z (w : MW Y g u dr) : g[227]? = some (mdl u) := w_g227 w.1
theorem mw_b (w : MW Y g u dr) (r : RT Y f n) : g[228]? = some (c4 f) := by have := w_g228 w.1; rw [r.2.1] at this; exact this
theorem mw_dr (w : MW Y g u dr) : g[230]? = some (dcell dr) := w_g230 w.1
theorem m_byte (w : MW Y g u dr) (r : RT Y f n) (h3 : u 3 = n) {p : Nat} (hp : p < 2000) : FX8_byteAt g 227 p = some (bt f n p) := by
  have hn := r.1
  unfold FX8_byteAt JX8_byteAt_18 bt
  rw [z8_O (mw_z w), Option.bind_some, z8_i3 (mw_z w), Option.bind_some, h3, w32_nat (by omega), w32_nat (by omega)]
  by_cases c : p < n
  · rw [if_pos (by omega), if_pos c, z8_r1 (mw_z w), Option.bind_some, z4_l (mw_b w r) (by omega) (by omega), Option.bind_some, Int.toNat_natCast]
  · rw [if_neg (by omega), if_neg c]
theorem bt_in (r : RT Y f n) {p : Nat} : -1 ≤ bt f n p ∧ bt f n p ≤ 255 := by
  have hn := r.1
  unfold bt
  split
  · have := r.2.2 p (by omega); omega
  · omega
theorem m_next (w : MW Y g u dr) (r : RT Y f n) {s : Nat} (k : POS f n u s) : ∃ g', FX8_next g 227 = some (bt f n s, g') ∧ MW Y g' (upf u 4 (s : Nat)) dr := by
  obtain ⟨k3, k5, q, k4, hq, hs⟩ := k
  have hn := r.1
  unfold FX8_next
  rw [z8_O (mw_z w), Option.bind_some]
  have := lp_for (f := fun st : PH => LX8_next_0 227 st) (fun i g' => MW Y g' (upf u 4 (i : Nat)) dr ∧ ∀ j, q ≤ j → j < i → isSp f j = true) (fun g' => MW Y g' (upf u 4 (s : Nat)) dr) (a := q) (b := n) (s := g) hq (by omega) ⟨by rw [upf_same k4]; exact w, fun j h1 h2 => by omega⟩ (fun i g' h1 h2 hI => ?_) (fun g' hI => ?_)
  · obtain ⟨g', e1, w1⟩ := this
    have hs2 : s ≤ n := by rw [← hs]; exact rE_le hq
    rw [e1, Option.bind_some, z8_i4 (mw_z w1), Option.bind_some, upf_eq, m_byte w1 r (by rw [upf_ne (by decide)]; exact k3) (by omega), Option.bind_some]
    exact ⟨g', rfl, w1⟩
  · obtain ⟨w1, hj⟩ := hI
    unfold LX8_next_0
    rw [z8_i4 (mw_z w1), Option.bind_some, upf_eq, m_byte w1 r (by rw [upf_ne (by decide)]; exact k3) (by omega), Option.bind_some]
    have hb := r.2.2 i (by omega)
    unfold bt
    rw [if_pos h2, show w32 32 = 32 from rfl, w32_eq (by omega) (by omega)]
    by_cases c : f i = 32
    · rw [if_pos c, Option.bind_some, z8_w4 (mw_z w1), Option.bind_some, upf_up]
      refine Or.inr ⟨_, rfl, ?_, fun j h3 h4 => ?_⟩
      · rw [show (i : Int) + 1 = ((i + 1 : Nat) : Int) by omega]
        exact mw_8 w1
      · by_cases ej : j = i
        · subst ej; exact decide_eq_true c
        · exact hj j h3 (by omega)
    · rw [if_neg c]
      refine Or.inl ⟨_, rfl, ?_⟩
      have : skS f n q = i := rE_eq h1 (Or.inl (by omega)) (fun j h3 h4 => ⟨by omega, hj j h3 h4⟩) (fun z => c (of_decide_eq_true z.2))
      rw [← hs, this]; exact w1
  · obtain ⟨w1, hj⟩ := hI
    unfold LX8_next_0
    rw [z8_i4 (mw_z w1), Option.bind_some, upf_eq, m_byte w1 r (by rw [upf_ne (by decide)]; exact k3) (by omega), Option.bind_some]
    unfold bt
    rw [if_neg (show ¬ n < n from Nat.lt_irrefl n), if_neg (show ¬ w32 (-1) = w32 32 by decide)]
    refine ⟨_, rfl, ?_⟩
    have : skS f n q = n := rE_eq hq (Or.inl (by omega)) (fun j h3 h4 => ⟨by omega, hj j h3 h4⟩) (fun z => by omega)
    rw [← hs, this]; exact w1
theorem m_good (w : MW Y g u dr) (h5 : u 5 = 0) : FX8_isGood g 227 = some 1 := by
  unfold FX8_isGood JX8_isGood_12
  rw [z8_O (mw_z w), Option.bind_some, z8_i5 (mw_z w), Option.bind_some, h5, if_pos (by decide), if_pos (Or.inr rfl)]
theorem m_bad (w : MW Y g u dr) (h5 : -5 ≤ u 5 ∧ u 5 ≤ -2) : FX8_isGood g 227 = some 0 := by
  unfold FX8_isGood JX8_isGood_12
  rw [z8_O (mw_z w), Option.bind_some, z8_i5 (mw_z w), Option.bind_some, w32_eq (by omega) (by omega), if_neg (by omega), if_pos (Or.inl rfl)]
theorem m_report (w : MW Y g u dr) (h5 : u 5 = 0) {c : Int} {p : Nat} (hc : -5 ≤ c ∧ c ≤ -2) : ∃ g', FX8_report g 227 c p = some g' ∧ MF Y g' u (c, p) ∧ MW Y g' (upf (upf u 5 c) 6 (p : Nat)) dr := by
  unfold FX8_report
  rw [z8_O (mw_z w), Option.bind_some, z8_i5 (mw_z w), Option.bind_some, h5, if_pos (by decide), z8_w5 (mw_z w), Option.bind_some]
  have w1 := mw_8 (x := upf u 5 c) w
  rw [z8_w6 (mw_z w1), Option.bind_some]
  have w2 := mw_8 (x := upf (upf u 5 c) 6 (p : Nat)) w1
  exact ⟨_, rfl, ⟨_, dr, w2, by rw [upf_ne (by decide), upf_eq], upf_eq, hc, keep_rep (by omega)⟩, w2⟩
theorem m_reportF {q : Int × Nat} {c p : Int} (m : MF Y g u q) : FX8_report g 227 c p = some g := by
  obtain ⟨v, dr, w, m1, m2, m3, m4⟩ := m
  unfold FX8_report
  rw [z8_O (mw_z w), Option.bind_some, z8_i5 (mw_z w), Option.bind_some, m1, w32_eq (by omega) (by omega), if_neg (by omega)]
theorem mf_bad {q : Int × Nat} (m : MF Y g u q) : FX8_isGood g 227 = some 0 := by
  obtain ⟨v, dr, w, m1, m2, m3, m4⟩ := m
  exact m_bad w (by rw [m1]; exact m3)
theorem mf_O {q : Int × Nat} (m : MF Y g u q) : isO g 8 227 = some () := by
  obtain ⟨v, dr, w, m1, m2, m3, m4⟩ := m
  exact z8_O (mw_z w)
theorem mf_word {q : Int × Nat} {v : Nat} (m : MF Y g u q) : FX8_takeWord g 227 v = some (0, g) := by
  unfold FX8_takeWord
  rw [mf_O m, Option.bind_some, mf_bad m, Option.bind_some, if_pos (by decide)]
theorem mf_expect {q : Int × Nat} {c : Int} (m : MF Y g u q) : FX8_expect g 227 c = some g := by
  unfold FX8_expect
  rw [mf_O m, Option.bind_some, mf_bad m, Option.bind_some, if_pos (by decide)]
theorem mf_num {q : Int × Nat} {a b : Int} (m : MF Y g u q) : FX8_number g 227 a b = some (0, g) := by
  unfold FX8_number
  rw [mf_O m, Option.bind_some, mf_bad m, Option.bind_some, if_pos (by decide)]
theorem mf_emit {q : Int × Nat} {a : Int} (m : MF Y g u q) : FX8_emit g 227 a = some g := by
  unfold FX8_emit
  rw [mf_O m, Option.bind_some, mf_bad m, Option.bind_some, if_pos (by decide)]
theorem pos_at {s q : Nat} (h3 : u 3 = n) (h5 : u 5 = 0) (hq : q ≤ n) (hs : skS f n q = s) : POS f n (upf u 4 (q : Nat)) s := ⟨by rw [upf_ne (by decide)]; exact h3, by rw [upf_ne (by decide)]; exact h5, q, upf_eq, hq, hs⟩
theorem pos_st {s : Nat} (k : POS f n u s) : st f n s := by
  obtain ⟨k3, k5, q, k4, hq, hs⟩ := k
  rw [← hs]; exact sk_st hq
theorem m_expect (w : MW Y g u dr) (r : RT Y f n) {s : Nat} (k : POS f n u s) {c : Int} (hc : 0 ≤ c ∧ c < 48 ∨ 57 < c ∧ c < 97) :
    (¬ (kd f n s = 3 ∧ f s = c) ∧ ∃ g', FX8_expect g 227 c = some g' ∧ MF Y g' u (-2, s)) ∨ ((kd f n s = 3 ∧ f s = c) ∧ ∃ g' u', FX8_expect g 227 c = some g' ∧ MW Y g' u' dr ∧ POS f n u' (nx f n s) ∧ keepU u u' ∧ u' 14 = u 14 ∧ u' 15 = u 15) := by
  have hst := pos_st k
  have k' := k
  obtain ⟨k3, k5, q, k4, hq, hs⟩ := k
  obtain ⟨g1, e1, w1⟩ := m_next w r k'
  have hb := bt_in (f := f) (n := n) r (p := s)
  unfold FX8_expect JX8_expect_39
  rw [z8_O (mw_z w), Option.bind_some, m_good w k5, Option.bind_some, if_neg (show ¬ w32 1 = 0 by decide), e1, Option.bind_some]
  dsimp only
  rw [w32_eq (x := c) (by omega) (by omega), w32_eq (by omega) (by omega)]
  by_cases z : bt f n s = c
  · have hsn : s < n := by
      rcases Nat.lt_or_ge s n with q | q
      · exact q
      · unfold bt at z; rw [if_neg (by omega)] at z; omega
    have hf : f s = c := by unfold bt at z; rw [if_pos hsn] at z; exact z
    have nd : ¬ isDg f s = true := fun y => by have := of_decide_eq_true y; omega
    have nl : ¬ isLt f s = true := fun y => by have := of_decide_eq_true y; omega
    have hk : kd f n s = 3 := by unfold kd; rw [if_pos hsn, if_neg nd, if_neg nl]
    have he : en f n s = s + 1 := by unfold en; rw [if_pos hsn, if_neg nd, if_neg nl]
    rw [if_pos z, z8_i4 (mw_z w1), Option.bind_some, upf_eq, z8_w4 (mw_z w1), Option.bind_some, upf_up, show (s : Int) + 1 = ((s + 1 : Nat) : Int) by omega]
    refine Or.inr ⟨⟨hk, hf⟩, _, _, rfl, mw_8 w1, pos_at k3 k5 (by omega) (by unfold nx; rw [he]), keep_up (by omega), upf_ne (by decide), upf_ne (by decide)⟩
  · rw [if_neg z, z8_i4 (mw_z w1), Option.bind_some, upf_eq]
    obtain ⟨g2, e2, m2, -⟩ := m_report w1 (by rw [upf_ne (by decide)]; exact k5) (c := -2) (p := s) (by omega)
    rw [e2, Option.bind_some]
    refine Or.inl ⟨fun y => z ?_, g2, rfl, MF_keep (keep_up (by omega)) m2⟩
    have hsn : s < n := by
      rcases Nat.lt_or_ge s n with q | q
      · exact q
      · have := y.1; unfold kd at this; rw [if_neg (by omega)] at this; omega
    unfold bt; rw [if_pos hsn]; exact y.2
theorem wd_iff {s v : Nat} (hv : v < 9) : wd f n s v = true ↔ ((∀ i, i < wln v → bt f n (s + i) = (wch v).getD i 0) ∧ ¬ (97 ≤ bt f n (s + wln v) ∧ bt f n (s + wln v) ≤ 122)) := by
  have hl := wln_in v hv
  have hc := wch_in v hv
  unfold wd
  rw [Bool.and_eq_true, decide_eq_true_iff, wmt_iff]
  constructor
  · rintro ⟨⟨h1, h2⟩, h3⟩
    have hsn : s < n := by
      rcases Nat.lt_or_ge s n with q | q
      · exact q
      · unfold kd at h1; rw [if_neg (by omega)] at h1; omega
    have nd : ¬ isDg f s = true := fun y => by unfold kd at h1; rw [if_pos hsn, if_pos y] at h1; omega
    have yl : isLt f s = true := by
      rcases hb : isLt f s with _ | _
      · unfold kd at h1; rw [if_pos hsn, if_neg nd, hb, if_neg (by decide)] at h1; omega
      · rfl
    have he : en f n s = rE (isLt f) n s := by unfold en; rw [if_pos hsn, if_neg nd, if_pos yl]
    rw [he] at h2
    refine ⟨fun i hi => ?_, fun y => ?_⟩
    · have := rE_in (P := isLt f) (n := n) (p := s) (i := s + i) (by omega) (by omega)
      unfold bt; rw [if_pos this.1]; exact h3 i hi
    · have := rE_end (P := isLt f) (n := n) (p := s)
      rw [h2] at this
      unfold bt at y
      by_cases z : s + wln v < n
      · rw [if_pos z] at y; exact this ⟨z, decide_eq_true y⟩
      · rw [if_neg z] at y; omega
  · rintro ⟨h1, h2⟩
    have hin : ∀ i, i < wln v → s + i < n ∧ f (s + i) = (wch v).getD i 0 := fun i hi => by
      have a := h1 i hi
      have b := hc i (by omega) hi
      unfold bt at a
      by_cases z : s + i < n
      · rw [if_pos z] at a; exact ⟨z, a⟩
      · rw [if_neg z] at a; omega
    have h0 := hin 0 (by omega)
    have c0 := hc 0 (by omega) (by omega)
    rw [Nat.add_zero] at h0
    have nd : ¬ isDg f s = true := fun y => by have := of_decide_eq_true y; omega
    have yl : isLt f s = true := decide_eq_true (by omega)
    have hE : rE (isLt f) n s = s + wln v := rE_eq (by omega) (Or.inl (by have := (hin (wln v - 1) (by omega)).1; omega)) (fun i a b => by
      have := hin (i - s) (by omega)
      have d := hc (i - s) (by omega) (by omega)
      rw [show s + (i - s) = i by omega] at this
      exact ⟨this.1, decide_eq_true (by omega)⟩) (fun y => h2 (by
        unfold bt
        rw [if_pos y.1]
        exact of_decide_eq_true y.2))
    refine ⟨⟨?_, ?_⟩, fun i hi => (hin i hi).2⟩
    · unfold kd; rw [if_pos h0.1, if_neg nd, if_pos yl]
    · unfold en; rw [if_pos h0.1, if_neg nd, if_pos yl]; exact hE
theorem m_word (w : MW Y g u dr) (r : RT Y f n) {s v : Nat} (k : POS f n u s) (hv : v < 9) :
    (wd f n s v = false ∧ ∃ g', FX8_takeWord g 227 v = some (0, g') ∧ MW Y g' (upf u 4 (s : Nat)) dr) ∨ (wd f n s v = true ∧ ∃ g', FX8_takeWord g 227 v = some (1, g') ∧ MW Y g' (upf u 4 (en f n s : Nat)) dr) := by
  have hst := pos_st k
  have hsn := hst.1
  have hn := r.1
  have k' := k
  obtain ⟨k3, k5, q, k4, hq, hs⟩ := k
  obtain ⟨g1, e1, w1⟩ := m_next w r k'
  have hl := wln_in v hv
  have hc := wch_in v hv
  have h3 : upf u 4 (s : Nat) 3 = n := by rw [upf_ne (by decide)]; exact k3
  have iff := wd_iff (f := f) (n := n) (s := s) hv
  unfold FX8_takeWord JX8_takeWord_48 JX8_takeWord_76
  rw [z8_O (mw_z w), Option.bind_some, m_good w k5, Option.bind_some, if_neg (show ¬ w32 1 = 0 by decide), e1, Option.bind_some]
  dsimp only
  have := lp_for (f := fun st : Int => LX8_takeWord_16 g1 227 v st) (fun i st => st = (i : Int) ∧ ∀ j, j < i → bt f n (s + j) = (wch v).getD j 0) (fun o => ∃ i : Nat, o = i ∧ ((i < wln v ∧ bt f n (s + i) ≠ (wch v).getD i 0) ∨ (i = wln v ∧ ∀ j, j < i → bt f n (s + j) = (wch v).getD j 0))) (a := 0) (b := wln v) (s := 0) (by omega) (by omega) ⟨rfl, fun j hj => by omega⟩ (fun i o h1 h2 hI => ?_) (fun o hI => ?_)
  · obtain ⟨o, e2, i, rfl, ho⟩ := this
    rw [e2, Option.bind_some, sln_eq hv, Option.bind_some]
    have hi : i ≤ wln v := by rcases ho with ho | ho <;> omega
    rw [w32_nat (by omega), w32_nat (by omega)]
    rcases ho with ⟨o1, o2⟩ | ⟨rfl, o2⟩
    · rw [if_pos (by omega)]
      refine Or.inl ⟨?_, g1, rfl, w1⟩
      rw [← Bool.not_eq_true, iff]
      rintro ⟨y, -⟩
      exact o2 (y i o1)
    · have hb := bt_in (f := f) (n := n) r (p := s + wln v)
      rw [if_neg (by omega), z8_i4 (mw_z w1), Option.bind_some, upf_eq, show (s : Int) + (wln v : Nat) = ((s + wln v : Nat) : Int) by omega, m_byte w1 r h3 (by omega), Option.bind_some, m_in (by omega) (by omega) (by omega), Option.bind_some]
      by_cases z : 97 ≤ bt f n (s + wln v) ∧ bt f n (s + wln v) ≤ 122
      · rw [if_pos z, if_neg (show ¬ w32 1 = 0 by decide)]
        refine Or.inl ⟨?_, g1, rfl, w1⟩
        rw [← Bool.not_eq_true, iff]
        rintro ⟨-, y⟩
        exact y z
      · rw [if_neg z, if_pos (show w32 0 = 0 by decide), Option.bind_some, z8_w4 (mw_z w1), Option.bind_some, upf_up]
        have hw : wd f n s v = true := iff.mpr ⟨o2, z⟩
        refine Or.inr ⟨hw, _, rfl, ?_⟩
        have he : en f n s = s + wln v := by
          unfold wd at hw
          rw [Bool.and_eq_true, decide_eq_true_iff] at hw
          exact hw.1.2
        rw [he]
        exact mw_8 w1
  · obtain ⟨rfl, hj⟩ := hI
    have hb := bt_in (f := f) (n := n) r (p := s + i)
    have hw := hc i (by omega) h2
    unfold LX8_takeWord_16
    rw [sln_eq hv, Option.bind_some, w32_nat (by omega), w32_nat (by omega), if_pos (by omega), z8_i4 (mw_z w1), Option.bind_some, upf_eq, show (s : Int) + (i : Nat) = ((s + i : Nat) : Int) by omega, m_byte w1 r h3 (by omega), Option.bind_some, schr_eq hv h2, Option.bind_some, w32_eq (by omega) (by omega), w32_eq (by omega) (by omega)]
    by_cases z : bt f n (s + i) = (wch v).getD i 0
    · rw [if_pos z]
      refine Or.inr ⟨_, rfl, rfl, fun j hj2 => ?_⟩
      by_cases ej : j = i
      · subst ej; exact z
      · exact hj j (by omega)
    · rw [if_neg z]
      exact Or.inl ⟨_, rfl, i, rfl, Or.inl ⟨h2, z⟩⟩
  · obtain ⟨rfl, hj⟩ := hI
    unfold LX8_takeWord_16
    rw [sln_eq hv, Option.bind_some, if_neg (Int.lt_irrefl _)]
    exact ⟨_, rfl, wln v, rfl, Or.inr ⟨rfl, hj⟩⟩
end
