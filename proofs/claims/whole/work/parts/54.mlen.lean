set_option linter.unusedVariables false
set_option linter.unusedSimpArgs false
/-! ===== the reference: the length of a task ===== -/
def lcell (K : Nat → Int) : PC := .inl (3, (List.range 1500).map K)
/-- the codes from pos on are those of the steps -/
def cds (d : Int → Int) : Int → List Int → Prop
  | pos, [] => d 7 = pos
  | pos, s :: r => if 0 ≤ s then d (324 + pos) = 0 ∧ d (324 + (pos + 1)) = s ∧ cds d (pos + 2) r else if -4 ≤ s then d (324 + pos) = 1 ∧ d (324 + (pos + 1)) = -(s + 1) ∧ cds d (pos + 2) r else d (324 + pos) = -3 - s ∧ cds d (pos + 1) r
def dok : Nat → List Int → Prop
  | top, [] => top = 1
  | top, s :: r => if s ≤ -5 then 2 ≤ top ∧ dok (top - 1) r else top < 11 ∧ dok (top + 1) r
def CodeR (d : Int → Int) (ss : List Int) : Prop := (d 6 = 0 ∧ ss = [-1]) ∨ (d 6 = 1 ∧ d 7 ≤ 1500 ∧ cds d 0 ss ∧ dok 0 ss ∧ ssOk ss)
theorem cds_le {d : Int → Int} : ∀ {ss : List Int} {pos : Int}, cds d pos ss → pos + ss.length ≤ d 7 := by
  intro ss
  induction ss with
  | nil => intro pos h; unfold cds at h; simp; omega
  | cons s r ih =>
    intro pos h
    unfold cds at h
    split at h
    · have := ih h.2.2; simp; omega
    · split at h
      · have := ih h.2.2; simp; omega
      · have := ih h.2; simp; omega
theorem dok_top : ∀ {ss : List Int} {top : Nat}, dok top ss → ss.foldl dstp top = 1 := by
  intro ss
  induction ss with
  | nil => intro top h; exact h
  | cons s r ih =>
    intro top h
    unfold dok at h
    show r.foldl dstp (dstp top s) = 1
    unfold dstp
    split at h
    · rename_i hs; rw [if_pos hs, if_neg (by omega)]; exact ih h.2
    · rename_i hs; rw [if_neg hs, if_pos h.1]; exact ih h.2
section
variable {h : PH} {a b mp : Nat} {d : Int → Int} {M : MM} {ss : List Int} {K : Nat → Int}
/-- the heap of the reference's run: its stack at b, data at a -/
def mh (h : PH) (a b : Nat) (d : Int → Int) (K : Nat → Int) : PH := sd (h.set b (lcell K)) a d
theorem mh_l {i : Nat} (hb : b < h.length) (hab : a ≠ b) (hi : i < 1500) : ald 3 (mh h a b d K) b (i : Int) = some (K i) := by
  unfold mh ald
  rw [sd_out (Ne.symm hab)]
  simp [hb, lcell, hi]
theorem mh_s {i : Nat} {x : Int} (hb : b < h.length) (hab : a ≠ b) (hi : i < 1500) : ast 3 (mh h a b d K) b (i : Int) x = some (mh h a b d (upf K i x)) := by
  unfold mh ast
  rw [sd_out (Ne.symm hab)]
  simp only [List.getElem?_set, hb, if_true, lcell, List.length_map, List.length_range]
  rw [if_pos (by simp; omega), Int.toNat_natCast, ← map_upf]
  refine congrArg some ?_
  unfold sd
  rw [List.set_comm _ _ hab, List.set_set]
theorem mh_g {fs : List PV} (hm : h[mp]? = some (.inr (8, fs))) (hf : fs[16]? = some (rf b)) (h1 : mp ≠ a) (h2 : mp ≠ b) : gfr (mh h a b d K) 8 mp 16 = some b := by
  unfold mh gfr
  rw [sd_out h1, List.getElem?_set, if_neg (Ne.symm h2), hm]
  simp [hf, rf]
theorem m_len {fs : List PV} (ha : a < h.length) (hb : b < h.length) (hab : a ≠ b) (hm : h[mp]? = some (.inr (8, fs))) (hf : fs[16]? = some (rf b)) (h1 : mp ≠ a) (h2 : mp ≠ b) {x3 x4 x13 : Int} (cr : CodeR d ss) {t c : Nat} (hT : t < 32) (hC : c < 4) (e3 : d (16 + 8 * t) = x3) (e4 : d (16 + 8 * t + 1) = x4) (e13 : d (272 + 13 * c + 4) = x13) (hP : 1 ≤ x3 ∧ x3 ≤ 99 ∧ 0 ≤ x4 ∧ x4 ≤ 9) (h13 : 0 ≤ x13 ∧ x13 ≤ 8) :
    ∃ K', FX8_lengthOf (mh h a b d K) mp a t c = some (lnF (fval (x3) (x4) c (x13)) ss, mh h a b d K') := by
  have al : ∀ (K : Nat → Int) (i : Int), 0 ≤ i → i < 1824 → ald 0 (mh h a b d K) a i = some (d i) := fun K i q1 q2 => md_ald (by simpa using ha) q1 q2
  have gm : ∀ K, gfr (mh h a b d K) 8 mp 16 = some b := fun K => mh_g hm hf h1 h2
  have i0 : isO (mh h a b d K) 8 mp = some () := by
    unfold isO mh
    rw [sd_out h1, List.getElem?_set, if_neg (Ne.symm h2), hm]; rfl
  unfold FX8_lengthOf
  rw [i0, Option.bind_some, al _ 6 (by omega) (by omega), Option.bind_some]
  rcases cr with ⟨c6, rfl⟩ | ⟨c6, c7, cc, cd, cs⟩
  · rw [c6, if_pos (by decide)]
    unfold FX8_task
    rw [Option.bind_some, al _ _ (by omega) (by omega), Option.bind_some, e3]
    refine ⟨K, ?_⟩
    congr 2
    have : (evF (fval (x3) (x4) c (x13)) [-1] (0, fun _ => 0)).2 0 = x3 := by
      simp [evF, stp, fval, upf]
    unfold lnF lenF
    rw [this, if_neg (by omega), if_neg (by omega)]
  · rw [c6, if_neg (by decide)]
    have hv : ∀ s ∈ ss, -5 < s → inR (fval (x3) (x4) c (x13) s) := by
      intro s hs _
      have := cs.2 s hs
      unfold fval inR
      split
      · omega
      · split
        · omega
        · split
          · omega
          · split <;> omega
    have L := lp_inv (f := fun st : Int × Int × PH => LX8_lengthOf_20 mp a t c st.1 st.2.1 st.2.2) (fun k st => ∃ (rest : List Int) (top : Nat) (K1 : Nat → Int) (pos : Int), st = ((top : Int), pos, mh h a b d K1) ∧ k = rest.length ∧ 0 ≤ pos ∧ cds d pos rest ∧ dok top rest ∧ stOk (top, K1) ∧ (∀ s ∈ rest, s ∈ ss) ∧ evF (fval (x3) (x4) c (x13)) rest (top, K1) = evF (fval (x3) (x4) c (x13)) ss (0, K)) (fun g => g = mh h a b d (evF (fval (x3) (x4) c (x13)) ss (0, K)).2) (by
      rintro k st ⟨rest, top, K1, pos, rfl, rfl, hpos, hcd, hdk, hst, hsub, hev⟩
      have hle := cds_le hcd
      dsimp only
      cases rest with
      | nil =>
        refine Or.inl ⟨_, ?_, by rw [← hev]⟩
        unfold cds at hcd
        unfold LX8_lengthOf_20
        rw [al _ 7 (by omega) (by omega), Option.bind_some, hcd, if_neg (by omega)]
        rfl
      | cons s rest =>
        refine Or.inr ⟨rest.length, ?_⟩
        have hsm := cs.2 s (hsub s (by simp))
        have hvs := hv s (hsub s (by simp))
        have hst2 := stp_ok (s := s) hst hvs
        simp only [List.length_cons] at hle
        have hev2 : evF (fval (x3) (x4) c (x13)) rest (stp (fval (x3) (x4) c (x13)) (top, K1) s) = evF (fval (x3) (x4) c (x13)) ss (0, K) := hev
        unfold stp at hst2 hev2
        unfold cds at hcd
        unfold dok at hdk
        obtain ⟨q1, q2⟩ := hst
        dsimp only at q1 q2
        unfold LX8_lengthOf_20 JX8_lengthOf_128 JX8_lengthOf_168 FX8_task FX8_core
        simp only [Option.bind_some, gm]
        rw [al _ 7 (by omega) (by omega), Option.bind_some, w32_eq (x := pos) (by omega) (by omega), w32_eq (x := d 7) (by omega) (by omega), if_pos (by omega), al _ (324 + pos) (by omega) (by omega), Option.bind_some]
        by_cases b1 : s ≤ -5
        · rw [if_neg (by omega), if_neg (by omega)] at hcd
          rw [if_pos b1] at hdk hst2 hev2
          dsimp only at hst2 hev2
          rw [if_neg (by omega)] at hst2 hev2
          rw [hcd.1, w32_eq (x := -3 - s) (by omega) (by omega), if_pos (by have : w32 1 = 1 := rfl; omega)]
          rw [show (top : Int) + -1 - 1 = ((top - 2 : Nat) : Int) by omega, show (top : Int) + -1 = ((top - 1 : Nat) : Int) by omega]
          rw [mh_l hb hab (by omega), Option.bind_some, mh_l hb hab (by omega), Option.bind_some, m_op ⟨hsm.1, b1⟩ (q2 _ (by omega)) (q2 _ (by omega)), Option.bind_some, mh_s hb hab (by omega), Option.bind_some]
          exact ⟨_, rfl, rfl, rest, top - 1, _, pos + 1, rfl, rfl, by omega, hcd.2, hdk.2, hst2, fun x hx => hsub x (by simp [hx]), hev2⟩
        · rw [if_neg b1] at hdk hst2 hev2
          dsimp only at hst2 hev2
          rw [if_pos hdk.1] at hst2 hev2
          have hd1 : (d (324 + pos) = 0 ∧ d (324 + (pos + 1)) = s ∧ 0 ≤ s ∨ d (324 + pos) = 1 ∧ d (324 + (pos + 1)) = -(s + 1) ∧ s < 0) ∧ cds d (pos + 2) rest := by
            by_cases z : 0 ≤ s
            · rw [if_pos z] at hcd; exact ⟨Or.inl ⟨hcd.1, hcd.2.1, z⟩, hcd.2.2⟩
            · rw [if_neg z, if_pos (by omega)] at hcd; exact ⟨Or.inr ⟨hcd.1, hcd.2.1, by omega⟩, hcd.2.2⟩
          obtain ⟨hd2, hd3⟩ := hd1
          have hle2 := cds_le hd3
          have fin : ∀ x : Int, x = fval (x3) (x4) c (x13) s → ∃ s', ((ast 3 (mh h a b d K1) b (top : Int) x).bind fun h15 => some (Sum.inl ((top : Int) + 1, pos + 1 + 1, h15)) : Option ((Int × Int × PH) ⊕ PH)) = some (.inl s') ∧ ∃ (rest' : List Int) (top' : Nat) (K' : Nat → Int) (pos' : Int), s' = ((top' : Int), pos', mh h a b d K') ∧ rest.length = rest'.length ∧ 0 ≤ pos' ∧ cds d pos' rest' ∧ dok top' rest' ∧ stOk (top', K') ∧ (∀ s ∈ rest', s ∈ ss) ∧ evF (fval (x3) (x4) c (x13)) rest' (top', K') = evF (fval (x3) (x4) c (x13)) ss (0, K) := by
            intro x hx
            rw [mh_s hb hab (by omega), Option.bind_some, hx]
            exact ⟨_, rfl, rest, top + 1, _, pos + 2, by rw [Int.add_assoc]; rfl, rfl, by omega, hd3, hdk.2, hst2, fun x hx => hsub x (by simp [hx]), hev2⟩
          rw [if_neg (by have : w32 1 = 1 := rfl; rcases hd2 with z | z <;> (rw [z.1]; decide)), al _ (324 + (pos + 1)) (by omega) (by omega), Option.bind_some]
          rcases hd2 with ⟨z1, z2, z3⟩ | ⟨z1, z2, z3⟩
          · rw [z1, if_pos (by decide), z2, w32_eq (x := s) (by omega) (by omega)]
            obtain ⟨s', f1, f2⟩ := fin s (by unfold fval; rw [if_pos z3])
            exact ⟨s', rfl, f1, f2⟩
          · rw [z1, if_neg (by decide), z2, w32_eq (x := -(s + 1)) (by omega) (by omega)]
            by_cases y1 : s = -1
            · rw [if_pos (by omega), al _ _ (by omega) (by omega), Option.bind_some, e3, w32_eq (x := x3) (by omega) (by omega)]
              obtain ⟨s', f1, f2⟩ := fin (x3) (by unfold fval; rw [if_neg (by omega), if_pos y1])
              exact ⟨s', rfl, f1, f2⟩
            · rw [if_neg (by omega)]
              by_cases y2 : s = -2
              · rw [if_pos (by have : w32 1 = 1 := rfl; omega), al _ _ (by omega) (by omega), Option.bind_some, e4, w32_eq (x := x4) (by omega) (by omega)]
                obtain ⟨s', f1, f2⟩ := fin (x4) (by unfold fval; rw [if_neg (by omega), if_neg y1, if_pos y2])
                exact ⟨s', rfl, f1, f2⟩
              · rw [if_neg (by have : w32 1 = 1 := rfl; omega)]
                by_cases y3 : s = -3
                · rw [if_pos (by have : w32 2 = 2 := rfl; omega), w32_nat (by omega)]
                  obtain ⟨s', f1, f2⟩ := fin (c : Int) (by unfold fval; rw [if_neg (by omega), if_neg y1, if_neg y2, if_pos y3])
                  exact ⟨s', rfl, f1, f2⟩
                · rw [if_neg (by have : w32 2 = 2 := rfl; omega), al _ _ (by omega) (by omega), Option.bind_some, e13, w32_eq (x := x13) (by omega) (by omega)]
                  obtain ⟨s', f1, f2⟩ := fin (x13) (by unfold fval; rw [if_neg (by omega), if_neg y1, if_neg y2, if_neg y3])
                  exact ⟨s', rfl, f1, f2⟩) ss.length (0, 0, mh h a b d K) ⟨ss, 0, K, 0, rfl, rfl, by omega, cc, cd, ⟨by simp, fun i hi => by simp at hi⟩, fun s hs => hs, rfl⟩
    obtain ⟨g, l1, rfl⟩ := L
    rw [lp_mono _ FU _ _ (by unfold FU; have := cs.1; omega) l1, Option.bind_some, gm, Option.bind_some]
    have htop : (evF (fval (x3) (x4) c (x13)) ss (0, K)).1 = 1 := by rw [evF_top]; exact dok_top cd
    have hok := evF_ok (v := fval (x3) (x4) c (x13)) (ss := ss) (q := (0, K)) ⟨by simp, fun i hi => by simp at hi⟩ hv
    have hr0 := hok.2 0 (by omega)
    unfold inR at hr0
    have l0 := mh_l (h := h) (a := a) (b := b) (d := d) (K := (evF (fval (x3) (x4) c (x13)) ss (0, K)).2) (i := 0) hb hab (by decide)
    rw [show ((0 : Nat) : Int) = 0 from rfl] at l0
    have hl := lenF_any (v := fval (x3) (x4) c (x13)) (ss := ss) (K := K) (by unfold dF; rw [dok_top cd]; exact Nat.le_refl _)
    rw [← hl]
    refine ⟨(evF (fval (x3) (x4) c (x13)) ss (0, K)).2, ?_⟩
    unfold JX8_lengthOf_215 lenF
    simp only [l0, Option.bind_some]
    clear l0 hl hok htop l1 hv
    generalize (evF (fval (x3) (x4) (c : Int) (x13)) ss (0, K)).2 0 = w at hr0 ⊢
    rw [cmpL_lt (x := w) (by omega) (by omega), cmpL_lt (x := w) (by omega) (by omega)]
    by_cases w1 : w < 1
    · rw [if_pos w1, if_pos w1, if_pos (show (-1 : Int) < 0 by decide)]
    · rw [if_neg w1, if_neg w1]
      have z : ¬ ((if w = 1 then (0 : Int) else 1) < 0) := by split <;> omega
      rw [if_neg z]
      by_cases w2 : 999 < w
      · rw [if_pos w2, if_neg (show ¬ w < 999 by omega), if_neg (show ¬ w = 999 by omega), if_pos (show (0 : Int) < 1 by decide)]
      · rw [if_neg w2]
        have z2 : ¬ (0 < (if w < 999 then (-1 : Int) else if w = 999 then 0 else 1)) := by split <;> (try split) <;> omega
        rw [if_neg z2]
end
