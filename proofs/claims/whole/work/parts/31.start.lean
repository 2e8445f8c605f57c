/-! ===== the start: the tables' facts out of the premises ===== -/
/-- each literal's first place -/
def canT : List (String × Nat) := [("HardwareTaskQueue$SetupReader", 74), ("HardwareTaskQueue$SetupReader", 118), ("HardwareTaskQueue$SetupReader", 135), ("HardwareTaskQueue$SetupReader", 137), ("HardwareTaskQueue$SetupReader", 125), ("HardwareTaskQueue$SetupReader", 130), ("HardwareTaskQueue$SetupReader", 163), ("HardwareTaskQueue$SetupReader", 165), ("HardwareTaskQueue$SetupReader", 167), ("HardwareTaskQueue", 122), ("HardwareTaskQueue", 135), ("HardwareTaskQueue", 169), ("HardwareTaskQueue", 177), ("HardwareTaskQueue", 182), ("HardwareTaskQueue", 188), ("HardwareTaskQueue", 193), ("HardwareTaskQueue", 199), ("HardwareTaskQueue", 207), ("HardwareTaskQueue", 209), ("HardwareTaskQueue", 211), ("HardwareTaskQueue", 222), ("HardwareTaskQueue", 224), ("HardwareTaskQueue", 226), ("HardwareTaskQueue", 228), ("HardwareTaskQueue", 230), ("HardwareTaskQueue", 52)]
def tmS (i : Nat) : Term := .string (canT.getD i ("", 0)).1 (canT.getD i ("", 0)).2
def vlS (i : Nat) : Term := .field (tmS i) "java/lang/String" "value" "[B"
abbrev prS : List Cond := flatC (Jvm.Cond.and given_1 narrow_1)
theorem ps_ex : ∀ i : Nat, i < 9 → Cond.exactly (tmS i) "java/lang/String" ∈ prS := by decide +kernel
theorem ps_co : ∀ i : Nat, i < 9 → Cond.eq (.field (tmS i) "java/lang/String" "coder" "B") (.int 0) ∈ prS := by decide +kernel
theorem ps_ar : ∀ i : Nat, i < 9 → Cond.arrayOf (vlS i) .byte ∈ prS := by decide +kernel
theorem ps_le : ∀ i : Nat, i < 9 → Cond.eq (.length (vlS i)) (.int (Int32.ofNat (strB.getD i []).length)) ∈ prS := by decide +kernel
theorem ps_el : ∀ i : Nat, i < 9 → ∀ j : Nat, j < (strB.getD i []).length → Cond.eq (.elem (vlS i) (.int (Int32.ofNat j))) (.int (Int32.ofInt ((strB.getD i []).getD j 0))) ∈ prS := by decide +kernel
theorem ps_rf : ∀ q ∈ strT, Cond.stringRef q.1 q.2.1 q.2.2.1 ∈ tables_1 := by decide +kernel
theorem ps_eq : ∀ q ∈ strT, (q.1, q.2.1) = canT.getD q.2.2.2 ("", 0) ∨ (Cond.eq (tmS q.2.2.2) (.string q.1 q.2.1) ∈ prS ∧ q.2.2.2 < 9) := by decide +kernel
theorem ps_nw : ∀ w ∈ nstW.map (fun q => Cond.methodLinkNest q.1 q.2.1 q.2.2 "HardwareTaskQueue"), w ∈ tables_1 := by decide +kernel
def psT : List Cond := [Cond.castable xI xI, Cond.castable xS xS, Cond.castable xB xB, Cond.declares (Bundle.initS "java/lang/RuntimeException"), Cond.declares (Bundle.initS "java/lang/Exception"), Cond.declares (Bundle.initS "java/lang/Throwable"), Cond.arrayOver (.object "HardwareTaskQueue$Machine"), Cond.arrayOver (.array .int), Cond.arrayClass .int, Cond.arrayClass .byte, Cond.arrayClass .boolean, Cond.arrayClass .long, Cond.laysStatic "java/lang/String" "COMPACT_STRINGS" "Z", Cond.laysStatic "jdk/internal/util/Preconditions" "SIOOBE_FORMATTER" "Ljava/util/function/BiFunction;", Cond.laysStatic Bundle.tN "UNASSIGNED_STACK" Bundle.steD, Cond.laysStatic Bundle.tN "SUPPRESSED_SENTINEL" Bundle.listD, Cond.initialized "java/lang/String", Cond.initialized "jdk/internal/util/Preconditions", Cond.initialized Bundle.tN, Cond.instantiable RX0 10, Cond.instantiable RX1 2, Cond.instantiable RX2 3, Cond.instantiable RX3 4, Cond.instantiable RX4 6, Cond.instantiable RX5 7, Cond.instantiable RX6 11, Cond.instantiable RX7 5, Cond.instantiable RX8 18]
theorem ps_st : ∀ w ∈ psT, w ∈ tables_1 := by decide +kernel
def psP : List Cond := [Cond.not (.castable xS xI), Cond.not (.castable xI xB), Cond.not (.castable xS xB), Cond.eq (.static "java/lang/String" "COMPACT_STRINGS" "Z") (.int 1), Cond.isRef (.static "jdk/internal/util/Preconditions" "SIOOBE_FORMATTER" "Ljava/util/function/BiFunction;"), Cond.isRef (.static Bundle.tN "UNASSIGNED_STACK" Bundle.steD), Cond.isRef (.static Bundle.tN "SUPPRESSED_SENTINEL" Bundle.listD)]
theorem ps_pr : ∀ w ∈ psP, w ∈ prS := by decide +kernel
theorem str_ref {own tx : String} {k : Nat} {A : Array Value} {U : State} (h : (Cond.stringRef own k tx).before A U = true) : ∃ a : Nat, (Term.string own k).eval A U none [] U = some (.ref a) := by
  cases hc : U.vm.findClass own with
  | none =>
    simp only [Cond.before, Cond.holds, Cond.value] at h
    simp [hc] at h
  | some cur =>
    obtain ⟨k, cf, i, a, -, -, -, -, -, hev⟩ := Cond.stringRef_spec hc h
    exact ⟨a, hev⟩
theorem st_str {A : Array Value} {s : State} {G : Nat → Prop} (hp : ∀ w ∈ prS, w.before A s = true) (hA : ∀ a : Nat, a < s.heap.size → ¬ G a) : ∃ adK adV : Nat → Nat, ∀ i : Nat, i < 9 → (tmS i).eval A s none [] s = some (.ref (adK i)) ∧ va_O "java/lang/String" (adK i) G s s.heap ∧ va_OF "java/lang/String" "coder" "B" (.int 0) (adK i) G s s.heap ∧ va_OF "java/lang/String" "value" "[B" (.ref (adV i)) (adK i) G s s.heap ∧ va_T .byte (adV i) (strB.getD i []).length (fun j => .int (Int32.ofInt ((strB.getD i []).getD j 0))) G s s.heap := by
  have h0 : ∀ i : Nat, ∃ q : Nat × Nat, i < 9 → (tmS i).eval A s none [] s = some (.ref q.1) ∧ va_O "java/lang/String" q.1 G s s.heap ∧ va_OF "java/lang/String" "coder" "B" (.int 0) q.1 G s s.heap ∧ va_OF "java/lang/String" "value" "[B" (.ref q.2) q.1 G s s.heap ∧ va_T .byte q.2 (strB.getD i []).length (fun j => .int (Int32.ofInt ((strB.getD i []).getD j 0))) G s s.heap := by
    intro i
    by_cases hi : i < 9
    · obtain ⟨a, c, cA, kA, q1, q2, q3, q4, q5, q6, -⟩ := Cond.exactly_spec (args := A) (first := s) (o := none) (s := s) (idx := []) (t := tmS i) (cls := "java/lang/String") (hp _ (ps_ex i hi))
      have hlt : ∀ i : Nat, i < 9 → (strB.getD i []).length < 2 ^ 31 := by decide
      obtain ⟨t, ht, hT⟩ := va_Tof (f := fun j => .int (Int32.ofInt ((strB.getD i []).getD j 0))) (A := G) (hlt i hi) (hp _ (ps_ar i hi)) (va_eqt (hp _ (ps_le i hi))) (fun j hj => va_eqt (hp _ (ps_el i hi j hj))) hA
      exact ⟨(a, t), fun _ => ⟨q1, ⟨cA, q3, q5, by rw [q6]; exact q2, hA a (Array.getElem?_eq_some_iff.mp q3).1⟩, vk_OFof q1 (va_eqt (hp _ (ps_co i hi))) hA, vk_OFof q1 ht hA, hT⟩⟩
    · exact ⟨(0, 0), fun h => absurd h hi⟩
  obtain ⟨ad, had⟩ := Classical.axiomOfChoice h0
  exact ⟨fun i => (ad i).1, fun i => (ad i).2, had⟩
theorem st_kf {A : Array Value} {s : State} (hts : ∀ w ∈ lw_tbl, w.before A s = true) (hp : ∀ w ∈ prS, w.before A s = true) : ∃ g : GP, Kf g s ∧ g.2.2.1 = s.heap.size := by
  have ht : ∀ w ∈ tables_1, w.before A s = true := fun w h => hts w (List.mem_append_right _ h)
  have hg : ∀ w ∈ TBg, w.before A s = true := fun w h => hts w (List.mem_filter.mp h).1
  have hA : ∀ a : Nat, a < s.heap.size → ¬ (fun q : Nat => s.heap.size ≤ q) a := fun a h => Nat.not_le.mpr h
  have hs : ∀ w ∈ psT, w.before A s = true := fun w h => ht w (ps_st w h)
  have hq : ∀ w ∈ psP, w.before A s = true := fun w h => hp w (ps_pr w h)
  obtain ⟨c0, i0, k0⟩ := u_known hg inX0 (hs (.instantiable RX0 10) (by simp [psT]))
  obtain ⟨c1, i1, k1⟩ := u_known hg inX1 (hs (.instantiable RX1 2) (by simp [psT]))
  obtain ⟨c2, i2, k2⟩ := u_known hg inX2 (hs (.instantiable RX2 3) (by simp [psT]))
  obtain ⟨c3, i3, k3⟩ := u_known hg inX3 (hs (.instantiable RX3 4) (by simp [psT]))
  obtain ⟨c4, i4, k4⟩ := u_known hg inX4 (hs (.instantiable RX4 6) (by simp [psT]))
  obtain ⟨c5, i5, k5⟩ := u_known hg inX5 (hs (.instantiable RX5 7) (by simp [psT]))
  obtain ⟨c6, i6, k6⟩ := u_known hg inX6 (hs (.instantiable RX6 11) (by simp [psT]))
  obtain ⟨c7, i7, k7⟩ := u_known hg inX7 (hs (.instantiable RX7 5) (by simp [psT]))
  obtain ⟨c8, i8, k8⟩ := u_known hg inX8 (hs (.instantiable RX8 18) (by simp [psT]))
  obtain ⟨a0, e0, p0, f0, g0, j0⟩ := Cond.arrayClass_spec (hs (.arrayClass .int) (by simp [psT]))
  obtain ⟨a1, e1, p1, f1, g1, j1⟩ := Cond.arrayClass_spec (hs (.arrayClass .byte) (by simp [psT]))
  obtain ⟨a2, e2, p2, f2, g2, j2⟩ := Cond.arrayClass_spec (hs (.arrayClass .boolean) (by simp [psT]))
  obtain ⟨a3, e3, p3, f3, g3, j3⟩ := Cond.arrayClass_spec (hs (.arrayClass .long) (by simp [psT]))
  have ho := hs (.arrayOver (.object "HardwareTaskQueue$Machine")) (by simp [psT])
  have ho2 := hs (.arrayOver (.array .int)) (by simp [psT])
  obtain ⟨p4, a4, e4, m4, -, g4, j4, f4⟩ := Cond.arrayOver_spec ho
  obtain ⟨p5, a5, e5, m5, g5, j5, f5⟩ := Cond.arrayOver_specA ho2
  obtain ⟨adK, adV, hS⟩ := st_str (G := fun q : Nat => s.heap.size ≤ q) hp hA
  have hrr : ∀ i : Nat, ∃ a : Nat, i < 26 → (tmS i).eval A s none [] s = some (.ref a) := by
    intro i
    by_cases hi : i < 26
    · have hm : ∀ i : Nat, i < 26 → ∃ q ∈ strT, canT.getD i ("", 0) = (q.1, q.2.1) := by decide +kernel
      obtain ⟨q, h1, h2⟩ := hm i hi
      obtain ⟨a, ha⟩ := str_ref (ht _ (ps_rf q h1))
      exact ⟨a, fun _ => by unfold tmS; rw [h2]; exact ha⟩
    · exact ⟨0, fun h => absurd h hi⟩
  obtain ⟨adL, hL⟩ := Classical.axiomOfChoice hrr
  have hKL : ∀ i : Nat, i < 9 → adK i = adL i := fun i hi => by
    have h1 := (hS i hi).1
    rw [hL i (by omega)] at h1
    exact (Value.ref.inj (Option.some.inj h1)).symm
  refine ⟨((fun k => match k with | 0 => c0 | 1 => c1 | 2 => c2 | 3 => c3 | 4 => c4 | 5 => c5 | 6 => c6 | 7 => c7 | _ => c8, fun k => match k with | 0 => i0 | 1 => i1 | 2 => i2 | 3 => i3 | 4 => i4 | 5 => i5 | 6 => i6 | 7 => i7 | _ => i8), (fun k => match k with | 0 => a0 | 1 => a1 | 2 => a2 | 3 => a3 | 4 => a4 | _ => a5), s.heap.size, adL, adV), ⟨⟨fun c q h => ?_, fun k q h => ?_⟩, ⟨fun q hq1 => ?_, va_AO.of ho, va_AOA.of ho2⟩, ⟨?_, fun q hq1 => ?_, ?_⟩, Nat.le_refl _⟩, rfl⟩
  · match c, h with
    | 0, h => cases h; exact k0
    | 1, h => cases h; exact k1
    | 2, h => cases h; exact k2
    | 3, h => cases h; exact k3
    | 4, h => cases h; exact k4
    | 5, h => cases h; exact k5
    | 6, h => cases h; exact k6
    | 7, h => cases h; exact k7
    | 8, h => cases h; exact k8
    | c + 9, h => simp at h
  · match k, h with
    | 0, h => cases h; exact ⟨fun n z => ⟨fun k h => (nomatch h), e0, g0, p0, j0⟩, f0⟩
    | 1, h => cases h; exact ⟨fun n z => ⟨fun k h => (nomatch h), e1, g1, p1, j1⟩, f1⟩
    | 2, h => cases h; exact ⟨fun n z => ⟨fun k h => (nomatch h), e2, g2, p2, j2⟩, f2⟩
    | 3, h => cases h; exact ⟨fun n z => ⟨fun k h => (nomatch h), e3, g3, p3, j3⟩, f3⟩
    | 4, h => cases h; exact ⟨fun n z => ⟨fun k h => (nomatch h), e4, g4, p4, j4⟩, ⟨e4, p4, g4, j4, m4, f4⟩⟩
    | 5, h => cases h; exact ⟨fun n z => ⟨fun k h => (nomatch h), e5, g5, p5, j5⟩, f5⟩
    | k + 6, h => simp [tysOf] at h
  · exact va_Nw.of rfl (ht _ (ps_nw _ (List.mem_map_of_mem hq1)))
  · refine ⟨⟨va_Nw.of rfl (hs _ (by simp [psT])), va_Nw.of rfl (hs _ (by simp [psT])), va_Nw.of rfl (hs _ (by simp [psT]))⟩, ⟨va_Nw.of rfl (hs _ (by simp [psT])), va_Nw.of rfl (hs _ (by simp [psT])), va_Nw.of rfl (hs _ (by simp [psT]))⟩, ⟨va_Nc.of (hq _ (by simp [psP])), va_Nc.of (hq _ (by simp [psP])), va_Nc.of (hq _ (by simp [psP]))⟩⟩
  · have hn : ∀ q ∈ strT, q.2.2.2 < 26 := by decide +kernel
    refine vk_R.of (ht _ (ps_rf q hq1)) ?_
    have h1 := hL _ (hn q hq1)
    rcases ps_eq q hq1 with h2 | ⟨h2, h3⟩
    · unfold tmS at h1
      rw [← h2] at h1
      exact h1
    · obtain ⟨y, h4, h5⟩ := Cond.eq_one (hp _ h2)
      rw [h1] at h4
      cases h4
      exact h5
  · refine ⟨fun i hi => ?_, ⟨va_Zof (hs _ (by simp [psT])) (hs _ (by simp [psT])) (va_eqt (hq _ (by simp [psP]))) hA, va_Zqof (hs _ (by simp [psT])) (hs _ (by simp [psT])) (hq _ (by simp [psP])) hA⟩, vx_Zqof (hs _ (by simp [psT])) (hs _ (by simp [psT])) (hq _ (by simp [psP])) hA, vx_Zqof (hs _ (by simp [psT])) (hs _ (by simp [psT])) (hq _ (by simp [psP])) hA⟩
    have h1 := (hS i hi).2
    rw [hKL i hi] at h1
    exact h1
