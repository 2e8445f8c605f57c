section
variable {p : Program} {l : Launch} {e : Env} {s : State} {m : MethodId} {args : Array Value} {below : List Frame} {meth : Method} {c : Code} {H : Heap} {locs : List Loc} {ls : Array Slot} {g : GP} {ad : Nat → Nat}
abbrev rmX7_requireTask : Room := { frames := 8, cells := 1, slots := 6, locals := 150 }
def JX7_requireTask_18 (h : PH) : Option (Nat) :=
  some 1
set_option maxHeartbeats 4000000 in
set_option maxRecDepth 100000 in
theorem BX7_requireTask_18 (hst : l.stackTraces = false) (hout : ∀ x ∈ c.exceptionTable.toList, False) {h : PH} (hC : Cx g p s m args meth c cX7_requireTask 2 RX7 none) (hR : Rl g ad h s.heap H locs) (hl : lv_has ls 2 []) {q : Nat} (hF : JX7_requireTask_18 h  = some q) : W p l e rmX7_requireTask s m args below meth c H locs 0 0 (vx_MQ below (QcT g ad q h none) (XcT g ad q h) args s 1 6 (gA g)) (F0 m 18 ls []) := by
  unfold JX7_requireTask_18 at hF
  cases hF
  exact pw_thB (i := 20) (tx := "no such task") hC hR hst hout (by decide +kernel) hl.1 dX7_requireTask_18 dX7_requireTask_21 dX7_requireTask_22 dX7_requireTask_24 dX7_requireTask_27 (Nat.le_of_ble_eq_true rfl) (Nat.le_of_ble_eq_true rfl) (Nat.le_of_ble_eq_true rfl) (Nat.le_of_ble_eq_true rfl) (Nat.le_of_ble_eq_true rfl) (Nat.le_of_ble_eq_true rfl)
def FX7_requireTask (h : PH) (v0 : Nat) (v1 : Int) : Option (Nat) :=
  (isO h 7 v0).bind fun _ =>
  if w32 v1 < 0 then (
    JX7_requireTask_18 h
  ) else (
    (gfr h 7 v0 1).bind fun x1 =>
    (gfr h 3 x1 0).bind fun x2 =>
    (gfi h 6 x2 0).bind fun x3 =>
    if w32 v1 < w32 x3 then (
      some 0
    ) else (
      JX7_requireTask_18 h
    )
  )
theorem OX7_requireTask {h : PH} {v0 : Nat} {v1 : Int} {q : Nat} (hF : FX7_requireTask h v0 v1 = some q) : ∃ fs : List PV, h[v0]? = some (.inr (7, fs)) := by
  unfold FX7_requireTask at hF
  obtain ⟨u0, e0, -⟩ := bnd hF
  exact isO_spec e0
set_option maxHeartbeats 4000000 in
set_option maxRecDepth 100000 in
theorem CX7_requireTask {g : GP} {l : Launch} (hst : l.stackTraces = false) {ad : Nat → Nat} {h : PH} {v0 : Nat} {v1 : Int} {q : Nat} (hF : FX7_requireTask h v0 v1 = some q) : CT g l yX7_requireTask cX7_requireTask 2 none rmX7_requireTask ad h [.ref (ad v0), .int (Int32.ofInt v1)] q none h := by
  refine pw_metT (by decide) (Nat.le_of_ble_eq_true rfl) ?_
  intro p e s m args below meth c ls hC hout hR hl
  have hl : lv_has ls 2 [(0, .ref (ad v0)), (1, .int (Int32.ofInt v1))] := hl
  unfold FX7_requireTask at hF
  obtain ⟨u0, e0, hF⟩ := bnd hF
  refine lv_iload_n hC.1 hC.2.1 dX7_requireTask_0 rfl (lv_at hl 1 rfl) ?_
  refine pw_iflt hC 18 dX7_requireTask_1 (by decide) (fun hc => ?_) (fun hc => ?_)
  · rw [if_pos hc] at hF
    exact BX7_requireTask_18 hst hout hC hR (lv_sub hl [] rfl) hF
  · rw [if_neg hc] at hF
    refine lv_iload_n hC.1 hC.2.1 dX7_requireTask_4 rfl (lv_at hl 1 rfl) ?_
    refine lv_aload_n hC.1 hC.2.1 dX7_requireTask_5 rfl (lv_at hl 0 rfl) ?_
    obtain ⟨x1, e1, hF⟩ := bnd hF
    refine pw_gfr hC hR e1 flX7_19 dX7_requireTask_6 ?_
    obtain ⟨x2, e2, hF⟩ := bnd hF
    refine pw_gfr hC hR e2 flX7_74 dX7_requireTask_9 ?_
    obtain ⟨x3, e3, hF⟩ := bnd hF
    refine pw_gfi hC hR e3 flX7_78 dX7_requireTask_12 ?_
    refine pw_icmplt hC 28 dX7_requireTask_15 (by decide) (fun hc => ?_) (fun hc => ?_)
    · rw [if_pos hc] at hF
      cases hF
      exact pw_vretT hC hR (Nat.le_of_ble_eq_true rfl) (Nat.le_of_ble_eq_true rfl) dX7_requireTask_28
    · rw [if_neg hc] at hF
      exact BX7_requireTask_18 hst hout hC hR (lv_sub hl [] rfl) hF
abbrev rmX7_state : Room := { frames := 9, cells := 2, slots := 12, locals := 171 }
def FX7_state (h : PH) (v0 : Nat) (v1 : Int) : Option (Nat × Int) :=
  (isO h 7 v0).bind fun _ =>
  (FX7_requireTask h v0 v1).bind fun x1 =>
  if x1 = 0 then (
    (gfr h 7 v0 1).bind fun x2 =>
    (gfr h 3 x2 0).bind fun x3 =>
    (gfr h 6 x3 2).bind fun x4 =>
    (ald 0 h x4 v1).bind fun x5 =>
    some (0, x5)
  ) else (some (x1, 0))
theorem OX7_state {h : PH} {v0 : Nat} {v1 : Int} {q : Nat × Int} (hF : FX7_state h v0 v1 = some q) : ∃ fs : List PV, h[v0]? = some (.inr (7, fs)) := by
  unfold FX7_state at hF
  obtain ⟨u0, e0, -⟩ := bnd hF
  exact isO_spec e0
set_option maxHeartbeats 4000000 in
set_option maxRecDepth 100000 in
theorem CX7_state {g : GP} {l : Launch} (hst : l.stackTraces = false) {ad : Nat → Nat} {h : PH} {v0 : Nat} {v1 : Int} {q : Nat × Int} (hF : FX7_state h v0 v1 = some q) : CT g l yX7_state cX7_state 2 (some .int) rmX7_state ad h [.ref (ad v0), .int (Int32.ofInt v1)] q.1 (some (.int (Int32.ofInt q.2))) h := by
  refine pw_metT (by decide) (Nat.le_of_ble_eq_true rfl) ?_
  intro p e s m args below meth c ls hC hout hR hl
  have hl : lv_has ls 2 [(0, .ref (ad v0)), (1, .int (Int32.ofInt v1))] := hl
  unfold FX7_state at hF
  obtain ⟨u0, e0, hF⟩ := bnd hF
  refine lv_aload_n hC.1 hC.2.1 dX7_state_0 rfl (lv_at hl 0 rfl) ?_
  refine lv_iload_n hC.1 hC.2.1 dX7_state_1 rfl (lv_at hl 1 rfl) ?_
  obtain ⟨x1, e1, hF⟩ := bnd hF
  obtain ⟨fs1, ho1⟩ := OX7_requireTask e1
  refine pw_cVT (rest := []) hC hR lvX7_96 ho1 (CX7_requireTask hst e1) ⟨rfl, rfl⟩ rfl hl.1 rfl ⟨Nat.le_of_ble_eq_true rfl, Nat.le_of_ble_eq_true rfl⟩ (Nat.le_of_ble_eq_true rfl) dX7_state_2 ⟨Nat.le_of_ble_eq_true rfl, Nat.le_of_ble_eq_true rfl⟩ (fun hk H locs hR => ?_) (fun hk H locs q ce hR h1 h2 h3 => ?_)
  · rw [if_pos hk] at hF
    refine lv_aload_n hC.1 hC.2.1 dX7_state_5 rfl (lv_at hl 0 rfl) ?_
    obtain ⟨x2, e2, hF⟩ := bnd hF
    refine pw_gfr hC hR e2 flX7_19 dX7_state_6 ?_
    obtain ⟨x3, e3, hF⟩ := bnd hF
    refine pw_gfr hC hR e3 flX7_74 dX7_state_9 ?_
    obtain ⟨x4, e4, hF⟩ := bnd hF
    refine pw_gfr hC hR e4 flX7_99 dX7_state_12 ?_
    refine lv_iload_n hC.1 hC.2.1 dX7_state_15 rfl (lv_at hl 1 rfl) ?_
    obtain ⟨x5, e5, hF⟩ := bnd hF
    refine pw_iald hC hR e5 dX7_state_16 ?_
    cases hF
    exact pw_iretT hC hR (Nat.le_of_ble_eq_true rfl) (Nat.le_of_ble_eq_true rfl) dX7_state_17
  · rw [if_neg hk] at hF
    cases hF
    exact pw_thru hC hR hk hout h1 h2 h3 (Nat.le_of_ble_eq_true rfl) (Nat.le_of_ble_eq_true rfl)
abbrev rmX7_counter : Room := { frames := 9, cells := 2, slots := 12, locals := 171 }
def FX7_counter (h : PH) (v0 : Nat) (v1 : Int) : Option (Nat × Int) :=
  (isO h 7 v0).bind fun _ =>
  (FX7_requireTask h v0 v1).bind fun x1 =>
  if x1 = 0 then (
    (gfr h 7 v0 1).bind fun x2 =>
    (gfr h 3 x2 0).bind fun x3 =>
    (gfr h 7 v0 1).bind fun x4 =>
    (gfr h 3 x4 0).bind fun x5 =>
    (FX6_unfinishedBits h x5).bind fun x6 =>
    (FX6_counterOf h x3 v1 x6).bind fun x7 =>
    some (0, x7)
  ) else (some (x1, 0))
theorem OX7_counter {h : PH} {v0 : Nat} {v1 : Int} {q : Nat × Int} (hF : FX7_counter h v0 v1 = some q) : ∃ fs : List PV, h[v0]? = some (.inr (7, fs)) := by
  unfold FX7_counter at hF
  obtain ⟨u0, e0, -⟩ := bnd hF
  exact isO_spec e0
set_option maxHeartbeats 4000000 in
set_option maxRecDepth 100000 in
theorem CX7_counter {g : GP} {l : Launch} (hst : l.stackTraces = false) {ad : Nat → Nat} {h : PH} {v0 : Nat} {v1 : Int} {q : Nat × Int} (hF : FX7_counter h v0 v1 = some q) : CT g l yX7_counter cX7_counter 2 (some .int) rmX7_counter ad h [.ref (ad v0), .int (Int32.ofInt v1)] q.1 (some (.int (Int32.ofInt q.2))) h := by
  refine pw_metT (by decide) (Nat.le_of_ble_eq_true rfl) ?_
  intro p e s m args below meth c ls hC hout hR hl
  have hl : lv_has ls 2 [(0, .ref (ad v0)), (1, .int (Int32.ofInt v1))] := hl
  unfold FX7_counter at hF
  obtain ⟨u0, e0, hF⟩ := bnd hF
  refine lv_aload_n hC.1 hC.2.1 dX7_counter_0 rfl (lv_at hl 0 rfl) ?_
  refine lv_iload_n hC.1 hC.2.1 dX7_counter_1 rfl (lv_at hl 1 rfl) ?_
  obtain ⟨x1, e1, hF⟩ := bnd hF
  obtain ⟨fs1, ho1⟩ := OX7_requireTask e1
  refine pw_cVT (rest := []) hC hR lvX7_96 ho1 (CX7_requireTask hst e1) ⟨rfl, rfl⟩ rfl hl.1 rfl ⟨Nat.le_of_ble_eq_true rfl, Nat.le_of_ble_eq_true rfl⟩ (Nat.le_of_ble_eq_true rfl) dX7_counter_2 ⟨Nat.le_of_ble_eq_true rfl, Nat.le_of_ble_eq_true rfl⟩ (fun hk H locs hR => ?_) (fun hk H locs q ce hR h1 h2 h3 => ?_)
  · rw [if_pos hk] at hF
    refine lv_aload_n hC.1 hC.2.1 dX7_counter_5 rfl (lv_at hl 0 rfl) ?_
    obtain ⟨x2, e2, hF⟩ := bnd hF
    refine pw_gfr hC hR e2 flX7_19 dX7_counter_6 ?_
    obtain ⟨x3, e3, hF⟩ := bnd hF
    refine pw_gfr hC hR e3 flX7_74 dX7_counter_9 ?_
    refine lv_iload_n hC.1 hC.2.1 dX7_counter_12 rfl (lv_at hl 1 rfl) ?_
    refine lv_aload_n hC.1 hC.2.1 dX7_counter_13 rfl (lv_at hl 0 rfl) ?_
    obtain ⟨x4, e4, hF⟩ := bnd hF
    refine pw_gfr hC hR e4 flX7_19 dX7_counter_14 ?_
    obtain ⟨x5, e5, hF⟩ := bnd hF
    refine pw_gfr hC hR e5 flX7_74 dX7_counter_17 ?_
    obtain ⟨x6, e6, hF⟩ := bnd hF
    obtain ⟨fs6, ho6⟩ := OX6_unfinishedBits e6
    refine pw_cVi (rest := [.int (Int32.ofInt v1), .ref (ad x3)]) hC hR lvX7_103 ho6 (CX6_unfinishedBits e6) ⟨rfl, rfl⟩ rfl hl.1 rfl ⟨Nat.le_of_ble_eq_true rfl, Nat.le_of_ble_eq_true rfl⟩ (Nat.le_of_ble_eq_true rfl) dX7_counter_20 ⟨Nat.le_of_ble_eq_true rfl, Nat.le_of_ble_eq_true rfl⟩ (fun H locs hR => ?_)
    obtain ⟨x7, e7, hF⟩ := bnd hF
    obtain ⟨fs7, ho7⟩ := OX6_counterOf e7
    refine pw_cVi (rest := []) hC hR lvX7_107 ho7 (CX6_counterOf e7) ⟨rfl, rfl⟩ rfl hl.1 rfl ⟨Nat.le_of_ble_eq_true rfl, Nat.le_of_ble_eq_true rfl⟩ (Nat.le_of_ble_eq_true rfl) dX7_counter_23 ⟨Nat.le_of_ble_eq_true rfl, Nat.le_of_ble_eq_true rfl⟩ (fun H locs hR => ?_)
    cases hF
    exact pw_iretT hC hR (Nat.le_of_ble_eq_true rfl) (Nat.le_of_ble_eq_true rfl) dX7_counter_26
  · rw [if_neg hk] at hF
    cases hF
    exact pw_thru hC hR hk hout h1 h2 h3 (Nat.le_of_ble_eq_true rfl) (Nat.le_of_ble_eq_true rfl)
abbrev rmX7_priority : Room := { frames := 9, cells := 2, slots := 12, locals := 171 }
def FX7_priority (h : PH) (v0 : Nat) (v1 : Int) : Option (Nat × Int) :=
  (isO h 7 v0).bind fun _ =>
  (FX7_requireTask h v0 v1).bind fun x1 =>
  if x1 = 0 then (
    (gfr h 7 v0 1).bind fun x2 =>
    (gfr h 3 x2 0).bind fun x3 =>
    (gfr h 6 x3 4).bind fun x4 =>
    (ald 0 h x4 v1).bind fun x5 =>
    some (0, x5)
  ) else (some (x1, 0))
theorem OX7_priority {h : PH} {v0 : Nat} {v1 : Int} {q : Nat × Int} (hF : FX7_priority h v0 v1 = some q) : ∃ fs : List PV, h[v0]? = some (.inr (7, fs)) := by
  unfold FX7_priority at hF
  obtain ⟨u0, e0, -⟩ := bnd hF
  exact isO_spec e0
set_option maxHeartbeats 4000000 in
set_option maxRecDepth 100000 in
theorem CX7_priority {g : GP} {l : Launch} (hst : l.stackTraces = false) {ad : Nat → Nat} {h : PH} {v0 : Nat} {v1 : Int} {q : Nat × Int} (hF : FX7_priority h v0 v1 = some q) : CT g l yX7_priority cX7_priority 2 (some .int) rmX7_priority ad h [.ref (ad v0), .int (Int32.ofInt v1)] q.1 (some (.int (Int32.ofInt q.2))) h := by
  refine pw_metT (by decide) (Nat.le_of_ble_eq_true rfl) ?_
  intro p e s m args below meth c ls hC hout hR hl
  have hl : lv_has ls 2 [(0, .ref (ad v0)), (1, .int (Int32.ofInt v1))] := hl
  unfold FX7_priority at hF
  obtain ⟨u0, e0, hF⟩ := bnd hF
  refine lv_aload_n hC.1 hC.2.1 dX7_priority_0 rfl (lv_at hl 0 rfl) ?_
  refine lv_iload_n hC.1 hC.2.1 dX7_priority_1 rfl (lv_at hl 1 rfl) ?_
  obtain ⟨x1, e1, hF⟩ := bnd hF
  obtain ⟨fs1, ho1⟩ := OX7_requireTask e1
  refine pw_cVT (rest := []) hC hR lvX7_96 ho1 (CX7_requireTask hst e1) ⟨rfl, rfl⟩ rfl hl.1 rfl ⟨Nat.le_of_ble_eq_true rfl, Nat.le_of_ble_eq_true rfl⟩ (Nat.le_of_ble_eq_true rfl) dX7_priority_2 ⟨Nat.le_of_ble_eq_true rfl, Nat.le_of_ble_eq_true rfl⟩ (fun hk H locs hR => ?_) (fun hk H locs q ce hR h1 h2 h3 => ?_)
  · rw [if_pos hk] at hF
    refine lv_aload_n hC.1 hC.2.1 dX7_priority_5 rfl (lv_at hl 0 rfl) ?_
    obtain ⟨x2, e2, hF⟩ := bnd hF
    refine pw_gfr hC hR e2 flX7_19 dX7_priority_6 ?_
    obtain ⟨x3, e3, hF⟩ := bnd hF
    refine pw_gfr hC hR e3 flX7_74 dX7_priority_9 ?_
    obtain ⟨x4, e4, hF⟩ := bnd hF
    refine pw_gfr hC hR e4 flX7_111 dX7_priority_12 ?_
    refine lv_iload_n hC.1 hC.2.1 dX7_priority_15 rfl (lv_at hl 1 rfl) ?_
    obtain ⟨x5, e5, hF⟩ := bnd hF
    refine pw_iald hC hR e5 dX7_priority_16 ?_
    cases hF
    exact pw_iretT hC hR (Nat.le_of_ble_eq_true rfl) (Nat.le_of_ble_eq_true rfl) dX7_priority_17
  · rw [if_neg hk] at hF
    cases hF
    exact pw_thru hC hR hk hout h1 h2 h3 (Nat.le_of_ble_eq_true rfl) (Nat.le_of_ble_eq_true rfl)
abbrev rmX7_coreOf : Room := { frames := 9, cells := 2, slots := 12, locals := 171 }
def FX7_coreOf (h : PH) (v0 : Nat) (v1 : Int) : Option (Nat × Int) :=
  (isO h 7 v0).bind fun _ =>
  (FX7_requireTask h v0 v1).bind fun x1 =>
  if x1 = 0 then (
    (gfr h 7 v0 1).bind fun x2 =>
    (gfr h 3 x2 0).bind fun x3 =>
    (gfr h 6 x3 7).bind fun x4 =>
    (ald 0 h x4 v1).bind fun x5 =>
    some (0, x5)
  ) else (some (x1, 0))
theorem OX7_coreOf {h : PH} {v0 : Nat} {v1 : Int} {q : Nat × Int} (hF : FX7_coreOf h v0 v1 = some q) : ∃ fs : List PV, h[v0]? = some (.inr (7, fs)) := by
  unfold FX7_coreOf at hF
  obtain ⟨u0, e0, -⟩ := bnd hF
  exact isO_spec e0
set_option maxHeartbeats 4000000 in
set_option maxRecDepth 100000 in
theorem CX7_coreOf {g : GP} {l : Launch} (hst : l.stackTraces = false) {ad : Nat → Nat} {h : PH} {v0 : Nat} {v1 : Int} {q : Nat × Int} (hF : FX7_coreOf h v0 v1 = some q) : CT g l yX7_coreOf cX7_coreOf 2 (some .int) rmX7_coreOf ad h [.ref (ad v0), .int (Int32.ofInt v1)] q.1 (some (.int (Int32.ofInt q.2))) h := by
  refine pw_metT (by decide) (Nat.le_of_ble_eq_true rfl) ?_
  intro p e s m args below meth c ls hC hout hR hl
  have hl : lv_has ls 2 [(0, .ref (ad v0)), (1, .int (Int32.ofInt v1))] := hl
  unfold FX7_coreOf at hF
  obtain ⟨u0, e0, hF⟩ := bnd hF
  refine lv_aload_n hC.1 hC.2.1 dX7_coreOf_0 rfl (lv_at hl 0 rfl) ?_
  refine lv_iload_n hC.1 hC.2.1 dX7_coreOf_1 rfl (lv_at hl 1 rfl) ?_
  obtain ⟨x1, e1, hF⟩ := bnd hF
  obtain ⟨fs1, ho1⟩ := OX7_requireTask e1
  refine pw_cVT (rest := []) hC hR lvX7_96 ho1 (CX7_requireTask hst e1) ⟨rfl, rfl⟩ rfl hl.1 rfl ⟨Nat.le_of_ble_eq_true rfl, Nat.le_of_ble_eq_true rfl⟩ (Nat.le_of_ble_eq_true rfl) dX7_coreOf_2 ⟨Nat.le_of_ble_eq_true rfl, Nat.le_of_ble_eq_true rfl⟩ (fun hk H locs hR => ?_) (fun hk H locs q ce hR h1 h2 h3 => ?_)
  · rw [if_pos hk] at hF
    refine lv_aload_n hC.1 hC.2.1 dX7_coreOf_5 rfl (lv_at hl 0 rfl) ?_
    obtain ⟨x2, e2, hF⟩ := bnd hF
    refine pw_gfr hC hR e2 flX7_19 dX7_coreOf_6 ?_
    obtain ⟨x3, e3, hF⟩ := bnd hF
    refine pw_gfr hC hR e3 flX7_74 dX7_coreOf_9 ?_
    obtain ⟨x4, e4, hF⟩ := bnd hF
    refine pw_gfr hC hR e4 flX7_114 dX7_coreOf_12 ?_
    refine lv_iload_n hC.1 hC.2.1 dX7_coreOf_15 rfl (lv_at hl 1 rfl) ?_
    obtain ⟨x5, e5, hF⟩ := bnd hF
    refine pw_iald hC hR e5 dX7_coreOf_16 ?_
    cases hF
    exact pw_iretT hC hR (Nat.le_of_ble_eq_true rfl) (Nat.le_of_ble_eq_true rfl) dX7_coreOf_17
  · rw [if_neg hk] at hF
    cases hF
    exact pw_thru hC hR hk hout h1 h2 h3 (Nat.le_of_ble_eq_true rfl) (Nat.le_of_ble_eq_true rfl)
abbrev rmX7_doneAt : Room := { frames := 9, cells := 2, slots := 12, locals := 171 }
def FX7_doneAt (h : PH) (v0 : Nat) (v1 : Int) : Option (Nat × Int) :=
  (isO h 7 v0).bind fun _ =>
  (FX7_requireTask h v0 v1).bind fun x1 =>
  if x1 = 0 then (
    (gfr h 7 v0 1).bind fun x2 =>
    (gfr h 3 x2 0).bind fun x3 =>
    (gfr h 6 x3 8).bind fun x4 =>
    (ald 0 h x4 v1).bind fun x5 =>
    some (0, x5)
  ) else (some (x1, 0))
theorem OX7_doneAt {h : PH} {v0 : Nat} {v1 : Int} {q : Nat × Int} (hF : FX7_doneAt h v0 v1 = some q) : ∃ fs : List PV, h[v0]? = some (.inr (7, fs)) := by
  unfold FX7_doneAt at hF
  obtain ⟨u0, e0, -⟩ := bnd hF
  exact isO_spec e0
set_option maxHeartbeats 4000000 in
set_option maxRecDepth 100000 in
theorem CX7_doneAt {g : GP} {l : Launch} (hst : l.stackTraces = false) {ad : Nat → Nat} {h : PH} {v0 : Nat} {v1 : Int} {q : Nat × Int} (hF : FX7_doneAt h v0 v1 = some q) : CT g l yX7_doneAt cX7_doneAt 2 (some .int) rmX7_doneAt ad h [.ref (ad v0), .int (Int32.ofInt v1)] q.1 (some (.int (Int32.ofInt q.2))) h := by
  refine pw_metT (by decide) (Nat.le_of_ble_eq_true rfl) ?_
  intro p e s m args below meth c ls hC hout hR hl
  have hl : lv_has ls 2 [(0, .ref (ad v0)), (1, .int (Int32.ofInt v1))] := hl
  unfold FX7_doneAt at hF
  obtain ⟨u0, e0, hF⟩ := bnd hF
  refine lv_aload_n hC.1 hC.2.1 dX7_doneAt_0 rfl (lv_at hl 0 rfl) ?_
  refine lv_iload_n hC.1 hC.2.1 dX7_doneAt_1 rfl (lv_at hl 1 rfl) ?_
  obtain ⟨x1, e1, hF⟩ := bnd hF
  obtain ⟨fs1, ho1⟩ := OX7_requireTask e1
  refine pw_cVT (rest := []) hC hR lvX7_96 ho1 (CX7_requireTask hst e1) ⟨rfl, rfl⟩ rfl hl.1 rfl ⟨Nat.le_of_ble_eq_true rfl, Nat.le_of_ble_eq_true rfl⟩ (Nat.le_of_ble_eq_true rfl) dX7_doneAt_2 ⟨Nat.le_of_ble_eq_true rfl, Nat.le_of_ble_eq_true rfl⟩ (fun hk H locs hR => ?_) (fun hk H locs q ce hR h1 h2 h3 => ?_)
  · rw [if_pos hk] at hF
    refine lv_aload_n hC.1 hC.2.1 dX7_doneAt_5 rfl (lv_at hl 0 rfl) ?_
    obtain ⟨x2, e2, hF⟩ := bnd hF
    refine pw_gfr hC hR e2 flX7_19 dX7_doneAt_6 ?_
    obtain ⟨x3, e3, hF⟩ := bnd hF
    refine pw_gfr hC hR e3 flX7_74 dX7_doneAt_9 ?_
    obtain ⟨x4, e4, hF⟩ := bnd hF
    refine pw_gfr hC hR e4 flX7_117 dX7_doneAt_12 ?_
    refine lv_iload_n hC.1 hC.2.1 dX7_doneAt_15 rfl (lv_at hl 1 rfl) ?_
    obtain ⟨x5, e5, hF⟩ := bnd hF
    refine pw_iald hC hR e5 dX7_doneAt_16 ?_
    cases hF
    exact pw_iretT hC hR (Nat.le_of_ble_eq_true rfl) (Nat.le_of_ble_eq_true rfl) dX7_doneAt_17
  · rw [if_neg hk] at hF
    cases hF
    exact pw_thru hC hR hk hout h1 h2 h3 (Nat.le_of_ble_eq_true rfl) (Nat.le_of_ble_eq_true rfl)
abbrev rmX7_isOpen : Room := { frames := 8, cells := 1, slots := 6, locals := 150 }
def JX7_isOpen_18 (h : PH) : Option (Nat × Int) :=
  some (1, 0)
set_option maxHeartbeats 4000000 in
set_option maxRecDepth 100000 in
theorem BX7_isOpen_18 (hst : l.stackTraces = false) (hout : ∀ x ∈ c.exceptionTable.toList, False) {h : PH} (hC : Cx g p s m args meth c cX7_isOpen 2 RX7 (some .boolean)) (hR : Rl g ad h s.heap H locs) (hl : lv_has ls 2 []) {q : Nat × Int} (hF : JX7_isOpen_18 h  = some q) : W p l e rmX7_isOpen s m args below meth c H locs 0 0 (vx_MQ below (QcT g ad q.1 h (some (.int (Int32.ofInt q.2)))) (XcT g ad q.1 h) args s 1 6 (gA g)) (F0 m 18 ls []) := by
  unfold JX7_isOpen_18 at hF
  cases hF
  exact pw_thB (i := 9) (tx := "no such fence") hC hR hst hout (by decide +kernel) hl.1 dX7_isOpen_18 dX7_isOpen_21 dX7_isOpen_22 dX7_isOpen_24 dX7_isOpen_27 (Nat.le_of_ble_eq_true rfl) (Nat.le_of_ble_eq_true rfl) (Nat.le_of_ble_eq_true rfl) (Nat.le_of_ble_eq_true rfl) (Nat.le_of_ble_eq_true rfl) (Nat.le_of_ble_eq_true rfl)
def FX7_isOpen (h : PH) (v0 : Nat) (v1 : Int) : Option (Nat × Int) :=
  (isO h 7 v0).bind fun _ =>
  if w32 v1 < 0 then (
    JX7_isOpen_18 h
  ) else (
    (gfr h 7 v0 1).bind fun x1 =>
    (gfr h 3 x1 0).bind fun x2 =>
    (gfi h 6 x2 1).bind fun x3 =>
    if w32 v1 < w32 x3 then (
      (gfr h 7 v0 1).bind fun x4 =>
      (gfr h 3 x4 0).bind fun x5 =>
      (gfr h 7 v0 1).bind fun x6 =>
      (gfr h 3 x6 0).bind fun x7 =>
      (FX6_unfinishedBits h x7).bind fun x8 =>
      (FX6_opens h x5 v1 x8).bind fun x9 =>
      if x9 = 0 ∨ x9 = 1 then some (0, x9) else none
    ) else (
      JX7_isOpen_18 h
    )
  )
theorem OX7_isOpen {h : PH} {v0 : Nat} {v1 : Int} {q : Nat × Int} (hF : FX7_isOpen h v0 v1 = some q) : ∃ fs : List PV, h[v0]? = some (.inr (7, fs)) := by
  unfold FX7_isOpen at hF
  obtain ⟨u0, e0, -⟩ := bnd hF
  exact isO_spec e0
set_option maxHeartbeats 4000000 in
set_option maxRecDepth 100000 in
theorem CX7_isOpen {g : GP} {l : Launch} (hst : l.stackTraces = false) {ad : Nat → Nat} {h : PH} {v0 : Nat} {v1 : Int} {q : Nat × Int} (hF : FX7_isOpen h v0 v1 = some q) : CT g l yX7_isOpen cX7_isOpen 2 (some .boolean) rmX7_isOpen ad h [.ref (ad v0), .int (Int32.ofInt v1)] q.1 (some (.int (Int32.ofInt q.2))) h := by
  refine pw_metT (by decide) (Nat.le_of_ble_eq_true rfl) ?_
  intro p e s m args below meth c ls hC hout hR hl
  have hl : lv_has ls 2 [(0, .ref (ad v0)), (1, .int (Int32.ofInt v1))] := hl
  unfold FX7_isOpen at hF
  obtain ⟨u0, e0, hF⟩ := bnd hF
  refine lv_iload_n hC.1 hC.2.1 dX7_isOpen_0 rfl (lv_at hl 1 rfl) ?_
  refine pw_iflt hC 18 dX7_isOpen_1 (by decide) (fun hc => ?_) (fun hc => ?_)
  · rw [if_pos hc] at hF
    exact BX7_isOpen_18 hst hout hC hR (lv_sub hl [] rfl) hF
  · rw [if_neg hc] at hF
    refine lv_iload_n hC.1 hC.2.1 dX7_isOpen_4 rfl (lv_at hl 1 rfl) ?_
    refine lv_aload_n hC.1 hC.2.1 dX7_isOpen_5 rfl (lv_at hl 0 rfl) ?_
    obtain ⟨x1, e1, hF⟩ := bnd hF
    refine pw_gfr hC hR e1 flX7_19 dX7_isOpen_6 ?_
    obtain ⟨x2, e2, hF⟩ := bnd hF
    refine pw_gfr hC hR e2 flX7_74 dX7_isOpen_9 ?_
    obtain ⟨x3, e3, hF⟩ := bnd hF
    refine pw_gfi hC hR e3 flX7_90 dX7_isOpen_12 ?_
    refine pw_icmplt hC 28 dX7_isOpen_15 (by decide) (fun hc => ?_) (fun hc => ?_)
    · rw [if_pos hc] at hF
      refine lv_aload_n hC.1 hC.2.1 dX7_isOpen_28 rfl (lv_at hl 0 rfl) ?_
      obtain ⟨x4, e4, hF⟩ := bnd hF
      refine pw_gfr hC hR e4 flX7_19 dX7_isOpen_29 ?_
      obtain ⟨x5, e5, hF⟩ := bnd hF
      refine pw_gfr hC hR e5 flX7_74 dX7_isOpen_32 ?_
      refine lv_iload_n hC.1 hC.2.1 dX7_isOpen_35 rfl (lv_at hl 1 rfl) ?_
      refine lv_aload_n hC.1 hC.2.1 dX7_isOpen_36 rfl (lv_at hl 0 rfl) ?_
      obtain ⟨x6, e6, hF⟩ := bnd hF
      refine pw_gfr hC hR e6 flX7_19 dX7_isOpen_37 ?_
      obtain ⟨x7, e7, hF⟩ := bnd hF
      refine pw_gfr hC hR e7 flX7_74 dX7_isOpen_40 ?_
      obtain ⟨x8, e8, hF⟩ := bnd hF
      obtain ⟨fs8, ho8⟩ := OX6_unfinishedBits e8
      refine pw_cVi (rest := [.int (Int32.ofInt v1), .ref (ad x5)]) hC hR lvX7_103 ho8 (CX6_unfinishedBits e8) ⟨rfl, rfl⟩ rfl hl.1 rfl ⟨Nat.le_of_ble_eq_true rfl, Nat.le_of_ble_eq_true rfl⟩ (Nat.le_of_ble_eq_true rfl) dX7_isOpen_43 ⟨Nat.le_of_ble_eq_true rfl, Nat.le_of_ble_eq_true rfl⟩ (fun H locs hR => ?_)
      obtain ⟨x9, e9, hF⟩ := bnd hF
      obtain ⟨fs9, ho9⟩ := OX6_opens e9
      refine pw_cVi (rest := []) hC hR lvX7_125 ho9 (CX6_opens e9) ⟨rfl, rfl⟩ rfl hl.1 rfl ⟨Nat.le_of_ble_eq_true rfl, Nat.le_of_ble_eq_true rfl⟩ (Nat.le_of_ble_eq_true rfl) dX7_isOpen_46 ⟨Nat.le_of_ble_eq_true rfl, Nat.le_of_ble_eq_true rfl⟩ (fun H locs hR => ?_)
      by_cases hb10 : x9 = 0 ∨ x9 = 1
      · rw [if_pos hb10] at hF
        cases hF
        exact pw_zretT hC hR hb10 (Nat.le_of_ble_eq_true rfl) (Nat.le_of_ble_eq_true rfl) dX7_isOpen_49
      · rw [if_neg hb10] at hF; cases hF
    · rw [if_neg hc] at hF
      exact BX7_isOpen_18 hst hout hC hR (lv_sub hl [] rfl) hF
abbrev rmX7_requireCore : Room := { frames := 8, cells := 1, slots := 6, locals := 150 }
def JX7_requireCore_18 (h : PH) : Option (Nat) :=
  some 1
set_option maxHeartbeats 4000000 in
set_option maxRecDepth 100000 in
theorem BX7_requireCore_18 (hst : l.stackTraces = false) (hout : ∀ x ∈ c.exceptionTable.toList, False) {h : PH} (hC : Cx g p s m args meth c cX7_requireCore 2 RX7 none) (hR : Rl g ad h s.heap H locs) (hl : lv_has ls 2 []) {q : Nat} (hF : JX7_requireCore_18 h  = some q) : W p l e rmX7_requireCore s m args below meth c H locs 0 0 (vx_MQ below (QcT g ad q h none) (XcT g ad q h) args s 1 6 (gA g)) (F0 m 18 ls []) := by
  unfold JX7_requireCore_18 at hF
  cases hF
  exact pw_thB (i := 21) (tx := "no such core") hC hR hst hout (by decide +kernel) hl.1 dX7_requireCore_18 dX7_requireCore_21 dX7_requireCore_22 dX7_requireCore_24 dX7_requireCore_27 (Nat.le_of_ble_eq_true rfl) (Nat.le_of_ble_eq_true rfl) (Nat.le_of_ble_eq_true rfl) (Nat.le_of_ble_eq_true rfl) (Nat.le_of_ble_eq_true rfl) (Nat.le_of_ble_eq_true rfl)
def FX7_requireCore (h : PH) (v0 : Nat) (v1 : Int) : Option (Nat) :=
  (isO h 7 v0).bind fun _ =>
  if w32 v1 < 0 then (
    JX7_requireCore_18 h
  ) else (
    (gfr h 7 v0 1).bind fun x1 =>
    (gfr h 3 x1 1).bind fun x2 =>
    (gfi h 0 x2 0).bind fun x3 =>
    if w32 v1 < w32 x3 then (
      some 0
    ) else (
      JX7_requireCore_18 h
    )
  )
theorem OX7_requireCore {h : PH} {v0 : Nat} {v1 : Int} {q : Nat} (hF : FX7_requireCore h v0 v1 = some q) : ∃ fs : List PV, h[v0]? = some (.inr (7, fs)) := by
  unfold FX7_requireCore at hF
  obtain ⟨u0, e0, -⟩ := bnd hF
  exact isO_spec e0
set_option maxHeartbeats 4000000 in
set_option maxRecDepth 100000 in
theorem CX7_requireCore {g : GP} {l : Launch} (hst : l.stackTraces = false) {ad : Nat → Nat} {h : PH} {v0 : Nat} {v1 : Int} {q : Nat} (hF : FX7_requireCore h v0 v1 = some q) : CT g l yX7_requireCore cX7_requireCore 2 none rmX7_requireCore ad h [.ref (ad v0), .int (Int32.ofInt v1)] q none h := by
  refine pw_metT (by decide) (Nat.le_of_ble_eq_true rfl) ?_
  intro p e s m args below meth c ls hC hout hR hl
  have hl : lv_has ls 2 [(0, .ref (ad v0)), (1, .int (Int32.ofInt v1))] := hl
  unfold FX7_requireCore at hF
  obtain ⟨u0, e0, hF⟩ := bnd hF
  refine lv_iload_n hC.1 hC.2.1 dX7_requireCore_0 rfl (lv_at hl 1 rfl) ?_
  refine pw_iflt hC 18 dX7_requireCore_1 (by decide) (fun hc => ?_) (fun hc => ?_)
  · rw [if_pos hc] at hF
    exact BX7_requireCore_18 hst hout hC hR (lv_sub hl [] rfl) hF
  · rw [if_neg hc] at hF
    refine lv_iload_n hC.1 hC.2.1 dX7_requireCore_4 rfl (lv_at hl 1 rfl) ?_
    refine lv_aload_n hC.1 hC.2.1 dX7_requireCore_5 rfl (lv_at hl 0 rfl) ?_
    obtain ⟨x1, e1, hF⟩ := bnd hF
    refine pw_gfr hC hR e1 flX7_19 dX7_requireCore_6 ?_
    obtain ⟨x2, e2, hF⟩ := bnd hF
    refine pw_gfr hC hR e2 flX7_83 dX7_requireCore_9 ?_
    obtain ⟨x3, e3, hF⟩ := bnd hF
    refine pw_gfi hC hR e3 flX7_87 dX7_requireCore_12 ?_
    refine pw_icmplt hC 28 dX7_requireCore_15 (by decide) (fun hc => ?_) (fun hc => ?_)
    · rw [if_pos hc] at hF
      cases hF
      exact pw_vretT hC hR (Nat.le_of_ble_eq_true rfl) (Nat.le_of_ble_eq_true rfl) dX7_requireCore_28
    · rw [if_neg hc] at hF
      exact BX7_requireCore_18 hst hout hC hR (lv_sub hl [] rfl) hF
abbrev rmX7_queueLength : Room := { frames := 9, cells := 2, slots := 12, locals := 171 }
def FX7_queueLength (h : PH) (v0 : Nat) (v1 : Int) : Option (Nat × Int) :=
  (isO h 7 v0).bind fun _ =>
  (FX7_requireCore h v0 v1).bind fun x1 =>
  if x1 = 0 then (
    (gfr h 7 v0 1).bind fun x2 =>
    (gfr h 3 x2 1).bind fun x3 =>
    (gfr h 0 x3 4).bind fun x4 =>
    (ald 0 h x4 v1).bind fun x5 =>
    some (0, x5)
  ) else (some (x1, 0))
theorem OX7_queueLength {h : PH} {v0 : Nat} {v1 : Int} {q : Nat × Int} (hF : FX7_queueLength h v0 v1 = some q) : ∃ fs : List PV, h[v0]? = some (.inr (7, fs)) := by
  unfold FX7_queueLength at hF
  obtain ⟨u0, e0, -⟩ := bnd hF
  exact isO_spec e0
set_option maxHeartbeats 4000000 in
set_option maxRecDepth 100000 in
theorem CX7_queueLength {g : GP} {l : Launch} (hst : l.stackTraces = false) {ad : Nat → Nat} {h : PH} {v0 : Nat} {v1 : Int} {q : Nat × Int} (hF : FX7_queueLength h v0 v1 = some q) : CT g l yX7_queueLength cX7_queueLength 2 (some .int) rmX7_queueLength ad h [.ref (ad v0), .int (Int32.ofInt v1)] q.1 (some (.int (Int32.ofInt q.2))) h := by
  refine pw_metT (by decide) (Nat.le_of_ble_eq_true rfl) ?_
  intro p e s m args below meth c ls hC hout hR hl
  have hl : lv_has ls 2 [(0, .ref (ad v0)), (1, .int (Int32.ofInt v1))] := hl
  unfold FX7_queueLength at hF
  obtain ⟨u0, e0, hF⟩ := bnd hF
  refine lv_aload_n hC.1 hC.2.1 dX7_queueLength_0 rfl (lv_at hl 0 rfl) ?_
  refine lv_iload_n hC.1 hC.2.1 dX7_queueLength_1 rfl (lv_at hl 1 rfl) ?_
  obtain ⟨x1, e1, hF⟩ := bnd hF
  obtain ⟨fs1, ho1⟩ := OX7_requireCore e1
  refine pw_cVT (rest := []) hC hR lvX7_129 ho1 (CX7_requireCore hst e1) ⟨rfl, rfl⟩ rfl hl.1 rfl ⟨Nat.le_of_ble_eq_true rfl, Nat.le_of_ble_eq_true rfl⟩ (Nat.le_of_ble_eq_true rfl) dX7_queueLength_2 ⟨Nat.le_of_ble_eq_true rfl, Nat.le_of_ble_eq_true rfl⟩ (fun hk H locs hR => ?_) (fun hk H locs q ce hR h1 h2 h3 => ?_)
  · rw [if_pos hk] at hF
    refine lv_aload_n hC.1 hC.2.1 dX7_queueLength_5 rfl (lv_at hl 0 rfl) ?_
    obtain ⟨x2, e2, hF⟩ := bnd hF
    refine pw_gfr hC hR e2 flX7_19 dX7_queueLength_6 ?_
    obtain ⟨x3, e3, hF⟩ := bnd hF
    refine pw_gfr hC hR e3 flX7_83 dX7_queueLength_9 ?_
    obtain ⟨x4, e4, hF⟩ := bnd hF
    refine pw_gfr hC hR e4 flX7_132 dX7_queueLength_12 ?_
    refine lv_iload_n hC.1 hC.2.1 dX7_queueLength_15 rfl (lv_at hl 1 rfl) ?_
    obtain ⟨x5, e5, hF⟩ := bnd hF
    refine pw_iald hC hR e5 dX7_queueLength_16 ?_
    cases hF
    exact pw_iretT hC hR (Nat.le_of_ble_eq_true rfl) (Nat.le_of_ble_eq_true rfl) dX7_queueLength_17
  · rw [if_neg hk] at hF
    cases hF
    exact pw_thru hC hR hk hout h1 h2 h3 (Nat.le_of_ble_eq_true rfl) (Nat.le_of_ble_eq_true rfl)
abbrev rmX7_queued : Room := { frames := 9, cells := 2, slots := 12, locals := 171 }
def JX7_queued_25 (h : PH) : Option (Nat × Int) :=
  some (1, 0)
set_option maxHeartbeats 4000000 in
set_option maxRecDepth 100000 in
theorem BX7_queued_25 (hst : l.stackTraces = false) (hout : ∀ x ∈ c.exceptionTable.toList, False) {h : PH} (hC : Cx g p s m args meth c cX7_queued 3 RX7 (some .int)) (hR : Rl g ad h s.heap H locs) (hl : lv_has ls 3 []) {q : Nat × Int} (hF : JX7_queued_25 h  = some q) : W p l e rmX7_queued s m args below meth c H locs 1 6 (vx_MQ below (QcT g ad q.1 h (some (.int (Int32.ofInt q.2)))) (XcT g ad q.1 h) args s 2 12 (gA g)) (F0 m 25 ls []) := by
  unfold JX7_queued_25 at hF
  cases hF
  exact pw_thB (i := 10) (tx := "no such place in the queue") hC hR hst hout (by decide +kernel) hl.1 dX7_queued_25 dX7_queued_28 dX7_queued_29 dX7_queued_31 dX7_queued_34 (Nat.le_of_ble_eq_true rfl) (Nat.le_of_ble_eq_true rfl) (Nat.le_of_ble_eq_true rfl) (Nat.le_of_ble_eq_true rfl) (Nat.le_of_ble_eq_true rfl) (Nat.le_of_ble_eq_true rfl)
def FX7_queued (h : PH) (v0 : Nat) (v1 : Int) (v2 : Int) : Option (Nat × Int) :=
  (isO h 7 v0).bind fun _ =>
  (FX7_requireCore h v0 v1).bind fun x1 =>
  if x1 = 0 then (
    if w32 v2 < 0 then (
      JX7_queued_25 h
    ) else (
      (gfr h 7 v0 1).bind fun x2 =>
      (gfr h 3 x2 1).bind fun x3 =>
      (gfr h 0 x3 4).bind fun x4 =>
      (ald 0 h x4 v1).bind fun x5 =>
      if w32 v2 < w32 x5 then (
        (gfr h 7 v0 1).bind fun x6 =>
        (gfr h 3 x6 1).bind fun x7 =>
        (gfr h 0 x7 3).bind fun x8 =>
        (ald 0 h x8 ((v1 * 8) + v2)).bind fun x9 =>
        some (0, x9)
      ) else (
        JX7_queued_25 h
      )
    )
  ) else (some (x1, 0))
theorem OX7_queued {h : PH} {v0 : Nat} {v1 : Int} {v2 : Int} {q : Nat × Int} (hF : FX7_queued h v0 v1 v2 = some q) : ∃ fs : List PV, h[v0]? = some (.inr (7, fs)) := by
  unfold FX7_queued at hF
  obtain ⟨u0, e0, -⟩ := bnd hF
  exact isO_spec e0
set_option maxHeartbeats 4000000 in
set_option maxRecDepth 100000 in
theorem CX7_queued {g : GP} {l : Launch} (hst : l.stackTraces = false) {ad : Nat → Nat} {h : PH} {v0 : Nat} {v1 : Int} {v2 : Int} {q : Nat × Int} (hF : FX7_queued h v0 v1 v2 = some q) : CT g l yX7_queued cX7_queued 3 (some .int) rmX7_queued ad h [.ref (ad v0), .int (Int32.ofInt v1), .int (Int32.ofInt v2)] q.1 (some (.int (Int32.ofInt q.2))) h := by
  refine pw_metT (by decide) (Nat.le_of_ble_eq_true rfl) ?_
  intro p e s m args below meth c ls hC hout hR hl
  have hl : lv_has ls 3 [(0, .ref (ad v0)), (1, .int (Int32.ofInt v1)), (2, .int (Int32.ofInt v2))] := hl
  unfold FX7_queued at hF
  obtain ⟨u0, e0, hF⟩ := bnd hF
  refine lv_aload_n hC.1 hC.2.1 dX7_queued_0 rfl (lv_at hl 0 rfl) ?_
  refine lv_iload_n hC.1 hC.2.1 dX7_queued_1 rfl (lv_at hl 1 rfl) ?_
  obtain ⟨x1, e1, hF⟩ := bnd hF
  obtain ⟨fs1, ho1⟩ := OX7_requireCore e1
  refine pw_cVT (rest := []) hC hR lvX7_129 ho1 (CX7_requireCore hst e1) ⟨rfl, rfl⟩ rfl hl.1 rfl ⟨Nat.le_of_ble_eq_true rfl, Nat.le_of_ble_eq_true rfl⟩ (Nat.le_of_ble_eq_true rfl) dX7_queued_2 ⟨Nat.le_of_ble_eq_true rfl, Nat.le_of_ble_eq_true rfl⟩ (fun hk H locs hR => ?_) (fun hk H locs q ce hR h1 h2 h3 => ?_)
  · rw [if_pos hk] at hF
    refine lv_iload_n hC.1 hC.2.1 dX7_queued_5 rfl (lv_at hl 2 rfl) ?_
    refine pw_iflt hC 25 dX7_queued_6 (by decide) (fun hc => ?_) (fun hc => ?_)
    · rw [if_pos hc] at hF
      exact BX7_queued_25 hst hout hC hR (lv_sub hl [] rfl) hF
    · rw [if_neg hc] at hF
      refine lv_iload_n hC.1 hC.2.1 dX7_queued_9 rfl (lv_at hl 2 rfl) ?_
      refine lv_aload_n hC.1 hC.2.1 dX7_queued_10 rfl (lv_at hl 0 rfl) ?_
      obtain ⟨x2, e2, hF⟩ := bnd hF
      refine pw_gfr hC hR e2 flX7_19 dX7_queued_11 ?_
      obtain ⟨x3, e3, hF⟩ := bnd hF
      refine pw_gfr hC hR e3 flX7_83 dX7_queued_14 ?_
      obtain ⟨x4, e4, hF⟩ := bnd hF
      refine pw_gfr hC hR e4 flX7_132 dX7_queued_17 ?_
      refine lv_iload_n hC.1 hC.2.1 dX7_queued_20 rfl (lv_at hl 1 rfl) ?_
      obtain ⟨x5, e5, hF⟩ := bnd hF
      refine pw_iald hC hR e5 dX7_queued_21 ?_
      refine pw_icmplt hC 35 dX7_queued_22 (by decide) (fun hc => ?_) (fun hc => ?_)
      · rw [if_pos hc] at hF
        refine lv_aload_n hC.1 hC.2.1 dX7_queued_35 rfl (lv_at hl 0 rfl) ?_
        obtain ⟨x6, e6, hF⟩ := bnd hF
        refine pw_gfr hC hR e6 flX7_19 dX7_queued_36 ?_
        obtain ⟨x7, e7, hF⟩ := bnd hF
        refine pw_gfr hC hR e7 flX7_83 dX7_queued_39 ?_
        obtain ⟨x8, e8, hF⟩ := bnd hF
        refine pw_gfr hC hR e8 flX7_137 dX7_queued_42 ?_
        refine lv_iload_n hC.1 hC.2.1 dX7_queued_45 rfl (lv_at hl 1 rfl) ?_
        refine pw_bipush hC dX7_queued_46 rfl ?_
        refine pw_imul hC dX7_queued_48 ?_
        refine lv_iload_n hC.1 hC.2.1 dX7_queued_49 rfl (lv_at hl 2 rfl) ?_
        refine pw_iadd hC dX7_queued_50 ?_
        obtain ⟨x9, e9, hF⟩ := bnd hF
        refine pw_iald hC hR e9 dX7_queued_51 ?_
        cases hF
        exact pw_iretT hC hR (Nat.le_of_ble_eq_true rfl) (Nat.le_of_ble_eq_true rfl) dX7_queued_52
      · rw [if_neg hc] at hF
        exact BX7_queued_25 hst hout hC hR (lv_sub hl [] rfl) hF
  · rw [if_neg hk] at hF
    cases hF
    exact pw_thru hC hR hk hout h1 h2 h3 (Nat.le_of_ble_eq_true rfl) (Nat.le_of_ble_eq_true rfl)
end
