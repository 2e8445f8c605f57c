section
variable {p : Program} {l : Launch} {e : Env} {s : State} {m : MethodId} {args : Array Value} {below : List Frame} {meth : Method} {c : Code} {H : Heap} {locs : List Loc} {ls : Array Slot} {g : GP} {ad : Nat → Nat}
abbrev rmX8_state : Room := { frames := 2, cells := 0, slots := 0, locals := 43 }
def JX8_state_28 (h : PH) (s0 : Int) : Option (Int × PH) :=
  some (s0, h)
set_option maxHeartbeats 4000000 in
set_option maxRecDepth 100000 in
theorem BX8_state_28 {h : PH} {s0 : Int} (hC : Cx g p s m args meth c cX8_state 2 RX8 (some .int)) (hR : Rl g ad h s.heap H locs) (hl : lv_has ls 2 []) {q : Int × PH} (hF : JX8_state_28 h s0 = some q) : W p l e rmX8_state s m args below meth c H locs 0 0 (MQ below (QcN g ad q.2 (some (.int (Int32.ofInt q.1)))) args s 0 0 (gA g)) (F0 m 28 ls [.int (Int32.ofInt s0)]) := by
  unfold JX8_state_28 at hF
  cases hF
  exact pw_iret hC hR dX8_state_28
def FX8_state (h : PH) (v0 : Nat) (v1 : Int) : Option (Int × PH) :=
  (isO h 8 v0).bind fun _ =>
  (pfi h 8 v0 0 0).bind fun h1 =>
  (FX8_noTask h1 v0 v1).bind fun q2 =>
  if w32 q2.1 = 0 then (
    (gfr q2.2 8 v0 8).bind fun x3 =>
    (FX8_task q2.2 v1).bind fun x4 =>
    (ald 0 q2.2 x3 (x4 + 4)).bind fun x5 =>
    JX8_state_28 q2.2 x5
  ) else (
    JX8_state_28 q2.2 0
  )
theorem OX8_state {h : PH} {v0 : Nat} {v1 : Int} {q : Int × PH} (hF : FX8_state h v0 v1 = some q) : ∃ fs : List PV, h[v0]? = some (.inr (8, fs)) := by
  unfold FX8_state at hF
  obtain ⟨u0, e0, -⟩ := bnd hF
  exact isO_spec e0
set_option maxHeartbeats 4000000 in
set_option maxRecDepth 100000 in
theorem CX8_state {g : GP} {l : Launch} {ad : Nat → Nat} {h : PH} {v0 : Nat} {v1 : Int} {q : Int × PH} (hF : FX8_state h v0 v1 = some q) : CN g l yX8_state cX8_state 2 (some .int) rmX8_state ad h [.ref (ad v0), .int (Int32.ofInt v1)] (some (.int (Int32.ofInt q.1))) q.2 := by
  refine pw_met (by decide) (Nat.le_of_ble_eq_true rfl) ?_
  intro p e s m args below meth c ls hC hN hR hl
  have hl : lv_has ls 2 [(0, .ref (ad v0)), (1, .int (Int32.ofInt v1))] := hl
  unfold FX8_state at hF
  obtain ⟨u0, e0, hF⟩ := bnd hF
  refine lv_aload_n hC.1 hC.2.1 dX8_state_0 rfl (lv_at hl 0 rfl) ?_
  refine pw_iconst hC dX8_state_1 ?_
  obtain ⟨h1, e1, hF⟩ := bnd hF
  refine pw_pfi hC hR e1 fpX8_38 (Or.inl rfl) dX8_state_2 (fun H locs hR => ?_)
  refine lv_aload_n hC.1 hC.2.1 dX8_state_5 rfl (lv_at hl 0 rfl) ?_
  refine lv_iload_n hC.1 hC.2.1 dX8_state_6 rfl (lv_at hl 1 rfl) ?_
  obtain ⟨q2, e2, hF⟩ := bnd hF
  obtain ⟨fs2, ho2⟩ := OX8_noTask e2
  refine pw_cVi (rest := []) hC hR lvX8_227 ho2 (CX8_noTask e2) ⟨rfl, rfl⟩ rfl hl.1 rfl ⟨Nat.le_of_ble_eq_true rfl, Nat.le_of_ble_eq_true rfl⟩ (Nat.le_of_ble_eq_true rfl) dX8_state_7 ⟨Nat.zero_le _, Nat.zero_le _⟩ (fun H locs hR => ?_)
  refine pw_ifeq hC 17 dX8_state_10 (by decide) (fun hc => ?_) (fun hc => ?_)
  · rw [if_pos hc] at hF
    refine lv_aload_n hC.1 hC.2.1 dX8_state_17 rfl (lv_at hl 0 rfl) ?_
    obtain ⟨x3, e3, hF⟩ := bnd hF
    refine pw_gfr hC hR e3 flX8_17 dX8_state_18 ?_
    refine lv_iload_n hC.1 hC.2.1 dX8_state_21 rfl (lv_at hl 1 rfl) ?_
    obtain ⟨x4, e4, hF⟩ := bnd hF
    refine pw_cSi (rest := [.ref (ad x3)]) hC hR lsX8_136 (CX8_task e4) ⟨rfl, rfl⟩ rfl hl.1 rfl ⟨Nat.le_of_ble_eq_true rfl, Nat.le_of_ble_eq_true rfl⟩ (Nat.le_of_ble_eq_true rfl) dX8_state_22 ⟨Nat.zero_le _, Nat.zero_le _⟩ (fun H locs hR => ?_)
    refine pw_iconst hC dX8_state_25 ?_
    refine pw_iadd hC dX8_state_26 ?_
    obtain ⟨x5, e5, hF⟩ := bnd hF
    refine pw_iald hC hR e5 dX8_state_27 ?_
    exact BX8_state_28 hC hR (lv_sub hl [] rfl) hF
  · rw [if_neg hc] at hF
    refine pw_iconst hC dX8_state_13 ?_
    refine pw_goto hC 28 dX8_state_14 (by decide) ?_
    exact BX8_state_28 hC hR (lv_sub hl [] rfl) hF
abbrev rmX8_counter : Room := { frames := 4, cells := 0, slots := 0, locals := 86 }
def JX8_counter_25 (h : PH) (s0 : Int) : Option (Int × PH) :=
  some (s0, h)
set_option maxHeartbeats 4000000 in
set_option maxRecDepth 100000 in
theorem BX8_counter_25 {h : PH} {s0 : Int} (hC : Cx g p s m args meth c cX8_counter 2 RX8 (some .int)) (hR : Rl g ad h s.heap H locs) (hl : lv_has ls 2 []) {q : Int × PH} (hF : JX8_counter_25 h s0 = some q) : W p l e rmX8_counter s m args below meth c H locs 0 0 (MQ below (QcN g ad q.2 (some (.int (Int32.ofInt q.1)))) args s 0 0 (gA g)) (F0 m 25 ls [.int (Int32.ofInt s0)]) := by
  unfold JX8_counter_25 at hF
  cases hF
  exact pw_iret hC hR dX8_counter_25
def FX8_counter (h : PH) (v0 : Nat) (v1 : Int) : Option (Int × PH) :=
  (isO h 8 v0).bind fun _ =>
  (pfi h 8 v0 0 0).bind fun h1 =>
  (FX8_noTask h1 v0 v1).bind fun q2 =>
  if w32 q2.1 = 0 then (
    (gfr q2.2 8 v0 8).bind fun x3 =>
    (FX8_counterOf q2.2 x3 v1).bind fun x4 =>
    JX8_counter_25 q2.2 x4
  ) else (
    JX8_counter_25 q2.2 0
  )
theorem OX8_counter {h : PH} {v0 : Nat} {v1 : Int} {q : Int × PH} (hF : FX8_counter h v0 v1 = some q) : ∃ fs : List PV, h[v0]? = some (.inr (8, fs)) := by
  unfold FX8_counter at hF
  obtain ⟨u0, e0, -⟩ := bnd hF
  exact isO_spec e0
set_option maxHeartbeats 4000000 in
set_option maxRecDepth 100000 in
theorem CX8_counter {g : GP} {l : Launch} {ad : Nat → Nat} {h : PH} {v0 : Nat} {v1 : Int} {q : Int × PH} (hF : FX8_counter h v0 v1 = some q) : CN g l yX8_counter cX8_counter 2 (some .int) rmX8_counter ad h [.ref (ad v0), .int (Int32.ofInt v1)] (some (.int (Int32.ofInt q.1))) q.2 := by
  refine pw_met (by decide) (Nat.le_of_ble_eq_true rfl) ?_
  intro p e s m args below meth c ls hC hN hR hl
  have hl : lv_has ls 2 [(0, .ref (ad v0)), (1, .int (Int32.ofInt v1))] := hl
  unfold FX8_counter at hF
  obtain ⟨u0, e0, hF⟩ := bnd hF
  refine lv_aload_n hC.1 hC.2.1 dX8_counter_0 rfl (lv_at hl 0 rfl) ?_
  refine pw_iconst hC dX8_counter_1 ?_
  obtain ⟨h1, e1, hF⟩ := bnd hF
  refine pw_pfi hC hR e1 fpX8_38 (Or.inl rfl) dX8_counter_2 (fun H locs hR => ?_)
  refine lv_aload_n hC.1 hC.2.1 dX8_counter_5 rfl (lv_at hl 0 rfl) ?_
  refine lv_iload_n hC.1 hC.2.1 dX8_counter_6 rfl (lv_at hl 1 rfl) ?_
  obtain ⟨q2, e2, hF⟩ := bnd hF
  obtain ⟨fs2, ho2⟩ := OX8_noTask e2
  refine pw_cVi (rest := []) hC hR lvX8_227 ho2 (CX8_noTask e2) ⟨rfl, rfl⟩ rfl hl.1 rfl ⟨Nat.le_of_ble_eq_true rfl, Nat.le_of_ble_eq_true rfl⟩ (Nat.le_of_ble_eq_true rfl) dX8_counter_7 ⟨Nat.zero_le _, Nat.zero_le _⟩ (fun H locs hR => ?_)
  refine pw_ifeq hC 17 dX8_counter_10 (by decide) (fun hc => ?_) (fun hc => ?_)
  · rw [if_pos hc] at hF
    refine lv_aload_n hC.1 hC.2.1 dX8_counter_17 rfl (lv_at hl 0 rfl) ?_
    obtain ⟨x3, e3, hF⟩ := bnd hF
    refine pw_gfr hC hR e3 flX8_17 dX8_counter_18 ?_
    refine lv_iload_n hC.1 hC.2.1 dX8_counter_21 rfl (lv_at hl 1 rfl) ?_
    obtain ⟨x4, e4, hF⟩ := bnd hF
    refine pw_cSi (rest := []) hC hR lsX8_203 (CX8_counterOf e4) ⟨rfl, rfl⟩ rfl hl.1 rfl ⟨Nat.le_of_ble_eq_true rfl, Nat.le_of_ble_eq_true rfl⟩ (Nat.le_of_ble_eq_true rfl) dX8_counter_22 ⟨Nat.zero_le _, Nat.zero_le _⟩ (fun H locs hR => ?_)
    exact BX8_counter_25 hC hR (lv_sub hl [] rfl) hF
  · rw [if_neg hc] at hF
    refine pw_iconst hC dX8_counter_13 ?_
    refine pw_goto hC 25 dX8_counter_14 (by decide) ?_
    exact BX8_counter_25 hC hR (lv_sub hl [] rfl) hF
abbrev rmX8_priority : Room := { frames := 2, cells := 0, slots := 0, locals := 43 }
def JX8_priority_28 (h : PH) (s0 : Int) : Option (Int × PH) :=
  some (s0, h)
set_option maxHeartbeats 4000000 in
set_option maxRecDepth 100000 in
theorem BX8_priority_28 {h : PH} {s0 : Int} (hC : Cx g p s m args meth c cX8_priority 2 RX8 (some .int)) (hR : Rl g ad h s.heap H locs) (hl : lv_has ls 2 []) {q : Int × PH} (hF : JX8_priority_28 h s0 = some q) : W p l e rmX8_priority s m args below meth c H locs 0 0 (MQ below (QcN g ad q.2 (some (.int (Int32.ofInt q.1)))) args s 0 0 (gA g)) (F0 m 28 ls [.int (Int32.ofInt s0)]) := by
  unfold JX8_priority_28 at hF
  cases hF
  exact pw_iret hC hR dX8_priority_28
def FX8_priority (h : PH) (v0 : Nat) (v1 : Int) : Option (Int × PH) :=
  (isO h 8 v0).bind fun _ =>
  (pfi h 8 v0 0 0).bind fun h1 =>
  (FX8_noTask h1 v0 v1).bind fun q2 =>
  if w32 q2.1 = 0 then (
    (gfr q2.2 8 v0 8).bind fun x3 =>
    (FX8_task q2.2 v1).bind fun x4 =>
    (ald 0 q2.2 x3 (x4 + 1)).bind fun x5 =>
    JX8_priority_28 q2.2 x5
  ) else (
    JX8_priority_28 q2.2 0
  )
theorem OX8_priority {h : PH} {v0 : Nat} {v1 : Int} {q : Int × PH} (hF : FX8_priority h v0 v1 = some q) : ∃ fs : List PV, h[v0]? = some (.inr (8, fs)) := by
  unfold FX8_priority at hF
  obtain ⟨u0, e0, -⟩ := bnd hF
  exact isO_spec e0
set_option maxHeartbeats 4000000 in
set_option maxRecDepth 100000 in
theorem CX8_priority {g : GP} {l : Launch} {ad : Nat → Nat} {h : PH} {v0 : Nat} {v1 : Int} {q : Int × PH} (hF : FX8_priority h v0 v1 = some q) : CN g l yX8_priority cX8_priority 2 (some .int) rmX8_priority ad h [.ref (ad v0), .int (Int32.ofInt v1)] (some (.int (Int32.ofInt q.1))) q.2 := by
  refine pw_met (by decide) (Nat.le_of_ble_eq_true rfl) ?_
  intro p e s m args below meth c ls hC hN hR hl
  have hl : lv_has ls 2 [(0, .ref (ad v0)), (1, .int (Int32.ofInt v1))] := hl
  unfold FX8_priority at hF
  obtain ⟨u0, e0, hF⟩ := bnd hF
  refine lv_aload_n hC.1 hC.2.1 dX8_priority_0 rfl (lv_at hl 0 rfl) ?_
  refine pw_iconst hC dX8_priority_1 ?_
  obtain ⟨h1, e1, hF⟩ := bnd hF
  refine pw_pfi hC hR e1 fpX8_38 (Or.inl rfl) dX8_priority_2 (fun H locs hR => ?_)
  refine lv_aload_n hC.1 hC.2.1 dX8_priority_5 rfl (lv_at hl 0 rfl) ?_
  refine lv_iload_n hC.1 hC.2.1 dX8_priority_6 rfl (lv_at hl 1 rfl) ?_
  obtain ⟨q2, e2, hF⟩ := bnd hF
  obtain ⟨fs2, ho2⟩ := OX8_noTask e2
  refine pw_cVi (rest := []) hC hR lvX8_227 ho2 (CX8_noTask e2) ⟨rfl, rfl⟩ rfl hl.1 rfl ⟨Nat.le_of_ble_eq_true rfl, Nat.le_of_ble_eq_true rfl⟩ (Nat.le_of_ble_eq_true rfl) dX8_priority_7 ⟨Nat.zero_le _, Nat.zero_le _⟩ (fun H locs hR => ?_)
  refine pw_ifeq hC 17 dX8_priority_10 (by decide) (fun hc => ?_) (fun hc => ?_)
  · rw [if_pos hc] at hF
    refine lv_aload_n hC.1 hC.2.1 dX8_priority_17 rfl (lv_at hl 0 rfl) ?_
    obtain ⟨x3, e3, hF⟩ := bnd hF
    refine pw_gfr hC hR e3 flX8_17 dX8_priority_18 ?_
    refine lv_iload_n hC.1 hC.2.1 dX8_priority_21 rfl (lv_at hl 1 rfl) ?_
    obtain ⟨x4, e4, hF⟩ := bnd hF
    refine pw_cSi (rest := [.ref (ad x3)]) hC hR lsX8_136 (CX8_task e4) ⟨rfl, rfl⟩ rfl hl.1 rfl ⟨Nat.le_of_ble_eq_true rfl, Nat.le_of_ble_eq_true rfl⟩ (Nat.le_of_ble_eq_true rfl) dX8_priority_22 ⟨Nat.zero_le _, Nat.zero_le _⟩ (fun H locs hR => ?_)
    refine pw_iconst hC dX8_priority_25 ?_
    refine pw_iadd hC dX8_priority_26 ?_
    obtain ⟨x5, e5, hF⟩ := bnd hF
    refine pw_iald hC hR e5 dX8_priority_27 ?_
    exact BX8_priority_28 hC hR (lv_sub hl [] rfl) hF
  · rw [if_neg hc] at hF
    refine pw_iconst hC dX8_priority_13 ?_
    refine pw_goto hC 28 dX8_priority_14 (by decide) ?_
    exact BX8_priority_28 hC hR (lv_sub hl [] rfl) hF
abbrev rmX8_coreOf : Room := { frames := 2, cells := 0, slots := 0, locals := 43 }
def JX8_coreOf_29 (h : PH) (s0 : Int) : Option (Int × PH) :=
  some (s0, h)
set_option maxHeartbeats 4000000 in
set_option maxRecDepth 100000 in
theorem BX8_coreOf_29 {h : PH} {s0 : Int} (hC : Cx g p s m args meth c cX8_coreOf 2 RX8 (some .int)) (hR : Rl g ad h s.heap H locs) (hl : lv_has ls 2 []) {q : Int × PH} (hF : JX8_coreOf_29 h s0 = some q) : W p l e rmX8_coreOf s m args below meth c H locs 0 0 (MQ below (QcN g ad q.2 (some (.int (Int32.ofInt q.1)))) args s 0 0 (gA g)) (F0 m 29 ls [.int (Int32.ofInt s0)]) := by
  unfold JX8_coreOf_29 at hF
  cases hF
  exact pw_iret hC hR dX8_coreOf_29
def FX8_coreOf (h : PH) (v0 : Nat) (v1 : Int) : Option (Int × PH) :=
  (isO h 8 v0).bind fun _ =>
  (pfi h 8 v0 0 0).bind fun h1 =>
  (FX8_noTask h1 v0 v1).bind fun q2 =>
  if w32 q2.1 = 0 then (
    (gfr q2.2 8 v0 8).bind fun x3 =>
    (FX8_task q2.2 v1).bind fun x4 =>
    (ald 0 q2.2 x3 (x4 + 6)).bind fun x5 =>
    JX8_coreOf_29 q2.2 x5
  ) else (
    JX8_coreOf_29 q2.2 0
  )
theorem OX8_coreOf {h : PH} {v0 : Nat} {v1 : Int} {q : Int × PH} (hF : FX8_coreOf h v0 v1 = some q) : ∃ fs : List PV, h[v0]? = some (.inr (8, fs)) := by
  unfold FX8_coreOf at hF
  obtain ⟨u0, e0, -⟩ := bnd hF
  exact isO_spec e0
set_option maxHeartbeats 4000000 in
set_option maxRecDepth 100000 in
theorem CX8_coreOf {g : GP} {l : Launch} {ad : Nat → Nat} {h : PH} {v0 : Nat} {v1 : Int} {q : Int × PH} (hF : FX8_coreOf h v0 v1 = some q) : CN g l yX8_coreOf cX8_coreOf 2 (some .int) rmX8_coreOf ad h [.ref (ad v0), .int (Int32.ofInt v1)] (some (.int (Int32.ofInt q.1))) q.2 := by
  refine pw_met (by decide) (Nat.le_of_ble_eq_true rfl) ?_
  intro p e s m args below meth c ls hC hN hR hl
  have hl : lv_has ls 2 [(0, .ref (ad v0)), (1, .int (Int32.ofInt v1))] := hl
  unfold FX8_coreOf at hF
  obtain ⟨u0, e0, hF⟩ := bnd hF
  refine lv_aload_n hC.1 hC.2.1 dX8_coreOf_0 rfl (lv_at hl 0 rfl) ?_
  refine pw_iconst hC dX8_coreOf_1 ?_
  obtain ⟨h1, e1, hF⟩ := bnd hF
  refine pw_pfi hC hR e1 fpX8_38 (Or.inl rfl) dX8_coreOf_2 (fun H locs hR => ?_)
  refine lv_aload_n hC.1 hC.2.1 dX8_coreOf_5 rfl (lv_at hl 0 rfl) ?_
  refine lv_iload_n hC.1 hC.2.1 dX8_coreOf_6 rfl (lv_at hl 1 rfl) ?_
  obtain ⟨q2, e2, hF⟩ := bnd hF
  obtain ⟨fs2, ho2⟩ := OX8_noTask e2
  refine pw_cVi (rest := []) hC hR lvX8_227 ho2 (CX8_noTask e2) ⟨rfl, rfl⟩ rfl hl.1 rfl ⟨Nat.le_of_ble_eq_true rfl, Nat.le_of_ble_eq_true rfl⟩ (Nat.le_of_ble_eq_true rfl) dX8_coreOf_7 ⟨Nat.zero_le _, Nat.zero_le _⟩ (fun H locs hR => ?_)
  refine pw_ifeq hC 17 dX8_coreOf_10 (by decide) (fun hc => ?_) (fun hc => ?_)
  · rw [if_pos hc] at hF
    refine lv_aload_n hC.1 hC.2.1 dX8_coreOf_17 rfl (lv_at hl 0 rfl) ?_
    obtain ⟨x3, e3, hF⟩ := bnd hF
    refine pw_gfr hC hR e3 flX8_17 dX8_coreOf_18 ?_
    refine lv_iload_n hC.1 hC.2.1 dX8_coreOf_21 rfl (lv_at hl 1 rfl) ?_
    obtain ⟨x4, e4, hF⟩ := bnd hF
    refine pw_cSi (rest := [.ref (ad x3)]) hC hR lsX8_136 (CX8_task e4) ⟨rfl, rfl⟩ rfl hl.1 rfl ⟨Nat.le_of_ble_eq_true rfl, Nat.le_of_ble_eq_true rfl⟩ (Nat.le_of_ble_eq_true rfl) dX8_coreOf_22 ⟨Nat.zero_le _, Nat.zero_le _⟩ (fun H locs hR => ?_)
    refine pw_bipush hC dX8_coreOf_25 rfl ?_
    refine pw_iadd hC dX8_coreOf_27 ?_
    obtain ⟨x5, e5, hF⟩ := bnd hF
    refine pw_iald hC hR e5 dX8_coreOf_28 ?_
    exact BX8_coreOf_29 hC hR (lv_sub hl [] rfl) hF
  · rw [if_neg hc] at hF
    refine pw_iconst hC dX8_coreOf_13 ?_
    refine pw_goto hC 29 dX8_coreOf_14 (by decide) ?_
    exact BX8_coreOf_29 hC hR (lv_sub hl [] rfl) hF
abbrev rmX8_doneAt : Room := { frames := 2, cells := 0, slots := 0, locals := 43 }
def JX8_doneAt_29 (h : PH) (s0 : Int) : Option (Int × PH) :=
  some (s0, h)
set_option maxHeartbeats 4000000 in
set_option maxRecDepth 100000 in
theorem BX8_doneAt_29 {h : PH} {s0 : Int} (hC : Cx g p s m args meth c cX8_doneAt 2 RX8 (some .int)) (hR : Rl g ad h s.heap H locs) (hl : lv_has ls 2 []) {q : Int × PH} (hF : JX8_doneAt_29 h s0 = some q) : W p l e rmX8_doneAt s m args below meth c H locs 0 0 (MQ below (QcN g ad q.2 (some (.int (Int32.ofInt q.1)))) args s 0 0 (gA g)) (F0 m 29 ls [.int (Int32.ofInt s0)]) := by
  unfold JX8_doneAt_29 at hF
  cases hF
  exact pw_iret hC hR dX8_doneAt_29
def FX8_doneAt (h : PH) (v0 : Nat) (v1 : Int) : Option (Int × PH) :=
  (isO h 8 v0).bind fun _ =>
  (pfi h 8 v0 0 0).bind fun h1 =>
  (FX8_noTask h1 v0 v1).bind fun q2 =>
  if w32 q2.1 = 0 then (
    (gfr q2.2 8 v0 8).bind fun x3 =>
    (FX8_task q2.2 v1).bind fun x4 =>
    (ald 0 q2.2 x3 (x4 + 7)).bind fun x5 =>
    JX8_doneAt_29 q2.2 x5
  ) else (
    JX8_doneAt_29 q2.2 0
  )
theorem OX8_doneAt {h : PH} {v0 : Nat} {v1 : Int} {q : Int × PH} (hF : FX8_doneAt h v0 v1 = some q) : ∃ fs : List PV, h[v0]? = some (.inr (8, fs)) := by
  unfold FX8_doneAt at hF
  obtain ⟨u0, e0, -⟩ := bnd hF
  exact isO_spec e0
set_option maxHeartbeats 4000000 in
set_option maxRecDepth 100000 in
theorem CX8_doneAt {g : GP} {l : Launch} {ad : Nat → Nat} {h : PH} {v0 : Nat} {v1 : Int} {q : Int × PH} (hF : FX8_doneAt h v0 v1 = some q) : CN g l yX8_doneAt cX8_doneAt 2 (some .int) rmX8_doneAt ad h [.ref (ad v0), .int (Int32.ofInt v1)] (some (.int (Int32.ofInt q.1))) q.2 := by
  refine pw_met (by decide) (Nat.le_of_ble_eq_true rfl) ?_
  intro p e s m args below meth c ls hC hN hR hl
  have hl : lv_has ls 2 [(0, .ref (ad v0)), (1, .int (Int32.ofInt v1))] := hl
  unfold FX8_doneAt at hF
  obtain ⟨u0, e0, hF⟩ := bnd hF
  refine lv_aload_n hC.1 hC.2.1 dX8_doneAt_0 rfl (lv_at hl 0 rfl) ?_
  refine pw_iconst hC dX8_doneAt_1 ?_
  obtain ⟨h1, e1, hF⟩ := bnd hF
  refine pw_pfi hC hR e1 fpX8_38 (Or.inl rfl) dX8_doneAt_2 (fun H locs hR => ?_)
  refine lv_aload_n hC.1 hC.2.1 dX8_doneAt_5 rfl (lv_at hl 0 rfl) ?_
  refine lv_iload_n hC.1 hC.2.1 dX8_doneAt_6 rfl (lv_at hl 1 rfl) ?_
  obtain ⟨q2, e2, hF⟩ := bnd hF
  obtain ⟨fs2, ho2⟩ := OX8_noTask e2
  refine pw_cVi (rest := []) hC hR lvX8_227 ho2 (CX8_noTask e2) ⟨rfl, rfl⟩ rfl hl.1 rfl ⟨Nat.le_of_ble_eq_true rfl, Nat.le_of_ble_eq_true rfl⟩ (Nat.le_of_ble_eq_true rfl) dX8_doneAt_7 ⟨Nat.zero_le _, Nat.zero_le _⟩ (fun H locs hR => ?_)
  refine pw_ifeq hC 17 dX8_doneAt_10 (by decide) (fun hc => ?_) (fun hc => ?_)
  · rw [if_pos hc] at hF
    refine lv_aload_n hC.1 hC.2.1 dX8_doneAt_17 rfl (lv_at hl 0 rfl) ?_
    obtain ⟨x3, e3, hF⟩ := bnd hF
    refine pw_gfr hC hR e3 flX8_17 dX8_doneAt_18 ?_
    refine lv_iload_n hC.1 hC.2.1 dX8_doneAt_21 rfl (lv_at hl 1 rfl) ?_
    obtain ⟨x4, e4, hF⟩ := bnd hF
    refine pw_cSi (rest := [.ref (ad x3)]) hC hR lsX8_136 (CX8_task e4) ⟨rfl, rfl⟩ rfl hl.1 rfl ⟨Nat.le_of_ble_eq_true rfl, Nat.le_of_ble_eq_true rfl⟩ (Nat.le_of_ble_eq_true rfl) dX8_doneAt_22 ⟨Nat.zero_le _, Nat.zero_le _⟩ (fun H locs hR => ?_)
    refine pw_bipush hC dX8_doneAt_25 rfl ?_
    refine pw_iadd hC dX8_doneAt_27 ?_
    obtain ⟨x5, e5, hF⟩ := bnd hF
    refine pw_iald hC hR e5 dX8_doneAt_28 ?_
    exact BX8_doneAt_29 hC hR (lv_sub hl [] rfl) hF
  · rw [if_neg hc] at hF
    refine pw_iconst hC dX8_doneAt_13 ?_
    refine pw_goto hC 29 dX8_doneAt_14 (by decide) ?_
    exact BX8_doneAt_29 hC hR (lv_sub hl [] rfl) hF
abbrev rmX8_isOpen : Room := { frames := 3, cells := 0, slots := 0, locals := 63 }
def JX8_isOpen_50 (h : PH) (s0 : Int) : Option (Int × PH) :=
  if s0 = 0 ∨ s0 = 1 then some (s0, h) else none
set_option maxHeartbeats 4000000 in
set_option maxRecDepth 100000 in
theorem BX8_isOpen_50 {h : PH} {s0 : Int} (hC : Cx g p s m args meth c cX8_isOpen 2 RX8 (some .boolean)) (hR : Rl g ad h s.heap H locs) (hl : lv_has ls 2 []) {q : Int × PH} (hF : JX8_isOpen_50 h s0 = some q) : W p l e rmX8_isOpen s m args below meth c H locs 0 0 (MQ below (QcN g ad q.2 (some (.int (Int32.ofInt q.1)))) args s 0 0 (gA g)) (F0 m 50 ls [.int (Int32.ofInt s0)]) := by
  unfold JX8_isOpen_50 at hF
  by_cases hb6 : s0 = 0 ∨ s0 = 1
  · rw [if_pos hb6] at hF
    cases hF
    exact pw_zret hC hR hb6 dX8_isOpen_50
  · rw [if_neg hb6] at hF; cases hF
def JX8_isOpen_49 (h : PH) : Option (Int × PH) :=
  JX8_isOpen_50 h 0
set_option maxHeartbeats 4000000 in
set_option maxRecDepth 100000 in
theorem BX8_isOpen_49 {h : PH} (hC : Cx g p s m args meth c cX8_isOpen 2 RX8 (some .boolean)) (hR : Rl g ad h s.heap H locs) (hl : lv_has ls 2 []) {q : Int × PH} (hF : JX8_isOpen_49 h  = some q) : W p l e rmX8_isOpen s m args below meth c H locs 0 0 (MQ below (QcN g ad q.2 (some (.int (Int32.ofInt q.1)))) args s 0 0 (gA g)) (F0 m 49 ls []) := by
  unfold JX8_isOpen_49 at hF
  refine pw_iconst hC dX8_isOpen_49 ?_
  exact BX8_isOpen_50 hC hR (lv_sub hl [] rfl) hF
def JX8_isOpen_27 (h : PH) (v0 : Nat) (v1 : Int) (s0 : Int) (s1 : Nat) : Option (Int × PH) :=
  (FX8_fails h s1 s0 1).bind fun q5 =>
  if w32 q5.1 = 0 then (
    (gfr q5.2 8 v0 8).bind fun x7 =>
    (FX8_isOpened q5.2 x7 v1).bind fun x8 =>
    if w32 x8 = 0 then (
      JX8_isOpen_49 q5.2
    ) else (
      JX8_isOpen_50 q5.2 1
    )
  ) else (
    JX8_isOpen_49 q5.2
  )
set_option maxHeartbeats 4000000 in
set_option maxRecDepth 100000 in
theorem BX8_isOpen_27 {h : PH} {v0 : Nat} {v1 : Int} {s0 : Int} {s1 : Nat} (hC : Cx g p s m args meth c cX8_isOpen 2 RX8 (some .boolean)) (hR : Rl g ad h s.heap H locs) (hl : lv_has ls 2 [(0, .ref (ad v0)), (1, .int (Int32.ofInt v1))]) {q : Int × PH} (hF : JX8_isOpen_27 h v0 v1 s0 s1 = some q) : W p l e rmX8_isOpen s m args below meth c H locs 0 0 (MQ below (QcN g ad q.2 (some (.int (Int32.ofInt q.1)))) args s 0 0 (gA g)) (F0 m 27 ls [.int (Int32.ofInt s0), .ref (ad s1)]) := by
  unfold JX8_isOpen_27 at hF
  refine pw_iconst hC dX8_isOpen_27 ?_
  obtain ⟨q5, e5, hF⟩ := bnd hF
  obtain ⟨fs5, ho5⟩ := OX8_fails e5
  refine pw_cVi (rest := []) hC hR lvX8_162 ho5 (CX8_fails e5) ⟨rfl, rfl⟩ rfl hl.1 rfl ⟨Nat.le_of_ble_eq_true rfl, Nat.le_of_ble_eq_true rfl⟩ (Nat.le_of_ble_eq_true rfl) dX8_isOpen_28 ⟨Nat.zero_le _, Nat.zero_le _⟩ (fun H locs hR => ?_)
  refine pw_ifne hC 49 dX8_isOpen_31 (by decide) (fun hc => ?_) (fun hc => ?_)
  · rw [if_neg hc] at hF
    exact BX8_isOpen_49 hC hR (lv_sub hl [] rfl) hF
  · rw [if_pos hc] at hF
    refine lv_aload_n hC.1 hC.2.1 dX8_isOpen_34 rfl (lv_at hl 0 rfl) ?_
    obtain ⟨x7, e7, hF⟩ := bnd hF
    refine pw_gfr hC hR e7 flX8_17 dX8_isOpen_35 ?_
    refine lv_iload_n hC.1 hC.2.1 dX8_isOpen_38 rfl (lv_at hl 1 rfl) ?_
    obtain ⟨x8, e8, hF⟩ := bnd hF
    refine pw_cSi (rest := []) hC hR lsX8_200 (CX8_isOpened e8) ⟨rfl, rfl⟩ rfl hl.1 rfl ⟨Nat.le_of_ble_eq_true rfl, Nat.le_of_ble_eq_true rfl⟩ (Nat.le_of_ble_eq_true rfl) dX8_isOpen_39 ⟨Nat.zero_le _, Nat.zero_le _⟩ (fun H locs hR => ?_)
    refine pw_ifeq hC 49 dX8_isOpen_42 (by decide) (fun hc => ?_) (fun hc => ?_)
    · rw [if_pos hc] at hF
      exact BX8_isOpen_49 hC hR (lv_sub hl [] rfl) hF
    · rw [if_neg hc] at hF
      refine pw_iconst hC dX8_isOpen_45 ?_
      refine pw_goto hC 50 dX8_isOpen_46 (by decide) ?_
      exact BX8_isOpen_50 hC hR (lv_sub hl [] rfl) hF
def FX8_isOpen (h : PH) (v0 : Nat) (v1 : Int) : Option (Int × PH) :=
  (isO h 8 v0).bind fun _ =>
  (pfi h 8 v0 0 0).bind fun h1 =>
  (gfr h1 8 v0 8).bind fun x2 =>
  (ald 0 h1 x2 4).bind fun x3 =>
  (FX8_in h1 v1 0 (x3 - 1)).bind fun x4 =>
  if w32 x4 = 0 then (
    JX8_isOpen_27 h1 v0 v1 1 v0
  ) else (
    JX8_isOpen_27 h1 v0 v1 0 v0
  )
theorem OX8_isOpen {h : PH} {v0 : Nat} {v1 : Int} {q : Int × PH} (hF : FX8_isOpen h v0 v1 = some q) : ∃ fs : List PV, h[v0]? = some (.inr (8, fs)) := by
  unfold FX8_isOpen at hF
  obtain ⟨u0, e0, -⟩ := bnd hF
  exact isO_spec e0
set_option maxHeartbeats 4000000 in
set_option maxRecDepth 100000 in
theorem CX8_isOpen {g : GP} {l : Launch} {ad : Nat → Nat} {h : PH} {v0 : Nat} {v1 : Int} {q : Int × PH} (hF : FX8_isOpen h v0 v1 = some q) : CN g l yX8_isOpen cX8_isOpen 2 (some .boolean) rmX8_isOpen ad h [.ref (ad v0), .int (Int32.ofInt v1)] (some (.int (Int32.ofInt q.1))) q.2 := by
  refine pw_met (by decide) (Nat.le_of_ble_eq_true rfl) ?_
  intro p e s m args below meth c ls hC hN hR hl
  have hl : lv_has ls 2 [(0, .ref (ad v0)), (1, .int (Int32.ofInt v1))] := hl
  unfold FX8_isOpen at hF
  obtain ⟨u0, e0, hF⟩ := bnd hF
  refine lv_aload_n hC.1 hC.2.1 dX8_isOpen_0 rfl (lv_at hl 0 rfl) ?_
  refine pw_iconst hC dX8_isOpen_1 ?_
  obtain ⟨h1, e1, hF⟩ := bnd hF
  refine pw_pfi hC hR e1 fpX8_38 (Or.inl rfl) dX8_isOpen_2 (fun H locs hR => ?_)
  refine lv_aload_n hC.1 hC.2.1 dX8_isOpen_5 rfl (lv_at hl 0 rfl) ?_
  refine lv_iload_n hC.1 hC.2.1 dX8_isOpen_6 rfl (lv_at hl 1 rfl) ?_
  refine pw_iconst hC dX8_isOpen_7 ?_
  refine lv_aload_n hC.1 hC.2.1 dX8_isOpen_8 rfl (lv_at hl 0 rfl) ?_
  obtain ⟨x2, e2, hF⟩ := bnd hF
  refine pw_gfr hC hR e2 flX8_17 dX8_isOpen_9 ?_
  refine pw_iconst hC dX8_isOpen_12 ?_
  obtain ⟨x3, e3, hF⟩ := bnd hF
  refine pw_iald hC hR e3 dX8_isOpen_13 ?_
  refine pw_iconst hC dX8_isOpen_14 ?_
  refine pw_isub hC dX8_isOpen_15 ?_
  obtain ⟨x4, e4, hF⟩ := bnd hF
  refine pw_cSi (rest := [.ref (ad v0)]) hC hR lsX8_63 (CX8_in e4) ⟨rfl, rfl⟩ rfl hl.1 rfl ⟨Nat.le_of_ble_eq_true rfl, Nat.le_of_ble_eq_true rfl⟩ (Nat.le_of_ble_eq_true rfl) dX8_isOpen_16 ⟨Nat.zero_le _, Nat.zero_le _⟩ (fun H locs hR => ?_)
  refine pw_ifne hC 26 dX8_isOpen_19 (by decide) (fun hc => ?_) (fun hc => ?_)
  · rw [if_neg hc] at hF
    refine pw_iconst hC dX8_isOpen_26 ?_
    exact BX8_isOpen_27 hC hR (lv_sub hl [0, 1] rfl) hF
  · rw [if_pos hc] at hF
    refine pw_iconst hC dX8_isOpen_22 ?_
    refine pw_goto hC 27 dX8_isOpen_23 (by decide) ?_
    exact BX8_isOpen_27 hC hR (lv_sub hl [0, 1] rfl) hF
abbrev rmX8_queueLength : Room := { frames := 2, cells := 0, slots := 0, locals := 43 }
def JX8_queueLength_28 (h : PH) (s0 : Int) : Option (Int × PH) :=
  some (s0, h)
set_option maxHeartbeats 4000000 in
set_option maxRecDepth 100000 in
theorem BX8_queueLength_28 {h : PH} {s0 : Int} (hC : Cx g p s m args meth c cX8_queueLength 2 RX8 (some .int)) (hR : Rl g ad h s.heap H locs) (hl : lv_has ls 2 []) {q : Int × PH} (hF : JX8_queueLength_28 h s0 = some q) : W p l e rmX8_queueLength s m args below meth c H locs 0 0 (MQ below (QcN g ad q.2 (some (.int (Int32.ofInt q.1)))) args s 0 0 (gA g)) (F0 m 28 ls [.int (Int32.ofInt s0)]) := by
  unfold JX8_queueLength_28 at hF
  cases hF
  exact pw_iret hC hR dX8_queueLength_28
def FX8_queueLength (h : PH) (v0 : Nat) (v1 : Int) : Option (Int × PH) :=
  (isO h 8 v0).bind fun _ =>
  (pfi h 8 v0 0 0).bind fun h1 =>
  (FX8_noCore h1 v0 v1).bind fun q2 =>
  if w32 q2.1 = 0 then (
    (gfr q2.2 8 v0 8).bind fun x3 =>
    (FX8_core q2.2 v1).bind fun x4 =>
    (ald 0 q2.2 x3 (x4 + 4)).bind fun x5 =>
    JX8_queueLength_28 q2.2 x5
  ) else (
    JX8_queueLength_28 q2.2 0
  )
theorem OX8_queueLength {h : PH} {v0 : Nat} {v1 : Int} {q : Int × PH} (hF : FX8_queueLength h v0 v1 = some q) : ∃ fs : List PV, h[v0]? = some (.inr (8, fs)) := by
  unfold FX8_queueLength at hF
  obtain ⟨u0, e0, -⟩ := bnd hF
  exact isO_spec e0
set_option maxHeartbeats 4000000 in
set_option maxRecDepth 100000 in
theorem CX8_queueLength {g : GP} {l : Launch} {ad : Nat → Nat} {h : PH} {v0 : Nat} {v1 : Int} {q : Int × PH} (hF : FX8_queueLength h v0 v1 = some q) : CN g l yX8_queueLength cX8_queueLength 2 (some .int) rmX8_queueLength ad h [.ref (ad v0), .int (Int32.ofInt v1)] (some (.int (Int32.ofInt q.1))) q.2 := by
  refine pw_met (by decide) (Nat.le_of_ble_eq_true rfl) ?_
  intro p e s m args below meth c ls hC hN hR hl
  have hl : lv_has ls 2 [(0, .ref (ad v0)), (1, .int (Int32.ofInt v1))] := hl
  unfold FX8_queueLength at hF
  obtain ⟨u0, e0, hF⟩ := bnd hF
  refine lv_aload_n hC.1 hC.2.1 dX8_queueLength_0 rfl (lv_at hl 0 rfl) ?_
  refine pw_iconst hC dX8_queueLength_1 ?_
  obtain ⟨h1, e1, hF⟩ := bnd hF
  refine pw_pfi hC hR e1 fpX8_38 (Or.inl rfl) dX8_queueLength_2 (fun H locs hR => ?_)
  refine lv_aload_n hC.1 hC.2.1 dX8_queueLength_5 rfl (lv_at hl 0 rfl) ?_
  refine lv_iload_n hC.1 hC.2.1 dX8_queueLength_6 rfl (lv_at hl 1 rfl) ?_
  obtain ⟨q2, e2, hF⟩ := bnd hF
  obtain ⟨fs2, ho2⟩ := OX8_noCore e2
  refine pw_cVi (rest := []) hC hR lvX8_230 ho2 (CX8_noCore e2) ⟨rfl, rfl⟩ rfl hl.1 rfl ⟨Nat.le_of_ble_eq_true rfl, Nat.le_of_ble_eq_true rfl⟩ (Nat.le_of_ble_eq_true rfl) dX8_queueLength_7 ⟨Nat.zero_le _, Nat.zero_le _⟩ (fun H locs hR => ?_)
  refine pw_ifeq hC 17 dX8_queueLength_10 (by decide) (fun hc => ?_) (fun hc => ?_)
  · rw [if_pos hc] at hF
    refine lv_aload_n hC.1 hC.2.1 dX8_queueLength_17 rfl (lv_at hl 0 rfl) ?_
    obtain ⟨x3, e3, hF⟩ := bnd hF
    refine pw_gfr hC hR e3 flX8_17 dX8_queueLength_18 ?_
    refine lv_iload_n hC.1 hC.2.1 dX8_queueLength_21 rfl (lv_at hl 1 rfl) ?_
    obtain ⟨x4, e4, hF⟩ := bnd hF
    refine pw_cSi (rest := [.ref (ad x3)]) hC hR lsX8_41 (CX8_core e4) ⟨rfl, rfl⟩ rfl hl.1 rfl ⟨Nat.le_of_ble_eq_true rfl, Nat.le_of_ble_eq_true rfl⟩ (Nat.le_of_ble_eq_true rfl) dX8_queueLength_22 ⟨Nat.zero_le _, Nat.zero_le _⟩ (fun H locs hR => ?_)
    refine pw_iconst hC dX8_queueLength_25 ?_
    refine pw_iadd hC dX8_queueLength_26 ?_
    obtain ⟨x5, e5, hF⟩ := bnd hF
    refine pw_iald hC hR e5 dX8_queueLength_27 ?_
    exact BX8_queueLength_28 hC hR (lv_sub hl [] rfl) hF
  · rw [if_neg hc] at hF
    refine pw_iconst hC dX8_queueLength_13 ?_
    refine pw_goto hC 28 dX8_queueLength_14 (by decide) ?_
    exact BX8_queueLength_28 hC hR (lv_sub hl [] rfl) hF
abbrev rmX8_queued : Room := { frames := 2, cells := 0, slots := 0, locals := 43 }
def JX8_queued_64 (h : PH) (s0 : Int) : Option (Int × PH) :=
  some (s0, h)
set_option maxHeartbeats 4000000 in
set_option maxRecDepth 100000 in
theorem BX8_queued_64 {h : PH} {s0 : Int} (hC : Cx g p s m args meth c cX8_queued 3 RX8 (some .int)) (hR : Rl g ad h s.heap H locs) (hl : lv_has ls 3 []) {q : Int × PH} (hF : JX8_queued_64 h s0 = some q) : W p l e rmX8_queued s m args below meth c H locs 0 0 (MQ below (QcN g ad q.2 (some (.int (Int32.ofInt q.1)))) args s 0 0 (gA g)) (F0 m 64 ls [.int (Int32.ofInt s0)]) := by
  unfold JX8_queued_64 at hF
  cases hF
  exact pw_iret hC hR dX8_queued_64
def JX8_queued_47 (h : PH) : Option (Int × PH) :=
  JX8_queued_64 h 0
set_option maxHeartbeats 4000000 in
set_option maxRecDepth 100000 in
theorem BX8_queued_47 {h : PH} (hC : Cx g p s m args meth c cX8_queued 3 RX8 (some .int)) (hR : Rl g ad h s.heap H locs) (hl : lv_has ls 3 []) {q : Int × PH} (hF : JX8_queued_47 h  = some q) : W p l e rmX8_queued s m args below meth c H locs 0 0 (MQ below (QcN g ad q.2 (some (.int (Int32.ofInt q.1)))) args s 0 0 (gA g)) (F0 m 47 ls []) := by
  unfold JX8_queued_47 at hF
  refine pw_iconst hC dX8_queued_47 ?_
  refine pw_goto hC 64 dX8_queued_48 (by decide) ?_
  exact BX8_queued_64 hC hR (lv_sub hl [] rfl) hF
def JX8_queued_40 (h : PH) (v0 : Nat) (v1 : Int) (v2 : Int) (s0 : Int) (s1 : Nat) : Option (Int × PH) :=
  (FX8_fails h s1 s0 1).bind fun q7 =>
  if w32 q7.1 = 0 then (
    (gfr q7.2 8 v0 8).bind fun x8 =>
    (FX8_core q7.2 v1).bind fun x9 =>
    (ald 0 q7.2 x8 ((x9 + 5) + v2)).bind fun x10 =>
    JX8_queued_64 q7.2 x10
  ) else (
    JX8_queued_47 q7.2
  )
set_option maxHeartbeats 4000000 in
set_option maxRecDepth 100000 in
theorem BX8_queued_40 {h : PH} {v0 : Nat} {v1 : Int} {v2 : Int} {s0 : Int} {s1 : Nat} (hC : Cx g p s m args meth c cX8_queued 3 RX8 (some .int)) (hR : Rl g ad h s.heap H locs) (hl : lv_has ls 3 [(0, .ref (ad v0)), (1, .int (Int32.ofInt v1)), (2, .int (Int32.ofInt v2))]) {q : Int × PH} (hF : JX8_queued_40 h v0 v1 v2 s0 s1 = some q) : W p l e rmX8_queued s m args below meth c H locs 0 0 (MQ below (QcN g ad q.2 (some (.int (Int32.ofInt q.1)))) args s 0 0 (gA g)) (F0 m 40 ls [.int (Int32.ofInt s0), .ref (ad s1)]) := by
  unfold JX8_queued_40 at hF
  refine pw_iconst hC dX8_queued_40 ?_
  obtain ⟨q7, e7, hF⟩ := bnd hF
  obtain ⟨fs7, ho7⟩ := OX8_fails e7
  refine pw_cVi (rest := []) hC hR lvX8_162 ho7 (CX8_fails e7) ⟨rfl, rfl⟩ rfl hl.1 rfl ⟨Nat.le_of_ble_eq_true rfl, Nat.le_of_ble_eq_true rfl⟩ (Nat.le_of_ble_eq_true rfl) dX8_queued_41 ⟨Nat.zero_le _, Nat.zero_le _⟩ (fun H locs hR => ?_)
  refine pw_ifeq hC 51 dX8_queued_44 (by decide) (fun hc => ?_) (fun hc => ?_)
  · rw [if_pos hc] at hF
    refine lv_aload_n hC.1 hC.2.1 dX8_queued_51 rfl (lv_at hl 0 rfl) ?_
    obtain ⟨x8, e8, hF⟩ := bnd hF
    refine pw_gfr hC hR e8 flX8_17 dX8_queued_52 ?_
    refine lv_iload_n hC.1 hC.2.1 dX8_queued_55 rfl (lv_at hl 1 rfl) ?_
    obtain ⟨x9, e9, hF⟩ := bnd hF
    refine pw_cSi (rest := [.ref (ad x8)]) hC hR lsX8_41 (CX8_core e9) ⟨rfl, rfl⟩ rfl hl.1 rfl ⟨Nat.le_of_ble_eq_true rfl, Nat.le_of_ble_eq_true rfl⟩ (Nat.le_of_ble_eq_true rfl) dX8_queued_56 ⟨Nat.zero_le _, Nat.zero_le _⟩ (fun H locs hR => ?_)
    refine pw_iconst hC dX8_queued_59 ?_
    refine pw_iadd hC dX8_queued_60 ?_
    refine lv_iload_n hC.1 hC.2.1 dX8_queued_61 rfl (lv_at hl 2 rfl) ?_
    refine pw_iadd hC dX8_queued_62 ?_
    obtain ⟨x10, e10, hF⟩ := bnd hF
    refine pw_iald hC hR e10 dX8_queued_63 ?_
    exact BX8_queued_64 hC hR (lv_sub hl [] rfl) hF
  · rw [if_neg hc] at hF
    exact BX8_queued_47 hC hR (lv_sub hl [] rfl) hF
def FX8_queued (h : PH) (v0 : Nat) (v1 : Int) (v2 : Int) : Option (Int × PH) :=
  (isO h 8 v0).bind fun _ =>
  (pfi h 8 v0 0 0).bind fun h1 =>
  (FX8_noCore h1 v0 v1).bind fun q2 =>
  if w32 q2.1 = 0 then (
    (gfr q2.2 8 v0 8).bind fun x3 =>
    (FX8_core q2.2 v1).bind fun x4 =>
    (ald 0 q2.2 x3 (x4 + 4)).bind fun x5 =>
    (FX8_in q2.2 v2 0 (x5 - 1)).bind fun x6 =>
    if w32 x6 = 0 then (
      JX8_queued_40 q2.2 v0 v1 v2 1 v0
    ) else (
      JX8_queued_40 q2.2 v0 v1 v2 0 v0
    )
  ) else (
    JX8_queued_47 q2.2
  )
theorem OX8_queued {h : PH} {v0 : Nat} {v1 : Int} {v2 : Int} {q : Int × PH} (hF : FX8_queued h v0 v1 v2 = some q) : ∃ fs : List PV, h[v0]? = some (.inr (8, fs)) := by
  unfold FX8_queued at hF
  obtain ⟨u0, e0, -⟩ := bnd hF
  exact isO_spec e0
set_option maxHeartbeats 4000000 in
set_option maxRecDepth 100000 in
theorem CX8_queued {g : GP} {l : Launch} {ad : Nat → Nat} {h : PH} {v0 : Nat} {v1 : Int} {v2 : Int} {q : Int × PH} (hF : FX8_queued h v0 v1 v2 = some q) : CN g l yX8_queued cX8_queued 3 (some .int) rmX8_queued ad h [.ref (ad v0), .int (Int32.ofInt v1), .int (Int32.ofInt v2)] (some (.int (Int32.ofInt q.1))) q.2 := by
  refine pw_met (by decide) (Nat.le_of_ble_eq_true rfl) ?_
  intro p e s m args below meth c ls hC hN hR hl
  have hl : lv_has ls 3 [(0, .ref (ad v0)), (1, .int (Int32.ofInt v1)), (2, .int (Int32.ofInt v2))] := hl
  unfold FX8_queued at hF
  obtain ⟨u0, e0, hF⟩ := bnd hF
  refine lv_aload_n hC.1 hC.2.1 dX8_queued_0 rfl (lv_at hl 0 rfl) ?_
  refine pw_iconst hC dX8_queued_1 ?_
  obtain ⟨h1, e1, hF⟩ := bnd hF
  refine pw_pfi hC hR e1 fpX8_38 (Or.inl rfl) dX8_queued_2 (fun H locs hR => ?_)
  refine lv_aload_n hC.1 hC.2.1 dX8_queued_5 rfl (lv_at hl 0 rfl) ?_
  refine lv_iload_n hC.1 hC.2.1 dX8_queued_6 rfl (lv_at hl 1 rfl) ?_
  obtain ⟨q2, e2, hF⟩ := bnd hF
  obtain ⟨fs2, ho2⟩ := OX8_noCore e2
  refine pw_cVi (rest := []) hC hR lvX8_230 ho2 (CX8_noCore e2) ⟨rfl, rfl⟩ rfl hl.1 rfl ⟨Nat.le_of_ble_eq_true rfl, Nat.le_of_ble_eq_true rfl⟩ (Nat.le_of_ble_eq_true rfl) dX8_queued_7 ⟨Nat.zero_le _, Nat.zero_le _⟩ (fun H locs hR => ?_)
  refine pw_ifne hC 47 dX8_queued_10 (by decide) (fun hc => ?_) (fun hc => ?_)
  · rw [if_neg hc] at hF
    exact BX8_queued_47 hC hR (lv_sub hl [] rfl) hF
  · rw [if_pos hc] at hF
    refine lv_aload_n hC.1 hC.2.1 dX8_queued_13 rfl (lv_at hl 0 rfl) ?_
    refine lv_iload_n hC.1 hC.2.1 dX8_queued_14 rfl (lv_at hl 2 rfl) ?_
    refine pw_iconst hC dX8_queued_15 ?_
    refine lv_aload_n hC.1 hC.2.1 dX8_queued_16 rfl (lv_at hl 0 rfl) ?_
    obtain ⟨x3, e3, hF⟩ := bnd hF
    refine pw_gfr hC hR e3 flX8_17 dX8_queued_17 ?_
    refine lv_iload_n hC.1 hC.2.1 dX8_queued_20 rfl (lv_at hl 1 rfl) ?_
    obtain ⟨x4, e4, hF⟩ := bnd hF
    refine pw_cSi (rest := [.ref (ad x3), .int (Int32.ofInt 0), .int (Int32.ofInt v2), .ref (ad v0)]) hC hR lsX8_41 (CX8_core e4) ⟨rfl, rfl⟩ rfl hl.1 rfl ⟨Nat.le_of_ble_eq_true rfl, Nat.le_of_ble_eq_true rfl⟩ (Nat.le_of_ble_eq_true rfl) dX8_queued_21 ⟨Nat.zero_le _, Nat.zero_le _⟩ (fun H locs hR => ?_)
    refine pw_iconst hC dX8_queued_24 ?_
    refine pw_iadd hC dX8_queued_25 ?_
    obtain ⟨x5, e5, hF⟩ := bnd hF
    refine pw_iald hC hR e5 dX8_queued_26 ?_
    refine pw_iconst hC dX8_queued_27 ?_
    refine pw_isub hC dX8_queued_28 ?_
    obtain ⟨x6, e6, hF⟩ := bnd hF
    refine pw_cSi (rest := [.ref (ad v0)]) hC hR lsX8_63 (CX8_in e6) ⟨rfl, rfl⟩ rfl hl.1 rfl ⟨Nat.le_of_ble_eq_true rfl, Nat.le_of_ble_eq_true rfl⟩ (Nat.le_of_ble_eq_true rfl) dX8_queued_29 ⟨Nat.zero_le _, Nat.zero_le _⟩ (fun H locs hR => ?_)
    refine pw_ifne hC 39 dX8_queued_32 (by decide) (fun hc => ?_) (fun hc => ?_)
    · rw [if_neg hc] at hF
      refine pw_iconst hC dX8_queued_39 ?_
      exact BX8_queued_40 hC hR (lv_sub hl [0, 1, 2] rfl) hF
    · rw [if_pos hc] at hF
      refine pw_iconst hC dX8_queued_35 ?_
      refine pw_goto hC 40 dX8_queued_36 (by decide) ?_
      exact BX8_queued_40 hC hR (lv_sub hl [0, 1, 2] rfl) hF
abbrev rmX8_running : Room := { frames := 2, cells := 0, slots := 0, locals := 43 }
def JX8_running_28 (h : PH) (s0 : Int) : Option (Int × PH) :=
  some (s0, h)
set_option maxHeartbeats 4000000 in
set_option maxRecDepth 100000 in
theorem BX8_running_28 {h : PH} {s0 : Int} (hC : Cx g p s m args meth c cX8_running 2 RX8 (some .int)) (hR : Rl g ad h s.heap H locs) (hl : lv_has ls 2 []) {q : Int × PH} (hF : JX8_running_28 h s0 = some q) : W p l e rmX8_running s m args below meth c H locs 0 0 (MQ below (QcN g ad q.2 (some (.int (Int32.ofInt q.1)))) args s 0 0 (gA g)) (F0 m 28 ls [.int (Int32.ofInt s0)]) := by
  unfold JX8_running_28 at hF
  cases hF
  exact pw_iret hC hR dX8_running_28
def FX8_running (h : PH) (v0 : Nat) (v1 : Int) : Option (Int × PH) :=
  (isO h 8 v0).bind fun _ =>
  (pfi h 8 v0 0 0).bind fun h1 =>
  (FX8_noCore h1 v0 v1).bind fun q2 =>
  if w32 q2.1 = 0 then (
    (gfr q2.2 8 v0 8).bind fun x3 =>
    (FX8_core q2.2 v1).bind fun x4 =>
    (ald 0 q2.2 x3 (x4 + 0)).bind fun x5 =>
    JX8_running_28 q2.2 x5
  ) else (
    JX8_running_28 q2.2 0
  )
theorem OX8_running {h : PH} {v0 : Nat} {v1 : Int} {q : Int × PH} (hF : FX8_running h v0 v1 = some q) : ∃ fs : List PV, h[v0]? = some (.inr (8, fs)) := by
  unfold FX8_running at hF
  obtain ⟨u0, e0, -⟩ := bnd hF
  exact isO_spec e0
set_option maxHeartbeats 4000000 in
set_option maxRecDepth 100000 in
theorem CX8_running {g : GP} {l : Launch} {ad : Nat → Nat} {h : PH} {v0 : Nat} {v1 : Int} {q : Int × PH} (hF : FX8_running h v0 v1 = some q) : CN g l yX8_running cX8_running 2 (some .int) rmX8_running ad h [.ref (ad v0), .int (Int32.ofInt v1)] (some (.int (Int32.ofInt q.1))) q.2 := by
  refine pw_met (by decide) (Nat.le_of_ble_eq_true rfl) ?_
  intro p e s m args below meth c ls hC hN hR hl
  have hl : lv_has ls 2 [(0, .ref (ad v0)), (1, .int (Int32.ofInt v1))] := hl
  unfold FX8_running at hF
  obtain ⟨u0, e0, hF⟩ := bnd hF
  refine lv_aload_n hC.1 hC.2.1 dX8_running_0 rfl (lv_at hl 0 rfl) ?_
  refine pw_iconst hC dX8_running_1 ?_
  obtain ⟨h1, e1, hF⟩ := bnd hF
  refine pw_pfi hC hR e1 fpX8_38 (Or.inl rfl) dX8_running_2 (fun H locs hR => ?_)
  refine lv_aload_n hC.1 hC.2.1 dX8_running_5 rfl (lv_at hl 0 rfl) ?_
  refine lv_iload_n hC.1 hC.2.1 dX8_running_6 rfl (lv_at hl 1 rfl) ?_
  obtain ⟨q2, e2, hF⟩ := bnd hF
  obtain ⟨fs2, ho2⟩ := OX8_noCore e2
  refine pw_cVi (rest := []) hC hR lvX8_230 ho2 (CX8_noCore e2) ⟨rfl, rfl⟩ rfl hl.1 rfl ⟨Nat.le_of_ble_eq_true rfl, Nat.le_of_ble_eq_true rfl⟩ (Nat.le_of_ble_eq_true rfl) dX8_running_7 ⟨Nat.zero_le _, Nat.zero_le _⟩ (fun H locs hR => ?_)
  refine pw_ifeq hC 17 dX8_running_10 (by decide) (fun hc => ?_) (fun hc => ?_)
  · rw [if_pos hc] at hF
    refine lv_aload_n hC.1 hC.2.1 dX8_running_17 rfl (lv_at hl 0 rfl) ?_
    obtain ⟨x3, e3, hF⟩ := bnd hF
    refine pw_gfr hC hR e3 flX8_17 dX8_running_18 ?_
    refine lv_iload_n hC.1 hC.2.1 dX8_running_21 rfl (lv_at hl 1 rfl) ?_
    obtain ⟨x4, e4, hF⟩ := bnd hF
    refine pw_cSi (rest := [.ref (ad x3)]) hC hR lsX8_41 (CX8_core e4) ⟨rfl, rfl⟩ rfl hl.1 rfl ⟨Nat.le_of_ble_eq_true rfl, Nat.le_of_ble_eq_true rfl⟩ (Nat.le_of_ble_eq_true rfl) dX8_running_22 ⟨Nat.zero_le _, Nat.zero_le _⟩ (fun H locs hR => ?_)
    refine pw_iconst hC dX8_running_25 ?_
    refine pw_iadd hC dX8_running_26 ?_
    obtain ⟨x5, e5, hF⟩ := bnd hF
    refine pw_iald hC hR e5 dX8_running_27 ?_
    exact BX8_running_28 hC hR (lv_sub hl [] rfl) hF
  · rw [if_neg hc] at hF
    refine pw_iconst hC dX8_running_13 ?_
    refine pw_goto hC 28 dX8_running_14 (by decide) ?_
    exact BX8_running_28 hC hR (lv_sub hl [] rfl) hF
abbrev rmX8_remainingOf : Room := { frames := 1, cells := 0, slots := 0, locals := 20 }
def JX8_remainingOf_40 (h : PH) (s0 : Int) : Option (Int) :=
  some s0
set_option maxHeartbeats 4000000 in
set_option maxRecDepth 100000 in
theorem BX8_remainingOf_40 {h : PH} {s0 : Int} (hC : Cx g p s m args meth c cX8_remainingOf 2 RX8 (some .int)) (hR : Rl g ad h s.heap H locs) (hl : lv_has ls 2 []) {q : Int} (hF : JX8_remainingOf_40 h s0 = some q) : W p l e rmX8_remainingOf s m args below meth c H locs 0 0 (MQ below (QcN g ad h (some (.int (Int32.ofInt q)))) args s 0 0 (gA g)) (F0 m 40 ls [.int (Int32.ofInt s0)]) := by
  unfold JX8_remainingOf_40 at hF
  cases hF
  exact pw_iret hC hR dX8_remainingOf_40
def FX8_remainingOf (h : PH) (v0 : Nat) (v1 : Int) : Option (Int) :=
  (isO h 8 v0).bind fun _ =>
  (gfr h 8 v0 8).bind fun x1 =>
  (FX8_core h v1).bind fun x2 =>
  (ald 0 h x1 (x2 + 0)).bind fun x3 =>
  if w32 x3 = w32 (-1) then (
    JX8_remainingOf_40 h 0
  ) else (
    (gfr h 8 v0 8).bind fun x4 =>
    (gfr h 8 v0 8).bind fun x5 =>
    (FX8_core h v1).bind fun x6 =>
    (ald 0 h x5 (x6 + 0)).bind fun x7 =>
    (FX8_task h x7).bind fun x8 =>
    (ald 0 h x4 (x8 + 5)).bind fun x9 =>
    JX8_remainingOf_40 h x9
  )
theorem OX8_remainingOf {h : PH} {v0 : Nat} {v1 : Int} {q : Int} (hF : FX8_remainingOf h v0 v1 = some q) : ∃ fs : List PV, h[v0]? = some (.inr (8, fs)) := by
  unfold FX8_remainingOf at hF
  obtain ⟨u0, e0, -⟩ := bnd hF
  exact isO_spec e0
set_option maxHeartbeats 4000000 in
set_option maxRecDepth 100000 in
theorem CX8_remainingOf {g : GP} {l : Launch} {ad : Nat → Nat} {h : PH} {v0 : Nat} {v1 : Int} {q : Int} (hF : FX8_remainingOf h v0 v1 = some q) : CN g l yX8_remainingOf cX8_remainingOf 2 (some .int) rmX8_remainingOf ad h [.ref (ad v0), .int (Int32.ofInt v1)] (some (.int (Int32.ofInt q))) h := by
  refine pw_met (by decide) (Nat.le_of_ble_eq_true rfl) ?_
  intro p e s m args below meth c ls hC hN hR hl
  have hl : lv_has ls 2 [(0, .ref (ad v0)), (1, .int (Int32.ofInt v1))] := hl
  unfold FX8_remainingOf at hF
  obtain ⟨u0, e0, hF⟩ := bnd hF
  refine lv_aload_n hC.1 hC.2.1 dX8_remainingOf_0 rfl (lv_at hl 0 rfl) ?_
  obtain ⟨x1, e1, hF⟩ := bnd hF
  refine pw_gfr hC hR e1 flX8_17 dX8_remainingOf_1 ?_
  refine lv_iload_n hC.1 hC.2.1 dX8_remainingOf_4 rfl (lv_at hl 1 rfl) ?_
  obtain ⟨x2, e2, hF⟩ := bnd hF
  refine pw_cSi (rest := [.ref (ad x1)]) hC hR lsX8_41 (CX8_core e2) ⟨rfl, rfl⟩ rfl hl.1 rfl ⟨Nat.le_of_ble_eq_true rfl, Nat.le_of_ble_eq_true rfl⟩ (Nat.le_of_ble_eq_true rfl) dX8_remainingOf_5 ⟨Nat.zero_le _, Nat.zero_le _⟩ (fun H locs hR => ?_)
  refine pw_iconst hC dX8_remainingOf_8 ?_
  refine pw_iadd hC dX8_remainingOf_9 ?_
  obtain ⟨x3, e3, hF⟩ := bnd hF
  refine pw_iald hC hR e3 dX8_remainingOf_10 ?_
  refine pw_iconst hC dX8_remainingOf_11 ?_
  refine pw_icmpne hC 19 dX8_remainingOf_12 (by decide) (fun hc => ?_) (fun hc => ?_)
  · rw [if_neg hc] at hF
    refine lv_aload_n hC.1 hC.2.1 dX8_remainingOf_19 rfl (lv_at hl 0 rfl) ?_
    obtain ⟨x4, e4, hF⟩ := bnd hF
    refine pw_gfr hC hR e4 flX8_17 dX8_remainingOf_20 ?_
    refine lv_aload_n hC.1 hC.2.1 dX8_remainingOf_23 rfl (lv_at hl 0 rfl) ?_
    obtain ⟨x5, e5, hF⟩ := bnd hF
    refine pw_gfr hC hR e5 flX8_17 dX8_remainingOf_24 ?_
    refine lv_iload_n hC.1 hC.2.1 dX8_remainingOf_27 rfl (lv_at hl 1 rfl) ?_
    obtain ⟨x6, e6, hF⟩ := bnd hF
    refine pw_cSi (rest := [.ref (ad x5), .ref (ad x4)]) hC hR lsX8_41 (CX8_core e6) ⟨rfl, rfl⟩ rfl hl.1 rfl ⟨Nat.le_of_ble_eq_true rfl, Nat.le_of_ble_eq_true rfl⟩ (Nat.le_of_ble_eq_true rfl) dX8_remainingOf_28 ⟨Nat.zero_le _, Nat.zero_le _⟩ (fun H locs hR => ?_)
    refine pw_iconst hC dX8_remainingOf_31 ?_
    refine pw_iadd hC dX8_remainingOf_32 ?_
    obtain ⟨x7, e7, hF⟩ := bnd hF
    refine pw_iald hC hR e7 dX8_remainingOf_33 ?_
    obtain ⟨x8, e8, hF⟩ := bnd hF
    refine pw_cSi (rest := [.ref (ad x4)]) hC hR lsX8_136 (CX8_task e8) ⟨rfl, rfl⟩ rfl hl.1 rfl ⟨Nat.le_of_ble_eq_true rfl, Nat.le_of_ble_eq_true rfl⟩ (Nat.le_of_ble_eq_true rfl) dX8_remainingOf_34 ⟨Nat.zero_le _, Nat.zero_le _⟩ (fun H locs hR => ?_)
    refine pw_iconst hC dX8_remainingOf_37 ?_
    refine pw_iadd hC dX8_remainingOf_38 ?_
    obtain ⟨x9, e9, hF⟩ := bnd hF
    refine pw_iald hC hR e9 dX8_remainingOf_39 ?_
    exact BX8_remainingOf_40 hC hR (lv_sub hl [] rfl) hF
  · rw [if_pos hc] at hF
    refine pw_iconst hC dX8_remainingOf_15 ?_
    refine pw_goto hC 40 dX8_remainingOf_16 (by decide) ?_
    exact BX8_remainingOf_40 hC hR (lv_sub hl [] rfl) hF
abbrev rmX8_remaining : Room := { frames := 2, cells := 0, slots := 0, locals := 43 }
def JX8_remaining_22 (h : PH) (s0 : Int) : Option (Int × PH) :=
  some (s0, h)
set_option maxHeartbeats 4000000 in
set_option maxRecDepth 100000 in
theorem BX8_remaining_22 {h : PH} {s0 : Int} (hC : Cx g p s m args meth c cX8_remaining 2 RX8 (some .int)) (hR : Rl g ad h s.heap H locs) (hl : lv_has ls 2 []) {q : Int × PH} (hF : JX8_remaining_22 h s0 = some q) : W p l e rmX8_remaining s m args below meth c H locs 0 0 (MQ below (QcN g ad q.2 (some (.int (Int32.ofInt q.1)))) args s 0 0 (gA g)) (F0 m 22 ls [.int (Int32.ofInt s0)]) := by
  unfold JX8_remaining_22 at hF
  cases hF
  exact pw_iret hC hR dX8_remaining_22
def FX8_remaining (h : PH) (v0 : Nat) (v1 : Int) : Option (Int × PH) :=
  (isO h 8 v0).bind fun _ =>
  (pfi h 8 v0 0 0).bind fun h1 =>
  (FX8_noCore h1 v0 v1).bind fun q2 =>
  if w32 q2.1 = 0 then (
    (FX8_remainingOf q2.2 v0 v1).bind fun x3 =>
    JX8_remaining_22 q2.2 x3
  ) else (
    JX8_remaining_22 q2.2 0
  )
theorem OX8_remaining {h : PH} {v0 : Nat} {v1 : Int} {q : Int × PH} (hF : FX8_remaining h v0 v1 = some q) : ∃ fs : List PV, h[v0]? = some (.inr (8, fs)) := by
  unfold FX8_remaining at hF
  obtain ⟨u0, e0, -⟩ := bnd hF
  exact isO_spec e0
set_option maxHeartbeats 4000000 in
set_option maxRecDepth 100000 in
theorem CX8_remaining {g : GP} {l : Launch} {ad : Nat → Nat} {h : PH} {v0 : Nat} {v1 : Int} {q : Int × PH} (hF : FX8_remaining h v0 v1 = some q) : CN g l yX8_remaining cX8_remaining 2 (some .int) rmX8_remaining ad h [.ref (ad v0), .int (Int32.ofInt v1)] (some (.int (Int32.ofInt q.1))) q.2 := by
  refine pw_met (by decide) (Nat.le_of_ble_eq_true rfl) ?_
  intro p e s m args below meth c ls hC hN hR hl
  have hl : lv_has ls 2 [(0, .ref (ad v0)), (1, .int (Int32.ofInt v1))] := hl
  unfold FX8_remaining at hF
  obtain ⟨u0, e0, hF⟩ := bnd hF
  refine lv_aload_n hC.1 hC.2.1 dX8_remaining_0 rfl (lv_at hl 0 rfl) ?_
  refine pw_iconst hC dX8_remaining_1 ?_
  obtain ⟨h1, e1, hF⟩ := bnd hF
  refine pw_pfi hC hR e1 fpX8_38 (Or.inl rfl) dX8_remaining_2 (fun H locs hR => ?_)
  refine lv_aload_n hC.1 hC.2.1 dX8_remaining_5 rfl (lv_at hl 0 rfl) ?_
  refine lv_iload_n hC.1 hC.2.1 dX8_remaining_6 rfl (lv_at hl 1 rfl) ?_
  obtain ⟨q2, e2, hF⟩ := bnd hF
  obtain ⟨fs2, ho2⟩ := OX8_noCore e2
  refine pw_cVi (rest := []) hC hR lvX8_230 ho2 (CX8_noCore e2) ⟨rfl, rfl⟩ rfl hl.1 rfl ⟨Nat.le_of_ble_eq_true rfl, Nat.le_of_ble_eq_true rfl⟩ (Nat.le_of_ble_eq_true rfl) dX8_remaining_7 ⟨Nat.zero_le _, Nat.zero_le _⟩ (fun H locs hR => ?_)
  refine pw_ifeq hC 17 dX8_remaining_10 (by decide) (fun hc => ?_) (fun hc => ?_)
  · rw [if_pos hc] at hF
    refine lv_aload_n hC.1 hC.2.1 dX8_remaining_17 rfl (lv_at hl 0 rfl) ?_
    refine lv_iload_n hC.1 hC.2.1 dX8_remaining_18 rfl (lv_at hl 1 rfl) ?_
    obtain ⟨x3, e3, hF⟩ := bnd hF
    obtain ⟨fs3, ho3⟩ := OX8_remainingOf e3
    refine pw_cVi (rest := []) hC hR lvX8_233 ho3 (CX8_remainingOf e3) ⟨rfl, rfl⟩ rfl hl.1 rfl ⟨Nat.le_of_ble_eq_true rfl, Nat.le_of_ble_eq_true rfl⟩ (Nat.le_of_ble_eq_true rfl) dX8_remaining_19 ⟨Nat.zero_le _, Nat.zero_le _⟩ (fun H locs hR => ?_)
    exact BX8_remaining_22 hC hR (lv_sub hl [] rfl) hF
  · rw [if_neg hc] at hF
    refine pw_iconst hC dX8_remaining_13 ?_
    refine pw_goto hC 22 dX8_remaining_14 (by decide) ?_
    exact BX8_remaining_22 hC hR (lv_sub hl [] rfl) hF
abbrev rmX8_busy : Room := { frames := 2, cells := 0, slots := 0, locals := 43 }
def JX8_busy_28 (h : PH) (s0 : Int) : Option (Int × PH) :=
  some (s0, h)
set_option maxHeartbeats 4000000 in
set_option maxRecDepth 100000 in
theorem BX8_busy_28 {h : PH} {s0 : Int} (hC : Cx g p s m args meth c cX8_busy 2 RX8 (some .int)) (hR : Rl g ad h s.heap H locs) (hl : lv_has ls 2 []) {q : Int × PH} (hF : JX8_busy_28 h s0 = some q) : W p l e rmX8_busy s m args below meth c H locs 0 0 (MQ below (QcN g ad q.2 (some (.int (Int32.ofInt q.1)))) args s 0 0 (gA g)) (F0 m 28 ls [.int (Int32.ofInt s0)]) := by
  unfold JX8_busy_28 at hF
  cases hF
  exact pw_iret hC hR dX8_busy_28
def FX8_busy (h : PH) (v0 : Nat) (v1 : Int) : Option (Int × PH) :=
  (isO h 8 v0).bind fun _ =>
  (pfi h 8 v0 0 0).bind fun h1 =>
  (FX8_noCore h1 v0 v1).bind fun q2 =>
  if w32 q2.1 = 0 then (
    (gfr q2.2 8 v0 8).bind fun x3 =>
    (FX8_core q2.2 v1).bind fun x4 =>
    (ald 0 q2.2 x3 (x4 + 1)).bind fun x5 =>
    JX8_busy_28 q2.2 x5
  ) else (
    JX8_busy_28 q2.2 0
  )
theorem OX8_busy {h : PH} {v0 : Nat} {v1 : Int} {q : Int × PH} (hF : FX8_busy h v0 v1 = some q) : ∃ fs : List PV, h[v0]? = some (.inr (8, fs)) := by
  unfold FX8_busy at hF
  obtain ⟨u0, e0, -⟩ := bnd hF
  exact isO_spec e0
set_option maxHeartbeats 4000000 in
set_option maxRecDepth 100000 in
theorem CX8_busy {g : GP} {l : Launch} {ad : Nat → Nat} {h : PH} {v0 : Nat} {v1 : Int} {q : Int × PH} (hF : FX8_busy h v0 v1 = some q) : CN g l yX8_busy cX8_busy 2 (some .int) rmX8_busy ad h [.ref (ad v0), .int (Int32.ofInt v1)] (some (.int (Int32.ofInt q.1))) q.2 := by
  refine pw_met (by decide) (Nat.le_of_ble_eq_true rfl) ?_
  intro p e s m args below meth c ls hC hN hR hl
  have hl : lv_has ls 2 [(0, .ref (ad v0)), (1, .int (Int32.ofInt v1))] := hl
  unfold FX8_busy at hF
  obtain ⟨u0, e0, hF⟩ := bnd hF
  refine lv_aload_n hC.1 hC.2.1 dX8_busy_0 rfl (lv_at hl 0 rfl) ?_
  refine pw_iconst hC dX8_busy_1 ?_
  obtain ⟨h1, e1, hF⟩ := bnd hF
  refine pw_pfi hC hR e1 fpX8_38 (Or.inl rfl) dX8_busy_2 (fun H locs hR => ?_)
  refine lv_aload_n hC.1 hC.2.1 dX8_busy_5 rfl (lv_at hl 0 rfl) ?_
  refine lv_iload_n hC.1 hC.2.1 dX8_busy_6 rfl (lv_at hl 1 rfl) ?_
  obtain ⟨q2, e2, hF⟩ := bnd hF
  obtain ⟨fs2, ho2⟩ := OX8_noCore e2
  refine pw_cVi (rest := []) hC hR lvX8_230 ho2 (CX8_noCore e2) ⟨rfl, rfl⟩ rfl hl.1 rfl ⟨Nat.le_of_ble_eq_true rfl, Nat.le_of_ble_eq_true rfl⟩ (Nat.le_of_ble_eq_true rfl) dX8_busy_7 ⟨Nat.zero_le _, Nat.zero_le _⟩ (fun H locs hR => ?_)
  refine pw_ifeq hC 17 dX8_busy_10 (by decide) (fun hc => ?_) (fun hc => ?_)
  · rw [if_pos hc] at hF
    refine lv_aload_n hC.1 hC.2.1 dX8_busy_17 rfl (lv_at hl 0 rfl) ?_
    obtain ⟨x3, e3, hF⟩ := bnd hF
    refine pw_gfr hC hR e3 flX8_17 dX8_busy_18 ?_
    refine lv_iload_n hC.1 hC.2.1 dX8_busy_21 rfl (lv_at hl 1 rfl) ?_
    obtain ⟨x4, e4, hF⟩ := bnd hF
    refine pw_cSi (rest := [.ref (ad x3)]) hC hR lsX8_41 (CX8_core e4) ⟨rfl, rfl⟩ rfl hl.1 rfl ⟨Nat.le_of_ble_eq_true rfl, Nat.le_of_ble_eq_true rfl⟩ (Nat.le_of_ble_eq_true rfl) dX8_busy_22 ⟨Nat.zero_le _, Nat.zero_le _⟩ (fun H locs hR => ?_)
    refine pw_iconst hC dX8_busy_25 ?_
    refine pw_iadd hC dX8_busy_26 ?_
    obtain ⟨x5, e5, hF⟩ := bnd hF
    refine pw_iald hC hR e5 dX8_busy_27 ?_
    exact BX8_busy_28 hC hR (lv_sub hl [] rfl) hF
  · rw [if_neg hc] at hF
    refine pw_iconst hC dX8_busy_13 ?_
    refine pw_goto hC 28 dX8_busy_14 (by decide) ?_
    exact BX8_busy_28 hC hR (lv_sub hl [] rfl) hF
end
