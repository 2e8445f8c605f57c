abbrev rmL_load : Room := { frames := 56, cells := 4, slots := 919, locals := 1990 }
def FL_load (h : PH) (v0 : Nat) (v1 : Int) (v2 : Nat) : Option (Int × PH) :=
  (gdL h h [v0, v2]).bind fun _ =>
  (FX7_load h v0 v1).bind fun q1 =>
  if q1.1 = 0 then ((ast 3 q1.2.2 v2 0 (w32 q1.2.1)).bind fun h2 => some (0, h2))
  else if q1.1 = 2 then some (1, q1.2.2)
  else none
set_option maxHeartbeats 4000000 in
set_option maxRecDepth 100000 in
theorem CL_load {g : GP} {l : Launch} (hst : l.stackTraces = false) {ad : Nat → Nat} {h : PH} {v0 : Nat} {v1 : Int} {v2 : Nat} {q : Int × PH} (hF : FL_load h v0 v1 v2 = some q) : CWA g l yL_load cL_load 4 (some .int) [(0, 9, 12, 13)] rmL_load ad h [.ref (ad v0), .int (Int32.ofInt v1), .ref (ad v2)] (some (.int (Int32.ofInt q.1))) q.2 := by
  refine pw_metW (by decide) (Nat.le_of_ble_eq_true rfl) ?_
  intro p e s m args below meth c ls hC htab hR hl
  have hl : lv_has ls 4 [(0, .ref (ad v0)), (1, .int (Int32.ofInt v1)), (2, .ref (ad v2))] := hl
  unfold FL_load at hF
  obtain ⟨u0, eu0, hF⟩ := bnd hF
  have hg := gdL_spec eu0
  obtain ⟨q1, e1, hF⟩ := bnd hF
  obtain ⟨fs1, ho1⟩ := OX7_load e1
  refine lv_aload_n hC.1 hC.2.1 dL_load_0 rfl (lv_at hl 2 rfl) ?_
  refine pw_iconst hC dL_load_1 ?_
  refine lv_aload_n hC.1 hC.2.1 dL_load_2 rfl (lv_at hl 0 rfl) ?_
  refine lv_iload_n hC.1 hC.2.1 dL_load_3 rfl (lv_at hl 1 rfl) ?_
  refine pw_cVTAi (rest := [.int (Int32.ofInt 0), .ref (ad v2)]) hC hR lvL_7 ho1 (CX7_load hst e1) rfl hl.1 rfl ⟨(Nat.le_of_ble_eq_true rfl), (Nat.le_of_ble_eq_true rfl)⟩ (Nat.le_of_ble_eq_true rfl) dL_load_4 ⟨(Nat.le_of_ble_eq_true rfl), (Nat.le_of_ble_eq_true rfl)⟩ (fun hk ad1 H locs hag hR => ?_) (fun hk ad1 H locs q9 ce hag hR h1 h2 h3 => ?_)
  · rw [if_pos hk] at hF
    rw [← hag v2 (hg.2 _ (by simp))]
    refine pw_i2l hC dL_load_7 ?_
    obtain ⟨h2, e2, hF⟩ := bnd hF
    refine pw_last hC hR e2 dL_load_8 (fun H locs hR => ?_)
    refine pw_goto hC 15 dL_load_9 (by decide) ?_
    refine pw_iconst hC dL_load_15 ?_
    cases hF
    exact pw_iretMA hC hag hR (Nat.le_of_ble_eq_true rfl) (Nat.le_of_ble_eq_true rfl) dL_load_16
  · rw [if_neg hk] at hF
    by_cases k0 : q1.1 = 2
    · rw [if_pos k0] at hF
      rw [k0] at h3
      refine vx_catch hC.2.2.2.1 [] ⟨0, 9, 12, 13⟩ [] (htab.trans rfl) (fun z hz => nomatch hz) (by decide) (by decide) (hC.2.2.2.2.1 _ clL_13) (va_Nw.use rfl hC.stA.1.1) h1 h2 h3 ?_
      refine lv_astore_n (lv' := [(3, .ref q9), (0, .ref (ad v0)), (1, .int (Int32.ofInt v1)), (2, .ref (ad v2))]) hC.1 hC.2.1 dL_load_12 rfl hl (by decide) rfl (fun ls hl => ?_)
      refine pw_iconst hC dL_load_13 ?_
      cases hF
      exact pw_iretMA hC hag hR (Nat.le_of_ble_eq_true rfl) (Nat.le_of_ble_eq_true rfl) dL_load_14
    rw [if_neg k0] at hF
    cases hF
abbrev rmL_state : Room := { frames := 10, cells := 2, slots := 12, locals := 192 }
def FL_state (h : PH) (v0 : Nat) (v1 : Int) (v2 : Nat) : Option (Int × PH) :=
  (FX7_state h v0 v1).bind fun q1 =>
  if q1.1 = 0 then ((ast 3 h v2 0 (w32 q1.2)).bind fun h2 => some (0, h2))
  else if q1.1 = 1 then some (1, h)
  else none
set_option maxHeartbeats 4000000 in
set_option maxRecDepth 100000 in
theorem CL_state {g : GP} {l : Launch} (hst : l.stackTraces = false) {ad : Nat → Nat} {h : PH} {v0 : Nat} {v1 : Int} {v2 : Nat} {q : Int × PH} (hF : FL_state h v0 v1 v2 = some q) : CW g l yL_state cL_state 4 (some .int) [(0, 9, 12, 18)] rmL_state ad h [.ref (ad v0), .int (Int32.ofInt v1), .ref (ad v2)] (some (.int (Int32.ofInt q.1))) q.2 := by
  refine pw_metW (by decide) (Nat.le_of_ble_eq_true rfl) ?_
  intro p e s m args below meth c ls hC htab hR hl
  have hl : lv_has ls 4 [(0, .ref (ad v0)), (1, .int (Int32.ofInt v1)), (2, .ref (ad v2))] := hl
  unfold FL_state at hF
  obtain ⟨q1, e1, hF⟩ := bnd hF
  obtain ⟨fs1, ho1⟩ := OX7_state e1
  refine lv_aload_n hC.1 hC.2.1 dL_state_0 rfl (lv_at hl 2 rfl) ?_
  refine pw_iconst hC dL_state_1 ?_
  refine lv_aload_n hC.1 hC.2.1 dL_state_2 rfl (lv_at hl 0 rfl) ?_
  refine lv_iload_n hC.1 hC.2.1 dL_state_3 rfl (lv_at hl 1 rfl) ?_
  refine pw_cVTi (rest := [.int (Int32.ofInt 0), .ref (ad v2)]) hC hR lvL_15 ho1 (CX7_state hst e1) rfl hl.1 rfl ⟨(Nat.le_of_ble_eq_true rfl), (Nat.le_of_ble_eq_true rfl)⟩ (Nat.le_of_ble_eq_true rfl) dL_state_4 ⟨(Nat.le_of_ble_eq_true rfl), (Nat.le_of_ble_eq_true rfl)⟩ (fun hk H locs hR => ?_) (fun hk H locs q9 ce hR h1 h2 h3 => ?_)
  · rw [if_pos hk] at hF
    refine pw_i2l hC dL_state_7 ?_
    obtain ⟨h2, e2, hF⟩ := bnd hF
    refine pw_last hC hR e2 dL_state_8 (fun H locs hR => ?_)
    refine pw_goto hC 15 dL_state_9 (by decide) ?_
    refine pw_iconst hC dL_state_15 ?_
    cases hF
    exact pw_iretM hC hR (Nat.le_of_ble_eq_true rfl) (Nat.le_of_ble_eq_true rfl) dL_state_16
  · rw [if_neg hk] at hF
    by_cases k0 : q1.1 = 1
    · rw [if_pos k0] at hF
      rw [k0] at h3
      refine vx_catch hC.2.2.2.1 [] ⟨0, 9, 12, 18⟩ [] (htab.trans rfl) (fun z hz => nomatch hz) (by decide) (by decide) (hC.2.2.2.2.1 _ clL_18) (va_Nw.use rfl hC.stA.1.2.2) h1 h2 h3 ?_
      refine lv_astore_n (lv' := [(3, .ref q9), (0, .ref (ad v0)), (1, .int (Int32.ofInt v1)), (2, .ref (ad v2))]) hC.1 hC.2.1 dL_state_12 rfl hl (by decide) rfl (fun ls hl => ?_)
      refine pw_iconst hC dL_state_13 ?_
      cases hF
      exact pw_iretM hC hR (Nat.le_of_ble_eq_true rfl) (Nat.le_of_ble_eq_true rfl) dL_state_14
    rw [if_neg k0] at hF
    cases hF
abbrev rmL_counter : Room := { frames := 10, cells := 2, slots := 12, locals := 192 }
def FL_counter (h : PH) (v0 : Nat) (v1 : Int) (v2 : Nat) : Option (Int × PH) :=
  (FX7_counter h v0 v1).bind fun q1 =>
  if q1.1 = 0 then ((ast 3 h v2 0 (w32 q1.2)).bind fun h2 => some (0, h2))
  else if q1.1 = 1 then some (1, h)
  else none
set_option maxHeartbeats 4000000 in
set_option maxRecDepth 100000 in
theorem CL_counter {g : GP} {l : Launch} (hst : l.stackTraces = false) {ad : Nat → Nat} {h : PH} {v0 : Nat} {v1 : Int} {v2 : Nat} {q : Int × PH} (hF : FL_counter h v0 v1 v2 = some q) : CW g l yL_counter cL_counter 4 (some .int) [(0, 9, 12, 18)] rmL_counter ad h [.ref (ad v0), .int (Int32.ofInt v1), .ref (ad v2)] (some (.int (Int32.ofInt q.1))) q.2 := by
  refine pw_metW (by decide) (Nat.le_of_ble_eq_true rfl) ?_
  intro p e s m args below meth c ls hC htab hR hl
  have hl : lv_has ls 4 [(0, .ref (ad v0)), (1, .int (Int32.ofInt v1)), (2, .ref (ad v2))] := hl
  unfold FL_counter at hF
  obtain ⟨q1, e1, hF⟩ := bnd hF
  obtain ⟨fs1, ho1⟩ := OX7_counter e1
  refine lv_aload_n hC.1 hC.2.1 dL_counter_0 rfl (lv_at hl 2 rfl) ?_
  refine pw_iconst hC dL_counter_1 ?_
  refine lv_aload_n hC.1 hC.2.1 dL_counter_2 rfl (lv_at hl 0 rfl) ?_
  refine lv_iload_n hC.1 hC.2.1 dL_counter_3 rfl (lv_at hl 1 rfl) ?_
  refine pw_cVTi (rest := [.int (Int32.ofInt 0), .ref (ad v2)]) hC hR lvL_20 ho1 (CX7_counter hst e1) rfl hl.1 rfl ⟨(Nat.le_of_ble_eq_true rfl), (Nat.le_of_ble_eq_true rfl)⟩ (Nat.le_of_ble_eq_true rfl) dL_counter_4 ⟨(Nat.le_of_ble_eq_true rfl), (Nat.le_of_ble_eq_true rfl)⟩ (fun hk H locs hR => ?_) (fun hk H locs q9 ce hR h1 h2 h3 => ?_)
  · rw [if_pos hk] at hF
    refine pw_i2l hC dL_counter_7 ?_
    obtain ⟨h2, e2, hF⟩ := bnd hF
    refine pw_last hC hR e2 dL_counter_8 (fun H locs hR => ?_)
    refine pw_goto hC 15 dL_counter_9 (by decide) ?_
    refine pw_iconst hC dL_counter_15 ?_
    cases hF
    exact pw_iretM hC hR (Nat.le_of_ble_eq_true rfl) (Nat.le_of_ble_eq_true rfl) dL_counter_16
  · rw [if_neg hk] at hF
    by_cases k0 : q1.1 = 1
    · rw [if_pos k0] at hF
      rw [k0] at h3
      refine vx_catch hC.2.2.2.1 [] ⟨0, 9, 12, 18⟩ [] (htab.trans rfl) (fun z hz => nomatch hz) (by decide) (by decide) (hC.2.2.2.2.1 _ clL_18) (va_Nw.use rfl hC.stA.1.2.2) h1 h2 h3 ?_
      refine lv_astore_n (lv' := [(3, .ref q9), (0, .ref (ad v0)), (1, .int (Int32.ofInt v1)), (2, .ref (ad v2))]) hC.1 hC.2.1 dL_counter_12 rfl hl (by decide) rfl (fun ls hl => ?_)
      refine pw_iconst hC dL_counter_13 ?_
      cases hF
      exact pw_iretM hC hR (Nat.le_of_ble_eq_true rfl) (Nat.le_of_ble_eq_true rfl) dL_counter_14
    rw [if_neg k0] at hF
    cases hF
abbrev rmL_priority : Room := { frames := 10, cells := 2, slots := 12, locals := 192 }
def FL_priority (h : PH) (v0 : Nat) (v1 : Int) (v2 : Nat) : Option (Int × PH) :=
  (FX7_priority h v0 v1).bind fun q1 =>
  if q1.1 = 0 then ((ast 3 h v2 0 (w32 q1.2)).bind fun h2 => some (0, h2))
  else if q1.1 = 1 then some (1, h)
  else none
set_option maxHeartbeats 4000000 in
set_option maxRecDepth 100000 in
theorem CL_priority {g : GP} {l : Launch} (hst : l.stackTraces = false) {ad : Nat → Nat} {h : PH} {v0 : Nat} {v1 : Int} {v2 : Nat} {q : Int × PH} (hF : FL_priority h v0 v1 v2 = some q) : CW g l yL_priority cL_priority 4 (some .int) [(0, 9, 12, 18)] rmL_priority ad h [.ref (ad v0), .int (Int32.ofInt v1), .ref (ad v2)] (some (.int (Int32.ofInt q.1))) q.2 := by
  refine pw_metW (by decide) (Nat.le_of_ble_eq_true rfl) ?_
  intro p e s m args below meth c ls hC htab hR hl
  have hl : lv_has ls 4 [(0, .ref (ad v0)), (1, .int (Int32.ofInt v1)), (2, .ref (ad v2))] := hl
  unfold FL_priority at hF
  obtain ⟨q1, e1, hF⟩ := bnd hF
  obtain ⟨fs1, ho1⟩ := OX7_priority e1
  refine lv_aload_n hC.1 hC.2.1 dL_priority_0 rfl (lv_at hl 2 rfl) ?_
  refine pw_iconst hC dL_priority_1 ?_
  refine lv_aload_n hC.1 hC.2.1 dL_priority_2 rfl (lv_at hl 0 rfl) ?_
  refine lv_iload_n hC.1 hC.2.1 dL_priority_3 rfl (lv_at hl 1 rfl) ?_
  refine pw_cVTi (rest := [.int (Int32.ofInt 0), .ref (ad v2)]) hC hR lvL_23 ho1 (CX7_priority hst e1) rfl hl.1 rfl ⟨(Nat.le_of_ble_eq_true rfl), (Nat.le_of_ble_eq_true rfl)⟩ (Nat.le_of_ble_eq_true rfl) dL_priority_4 ⟨(Nat.le_of_ble_eq_true rfl), (Nat.le_of_ble_eq_true rfl)⟩ (fun hk H locs hR => ?_) (fun hk H locs q9 ce hR h1 h2 h3 => ?_)
  · rw [if_pos hk] at hF
    refine pw_i2l hC dL_priority_7 ?_
    obtain ⟨h2, e2, hF⟩ := bnd hF
    refine pw_last hC hR e2 dL_priority_8 (fun H locs hR => ?_)
    refine pw_goto hC 15 dL_priority_9 (by decide) ?_
    refine pw_iconst hC dL_priority_15 ?_
    cases hF
    exact pw_iretM hC hR (Nat.le_of_ble_eq_true rfl) (Nat.le_of_ble_eq_true rfl) dL_priority_16
  · rw [if_neg hk] at hF
    by_cases k0 : q1.1 = 1
    · rw [if_pos k0] at hF
      rw [k0] at h3
      refine vx_catch hC.2.2.2.1 [] ⟨0, 9, 12, 18⟩ [] (htab.trans rfl) (fun z hz => nomatch hz) (by decide) (by decide) (hC.2.2.2.2.1 _ clL_18) (va_Nw.use rfl hC.stA.1.2.2) h1 h2 h3 ?_
      refine lv_astore_n (lv' := [(3, .ref q9), (0, .ref (ad v0)), (1, .int (Int32.ofInt v1)), (2, .ref (ad v2))]) hC.1 hC.2.1 dL_priority_12 rfl hl (by decide) rfl (fun ls hl => ?_)
      refine pw_iconst hC dL_priority_13 ?_
      cases hF
      exact pw_iretM hC hR (Nat.le_of_ble_eq_true rfl) (Nat.le_of_ble_eq_true rfl) dL_priority_14
    rw [if_neg k0] at hF
    cases hF
abbrev rmL_coreOf : Room := { frames := 10, cells := 2, slots := 12, locals := 192 }
def FL_coreOf (h : PH) (v0 : Nat) (v1 : Int) (v2 : Nat) : Option (Int × PH) :=
  (FX7_coreOf h v0 v1).bind fun q1 =>
  if q1.1 = 0 then ((ast 3 h v2 0 (w32 q1.2)).bind fun h2 => some (0, h2))
  else if q1.1 = 1 then some (1, h)
  else none
set_option maxHeartbeats 4000000 in
set_option maxRecDepth 100000 in
theorem CL_coreOf {g : GP} {l : Launch} (hst : l.stackTraces = false) {ad : Nat → Nat} {h : PH} {v0 : Nat} {v1 : Int} {v2 : Nat} {q : Int × PH} (hF : FL_coreOf h v0 v1 v2 = some q) : CW g l yL_coreOf cL_coreOf 4 (some .int) [(0, 9, 12, 18)] rmL_coreOf ad h [.ref (ad v0), .int (Int32.ofInt v1), .ref (ad v2)] (some (.int (Int32.ofInt q.1))) q.2 := by
  refine pw_metW (by decide) (Nat.le_of_ble_eq_true rfl) ?_
  intro p e s m args below meth c ls hC htab hR hl
  have hl : lv_has ls 4 [(0, .ref (ad v0)), (1, .int (Int32.ofInt v1)), (2, .ref (ad v2))] := hl
  unfold FL_coreOf at hF
  obtain ⟨q1, e1, hF⟩ := bnd hF
  obtain ⟨fs1, ho1⟩ := OX7_coreOf e1
  refine lv_aload_n hC.1 hC.2.1 dL_coreOf_0 rfl (lv_at hl 2 rfl) ?_
  refine pw_iconst hC dL_coreOf_1 ?_
  refine lv_aload_n hC.1 hC.2.1 dL_coreOf_2 rfl (lv_at hl 0 rfl) ?_
  refine lv_iload_n hC.1 hC.2.1 dL_coreOf_3 rfl (lv_at hl 1 rfl) ?_
  refine pw_cVTi (rest := [.int (Int32.ofInt 0), .ref (ad v2)]) hC hR lvL_26 ho1 (CX7_coreOf hst e1) rfl hl.1 rfl ⟨(Nat.le_of_ble_eq_true rfl), (Nat.le_of_ble_eq_true rfl)⟩ (Nat.le_of_ble_eq_true rfl) dL_coreOf_4 ⟨(Nat.le_of_ble_eq_true rfl), (Nat.le_of_ble_eq_true rfl)⟩ (fun hk H locs hR => ?_) (fun hk H locs q9 ce hR h1 h2 h3 => ?_)
  · rw [if_pos hk] at hF
    refine pw_i2l hC dL_coreOf_7 ?_
    obtain ⟨h2, e2, hF⟩ := bnd hF
    refine pw_last hC hR e2 dL_coreOf_8 (fun H locs hR => ?_)
    refine pw_goto hC 15 dL_coreOf_9 (by decide) ?_
    refine pw_iconst hC dL_coreOf_15 ?_
    cases hF
    exact pw_iretM hC hR (Nat.le_of_ble_eq_true rfl) (Nat.le_of_ble_eq_true rfl) dL_coreOf_16
  · rw [if_neg hk] at hF
    by_cases k0 : q1.1 = 1
    · rw [if_pos k0] at hF
      rw [k0] at h3
      refine vx_catch hC.2.2.2.1 [] ⟨0, 9, 12, 18⟩ [] (htab.trans rfl) (fun z hz => nomatch hz) (by decide) (by decide) (hC.2.2.2.2.1 _ clL_18) (va_Nw.use rfl hC.stA.1.2.2) h1 h2 h3 ?_
      refine lv_astore_n (lv' := [(3, .ref q9), (0, .ref (ad v0)), (1, .int (Int32.ofInt v1)), (2, .ref (ad v2))]) hC.1 hC.2.1 dL_coreOf_12 rfl hl (by decide) rfl (fun ls hl => ?_)
      refine pw_iconst hC dL_coreOf_13 ?_
      cases hF
      exact pw_iretM hC hR (Nat.le_of_ble_eq_true rfl) (Nat.le_of_ble_eq_true rfl) dL_coreOf_14
    rw [if_neg k0] at hF
    cases hF
abbrev rmL_doneAt : Room := { frames := 10, cells := 2, slots := 12, locals := 192 }
def FL_doneAt (h : PH) (v0 : Nat) (v1 : Int) (v2 : Nat) : Option (Int × PH) :=
  (FX7_doneAt h v0 v1).bind fun q1 =>
  if q1.1 = 0 then ((ast 3 h v2 0 (w32 q1.2)).bind fun h2 => some (0, h2))
  else if q1.1 = 1 then some (1, h)
  else none
set_option maxHeartbeats 4000000 in
set_option maxRecDepth 100000 in
theorem CL_doneAt {g : GP} {l : Launch} (hst : l.stackTraces = false) {ad : Nat → Nat} {h : PH} {v0 : Nat} {v1 : Int} {v2 : Nat} {q : Int × PH} (hF : FL_doneAt h v0 v1 v2 = some q) : CW g l yL_doneAt cL_doneAt 4 (some .int) [(0, 9, 12, 18)] rmL_doneAt ad h [.ref (ad v0), .int (Int32.ofInt v1), .ref (ad v2)] (some (.int (Int32.ofInt q.1))) q.2 := by
  refine pw_metW (by decide) (Nat.le_of_ble_eq_true rfl) ?_
  intro p e s m args below meth c ls hC htab hR hl
  have hl : lv_has ls 4 [(0, .ref (ad v0)), (1, .int (Int32.ofInt v1)), (2, .ref (ad v2))] := hl
  unfold FL_doneAt at hF
  obtain ⟨q1, e1, hF⟩ := bnd hF
  obtain ⟨fs1, ho1⟩ := OX7_doneAt e1
  refine lv_aload_n hC.1 hC.2.1 dL_doneAt_0 rfl (lv_at hl 2 rfl) ?_
  refine pw_iconst hC dL_doneAt_1 ?_
  refine lv_aload_n hC.1 hC.2.1 dL_doneAt_2 rfl (lv_at hl 0 rfl) ?_
  refine lv_iload_n hC.1 hC.2.1 dL_doneAt_3 rfl (lv_at hl 1 rfl) ?_
  refine pw_cVTi (rest := [.int (Int32.ofInt 0), .ref (ad v2)]) hC hR lvL_29 ho1 (CX7_doneAt hst e1) rfl hl.1 rfl ⟨(Nat.le_of_ble_eq_true rfl), (Nat.le_of_ble_eq_true rfl)⟩ (Nat.le_of_ble_eq_true rfl) dL_doneAt_4 ⟨(Nat.le_of_ble_eq_true rfl), (Nat.le_of_ble_eq_true rfl)⟩ (fun hk H locs hR => ?_) (fun hk H locs q9 ce hR h1 h2 h3 => ?_)
  · rw [if_pos hk] at hF
    refine pw_i2l hC dL_doneAt_7 ?_
    obtain ⟨h2, e2, hF⟩ := bnd hF
    refine pw_last hC hR e2 dL_doneAt_8 (fun H locs hR => ?_)
    refine pw_goto hC 15 dL_doneAt_9 (by decide) ?_
    refine pw_iconst hC dL_doneAt_15 ?_
    cases hF
    exact pw_iretM hC hR (Nat.le_of_ble_eq_true rfl) (Nat.le_of_ble_eq_true rfl) dL_doneAt_16
  · rw [if_neg hk] at hF
    by_cases k0 : q1.1 = 1
    · rw [if_pos k0] at hF
      rw [k0] at h3
      refine vx_catch hC.2.2.2.1 [] ⟨0, 9, 12, 18⟩ [] (htab.trans rfl) (fun z hz => nomatch hz) (by decide) (by decide) (hC.2.2.2.2.1 _ clL_18) (va_Nw.use rfl hC.stA.1.2.2) h1 h2 h3 ?_
      refine lv_astore_n (lv' := [(3, .ref q9), (0, .ref (ad v0)), (1, .int (Int32.ofInt v1)), (2, .ref (ad v2))]) hC.1 hC.2.1 dL_doneAt_12 rfl hl (by decide) rfl (fun ls hl => ?_)
      refine pw_iconst hC dL_doneAt_13 ?_
      cases hF
      exact pw_iretM hC hR (Nat.le_of_ble_eq_true rfl) (Nat.le_of_ble_eq_true rfl) dL_doneAt_14
    rw [if_neg k0] at hF
    cases hF
abbrev rmL_isOpen : Room := { frames := 9, cells := 1, slots := 6, locals := 171 }
def FL_isOpen (h : PH) (v0 : Nat) (v1 : Int) (v2 : Nat) : Option (Int × PH) :=
  (FX7_isOpen h v0 v1).bind fun q1 =>
  if q1.1 = 0 then (if w32 q1.2 = 0 then ((ast 3 h v2 0 0).bind fun h2 => some (0, h2)) else ((ast 3 h v2 0 1).bind fun h2 => some (0, h2)))
  else if q1.1 = 1 then some (1, h)
  else none
set_option maxHeartbeats 4000000 in
set_option maxRecDepth 100000 in
theorem CL_isOpen {g : GP} {l : Launch} (hst : l.stackTraces = false) {ad : Nat → Nat} {h : PH} {v0 : Nat} {v1 : Int} {v2 : Nat} {q : Int × PH} (hF : FL_isOpen h v0 v1 v2 = some q) : CW g l yL_isOpen cL_isOpen 4 (some .int) [(0, 16, 19, 18)] rmL_isOpen ad h [.ref (ad v0), .int (Int32.ofInt v1), .ref (ad v2)] (some (.int (Int32.ofInt q.1))) q.2 := by
  refine pw_metW (by decide) (Nat.le_of_ble_eq_true rfl) ?_
  intro p e s m args below meth c ls hC htab hR hl
  have hl : lv_has ls 4 [(0, .ref (ad v0)), (1, .int (Int32.ofInt v1)), (2, .ref (ad v2))] := hl
  unfold FL_isOpen at hF
  obtain ⟨q1, e1, hF⟩ := bnd hF
  obtain ⟨fs1, ho1⟩ := OX7_isOpen e1
  refine lv_aload_n hC.1 hC.2.1 dL_isOpen_0 rfl (lv_at hl 2 rfl) ?_
  refine pw_iconst hC dL_isOpen_1 ?_
  refine lv_aload_n hC.1 hC.2.1 dL_isOpen_2 rfl (lv_at hl 0 rfl) ?_
  refine lv_iload_n hC.1 hC.2.1 dL_isOpen_3 rfl (lv_at hl 1 rfl) ?_
  refine pw_cVTi (rest := [.int (Int32.ofInt 0), .ref (ad v2)]) hC hR lvL_32 ho1 (CX7_isOpen hst e1) rfl hl.1 rfl ⟨(Nat.le_of_ble_eq_true rfl), (Nat.le_of_ble_eq_true rfl)⟩ (Nat.le_of_ble_eq_true rfl) dL_isOpen_4 ⟨(Nat.le_of_ble_eq_true rfl), (Nat.le_of_ble_eq_true rfl)⟩ (fun hk H locs hR => ?_) (fun hk H locs q9 ce hR h1 h2 h3 => ?_)
  · rw [if_pos hk] at hF
    refine pw_ifeq hC 14 dL_isOpen_7 (by decide) (fun hc => ?_) (fun hc => ?_)
    · rw [if_pos hc] at hF
      refine pw_lconst hC 0 dL_isOpen_14 rfl ?_
      obtain ⟨h2, e2, hF⟩ := bnd hF
      refine pw_last hC hR e2 dL_isOpen_15 (fun H locs hR => ?_)
      refine pw_goto hC 22 dL_isOpen_16 (by decide) ?_
      refine pw_iconst hC dL_isOpen_22 ?_
      cases hF
      exact pw_iretM hC hR (Nat.le_of_ble_eq_true rfl) (Nat.le_of_ble_eq_true rfl) dL_isOpen_23
    · rw [if_neg hc] at hF
      refine pw_lconst hC 1 dL_isOpen_10 rfl ?_
      refine pw_goto hC 15 dL_isOpen_11 (by decide) ?_
      obtain ⟨h2, e2, hF⟩ := bnd hF
      refine pw_last hC hR e2 dL_isOpen_15 (fun H locs hR => ?_)
      refine pw_goto hC 22 dL_isOpen_16 (by decide) ?_
      refine pw_iconst hC dL_isOpen_22 ?_
      cases hF
      exact pw_iretM hC hR (Nat.le_of_ble_eq_true rfl) (Nat.le_of_ble_eq_true rfl) dL_isOpen_23
  · rw [if_neg hk] at hF
    by_cases k0 : q1.1 = 1
    · rw [if_pos k0] at hF
      rw [k0] at h3
      refine vx_catch hC.2.2.2.1 [] ⟨0, 16, 19, 18⟩ [] (htab.trans rfl) (fun z hz => nomatch hz) (by decide) (by decide) (hC.2.2.2.2.1 _ clL_18) (va_Nw.use rfl hC.stA.1.2.2) h1 h2 h3 ?_
      refine lv_astore_n (lv' := [(3, .ref q9), (0, .ref (ad v0)), (1, .int (Int32.ofInt v1)), (2, .ref (ad v2))]) hC.1 hC.2.1 dL_isOpen_19 rfl hl (by decide) rfl (fun ls hl => ?_)
      refine pw_iconst hC dL_isOpen_20 ?_
      cases hF
      exact pw_iretM hC hR (Nat.le_of_ble_eq_true rfl) (Nat.le_of_ble_eq_true rfl) dL_isOpen_21
    rw [if_neg k0] at hF
    cases hF
abbrev rmL_queueLength : Room := { frames := 10, cells := 2, slots := 12, locals := 192 }
def FL_queueLength (h : PH) (v0 : Nat) (v1 : Int) (v2 : Nat) : Option (Int × PH) :=
  (FX7_queueLength h v0 v1).bind fun q1 =>
  if q1.1 = 0 then ((ast 3 h v2 0 (w32 q1.2)).bind fun h2 => some (0, h2))
  else if q1.1 = 1 then some (1, h)
  else none
set_option maxHeartbeats 4000000 in
set_option maxRecDepth 100000 in
theorem CL_queueLength {g : GP} {l : Launch} (hst : l.stackTraces = false) {ad : Nat → Nat} {h : PH} {v0 : Nat} {v1 : Int} {v2 : Nat} {q : Int × PH} (hF : FL_queueLength h v0 v1 v2 = some q) : CW g l yL_queueLength cL_queueLength 4 (some .int) [(0, 9, 12, 18)] rmL_queueLength ad h [.ref (ad v0), .int (Int32.ofInt v1), .ref (ad v2)] (some (.int (Int32.ofInt q.1))) q.2 := by
  refine pw_metW (by decide) (Nat.le_of_ble_eq_true rfl) ?_
  intro p e s m args below meth c ls hC htab hR hl
  have hl : lv_has ls 4 [(0, .ref (ad v0)), (1, .int (Int32.ofInt v1)), (2, .ref (ad v2))] := hl
  unfold FL_queueLength at hF
  obtain ⟨q1, e1, hF⟩ := bnd hF
  obtain ⟨fs1, ho1⟩ := OX7_queueLength e1
  refine lv_aload_n hC.1 hC.2.1 dL_queueLength_0 rfl (lv_at hl 2 rfl) ?_
  refine pw_iconst hC dL_queueLength_1 ?_
  refine lv_aload_n hC.1 hC.2.1 dL_queueLength_2 rfl (lv_at hl 0 rfl) ?_
  refine lv_iload_n hC.1 hC.2.1 dL_queueLength_3 rfl (lv_at hl 1 rfl) ?_
  refine pw_cVTi (rest := [.int (Int32.ofInt 0), .ref (ad v2)]) hC hR lvL_36 ho1 (CX7_queueLength hst e1) rfl hl.1 rfl ⟨(Nat.le_of_ble_eq_true rfl), (Nat.le_of_ble_eq_true rfl)⟩ (Nat.le_of_ble_eq_true rfl) dL_queueLength_4 ⟨(Nat.le_of_ble_eq_true rfl), (Nat.le_of_ble_eq_true rfl)⟩ (fun hk H locs hR => ?_) (fun hk H locs q9 ce hR h1 h2 h3 => ?_)
  · rw [if_pos hk] at hF
    refine pw_i2l hC dL_queueLength_7 ?_
    obtain ⟨h2, e2, hF⟩ := bnd hF
    refine pw_last hC hR e2 dL_queueLength_8 (fun H locs hR => ?_)
    refine pw_goto hC 15 dL_queueLength_9 (by decide) ?_
    refine pw_iconst hC dL_queueLength_15 ?_
    cases hF
    exact pw_iretM hC hR (Nat.le_of_ble_eq_true rfl) (Nat.le_of_ble_eq_true rfl) dL_queueLength_16
  · rw [if_neg hk] at hF
    by_cases k0 : q1.1 = 1
    · rw [if_pos k0] at hF
      rw [k0] at h3
      refine vx_catch hC.2.2.2.1 [] ⟨0, 9, 12, 18⟩ [] (htab.trans rfl) (fun z hz => nomatch hz) (by decide) (by decide) (hC.2.2.2.2.1 _ clL_18) (va_Nw.use rfl hC.stA.1.2.2) h1 h2 h3 ?_
      refine lv_astore_n (lv' := [(3, .ref q9), (0, .ref (ad v0)), (1, .int (Int32.ofInt v1)), (2, .ref (ad v2))]) hC.1 hC.2.1 dL_queueLength_12 rfl hl (by decide) rfl (fun ls hl => ?_)
      refine pw_iconst hC dL_queueLength_13 ?_
      cases hF
      exact pw_iretM hC hR (Nat.le_of_ble_eq_true rfl) (Nat.le_of_ble_eq_true rfl) dL_queueLength_14
    rw [if_neg k0] at hF
    cases hF
abbrev rmL_queued : Room := { frames := 10, cells := 2, slots := 12, locals := 193 }
def FL_queued (h : PH) (v0 : Nat) (v1 : Int) (v2 : Int) (v3 : Nat) : Option (Int × PH) :=
  (FX7_queued h v0 v1 v2).bind fun q1 =>
  if q1.1 = 0 then ((ast 3 h v3 0 (w32 q1.2)).bind fun h2 => some (0, h2))
  else if q1.1 = 1 then some (1, h)
  else none
set_option maxHeartbeats 4000000 in
set_option maxRecDepth 100000 in
theorem CL_queued {g : GP} {l : Launch} (hst : l.stackTraces = false) {ad : Nat → Nat} {h : PH} {v0 : Nat} {v1 : Int} {v2 : Int} {v3 : Nat} {q : Int × PH} (hF : FL_queued h v0 v1 v2 v3 = some q) : CW g l yL_queued cL_queued 5 (some .int) [(0, 10, 13, 18)] rmL_queued ad h [.ref (ad v0), .int (Int32.ofInt v1), .int (Int32.ofInt v2), .ref (ad v3)] (some (.int (Int32.ofInt q.1))) q.2 := by
  refine pw_metW (by decide) (Nat.le_of_ble_eq_true rfl) ?_
  intro p e s m args below meth c ls hC htab hR hl
  have hl : lv_has ls 5 [(0, .ref (ad v0)), (1, .int (Int32.ofInt v1)), (2, .int (Int32.ofInt v2)), (3, .ref (ad v3))] := hl
  unfold FL_queued at hF
  obtain ⟨q1, e1, hF⟩ := bnd hF
  obtain ⟨fs1, ho1⟩ := OX7_queued e1
  refine lv_aload_n hC.1 hC.2.1 dL_queued_0 rfl (lv_at hl 3 rfl) ?_
  refine pw_iconst hC dL_queued_1 ?_
  refine lv_aload_n hC.1 hC.2.1 dL_queued_2 rfl (lv_at hl 0 rfl) ?_
  refine lv_iload_n hC.1 hC.2.1 dL_queued_3 rfl (lv_at hl 1 rfl) ?_
  refine lv_iload_n hC.1 hC.2.1 dL_queued_4 rfl (lv_at hl 2 rfl) ?_
  refine pw_cVTi (rest := [.int (Int32.ofInt 0), .ref (ad v3)]) hC hR lvL_39 ho1 (CX7_queued hst e1) rfl hl.1 rfl ⟨(Nat.le_of_ble_eq_true rfl), (Nat.le_of_ble_eq_true rfl)⟩ (Nat.le_of_ble_eq_true rfl) dL_queued_5 ⟨(Nat.le_of_ble_eq_true rfl), (Nat.le_of_ble_eq_true rfl)⟩ (fun hk H locs hR => ?_) (fun hk H locs q9 ce hR h1 h2 h3 => ?_)
  · rw [if_pos hk] at hF
    refine pw_i2l hC dL_queued_8 ?_
    obtain ⟨h2, e2, hF⟩ := bnd hF
    refine pw_last hC hR e2 dL_queued_9 (fun H locs hR => ?_)
    refine pw_goto hC 17 dL_queued_10 (by decide) ?_
    refine pw_iconst hC dL_queued_17 ?_
    cases hF
    exact pw_iretM hC hR (Nat.le_of_ble_eq_true rfl) (Nat.le_of_ble_eq_true rfl) dL_queued_18
  · rw [if_neg hk] at hF
    by_cases k0 : q1.1 = 1
    · rw [if_pos k0] at hF
      rw [k0] at h3
      refine vx_catch hC.2.2.2.1 [] ⟨0, 10, 13, 18⟩ [] (htab.trans rfl) (fun z hz => nomatch hz) (by decide) (by decide) (hC.2.2.2.2.1 _ clL_18) (va_Nw.use rfl hC.stA.1.2.2) h1 h2 h3 ?_
      refine lv_astore (lv' := [(4, .ref q9), (0, .ref (ad v0)), (1, .int (Int32.ofInt v1)), (2, .int (Int32.ofInt v2)), (3, .ref (ad v3))]) hC.1 hC.2.1 dL_queued_13 hl (by decide) rfl (fun ls hl => ?_)
      refine pw_iconst hC dL_queued_15 ?_
      cases hF
      exact pw_iretM hC hR (Nat.le_of_ble_eq_true rfl) (Nat.le_of_ble_eq_true rfl) dL_queued_16
    rw [if_neg k0] at hF
    cases hF
abbrev rmL_running : Room := { frames := 10, cells := 2, slots := 12, locals := 192 }
def FL_running (h : PH) (v0 : Nat) (v1 : Int) (v2 : Nat) : Option (Int × PH) :=
  (FX7_running h v0 v1).bind fun q1 =>
  if q1.1 = 0 then ((ast 3 h v2 0 (w32 q1.2)).bind fun h2 => some (0, h2))
  else if q1.1 = 1 then some (1, h)
  else none
set_option maxHeartbeats 4000000 in
set_option maxRecDepth 100000 in
theorem CL_running {g : GP} {l : Launch} (hst : l.stackTraces = false) {ad : Nat → Nat} {h : PH} {v0 : Nat} {v1 : Int} {v2 : Nat} {q : Int × PH} (hF : FL_running h v0 v1 v2 = some q) : CW g l yL_running cL_running 4 (some .int) [(0, 9, 12, 18)] rmL_running ad h [.ref (ad v0), .int (Int32.ofInt v1), .ref (ad v2)] (some (.int (Int32.ofInt q.1))) q.2 := by
  refine pw_metW (by decide) (Nat.le_of_ble_eq_true rfl) ?_
  intro p e s m args below meth c ls hC htab hR hl
  have hl : lv_has ls 4 [(0, .ref (ad v0)), (1, .int (Int32.ofInt v1)), (2, .ref (ad v2))] := hl
  unfold FL_running at hF
  obtain ⟨q1, e1, hF⟩ := bnd hF
  obtain ⟨fs1, ho1⟩ := OX7_running e1
  refine lv_aload_n hC.1 hC.2.1 dL_running_0 rfl (lv_at hl 2 rfl) ?_
  refine pw_iconst hC dL_running_1 ?_
  refine lv_aload_n hC.1 hC.2.1 dL_running_2 rfl (lv_at hl 0 rfl) ?_
  refine lv_iload_n hC.1 hC.2.1 dL_running_3 rfl (lv_at hl 1 rfl) ?_
  refine pw_cVTi (rest := [.int (Int32.ofInt 0), .ref (ad v2)]) hC hR lvL_43 ho1 (CX7_running hst e1) rfl hl.1 rfl ⟨(Nat.le_of_ble_eq_true rfl), (Nat.le_of_ble_eq_true rfl)⟩ (Nat.le_of_ble_eq_true rfl) dL_running_4 ⟨(Nat.le_of_ble_eq_true rfl), (Nat.le_of_ble_eq_true rfl)⟩ (fun hk H locs hR => ?_) (fun hk H locs q9 ce hR h1 h2 h3 => ?_)
  · rw [if_pos hk] at hF
    refine pw_i2l hC dL_running_7 ?_
    obtain ⟨h2, e2, hF⟩ := bnd hF
    refine pw_last hC hR e2 dL_running_8 (fun H locs hR => ?_)
    refine pw_goto hC 15 dL_running_9 (by decide) ?_
    refine pw_iconst hC dL_running_15 ?_
    cases hF
    exact pw_iretM hC hR (Nat.le_of_ble_eq_true rfl) (Nat.le_of_ble_eq_true rfl) dL_running_16
  · rw [if_neg hk] at hF
    by_cases k0 : q1.1 = 1
    · rw [if_pos k0] at hF
      rw [k0] at h3
      refine vx_catch hC.2.2.2.1 [] ⟨0, 9, 12, 18⟩ [] (htab.trans rfl) (fun z hz => nomatch hz) (by decide) (by decide) (hC.2.2.2.2.1 _ clL_18) (va_Nw.use rfl hC.stA.1.2.2) h1 h2 h3 ?_
      refine lv_astore_n (lv' := [(3, .ref q9), (0, .ref (ad v0)), (1, .int (Int32.ofInt v1)), (2, .ref (ad v2))]) hC.1 hC.2.1 dL_running_12 rfl hl (by decide) rfl (fun ls hl => ?_)
      refine pw_iconst hC dL_running_13 ?_
      cases hF
      exact pw_iretM hC hR (Nat.le_of_ble_eq_true rfl) (Nat.le_of_ble_eq_true rfl) dL_running_14
    rw [if_neg k0] at hF
    cases hF
abbrev rmL_remaining : Room := { frames := 10, cells := 2, slots := 12, locals := 192 }
def FL_remaining (h : PH) (v0 : Nat) (v1 : Int) (v2 : Nat) : Option (Int × PH) :=
  (FX7_remaining h v0 v1).bind fun q1 =>
  if q1.1 = 0 then ((ast 3 h v2 0 (w32 q1.2)).bind fun h2 => some (0, h2))
  else if q1.1 = 1 then some (1, h)
  else none
set_option maxHeartbeats 4000000 in
set_option maxRecDepth 100000 in
theorem CL_remaining {g : GP} {l : Launch} (hst : l.stackTraces = false) {ad : Nat → Nat} {h : PH} {v0 : Nat} {v1 : Int} {v2 : Nat} {q : Int × PH} (hF : FL_remaining h v0 v1 v2 = some q) : CW g l yL_remaining cL_remaining 4 (some .int) [(0, 9, 12, 18)] rmL_remaining ad h [.ref (ad v0), .int (Int32.ofInt v1), .ref (ad v2)] (some (.int (Int32.ofInt q.1))) q.2 := by
  refine pw_metW (by decide) (Nat.le_of_ble_eq_true rfl) ?_
  intro p e s m args below meth c ls hC htab hR hl
  have hl : lv_has ls 4 [(0, .ref (ad v0)), (1, .int (Int32.ofInt v1)), (2, .ref (ad v2))] := hl
  unfold FL_remaining at hF
  obtain ⟨q1, e1, hF⟩ := bnd hF
  obtain ⟨fs1, ho1⟩ := OX7_remaining e1
  refine lv_aload_n hC.1 hC.2.1 dL_remaining_0 rfl (lv_at hl 2 rfl) ?_
  refine pw_iconst hC dL_remaining_1 ?_
  refine lv_aload_n hC.1 hC.2.1 dL_remaining_2 rfl (lv_at hl 0 rfl) ?_
  refine lv_iload_n hC.1 hC.2.1 dL_remaining_3 rfl (lv_at hl 1 rfl) ?_
  refine pw_cVTi (rest := [.int (Int32.ofInt 0), .ref (ad v2)]) hC hR lvL_46 ho1 (CX7_remaining hst e1) rfl hl.1 rfl ⟨(Nat.le_of_ble_eq_true rfl), (Nat.le_of_ble_eq_true rfl)⟩ (Nat.le_of_ble_eq_true rfl) dL_remaining_4 ⟨(Nat.le_of_ble_eq_true rfl), (Nat.le_of_ble_eq_true rfl)⟩ (fun hk H locs hR => ?_) (fun hk H locs q9 ce hR h1 h2 h3 => ?_)
  · rw [if_pos hk] at hF
    refine pw_i2l hC dL_remaining_7 ?_
    obtain ⟨h2, e2, hF⟩ := bnd hF
    refine pw_last hC hR e2 dL_remaining_8 (fun H locs hR => ?_)
    refine pw_goto hC 15 dL_remaining_9 (by decide) ?_
    refine pw_iconst hC dL_remaining_15 ?_
    cases hF
    exact pw_iretM hC hR (Nat.le_of_ble_eq_true rfl) (Nat.le_of_ble_eq_true rfl) dL_remaining_16
  · rw [if_neg hk] at hF
    by_cases k0 : q1.1 = 1
    · rw [if_pos k0] at hF
      rw [k0] at h3
      refine vx_catch hC.2.2.2.1 [] ⟨0, 9, 12, 18⟩ [] (htab.trans rfl) (fun z hz => nomatch hz) (by decide) (by decide) (hC.2.2.2.2.1 _ clL_18) (va_Nw.use rfl hC.stA.1.2.2) h1 h2 h3 ?_
      refine lv_astore_n (lv' := [(3, .ref q9), (0, .ref (ad v0)), (1, .int (Int32.ofInt v1)), (2, .ref (ad v2))]) hC.1 hC.2.1 dL_remaining_12 rfl hl (by decide) rfl (fun ls hl => ?_)
      refine pw_iconst hC dL_remaining_13 ?_
      cases hF
      exact pw_iretM hC hR (Nat.le_of_ble_eq_true rfl) (Nat.le_of_ble_eq_true rfl) dL_remaining_14
    rw [if_neg k0] at hF
    cases hF
abbrev rmL_busy : Room := { frames := 10, cells := 2, slots := 12, locals := 192 }
def FL_busy (h : PH) (v0 : Nat) (v1 : Int) (v2 : Nat) : Option (Int × PH) :=
  (FX7_busy h v0 v1).bind fun q1 =>
  if q1.1 = 0 then ((ast 3 h v2 0 (w32 q1.2)).bind fun h2 => some (0, h2))
  else if q1.1 = 1 then some (1, h)
  else none
set_option maxHeartbeats 4000000 in
set_option maxRecDepth 100000 in
theorem CL_busy {g : GP} {l : Launch} (hst : l.stackTraces = false) {ad : Nat → Nat} {h : PH} {v0 : Nat} {v1 : Int} {v2 : Nat} {q : Int × PH} (hF : FL_busy h v0 v1 v2 = some q) : CW g l yL_busy cL_busy 4 (some .int) [(0, 9, 12, 18)] rmL_busy ad h [.ref (ad v0), .int (Int32.ofInt v1), .ref (ad v2)] (some (.int (Int32.ofInt q.1))) q.2 := by
  refine pw_metW (by decide) (Nat.le_of_ble_eq_true rfl) ?_
  intro p e s m args below meth c ls hC htab hR hl
  have hl : lv_has ls 4 [(0, .ref (ad v0)), (1, .int (Int32.ofInt v1)), (2, .ref (ad v2))] := hl
  unfold FL_busy at hF
  obtain ⟨q1, e1, hF⟩ := bnd hF
  obtain ⟨fs1, ho1⟩ := OX7_busy e1
  refine lv_aload_n hC.1 hC.2.1 dL_busy_0 rfl (lv_at hl 2 rfl) ?_
  refine pw_iconst hC dL_busy_1 ?_
  refine lv_aload_n hC.1 hC.2.1 dL_busy_2 rfl (lv_at hl 0 rfl) ?_
  refine lv_iload_n hC.1 hC.2.1 dL_busy_3 rfl (lv_at hl 1 rfl) ?_
  refine pw_cVTi (rest := [.int (Int32.ofInt 0), .ref (ad v2)]) hC hR lvL_49 ho1 (CX7_busy hst e1) rfl hl.1 rfl ⟨(Nat.le_of_ble_eq_true rfl), (Nat.le_of_ble_eq_true rfl)⟩ (Nat.le_of_ble_eq_true rfl) dL_busy_4 ⟨(Nat.le_of_ble_eq_true rfl), (Nat.le_of_ble_eq_true rfl)⟩ (fun hk H locs hR => ?_) (fun hk H locs q9 ce hR h1 h2 h3 => ?_)
  · rw [if_pos hk] at hF
    refine pw_i2l hC dL_busy_7 ?_
    obtain ⟨h2, e2, hF⟩ := bnd hF
    refine pw_last hC hR e2 dL_busy_8 (fun H locs hR => ?_)
    refine pw_goto hC 15 dL_busy_9 (by decide) ?_
    refine pw_iconst hC dL_busy_15 ?_
    cases hF
    exact pw_iretM hC hR (Nat.le_of_ble_eq_true rfl) (Nat.le_of_ble_eq_true rfl) dL_busy_16
  · rw [if_neg hk] at hF
    by_cases k0 : q1.1 = 1
    · rw [if_pos k0] at hF
      rw [k0] at h3
      refine vx_catch hC.2.2.2.1 [] ⟨0, 9, 12, 18⟩ [] (htab.trans rfl) (fun z hz => nomatch hz) (by decide) (by decide) (hC.2.2.2.2.1 _ clL_18) (va_Nw.use rfl hC.stA.1.2.2) h1 h2 h3 ?_
      refine lv_astore_n (lv' := [(3, .ref q9), (0, .ref (ad v0)), (1, .int (Int32.ofInt v1)), (2, .ref (ad v2))]) hC.1 hC.2.1 dL_busy_12 rfl hl (by decide) rfl (fun ls hl => ?_)
      refine pw_iconst hC dL_busy_13 ?_
      cases hF
      exact pw_iretM hC hR (Nat.le_of_ble_eq_true rfl) (Nat.le_of_ble_eq_true rfl) dL_busy_14
    rw [if_neg k0] at hF
    cases hF
abbrev rmL_steals : Room := { frames := 10, cells := 2, slots := 12, locals := 192 }
def FL_steals (h : PH) (v0 : Nat) (v1 : Int) (v2 : Nat) : Option (Int × PH) :=
  (FX7_steals h v0 v1).bind fun q1 =>
  if q1.1 = 0 then ((ast 3 h v2 0 (w32 q1.2)).bind fun h2 => some (0, h2))
  else if q1.1 = 1 then some (1, h)
  else none
set_option maxHeartbeats 4000000 in
set_option maxRecDepth 100000 in
theorem CL_steals {g : GP} {l : Launch} (hst : l.stackTraces = false) {ad : Nat → Nat} {h : PH} {v0 : Nat} {v1 : Int} {v2 : Nat} {q : Int × PH} (hF : FL_steals h v0 v1 v2 = some q) : CW g l yL_steals cL_steals 4 (some .int) [(0, 9, 12, 18)] rmL_steals ad h [.ref (ad v0), .int (Int32.ofInt v1), .ref (ad v2)] (some (.int (Int32.ofInt q.1))) q.2 := by
  refine pw_metW (by decide) (Nat.le_of_ble_eq_true rfl) ?_
  intro p e s m args below meth c ls hC htab hR hl
  have hl : lv_has ls 4 [(0, .ref (ad v0)), (1, .int (Int32.ofInt v1)), (2, .ref (ad v2))] := hl
  unfold FL_steals at hF
  obtain ⟨q1, e1, hF⟩ := bnd hF
  obtain ⟨fs1, ho1⟩ := OX7_steals e1
  refine lv_aload_n hC.1 hC.2.1 dL_steals_0 rfl (lv_at hl 2 rfl) ?_
  refine pw_iconst hC dL_steals_1 ?_
  refine lv_aload_n hC.1 hC.2.1 dL_steals_2 rfl (lv_at hl 0 rfl) ?_
  refine lv_iload_n hC.1 hC.2.1 dL_steals_3 rfl (lv_at hl 1 rfl) ?_
  refine pw_cVTi (rest := [.int (Int32.ofInt 0), .ref (ad v2)]) hC hR lvL_52 ho1 (CX7_steals hst e1) rfl hl.1 rfl ⟨(Nat.le_of_ble_eq_true rfl), (Nat.le_of_ble_eq_true rfl)⟩ (Nat.le_of_ble_eq_true rfl) dL_steals_4 ⟨(Nat.le_of_ble_eq_true rfl), (Nat.le_of_ble_eq_true rfl)⟩ (fun hk H locs hR => ?_) (fun hk H locs q9 ce hR h1 h2 h3 => ?_)
  · rw [if_pos hk] at hF
    refine pw_i2l hC dL_steals_7 ?_
    obtain ⟨h2, e2, hF⟩ := bnd hF
    refine pw_last hC hR e2 dL_steals_8 (fun H locs hR => ?_)
    refine pw_goto hC 15 dL_steals_9 (by decide) ?_
    refine pw_iconst hC dL_steals_15 ?_
    cases hF
    exact pw_iretM hC hR (Nat.le_of_ble_eq_true rfl) (Nat.le_of_ble_eq_true rfl) dL_steals_16
  · rw [if_neg hk] at hF
    by_cases k0 : q1.1 = 1
    · rw [if_pos k0] at hF
      rw [k0] at h3
      refine vx_catch hC.2.2.2.1 [] ⟨0, 9, 12, 18⟩ [] (htab.trans rfl) (fun z hz => nomatch hz) (by decide) (by decide) (hC.2.2.2.2.1 _ clL_18) (va_Nw.use rfl hC.stA.1.2.2) h1 h2 h3 ?_
      refine lv_astore_n (lv' := [(3, .ref q9), (0, .ref (ad v0)), (1, .int (Int32.ofInt v1)), (2, .ref (ad v2))]) hC.1 hC.2.1 dL_steals_12 rfl hl (by decide) rfl (fun ls hl => ?_)
      refine pw_iconst hC dL_steals_13 ?_
      cases hF
      exact pw_iretM hC hR (Nat.le_of_ble_eq_true rfl) (Nat.le_of_ble_eq_true rfl) dL_steals_14
    rw [if_neg k0] at hF
    cases hF
abbrev rmL_isPaused : Room := { frames := 10, cells := 2, slots := 12, locals := 192 }
def FL_isPaused (h : PH) (v0 : Nat) (v1 : Int) (v2 : Nat) : Option (Int × PH) :=
  (FX7_isPaused h v0 v1).bind fun q1 =>
  if q1.1 = 0 then (if w32 q1.2 = 0 then ((ast 3 h v2 0 0).bind fun h2 => some (0, h2)) else ((ast 3 h v2 0 1).bind fun h2 => some (0, h2)))
  else if q1.1 = 1 then some (1, h)
  else none
set_option maxHeartbeats 4000000 in
set_option maxRecDepth 100000 in
theorem CL_isPaused {g : GP} {l : Launch} (hst : l.stackTraces = false) {ad : Nat → Nat} {h : PH} {v0 : Nat} {v1 : Int} {v2 : Nat} {q : Int × PH} (hF : FL_isPaused h v0 v1 v2 = some q) : CW g l yL_isPaused cL_isPaused 4 (some .int) [(0, 16, 19, 18)] rmL_isPaused ad h [.ref (ad v0), .int (Int32.ofInt v1), .ref (ad v2)] (some (.int (Int32.ofInt q.1))) q.2 := by
  refine pw_metW (by decide) (Nat.le_of_ble_eq_true rfl) ?_
  intro p e s m args below meth c ls hC htab hR hl
  have hl : lv_has ls 4 [(0, .ref (ad v0)), (1, .int (Int32.ofInt v1)), (2, .ref (ad v2))] := hl
  unfold FL_isPaused at hF
  obtain ⟨q1, e1, hF⟩ := bnd hF
  obtain ⟨fs1, ho1⟩ := OX7_isPaused e1
  refine lv_aload_n hC.1 hC.2.1 dL_isPaused_0 rfl (lv_at hl 2 rfl) ?_
  refine pw_iconst hC dL_isPaused_1 ?_
  refine lv_aload_n hC.1 hC.2.1 dL_isPaused_2 rfl (lv_at hl 0 rfl) ?_
  refine lv_iload_n hC.1 hC.2.1 dL_isPaused_3 rfl (lv_at hl 1 rfl) ?_
  refine pw_cVTi (rest := [.int (Int32.ofInt 0), .ref (ad v2)]) hC hR lvL_55 ho1 (CX7_isPaused hst e1) rfl hl.1 rfl ⟨(Nat.le_of_ble_eq_true rfl), (Nat.le_of_ble_eq_true rfl)⟩ (Nat.le_of_ble_eq_true rfl) dL_isPaused_4 ⟨(Nat.le_of_ble_eq_true rfl), (Nat.le_of_ble_eq_true rfl)⟩ (fun hk H locs hR => ?_) (fun hk H locs q9 ce hR h1 h2 h3 => ?_)
  · rw [if_pos hk] at hF
    refine pw_ifeq hC 14 dL_isPaused_7 (by decide) (fun hc => ?_) (fun hc => ?_)
    · rw [if_pos hc] at hF
      refine pw_lconst hC 0 dL_isPaused_14 rfl ?_
      obtain ⟨h2, e2, hF⟩ := bnd hF
      refine pw_last hC hR e2 dL_isPaused_15 (fun H locs hR => ?_)
      refine pw_goto hC 22 dL_isPaused_16 (by decide) ?_
      refine pw_iconst hC dL_isPaused_22 ?_
      cases hF
      exact pw_iretM hC hR (Nat.le_of_ble_eq_true rfl) (Nat.le_of_ble_eq_true rfl) dL_isPaused_23
    · rw [if_neg hc] at hF
      refine pw_lconst hC 1 dL_isPaused_10 rfl ?_
      refine pw_goto hC 15 dL_isPaused_11 (by decide) ?_
      obtain ⟨h2, e2, hF⟩ := bnd hF
      refine pw_last hC hR e2 dL_isPaused_15 (fun H locs hR => ?_)
      refine pw_goto hC 22 dL_isPaused_16 (by decide) ?_
      refine pw_iconst hC dL_isPaused_22 ?_
      cases hF
      exact pw_iretM hC hR (Nat.le_of_ble_eq_true rfl) (Nat.le_of_ble_eq_true rfl) dL_isPaused_23
  · rw [if_neg hk] at hF
    by_cases k0 : q1.1 = 1
    · rw [if_pos k0] at hF
      rw [k0] at h3
      refine vx_catch hC.2.2.2.1 [] ⟨0, 16, 19, 18⟩ [] (htab.trans rfl) (fun z hz => nomatch hz) (by decide) (by decide) (hC.2.2.2.2.1 _ clL_18) (va_Nw.use rfl hC.stA.1.2.2) h1 h2 h3 ?_
      refine lv_astore_n (lv' := [(3, .ref q9), (0, .ref (ad v0)), (1, .int (Int32.ofInt v1)), (2, .ref (ad v2))]) hC.1 hC.2.1 dL_isPaused_19 rfl hl (by decide) rfl (fun ls hl => ?_)
      refine pw_iconst hC dL_isPaused_20 ?_
      cases hF
      exact pw_iretM hC hR (Nat.le_of_ble_eq_true rfl) (Nat.le_of_ble_eq_true rfl) dL_isPaused_21
    rw [if_neg k0] at hF
    cases hF
abbrev rmL_finishTime : Room := { frames := 10, cells := 2, slots := 12, locals := 191 }
def FL_finishTime (h : PH) (v0 : Nat) (v1 : Int) (v2 : Nat) : Option (Int × PH) :=
  (FX7_finishTime h v0 v1).bind fun q1 =>
  if q1.1 = 0 then ((ast 3 q1.2.2 v2 0 (w32 q1.2.1)).bind fun h2 => some (0, h2))
  else if q1.1 = 2 then some (1, q1.2.2)
  else none
set_option maxHeartbeats 4000000 in
set_option maxRecDepth 100000 in
theorem CL_finishTime {g : GP} {l : Launch} (hst : l.stackTraces = false) {ad : Nat → Nat} {h : PH} {v0 : Nat} {v1 : Int} {v2 : Nat} {q : Int × PH} (hF : FL_finishTime h v0 v1 v2 = some q) : CW g l yL_finishTime cL_finishTime 4 (some .int) [(0, 9, 12, 13)] rmL_finishTime ad h [.ref (ad v0), .int (Int32.ofInt v1), .ref (ad v2)] (some (.int (Int32.ofInt q.1))) q.2 := by
  refine pw_metW (by decide) (Nat.le_of_ble_eq_true rfl) ?_
  intro p e s m args below meth c ls hC htab hR hl
  have hl : lv_has ls 4 [(0, .ref (ad v0)), (1, .int (Int32.ofInt v1)), (2, .ref (ad v2))] := hl
  unfold FL_finishTime at hF
  obtain ⟨q1, e1, hF⟩ := bnd hF
  obtain ⟨fs1, ho1⟩ := OX7_finishTime e1
  refine lv_aload_n hC.1 hC.2.1 dL_finishTime_0 rfl (lv_at hl 2 rfl) ?_
  refine pw_iconst hC dL_finishTime_1 ?_
  refine lv_aload_n hC.1 hC.2.1 dL_finishTime_2 rfl (lv_at hl 0 rfl) ?_
  refine lv_iload_n hC.1 hC.2.1 dL_finishTime_3 rfl (lv_at hl 1 rfl) ?_
  refine pw_cVTi (rest := [.int (Int32.ofInt 0), .ref (ad v2)]) hC hR lvL_58 ho1 (CX7_finishTime hst e1) rfl hl.1 rfl ⟨(Nat.le_of_ble_eq_true rfl), (Nat.le_of_ble_eq_true rfl)⟩ (Nat.le_of_ble_eq_true rfl) dL_finishTime_4 ⟨(Nat.le_of_ble_eq_true rfl), (Nat.le_of_ble_eq_true rfl)⟩ (fun hk H locs hR => ?_) (fun hk H locs q9 ce hR h1 h2 h3 => ?_)
  · rw [if_pos hk] at hF
    refine pw_i2l hC dL_finishTime_7 ?_
    obtain ⟨h2, e2, hF⟩ := bnd hF
    refine pw_last hC hR e2 dL_finishTime_8 (fun H locs hR => ?_)
    refine pw_goto hC 15 dL_finishTime_9 (by decide) ?_
    refine pw_iconst hC dL_finishTime_15 ?_
    cases hF
    exact pw_iretM hC hR (Nat.le_of_ble_eq_true rfl) (Nat.le_of_ble_eq_true rfl) dL_finishTime_16
  · rw [if_neg hk] at hF
    by_cases k0 : q1.1 = 2
    · rw [if_pos k0] at hF
      rw [k0] at h3
      refine vx_catch hC.2.2.2.1 [] ⟨0, 9, 12, 13⟩ [] (htab.trans rfl) (fun z hz => nomatch hz) (by decide) (by decide) (hC.2.2.2.2.1 _ clL_13) (va_Nw.use rfl hC.stA.1.1) h1 h2 h3 ?_
      refine lv_astore_n (lv' := [(3, .ref q9), (0, .ref (ad v0)), (1, .int (Int32.ofInt v1)), (2, .ref (ad v2))]) hC.1 hC.2.1 dL_finishTime_12 rfl hl (by decide) rfl (fun ls hl => ?_)
      refine pw_iconst hC dL_finishTime_13 ?_
      cases hF
      exact pw_iretM hC hR (Nat.le_of_ble_eq_true rfl) (Nat.le_of_ble_eq_true rfl) dL_finishTime_14
    rw [if_neg k0] at hF
    cases hF
abbrev rmL_timeOn : Room := { frames := 10, cells := 3, slots := 18, locals := 192 }
def FL_timeOn (h : PH) (v0 : Nat) (v1 : Int) (v2 : Int) (v3 : Nat) : Option (Int × PH) :=
  (FX7_timeOn h v0 v1 v2).bind fun q1 =>
  if q1.1 = 0 then ((ast 3 q1.2.2 v3 0 (w32 q1.2.1)).bind fun h2 => some (0, h2))
  else if q1.1 = 2 then some (1, q1.2.2)
  else if q1.1 = 3 then some (2, q1.2.2)
  else none
set_option maxHeartbeats 4000000 in
set_option maxRecDepth 100000 in
theorem CL_timeOn {g : GP} {l : Launch} (hst : l.stackTraces = false) {ad : Nat → Nat} {h : PH} {v0 : Nat} {v1 : Int} {v2 : Int} {v3 : Nat} {q : Int × PH} (hF : FL_timeOn h v0 v1 v2 v3 = some q) : CW g l yL_timeOn cL_timeOn 5 (some .int) [(0, 10, 13, 13), (0, 10, 17, 64)] rmL_timeOn ad h [.ref (ad v0), .int (Int32.ofInt v1), .int (Int32.ofInt v2), .ref (ad v3)] (some (.int (Int32.ofInt q.1))) q.2 := by
  refine pw_metW (by decide) (Nat.le_of_ble_eq_true rfl) ?_
  intro p e s m args below meth c ls hC htab hR hl
  have hl : lv_has ls 5 [(0, .ref (ad v0)), (1, .int (Int32.ofInt v1)), (2, .int (Int32.ofInt v2)), (3, .ref (ad v3))] := hl
  unfold FL_timeOn at hF
  obtain ⟨q1, e1, hF⟩ := bnd hF
  obtain ⟨fs1, ho1⟩ := OX7_timeOn e1
  refine lv_aload_n hC.1 hC.2.1 dL_timeOn_0 rfl (lv_at hl 3 rfl) ?_
  refine pw_iconst hC dL_timeOn_1 ?_
  refine lv_aload_n hC.1 hC.2.1 dL_timeOn_2 rfl (lv_at hl 0 rfl) ?_
  refine lv_iload_n hC.1 hC.2.1 dL_timeOn_3 rfl (lv_at hl 1 rfl) ?_
  refine lv_iload_n hC.1 hC.2.1 dL_timeOn_4 rfl (lv_at hl 2 rfl) ?_
  refine pw_cVTi (rest := [.int (Int32.ofInt 0), .ref (ad v3)]) hC hR lvL_61 ho1 (CX7_timeOn hst e1) rfl hl.1 rfl ⟨(Nat.le_of_ble_eq_true rfl), (Nat.le_of_ble_eq_true rfl)⟩ (Nat.le_of_ble_eq_true rfl) dL_timeOn_5 ⟨(Nat.le_of_ble_eq_true rfl), (Nat.le_of_ble_eq_true rfl)⟩ (fun hk H locs hR => ?_) (fun hk H locs q9 ce hR h1 h2 h3 => ?_)
  · rw [if_pos hk] at hF
    refine pw_i2l hC dL_timeOn_8 ?_
    obtain ⟨h2, e2, hF⟩ := bnd hF
    refine pw_last hC hR e2 dL_timeOn_9 (fun H locs hR => ?_)
    refine pw_goto hC 21 dL_timeOn_10 (by decide) ?_
    refine pw_iconst hC dL_timeOn_21 ?_
    cases hF
    exact pw_iretM hC hR (Nat.le_of_ble_eq_true rfl) (Nat.le_of_ble_eq_true rfl) dL_timeOn_22
  · rw [if_neg hk] at hF
    by_cases k0 : q1.1 = 2
    · rw [if_pos k0] at hF
      rw [k0] at h3
      refine vx_catch hC.2.2.2.1 [] ⟨0, 10, 13, 13⟩ [⟨0, 10, 17, 64⟩] (htab.trans rfl) (fun z hz => nomatch hz) (by decide) (by decide) (hC.2.2.2.2.1 _ clL_13) (va_Nw.use rfl hC.stA.1.1) h1 h2 h3 ?_
      refine lv_astore (lv' := [(4, .ref q9), (0, .ref (ad v0)), (1, .int (Int32.ofInt v1)), (2, .int (Int32.ofInt v2)), (3, .ref (ad v3))]) hC.1 hC.2.1 dL_timeOn_13 hl (by decide) rfl (fun ls hl => ?_)
      refine pw_iconst hC dL_timeOn_15 ?_
      cases hF
      exact pw_iretM hC hR (Nat.le_of_ble_eq_true rfl) (Nat.le_of_ble_eq_true rfl) dL_timeOn_16
    rw [if_neg k0] at hF
    by_cases k1 : q1.1 = 3
    · rw [if_pos k1] at hF
      rw [k1] at h3
      refine vx_catch hC.2.2.2.1 [⟨0, 10, 13, 13⟩] ⟨0, 10, 17, 64⟩ [] (htab.trans rfl) (List.forall_mem_cons.mpr ⟨Or.inr ⟨by decide, xI, hC.2.2.2.2.1 _ clL_13, hC.stA.2.2.1⟩, (fun _ h => nomatch h)⟩) (by decide) (by decide) (hC.2.2.2.2.1 _ clL_64) (va_Nw.use rfl hC.stA.1.2.1) h1 h2 h3 ?_
      refine lv_astore (lv' := [(4, .ref q9), (0, .ref (ad v0)), (1, .int (Int32.ofInt v1)), (2, .int (Int32.ofInt v2)), (3, .ref (ad v3))]) hC.1 hC.2.1 dL_timeOn_17 hl (by decide) rfl (fun ls hl => ?_)
      refine pw_iconst hC dL_timeOn_19 ?_
      cases hF
      exact pw_iretM hC hR (Nat.le_of_ble_eq_true rfl) (Nat.le_of_ble_eq_true rfl) dL_timeOn_20
    rw [if_neg k1] at hF
    cases hF
abbrev rmL_run : Room := { frames := 10, cells := 2, slots := 12, locals := 193 }
def FL_run (h : PH) (v0 : Nat) (v1 : Int) (v2 : Nat) : Option (Int × PH) :=
  (FX7_run h v0 v1).bind fun q1 =>
  if q1.1 = 0 then ((ast 3 q1.2.2 v2 0 (w32 q1.2.1)).bind fun h2 => some (0, h2))
  else if q1.1 = 2 then some (1, q1.2.2)
  else if q1.1 = 3 then some (2, q1.2.2)
  else none
set_option maxHeartbeats 4000000 in
set_option maxRecDepth 100000 in
theorem CL_run {g : GP} {l : Launch} (hst : l.stackTraces = false) {ad : Nat → Nat} {h : PH} {v0 : Nat} {v1 : Int} {v2 : Nat} {q : Int × PH} (hF : FL_run h v0 v1 v2 = some q) : CW g l yL_run cL_run 4 (some .int) [(0, 9, 12, 13), (0, 9, 15, 64)] rmL_run ad h [.ref (ad v0), .int (Int32.ofInt v1), .ref (ad v2)] (some (.int (Int32.ofInt q.1))) q.2 := by
  refine pw_metW (by decide) (Nat.le_of_ble_eq_true rfl) ?_
  intro p e s m args below meth c ls hC htab hR hl
  have hl : lv_has ls 4 [(0, .ref (ad v0)), (1, .int (Int32.ofInt v1)), (2, .ref (ad v2))] := hl
  unfold FL_run at hF
  obtain ⟨q1, e1, hF⟩ := bnd hF
  obtain ⟨fs1, ho1⟩ := OX7_run e1
  refine lv_aload_n hC.1 hC.2.1 dL_run_0 rfl (lv_at hl 2 rfl) ?_
  refine pw_iconst hC dL_run_1 ?_
  refine lv_aload_n hC.1 hC.2.1 dL_run_2 rfl (lv_at hl 0 rfl) ?_
  refine lv_iload_n hC.1 hC.2.1 dL_run_3 rfl (lv_at hl 1 rfl) ?_
  refine pw_cVTi (rest := [.int (Int32.ofInt 0), .ref (ad v2)]) hC hR lvL_66 ho1 (CX7_run hst e1) rfl hl.1 rfl ⟨(Nat.le_of_ble_eq_true rfl), (Nat.le_of_ble_eq_true rfl)⟩ (Nat.le_of_ble_eq_true rfl) dL_run_4 ⟨(Nat.le_of_ble_eq_true rfl), (Nat.le_of_ble_eq_true rfl)⟩ (fun hk H locs hR => ?_) (fun hk H locs q9 ce hR h1 h2 h3 => ?_)
  · rw [if_pos hk] at hF
    refine pw_i2l hC dL_run_7 ?_
    obtain ⟨h2, e2, hF⟩ := bnd hF
    refine pw_last hC hR e2 dL_run_8 (fun H locs hR => ?_)
    refine pw_goto hC 18 dL_run_9 (by decide) ?_
    refine pw_iconst hC dL_run_18 ?_
    cases hF
    exact pw_iretM hC hR (Nat.le_of_ble_eq_true rfl) (Nat.le_of_ble_eq_true rfl) dL_run_19
  · rw [if_neg hk] at hF
    by_cases k0 : q1.1 = 2
    · rw [if_pos k0] at hF
      rw [k0] at h3
      refine vx_catch hC.2.2.2.1 [] ⟨0, 9, 12, 13⟩ [⟨0, 9, 15, 64⟩] (htab.trans rfl) (fun z hz => nomatch hz) (by decide) (by decide) (hC.2.2.2.2.1 _ clL_13) (va_Nw.use rfl hC.stA.1.1) h1 h2 h3 ?_
      refine lv_astore_n (lv' := [(3, .ref q9), (0, .ref (ad v0)), (1, .int (Int32.ofInt v1)), (2, .ref (ad v2))]) hC.1 hC.2.1 dL_run_12 rfl hl (by decide) rfl (fun ls hl => ?_)
      refine pw_iconst hC dL_run_13 ?_
      cases hF
      exact pw_iretM hC hR (Nat.le_of_ble_eq_true rfl) (Nat.le_of_ble_eq_true rfl) dL_run_14
    rw [if_neg k0] at hF
    by_cases k1 : q1.1 = 3
    · rw [if_pos k1] at hF
      rw [k1] at h3
      refine vx_catch hC.2.2.2.1 [⟨0, 9, 12, 13⟩] ⟨0, 9, 15, 64⟩ [] (htab.trans rfl) (List.forall_mem_cons.mpr ⟨Or.inr ⟨by decide, xI, hC.2.2.2.2.1 _ clL_13, hC.stA.2.2.1⟩, (fun _ h => nomatch h)⟩) (by decide) (by decide) (hC.2.2.2.2.1 _ clL_64) (va_Nw.use rfl hC.stA.1.2.1) h1 h2 h3 ?_
      refine lv_astore_n (lv' := [(3, .ref q9), (0, .ref (ad v0)), (1, .int (Int32.ofInt v1)), (2, .ref (ad v2))]) hC.1 hC.2.1 dL_run_15 rfl hl (by decide) rfl (fun ls hl => ?_)
      refine pw_iconst hC dL_run_16 ?_
      cases hF
      exact pw_iretM hC hR (Nat.le_of_ble_eq_true rfl) (Nat.le_of_ble_eq_true rfl) dL_run_17
    rw [if_neg k1] at hF
    cases hF
abbrev rmL_submit : Room := { frames := 10, cells := 3, slots := 18, locals := 194 }
def FL_submit (h : PH) (v0 : Nat) (v1 : Int) (v2 : Int) (v3 : Int) (v4 : Nat) : Option (Int × PH) :=
  (FX7_submit h v0 v1 v2 v3).bind fun q1 =>
  if q1.1 = 0 then ((ast 3 q1.2.2 v4 0 (w32 q1.2.1)).bind fun h2 => some (0, h2))
  else if q1.1 = 1 then some (1, q1.2.2)
  else if q1.1 = 2 then some (2, q1.2.2)
  else if q1.1 = 3 then some (3, q1.2.2)
  else none
set_option maxHeartbeats 4000000 in
set_option maxRecDepth 100000 in
theorem CL_submit {g : GP} {l : Launch} (hst : l.stackTraces = false) {ad : Nat → Nat} {h : PH} {v0 : Nat} {v1 : Int} {v2 : Int} {v3 : Int} {v4 : Nat} {q : Int × PH} (hF : FL_submit h v0 v1 v2 v3 v4 = some q) : CW g l yL_submit cL_submit 6 (some .int) [(0, 12, 15, 18), (0, 12, 19, 13), (0, 12, 23, 64)] rmL_submit ad h [.ref (ad v0), .int (Int32.ofInt v1), .int (Int32.ofInt v2), .int (Int32.ofInt v3), .ref (ad v4)] (some (.int (Int32.ofInt q.1))) q.2 := by
  refine pw_metW (by decide) (Nat.le_of_ble_eq_true rfl) ?_
  intro p e s m args below meth c ls hC htab hR hl
  have hl : lv_has ls 6 [(0, .ref (ad v0)), (1, .int (Int32.ofInt v1)), (2, .int (Int32.ofInt v2)), (3, .int (Int32.ofInt v3)), (4, .ref (ad v4))] := hl
  unfold FL_submit at hF
  obtain ⟨q1, e1, hF⟩ := bnd hF
  obtain ⟨fs1, ho1⟩ := OX7_submit e1
  refine lv_aload hC.1 hC.2.1 dL_submit_0 (lv_at hl 4 rfl) ?_
  refine pw_iconst hC dL_submit_2 ?_
  refine lv_aload_n hC.1 hC.2.1 dL_submit_3 rfl (lv_at hl 0 rfl) ?_
  refine lv_iload_n hC.1 hC.2.1 dL_submit_4 rfl (lv_at hl 1 rfl) ?_
  refine lv_iload_n hC.1 hC.2.1 dL_submit_5 rfl (lv_at hl 2 rfl) ?_
  refine lv_iload_n hC.1 hC.2.1 dL_submit_6 rfl (lv_at hl 3 rfl) ?_
  refine pw_cVTi (rest := [.int (Int32.ofInt 0), .ref (ad v4)]) hC hR lvL_69 ho1 (CX7_submit hst e1) rfl hl.1 rfl ⟨(Nat.le_of_ble_eq_true rfl), (Nat.le_of_ble_eq_true rfl)⟩ (Nat.le_of_ble_eq_true rfl) dL_submit_7 ⟨(Nat.le_of_ble_eq_true rfl), (Nat.le_of_ble_eq_true rfl)⟩ (fun hk H locs hR => ?_) (fun hk H locs q9 ce hR h1 h2 h3 => ?_)
  · rw [if_pos hk] at hF
    refine pw_i2l hC dL_submit_10 ?_
    obtain ⟨h2, e2, hF⟩ := bnd hF
    refine pw_last hC hR e2 dL_submit_11 (fun H locs hR => ?_)
    refine pw_goto hC 27 dL_submit_12 (by decide) ?_
    refine pw_iconst hC dL_submit_27 ?_
    cases hF
    exact pw_iretM hC hR (Nat.le_of_ble_eq_true rfl) (Nat.le_of_ble_eq_true rfl) dL_submit_28
  · rw [if_neg hk] at hF
    by_cases k0 : q1.1 = 1
    · rw [if_pos k0] at hF
      rw [k0] at h3
      refine vx_catch hC.2.2.2.1 [] ⟨0, 12, 15, 18⟩ [⟨0, 12, 19, 13⟩, ⟨0, 12, 23, 64⟩] (htab.trans rfl) (fun z hz => nomatch hz) (by decide) (by decide) (hC.2.2.2.2.1 _ clL_18) (va_Nw.use rfl hC.stA.1.2.2) h1 h2 h3 ?_
      refine lv_astore (lv' := [(5, .ref q9), (0, .ref (ad v0)), (1, .int (Int32.ofInt v1)), (2, .int (Int32.ofInt v2)), (3, .int (Int32.ofInt v3)), (4, .ref (ad v4))]) hC.1 hC.2.1 dL_submit_15 hl (by decide) rfl (fun ls hl => ?_)
      refine pw_iconst hC dL_submit_17 ?_
      cases hF
      exact pw_iretM hC hR (Nat.le_of_ble_eq_true rfl) (Nat.le_of_ble_eq_true rfl) dL_submit_18
    rw [if_neg k0] at hF
    by_cases k1 : q1.1 = 2
    · rw [if_pos k1] at hF
      rw [k1] at h3
      refine vx_catch hC.2.2.2.1 [⟨0, 12, 15, 18⟩] ⟨0, 12, 19, 13⟩ [⟨0, 12, 23, 64⟩] (htab.trans rfl) (List.forall_mem_cons.mpr ⟨Or.inr ⟨by decide, xB, hC.2.2.2.2.1 _ clL_18, hC.stA.2.2.2.1⟩, (fun _ h => nomatch h)⟩) (by decide) (by decide) (hC.2.2.2.2.1 _ clL_13) (va_Nw.use rfl hC.stA.1.1) h1 h2 h3 ?_
      refine lv_astore (lv' := [(5, .ref q9), (0, .ref (ad v0)), (1, .int (Int32.ofInt v1)), (2, .int (Int32.ofInt v2)), (3, .int (Int32.ofInt v3)), (4, .ref (ad v4))]) hC.1 hC.2.1 dL_submit_19 hl (by decide) rfl (fun ls hl => ?_)
      refine pw_iconst hC dL_submit_21 ?_
      cases hF
      exact pw_iretM hC hR (Nat.le_of_ble_eq_true rfl) (Nat.le_of_ble_eq_true rfl) dL_submit_22
    rw [if_neg k1] at hF
    by_cases k2 : q1.1 = 3
    · rw [if_pos k2] at hF
      rw [k2] at h3
      refine vx_catch hC.2.2.2.1 [⟨0, 12, 15, 18⟩, ⟨0, 12, 19, 13⟩] ⟨0, 12, 23, 64⟩ [] (htab.trans rfl) (List.forall_mem_cons.mpr ⟨Or.inr ⟨by decide, xB, hC.2.2.2.2.1 _ clL_18, hC.stA.2.2.2.2⟩, (List.forall_mem_cons.mpr ⟨Or.inr ⟨by decide, xI, hC.2.2.2.2.1 _ clL_13, hC.stA.2.2.1⟩, (fun _ h => nomatch h)⟩)⟩) (by decide) (by decide) (hC.2.2.2.2.1 _ clL_64) (va_Nw.use rfl hC.stA.1.2.1) h1 h2 h3 ?_
      refine lv_astore (lv' := [(5, .ref q9), (0, .ref (ad v0)), (1, .int (Int32.ofInt v1)), (2, .int (Int32.ofInt v2)), (3, .int (Int32.ofInt v3)), (4, .ref (ad v4))]) hC.1 hC.2.1 dL_submit_23 hl (by decide) rfl (fun ls hl => ?_)
      refine pw_iconst hC dL_submit_25 ?_
      cases hF
      exact pw_iretM hC hR (Nat.le_of_ble_eq_true rfl) (Nat.le_of_ble_eq_true rfl) dL_submit_26
    rw [if_neg k2] at hF
    cases hF
abbrev rmL_depend : Room := { frames := 10, cells := 2, slots := 12, locals := 194 }
def FL_depend (h : PH) (v0 : Nat) (v1 : Int) (v2 : Int) (v3 : Nat) : Option (Int × PH) :=
  (FX7_depend h v0 v1 v2).bind fun q1 =>
  if q1.1 = 0 then ((ast 3 q1.2.2 v3 0 (w32 q1.2.1)).bind fun h2 => some (0, h2))
  else if q1.1 = 1 then some (1, q1.2.2)
  else if q1.1 = 2 then some (2, q1.2.2)
  else if q1.1 = 3 then some (3, q1.2.2)
  else none
set_option maxHeartbeats 4000000 in
set_option maxRecDepth 100000 in
theorem CL_depend {g : GP} {l : Launch} (hst : l.stackTraces = false) {ad : Nat → Nat} {h : PH} {v0 : Nat} {v1 : Int} {v2 : Int} {v3 : Nat} {q : Int × PH} (hF : FL_depend h v0 v1 v2 v3 = some q) : CW g l yL_depend cL_depend 5 (some .int) [(0, 10, 13, 18), (0, 10, 17, 13), (0, 10, 21, 64)] rmL_depend ad h [.ref (ad v0), .int (Int32.ofInt v1), .int (Int32.ofInt v2), .ref (ad v3)] (some (.int (Int32.ofInt q.1))) q.2 := by
  refine pw_metW (by decide) (Nat.le_of_ble_eq_true rfl) ?_
  intro p e s m args below meth c ls hC htab hR hl
  have hl : lv_has ls 5 [(0, .ref (ad v0)), (1, .int (Int32.ofInt v1)), (2, .int (Int32.ofInt v2)), (3, .ref (ad v3))] := hl
  unfold FL_depend at hF
  obtain ⟨q1, e1, hF⟩ := bnd hF
  obtain ⟨fs1, ho1⟩ := OX7_depend e1
  refine lv_aload_n hC.1 hC.2.1 dL_depend_0 rfl (lv_at hl 3 rfl) ?_
  refine pw_iconst hC dL_depend_1 ?_
  refine lv_aload_n hC.1 hC.2.1 dL_depend_2 rfl (lv_at hl 0 rfl) ?_
  refine lv_iload_n hC.1 hC.2.1 dL_depend_3 rfl (lv_at hl 1 rfl) ?_
  refine lv_iload_n hC.1 hC.2.1 dL_depend_4 rfl (lv_at hl 2 rfl) ?_
  refine pw_cVTi (rest := [.int (Int32.ofInt 0), .ref (ad v3)]) hC hR lvL_73 ho1 (CX7_depend hst e1) rfl hl.1 rfl ⟨(Nat.le_of_ble_eq_true rfl), (Nat.le_of_ble_eq_true rfl)⟩ (Nat.le_of_ble_eq_true rfl) dL_depend_5 ⟨(Nat.le_of_ble_eq_true rfl), (Nat.le_of_ble_eq_true rfl)⟩ (fun hk H locs hR => ?_) (fun hk H locs q9 ce hR h1 h2 h3 => ?_)
  · rw [if_pos hk] at hF
    refine pw_i2l hC dL_depend_8 ?_
    obtain ⟨h2, e2, hF⟩ := bnd hF
    refine pw_last hC hR e2 dL_depend_9 (fun H locs hR => ?_)
    refine pw_goto hC 25 dL_depend_10 (by decide) ?_
    refine pw_iconst hC dL_depend_25 ?_
    cases hF
    exact pw_iretM hC hR (Nat.le_of_ble_eq_true rfl) (Nat.le_of_ble_eq_true rfl) dL_depend_26
  · rw [if_neg hk] at hF
    by_cases k0 : q1.1 = 1
    · rw [if_pos k0] at hF
      rw [k0] at h3
      refine vx_catch hC.2.2.2.1 [] ⟨0, 10, 13, 18⟩ [⟨0, 10, 17, 13⟩, ⟨0, 10, 21, 64⟩] (htab.trans rfl) (fun z hz => nomatch hz) (by decide) (by decide) (hC.2.2.2.2.1 _ clL_18) (va_Nw.use rfl hC.stA.1.2.2) h1 h2 h3 ?_
      refine lv_astore (lv' := [(4, .ref q9), (0, .ref (ad v0)), (1, .int (Int32.ofInt v1)), (2, .int (Int32.ofInt v2)), (3, .ref (ad v3))]) hC.1 hC.2.1 dL_depend_13 hl (by decide) rfl (fun ls hl => ?_)
      refine pw_iconst hC dL_depend_15 ?_
      cases hF
      exact pw_iretM hC hR (Nat.le_of_ble_eq_true rfl) (Nat.le_of_ble_eq_true rfl) dL_depend_16
    rw [if_neg k0] at hF
    by_cases k1 : q1.1 = 2
    · rw [if_pos k1] at hF
      rw [k1] at h3
      refine vx_catch hC.2.2.2.1 [⟨0, 10, 13, 18⟩] ⟨0, 10, 17, 13⟩ [⟨0, 10, 21, 64⟩] (htab.trans rfl) (List.forall_mem_cons.mpr ⟨Or.inr ⟨by decide, xB, hC.2.2.2.2.1 _ clL_18, hC.stA.2.2.2.1⟩, (fun _ h => nomatch h)⟩) (by decide) (by decide) (hC.2.2.2.2.1 _ clL_13) (va_Nw.use rfl hC.stA.1.1) h1 h2 h3 ?_
      refine lv_astore (lv' := [(4, .ref q9), (0, .ref (ad v0)), (1, .int (Int32.ofInt v1)), (2, .int (Int32.ofInt v2)), (3, .ref (ad v3))]) hC.1 hC.2.1 dL_depend_17 hl (by decide) rfl (fun ls hl => ?_)
      refine pw_iconst hC dL_depend_19 ?_
      cases hF
      exact pw_iretM hC hR (Nat.le_of_ble_eq_true rfl) (Nat.le_of_ble_eq_true rfl) dL_depend_20
    rw [if_neg k1] at hF
    by_cases k2 : q1.1 = 3
    · rw [if_pos k2] at hF
      rw [k2] at h3
      refine vx_catch hC.2.2.2.1 [⟨0, 10, 13, 18⟩, ⟨0, 10, 17, 13⟩] ⟨0, 10, 21, 64⟩ [] (htab.trans rfl) (List.forall_mem_cons.mpr ⟨Or.inr ⟨by decide, xB, hC.2.2.2.2.1 _ clL_18, hC.stA.2.2.2.2⟩, (List.forall_mem_cons.mpr ⟨Or.inr ⟨by decide, xI, hC.2.2.2.2.1 _ clL_13, hC.stA.2.2.1⟩, (fun _ h => nomatch h)⟩)⟩) (by decide) (by decide) (hC.2.2.2.2.1 _ clL_64) (va_Nw.use rfl hC.stA.1.2.1) h1 h2 h3 ?_
      refine lv_astore (lv' := [(4, .ref q9), (0, .ref (ad v0)), (1, .int (Int32.ofInt v1)), (2, .int (Int32.ofInt v2)), (3, .ref (ad v3))]) hC.1 hC.2.1 dL_depend_21 hl (by decide) rfl (fun ls hl => ?_)
      refine pw_iconst hC dL_depend_23 ?_
      cases hF
      exact pw_iretM hC hR (Nat.le_of_ble_eq_true rfl) (Nat.le_of_ble_eq_true rfl) dL_depend_24
    rw [if_neg k2] at hF
    cases hF
abbrev rmL_cancel : Room := { frames := 10, cells := 2, slots := 12, locals := 193 }
def FL_cancel (h : PH) (v0 : Nat) (v1 : Int) (v2 : Nat) : Option (Int × PH) :=
  (FX7_cancel h v0 v1).bind fun q1 =>
  if q1.1 = 0 then ((ast 3 q1.2.2 v2 0 (w32 q1.2.1)).bind fun h2 => some (0, h2))
  else if q1.1 = 1 then some (1, q1.2.2)
  else if q1.1 = 3 then some (2, q1.2.2)
  else none
set_option maxHeartbeats 4000000 in
set_option maxRecDepth 100000 in
theorem CL_cancel {g : GP} {l : Launch} (hst : l.stackTraces = false) {ad : Nat → Nat} {h : PH} {v0 : Nat} {v1 : Int} {v2 : Nat} {q : Int × PH} (hF : FL_cancel h v0 v1 v2 = some q) : CW g l yL_cancel cL_cancel 4 (some .int) [(0, 9, 12, 18), (0, 9, 15, 64)] rmL_cancel ad h [.ref (ad v0), .int (Int32.ofInt v1), .ref (ad v2)] (some (.int (Int32.ofInt q.1))) q.2 := by
  refine pw_metW (by decide) (Nat.le_of_ble_eq_true rfl) ?_
  intro p e s m args below meth c ls hC htab hR hl
  have hl : lv_has ls 4 [(0, .ref (ad v0)), (1, .int (Int32.ofInt v1)), (2, .ref (ad v2))] := hl
  unfold FL_cancel at hF
  obtain ⟨q1, e1, hF⟩ := bnd hF
  obtain ⟨fs1, ho1⟩ := OX7_cancel e1
  refine lv_aload_n hC.1 hC.2.1 dL_cancel_0 rfl (lv_at hl 2 rfl) ?_
  refine pw_iconst hC dL_cancel_1 ?_
  refine lv_aload_n hC.1 hC.2.1 dL_cancel_2 rfl (lv_at hl 0 rfl) ?_
  refine lv_iload_n hC.1 hC.2.1 dL_cancel_3 rfl (lv_at hl 1 rfl) ?_
  refine pw_cVTi (rest := [.int (Int32.ofInt 0), .ref (ad v2)]) hC hR lvL_76 ho1 (CX7_cancel hst e1) rfl hl.1 rfl ⟨(Nat.le_of_ble_eq_true rfl), (Nat.le_of_ble_eq_true rfl)⟩ (Nat.le_of_ble_eq_true rfl) dL_cancel_4 ⟨(Nat.le_of_ble_eq_true rfl), (Nat.le_of_ble_eq_true rfl)⟩ (fun hk H locs hR => ?_) (fun hk H locs q9 ce hR h1 h2 h3 => ?_)
  · rw [if_pos hk] at hF
    refine pw_i2l hC dL_cancel_7 ?_
    obtain ⟨h2, e2, hF⟩ := bnd hF
    refine pw_last hC hR e2 dL_cancel_8 (fun H locs hR => ?_)
    refine pw_goto hC 18 dL_cancel_9 (by decide) ?_
    refine pw_iconst hC dL_cancel_18 ?_
    cases hF
    exact pw_iretM hC hR (Nat.le_of_ble_eq_true rfl) (Nat.le_of_ble_eq_true rfl) dL_cancel_19
  · rw [if_neg hk] at hF
    by_cases k0 : q1.1 = 1
    · rw [if_pos k0] at hF
      rw [k0] at h3
      refine vx_catch hC.2.2.2.1 [] ⟨0, 9, 12, 18⟩ [⟨0, 9, 15, 64⟩] (htab.trans rfl) (fun z hz => nomatch hz) (by decide) (by decide) (hC.2.2.2.2.1 _ clL_18) (va_Nw.use rfl hC.stA.1.2.2) h1 h2 h3 ?_
      refine lv_astore_n (lv' := [(3, .ref q9), (0, .ref (ad v0)), (1, .int (Int32.ofInt v1)), (2, .ref (ad v2))]) hC.1 hC.2.1 dL_cancel_12 rfl hl (by decide) rfl (fun ls hl => ?_)
      refine pw_iconst hC dL_cancel_13 ?_
      cases hF
      exact pw_iretM hC hR (Nat.le_of_ble_eq_true rfl) (Nat.le_of_ble_eq_true rfl) dL_cancel_14
    rw [if_neg k0] at hF
    by_cases k1 : q1.1 = 3
    · rw [if_pos k1] at hF
      rw [k1] at h3
      refine vx_catch hC.2.2.2.1 [⟨0, 9, 12, 18⟩] ⟨0, 9, 15, 64⟩ [] (htab.trans rfl) (List.forall_mem_cons.mpr ⟨Or.inr ⟨by decide, xB, hC.2.2.2.2.1 _ clL_18, hC.stA.2.2.2.2⟩, (fun _ h => nomatch h)⟩) (by decide) (by decide) (hC.2.2.2.2.1 _ clL_64) (va_Nw.use rfl hC.stA.1.2.1) h1 h2 h3 ?_
      refine lv_astore_n (lv' := [(3, .ref q9), (0, .ref (ad v0)), (1, .int (Int32.ofInt v1)), (2, .ref (ad v2))]) hC.1 hC.2.1 dL_cancel_15 rfl hl (by decide) rfl (fun ls hl => ?_)
      refine pw_iconst hC dL_cancel_16 ?_
      cases hF
      exact pw_iretM hC hR (Nat.le_of_ble_eq_true rfl) (Nat.le_of_ble_eq_true rfl) dL_cancel_17
    rw [if_neg k1] at hF
    cases hF
abbrev rmL_setPriority : Room := { frames := 10, cells := 3, slots := 18, locals := 194 }
def FL_setPriority (h : PH) (v0 : Nat) (v1 : Int) (v2 : Int) (v3 : Nat) : Option (Int × PH) :=
  (FX7_setPriority h v0 v1 v2).bind fun q1 =>
  if q1.1 = 0 then ((ast 3 q1.2.2 v3 0 (w32 q1.2.1)).bind fun h2 => some (0, h2))
  else if q1.1 = 1 then some (1, q1.2.2)
  else if q1.1 = 2 then some (2, q1.2.2)
  else none
set_option maxHeartbeats 4000000 in
set_option maxRecDepth 100000 in
theorem CL_setPriority {g : GP} {l : Launch} (hst : l.stackTraces = false) {ad : Nat → Nat} {h : PH} {v0 : Nat} {v1 : Int} {v2 : Int} {v3 : Nat} {q : Int × PH} (hF : FL_setPriority h v0 v1 v2 v3 = some q) : CW g l yL_setPriority cL_setPriority 5 (some .int) [(0, 10, 13, 18), (0, 10, 17, 13)] rmL_setPriority ad h [.ref (ad v0), .int (Int32.ofInt v1), .int (Int32.ofInt v2), .ref (ad v3)] (some (.int (Int32.ofInt q.1))) q.2 := by
  refine pw_metW (by decide) (Nat.le_of_ble_eq_true rfl) ?_
  intro p e s m args below meth c ls hC htab hR hl
  have hl : lv_has ls 5 [(0, .ref (ad v0)), (1, .int (Int32.ofInt v1)), (2, .int (Int32.ofInt v2)), (3, .ref (ad v3))] := hl
  unfold FL_setPriority at hF
  obtain ⟨q1, e1, hF⟩ := bnd hF
  obtain ⟨fs1, ho1⟩ := OX7_setPriority e1
  refine lv_aload_n hC.1 hC.2.1 dL_setPriority_0 rfl (lv_at hl 3 rfl) ?_
  refine pw_iconst hC dL_setPriority_1 ?_
  refine lv_aload_n hC.1 hC.2.1 dL_setPriority_2 rfl (lv_at hl 0 rfl) ?_
  refine lv_iload_n hC.1 hC.2.1 dL_setPriority_3 rfl (lv_at hl 1 rfl) ?_
  refine lv_iload_n hC.1 hC.2.1 dL_setPriority_4 rfl (lv_at hl 2 rfl) ?_
  refine pw_cVTi (rest := [.int (Int32.ofInt 0), .ref (ad v3)]) hC hR lvL_79 ho1 (CX7_setPriority hst e1) rfl hl.1 rfl ⟨(Nat.le_of_ble_eq_true rfl), (Nat.le_of_ble_eq_true rfl)⟩ (Nat.le_of_ble_eq_true rfl) dL_setPriority_5 ⟨(Nat.le_of_ble_eq_true rfl), (Nat.le_of_ble_eq_true rfl)⟩ (fun hk H locs hR => ?_) (fun hk H locs q9 ce hR h1 h2 h3 => ?_)
  · rw [if_pos hk] at hF
    refine pw_i2l hC dL_setPriority_8 ?_
    obtain ⟨h2, e2, hF⟩ := bnd hF
    refine pw_last hC hR e2 dL_setPriority_9 (fun H locs hR => ?_)
    refine pw_goto hC 21 dL_setPriority_10 (by decide) ?_
    refine pw_iconst hC dL_setPriority_21 ?_
    cases hF
    exact pw_iretM hC hR (Nat.le_of_ble_eq_true rfl) (Nat.le_of_ble_eq_true rfl) dL_setPriority_22
  · rw [if_neg hk] at hF
    by_cases k0 : q1.1 = 1
    · rw [if_pos k0] at hF
      rw [k0] at h3
      refine vx_catch hC.2.2.2.1 [] ⟨0, 10, 13, 18⟩ [⟨0, 10, 17, 13⟩] (htab.trans rfl) (fun z hz => nomatch hz) (by decide) (by decide) (hC.2.2.2.2.1 _ clL_18) (va_Nw.use rfl hC.stA.1.2.2) h1 h2 h3 ?_
      refine lv_astore (lv' := [(4, .ref q9), (0, .ref (ad v0)), (1, .int (Int32.ofInt v1)), (2, .int (Int32.ofInt v2)), (3, .ref (ad v3))]) hC.1 hC.2.1 dL_setPriority_13 hl (by decide) rfl (fun ls hl => ?_)
      refine pw_iconst hC dL_setPriority_15 ?_
      cases hF
      exact pw_iretM hC hR (Nat.le_of_ble_eq_true rfl) (Nat.le_of_ble_eq_true rfl) dL_setPriority_16
    rw [if_neg k0] at hF
    by_cases k1 : q1.1 = 2
    · rw [if_pos k1] at hF
      rw [k1] at h3
      refine vx_catch hC.2.2.2.1 [⟨0, 10, 13, 18⟩] ⟨0, 10, 17, 13⟩ [] (htab.trans rfl) (List.forall_mem_cons.mpr ⟨Or.inr ⟨by decide, xB, hC.2.2.2.2.1 _ clL_18, hC.stA.2.2.2.1⟩, (fun _ h => nomatch h)⟩) (by decide) (by decide) (hC.2.2.2.2.1 _ clL_13) (va_Nw.use rfl hC.stA.1.1) h1 h2 h3 ?_
      refine lv_astore (lv' := [(4, .ref q9), (0, .ref (ad v0)), (1, .int (Int32.ofInt v1)), (2, .int (Int32.ofInt v2)), (3, .ref (ad v3))]) hC.1 hC.2.1 dL_setPriority_17 hl (by decide) rfl (fun ls hl => ?_)
      refine pw_iconst hC dL_setPriority_19 ?_
      cases hF
      exact pw_iretM hC hR (Nat.le_of_ble_eq_true rfl) (Nat.le_of_ble_eq_true rfl) dL_setPriority_20
    rw [if_neg k1] at hF
    cases hF
abbrev rmL_pause : Room := { frames := 10, cells := 2, slots := 12, locals := 194 }
def FL_pause (h : PH) (v0 : Nat) (v1 : Int) (v2 : Int) (v3 : Nat) : Option (Int × PH) :=
  (FX7_pause h v0 v1 v2).bind fun q1 =>
  if q1.1 = 0 then (if w32 q1.2.1 = 0 then ((ast 3 q1.2.2 v3 0 0).bind fun h2 => some (0, h2)) else ((ast 3 q1.2.2 v3 0 1).bind fun h2 => some (0, h2)))
  else if q1.1 = 1 then some (1, q1.2.2)
  else none
set_option maxHeartbeats 4000000 in
set_option maxRecDepth 100000 in
theorem CL_pause {g : GP} {l : Launch} (hst : l.stackTraces = false) {ad : Nat → Nat} {h : PH} {v0 : Nat} {v1 : Int} {v2 : Int} {v3 : Nat} {q : Int × PH} (hF : FL_pause h v0 v1 v2 v3 = some q) : CW g l yL_pause cL_pause 5 (some .int) [(0, 17, 20, 18)] rmL_pause ad h [.ref (ad v0), .int (Int32.ofInt v1), .int (Int32.ofInt v2), .ref (ad v3)] (some (.int (Int32.ofInt q.1))) q.2 := by
  refine pw_metW (by decide) (Nat.le_of_ble_eq_true rfl) ?_
  intro p e s m args below meth c ls hC htab hR hl
  have hl : lv_has ls 5 [(0, .ref (ad v0)), (1, .int (Int32.ofInt v1)), (2, .int (Int32.ofInt v2)), (3, .ref (ad v3))] := hl
  unfold FL_pause at hF
  obtain ⟨q1, e1, hF⟩ := bnd hF
  obtain ⟨fs1, ho1⟩ := OX7_pause e1
  refine lv_aload_n hC.1 hC.2.1 dL_pause_0 rfl (lv_at hl 3 rfl) ?_
  refine pw_iconst hC dL_pause_1 ?_
  refine lv_aload_n hC.1 hC.2.1 dL_pause_2 rfl (lv_at hl 0 rfl) ?_
  refine lv_iload_n hC.1 hC.2.1 dL_pause_3 rfl (lv_at hl 1 rfl) ?_
  refine lv_iload_n hC.1 hC.2.1 dL_pause_4 rfl (lv_at hl 2 rfl) ?_
  refine pw_cVTi (rest := [.int (Int32.ofInt 0), .ref (ad v3)]) hC hR lvL_82 ho1 (CX7_pause hst e1) rfl hl.1 rfl ⟨(Nat.le_of_ble_eq_true rfl), (Nat.le_of_ble_eq_true rfl)⟩ (Nat.le_of_ble_eq_true rfl) dL_pause_5 ⟨(Nat.le_of_ble_eq_true rfl), (Nat.le_of_ble_eq_true rfl)⟩ (fun hk H locs hR => ?_) (fun hk H locs q9 ce hR h1 h2 h3 => ?_)
  · rw [if_pos hk] at hF
    refine pw_ifeq hC 15 dL_pause_8 (by decide) (fun hc => ?_) (fun hc => ?_)
    · rw [if_pos hc] at hF
      refine pw_lconst hC 0 dL_pause_15 rfl ?_
      obtain ⟨h2, e2, hF⟩ := bnd hF
      refine pw_last hC hR e2 dL_pause_16 (fun H locs hR => ?_)
      refine pw_goto hC 24 dL_pause_17 (by decide) ?_
      refine pw_iconst hC dL_pause_24 ?_
      cases hF
      exact pw_iretM hC hR (Nat.le_of_ble_eq_true rfl) (Nat.le_of_ble_eq_true rfl) dL_pause_25
    · rw [if_neg hc] at hF
      refine pw_lconst hC 1 dL_pause_11 rfl ?_
      refine pw_goto hC 16 dL_pause_12 (by decide) ?_
      obtain ⟨h2, e2, hF⟩ := bnd hF
      refine pw_last hC hR e2 dL_pause_16 (fun H locs hR => ?_)
      refine pw_goto hC 24 dL_pause_17 (by decide) ?_
      refine pw_iconst hC dL_pause_24 ?_
      cases hF
      exact pw_iretM hC hR (Nat.le_of_ble_eq_true rfl) (Nat.le_of_ble_eq_true rfl) dL_pause_25
  · rw [if_neg hk] at hF
    by_cases k0 : q1.1 = 1
    · rw [if_pos k0] at hF
      rw [k0] at h3
      refine vx_catch hC.2.2.2.1 [] ⟨0, 17, 20, 18⟩ [] (htab.trans rfl) (fun z hz => nomatch hz) (by decide) (by decide) (hC.2.2.2.2.1 _ clL_18) (va_Nw.use rfl hC.stA.1.2.2) h1 h2 h3 ?_
      refine lv_astore (lv' := [(4, .ref q9), (0, .ref (ad v0)), (1, .int (Int32.ofInt v1)), (2, .int (Int32.ofInt v2)), (3, .ref (ad v3))]) hC.1 hC.2.1 dL_pause_20 hl (by decide) rfl (fun ls hl => ?_)
      refine pw_iconst hC dL_pause_22 ?_
      cases hF
      exact pw_iretM hC hR (Nat.le_of_ble_eq_true rfl) (Nat.le_of_ble_eq_true rfl) dL_pause_23
    rw [if_neg k0] at hF
    cases hF
