section
variable {p : Program} {l : Launch} {e : Env} {s : State} {m : MethodId} {args : Array Value} {below : List Frame} {meth : Method} {c : Code} {H : Heap} {locs : List Loc} {ls : Array Slot} {g : GP} {ad : Nat → Nat}
abbrev rmX7_running : Room := { frames := 9, cells := 2, slots := 12, locals := 171 }
def FX7_running (h : PH) (v0 : Nat) (v1 : Int) : Option (Nat × Int) :=
  (isO h 7 v0).bind fun _ =>
  (FX7_requireCore h v0 v1).bind fun x1 =>
  if x1 = 0 then (
    (gfr h 7 v0 1).bind fun x2 =>
    (gfr h 3 x2 1).bind fun x3 =>
    (gfr h 0 x3 5).bind fun x4 =>
    (ald 0 h x4 v1).bind fun x5 =>
    some (0, x5)
  ) else (some (x1, 0))
theorem OX7_running {h : PH} {v0 : Nat} {v1 : Int} {q : Nat × Int} (hF : FX7_running h v0 v1 = some q) : ∃ fs : List PV, h[v0]? = some (.inr (7, fs)) := by
  unfold FX7_running at hF
  obtain ⟨u0, e0, -⟩ := bnd hF
  exact isO_spec e0
set_option maxHeartbeats 4000000 in
set_option maxRecDepth 100000 in
theorem CX7_running {g : GP} {l : Launch} (hst : l.stackTraces = false) {ad : Nat → Nat} {h : PH} {v0 : Nat} {v1 : Int} {q : Nat × Int} (hF : FX7_running h v0 v1 = some q) : CT g l yX7_running cX7_running 2 (some .int) rmX7_running ad h [.ref (ad v0), .int (Int32.ofInt v1)] q.1 (some (.int (Int32.ofInt q.2))) h := by
  refine pw_metT (by decide) (Nat.le_of_ble_eq_true rfl) ?_
  intro p e s m args below meth c ls hC hout hR hl
  have hl : lv_has ls 2 [(0, .ref (ad v0)), (1, .int (Int32.ofInt v1))] := hl
  unfold FX7_running at hF
  obtain ⟨u0, e0, hF⟩ := bnd hF
  refine lv_aload_n hC.1 hC.2.1 dX7_running_0 rfl (lv_at hl 0 rfl) ?_
  refine lv_iload_n hC.1 hC.2.1 dX7_running_1 rfl (lv_at hl 1 rfl) ?_
  obtain ⟨x1, e1, hF⟩ := bnd hF
  obtain ⟨fs1, ho1⟩ := OX7_requireCore e1
  refine pw_cVT (rest := []) hC hR lvX7_129 ho1 (CX7_requireCore hst e1) ⟨rfl, rfl⟩ rfl hl.1 rfl ⟨Nat.le_of_ble_eq_true rfl, Nat.le_of_ble_eq_true rfl⟩ (Nat.le_of_ble_eq_true rfl) dX7_running_2 ⟨Nat.le_of_ble_eq_true rfl, Nat.le_of_ble_eq_true rfl⟩ (fun hk H locs hR => ?_) (fun hk H locs q ce hR h1 h2 h3 => ?_)
  · rw [if_pos hk] at hF
    refine lv_aload_n hC.1 hC.2.1 dX7_running_5 rfl (lv_at hl 0 rfl) ?_
    obtain ⟨x2, e2, hF⟩ := bnd hF
    refine pw_gfr hC hR e2 flX7_19 dX7_running_6 ?_
    obtain ⟨x3, e3, hF⟩ := bnd hF
    refine pw_gfr hC hR e3 flX7_83 dX7_running_9 ?_
    obtain ⟨x4, e4, hF⟩ := bnd hF
    refine pw_gfr hC hR e4 flX7_140 dX7_running_12 ?_
    refine lv_iload_n hC.1 hC.2.1 dX7_running_15 rfl (lv_at hl 1 rfl) ?_
    obtain ⟨x5, e5, hF⟩ := bnd hF
    refine pw_iald hC hR e5 dX7_running_16 ?_
    cases hF
    exact pw_iretT hC hR (Nat.le_of_ble_eq_true rfl) (Nat.le_of_ble_eq_true rfl) dX7_running_17
  · rw [if_neg hk] at hF
    cases hF
    exact pw_thru hC hR hk hout h1 h2 h3 (Nat.le_of_ble_eq_true rfl) (Nat.le_of_ble_eq_true rfl)
abbrev rmX7_remaining : Room := { frames := 9, cells := 2, slots := 12, locals := 171 }
def FX7_remaining (h : PH) (v0 : Nat) (v1 : Int) : Option (Nat × Int) :=
  (isO h 7 v0).bind fun _ =>
  (FX7_requireCore h v0 v1).bind fun x1 =>
  if x1 = 0 then (
    (gfr h 7 v0 1).bind fun x2 =>
    (gfr h 3 x2 1).bind fun x3 =>
    (gfr h 0 x3 6).bind fun x4 =>
    (ald 0 h x4 v1).bind fun x5 =>
    some (0, x5)
  ) else (some (x1, 0))
theorem OX7_remaining {h : PH} {v0 : Nat} {v1 : Int} {q : Nat × Int} (hF : FX7_remaining h v0 v1 = some q) : ∃ fs : List PV, h[v0]? = some (.inr (7, fs)) := by
  unfold FX7_remaining at hF
  obtain ⟨u0, e0, -⟩ := bnd hF
  exact isO_spec e0
set_option maxHeartbeats 4000000 in
set_option maxRecDepth 100000 in
theorem CX7_remaining {g : GP} {l : Launch} (hst : l.stackTraces = false) {ad : Nat → Nat} {h : PH} {v0 : Nat} {v1 : Int} {q : Nat × Int} (hF : FX7_remaining h v0 v1 = some q) : CT g l yX7_remaining cX7_remaining 2 (some .int) rmX7_remaining ad h [.ref (ad v0), .int (Int32.ofInt v1)] q.1 (some (.int (Int32.ofInt q.2))) h := by
  refine pw_metT (by decide) (Nat.le_of_ble_eq_true rfl) ?_
  intro p e s m args below meth c ls hC hout hR hl
  have hl : lv_has ls 2 [(0, .ref (ad v0)), (1, .int (Int32.ofInt v1))] := hl
  unfold FX7_remaining at hF
  obtain ⟨u0, e0, hF⟩ := bnd hF
  refine lv_aload_n hC.1 hC.2.1 dX7_remaining_0 rfl (lv_at hl 0 rfl) ?_
  refine lv_iload_n hC.1 hC.2.1 dX7_remaining_1 rfl (lv_at hl 1 rfl) ?_
  obtain ⟨x1, e1, hF⟩ := bnd hF
  obtain ⟨fs1, ho1⟩ := OX7_requireCore e1
  refine pw_cVT (rest := []) hC hR lvX7_129 ho1 (CX7_requireCore hst e1) ⟨rfl, rfl⟩ rfl hl.1 rfl ⟨Nat.le_of_ble_eq_true rfl, Nat.le_of_ble_eq_true rfl⟩ (Nat.le_of_ble_eq_true rfl) dX7_remaining_2 ⟨Nat.le_of_ble_eq_true rfl, Nat.le_of_ble_eq_true rfl⟩ (fun hk H locs hR => ?_) (fun hk H locs q ce hR h1 h2 h3 => ?_)
  · rw [if_pos hk] at hF
    refine lv_aload_n hC.1 hC.2.1 dX7_remaining_5 rfl (lv_at hl 0 rfl) ?_
    obtain ⟨x2, e2, hF⟩ := bnd hF
    refine pw_gfr hC hR e2 flX7_19 dX7_remaining_6 ?_
    obtain ⟨x3, e3, hF⟩ := bnd hF
    refine pw_gfr hC hR e3 flX7_83 dX7_remaining_9 ?_
    obtain ⟨x4, e4, hF⟩ := bnd hF
    refine pw_gfr hC hR e4 flX7_143 dX7_remaining_12 ?_
    refine lv_iload_n hC.1 hC.2.1 dX7_remaining_15 rfl (lv_at hl 1 rfl) ?_
    obtain ⟨x5, e5, hF⟩ := bnd hF
    refine pw_iald hC hR e5 dX7_remaining_16 ?_
    cases hF
    exact pw_iretT hC hR (Nat.le_of_ble_eq_true rfl) (Nat.le_of_ble_eq_true rfl) dX7_remaining_17
  · rw [if_neg hk] at hF
    cases hF
    exact pw_thru hC hR hk hout h1 h2 h3 (Nat.le_of_ble_eq_true rfl) (Nat.le_of_ble_eq_true rfl)
abbrev rmX7_busy : Room := { frames := 9, cells := 2, slots := 12, locals := 171 }
def FX7_busy (h : PH) (v0 : Nat) (v1 : Int) : Option (Nat × Int) :=
  (isO h 7 v0).bind fun _ =>
  (FX7_requireCore h v0 v1).bind fun x1 =>
  if x1 = 0 then (
    (gfr h 7 v0 1).bind fun x2 =>
    (gfr h 3 x2 1).bind fun x3 =>
    (gfr h 0 x3 7).bind fun x4 =>
    (ald 0 h x4 v1).bind fun x5 =>
    some (0, x5)
  ) else (some (x1, 0))
theorem OX7_busy {h : PH} {v0 : Nat} {v1 : Int} {q : Nat × Int} (hF : FX7_busy h v0 v1 = some q) : ∃ fs : List PV, h[v0]? = some (.inr (7, fs)) := by
  unfold FX7_busy at hF
  obtain ⟨u0, e0, -⟩ := bnd hF
  exact isO_spec e0
set_option maxHeartbeats 4000000 in
set_option maxRecDepth 100000 in
theorem CX7_busy {g : GP} {l : Launch} (hst : l.stackTraces = false) {ad : Nat → Nat} {h : PH} {v0 : Nat} {v1 : Int} {q : Nat × Int} (hF : FX7_busy h v0 v1 = some q) : CT g l yX7_busy cX7_busy 2 (some .int) rmX7_busy ad h [.ref (ad v0), .int (Int32.ofInt v1)] q.1 (some (.int (Int32.ofInt q.2))) h := by
  refine pw_metT (by decide) (Nat.le_of_ble_eq_true rfl) ?_
  intro p e s m args below meth c ls hC hout hR hl
  have hl : lv_has ls 2 [(0, .ref (ad v0)), (1, .int (Int32.ofInt v1))] := hl
  unfold FX7_busy at hF
  obtain ⟨u0, e0, hF⟩ := bnd hF
  refine lv_aload_n hC.1 hC.2.1 dX7_busy_0 rfl (lv_at hl 0 rfl) ?_
  refine lv_iload_n hC.1 hC.2.1 dX7_busy_1 rfl (lv_at hl 1 rfl) ?_
  obtain ⟨x1, e1, hF⟩ := bnd hF
  obtain ⟨fs1, ho1⟩ := OX7_requireCore e1
  refine pw_cVT (rest := []) hC hR lvX7_129 ho1 (CX7_requireCore hst e1) ⟨rfl, rfl⟩ rfl hl.1 rfl ⟨Nat.le_of_ble_eq_true rfl, Nat.le_of_ble_eq_true rfl⟩ (Nat.le_of_ble_eq_true rfl) dX7_busy_2 ⟨Nat.le_of_ble_eq_true rfl, Nat.le_of_ble_eq_true rfl⟩ (fun hk H locs hR => ?_) (fun hk H locs q ce hR h1 h2 h3 => ?_)
  · rw [if_pos hk] at hF
    refine lv_aload_n hC.1 hC.2.1 dX7_busy_5 rfl (lv_at hl 0 rfl) ?_
    obtain ⟨x2, e2, hF⟩ := bnd hF
    refine pw_gfr hC hR e2 flX7_19 dX7_busy_6 ?_
    obtain ⟨x3, e3, hF⟩ := bnd hF
    refine pw_gfr hC hR e3 flX7_83 dX7_busy_9 ?_
    obtain ⟨x4, e4, hF⟩ := bnd hF
    refine pw_gfr hC hR e4 flX7_146 dX7_busy_12 ?_
    refine lv_iload_n hC.1 hC.2.1 dX7_busy_15 rfl (lv_at hl 1 rfl) ?_
    obtain ⟨x5, e5, hF⟩ := bnd hF
    refine pw_iald hC hR e5 dX7_busy_16 ?_
    cases hF
    exact pw_iretT hC hR (Nat.le_of_ble_eq_true rfl) (Nat.le_of_ble_eq_true rfl) dX7_busy_17
  · rw [if_neg hk] at hF
    cases hF
    exact pw_thru hC hR hk hout h1 h2 h3 (Nat.le_of_ble_eq_true rfl) (Nat.le_of_ble_eq_true rfl)
abbrev rmX7_steals : Room := { frames := 9, cells := 2, slots := 12, locals := 171 }
def FX7_steals (h : PH) (v0 : Nat) (v1 : Int) : Option (Nat × Int) :=
  (isO h 7 v0).bind fun _ =>
  (FX7_requireCore h v0 v1).bind fun x1 =>
  if x1 = 0 then (
    (gfr h 7 v0 1).bind fun x2 =>
    (gfr h 3 x2 1).bind fun x3 =>
    (gfr h 0 x3 8).bind fun x4 =>
    (ald 0 h x4 v1).bind fun x5 =>
    some (0, x5)
  ) else (some (x1, 0))
theorem OX7_steals {h : PH} {v0 : Nat} {v1 : Int} {q : Nat × Int} (hF : FX7_steals h v0 v1 = some q) : ∃ fs : List PV, h[v0]? = some (.inr (7, fs)) := by
  unfold FX7_steals at hF
  obtain ⟨u0, e0, -⟩ := bnd hF
  exact isO_spec e0
set_option maxHeartbeats 4000000 in
set_option maxRecDepth 100000 in
theorem CX7_steals {g : GP} {l : Launch} (hst : l.stackTraces = false) {ad : Nat → Nat} {h : PH} {v0 : Nat} {v1 : Int} {q : Nat × Int} (hF : FX7_steals h v0 v1 = some q) : CT g l yX7_steals cX7_steals 2 (some .int) rmX7_steals ad h [.ref (ad v0), .int (Int32.ofInt v1)] q.1 (some (.int (Int32.ofInt q.2))) h := by
  refine pw_metT (by decide) (Nat.le_of_ble_eq_true rfl) ?_
  intro p e s m args below meth c ls hC hout hR hl
  have hl : lv_has ls 2 [(0, .ref (ad v0)), (1, .int (Int32.ofInt v1))] := hl
  unfold FX7_steals at hF
  obtain ⟨u0, e0, hF⟩ := bnd hF
  refine lv_aload_n hC.1 hC.2.1 dX7_steals_0 rfl (lv_at hl 0 rfl) ?_
  refine lv_iload_n hC.1 hC.2.1 dX7_steals_1 rfl (lv_at hl 1 rfl) ?_
  obtain ⟨x1, e1, hF⟩ := bnd hF
  obtain ⟨fs1, ho1⟩ := OX7_requireCore e1
  refine pw_cVT (rest := []) hC hR lvX7_129 ho1 (CX7_requireCore hst e1) ⟨rfl, rfl⟩ rfl hl.1 rfl ⟨Nat.le_of_ble_eq_true rfl, Nat.le_of_ble_eq_true rfl⟩ (Nat.le_of_ble_eq_true rfl) dX7_steals_2 ⟨Nat.le_of_ble_eq_true rfl, Nat.le_of_ble_eq_true rfl⟩ (fun hk H locs hR => ?_) (fun hk H locs q ce hR h1 h2 h3 => ?_)
  · rw [if_pos hk] at hF
    refine lv_aload_n hC.1 hC.2.1 dX7_steals_5 rfl (lv_at hl 0 rfl) ?_
    obtain ⟨x2, e2, hF⟩ := bnd hF
    refine pw_gfr hC hR e2 flX7_19 dX7_steals_6 ?_
    obtain ⟨x3, e3, hF⟩ := bnd hF
    refine pw_gfr hC hR e3 flX7_83 dX7_steals_9 ?_
    obtain ⟨x4, e4, hF⟩ := bnd hF
    refine pw_gfr hC hR e4 flX7_149 dX7_steals_12 ?_
    refine lv_iload_n hC.1 hC.2.1 dX7_steals_15 rfl (lv_at hl 1 rfl) ?_
    obtain ⟨x5, e5, hF⟩ := bnd hF
    refine pw_iald hC hR e5 dX7_steals_16 ?_
    cases hF
    exact pw_iretT hC hR (Nat.le_of_ble_eq_true rfl) (Nat.le_of_ble_eq_true rfl) dX7_steals_17
  · rw [if_neg hk] at hF
    cases hF
    exact pw_thru hC hR hk hout h1 h2 h3 (Nat.le_of_ble_eq_true rfl) (Nat.le_of_ble_eq_true rfl)
abbrev rmX7_isPaused : Room := { frames := 9, cells := 2, slots := 12, locals := 171 }
def FX7_isPaused (h : PH) (v0 : Nat) (v1 : Int) : Option (Nat × Int) :=
  (isO h 7 v0).bind fun _ =>
  (FX7_requireCore h v0 v1).bind fun x1 =>
  if x1 = 0 then (
    (gfr h 7 v0 1).bind fun x2 =>
    (gfr h 3 x2 1).bind fun x3 =>
    (gfr h 0 x3 9).bind fun x4 =>
    (ald 2 h x4 v1).bind fun x5 =>
    if x5 = 0 ∨ x5 = 1 then some (0, x5) else none
  ) else (some (x1, 0))
theorem OX7_isPaused {h : PH} {v0 : Nat} {v1 : Int} {q : Nat × Int} (hF : FX7_isPaused h v0 v1 = some q) : ∃ fs : List PV, h[v0]? = some (.inr (7, fs)) := by
  unfold FX7_isPaused at hF
  obtain ⟨u0, e0, -⟩ := bnd hF
  exact isO_spec e0
set_option maxHeartbeats 4000000 in
set_option maxRecDepth 100000 in
theorem CX7_isPaused {g : GP} {l : Launch} (hst : l.stackTraces = false) {ad : Nat → Nat} {h : PH} {v0 : Nat} {v1 : Int} {q : Nat × Int} (hF : FX7_isPaused h v0 v1 = some q) : CT g l yX7_isPaused cX7_isPaused 2 (some .boolean) rmX7_isPaused ad h [.ref (ad v0), .int (Int32.ofInt v1)] q.1 (some (.int (Int32.ofInt q.2))) h := by
  refine pw_metT (by decide) (Nat.le_of_ble_eq_true rfl) ?_
  intro p e s m args below meth c ls hC hout hR hl
  have hl : lv_has ls 2 [(0, .ref (ad v0)), (1, .int (Int32.ofInt v1))] := hl
  unfold FX7_isPaused at hF
  obtain ⟨u0, e0, hF⟩ := bnd hF
  refine lv_aload_n hC.1 hC.2.1 dX7_isPaused_0 rfl (lv_at hl 0 rfl) ?_
  refine lv_iload_n hC.1 hC.2.1 dX7_isPaused_1 rfl (lv_at hl 1 rfl) ?_
  obtain ⟨x1, e1, hF⟩ := bnd hF
  obtain ⟨fs1, ho1⟩ := OX7_requireCore e1
  refine pw_cVT (rest := []) hC hR lvX7_129 ho1 (CX7_requireCore hst e1) ⟨rfl, rfl⟩ rfl hl.1 rfl ⟨Nat.le_of_ble_eq_true rfl, Nat.le_of_ble_eq_true rfl⟩ (Nat.le_of_ble_eq_true rfl) dX7_isPaused_2 ⟨Nat.le_of_ble_eq_true rfl, Nat.le_of_ble_eq_true rfl⟩ (fun hk H locs hR => ?_) (fun hk H locs q ce hR h1 h2 h3 => ?_)
  · rw [if_pos hk] at hF
    refine lv_aload_n hC.1 hC.2.1 dX7_isPaused_5 rfl (lv_at hl 0 rfl) ?_
    obtain ⟨x2, e2, hF⟩ := bnd hF
    refine pw_gfr hC hR e2 flX7_19 dX7_isPaused_6 ?_
    obtain ⟨x3, e3, hF⟩ := bnd hF
    refine pw_gfr hC hR e3 flX7_83 dX7_isPaused_9 ?_
    obtain ⟨x4, e4, hF⟩ := bnd hF
    refine pw_gfr hC hR e4 flX7_152 dX7_isPaused_12 ?_
    refine lv_iload_n hC.1 hC.2.1 dX7_isPaused_15 rfl (lv_at hl 1 rfl) ?_
    obtain ⟨x5, e5, hF⟩ := bnd hF
    refine pw_zald hC hR e5 dX7_isPaused_16 ?_
    by_cases hb6 : x5 = 0 ∨ x5 = 1
    · rw [if_pos hb6] at hF
      cases hF
      exact pw_zretT hC hR hb6 (Nat.le_of_ble_eq_true rfl) (Nat.le_of_ble_eq_true rfl) dX7_isPaused_17
    · rw [if_neg hb6] at hF; cases hF
  · rw [if_neg hk] at hF
    cases hF
    exact pw_thru hC hR hk hout h1 h2 h3 (Nat.le_of_ble_eq_true rfl) (Nat.le_of_ble_eq_true rfl)
abbrev rmX7_requireLimit : Room := { frames := 8, cells := 1, slots := 6, locals := 150 }
def JX7_requireLimit_11 (h : PH) : Option (Nat) :=
  some 2
set_option maxHeartbeats 4000000 in
set_option maxRecDepth 100000 in
theorem BX7_requireLimit_11 (hst : l.stackTraces = false) (hout : ∀ x ∈ c.exceptionTable.toList, False) {h : PH} (hC : Cx g p s m args meth c cX7_requireLimit 1 RX7 none) (hR : Rl g ad h s.heap H locs) (hl : lv_has ls 1 []) {q : Nat} (hF : JX7_requireLimit_11 h  = some q) : W p l e rmX7_requireLimit s m args below meth c H locs 0 0 (vx_MQ below (QcT g ad q h none) (XcT g ad q h) args s 1 6 (gA g)) (F0 m 11 ls []) := by
  unfold JX7_requireLimit_11 at hF
  cases hF
  exact pw_thI (i := 24) (tx := "limit is not 0 to 500") hC hR hst hout (by decide +kernel) hl.1 dX7_requireLimit_11 dX7_requireLimit_14 dX7_requireLimit_15 dX7_requireLimit_17 dX7_requireLimit_20 (Nat.le_of_ble_eq_true rfl) (Nat.le_of_ble_eq_true rfl) (Nat.le_of_ble_eq_true rfl) (Nat.le_of_ble_eq_true rfl) (Nat.le_of_ble_eq_true rfl) (Nat.le_of_ble_eq_true rfl)
def FX7_requireLimit (h : PH) (v0 : Int) : Option (Nat) :=
  if w32 v0 < 0 then (
    JX7_requireLimit_11 h
  ) else (
    if w32 500 < w32 v0 then (
      JX7_requireLimit_11 h
    ) else (
      some 0
    )
  )
set_option maxHeartbeats 4000000 in
set_option maxRecDepth 100000 in
theorem CX7_requireLimit {g : GP} {l : Launch} (hst : l.stackTraces = false) {ad : Nat → Nat} {h : PH} {v0 : Int} {q : Nat} (hF : FX7_requireLimit h v0 = some q) : CT g l yX7_requireLimit cX7_requireLimit 1 none rmX7_requireLimit ad h [.int (Int32.ofInt v0)] q none h := by
  refine pw_metT (by decide) (Nat.le_of_ble_eq_true rfl) ?_
  intro p e s m args below meth c ls hC hout hR hl
  have hl : lv_has ls 1 [(0, .int (Int32.ofInt v0))] := hl
  unfold FX7_requireLimit at hF
  refine lv_iload_n hC.1 hC.2.1 dX7_requireLimit_0 rfl (lv_at hl 0 rfl) ?_
  refine pw_iflt hC 11 dX7_requireLimit_1 (by decide) (fun hc => ?_) (fun hc => ?_)
  · rw [if_pos hc] at hF
    exact BX7_requireLimit_11 hst hout hC hR (lv_sub hl [] rfl) hF
  · rw [if_neg hc] at hF
    refine lv_iload_n hC.1 hC.2.1 dX7_requireLimit_4 rfl (lv_at hl 0 rfl) ?_
    refine pw_sipush hC dX7_requireLimit_5 rfl ?_
    refine pw_icmple hC 21 dX7_requireLimit_8 (by decide) (fun hc => ?_) (fun hc => ?_)
    · rw [if_neg hc] at hF
      cases hF
      exact pw_vretT hC hR (Nat.le_of_ble_eq_true rfl) (Nat.le_of_ble_eq_true rfl) dX7_requireLimit_21
    · rw [if_pos hc] at hF
      exact BX7_requireLimit_11 hst hout hC hR (lv_sub hl [] rfl) hF
abbrev rmX7_finishTime : Room := { frames := 9, cells := 2, slots := 12, locals := 170 }
def FX7_finishTime (h : PH) (v0 : Nat) (v1 : Int) : Option (Nat × Int × PH) :=
  (isO h 7 v0).bind fun _ =>
  (FX7_requireLimit h v1).bind fun x1 =>
  if x1 = 0 then (
    (gfr h 7 v0 2).bind fun x2 =>
    (gfr h 7 v0 1).bind fun x3 =>
    (FX3_copyFrom h x2 x3).bind fun h4 =>
    (gfr h4 7 v0 2).bind fun x5 =>
    (FX3_cyclesUntilFinished h4 x5 v1).bind fun q6 =>
    some (0, q6.1, q6.2)
  ) else (some (x1, 0, h))
theorem OX7_finishTime {h : PH} {v0 : Nat} {v1 : Int} {q : Nat × Int × PH} (hF : FX7_finishTime h v0 v1 = some q) : ∃ fs : List PV, h[v0]? = some (.inr (7, fs)) := by
  unfold FX7_finishTime at hF
  obtain ⟨u0, e0, -⟩ := bnd hF
  exact isO_spec e0
set_option maxHeartbeats 4000000 in
set_option maxRecDepth 100000 in
theorem CX7_finishTime {g : GP} {l : Launch} (hst : l.stackTraces = false) {ad : Nat → Nat} {h : PH} {v0 : Nat} {v1 : Int} {q : Nat × Int × PH} (hF : FX7_finishTime h v0 v1 = some q) : CT g l yX7_finishTime cX7_finishTime 2 (some .int) rmX7_finishTime ad h [.ref (ad v0), .int (Int32.ofInt v1)] q.1 (some (.int (Int32.ofInt q.2.1))) q.2.2 := by
  refine pw_metT (by decide) (Nat.le_of_ble_eq_true rfl) ?_
  intro p e s m args below meth c ls hC hout hR hl
  have hl : lv_has ls 2 [(0, .ref (ad v0)), (1, .int (Int32.ofInt v1))] := hl
  unfold FX7_finishTime at hF
  obtain ⟨u0, e0, hF⟩ := bnd hF
  refine lv_iload_n hC.1 hC.2.1 dX7_finishTime_0 rfl (lv_at hl 1 rfl) ?_
  obtain ⟨x1, e1, hF⟩ := bnd hF
  refine pw_cST (rest := []) hC hR lsX7_162 (CX7_requireLimit hst e1) ⟨rfl, rfl⟩ rfl hl.1 rfl ⟨Nat.le_of_ble_eq_true rfl, Nat.le_of_ble_eq_true rfl⟩ (Nat.le_of_ble_eq_true rfl) dX7_finishTime_1 ⟨Nat.le_of_ble_eq_true rfl, Nat.le_of_ble_eq_true rfl⟩ (fun hk H locs hR => ?_) (fun hk H locs q ce hR h1 h2 h3 => ?_)
  · rw [if_pos hk] at hF
    refine lv_aload_n hC.1 hC.2.1 dX7_finishTime_4 rfl (lv_at hl 0 rfl) ?_
    obtain ⟨x2, e2, hF⟩ := bnd hF
    refine pw_gfr hC hR e2 flX7_23 dX7_finishTime_5 ?_
    refine lv_aload_n hC.1 hC.2.1 dX7_finishTime_8 rfl (lv_at hl 0 rfl) ?_
    obtain ⟨x3, e3, hF⟩ := bnd hF
    refine pw_gfr hC hR e3 flX7_19 dX7_finishTime_9 ?_
    obtain ⟨h4, e4, hF⟩ := bnd hF
    obtain ⟨fs4, ho4⟩ := OX3_copyFrom e4
    refine pw_cVv (rest := []) hC hR lvX7_71 ho4 (CX3_copyFrom e4) ⟨rfl, rfl⟩ rfl hl.1 rfl ⟨Nat.le_of_ble_eq_true rfl, Nat.le_of_ble_eq_true rfl⟩ (Nat.le_of_ble_eq_true rfl) dX7_finishTime_12 ⟨Nat.le_of_ble_eq_true rfl, Nat.le_of_ble_eq_true rfl⟩ (fun H locs hR => ?_)
    refine lv_aload_n hC.1 hC.2.1 dX7_finishTime_15 rfl (lv_at hl 0 rfl) ?_
    obtain ⟨x5, e5, hF⟩ := bnd hF
    refine pw_gfr hC hR e5 flX7_23 dX7_finishTime_16 ?_
    refine lv_iload_n hC.1 hC.2.1 dX7_finishTime_19 rfl (lv_at hl 1 rfl) ?_
    obtain ⟨q6, e6, hF⟩ := bnd hF
    obtain ⟨fs6, ho6⟩ := OX3_cyclesUntilFinished e6
    refine pw_cVi (rest := []) hC hR lvX7_165 ho6 (CX3_cyclesUntilFinished e6) ⟨rfl, rfl⟩ rfl hl.1 rfl ⟨Nat.le_of_ble_eq_true rfl, Nat.le_of_ble_eq_true rfl⟩ (Nat.le_of_ble_eq_true rfl) dX7_finishTime_20 ⟨Nat.le_of_ble_eq_true rfl, Nat.le_of_ble_eq_true rfl⟩ (fun H locs hR => ?_)
    cases hF
    exact pw_iretT hC hR (Nat.le_of_ble_eq_true rfl) (Nat.le_of_ble_eq_true rfl) dX7_finishTime_23
  · rw [if_neg hk] at hF
    cases hF
    exact pw_thru hC hR hk hout h1 h2 h3 (Nat.le_of_ble_eq_true rfl) (Nat.le_of_ble_eq_true rfl)
abbrev rmX7_requireSetup : Room := { frames := 8, cells := 1, slots := 6, locals := 150 }
def FX7_requireSetup (h : PH) (v0 : Nat) : Option (Nat) :=
  (isO h 7 v0).bind fun _ =>
  (gfr h 7 v0 1).bind fun x1 =>
  (gfr h 3 x1 1).bind fun x2 =>
  (gfi h 0 x2 0).bind fun x3 =>
  if w32 x3 = 0 then (
    some 3
  ) else (
    some 0
  )
theorem OX7_requireSetup {h : PH} {v0 : Nat} {q : Nat} (hF : FX7_requireSetup h v0 = some q) : ∃ fs : List PV, h[v0]? = some (.inr (7, fs)) := by
  unfold FX7_requireSetup at hF
  obtain ⟨u0, e0, -⟩ := bnd hF
  exact isO_spec e0
set_option maxHeartbeats 4000000 in
set_option maxRecDepth 100000 in
theorem CX7_requireSetup {g : GP} {l : Launch} (hst : l.stackTraces = false) {ad : Nat → Nat} {h : PH} {v0 : Nat} {q : Nat} (hF : FX7_requireSetup h v0 = some q) : CT g l yX7_requireSetup cX7_requireSetup 1 none rmX7_requireSetup ad h [.ref (ad v0)] q none h := by
  refine pw_metT (by decide) (Nat.le_of_ble_eq_true rfl) ?_
  intro p e s m args below meth c ls hC hout hR hl
  have hl : lv_has ls 1 [(0, .ref (ad v0))] := hl
  unfold FX7_requireSetup at hF
  obtain ⟨u0, e0, hF⟩ := bnd hF
  refine lv_aload_n hC.1 hC.2.1 dX7_requireSetup_0 rfl (lv_at hl 0 rfl) ?_
  obtain ⟨x1, e1, hF⟩ := bnd hF
  refine pw_gfr hC hR e1 flX7_19 dX7_requireSetup_1 ?_
  obtain ⟨x2, e2, hF⟩ := bnd hF
  refine pw_gfr hC hR e2 flX7_83 dX7_requireSetup_4 ?_
  obtain ⟨x3, e3, hF⟩ := bnd hF
  refine pw_gfi hC hR e3 flX7_87 dX7_requireSetup_7 ?_
  refine pw_ifne hC 23 dX7_requireSetup_10 (by decide) (fun hc => ?_) (fun hc => ?_)
  · rw [if_neg hc] at hF
    cases hF
    exact pw_vretT hC hR (Nat.le_of_ble_eq_true rfl) (Nat.le_of_ble_eq_true rfl) dX7_requireSetup_23
  · rw [if_pos hc] at hF
    cases hF
    exact pw_thS (i := 22) (tx := "no setup has been loaded") hC hR hst hout (by decide +kernel) hl.1 dX7_requireSetup_13 dX7_requireSetup_16 dX7_requireSetup_17 dX7_requireSetup_19 dX7_requireSetup_22 (Nat.le_of_ble_eq_true rfl) (Nat.le_of_ble_eq_true rfl) (Nat.le_of_ble_eq_true rfl) (Nat.le_of_ble_eq_true rfl) (Nat.le_of_ble_eq_true rfl) (Nat.le_of_ble_eq_true rfl)
abbrev rmX7_timeOn : Room := { frames := 9, cells := 3, slots := 18, locals := 170 }
def JX7_timeOn_10 (h : PH) : Option (Nat × Int × PH) :=
  some (2, 0, h)
set_option maxHeartbeats 4000000 in
set_option maxRecDepth 100000 in
theorem BX7_timeOn_10 (hst : l.stackTraces = false) (hout : ∀ x ∈ c.exceptionTable.toList, False) {h : PH} (hC : Cx g p s m args meth c cX7_timeOn 3 RX7 (some .int)) (hR : Rl g ad h s.heap H locs) (hl : lv_has ls 3 []) {q : Nat × Int × PH} (hF : JX7_timeOn_10 h  = some q) : W p l e rmX7_timeOn s m args below meth c H locs 0 0 (vx_MQ below (QcT g ad q.1 q.2.2 (some (.int (Int32.ofInt q.2.1)))) (XcT g ad q.1 q.2.2) args s 3 18 (gA g)) (F0 m 10 ls []) := by
  unfold JX7_timeOn_10 at hF
  cases hF
  exact pw_thI (i := 11) (tx := "cores is not 1 to 4") hC hR hst hout (by decide +kernel) hl.1 dX7_timeOn_10 dX7_timeOn_13 dX7_timeOn_14 dX7_timeOn_16 dX7_timeOn_19 (Nat.le_of_ble_eq_true rfl) (Nat.le_of_ble_eq_true rfl) (Nat.le_of_ble_eq_true rfl) (Nat.le_of_ble_eq_true rfl) (Nat.le_of_ble_eq_true rfl) (Nat.le_of_ble_eq_true rfl)
def FX7_timeOn (h : PH) (v0 : Nat) (v1 : Int) (v2 : Int) : Option (Nat × Int × PH) :=
  (isO h 7 v0).bind fun _ =>
  if w32 v1 < w32 1 then (
    JX7_timeOn_10 h
  ) else (
    if w32 4 < w32 v1 then (
      JX7_timeOn_10 h
    ) else (
      (FX7_requireLimit h v2).bind fun x1 =>
      if x1 = 0 then (
        (FX7_requireSetup h v0).bind fun x2 =>
        if x2 = 0 then (
          (gfr h 7 v0 2).bind fun x3 =>
          (gfr h 7 v0 1).bind fun x4 =>
          (FX3_copyFrom h x3 x4).bind fun h5 =>
          (gfr h5 7 v0 2).bind fun x6 =>
          (FX3_startAgainOn h5 x6 v1).bind fun h7 =>
          (gfr h7 7 v0 2).bind fun x8 =>
          (FX3_cyclesUntilFinished h7 x8 v2).bind fun q9 =>
          some (0, q9.1, q9.2)
        ) else (some (x2, 0, h))
      ) else (some (x1, 0, h))
    )
  )
theorem OX7_timeOn {h : PH} {v0 : Nat} {v1 : Int} {v2 : Int} {q : Nat × Int × PH} (hF : FX7_timeOn h v0 v1 v2 = some q) : ∃ fs : List PV, h[v0]? = some (.inr (7, fs)) := by
  unfold FX7_timeOn at hF
  obtain ⟨u0, e0, -⟩ := bnd hF
  exact isO_spec e0
set_option maxHeartbeats 4000000 in
set_option maxRecDepth 100000 in
theorem CX7_timeOn {g : GP} {l : Launch} (hst : l.stackTraces = false) {ad : Nat → Nat} {h : PH} {v0 : Nat} {v1 : Int} {v2 : Int} {q : Nat × Int × PH} (hF : FX7_timeOn h v0 v1 v2 = some q) : CT g l yX7_timeOn cX7_timeOn 3 (some .int) rmX7_timeOn ad h [.ref (ad v0), .int (Int32.ofInt v1), .int (Int32.ofInt v2)] q.1 (some (.int (Int32.ofInt q.2.1))) q.2.2 := by
  refine pw_metT (by decide) (Nat.le_of_ble_eq_true rfl) ?_
  intro p e s m args below meth c ls hC hout hR hl
  have hl : lv_has ls 3 [(0, .ref (ad v0)), (1, .int (Int32.ofInt v1)), (2, .int (Int32.ofInt v2))] := hl
  unfold FX7_timeOn at hF
  obtain ⟨u0, e0, hF⟩ := bnd hF
  refine lv_iload_n hC.1 hC.2.1 dX7_timeOn_0 rfl (lv_at hl 1 rfl) ?_
  refine pw_iconst hC dX7_timeOn_1 ?_
  refine pw_icmplt hC 10 dX7_timeOn_2 (by decide) (fun hc => ?_) (fun hc => ?_)
  · rw [if_pos hc] at hF
    exact BX7_timeOn_10 hst hout hC hR (lv_sub hl [] rfl) hF
  · rw [if_neg hc] at hF
    refine lv_iload_n hC.1 hC.2.1 dX7_timeOn_5 rfl (lv_at hl 1 rfl) ?_
    refine pw_iconst hC dX7_timeOn_6 ?_
    refine pw_icmple hC 20 dX7_timeOn_7 (by decide) (fun hc => ?_) (fun hc => ?_)
    · rw [if_neg hc] at hF
      refine lv_iload_n hC.1 hC.2.1 dX7_timeOn_20 rfl (lv_at hl 2 rfl) ?_
      obtain ⟨x1, e1, hF⟩ := bnd hF
      refine pw_cST (rest := []) hC hR lsX7_162 (CX7_requireLimit hst e1) ⟨rfl, rfl⟩ rfl hl.1 rfl ⟨Nat.le_of_ble_eq_true rfl, Nat.le_of_ble_eq_true rfl⟩ (Nat.le_of_ble_eq_true rfl) dX7_timeOn_21 ⟨Nat.le_of_ble_eq_true rfl, Nat.le_of_ble_eq_true rfl⟩ (fun hk H locs hR => ?_) (fun hk H locs q ce hR h1 h2 h3 => ?_)
      · rw [if_pos hk] at hF
        refine lv_aload_n hC.1 hC.2.1 dX7_timeOn_24 rfl (lv_at hl 0 rfl) ?_
        obtain ⟨x2, e2, hF⟩ := bnd hF
        obtain ⟨fs2, ho2⟩ := OX7_requireSetup e2
        refine pw_cVT (rest := []) hC hR lvX7_171 ho2 (CX7_requireSetup hst e2) ⟨rfl, rfl⟩ rfl hl.1 rfl ⟨Nat.le_of_ble_eq_true rfl, Nat.le_of_ble_eq_true rfl⟩ (Nat.le_of_ble_eq_true rfl) dX7_timeOn_25 ⟨Nat.le_of_ble_eq_true rfl, Nat.le_of_ble_eq_true rfl⟩ (fun hk H locs hR => ?_) (fun hk H locs q ce hR h1 h2 h3 => ?_)
        · rw [if_pos hk] at hF
          refine lv_aload_n hC.1 hC.2.1 dX7_timeOn_28 rfl (lv_at hl 0 rfl) ?_
          obtain ⟨x3, e3, hF⟩ := bnd hF
          refine pw_gfr hC hR e3 flX7_23 dX7_timeOn_29 ?_
          refine lv_aload_n hC.1 hC.2.1 dX7_timeOn_32 rfl (lv_at hl 0 rfl) ?_
          obtain ⟨x4, e4, hF⟩ := bnd hF
          refine pw_gfr hC hR e4 flX7_19 dX7_timeOn_33 ?_
          obtain ⟨h5, e5, hF⟩ := bnd hF
          obtain ⟨fs5, ho5⟩ := OX3_copyFrom e5
          refine pw_cVv (rest := []) hC hR lvX7_71 ho5 (CX3_copyFrom e5) ⟨rfl, rfl⟩ rfl hl.1 rfl ⟨Nat.le_of_ble_eq_true rfl, Nat.le_of_ble_eq_true rfl⟩ (Nat.le_of_ble_eq_true rfl) dX7_timeOn_36 ⟨Nat.le_of_ble_eq_true rfl, Nat.le_of_ble_eq_true rfl⟩ (fun H locs hR => ?_)
          refine lv_aload_n hC.1 hC.2.1 dX7_timeOn_39 rfl (lv_at hl 0 rfl) ?_
          obtain ⟨x6, e6, hF⟩ := bnd hF
          refine pw_gfr hC hR e6 flX7_23 dX7_timeOn_40 ?_
          refine lv_iload_n hC.1 hC.2.1 dX7_timeOn_43 rfl (lv_at hl 1 rfl) ?_
          obtain ⟨h7, e7, hF⟩ := bnd hF
          obtain ⟨fs7, ho7⟩ := OX3_startAgainOn e7
          refine pw_cVv (rest := []) hC hR lvX7_174 ho7 (CX3_startAgainOn e7) ⟨rfl, rfl⟩ rfl hl.1 rfl ⟨Nat.le_of_ble_eq_true rfl, Nat.le_of_ble_eq_true rfl⟩ (Nat.le_of_ble_eq_true rfl) dX7_timeOn_44 ⟨Nat.le_of_ble_eq_true rfl, Nat.le_of_ble_eq_true rfl⟩ (fun H locs hR => ?_)
          refine lv_aload_n hC.1 hC.2.1 dX7_timeOn_47 rfl (lv_at hl 0 rfl) ?_
          obtain ⟨x8, e8, hF⟩ := bnd hF
          refine pw_gfr hC hR e8 flX7_23 dX7_timeOn_48 ?_
          refine lv_iload_n hC.1 hC.2.1 dX7_timeOn_51 rfl (lv_at hl 2 rfl) ?_
          obtain ⟨q9, e9, hF⟩ := bnd hF
          obtain ⟨fs9, ho9⟩ := OX3_cyclesUntilFinished e9
          refine pw_cVi (rest := []) hC hR lvX7_165 ho9 (CX3_cyclesUntilFinished e9) ⟨rfl, rfl⟩ rfl hl.1 rfl ⟨Nat.le_of_ble_eq_true rfl, Nat.le_of_ble_eq_true rfl⟩ (Nat.le_of_ble_eq_true rfl) dX7_timeOn_52 ⟨Nat.le_of_ble_eq_true rfl, Nat.le_of_ble_eq_true rfl⟩ (fun H locs hR => ?_)
          cases hF
          exact pw_iretT hC hR (Nat.le_of_ble_eq_true rfl) (Nat.le_of_ble_eq_true rfl) dX7_timeOn_55
        · rw [if_neg hk] at hF
          cases hF
          exact pw_thru hC hR hk hout h1 h2 h3 (Nat.le_of_ble_eq_true rfl) (Nat.le_of_ble_eq_true rfl)
      · rw [if_neg hk] at hF
        cases hF
        exact pw_thru hC hR hk hout h1 h2 h3 (Nat.le_of_ble_eq_true rfl) (Nat.le_of_ble_eq_true rfl)
    · rw [if_pos hc] at hF
      exact BX7_timeOn_10 hst hout hC hR (lv_sub hl [] rfl) hF
abbrev rmX7_run : Room := { frames := 9, cells := 2, slots := 12, locals := 170 }
def JX7_run_12 (h : PH) : Option (Nat × Int × PH) :=
  some (2, 0, h)
set_option maxHeartbeats 4000000 in
set_option maxRecDepth 100000 in
theorem BX7_run_12 (hst : l.stackTraces = false) (hout : ∀ x ∈ c.exceptionTable.toList, False) {h : PH} (hC : Cx g p s m args meth c cX7_run 4 RX7 (some .int)) (hR : Rl g ad h s.heap H locs) (hl : lv_has ls 4 []) {q : Nat × Int × PH} (hF : JX7_run_12 h  = some q) : W p l e rmX7_run s m args below meth c H locs 0 0 (vx_MQ below (QcT g ad q.1 q.2.2 (some (.int (Int32.ofInt q.2.1)))) (XcT g ad q.1 q.2.2) args s 2 12 (gA g)) (F0 m 12 ls []) := by
  unfold JX7_run_12 at hF
  cases hF
  exact pw_thI (i := 12) (tx := "cycles is not 1 to 200") hC hR hst hout (by decide +kernel) hl.1 dX7_run_12 dX7_run_15 dX7_run_16 dX7_run_18 dX7_run_21 (Nat.le_of_ble_eq_true rfl) (Nat.le_of_ble_eq_true rfl) (Nat.le_of_ble_eq_true rfl) (Nat.le_of_ble_eq_true rfl) (Nat.le_of_ble_eq_true rfl) (Nat.le_of_ble_eq_true rfl)
def LX7_run_65 (v0 : Nat) (v1 : Int) (v2 : Int) (v3 : Int) (h : PH) : Option ((Int × Int × PH) ⊕ (Int × PH)) :=
  if w32 v3 < w32 v1 then (
    (gfr h 7 v0 1).bind fun x7 =>
    (FX3_cycle h x7).bind fun q8 =>
    some (.inl ((v2 + q8.1), (v3 + 1), q8.2))
  ) else (
    some (.inr (v2, h))
  )
set_option maxHeartbeats 4000000 in
set_option maxRecDepth 100000 in
theorem LRX7_run_65 (hst : l.stackTraces = false) (hout : ∀ x ∈ c.exceptionTable.toList, False) {v0 : Nat} {v1 : Int} {Q : State → Prop} (hC : Cx g p s m args meth c cX7_run 4 RX7 (some .int)) : ∀ (n : Nat) (st : Int × Int × PH) (ex : Int × PH), lp (fun st : Int × Int × PH => LX7_run_65 v0 v1 st.1 st.2.1 st.2.2) n st = some ex → (fun ex : Int × PH => ∀ (H : Heap) (locs : List Loc) (ls : Array Slot), Rl g ad ex.2 s.heap H locs → lv_has ls 4 [(2, .int (Int32.ofInt ex.1))] → W p l e rmX7_run s m args below meth c H locs 1 6 Q (F0 m 86 ls [])) ex → ∀ (H : Heap) (locs : List Loc) (ls : Array Slot), Rl g ad st.2.2 s.heap H locs → lv_has ls 4 [(0, .ref (ad v0)), (1, .int (Int32.ofInt v1)), (2, .int (Int32.ofInt st.1)), (3, .int (Int32.ofInt st.2.1))] → W p l e rmX7_run s m args below meth c H locs 1 6 Q (F0 m 65 ls []) := by
  refine lp_rule (Ph := (fun st : Int × Int × PH => ∀ (H : Heap) (locs : List Loc) (ls : Array Slot), Rl g ad st.2.2 s.heap H locs → lv_has ls 4 [(0, .ref (ad v0)), (1, .int (Int32.ofInt v1)), (2, .int (Int32.ofInt st.1)), (3, .int (Int32.ofInt st.2.1))] → W p l e rmX7_run s m args below meth c H locs 1 6 Q (F0 m 65 ls []))) (Px := (fun ex : Int × PH => ∀ (H : Heap) (locs : List Loc) (ls : Array Slot), Rl g ad ex.2 s.heap H locs → lv_has ls 4 [(2, .int (Int32.ofInt ex.1))] → W p l e rmX7_run s m args below meth c H locs 1 6 Q (F0 m 86 ls []))) ?_
  rintro ⟨v2, v3, h⟩ o hF hK H locs ls hR hl
  have hR : Rl g ad h s.heap H locs := hR
  have hl : lv_has ls 4 [(0, .ref (ad v0)), (1, .int (Int32.ofInt v1)), (2, .int (Int32.ofInt v2)), (3, .int (Int32.ofInt v3))] := hl
  have hF : LX7_run_65 v0 v1 v2 v3 h = some o := hF
  unfold LX7_run_65 at hF
  refine lv_iload_n hC.1 hC.2.1 dX7_run_65 rfl (lv_at hl 3 rfl) ?_
  refine lv_iload_n hC.1 hC.2.1 dX7_run_66 rfl (lv_at hl 1 rfl) ?_
  refine pw_icmpge hC 86 dX7_run_67 (by decide) (fun hc => ?_) (fun hc => ?_)
  · rw [if_neg hc] at hF
    cases hF
    exact hK _ _ _ hR (lv_sub hl [2] rfl)
  · rw [if_pos hc] at hF
    refine lv_iload_n hC.1 hC.2.1 dX7_run_70 rfl (lv_at hl 2 rfl) ?_
    refine lv_aload_n hC.1 hC.2.1 dX7_run_71 rfl (lv_at hl 0 rfl) ?_
    obtain ⟨x7, e7, hF⟩ := bnd hF
    refine pw_gfr hC hR e7 flX7_19 dX7_run_72 ?_
    obtain ⟨q8, e8, hF⟩ := bnd hF
    obtain ⟨fs8, ho8⟩ := OX3_cycle e8
    refine pw_cVi (rest := [.int (Int32.ofInt v2)]) hC hR lvX7_185 ho8 (CX3_cycle e8) ⟨rfl, rfl⟩ rfl hl.1 rfl ⟨Nat.le_of_ble_eq_true rfl, Nat.le_of_ble_eq_true rfl⟩ (Nat.le_of_ble_eq_true rfl) dX7_run_75 ⟨Nat.le_of_ble_eq_true rfl, Nat.le_of_ble_eq_true rfl⟩ (fun H locs hR => ?_)
    refine pw_iadd hC dX7_run_78 ?_
    refine lv_istore_n (lv' := [(2, .int (Int32.ofInt (v2 + q8.1))), (0, .ref (ad v0)), (1, .int (Int32.ofInt v1)), (3, .int (Int32.ofInt v3))]) hC.1 hC.2.1 dX7_run_79 rfl hl (by decide) rfl (fun ls hl => ?_)
    refine pw_iinc (lv' := [(3, .int (Int32.ofInt (v3 + 1))), (2, .int (Int32.ofInt (v2 + q8.1))), (0, .ref (ad v0)), (1, .int (Int32.ofInt v1))]) hC hl 3 dX7_run_80 rfl (by decide) rfl (fun ls hl => ?_)
    refine pw_goto hC 65 dX7_run_83 (by decide) ?_
    cases hF
    exact hK _ _ _ hR (lv_sub hl [2, 3, 1, 0] rfl)
def FX7_run (h : PH) (v0 : Nat) (v1 : Int) : Option (Nat × Int × PH) :=
  (isO h 7 v0).bind fun _ =>
  if w32 v1 < w32 1 then (
    JX7_run_12 h
  ) else (
    if w32 200 < w32 v1 then (
      JX7_run_12 h
    ) else (
      (FX7_requireSetup h v0).bind fun x1 =>
      if x1 = 0 then (
        (gfr h 7 v0 1).bind fun x2 =>
        (gfi h 3 x2 3).bind fun x3 =>
        if w32 (100000 - v1) < w32 x3 then (
          some (3, 0, h)
        ) else (
          (gfr h 7 v0 3).bind fun x4 =>
          (gfr h 7 v0 1).bind fun x5 =>
          (FX2_remember h x4 x5).bind fun h6 =>
          (lp (fun st : Int × Int × PH => LX7_run_65 v0 v1 st.1 st.2.1 st.2.2) FU (0, 0, h6)).bind fun ex9 =>
          some (0, ex9.1, ex9.2)
        )
      ) else (some (x1, 0, h))
    )
  )
theorem OX7_run {h : PH} {v0 : Nat} {v1 : Int} {q : Nat × Int × PH} (hF : FX7_run h v0 v1 = some q) : ∃ fs : List PV, h[v0]? = some (.inr (7, fs)) := by
  unfold FX7_run at hF
  obtain ⟨u0, e0, -⟩ := bnd hF
  exact isO_spec e0
set_option maxHeartbeats 4000000 in
set_option maxRecDepth 100000 in
theorem CX7_run {g : GP} {l : Launch} (hst : l.stackTraces = false) {ad : Nat → Nat} {h : PH} {v0 : Nat} {v1 : Int} {q : Nat × Int × PH} (hF : FX7_run h v0 v1 = some q) : CT g l yX7_run cX7_run 4 (some .int) rmX7_run ad h [.ref (ad v0), .int (Int32.ofInt v1)] q.1 (some (.int (Int32.ofInt q.2.1))) q.2.2 := by
  refine pw_metT (by decide) (Nat.le_of_ble_eq_true rfl) ?_
  intro p e s m args below meth c ls hC hout hR hl
  have hl : lv_has ls 4 [(0, .ref (ad v0)), (1, .int (Int32.ofInt v1))] := hl
  unfold FX7_run at hF
  obtain ⟨u0, e0, hF⟩ := bnd hF
  refine lv_iload_n hC.1 hC.2.1 dX7_run_0 rfl (lv_at hl 1 rfl) ?_
  refine pw_iconst hC dX7_run_1 ?_
  refine pw_icmplt hC 12 dX7_run_2 (by decide) (fun hc => ?_) (fun hc => ?_)
  · rw [if_pos hc] at hF
    exact BX7_run_12 hst hout hC hR (lv_sub hl [] rfl) hF
  · rw [if_neg hc] at hF
    refine lv_iload_n hC.1 hC.2.1 dX7_run_5 rfl (lv_at hl 1 rfl) ?_
    refine pw_sipush hC dX7_run_6 rfl ?_
    refine pw_icmple hC 22 dX7_run_9 (by decide) (fun hc => ?_) (fun hc => ?_)
    · rw [if_neg hc] at hF
      refine lv_aload_n hC.1 hC.2.1 dX7_run_22 rfl (lv_at hl 0 rfl) ?_
      obtain ⟨x1, e1, hF⟩ := bnd hF
      obtain ⟨fs1, ho1⟩ := OX7_requireSetup e1
      refine pw_cVT (rest := []) hC hR lvX7_171 ho1 (CX7_requireSetup hst e1) ⟨rfl, rfl⟩ rfl hl.1 rfl ⟨Nat.le_of_ble_eq_true rfl, Nat.le_of_ble_eq_true rfl⟩ (Nat.le_of_ble_eq_true rfl) dX7_run_23 ⟨Nat.le_of_ble_eq_true rfl, Nat.le_of_ble_eq_true rfl⟩ (fun hk H locs hR => ?_) (fun hk H locs q ce hR h1 h2 h3 => ?_)
      · rw [if_pos hk] at hF
        refine lv_aload_n hC.1 hC.2.1 dX7_run_26 rfl (lv_at hl 0 rfl) ?_
        obtain ⟨x2, e2, hF⟩ := bnd hF
        refine pw_gfr hC hR e2 flX7_19 dX7_run_27 ?_
        obtain ⟨x3, e3, hF⟩ := bnd hF
        refine pw_gfi hC hR e3 flX7_93 dX7_run_30 ?_
        refine pw_ldc hC 100000 kcX7_179 dX7_run_33 ?_
        refine lv_iload_n hC.1 hC.2.1 dX7_run_35 rfl (lv_at hl 1 rfl) ?_
        refine pw_isub hC dX7_run_36 ?_
        refine pw_icmple hC 50 dX7_run_37 (by decide) (fun hc => ?_) (fun hc => ?_)
        · rw [if_neg hc] at hF
          refine lv_aload_n hC.1 hC.2.1 dX7_run_50 rfl (lv_at hl 0 rfl) ?_
          obtain ⟨x4, e4, hF⟩ := bnd hF
          refine pw_gfr hC hR e4 flX7_29 dX7_run_51 ?_
          refine lv_aload_n hC.1 hC.2.1 dX7_run_54 rfl (lv_at hl 0 rfl) ?_
          obtain ⟨x5, e5, hF⟩ := bnd hF
          refine pw_gfr hC hR e5 flX7_19 dX7_run_55 ?_
          obtain ⟨h6, e6, hF⟩ := bnd hF
          obtain ⟨fs6, ho6⟩ := OX2_remember e6
          refine pw_cVv (rest := []) hC hR lvX7_67 ho6 (CX2_remember e6) ⟨rfl, rfl⟩ rfl hl.1 rfl ⟨Nat.le_of_ble_eq_true rfl, Nat.le_of_ble_eq_true rfl⟩ (Nat.le_of_ble_eq_true rfl) dX7_run_58 ⟨Nat.le_of_ble_eq_true rfl, Nat.le_of_ble_eq_true rfl⟩ (fun H locs hR => ?_)
          refine pw_iconst hC dX7_run_61 ?_
          refine lv_istore_n (lv' := [(2, .int (Int32.ofInt 0)), (0, .ref (ad v0)), (1, .int (Int32.ofInt v1))]) hC.1 hC.2.1 dX7_run_62 rfl hl (by decide) rfl (fun ls hl => ?_)
          refine pw_iconst hC dX7_run_63 ?_
          refine lv_istore_n (lv' := [(3, .int (Int32.ofInt 0)), (2, .int (Int32.ofInt 0)), (0, .ref (ad v0)), (1, .int (Int32.ofInt v1))]) hC.1 hC.2.1 dX7_run_64 rfl hl (by decide) rfl (fun ls hl => ?_)
          obtain ⟨ex9, e9, hF⟩ := bnd hF
          refine LRX7_run_65 hst hout hC FU _ ex9 e9 ?_ _ _ _ hR (lv_sub hl [2, 3, 1, 0] rfl)
          intro H locs ls hR hl
          refine lv_iload_n hC.1 hC.2.1 dX7_run_86 rfl (lv_at hl 0 rfl) ?_
          cases hF
          exact pw_iretT hC hR (Nat.le_of_ble_eq_true rfl) (Nat.le_of_ble_eq_true rfl) dX7_run_87
        · rw [if_pos hc] at hF
          cases hF
          exact pw_thS (i := 13) (tx := "the clock would exceed 100000") hC hR hst hout (by decide +kernel) hl.1 dX7_run_40 dX7_run_43 dX7_run_44 dX7_run_46 dX7_run_49 (Nat.le_of_ble_eq_true rfl) (Nat.le_of_ble_eq_true rfl) (Nat.le_of_ble_eq_true rfl) (Nat.le_of_ble_eq_true rfl) (Nat.le_of_ble_eq_true rfl) (Nat.le_of_ble_eq_true rfl)
      · rw [if_neg hk] at hF
        cases hF
        exact pw_thru hC hR hk hout h1 h2 h3 (Nat.le_of_ble_eq_true rfl) (Nat.le_of_ble_eq_true rfl)
    · rw [if_pos hc] at hF
      exact BX7_run_12 hst hout hC hR (lv_sub hl [] rfl) hF
end
