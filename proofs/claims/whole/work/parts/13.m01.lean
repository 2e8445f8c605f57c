section
variable {p : Program} {l : Launch} {e : Env} {s : State} {m : MethodId} {args : Array Value} {below : List Frame} {meth : Method} {c : Code} {H : Heap} {locs : List Loc} {ls : Array Slot} {g : GP} {ad : Nat → Nat}
abbrev rmX2_remember : Room := { frames := 3, cells := 0, slots := 0, locals := 107 }
def JX2_remember_35 (h : PH) (v0 : Nat) (s0 : Int) (s1 : Nat) : Option (PH) :=
  (pfi h 2 s1 1 s0).bind fun h6 =>
  (gfi h6 2 v0 2).bind fun x7 =>
  (pfi h6 2 v0 2 (minI (x7 + 1) 8)).bind fun h8 =>
  some h8
set_option maxHeartbeats 4000000 in
set_option maxRecDepth 100000 in
theorem BX2_remember_35 {h : PH} {v0 : Nat} {s0 : Int} {s1 : Nat} (hC : Cx g p s m args meth c cX2_remember 2 RX2 none) (hR : Rl g ad h s.heap H locs) (hl : lv_has ls 2 [(0, .ref (ad v0))]) {q : PH} (hF : JX2_remember_35 h v0 s0 s1 = some q) : W p l e rmX2_remember s m args below meth c H locs 0 0 (MQ below (QcN g ad q none) args s 0 0 (gA g)) (F0 m 35 ls [.int (Int32.ofInt s0), .ref (ad s1)]) := by
  unfold JX2_remember_35 at hF
  obtain ⟨h6, e6, hF⟩ := bnd hF
  refine pw_pfi hC hR e6 fpX2_17 (Or.inl rfl) dX2_remember_35 (fun H locs hR => ?_)
  refine lv_aload_n hC.1 hC.2.1 dX2_remember_38 rfl (lv_at hl 0 rfl) ?_
  refine lv_aload_n hC.1 hC.2.1 dX2_remember_39 rfl (lv_at hl 0 rfl) ?_
  obtain ⟨x7, e7, hF⟩ := bnd hF
  refine pw_gfi hC hR e7 flX2_21 dX2_remember_40 ?_
  refine pw_iconst hC dX2_remember_43 ?_
  refine pw_iadd hC dX2_remember_44 ?_
  refine pw_bipush hC dX2_remember_45 rfl ?_
  refine pw_minI hC hl.1 kmX2_29 (Nat.le_of_ble_eq_true rfl) (Nat.le_of_ble_eq_true rfl) dX2_remember_47 ⟨Nat.zero_le _, Nat.zero_le _⟩ ?_
  obtain ⟨h8, e8, hF⟩ := bnd hF
  refine pw_pfi hC hR e8 fpX2_21 (Or.inl rfl) dX2_remember_50 (fun H locs hR => ?_)
  cases hF
  exact pw_vret hC hR dX2_remember_53
def FX2_remember (h : PH) (v0 : Nat) (v1 : Nat) : Option (PH) :=
  (isO h 2 v0).bind fun _ =>
  (gfr h 2 v0 0).bind fun x1 =>
  (gfi h 2 v0 1).bind fun x2 =>
  (rld h 9 x1 x2).bind fun x3 =>
  (FX3_copyFrom h x3 v1).bind fun h4 =>
  (gfi h4 2 v0 1).bind fun x5 =>
  if w32 (x5 + 1) < w32 8 then (
    (gfi h4 2 v0 1).bind fun x9 =>
    JX2_remember_35 h4 v0 (x9 + 1) v0
  ) else (
    JX2_remember_35 h4 v0 0 v0
  )
theorem OX2_remember {h : PH} {v0 : Nat} {v1 : Nat} {q : PH} (hF : FX2_remember h v0 v1 = some q) : ∃ fs : List PV, h[v0]? = some (.inr (2, fs)) := by
  unfold FX2_remember at hF
  obtain ⟨u0, e0, -⟩ := bnd hF
  exact isO_spec e0
set_option maxHeartbeats 4000000 in
set_option maxRecDepth 100000 in
theorem CX2_remember {g : GP} {l : Launch} {ad : Nat → Nat} {h : PH} {v0 : Nat} {v1 : Nat} {q : PH} (hF : FX2_remember h v0 v1 = some q) : CN g l yX2_remember cX2_remember 2 none rmX2_remember ad h [.ref (ad v0), .ref (ad v1)] none q := by
  refine pw_met (by decide) (Nat.le_of_ble_eq_true rfl) ?_
  intro p e s m args below meth c ls hC hN hR hl
  have hl : lv_has ls 2 [(0, .ref (ad v0)), (1, .ref (ad v1))] := hl
  unfold FX2_remember at hF
  obtain ⟨u0, e0, hF⟩ := bnd hF
  refine lv_aload_n hC.1 hC.2.1 dX2_remember_0 rfl (lv_at hl 0 rfl) ?_
  obtain ⟨x1, e1, hF⟩ := bnd hF
  refine pw_gfr hC hR e1 flX2_11 dX2_remember_1 ?_
  refine lv_aload_n hC.1 hC.2.1 dX2_remember_4 rfl (lv_at hl 0 rfl) ?_
  obtain ⟨x2, e2, hF⟩ := bnd hF
  refine pw_gfi hC hR e2 flX2_17 dX2_remember_5 ?_
  obtain ⟨x3, e3, hF⟩ := bnd hF
  refine pw_rald9 hC hR e3 dX2_remember_8 ?_
  refine lv_aload_n hC.1 hC.2.1 dX2_remember_9 rfl (lv_at hl 1 rfl) ?_
  obtain ⟨h4, e4, hF⟩ := bnd hF
  obtain ⟨fs4, ho4⟩ := OX3_copyFrom e4
  refine pw_cVv (rest := []) hC hR lvX2_25 ho4 (CX3_copyFrom e4) ⟨rfl, rfl⟩ rfl hl.1 rfl ⟨Nat.le_of_ble_eq_true rfl, Nat.le_of_ble_eq_true rfl⟩ (Nat.le_of_ble_eq_true rfl) dX2_remember_10 ⟨Nat.zero_le _, Nat.zero_le _⟩ (fun H locs hR => ?_)
  refine lv_aload_n hC.1 hC.2.1 dX2_remember_13 rfl (lv_at hl 0 rfl) ?_
  refine lv_aload_n hC.1 hC.2.1 dX2_remember_14 rfl (lv_at hl 0 rfl) ?_
  obtain ⟨x5, e5, hF⟩ := bnd hF
  refine pw_gfi hC hR e5 flX2_17 dX2_remember_15 ?_
  refine pw_iconst hC dX2_remember_18 ?_
  refine pw_iadd hC dX2_remember_19 ?_
  refine pw_bipush hC dX2_remember_20 rfl ?_
  refine pw_icmpge hC 34 dX2_remember_22 (by decide) (fun hc => ?_) (fun hc => ?_)
  · rw [if_neg hc] at hF
    refine pw_iconst hC dX2_remember_34 ?_
    exact BX2_remember_35 hC hR (lv_sub hl [0] rfl) hF
  · rw [if_pos hc] at hF
    refine lv_aload_n hC.1 hC.2.1 dX2_remember_25 rfl (lv_at hl 0 rfl) ?_
    obtain ⟨x9, e9, hF⟩ := bnd hF
    refine pw_gfi hC hR e9 flX2_17 dX2_remember_26 ?_
    refine pw_iconst hC dX2_remember_29 ?_
    refine pw_iadd hC dX2_remember_30 ?_
    refine pw_goto hC 35 dX2_remember_31 (by decide) ?_
    exact BX2_remember_35 hC hR (lv_sub hl [0] rfl) hF
abbrev rmX2_restoreLatest : Room := { frames := 3, cells := 0, slots := 0, locals := 107 }
def JX2_restoreLatest_28 (h : PH) (v0 : Nat) (v1 : Nat) (s0 : Int) (s1 : Nat) : Option (Int × PH) :=
  (pfi h 2 s1 1 s0).bind fun h3 =>
  (gfr h3 2 v0 0).bind fun x4 =>
  (gfi h3 2 v0 1).bind fun x5 =>
  (rld h3 9 x4 x5).bind fun x6 =>
  (FX3_copyFrom h3 v1 x6).bind fun h7 =>
  (gfi h7 2 v0 2).bind fun x8 =>
  (pfi h7 2 v0 2 (x8 - 1)).bind fun h9 =>
  (gfi h9 2 v0 2).bind fun x10 =>
  some (x10, h9)
set_option maxHeartbeats 4000000 in
set_option maxRecDepth 100000 in
theorem BX2_restoreLatest_28 {h : PH} {v0 : Nat} {v1 : Nat} {s0 : Int} {s1 : Nat} (hC : Cx g p s m args meth c cX2_restoreLatest 2 RX2 (some .int)) (hR : Rl g ad h s.heap H locs) (hl : lv_has ls 2 [(0, .ref (ad v0)), (1, .ref (ad v1))]) {q : Int × PH} (hF : JX2_restoreLatest_28 h v0 v1 s0 s1 = some q) : W p l e rmX2_restoreLatest s m args below meth c H locs 0 0 (MQ below (QcN g ad q.2 (some (.int (Int32.ofInt q.1)))) args s 0 0 (gA g)) (F0 m 28 ls [.int (Int32.ofInt s0), .ref (ad s1)]) := by
  unfold JX2_restoreLatest_28 at hF
  obtain ⟨h3, e3, hF⟩ := bnd hF
  refine pw_pfi hC hR e3 fpX2_17 (Or.inl rfl) dX2_restoreLatest_28 (fun H locs hR => ?_)
  refine lv_aload_n hC.1 hC.2.1 dX2_restoreLatest_31 rfl (lv_at hl 1 rfl) ?_
  refine lv_aload_n hC.1 hC.2.1 dX2_restoreLatest_32 rfl (lv_at hl 0 rfl) ?_
  obtain ⟨x4, e4, hF⟩ := bnd hF
  refine pw_gfr hC hR e4 flX2_11 dX2_restoreLatest_33 ?_
  refine lv_aload_n hC.1 hC.2.1 dX2_restoreLatest_36 rfl (lv_at hl 0 rfl) ?_
  obtain ⟨x5, e5, hF⟩ := bnd hF
  refine pw_gfi hC hR e5 flX2_17 dX2_restoreLatest_37 ?_
  obtain ⟨x6, e6, hF⟩ := bnd hF
  refine pw_rald9 hC hR e6 dX2_restoreLatest_40 ?_
  obtain ⟨h7, e7, hF⟩ := bnd hF
  obtain ⟨fs7, ho7⟩ := OX3_copyFrom e7
  refine pw_cVv (rest := []) hC hR lvX2_25 ho7 (CX3_copyFrom e7) ⟨rfl, rfl⟩ rfl hl.1 rfl ⟨Nat.le_of_ble_eq_true rfl, Nat.le_of_ble_eq_true rfl⟩ (Nat.le_of_ble_eq_true rfl) dX2_restoreLatest_41 ⟨Nat.zero_le _, Nat.zero_le _⟩ (fun H locs hR => ?_)
  refine lv_aload_n hC.1 hC.2.1 dX2_restoreLatest_44 rfl (lv_at hl 0 rfl) ?_
  refine lv_dup hC.1 hC.2.1 dX2_restoreLatest_45 rfl ?_
  obtain ⟨x8, e8, hF⟩ := bnd hF
  refine pw_gfi hC hR e8 flX2_21 dX2_restoreLatest_46 ?_
  refine pw_iconst hC dX2_restoreLatest_49 ?_
  refine pw_isub hC dX2_restoreLatest_50 ?_
  obtain ⟨h9, e9, hF⟩ := bnd hF
  refine pw_pfi hC hR e9 fpX2_21 (Or.inl rfl) dX2_restoreLatest_51 (fun H locs hR => ?_)
  refine lv_aload_n hC.1 hC.2.1 dX2_restoreLatest_54 rfl (lv_at hl 0 rfl) ?_
  obtain ⟨x10, e10, hF⟩ := bnd hF
  refine pw_gfi hC hR e10 flX2_21 dX2_restoreLatest_55 ?_
  cases hF
  exact pw_iret hC hR dX2_restoreLatest_58
def FX2_restoreLatest (h : PH) (v0 : Nat) (v1 : Nat) : Option (Int × PH) :=
  (isO h 2 v0).bind fun _ =>
  (gfi h 2 v0 2).bind fun x1 =>
  if w32 x1 = 0 then (
    some ((-1), h)
  ) else (
    (gfi h 2 v0 1).bind fun x2 =>
    if 0 < w32 x2 then (
      (gfi h 2 v0 1).bind fun x11 =>
      JX2_restoreLatest_28 h v0 v1 (x11 - 1) v0
    ) else (
      JX2_restoreLatest_28 h v0 v1 7 v0
    )
  )
theorem OX2_restoreLatest {h : PH} {v0 : Nat} {v1 : Nat} {q : Int × PH} (hF : FX2_restoreLatest h v0 v1 = some q) : ∃ fs : List PV, h[v0]? = some (.inr (2, fs)) := by
  unfold FX2_restoreLatest at hF
  obtain ⟨u0, e0, -⟩ := bnd hF
  exact isO_spec e0
set_option maxHeartbeats 4000000 in
set_option maxRecDepth 100000 in
theorem CX2_restoreLatest {g : GP} {l : Launch} {ad : Nat → Nat} {h : PH} {v0 : Nat} {v1 : Nat} {q : Int × PH} (hF : FX2_restoreLatest h v0 v1 = some q) : CN g l yX2_restoreLatest cX2_restoreLatest 2 (some .int) rmX2_restoreLatest ad h [.ref (ad v0), .ref (ad v1)] (some (.int (Int32.ofInt q.1))) q.2 := by
  refine pw_met (by decide) (Nat.le_of_ble_eq_true rfl) ?_
  intro p e s m args below meth c ls hC hN hR hl
  have hl : lv_has ls 2 [(0, .ref (ad v0)), (1, .ref (ad v1))] := hl
  unfold FX2_restoreLatest at hF
  obtain ⟨u0, e0, hF⟩ := bnd hF
  refine lv_aload_n hC.1 hC.2.1 dX2_restoreLatest_0 rfl (lv_at hl 0 rfl) ?_
  obtain ⟨x1, e1, hF⟩ := bnd hF
  refine pw_gfi hC hR e1 flX2_21 dX2_restoreLatest_1 ?_
  refine pw_ifne hC 9 dX2_restoreLatest_4 (by decide) (fun hc => ?_) (fun hc => ?_)
  · rw [if_neg hc] at hF
    refine lv_aload_n hC.1 hC.2.1 dX2_restoreLatest_9 rfl (lv_at hl 0 rfl) ?_
    refine lv_aload_n hC.1 hC.2.1 dX2_restoreLatest_10 rfl (lv_at hl 0 rfl) ?_
    obtain ⟨x2, e2, hF⟩ := bnd hF
    refine pw_gfi hC hR e2 flX2_17 dX2_restoreLatest_11 ?_
    refine pw_ifle hC 26 dX2_restoreLatest_14 (by decide) (fun hc => ?_) (fun hc => ?_)
    · rw [if_neg hc] at hF
      refine pw_bipush hC dX2_restoreLatest_26 rfl ?_
      exact BX2_restoreLatest_28 hC hR (lv_sub hl [0, 1] rfl) hF
    · rw [if_pos hc] at hF
      refine lv_aload_n hC.1 hC.2.1 dX2_restoreLatest_17 rfl (lv_at hl 0 rfl) ?_
      obtain ⟨x11, e11, hF⟩ := bnd hF
      refine pw_gfi hC hR e11 flX2_17 dX2_restoreLatest_18 ?_
      refine pw_iconst hC dX2_restoreLatest_21 ?_
      refine pw_isub hC dX2_restoreLatest_22 ?_
      refine pw_goto hC 28 dX2_restoreLatest_23 (by decide) ?_
      exact BX2_restoreLatest_28 hC hR (lv_sub hl [0, 1] rfl) hF
  · rw [if_pos hc] at hF
    refine pw_iconst hC dX2_restoreLatest_7 ?_
    cases hF
    exact pw_iret hC hR dX2_restoreLatest_8
abbrev rmX6_startAgainOn : Room := { frames := 0, cells := 0, slots := 0, locals := 0 }
def JX6_startAgainOn_45 (h : PH) (v0 : Nat) (v1 : Int) (v2 : Int) : Option ((Int × PH) ⊕ (PH)) :=
  some (.inl ((v2 + 1), h))
set_option maxHeartbeats 4000000 in
set_option maxRecDepth 100000 in
theorem BX6_startAgainOn_45 {h : PH} {v0 : Nat} {v1 : Int} {v2 : Int} (hC : Cx g p s m args meth c cX6_startAgainOn 3 RX6 none) (hR : Rl g ad h s.heap H locs) (hl : lv_has ls 3 [(0, .ref (ad v0)), (1, .int (Int32.ofInt v1)), (2, .int (Int32.ofInt v2))]) {Q : State → Prop} {o : (Int × PH) ⊕ (PH)} (hF : JX6_startAgainOn_45 h v0 v1 v2 = some o) (hK : Sum.elim (fun st : Int × PH => ∀ (H : Heap) (locs : List Loc) (ls : Array Slot), Rl g ad st.2 s.heap H locs → lv_has ls 3 [(0, .ref (ad v0)), (1, .int (Int32.ofInt v1)), (2, .int (Int32.ofInt st.1))] → W p l e rmX6_startAgainOn s m args below meth c H locs 0 0 Q (F0 m 2 ls [])) (fun ex : PH => ∀ (H : Heap) (locs : List Loc) (ls : Array Slot), Rl g ad ex s.heap H locs → lv_has ls 3 [] → W p l e rmX6_startAgainOn s m args below meth c H locs 0 0 Q (F0 m 51 ls [])) o) : W p l e rmX6_startAgainOn s m args below meth c H locs 0 0 Q (F0 m 45 ls []) := by
  unfold JX6_startAgainOn_45 at hF
  refine pw_iinc (lv' := [(2, .int (Int32.ofInt (v2 + 1))), (0, .ref (ad v0)), (1, .int (Int32.ofInt v1))]) hC hl 2 dX6_startAgainOn_45 rfl (by decide) rfl (fun ls hl => ?_)
  refine pw_goto hC 2 dX6_startAgainOn_48 (by decide) ?_
  cases hF
  exact hK _ _ _ hR (lv_sub hl [1, 2, 0] rfl)
def JX6_startAgainOn_27 (h : PH) (v0 : Nat) (v1 : Int) (v2 : Int) : Option ((Int × PH) ⊕ (PH)) :=
  if 0 < w32 v1 then (
    (gfr h 6 v0 5).bind fun x4 =>
    (gfr h 6 v0 5).bind fun x5 =>
    (ald 0 h x5 v2).bind fun x6 =>
    if w32 v1 = 0 then none else
    (ast 0 h x4 v2 (remI x6 v1)).bind fun h8 =>
    JX6_startAgainOn_45 h8 v0 v1 v2
  ) else (
    JX6_startAgainOn_45 h v0 v1 v2
  )
set_option maxHeartbeats 4000000 in
set_option maxRecDepth 100000 in
theorem BX6_startAgainOn_27 {h : PH} {v0 : Nat} {v1 : Int} {v2 : Int} (hC : Cx g p s m args meth c cX6_startAgainOn 3 RX6 none) (hR : Rl g ad h s.heap H locs) (hl : lv_has ls 3 [(0, .ref (ad v0)), (1, .int (Int32.ofInt v1)), (2, .int (Int32.ofInt v2))]) {Q : State → Prop} {o : (Int × PH) ⊕ (PH)} (hF : JX6_startAgainOn_27 h v0 v1 v2 = some o) (hK : Sum.elim (fun st : Int × PH => ∀ (H : Heap) (locs : List Loc) (ls : Array Slot), Rl g ad st.2 s.heap H locs → lv_has ls 3 [(0, .ref (ad v0)), (1, .int (Int32.ofInt v1)), (2, .int (Int32.ofInt st.1))] → W p l e rmX6_startAgainOn s m args below meth c H locs 0 0 Q (F0 m 2 ls [])) (fun ex : PH => ∀ (H : Heap) (locs : List Loc) (ls : Array Slot), Rl g ad ex s.heap H locs → lv_has ls 3 [] → W p l e rmX6_startAgainOn s m args below meth c H locs 0 0 Q (F0 m 51 ls [])) o) : W p l e rmX6_startAgainOn s m args below meth c H locs 0 0 Q (F0 m 27 ls []) := by
  unfold JX6_startAgainOn_27 at hF
  refine lv_iload_n hC.1 hC.2.1 dX6_startAgainOn_27 rfl (lv_at hl 1 rfl) ?_
  refine pw_ifle hC 45 dX6_startAgainOn_28 (by decide) (fun hc => ?_) (fun hc => ?_)
  · rw [if_neg hc] at hF
    exact BX6_startAgainOn_45 hC hR (lv_sub hl [0, 1, 2] rfl) hF hK
  · rw [if_pos hc] at hF
    refine lv_aload_n hC.1 hC.2.1 dX6_startAgainOn_31 rfl (lv_at hl 0 rfl) ?_
    obtain ⟨x4, e4, hF⟩ := bnd hF
    refine pw_gfr hC hR e4 flX6_28 dX6_startAgainOn_32 ?_
    refine lv_iload_n hC.1 hC.2.1 dX6_startAgainOn_35 rfl (lv_at hl 2 rfl) ?_
    refine lv_aload_n hC.1 hC.2.1 dX6_startAgainOn_36 rfl (lv_at hl 0 rfl) ?_
    obtain ⟨x5, e5, hF⟩ := bnd hF
    refine pw_gfr hC hR e5 flX6_28 dX6_startAgainOn_37 ?_
    refine lv_iload_n hC.1 hC.2.1 dX6_startAgainOn_40 rfl (lv_at hl 2 rfl) ?_
    obtain ⟨x6, e6, hF⟩ := bnd hF
    refine pw_iald hC hR e6 dX6_startAgainOn_41 ?_
    refine lv_iload_n hC.1 hC.2.1 dX6_startAgainOn_42 rfl (lv_at hl 1 rfl) ?_
    by_cases hn7 : w32 v1 = 0
    · rw [if_pos hn7] at hF; cases hF
    rw [if_neg hn7] at hF
    refine pw_irem hC hn7 dX6_startAgainOn_43 ?_
    obtain ⟨h8, e8, hF⟩ := bnd hF
    refine pw_iast hC hR e8 dX6_startAgainOn_44 (fun H locs hR => ?_)
    exact BX6_startAgainOn_45 hC hR (lv_sub hl [0, 1, 2] rfl) hF hK
def LX6_startAgainOn_2 (v0 : Nat) (v1 : Int) (v2 : Int) (h : PH) : Option ((Int × PH) ⊕ (PH)) :=
  (gfi h 6 v0 0).bind fun x1 =>
  if w32 v2 < w32 x1 then (
    (gfr h 6 v0 2).bind fun x2 =>
    (ald 0 h x2 v2).bind fun x3 =>
    if w32 x3 = w32 5 then (
      JX6_startAgainOn_27 h v0 v1 v2
    ) else (
      (gfr h 6 v0 2).bind fun x9 =>
      (ast 0 h x9 v2 0).bind fun h10 =>
      JX6_startAgainOn_27 h10 v0 v1 v2
    )
  ) else (
    some (.inr h)
  )
set_option maxHeartbeats 4000000 in
set_option maxRecDepth 100000 in
theorem LRX6_startAgainOn_2 {v0 : Nat} {v1 : Int} {Q : State → Prop} (hC : Cx g p s m args meth c cX6_startAgainOn 3 RX6 none) : ∀ (n : Nat) (st : Int × PH) (ex : PH), lp (fun st : Int × PH => LX6_startAgainOn_2 v0 v1 st.1 st.2) n st = some ex → (fun ex : PH => ∀ (H : Heap) (locs : List Loc) (ls : Array Slot), Rl g ad ex s.heap H locs → lv_has ls 3 [] → W p l e rmX6_startAgainOn s m args below meth c H locs 0 0 Q (F0 m 51 ls [])) ex → ∀ (H : Heap) (locs : List Loc) (ls : Array Slot), Rl g ad st.2 s.heap H locs → lv_has ls 3 [(0, .ref (ad v0)), (1, .int (Int32.ofInt v1)), (2, .int (Int32.ofInt st.1))] → W p l e rmX6_startAgainOn s m args below meth c H locs 0 0 Q (F0 m 2 ls []) := by
  refine lp_rule (Ph := (fun st : Int × PH => ∀ (H : Heap) (locs : List Loc) (ls : Array Slot), Rl g ad st.2 s.heap H locs → lv_has ls 3 [(0, .ref (ad v0)), (1, .int (Int32.ofInt v1)), (2, .int (Int32.ofInt st.1))] → W p l e rmX6_startAgainOn s m args below meth c H locs 0 0 Q (F0 m 2 ls []))) (Px := (fun ex : PH => ∀ (H : Heap) (locs : List Loc) (ls : Array Slot), Rl g ad ex s.heap H locs → lv_has ls 3 [] → W p l e rmX6_startAgainOn s m args below meth c H locs 0 0 Q (F0 m 51 ls []))) ?_
  rintro ⟨v2, h⟩ o hF hK H locs ls hR hl
  have hR : Rl g ad h s.heap H locs := hR
  have hl : lv_has ls 3 [(0, .ref (ad v0)), (1, .int (Int32.ofInt v1)), (2, .int (Int32.ofInt v2))] := hl
  have hF : LX6_startAgainOn_2 v0 v1 v2 h = some o := hF
  unfold LX6_startAgainOn_2 at hF
  refine lv_iload_n hC.1 hC.2.1 dX6_startAgainOn_2 rfl (lv_at hl 2 rfl) ?_
  refine lv_aload_n hC.1 hC.2.1 dX6_startAgainOn_3 rfl (lv_at hl 0 rfl) ?_
  obtain ⟨x1, e1, hF⟩ := bnd hF
  refine pw_gfi hC hR e1 flX6_9 dX6_startAgainOn_4 ?_
  refine pw_icmpge hC 51 dX6_startAgainOn_7 (by decide) (fun hc => ?_) (fun hc => ?_)
  · rw [if_neg hc] at hF
    cases hF
    exact hK _ _ _ hR (lv_sub hl [] rfl)
  · rw [if_pos hc] at hF
    refine lv_aload_n hC.1 hC.2.1 dX6_startAgainOn_10 rfl (lv_at hl 0 rfl) ?_
    obtain ⟨x2, e2, hF⟩ := bnd hF
    refine pw_gfr hC hR e2 flX6_18 dX6_startAgainOn_11 ?_
    refine lv_iload_n hC.1 hC.2.1 dX6_startAgainOn_14 rfl (lv_at hl 2 rfl) ?_
    obtain ⟨x3, e3, hF⟩ := bnd hF
    refine pw_iald hC hR e3 dX6_startAgainOn_15 ?_
    refine pw_iconst hC dX6_startAgainOn_16 ?_
    refine pw_icmpeq hC 27 dX6_startAgainOn_17 (by decide) (fun hc => ?_) (fun hc => ?_)
    · rw [if_pos hc] at hF
      exact BX6_startAgainOn_27 hC hR (lv_sub hl [0, 1, 2] rfl) hF hK
    · rw [if_neg hc] at hF
      refine lv_aload_n hC.1 hC.2.1 dX6_startAgainOn_20 rfl (lv_at hl 0 rfl) ?_
      obtain ⟨x9, e9, hF⟩ := bnd hF
      refine pw_gfr hC hR e9 flX6_18 dX6_startAgainOn_21 ?_
      refine lv_iload_n hC.1 hC.2.1 dX6_startAgainOn_24 rfl (lv_at hl 2 rfl) ?_
      refine pw_iconst hC dX6_startAgainOn_25 ?_
      obtain ⟨h10, e10, hF⟩ := bnd hF
      refine pw_iast hC hR e10 dX6_startAgainOn_26 (fun H locs hR => ?_)
      exact BX6_startAgainOn_27 hC hR (lv_sub hl [0, 1, 2] rfl) hF hK
def FX6_startAgainOn (h : PH) (v0 : Nat) (v1 : Int) : Option (PH) :=
  (isO h 6 v0).bind fun _ =>
  (lp (fun st : Int × PH => LX6_startAgainOn_2 v0 v1 st.1 st.2) FU (0, h)).bind fun ex11 =>
  some ex11
theorem OX6_startAgainOn {h : PH} {v0 : Nat} {v1 : Int} {q : PH} (hF : FX6_startAgainOn h v0 v1 = some q) : ∃ fs : List PV, h[v0]? = some (.inr (6, fs)) := by
  unfold FX6_startAgainOn at hF
  obtain ⟨u0, e0, -⟩ := bnd hF
  exact isO_spec e0
set_option maxHeartbeats 4000000 in
set_option maxRecDepth 100000 in
theorem CX6_startAgainOn {g : GP} {l : Launch} {ad : Nat → Nat} {h : PH} {v0 : Nat} {v1 : Int} {q : PH} (hF : FX6_startAgainOn h v0 v1 = some q) : CN g l yX6_startAgainOn cX6_startAgainOn 3 none rmX6_startAgainOn ad h [.ref (ad v0), .int (Int32.ofInt v1)] none q := by
  refine pw_met (by decide) (Nat.le_of_ble_eq_true rfl) ?_
  intro p e s m args below meth c ls hC hN hR hl
  have hl : lv_has ls 3 [(0, .ref (ad v0)), (1, .int (Int32.ofInt v1))] := hl
  unfold FX6_startAgainOn at hF
  obtain ⟨u0, e0, hF⟩ := bnd hF
  refine pw_iconst hC dX6_startAgainOn_0 ?_
  refine lv_istore_n (lv' := [(2, .int (Int32.ofInt 0)), (0, .ref (ad v0)), (1, .int (Int32.ofInt v1))]) hC.1 hC.2.1 dX6_startAgainOn_1 rfl hl (by decide) rfl (fun ls hl => ?_)
  obtain ⟨ex11, e11, hF⟩ := bnd hF
  refine LRX6_startAgainOn_2 hC FU _ ex11 e11 ?_ _ _ _ hR (lv_sub hl [1, 2, 0] rfl)
  intro H locs ls hR hl
  cases hF
  exact pw_vret hC hR dX6_startAgainOn_51
abbrev rmX3_startAgainOn : Room := { frames := 2, cells := 0, slots := 0, locals := 46 }
def FX3_startAgainOn (h : PH) (v0 : Nat) (v1 : Int) : Option (PH) :=
  (isO h 3 v0).bind fun _ =>
  (gfr h 3 v0 0).bind fun x1 =>
  (FX6_startAgainOn h x1 v1).bind fun h2 =>
  (gfr h2 3 v0 1).bind fun x3 =>
  (FX0_startAgainOn h2 x3 v1).bind fun h4 =>
  (pfi h4 3 v0 3 0).bind fun h5 =>
  some h5
theorem OX3_startAgainOn {h : PH} {v0 : Nat} {v1 : Int} {q : PH} (hF : FX3_startAgainOn h v0 v1 = some q) : ∃ fs : List PV, h[v0]? = some (.inr (3, fs)) := by
  unfold FX3_startAgainOn at hF
  obtain ⟨u0, e0, -⟩ := bnd hF
  exact isO_spec e0
set_option maxHeartbeats 4000000 in
set_option maxRecDepth 100000 in
theorem CX3_startAgainOn {g : GP} {l : Launch} {ad : Nat → Nat} {h : PH} {v0 : Nat} {v1 : Int} {q : PH} (hF : FX3_startAgainOn h v0 v1 = some q) : CN g l yX3_startAgainOn cX3_startAgainOn 2 none rmX3_startAgainOn ad h [.ref (ad v0), .int (Int32.ofInt v1)] none q := by
  refine pw_met (by decide) (Nat.le_of_ble_eq_true rfl) ?_
  intro p e s m args below meth c ls hC hN hR hl
  have hl : lv_has ls 2 [(0, .ref (ad v0)), (1, .int (Int32.ofInt v1))] := hl
  unfold FX3_startAgainOn at hF
  obtain ⟨u0, e0, hF⟩ := bnd hF
  refine lv_aload_n hC.1 hC.2.1 dX3_startAgainOn_0 rfl (lv_at hl 0 rfl) ?_
  obtain ⟨x1, e1, hF⟩ := bnd hF
  refine pw_gfr hC hR e1 flX3_12 dX3_startAgainOn_1 ?_
  refine lv_iload_n hC.1 hC.2.1 dX3_startAgainOn_4 rfl (lv_at hl 1 rfl) ?_
  obtain ⟨h2, e2, hF⟩ := bnd hF
  obtain ⟨fs2, ho2⟩ := OX6_startAgainOn e2
  refine pw_cVv (rest := []) hC hR lvX3_45 ho2 (CX6_startAgainOn e2) ⟨rfl, rfl⟩ rfl hl.1 rfl ⟨Nat.le_of_ble_eq_true rfl, Nat.le_of_ble_eq_true rfl⟩ (Nat.le_of_ble_eq_true rfl) dX3_startAgainOn_5 ⟨Nat.zero_le _, Nat.zero_le _⟩ (fun H locs hR => ?_)
  refine lv_aload_n hC.1 hC.2.1 dX3_startAgainOn_8 rfl (lv_at hl 0 rfl) ?_
  obtain ⟨x3, e3, hF⟩ := bnd hF
  refine pw_gfr hC hR e3 flX3_21 dX3_startAgainOn_9 ?_
  refine lv_iload_n hC.1 hC.2.1 dX3_startAgainOn_12 rfl (lv_at hl 1 rfl) ?_
  obtain ⟨h4, e4, hF⟩ := bnd hF
  obtain ⟨fs4, ho4⟩ := OX0_startAgainOn e4
  refine pw_cVv (rest := []) hC hR lvX3_49 ho4 (CX0_startAgainOn e4) ⟨rfl, rfl⟩ rfl hl.1 rfl ⟨Nat.le_of_ble_eq_true rfl, Nat.le_of_ble_eq_true rfl⟩ (Nat.le_of_ble_eq_true rfl) dX3_startAgainOn_13 ⟨Nat.zero_le _, Nat.zero_le _⟩ (fun H locs hR => ?_)
  refine lv_aload_n hC.1 hC.2.1 dX3_startAgainOn_16 rfl (lv_at hl 0 rfl) ?_
  refine pw_iconst hC dX3_startAgainOn_17 ?_
  obtain ⟨h5, e5, hF⟩ := bnd hF
  refine pw_pfi hC hR e5 fpX3_34 (Or.inl rfl) dX3_startAgainOn_18 (fun H locs hR => ?_)
  cases hF
  exact pw_vret hC hR dX3_startAgainOn_21
abbrev rmX6_unfinishedBits : Room := { frames := 0, cells := 0, slots := 0, locals := 0 }
def JX6_unfinishedBits_38 (h : PH) (v0 : Nat) (v1 : Int) (v2 : Int) : Option ((Int × Int) ⊕ (Int)) :=
  some (.inl (v1, (v2 + 1)))
set_option maxHeartbeats 4000000 in
set_option maxRecDepth 100000 in
theorem BX6_unfinishedBits_38 {h : PH} {v0 : Nat} {v1 : Int} {v2 : Int} (hC : Cx g p s m args meth c cX6_unfinishedBits 3 RX6 (some .int)) (hR : Rl g ad h s.heap H locs) (hl : lv_has ls 3 [(0, .ref (ad v0)), (1, .int (Int32.ofInt v1)), (2, .int (Int32.ofInt v2))]) {Q : State → Prop} {o : (Int × Int) ⊕ (Int)} (hF : JX6_unfinishedBits_38 h v0 v1 v2 = some o) (hK : Sum.elim (fun st : Int × Int => ∀ (H : Heap) (locs : List Loc) (ls : Array Slot), Rl g ad h s.heap H locs → lv_has ls 3 [(0, .ref (ad v0)), (1, .int (Int32.ofInt st.1)), (2, .int (Int32.ofInt st.2))] → W p l e rmX6_unfinishedBits s m args below meth c H locs 0 0 Q (F0 m 4 ls [])) (fun ex : Int => ∀ (H : Heap) (locs : List Loc) (ls : Array Slot), Rl g ad h s.heap H locs → lv_has ls 3 [(1, .int (Int32.ofInt ex))] → W p l e rmX6_unfinishedBits s m args below meth c H locs 0 0 Q (F0 m 44 ls [])) o) : W p l e rmX6_unfinishedBits s m args below meth c H locs 0 0 Q (F0 m 38 ls []) := by
  unfold JX6_unfinishedBits_38 at hF
  refine pw_iinc (lv' := [(2, .int (Int32.ofInt (v2 + 1))), (0, .ref (ad v0)), (1, .int (Int32.ofInt v1))]) hC hl 2 dX6_unfinishedBits_38 rfl (by decide) rfl (fun ls hl => ?_)
  refine pw_goto hC 4 dX6_unfinishedBits_41 (by decide) ?_
  cases hF
  exact hK _ _ _ hR (lv_sub hl [1, 2, 0] rfl)
def LX6_unfinishedBits_4 (h : PH) (v0 : Nat) (v1 : Int) (v2 : Int) : Option ((Int × Int) ⊕ (Int)) :=
  (gfi h 6 v0 0).bind fun x1 =>
  if w32 v2 < w32 x1 then (
    (gfr h 6 v0 2).bind fun x2 =>
    (ald 0 h x2 v2).bind fun x3 =>
    if w32 x3 = w32 4 then (
      JX6_unfinishedBits_38 h v0 v1 v2
    ) else (
      (gfr h 6 v0 2).bind fun x4 =>
      (ald 0 h x4 v2).bind fun x5 =>
      if w32 x5 = w32 5 then (
        JX6_unfinishedBits_38 h v0 v1 v2
      ) else (
        JX6_unfinishedBits_38 h v0 (orI v1 (shlI 1 v2)) v2
      )
    )
  ) else (
    some (.inr v1)
  )
set_option maxHeartbeats 4000000 in
set_option maxRecDepth 100000 in
theorem LRX6_unfinishedBits_4 {h : PH} {v0 : Nat} {Q : State → Prop} (hC : Cx g p s m args meth c cX6_unfinishedBits 3 RX6 (some .int)) : ∀ (n : Nat) (st : Int × Int) (ex : Int), lp (fun st : Int × Int => LX6_unfinishedBits_4 h v0 st.1 st.2) n st = some ex → (fun ex : Int => ∀ (H : Heap) (locs : List Loc) (ls : Array Slot), Rl g ad h s.heap H locs → lv_has ls 3 [(1, .int (Int32.ofInt ex))] → W p l e rmX6_unfinishedBits s m args below meth c H locs 0 0 Q (F0 m 44 ls [])) ex → ∀ (H : Heap) (locs : List Loc) (ls : Array Slot), Rl g ad h s.heap H locs → lv_has ls 3 [(0, .ref (ad v0)), (1, .int (Int32.ofInt st.1)), (2, .int (Int32.ofInt st.2))] → W p l e rmX6_unfinishedBits s m args below meth c H locs 0 0 Q (F0 m 4 ls []) := by
  refine lp_rule (Ph := (fun st : Int × Int => ∀ (H : Heap) (locs : List Loc) (ls : Array Slot), Rl g ad h s.heap H locs → lv_has ls 3 [(0, .ref (ad v0)), (1, .int (Int32.ofInt st.1)), (2, .int (Int32.ofInt st.2))] → W p l e rmX6_unfinishedBits s m args below meth c H locs 0 0 Q (F0 m 4 ls []))) (Px := (fun ex : Int => ∀ (H : Heap) (locs : List Loc) (ls : Array Slot), Rl g ad h s.heap H locs → lv_has ls 3 [(1, .int (Int32.ofInt ex))] → W p l e rmX6_unfinishedBits s m args below meth c H locs 0 0 Q (F0 m 44 ls []))) ?_
  rintro ⟨v1, v2⟩ o hF hK H locs ls hR hl
  have hR : Rl g ad h s.heap H locs := hR
  have hl : lv_has ls 3 [(0, .ref (ad v0)), (1, .int (Int32.ofInt v1)), (2, .int (Int32.ofInt v2))] := hl
  have hF : LX6_unfinishedBits_4 h v0 v1 v2 = some o := hF
  unfold LX6_unfinishedBits_4 at hF
  refine lv_iload_n hC.1 hC.2.1 dX6_unfinishedBits_4 rfl (lv_at hl 2 rfl) ?_
  refine lv_aload_n hC.1 hC.2.1 dX6_unfinishedBits_5 rfl (lv_at hl 0 rfl) ?_
  obtain ⟨x1, e1, hF⟩ := bnd hF
  refine pw_gfi hC hR e1 flX6_9 dX6_unfinishedBits_6 ?_
  refine pw_icmpge hC 44 dX6_unfinishedBits_9 (by decide) (fun hc => ?_) (fun hc => ?_)
  · rw [if_neg hc] at hF
    cases hF
    exact hK _ _ _ hR (lv_sub hl [1] rfl)
  · rw [if_pos hc] at hF
    refine lv_aload_n hC.1 hC.2.1 dX6_unfinishedBits_12 rfl (lv_at hl 0 rfl) ?_
    obtain ⟨x2, e2, hF⟩ := bnd hF
    refine pw_gfr hC hR e2 flX6_18 dX6_unfinishedBits_13 ?_
    refine lv_iload_n hC.1 hC.2.1 dX6_unfinishedBits_16 rfl (lv_at hl 2 rfl) ?_
    obtain ⟨x3, e3, hF⟩ := bnd hF
    refine pw_iald hC hR e3 dX6_unfinishedBits_17 ?_
    refine pw_iconst hC dX6_unfinishedBits_18 ?_
    refine pw_icmpeq hC 38 dX6_unfinishedBits_19 (by decide) (fun hc => ?_) (fun hc => ?_)
    · rw [if_pos hc] at hF
      exact BX6_unfinishedBits_38 hC hR (lv_sub hl [0, 1, 2] rfl) hF hK
    · rw [if_neg hc] at hF
      refine lv_aload_n hC.1 hC.2.1 dX6_unfinishedBits_22 rfl (lv_at hl 0 rfl) ?_
      obtain ⟨x4, e4, hF⟩ := bnd hF
      refine pw_gfr hC hR e4 flX6_18 dX6_unfinishedBits_23 ?_
      refine lv_iload_n hC.1 hC.2.1 dX6_unfinishedBits_26 rfl (lv_at hl 2 rfl) ?_
      obtain ⟨x5, e5, hF⟩ := bnd hF
      refine pw_iald hC hR e5 dX6_unfinishedBits_27 ?_
      refine pw_iconst hC dX6_unfinishedBits_28 ?_
      refine pw_icmpeq hC 38 dX6_unfinishedBits_29 (by decide) (fun hc => ?_) (fun hc => ?_)
      · rw [if_pos hc] at hF
        exact BX6_unfinishedBits_38 hC hR (lv_sub hl [0, 1, 2] rfl) hF hK
      · rw [if_neg hc] at hF
        refine lv_iload_n hC.1 hC.2.1 dX6_unfinishedBits_32 rfl (lv_at hl 1 rfl) ?_
        refine pw_iconst hC dX6_unfinishedBits_33 ?_
        refine lv_iload_n hC.1 hC.2.1 dX6_unfinishedBits_34 rfl (lv_at hl 2 rfl) ?_
        refine pw_ishl hC dX6_unfinishedBits_35 ?_
        refine pw_ior hC dX6_unfinishedBits_36 ?_
        refine lv_istore_n (lv' := [(1, .int (Int32.ofInt (orI v1 (shlI 1 v2)))), (0, .ref (ad v0)), (2, .int (Int32.ofInt v2))]) hC.1 hC.2.1 dX6_unfinishedBits_37 rfl hl (by decide) rfl (fun ls hl => ?_)
        exact BX6_unfinishedBits_38 hC hR (lv_sub hl [1, 0, 2] rfl) hF hK
def FX6_unfinishedBits (h : PH) (v0 : Nat) : Option (Int) :=
  (isO h 6 v0).bind fun _ =>
  (lp (fun st : Int × Int => LX6_unfinishedBits_4 h v0 st.1 st.2) FU (0, 0)).bind fun ex6 =>
  some ex6
theorem OX6_unfinishedBits {h : PH} {v0 : Nat} {q : Int} (hF : FX6_unfinishedBits h v0 = some q) : ∃ fs : List PV, h[v0]? = some (.inr (6, fs)) := by
  unfold FX6_unfinishedBits at hF
  obtain ⟨u0, e0, -⟩ := bnd hF
  exact isO_spec e0
set_option maxHeartbeats 4000000 in
set_option maxRecDepth 100000 in
theorem CX6_unfinishedBits {g : GP} {l : Launch} {ad : Nat → Nat} {h : PH} {v0 : Nat} {q : Int} (hF : FX6_unfinishedBits h v0 = some q) : CN g l yX6_unfinishedBits cX6_unfinishedBits 3 (some .int) rmX6_unfinishedBits ad h [.ref (ad v0)] (some (.int (Int32.ofInt q))) h := by
  refine pw_met (by decide) (Nat.le_of_ble_eq_true rfl) ?_
  intro p e s m args below meth c ls hC hN hR hl
  have hl : lv_has ls 3 [(0, .ref (ad v0))] := hl
  unfold FX6_unfinishedBits at hF
  obtain ⟨u0, e0, hF⟩ := bnd hF
  refine pw_iconst hC dX6_unfinishedBits_0 ?_
  refine lv_istore_n (lv' := [(1, .int (Int32.ofInt 0)), (0, .ref (ad v0))]) hC.1 hC.2.1 dX6_unfinishedBits_1 rfl hl (by decide) rfl (fun ls hl => ?_)
  refine pw_iconst hC dX6_unfinishedBits_2 ?_
  refine lv_istore_n (lv' := [(2, .int (Int32.ofInt 0)), (1, .int (Int32.ofInt 0)), (0, .ref (ad v0))]) hC.1 hC.2.1 dX6_unfinishedBits_3 rfl hl (by decide) rfl (fun ls hl => ?_)
  obtain ⟨ex6, e6, hF⟩ := bnd hF
  refine LRX6_unfinishedBits_4 hC FU _ ex6 e6 ?_ _ _ _ hR (lv_sub hl [2, 1, 0] rfl)
  intro H locs ls hR hl
  refine lv_iload_n hC.1 hC.2.1 dX6_unfinishedBits_44 rfl (lv_at hl 0 rfl) ?_
  cases hF
  exact pw_iret hC hR dX6_unfinishedBits_45
abbrev rmX3_finishTasks : Room := { frames := 0, cells := 0, slots := 0, locals := 0 }
def JX3_finishTasks_90 (h : PH) (v0 : Nat) (v1 : Int) (v2 : Int) : Option ((Int × Int × PH) ⊕ (Int × PH)) :=
  some (.inl (v1, (v2 + 1), h))
set_option maxHeartbeats 4000000 in
set_option maxRecDepth 100000 in
theorem BX3_finishTasks_90 {h : PH} {v0 : Nat} {v1 : Int} {v2 : Int} (hC : Cx g p s m args meth c cX3_finishTasks 4 RX3 (some .int)) (hR : Rl g ad h s.heap H locs) (hl : lv_has ls 4 [(0, .ref (ad v0)), (1, .int (Int32.ofInt v1)), (2, .int (Int32.ofInt v2))]) {Q : State → Prop} {o : (Int × Int × PH) ⊕ (Int × PH)} (hF : JX3_finishTasks_90 h v0 v1 v2 = some o) (hK : Sum.elim (fun st : Int × Int × PH => ∀ (H : Heap) (locs : List Loc) (ls : Array Slot), Rl g ad st.2.2 s.heap H locs → lv_has ls 4 [(0, .ref (ad v0)), (1, .int (Int32.ofInt st.1)), (2, .int (Int32.ofInt st.2.1))] → W p l e rmX3_finishTasks s m args below meth c H locs 0 0 Q (F0 m 4 ls [])) (fun ex : Int × PH => ∀ (H : Heap) (locs : List Loc) (ls : Array Slot), Rl g ad ex.2 s.heap H locs → lv_has ls 4 [(1, .int (Int32.ofInt ex.1))] → W p l e rmX3_finishTasks s m args below meth c H locs 0 0 Q (F0 m 96 ls [])) o) : W p l e rmX3_finishTasks s m args below meth c H locs 0 0 Q (F0 m 90 ls []) := by
  unfold JX3_finishTasks_90 at hF
  refine pw_iinc (lv' := [(2, .int (Int32.ofInt (v2 + 1))), (0, .ref (ad v0)), (1, .int (Int32.ofInt v1))]) hC hl 2 dX3_finishTasks_90 rfl (by decide) rfl (fun ls hl => ?_)
  refine pw_goto hC 4 dX3_finishTasks_93 (by decide) ?_
  cases hF
  exact hK _ _ _ hR (lv_sub hl [1, 2, 0] rfl)
def LX3_finishTasks_4 (v0 : Nat) (v1 : Int) (v2 : Int) (h : PH) : Option ((Int × Int × PH) ⊕ (Int × PH)) :=
  (gfr h 3 v0 1).bind fun x1 =>
  (gfi h 0 x1 0).bind fun x2 =>
  if w32 v2 < w32 x2 then (
    (gfr h 3 v0 1).bind fun x3 =>
    (gfr h 0 x3 5).bind fun x4 =>
    (ald 0 h x4 v2).bind fun x5 =>
    if w32 x5 < 0 then (
      JX3_finishTasks_90 h v0 v1 v2
    ) else (
      (gfr h 3 v0 1).bind fun x6 =>
      (gfr h 0 x6 6).bind fun x7 =>
      (ald 0 h x7 v2).bind fun x8 =>
      (ast 0 h x7 v2 (x8 - 1)).bind fun h9 =>
      (gfr h9 3 v0 1).bind fun x10 =>
      (gfr h9 0 x10 6).bind fun x11 =>
      (ald 0 h9 x11 v2).bind fun x12 =>
      if w32 x12 = 0 then (
        (gfr h9 3 v0 0).bind fun x13 =>
        (gfr h9 6 x13 2).bind fun x14 =>
        (ast 0 h9 x14 x5 4).bind fun h15 =>
        (gfr h15 3 v0 0).bind fun x16 =>
        (gfr h15 6 x16 8).bind fun x17 =>
        (gfi h15 3 v0 3).bind fun x18 =>
        (ast 0 h15 x17 x5 x18).bind fun h19 =>
        (gfr h19 3 v0 1).bind fun x20 =>
        (gfr h19 0 x20 5).bind fun x21 =>
        (ast 0 h19 x21 v2 (-1)).bind fun h22 =>
        JX3_finishTasks_90 h22 v0 (v1 + 1) v2
      ) else (
        JX3_finishTasks_90 h9 v0 v1 v2
      )
    )
  ) else (
    some (.inr (v1, h))
  )
set_option maxHeartbeats 4000000 in
set_option maxRecDepth 100000 in
theorem LRX3_finishTasks_4 {v0 : Nat} {Q : State → Prop} (hC : Cx g p s m args meth c cX3_finishTasks 4 RX3 (some .int)) : ∀ (n : Nat) (st : Int × Int × PH) (ex : Int × PH), lp (fun st : Int × Int × PH => LX3_finishTasks_4 v0 st.1 st.2.1 st.2.2) n st = some ex → (fun ex : Int × PH => ∀ (H : Heap) (locs : List Loc) (ls : Array Slot), Rl g ad ex.2 s.heap H locs → lv_has ls 4 [(1, .int (Int32.ofInt ex.1))] → W p l e rmX3_finishTasks s m args below meth c H locs 0 0 Q (F0 m 96 ls [])) ex → ∀ (H : Heap) (locs : List Loc) (ls : Array Slot), Rl g ad st.2.2 s.heap H locs → lv_has ls 4 [(0, .ref (ad v0)), (1, .int (Int32.ofInt st.1)), (2, .int (Int32.ofInt st.2.1))] → W p l e rmX3_finishTasks s m args below meth c H locs 0 0 Q (F0 m 4 ls []) := by
  refine lp_rule (Ph := (fun st : Int × Int × PH => ∀ (H : Heap) (locs : List Loc) (ls : Array Slot), Rl g ad st.2.2 s.heap H locs → lv_has ls 4 [(0, .ref (ad v0)), (1, .int (Int32.ofInt st.1)), (2, .int (Int32.ofInt st.2.1))] → W p l e rmX3_finishTasks s m args below meth c H locs 0 0 Q (F0 m 4 ls []))) (Px := (fun ex : Int × PH => ∀ (H : Heap) (locs : List Loc) (ls : Array Slot), Rl g ad ex.2 s.heap H locs → lv_has ls 4 [(1, .int (Int32.ofInt ex.1))] → W p l e rmX3_finishTasks s m args below meth c H locs 0 0 Q (F0 m 96 ls []))) ?_
  rintro ⟨v1, v2, h⟩ o hF hK H locs ls hR hl
  have hR : Rl g ad h s.heap H locs := hR
  have hl : lv_has ls 4 [(0, .ref (ad v0)), (1, .int (Int32.ofInt v1)), (2, .int (Int32.ofInt v2))] := hl
  have hF : LX3_finishTasks_4 v0 v1 v2 h = some o := hF
  unfold LX3_finishTasks_4 at hF
  refine lv_iload_n hC.1 hC.2.1 dX3_finishTasks_4 rfl (lv_at hl 2 rfl) ?_
  refine lv_aload_n hC.1 hC.2.1 dX3_finishTasks_5 rfl (lv_at hl 0 rfl) ?_
  obtain ⟨x1, e1, hF⟩ := bnd hF
  refine pw_gfr hC hR e1 flX3_21 dX3_finishTasks_6 ?_
  obtain ⟨x2, e2, hF⟩ := bnd hF
  refine pw_gfi hC hR e2 flX3_72 dX3_finishTasks_9 ?_
  refine pw_icmpge hC 96 dX3_finishTasks_12 (by decide) (fun hc => ?_) (fun hc => ?_)
  · rw [if_neg hc] at hF
    cases hF
    exact hK _ _ _ hR (lv_sub hl [1] rfl)
  · rw [if_pos hc] at hF
    refine lv_aload_n hC.1 hC.2.1 dX3_finishTasks_15 rfl (lv_at hl 0 rfl) ?_
    obtain ⟨x3, e3, hF⟩ := bnd hF
    refine pw_gfr hC hR e3 flX3_21 dX3_finishTasks_16 ?_
    obtain ⟨x4, e4, hF⟩ := bnd hF
    refine pw_gfr hC hR e4 flX3_75 dX3_finishTasks_19 ?_
    refine lv_iload_n hC.1 hC.2.1 dX3_finishTasks_22 rfl (lv_at hl 2 rfl) ?_
    obtain ⟨x5, e5, hF⟩ := bnd hF
    refine pw_iald hC hR e5 dX3_finishTasks_23 ?_
    refine lv_istore_n (lv' := [(3, .int (Int32.ofInt x5)), (0, .ref (ad v0)), (1, .int (Int32.ofInt v1)), (2, .int (Int32.ofInt v2))]) hC.1 hC.2.1 dX3_finishTasks_24 rfl hl (by decide) rfl (fun ls hl => ?_)
    refine lv_iload_n hC.1 hC.2.1 dX3_finishTasks_25 rfl (lv_at hl 0 rfl) ?_
    refine pw_iflt hC 90 dX3_finishTasks_26 (by decide) (fun hc => ?_) (fun hc => ?_)
    · rw [if_pos hc] at hF
      exact BX3_finishTasks_90 hC hR (lv_sub hl [1, 2, 3] rfl) hF hK
    · rw [if_neg hc] at hF
      refine lv_aload_n hC.1 hC.2.1 dX3_finishTasks_29 rfl (lv_at hl 1 rfl) ?_
      obtain ⟨x6, e6, hF⟩ := bnd hF
      refine pw_gfr hC hR e6 flX3_21 dX3_finishTasks_30 ?_
      obtain ⟨x7, e7, hF⟩ := bnd hF
      refine pw_gfr hC hR e7 flX3_79 dX3_finishTasks_33 ?_
      refine lv_iload_n hC.1 hC.2.1 dX3_finishTasks_36 rfl (lv_at hl 3 rfl) ?_
      refine lv_dup2_11 hC.1 hC.2.1 dX3_finishTasks_37 rfl rfl ?_
      obtain ⟨x8, e8, hF⟩ := bnd hF
      refine pw_iald hC hR e8 dX3_finishTasks_38 ?_
      refine pw_iconst hC dX3_finishTasks_39 ?_
      refine pw_isub hC dX3_finishTasks_40 ?_
      obtain ⟨h9, e9, hF⟩ := bnd hF
      refine pw_iast hC hR e9 dX3_finishTasks_41 (fun H locs hR => ?_)
      refine lv_aload_n hC.1 hC.2.1 dX3_finishTasks_42 rfl (lv_at hl 1 rfl) ?_
      obtain ⟨x10, e10, hF⟩ := bnd hF
      refine pw_gfr hC hR e10 flX3_21 dX3_finishTasks_43 ?_
      obtain ⟨x11, e11, hF⟩ := bnd hF
      refine pw_gfr hC hR e11 flX3_79 dX3_finishTasks_46 ?_
      refine lv_iload_n hC.1 hC.2.1 dX3_finishTasks_49 rfl (lv_at hl 3 rfl) ?_
      obtain ⟨x12, e12, hF⟩ := bnd hF
      refine pw_iald hC hR e12 dX3_finishTasks_50 ?_
      refine pw_ifne hC 90 dX3_finishTasks_51 (by decide) (fun hc => ?_) (fun hc => ?_)
      · rw [if_neg hc] at hF
        exact BX3_finishTasks_90 hC hR (lv_sub hl [1, 2, 3] rfl) hF hK
      · rw [if_pos hc] at hF
        refine lv_aload_n hC.1 hC.2.1 dX3_finishTasks_54 rfl (lv_at hl 1 rfl) ?_
        obtain ⟨x13, e13, hF⟩ := bnd hF
        refine pw_gfr hC hR e13 flX3_12 dX3_finishTasks_55 ?_
        obtain ⟨x14, e14, hF⟩ := bnd hF
        refine pw_gfr hC hR e14 flX3_82 dX3_finishTasks_58 ?_
        refine lv_iload_n hC.1 hC.2.1 dX3_finishTasks_61 rfl (lv_at hl 0 rfl) ?_
        refine pw_iconst hC dX3_finishTasks_62 ?_
        obtain ⟨h15, e15, hF⟩ := bnd hF
        refine pw_iast hC hR e15 dX3_finishTasks_63 (fun H locs hR => ?_)
        refine lv_aload_n hC.1 hC.2.1 dX3_finishTasks_64 rfl (lv_at hl 1 rfl) ?_
        obtain ⟨x16, e16, hF⟩ := bnd hF
        refine pw_gfr hC hR e16 flX3_12 dX3_finishTasks_65 ?_
        obtain ⟨x17, e17, hF⟩ := bnd hF
        refine pw_gfr hC hR e17 flX3_85 dX3_finishTasks_68 ?_
        refine lv_iload_n hC.1 hC.2.1 dX3_finishTasks_71 rfl (lv_at hl 0 rfl) ?_
        refine lv_aload_n hC.1 hC.2.1 dX3_finishTasks_72 rfl (lv_at hl 1 rfl) ?_
        obtain ⟨x18, e18, hF⟩ := bnd hF
        refine pw_gfi hC hR e18 flX3_34 dX3_finishTasks_73 ?_
        obtain ⟨h19, e19, hF⟩ := bnd hF
        refine pw_iast hC hR e19 dX3_finishTasks_76 (fun H locs hR => ?_)
        refine lv_aload_n hC.1 hC.2.1 dX3_finishTasks_77 rfl (lv_at hl 1 rfl) ?_
        obtain ⟨x20, e20, hF⟩ := bnd hF
        refine pw_gfr hC hR e20 flX3_21 dX3_finishTasks_78 ?_
        obtain ⟨x21, e21, hF⟩ := bnd hF
        refine pw_gfr hC hR e21 flX3_75 dX3_finishTasks_81 ?_
        refine lv_iload_n hC.1 hC.2.1 dX3_finishTasks_84 rfl (lv_at hl 3 rfl) ?_
        refine pw_iconst hC dX3_finishTasks_85 ?_
        obtain ⟨h22, e22, hF⟩ := bnd hF
        refine pw_iast hC hR e22 dX3_finishTasks_86 (fun H locs hR => ?_)
        refine pw_iinc (lv' := [(1, .int (Int32.ofInt (v1 + 1))), (3, .int (Int32.ofInt x5)), (0, .ref (ad v0)), (2, .int (Int32.ofInt v2))]) hC hl 2 dX3_finishTasks_87 rfl (by decide) rfl (fun ls hl => ?_)
        exact BX3_finishTasks_90 hC hR (lv_sub hl [2, 0, 3] rfl) hF hK
def FX3_finishTasks (h : PH) (v0 : Nat) : Option (Int × PH) :=
  (isO h 3 v0).bind fun _ =>
  (lp (fun st : Int × Int × PH => LX3_finishTasks_4 v0 st.1 st.2.1 st.2.2) FU (0, 0, h)).bind fun ex23 =>
  some (ex23.1, ex23.2)
theorem OX3_finishTasks {h : PH} {v0 : Nat} {q : Int × PH} (hF : FX3_finishTasks h v0 = some q) : ∃ fs : List PV, h[v0]? = some (.inr (3, fs)) := by
  unfold FX3_finishTasks at hF
  obtain ⟨u0, e0, -⟩ := bnd hF
  exact isO_spec e0
set_option maxHeartbeats 4000000 in
set_option maxRecDepth 100000 in
theorem CX3_finishTasks {g : GP} {l : Launch} {ad : Nat → Nat} {h : PH} {v0 : Nat} {q : Int × PH} (hF : FX3_finishTasks h v0 = some q) : CN g l yX3_finishTasks cX3_finishTasks 4 (some .int) rmX3_finishTasks ad h [.ref (ad v0)] (some (.int (Int32.ofInt q.1))) q.2 := by
  refine pw_met (by decide) (Nat.le_of_ble_eq_true rfl) ?_
  intro p e s m args below meth c ls hC hN hR hl
  have hl : lv_has ls 4 [(0, .ref (ad v0))] := hl
  unfold FX3_finishTasks at hF
  obtain ⟨u0, e0, hF⟩ := bnd hF
  refine pw_iconst hC dX3_finishTasks_0 ?_
  refine lv_istore_n (lv' := [(1, .int (Int32.ofInt 0)), (0, .ref (ad v0))]) hC.1 hC.2.1 dX3_finishTasks_1 rfl hl (by decide) rfl (fun ls hl => ?_)
  refine pw_iconst hC dX3_finishTasks_2 ?_
  refine lv_istore_n (lv' := [(2, .int (Int32.ofInt 0)), (1, .int (Int32.ofInt 0)), (0, .ref (ad v0))]) hC.1 hC.2.1 dX3_finishTasks_3 rfl hl (by decide) rfl (fun ls hl => ?_)
  obtain ⟨ex23, e23, hF⟩ := bnd hF
  refine LRX3_finishTasks_4 hC FU _ ex23 e23 ?_ _ _ _ hR (lv_sub hl [2, 1, 0] rfl)
  intro H locs ls hR hl
  refine lv_iload_n hC.1 hC.2.1 dX3_finishTasks_96 rfl (lv_at hl 0 rfl) ?_
  cases hF
  exact pw_iret hC hR dX3_finishTasks_97
abbrev rmJ6_bitCount_0f7a4 : Room := { frames := 0, cells := 0, slots := 0, locals := 0 }
def FJ6_bitCount_0f7a4 (h : PH) (v0 : Int) : Option (Int) :=
  some (andI (((andI (((andI (v0 - (andI (ushrI v0 1) 1431655765)) 858993459) + (andI (ushrI (v0 - (andI (ushrI v0 1) 1431655765)) 2) 858993459)) + (ushrI ((andI (v0 - (andI (ushrI v0 1) 1431655765)) 858993459) + (andI (ushrI (v0 - (andI (ushrI v0 1) 1431655765)) 2) 858993459)) 4)) 252645135) + (ushrI (andI (((andI (v0 - (andI (ushrI v0 1) 1431655765)) 858993459) + (andI (ushrI (v0 - (andI (ushrI v0 1) 1431655765)) 2) 858993459)) + (ushrI ((andI (v0 - (andI (ushrI v0 1) 1431655765)) 858993459) + (andI (ushrI (v0 - (andI (ushrI v0 1) 1431655765)) 2) 858993459)) 4)) 252645135) 8)) + (ushrI ((andI (((andI (v0 - (andI (ushrI v0 1) 1431655765)) 858993459) + (andI (ushrI (v0 - (andI (ushrI v0 1) 1431655765)) 2) 858993459)) + (ushrI ((andI (v0 - (andI (ushrI v0 1) 1431655765)) 858993459) + (andI (ushrI (v0 - (andI (ushrI v0 1) 1431655765)) 2) 858993459)) 4)) 252645135) + (ushrI (andI (((andI (v0 - (andI (ushrI v0 1) 1431655765)) 858993459) + (andI (ushrI (v0 - (andI (ushrI v0 1) 1431655765)) 2) 858993459)) + (ushrI ((andI (v0 - (andI (ushrI v0 1) 1431655765)) 858993459) + (andI (ushrI (v0 - (andI (ushrI v0 1) 1431655765)) 2) 858993459)) 4)) 252645135) 8)) 16)) 63)
set_option maxHeartbeats 4000000 in
set_option maxRecDepth 100000 in
theorem CJ6_bitCount_0f7a4 {g : GP} {l : Launch} {ad : Nat → Nat} {h : PH} {v0 : Int} {q : Int} (hF : FJ6_bitCount_0f7a4 h v0 = some q) : CN g l yJ6_bitCount_0f7a4 cJ6_bitCount_0f7a4 1 (some .int) rmJ6_bitCount_0f7a4 ad h [.int (Int32.ofInt v0)] (some (.int (Int32.ofInt q))) h := by
  refine pw_met (by decide) (Nat.le_of_ble_eq_true rfl) ?_
  intro p e s m args below meth c ls hC hN hR hl
  have hl : lv_has ls 1 [(0, .int (Int32.ofInt v0))] := hl
  unfold FJ6_bitCount_0f7a4 at hF
  refine lv_iload_n hC.1 hC.2.1 dJ6_bitCount_0f7a4_0 rfl (lv_at hl 0 rfl) ?_
  refine lv_iload_n hC.1 hC.2.1 dJ6_bitCount_0f7a4_1 rfl (lv_at hl 0 rfl) ?_
  refine pw_iconst hC dJ6_bitCount_0f7a4_2 ?_
  refine pw_iushr hC dJ6_bitCount_0f7a4_3 ?_
  refine pw_ldcw hC 1431655765 kcJ6_265 dJ6_bitCount_0f7a4_4 ?_
  refine pw_iand hC dJ6_bitCount_0f7a4_7 ?_
  refine pw_isub hC dJ6_bitCount_0f7a4_8 ?_
  refine lv_istore_n (lv' := [(0, .int (Int32.ofInt (v0 - (andI (ushrI v0 1) 1431655765))))]) hC.1 hC.2.1 dJ6_bitCount_0f7a4_9 rfl hl (by decide) rfl (fun ls hl => ?_)
  refine lv_iload_n hC.1 hC.2.1 dJ6_bitCount_0f7a4_10 rfl (lv_at hl 0 rfl) ?_
  refine pw_ldcw hC 858993459 kcJ6_266 dJ6_bitCount_0f7a4_11 ?_
  refine pw_iand hC dJ6_bitCount_0f7a4_14 ?_
  refine lv_iload_n hC.1 hC.2.1 dJ6_bitCount_0f7a4_15 rfl (lv_at hl 0 rfl) ?_
  refine pw_iconst hC dJ6_bitCount_0f7a4_16 ?_
  refine pw_iushr hC dJ6_bitCount_0f7a4_17 ?_
  refine pw_ldcw hC 858993459 kcJ6_266 dJ6_bitCount_0f7a4_18 ?_
  refine pw_iand hC dJ6_bitCount_0f7a4_21 ?_
  refine pw_iadd hC dJ6_bitCount_0f7a4_22 ?_
  refine lv_istore_n (lv' := [(0, .int (Int32.ofInt ((andI (v0 - (andI (ushrI v0 1) 1431655765)) 858993459) + (andI (ushrI (v0 - (andI (ushrI v0 1) 1431655765)) 2) 858993459))))]) hC.1 hC.2.1 dJ6_bitCount_0f7a4_23 rfl hl (by decide) rfl (fun ls hl => ?_)
  refine lv_iload_n hC.1 hC.2.1 dJ6_bitCount_0f7a4_24 rfl (lv_at hl 0 rfl) ?_
  refine lv_iload_n hC.1 hC.2.1 dJ6_bitCount_0f7a4_25 rfl (lv_at hl 0 rfl) ?_
  refine pw_iconst hC dJ6_bitCount_0f7a4_26 ?_
  refine pw_iushr hC dJ6_bitCount_0f7a4_27 ?_
  refine pw_iadd hC dJ6_bitCount_0f7a4_28 ?_
  refine pw_ldcw hC 252645135 kcJ6_267 dJ6_bitCount_0f7a4_29 ?_
  refine pw_iand hC dJ6_bitCount_0f7a4_32 ?_
  refine lv_istore_n (lv' := [(0, .int (Int32.ofInt (andI (((andI (v0 - (andI (ushrI v0 1) 1431655765)) 858993459) + (andI (ushrI (v0 - (andI (ushrI v0 1) 1431655765)) 2) 858993459)) + (ushrI ((andI (v0 - (andI (ushrI v0 1) 1431655765)) 858993459) + (andI (ushrI (v0 - (andI (ushrI v0 1) 1431655765)) 2) 858993459)) 4)) 252645135)))]) hC.1 hC.2.1 dJ6_bitCount_0f7a4_33 rfl hl (by decide) rfl (fun ls hl => ?_)
  refine lv_iload_n hC.1 hC.2.1 dJ6_bitCount_0f7a4_34 rfl (lv_at hl 0 rfl) ?_
  refine lv_iload_n hC.1 hC.2.1 dJ6_bitCount_0f7a4_35 rfl (lv_at hl 0 rfl) ?_
  refine pw_bipush hC dJ6_bitCount_0f7a4_36 rfl ?_
  refine pw_iushr hC dJ6_bitCount_0f7a4_38 ?_
  refine pw_iadd hC dJ6_bitCount_0f7a4_39 ?_
  refine lv_istore_n (lv' := [(0, .int (Int32.ofInt ((andI (((andI (v0 - (andI (ushrI v0 1) 1431655765)) 858993459) + (andI (ushrI (v0 - (andI (ushrI v0 1) 1431655765)) 2) 858993459)) + (ushrI ((andI (v0 - (andI (ushrI v0 1) 1431655765)) 858993459) + (andI (ushrI (v0 - (andI (ushrI v0 1) 1431655765)) 2) 858993459)) 4)) 252645135) + (ushrI (andI (((andI (v0 - (andI (ushrI v0 1) 1431655765)) 858993459) + (andI (ushrI (v0 - (andI (ushrI v0 1) 1431655765)) 2) 858993459)) + (ushrI ((andI (v0 - (andI (ushrI v0 1) 1431655765)) 858993459) + (andI (ushrI (v0 - (andI (ushrI v0 1) 1431655765)) 2) 858993459)) 4)) 252645135) 8))))]) hC.1 hC.2.1 dJ6_bitCount_0f7a4_40 rfl hl (by decide) rfl (fun ls hl => ?_)
  refine lv_iload_n hC.1 hC.2.1 dJ6_bitCount_0f7a4_41 rfl (lv_at hl 0 rfl) ?_
  refine lv_iload_n hC.1 hC.2.1 dJ6_bitCount_0f7a4_42 rfl (lv_at hl 0 rfl) ?_
  refine pw_bipush hC dJ6_bitCount_0f7a4_43 rfl ?_
  refine pw_iushr hC dJ6_bitCount_0f7a4_45 ?_
  refine pw_iadd hC dJ6_bitCount_0f7a4_46 ?_
  refine lv_istore_n (lv' := [(0, .int (Int32.ofInt (((andI (((andI (v0 - (andI (ushrI v0 1) 1431655765)) 858993459) + (andI (ushrI (v0 - (andI (ushrI v0 1) 1431655765)) 2) 858993459)) + (ushrI ((andI (v0 - (andI (ushrI v0 1) 1431655765)) 858993459) + (andI (ushrI (v0 - (andI (ushrI v0 1) 1431655765)) 2) 858993459)) 4)) 252645135) + (ushrI (andI (((andI (v0 - (andI (ushrI v0 1) 1431655765)) 858993459) + (andI (ushrI (v0 - (andI (ushrI v0 1) 1431655765)) 2) 858993459)) + (ushrI ((andI (v0 - (andI (ushrI v0 1) 1431655765)) 858993459) + (andI (ushrI (v0 - (andI (ushrI v0 1) 1431655765)) 2) 858993459)) 4)) 252645135) 8)) + (ushrI ((andI (((andI (v0 - (andI (ushrI v0 1) 1431655765)) 858993459) + (andI (ushrI (v0 - (andI (ushrI v0 1) 1431655765)) 2) 858993459)) + (ushrI ((andI (v0 - (andI (ushrI v0 1) 1431655765)) 858993459) + (andI (ushrI (v0 - (andI (ushrI v0 1) 1431655765)) 2) 858993459)) 4)) 252645135) + (ushrI (andI (((andI (v0 - (andI (ushrI v0 1) 1431655765)) 858993459) + (andI (ushrI (v0 - (andI (ushrI v0 1) 1431655765)) 2) 858993459)) + (ushrI ((andI (v0 - (andI (ushrI v0 1) 1431655765)) 858993459) + (andI (ushrI (v0 - (andI (ushrI v0 1) 1431655765)) 2) 858993459)) 4)) 252645135) 8)) 16))))]) hC.1 hC.2.1 dJ6_bitCount_0f7a4_47 rfl hl (by decide) rfl (fun ls hl => ?_)
  refine lv_iload_n hC.1 hC.2.1 dJ6_bitCount_0f7a4_48 rfl (lv_at hl 0 rfl) ?_
  refine pw_bipush hC dJ6_bitCount_0f7a4_49 rfl ?_
  refine pw_iand hC dJ6_bitCount_0f7a4_51 ?_
  cases hF
  exact pw_iret hC hR dJ6_bitCount_0f7a4_52
abbrev rmX6_opens : Room := { frames := 0, cells := 0, slots := 0, locals := 0 }
def JX6_opens_36 (h : PH) (s0 : Int) : Option (Int) :=
  if s0 = 0 ∨ s0 = 1 then some s0 else none
set_option maxHeartbeats 4000000 in
set_option maxRecDepth 100000 in
theorem BX6_opens_36 {h : PH} {s0 : Int} (hC : Cx g p s m args meth c cX6_opens 5 RX6 (some .boolean)) (hR : Rl g ad h s.heap H locs) (hl : lv_has ls 5 []) {q : Int} (hF : JX6_opens_36 h s0 = some q) : W p l e rmX6_opens s m args below meth c H locs 0 0 (MQ below (QcN g ad h (some (.int (Int32.ofInt q)))) args s 0 0 (gA g)) (F0 m 36 ls [.int (Int32.ofInt s0)]) := by
  unfold JX6_opens_36 at hF
  by_cases hb3 : s0 = 0 ∨ s0 = 1
  · rw [if_pos hb3] at hF
    cases hF
    exact pw_zret hC hR hb3 dX6_opens_36
  · rw [if_neg hb3] at hF; cases hF
def JX6_opens_22 (h : PH) (v2 : Int) (s0 : Int) : Option (Int) :=
  if w32 (andI v2 s0) = 0 then (
    JX6_opens_36 h 1
  ) else (
    JX6_opens_36 h 0
  )
set_option maxHeartbeats 4000000 in
set_option maxRecDepth 100000 in
theorem BX6_opens_22 {h : PH} {v2 : Int} {s0 : Int} (hC : Cx g p s m args meth c cX6_opens 5 RX6 (some .boolean)) (hR : Rl g ad h s.heap H locs) (hl : lv_has ls 5 [(2, .int (Int32.ofInt v2))]) {q : Int} (hF : JX6_opens_22 h v2 s0 = some q) : W p l e rmX6_opens s m args below meth c H locs 0 0 (MQ below (QcN g ad h (some (.int (Int32.ofInt q)))) args s 0 0 (gA g)) (F0 m 22 ls [.int (Int32.ofInt s0)]) := by
  unfold JX6_opens_22 at hF
  refine lv_istore (lv' := [(4, .int (Int32.ofInt s0)), (2, .int (Int32.ofInt v2))]) hC.1 hC.2.1 dX6_opens_22 hl (by decide) rfl (fun ls hl => ?_)
  refine lv_iload_n hC.1 hC.2.1 dX6_opens_24 rfl (lv_at hl 1 rfl) ?_
  refine lv_iload hC.1 hC.2.1 dX6_opens_25 (lv_at hl 0 rfl) ?_
  refine pw_iand hC dX6_opens_27 ?_
  refine pw_ifne hC 35 dX6_opens_28 (by decide) (fun hc => ?_) (fun hc => ?_)
  · rw [if_neg hc] at hF
    refine pw_iconst hC dX6_opens_35 ?_
    exact BX6_opens_36 hC hR (lv_sub hl [] rfl) hF
  · rw [if_pos hc] at hF
    refine pw_iconst hC dX6_opens_31 ?_
    refine pw_goto hC 36 dX6_opens_32 (by decide) ?_
    exact BX6_opens_36 hC hR (lv_sub hl [] rfl) hF
def FX6_opens (h : PH) (v0 : Nat) (v1 : Int) (v2 : Int) : Option (Int) :=
  (isO h 6 v0).bind fun _ =>
  (gfr h 6 v0 9).bind fun x1 =>
  (ald 0 h x1 v1).bind fun x2 =>
  if w32 x2 < w32 32 then (
    JX6_opens_22 h v2 ((shlI 1 x2) - 1)
  ) else (
    JX6_opens_22 h v2 (-1)
  )
theorem OX6_opens {h : PH} {v0 : Nat} {v1 : Int} {v2 : Int} {q : Int} (hF : FX6_opens h v0 v1 v2 = some q) : ∃ fs : List PV, h[v0]? = some (.inr (6, fs)) := by
  unfold FX6_opens at hF
  obtain ⟨u0, e0, -⟩ := bnd hF
  exact isO_spec e0
set_option maxHeartbeats 4000000 in
set_option maxRecDepth 100000 in
theorem CX6_opens {g : GP} {l : Launch} {ad : Nat → Nat} {h : PH} {v0 : Nat} {v1 : Int} {v2 : Int} {q : Int} (hF : FX6_opens h v0 v1 v2 = some q) : CN g l yX6_opens cX6_opens 5 (some .boolean) rmX6_opens ad h [.ref (ad v0), .int (Int32.ofInt v1), .int (Int32.ofInt v2)] (some (.int (Int32.ofInt q))) h := by
  refine pw_met (by decide) (Nat.le_of_ble_eq_true rfl) ?_
  intro p e s m args below meth c ls hC hN hR hl
  have hl : lv_has ls 5 [(0, .ref (ad v0)), (1, .int (Int32.ofInt v1)), (2, .int (Int32.ofInt v2))] := hl
  unfold FX6_opens at hF
  obtain ⟨u0, e0, hF⟩ := bnd hF
  refine lv_aload_n hC.1 hC.2.1 dX6_opens_0 rfl (lv_at hl 0 rfl) ?_
  obtain ⟨x1, e1, hF⟩ := bnd hF
  refine pw_gfr hC hR e1 flX6_40 dX6_opens_1 ?_
  refine lv_iload_n hC.1 hC.2.1 dX6_opens_4 rfl (lv_at hl 1 rfl) ?_
  obtain ⟨x2, e2, hF⟩ := bnd hF
  refine pw_iald hC hR e2 dX6_opens_5 ?_
  refine lv_istore_n (lv' := [(3, .int (Int32.ofInt x2)), (0, .ref (ad v0)), (1, .int (Int32.ofInt v1)), (2, .int (Int32.ofInt v2))]) hC.1 hC.2.1 dX6_opens_6 rfl hl (by decide) rfl (fun ls hl => ?_)
  refine lv_iload_n hC.1 hC.2.1 dX6_opens_7 rfl (lv_at hl 0 rfl) ?_
  refine pw_bipush hC dX6_opens_8 rfl ?_
  refine pw_icmpge hC 21 dX6_opens_10 (by decide) (fun hc => ?_) (fun hc => ?_)
  · rw [if_neg hc] at hF
    refine pw_iconst hC dX6_opens_21 ?_
    exact BX6_opens_22 hC hR (lv_sub hl [3] rfl) hF
  · rw [if_pos hc] at hF
    refine pw_iconst hC dX6_opens_13 ?_
    refine lv_iload_n hC.1 hC.2.1 dX6_opens_14 rfl (lv_at hl 0 rfl) ?_
    refine pw_ishl hC dX6_opens_15 ?_
    refine pw_iconst hC dX6_opens_16 ?_
    refine pw_isub hC dX6_opens_17 ?_
    refine pw_goto hC 22 dX6_opens_18 (by decide) ?_
    exact BX6_opens_22 hC hR (lv_sub hl [3] rfl) hF
abbrev rmX6_counterOf : Room := { frames := 1, cells := 0, slots := 0, locals := 24 }
def JX6_counterOf_48 (h : PH) (v0 : Nat) (v1 : Int) (v2 : Int) (v3 : Int) (v4 : Int) : Option ((Int × Int) ⊕ (Int)) :=
  some (.inl (v3, (v4 + 1)))
set_option maxHeartbeats 4000000 in
set_option maxRecDepth 100000 in
theorem BX6_counterOf_48 {h : PH} {v0 : Nat} {v1 : Int} {v2 : Int} {v3 : Int} {v4 : Int} (hC : Cx g p s m args meth c cX6_counterOf 5 RX6 (some .int)) (hR : Rl g ad h s.heap H locs) (hl : lv_has ls 5 [(0, .ref (ad v0)), (1, .int (Int32.ofInt v1)), (2, .int (Int32.ofInt v2)), (3, .int (Int32.ofInt v3)), (4, .int (Int32.ofInt v4))]) {Q : State → Prop} {o : (Int × Int) ⊕ (Int)} (hF : JX6_counterOf_48 h v0 v1 v2 v3 v4 = some o) (hK : Sum.elim (fun st : Int × Int => ∀ (H : Heap) (locs : List Loc) (ls : Array Slot), Rl g ad h s.heap H locs → lv_has ls 5 [(0, .ref (ad v0)), (1, .int (Int32.ofInt v1)), (2, .int (Int32.ofInt v2)), (3, .int (Int32.ofInt st.1)), (4, .int (Int32.ofInt st.2))] → W p l e rmX6_counterOf s m args below meth c H locs 0 0 Q (F0 m 15 ls [])) (fun ex : Int => ∀ (H : Heap) (locs : List Loc) (ls : Array Slot), Rl g ad h s.heap H locs → lv_has ls 5 [(3, .int (Int32.ofInt ex))] → W p l e rmX6_counterOf s m args below meth c H locs 0 0 Q (F0 m 54 ls [])) o) : W p l e rmX6_counterOf s m args below meth c H locs 0 0 Q (F0 m 48 ls []) := by
  unfold JX6_counterOf_48 at hF
  refine pw_iinc (lv' := [(4, .int (Int32.ofInt (v4 + 1))), (0, .ref (ad v0)), (1, .int (Int32.ofInt v1)), (2, .int (Int32.ofInt v2)), (3, .int (Int32.ofInt v3))]) hC hl 4 dX6_counterOf_48 rfl (by decide) rfl (fun ls hl => ?_)
  refine pw_goto hC 15 dX6_counterOf_51 (by decide) ?_
  cases hF
  exact hK _ _ _ hR (lv_sub hl [1, 2, 3, 4, 0] rfl)
def LX6_counterOf_15 (h : PH) (v0 : Nat) (v1 : Int) (v2 : Int) (v3 : Int) (v4 : Int) : Option ((Int × Int) ⊕ (Int)) :=
  (gfi h 6 v0 1).bind fun x4 =>
  if w32 v4 < w32 x4 then (
    (gfr h 6 v0 9).bind fun x5 =>
    (ald 0 h x5 v4).bind fun x6 =>
    if w32 v1 < w32 x6 then (
      JX6_counterOf_48 h v0 v1 v2 v3 v4
    ) else (
      (FX6_opens h v0 v4 v2).bind fun x7 =>
      if w32 x7 = 0 then (
        JX6_counterOf_48 h v0 v1 v2 (v3 + 1) v4
      ) else (
        JX6_counterOf_48 h v0 v1 v2 v3 v4
      )
    )
  ) else (
    some (.inr v3)
  )
set_option maxHeartbeats 4000000 in
set_option maxRecDepth 100000 in
theorem LRX6_counterOf_15 {h : PH} {v0 : Nat} {v1 : Int} {v2 : Int} {Q : State → Prop} (hC : Cx g p s m args meth c cX6_counterOf 5 RX6 (some .int)) : ∀ (n : Nat) (st : Int × Int) (ex : Int), lp (fun st : Int × Int => LX6_counterOf_15 h v0 v1 v2 st.1 st.2) n st = some ex → (fun ex : Int => ∀ (H : Heap) (locs : List Loc) (ls : Array Slot), Rl g ad h s.heap H locs → lv_has ls 5 [(3, .int (Int32.ofInt ex))] → W p l e rmX6_counterOf s m args below meth c H locs 0 0 Q (F0 m 54 ls [])) ex → ∀ (H : Heap) (locs : List Loc) (ls : Array Slot), Rl g ad h s.heap H locs → lv_has ls 5 [(0, .ref (ad v0)), (1, .int (Int32.ofInt v1)), (2, .int (Int32.ofInt v2)), (3, .int (Int32.ofInt st.1)), (4, .int (Int32.ofInt st.2))] → W p l e rmX6_counterOf s m args below meth c H locs 0 0 Q (F0 m 15 ls []) := by
  refine lp_rule (Ph := (fun st : Int × Int => ∀ (H : Heap) (locs : List Loc) (ls : Array Slot), Rl g ad h s.heap H locs → lv_has ls 5 [(0, .ref (ad v0)), (1, .int (Int32.ofInt v1)), (2, .int (Int32.ofInt v2)), (3, .int (Int32.ofInt st.1)), (4, .int (Int32.ofInt st.2))] → W p l e rmX6_counterOf s m args below meth c H locs 0 0 Q (F0 m 15 ls []))) (Px := (fun ex : Int => ∀ (H : Heap) (locs : List Loc) (ls : Array Slot), Rl g ad h s.heap H locs → lv_has ls 5 [(3, .int (Int32.ofInt ex))] → W p l e rmX6_counterOf s m args below meth c H locs 0 0 Q (F0 m 54 ls []))) ?_
  rintro ⟨v3, v4⟩ o hF hK H locs ls hR hl
  have hR : Rl g ad h s.heap H locs := hR
  have hl : lv_has ls 5 [(0, .ref (ad v0)), (1, .int (Int32.ofInt v1)), (2, .int (Int32.ofInt v2)), (3, .int (Int32.ofInt v3)), (4, .int (Int32.ofInt v4))] := hl
  have hF : LX6_counterOf_15 h v0 v1 v2 v3 v4 = some o := hF
  unfold LX6_counterOf_15 at hF
  refine lv_iload hC.1 hC.2.1 dX6_counterOf_15 (lv_at hl 4 rfl) ?_
  refine lv_aload_n hC.1 hC.2.1 dX6_counterOf_17 rfl (lv_at hl 0 rfl) ?_
  obtain ⟨x4, e4, hF⟩ := bnd hF
  refine pw_gfi hC hR e4 flX6_15 dX6_counterOf_18 ?_
  refine pw_icmpge hC 54 dX6_counterOf_21 (by decide) (fun hc => ?_) (fun hc => ?_)
  · rw [if_neg hc] at hF
    cases hF
    exact hK _ _ _ hR (lv_sub hl [3] rfl)
  · rw [if_pos hc] at hF
    refine lv_aload_n hC.1 hC.2.1 dX6_counterOf_24 rfl (lv_at hl 0 rfl) ?_
    obtain ⟨x5, e5, hF⟩ := bnd hF
    refine pw_gfr hC hR e5 flX6_40 dX6_counterOf_25 ?_
    refine lv_iload hC.1 hC.2.1 dX6_counterOf_28 (lv_at hl 4 rfl) ?_
    obtain ⟨x6, e6, hF⟩ := bnd hF
    refine pw_iald hC hR e6 dX6_counterOf_30 ?_
    refine lv_iload_n hC.1 hC.2.1 dX6_counterOf_31 rfl (lv_at hl 1 rfl) ?_
    refine pw_icmpgt hC 48 dX6_counterOf_32 (by decide) (fun hc => ?_) (fun hc => ?_)
    · rw [if_pos hc] at hF
      exact BX6_counterOf_48 hC hR (lv_sub hl [0, 1, 2, 3, 4] rfl) hF hK
    · rw [if_neg hc] at hF
      refine lv_aload_n hC.1 hC.2.1 dX6_counterOf_35 rfl (lv_at hl 0 rfl) ?_
      refine lv_iload hC.1 hC.2.1 dX6_counterOf_36 (lv_at hl 4 rfl) ?_
      refine lv_iload_n hC.1 hC.2.1 dX6_counterOf_38 rfl (lv_at hl 2 rfl) ?_
      obtain ⟨x7, e7, hF⟩ := bnd hF
      obtain ⟨fs7, ho7⟩ := OX6_opens e7
      refine pw_cVi (rest := []) hC hR lvX6_62 ho7 (CX6_opens e7) ⟨rfl, rfl⟩ rfl hl.1 rfl ⟨Nat.le_of_ble_eq_true rfl, Nat.le_of_ble_eq_true rfl⟩ (Nat.le_of_ble_eq_true rfl) dX6_counterOf_39 ⟨Nat.zero_le _, Nat.zero_le _⟩ (fun H locs hR => ?_)
      refine pw_ifne hC 48 dX6_counterOf_42 (by decide) (fun hc => ?_) (fun hc => ?_)
      · rw [if_neg hc] at hF
        exact BX6_counterOf_48 hC hR (lv_sub hl [0, 1, 2, 3, 4] rfl) hF hK
      · rw [if_pos hc] at hF
        refine pw_iinc (lv' := [(3, .int (Int32.ofInt (v3 + 1))), (0, .ref (ad v0)), (1, .int (Int32.ofInt v1)), (2, .int (Int32.ofInt v2)), (4, .int (Int32.ofInt v4))]) hC hl 3 dX6_counterOf_45 rfl (by decide) rfl (fun ls hl => ?_)
        exact BX6_counterOf_48 hC hR (lv_sub hl [1, 2, 3, 0, 4] rfl) hF hK
def FX6_counterOf (h : PH) (v0 : Nat) (v1 : Int) (v2 : Int) : Option (Int) :=
  (isO h 6 v0).bind fun _ =>
  (gfr h 6 v0 6).bind fun x1 =>
  (ald 0 h x1 v1).bind fun x2 =>
  (FJ6_bitCount_0f7a4 h (andI x2 v2)).bind fun x3 =>
  (lp (fun st : Int × Int => LX6_counterOf_15 h v0 v1 v2 st.1 st.2) FU (x3, 0)).bind fun ex8 =>
  some ex8
theorem OX6_counterOf {h : PH} {v0 : Nat} {v1 : Int} {v2 : Int} {q : Int} (hF : FX6_counterOf h v0 v1 v2 = some q) : ∃ fs : List PV, h[v0]? = some (.inr (6, fs)) := by
  unfold FX6_counterOf at hF
  obtain ⟨u0, e0, -⟩ := bnd hF
  exact isO_spec e0
set_option maxHeartbeats 4000000 in
set_option maxRecDepth 100000 in
theorem CX6_counterOf {g : GP} {l : Launch} {ad : Nat → Nat} {h : PH} {v0 : Nat} {v1 : Int} {v2 : Int} {q : Int} (hF : FX6_counterOf h v0 v1 v2 = some q) : CN g l yX6_counterOf cX6_counterOf 5 (some .int) rmX6_counterOf ad h [.ref (ad v0), .int (Int32.ofInt v1), .int (Int32.ofInt v2)] (some (.int (Int32.ofInt q))) h := by
  refine pw_met (by decide) (Nat.le_of_ble_eq_true rfl) ?_
  intro p e s m args below meth c ls hC hN hR hl
  have hl : lv_has ls 5 [(0, .ref (ad v0)), (1, .int (Int32.ofInt v1)), (2, .int (Int32.ofInt v2))] := hl
  unfold FX6_counterOf at hF
  obtain ⟨u0, e0, hF⟩ := bnd hF
  refine lv_aload_n hC.1 hC.2.1 dX6_counterOf_0 rfl (lv_at hl 0 rfl) ?_
  obtain ⟨x1, e1, hF⟩ := bnd hF
  refine pw_gfr hC hR e1 flX6_31 dX6_counterOf_1 ?_
  refine lv_iload_n hC.1 hC.2.1 dX6_counterOf_4 rfl (lv_at hl 1 rfl) ?_
  obtain ⟨x2, e2, hF⟩ := bnd hF
  refine pw_iald hC hR e2 dX6_counterOf_5 ?_
  refine lv_iload_n hC.1 hC.2.1 dX6_counterOf_6 rfl (lv_at hl 2 rfl) ?_
  refine pw_iand hC dX6_counterOf_7 ?_
  obtain ⟨x3, e3, hF⟩ := bnd hF
  refine pw_cSi (rest := []) hC hR lsX6_56 (CJ6_bitCount_0f7a4 e3) ⟨rfl, rfl⟩ rfl hl.1 rfl ⟨Nat.le_of_ble_eq_true rfl, Nat.le_of_ble_eq_true rfl⟩ (Nat.le_of_ble_eq_true rfl) dX6_counterOf_8 ⟨Nat.zero_le _, Nat.zero_le _⟩ (fun H locs hR => ?_)
  refine lv_istore_n (lv' := [(3, .int (Int32.ofInt x3)), (0, .ref (ad v0)), (1, .int (Int32.ofInt v1)), (2, .int (Int32.ofInt v2))]) hC.1 hC.2.1 dX6_counterOf_11 rfl hl (by decide) rfl (fun ls hl => ?_)
  refine pw_iconst hC dX6_counterOf_12 ?_
  refine lv_istore (lv' := [(4, .int (Int32.ofInt 0)), (3, .int (Int32.ofInt x3)), (0, .ref (ad v0)), (1, .int (Int32.ofInt v1)), (2, .int (Int32.ofInt v2))]) hC.1 hC.2.1 dX6_counterOf_13 hl (by decide) rfl (fun ls hl => ?_)
  obtain ⟨ex8, e8, hF⟩ := bnd hF
  refine LRX6_counterOf_15 hC FU _ ex8 e8 ?_ _ _ _ hR (lv_sub hl [2, 3, 4, 1, 0] rfl)
  intro H locs ls hR hl
  refine lv_iload_n hC.1 hC.2.1 dX6_counterOf_54 rfl (lv_at hl 0 rfl) ?_
  cases hF
  exact pw_iret hC hR dX6_counterOf_55
abbrev rmX6_readyAllFree : Room := { frames := 2, cells := 0, slots := 0, locals := 48 }
def JX6_readyAllFree_40 (h : PH) (v0 : Nat) (v1 : Int) (v2 : Int) : Option ((Int × PH) ⊕ (PH)) :=
  some (.inl ((v2 + 1), h))
set_option maxHeartbeats 4000000 in
set_option maxRecDepth 100000 in
theorem BX6_readyAllFree_40 {h : PH} {v0 : Nat} {v1 : Int} {v2 : Int} (hC : Cx g p s m args meth c cX6_readyAllFree 3 RX6 none) (hR : Rl g ad h s.heap H locs) (hl : lv_has ls 3 [(0, .ref (ad v0)), (1, .int (Int32.ofInt v1)), (2, .int (Int32.ofInt v2))]) {Q : State → Prop} {o : (Int × PH) ⊕ (PH)} (hF : JX6_readyAllFree_40 h v0 v1 v2 = some o) (hK : Sum.elim (fun st : Int × PH => ∀ (H : Heap) (locs : List Loc) (ls : Array Slot), Rl g ad st.2 s.heap H locs → lv_has ls 3 [(0, .ref (ad v0)), (1, .int (Int32.ofInt v1)), (2, .int (Int32.ofInt st.1))] → W p l e rmX6_readyAllFree s m args below meth c H locs 0 0 Q (F0 m 7 ls [])) (fun ex : PH => ∀ (H : Heap) (locs : List Loc) (ls : Array Slot), Rl g ad ex s.heap H locs → lv_has ls 3 [] → W p l e rmX6_readyAllFree s m args below meth c H locs 0 0 Q (F0 m 46 ls [])) o) : W p l e rmX6_readyAllFree s m args below meth c H locs 0 0 Q (F0 m 40 ls []) := by
  unfold JX6_readyAllFree_40 at hF
  refine pw_iinc (lv' := [(2, .int (Int32.ofInt (v2 + 1))), (0, .ref (ad v0)), (1, .int (Int32.ofInt v1))]) hC hl 2 dX6_readyAllFree_40 rfl (by decide) rfl (fun ls hl => ?_)
  refine pw_goto hC 7 dX6_readyAllFree_43 (by decide) ?_
  cases hF
  exact hK _ _ _ hR (lv_sub hl [1, 2, 0] rfl)
def LX6_readyAllFree_7 (v0 : Nat) (v1 : Int) (v2 : Int) (h : PH) : Option ((Int × PH) ⊕ (PH)) :=
  (gfi h 6 v0 0).bind fun x2 =>
  if w32 v2 < w32 x2 then (
    (gfr h 6 v0 2).bind fun x3 =>
    (ald 0 h x3 v2).bind fun x4 =>
    if w32 x4 = 0 then (
      (FX6_counterOf h v0 v2 v1).bind fun x5 =>
      if w32 x5 = 0 then (
        (gfr h 6 v0 2).bind fun x6 =>
        (ast 0 h x6 v2 1).bind fun h7 =>
        JX6_readyAllFree_40 h7 v0 v1 v2
      ) else (
        JX6_readyAllFree_40 h v0 v1 v2
      )
    ) else (
      JX6_readyAllFree_40 h v0 v1 v2
    )
  ) else (
    some (.inr h)
  )
set_option maxHeartbeats 4000000 in
set_option maxRecDepth 100000 in
theorem LRX6_readyAllFree_7 {v0 : Nat} {v1 : Int} {Q : State → Prop} (hC : Cx g p s m args meth c cX6_readyAllFree 3 RX6 none) : ∀ (n : Nat) (st : Int × PH) (ex : PH), lp (fun st : Int × PH => LX6_readyAllFree_7 v0 v1 st.1 st.2) n st = some ex → (fun ex : PH => ∀ (H : Heap) (locs : List Loc) (ls : Array Slot), Rl g ad ex s.heap H locs → lv_has ls 3 [] → W p l e rmX6_readyAllFree s m args below meth c H locs 0 0 Q (F0 m 46 ls [])) ex → ∀ (H : Heap) (locs : List Loc) (ls : Array Slot), Rl g ad st.2 s.heap H locs → lv_has ls 3 [(0, .ref (ad v0)), (1, .int (Int32.ofInt v1)), (2, .int (Int32.ofInt st.1))] → W p l e rmX6_readyAllFree s m args below meth c H locs 0 0 Q (F0 m 7 ls []) := by
  refine lp_rule (Ph := (fun st : Int × PH => ∀ (H : Heap) (locs : List Loc) (ls : Array Slot), Rl g ad st.2 s.heap H locs → lv_has ls 3 [(0, .ref (ad v0)), (1, .int (Int32.ofInt v1)), (2, .int (Int32.ofInt st.1))] → W p l e rmX6_readyAllFree s m args below meth c H locs 0 0 Q (F0 m 7 ls []))) (Px := (fun ex : PH => ∀ (H : Heap) (locs : List Loc) (ls : Array Slot), Rl g ad ex s.heap H locs → lv_has ls 3 [] → W p l e rmX6_readyAllFree s m args below meth c H locs 0 0 Q (F0 m 46 ls []))) ?_
  rintro ⟨v2, h⟩ o hF hK H locs ls hR hl
  have hR : Rl g ad h s.heap H locs := hR
  have hl : lv_has ls 3 [(0, .ref (ad v0)), (1, .int (Int32.ofInt v1)), (2, .int (Int32.ofInt v2))] := hl
  have hF : LX6_readyAllFree_7 v0 v1 v2 h = some o := hF
  unfold LX6_readyAllFree_7 at hF
  refine lv_iload_n hC.1 hC.2.1 dX6_readyAllFree_7 rfl (lv_at hl 2 rfl) ?_
  refine lv_aload_n hC.1 hC.2.1 dX6_readyAllFree_8 rfl (lv_at hl 0 rfl) ?_
  obtain ⟨x2, e2, hF⟩ := bnd hF
  refine pw_gfi hC hR e2 flX6_9 dX6_readyAllFree_9 ?_
  refine pw_icmpge hC 46 dX6_readyAllFree_12 (by decide) (fun hc => ?_) (fun hc => ?_)
  · rw [if_neg hc] at hF
    cases hF
    exact hK _ _ _ hR (lv_sub hl [] rfl)
  · rw [if_pos hc] at hF
    refine lv_aload_n hC.1 hC.2.1 dX6_readyAllFree_15 rfl (lv_at hl 0 rfl) ?_
    obtain ⟨x3, e3, hF⟩ := bnd hF
    refine pw_gfr hC hR e3 flX6_18 dX6_readyAllFree_16 ?_
    refine lv_iload_n hC.1 hC.2.1 dX6_readyAllFree_19 rfl (lv_at hl 2 rfl) ?_
    obtain ⟨x4, e4, hF⟩ := bnd hF
    refine pw_iald hC hR e4 dX6_readyAllFree_20 ?_
    refine pw_ifne hC 40 dX6_readyAllFree_21 (by decide) (fun hc => ?_) (fun hc => ?_)
    · rw [if_neg hc] at hF
      exact BX6_readyAllFree_40 hC hR (lv_sub hl [0, 1, 2] rfl) hF hK
    · rw [if_pos hc] at hF
      refine lv_aload_n hC.1 hC.2.1 dX6_readyAllFree_24 rfl (lv_at hl 0 rfl) ?_
      refine lv_iload_n hC.1 hC.2.1 dX6_readyAllFree_25 rfl (lv_at hl 2 rfl) ?_
      refine lv_iload_n hC.1 hC.2.1 dX6_readyAllFree_26 rfl (lv_at hl 1 rfl) ?_
      obtain ⟨x5, e5, hF⟩ := bnd hF
      obtain ⟨fs5, ho5⟩ := OX6_counterOf e5
      refine pw_cVi (rest := []) hC hR lvX6_78 ho5 (CX6_counterOf e5) ⟨rfl, rfl⟩ rfl hl.1 rfl ⟨Nat.le_of_ble_eq_true rfl, Nat.le_of_ble_eq_true rfl⟩ (Nat.le_of_ble_eq_true rfl) dX6_readyAllFree_27 ⟨Nat.zero_le _, Nat.zero_le _⟩ (fun H locs hR => ?_)
      refine pw_ifne hC 40 dX6_readyAllFree_30 (by decide) (fun hc => ?_) (fun hc => ?_)
      · rw [if_neg hc] at hF
        exact BX6_readyAllFree_40 hC hR (lv_sub hl [0, 1, 2] rfl) hF hK
      · rw [if_pos hc] at hF
        refine lv_aload_n hC.1 hC.2.1 dX6_readyAllFree_33 rfl (lv_at hl 0 rfl) ?_
        obtain ⟨x6, e6, hF⟩ := bnd hF
        refine pw_gfr hC hR e6 flX6_18 dX6_readyAllFree_34 ?_
        refine lv_iload_n hC.1 hC.2.1 dX6_readyAllFree_37 rfl (lv_at hl 2 rfl) ?_
        refine pw_iconst hC dX6_readyAllFree_38 ?_
        obtain ⟨h7, e7, hF⟩ := bnd hF
        refine pw_iast hC hR e7 dX6_readyAllFree_39 (fun H locs hR => ?_)
        exact BX6_readyAllFree_40 hC hR (lv_sub hl [0, 1, 2] rfl) hF hK
def FX6_readyAllFree (h : PH) (v0 : Nat) : Option (PH) :=
  (isO h 6 v0).bind fun _ =>
  (FX6_unfinishedBits h v0).bind fun x1 =>
  (lp (fun st : Int × PH => LX6_readyAllFree_7 v0 x1 st.1 st.2) FU (0, h)).bind fun ex8 =>
  some ex8
theorem OX6_readyAllFree {h : PH} {v0 : Nat} {q : PH} (hF : FX6_readyAllFree h v0 = some q) : ∃ fs : List PV, h[v0]? = some (.inr (6, fs)) := by
  unfold FX6_readyAllFree at hF
  obtain ⟨u0, e0, -⟩ := bnd hF
  exact isO_spec e0
set_option maxHeartbeats 4000000 in
set_option maxRecDepth 100000 in
theorem CX6_readyAllFree {g : GP} {l : Launch} {ad : Nat → Nat} {h : PH} {v0 : Nat} {q : PH} (hF : FX6_readyAllFree h v0 = some q) : CN g l yX6_readyAllFree cX6_readyAllFree 3 none rmX6_readyAllFree ad h [.ref (ad v0)] none q := by
  refine pw_met (by decide) (Nat.le_of_ble_eq_true rfl) ?_
  intro p e s m args below meth c ls hC hN hR hl
  have hl : lv_has ls 3 [(0, .ref (ad v0))] := hl
  unfold FX6_readyAllFree at hF
  obtain ⟨u0, e0, hF⟩ := bnd hF
  refine lv_aload_n hC.1 hC.2.1 dX6_readyAllFree_0 rfl (lv_at hl 0 rfl) ?_
  obtain ⟨x1, e1, hF⟩ := bnd hF
  obtain ⟨fs1, ho1⟩ := OX6_unfinishedBits e1
  refine pw_cVi (rest := []) hC hR lvX6_52 ho1 (CX6_unfinishedBits e1) ⟨rfl, rfl⟩ rfl hl.1 rfl ⟨Nat.le_of_ble_eq_true rfl, Nat.le_of_ble_eq_true rfl⟩ (Nat.le_of_ble_eq_true rfl) dX6_readyAllFree_1 ⟨Nat.zero_le _, Nat.zero_le _⟩ (fun H locs hR => ?_)
  refine lv_istore_n (lv' := [(1, .int (Int32.ofInt x1)), (0, .ref (ad v0))]) hC.1 hC.2.1 dX6_readyAllFree_4 rfl hl (by decide) rfl (fun ls hl => ?_)
  refine pw_iconst hC dX6_readyAllFree_5 ?_
  refine lv_istore_n (lv' := [(2, .int (Int32.ofInt 0)), (1, .int (Int32.ofInt x1)), (0, .ref (ad v0))]) hC.1 hC.2.1 dX6_readyAllFree_6 rfl hl (by decide) rfl (fun ls hl => ?_)
  obtain ⟨ex8, e8, hF⟩ := bnd hF
  refine LRX6_readyAllFree_7 hC FU _ ex8 e8 ?_ _ _ _ hR (lv_sub hl [2, 1, 0] rfl)
  intro H locs ls hR hl
  cases hF
  exact pw_vret hC hR dX6_readyAllFree_46
abbrev rmX6_firstReady : Room := { frames := 0, cells := 0, slots := 0, locals := 0 }
def JX6_firstReady_43 (h : PH) (v0 : Nat) (v1 : Int) (v2 : Int) : Option ((Int × Int) ⊕ (Int)) :=
  some (.inl (v1, (v2 + 1)))
set_option maxHeartbeats 4000000 in
set_option maxRecDepth 100000 in
theorem BX6_firstReady_43 {h : PH} {v0 : Nat} {v1 : Int} {v2 : Int} (hC : Cx g p s m args meth c cX6_firstReady 3 RX6 (some .int)) (hR : Rl g ad h s.heap H locs) (hl : lv_has ls 3 [(0, .ref (ad v0)), (1, .int (Int32.ofInt v1)), (2, .int (Int32.ofInt v2))]) {Q : State → Prop} {o : (Int × Int) ⊕ (Int)} (hF : JX6_firstReady_43 h v0 v1 v2 = some o) (hK : Sum.elim (fun st : Int × Int => ∀ (H : Heap) (locs : List Loc) (ls : Array Slot), Rl g ad h s.heap H locs → lv_has ls 3 [(0, .ref (ad v0)), (1, .int (Int32.ofInt st.1)), (2, .int (Int32.ofInt st.2))] → W p l e rmX6_firstReady s m args below meth c H locs 0 0 Q (F0 m 4 ls [])) (fun ex : Int => ∀ (H : Heap) (locs : List Loc) (ls : Array Slot), Rl g ad h s.heap H locs → lv_has ls 3 [(1, .int (Int32.ofInt ex))] → W p l e rmX6_firstReady s m args below meth c H locs 0 0 Q (F0 m 49 ls [])) o) : W p l e rmX6_firstReady s m args below meth c H locs 0 0 Q (F0 m 43 ls []) := by
  unfold JX6_firstReady_43 at hF
  refine pw_iinc (lv' := [(2, .int (Int32.ofInt (v2 + 1))), (0, .ref (ad v0)), (1, .int (Int32.ofInt v1))]) hC hl 2 dX6_firstReady_43 rfl (by decide) rfl (fun ls hl => ?_)
  refine pw_goto hC 4 dX6_firstReady_46 (by decide) ?_
  cases hF
  exact hK _ _ _ hR (lv_sub hl [1, 2, 0] rfl)
def JX6_firstReady_41 (h : PH) (v0 : Nat) (v2 : Int) : Option ((Int × Int) ⊕ (Int)) :=
  JX6_firstReady_43 h v0 v2 v2
set_option maxHeartbeats 4000000 in
set_option maxRecDepth 100000 in
theorem BX6_firstReady_41 {h : PH} {v0 : Nat} {v2 : Int} (hC : Cx g p s m args meth c cX6_firstReady 3 RX6 (some .int)) (hR : Rl g ad h s.heap H locs) (hl : lv_has ls 3 [(0, .ref (ad v0)), (2, .int (Int32.ofInt v2))]) {Q : State → Prop} {o : (Int × Int) ⊕ (Int)} (hF : JX6_firstReady_41 h v0 v2 = some o) (hK : Sum.elim (fun st : Int × Int => ∀ (H : Heap) (locs : List Loc) (ls : Array Slot), Rl g ad h s.heap H locs → lv_has ls 3 [(0, .ref (ad v0)), (1, .int (Int32.ofInt st.1)), (2, .int (Int32.ofInt st.2))] → W p l e rmX6_firstReady s m args below meth c H locs 0 0 Q (F0 m 4 ls [])) (fun ex : Int => ∀ (H : Heap) (locs : List Loc) (ls : Array Slot), Rl g ad h s.heap H locs → lv_has ls 3 [(1, .int (Int32.ofInt ex))] → W p l e rmX6_firstReady s m args below meth c H locs 0 0 Q (F0 m 49 ls [])) o) : W p l e rmX6_firstReady s m args below meth c H locs 0 0 Q (F0 m 41 ls []) := by
  unfold JX6_firstReady_41 at hF
  refine lv_iload_n hC.1 hC.2.1 dX6_firstReady_41 rfl (lv_at hl 1 rfl) ?_
  refine lv_istore_n (lv' := [(1, .int (Int32.ofInt v2)), (0, .ref (ad v0)), (2, .int (Int32.ofInt v2))]) hC.1 hC.2.1 dX6_firstReady_42 rfl hl (by decide) rfl (fun ls hl => ?_)
  exact BX6_firstReady_43 hC hR (lv_sub hl [1, 0, 2] rfl) hF hK
def LX6_firstReady_4 (h : PH) (v0 : Nat) (v1 : Int) (v2 : Int) : Option ((Int × Int) ⊕ (Int)) :=
  (gfi h 6 v0 0).bind fun x1 =>
  if w32 v2 < w32 x1 then (
    (gfr h 6 v0 2).bind fun x2 =>
    (ald 0 h x2 v2).bind fun x3 =>
    if w32 x3 = w32 1 then (
      if w32 v1 < 0 then (
        JX6_firstReady_41 h v0 v2
      ) else (
        (gfr h 6 v0 4).bind fun x4 =>
        (ald 0 h x4 v2).bind fun x5 =>
        (gfr h 6 v0 4).bind fun x6 =>
        (ald 0 h x6 v1).bind fun x7 =>
        if w32 x7 < w32 x5 then (
          JX6_firstReady_41 h v0 v2
        ) else (
          JX6_firstReady_43 h v0 v1 v2
        )
      )
    ) else (
      JX6_firstReady_43 h v0 v1 v2
    )
  ) else (
    some (.inr v1)
  )
set_option maxHeartbeats 4000000 in
set_option maxRecDepth 100000 in
theorem LRX6_firstReady_4 {h : PH} {v0 : Nat} {Q : State → Prop} (hC : Cx g p s m args meth c cX6_firstReady 3 RX6 (some .int)) : ∀ (n : Nat) (st : Int × Int) (ex : Int), lp (fun st : Int × Int => LX6_firstReady_4 h v0 st.1 st.2) n st = some ex → (fun ex : Int => ∀ (H : Heap) (locs : List Loc) (ls : Array Slot), Rl g ad h s.heap H locs → lv_has ls 3 [(1, .int (Int32.ofInt ex))] → W p l e rmX6_firstReady s m args below meth c H locs 0 0 Q (F0 m 49 ls [])) ex → ∀ (H : Heap) (locs : List Loc) (ls : Array Slot), Rl g ad h s.heap H locs → lv_has ls 3 [(0, .ref (ad v0)), (1, .int (Int32.ofInt st.1)), (2, .int (Int32.ofInt st.2))] → W p l e rmX6_firstReady s m args below meth c H locs 0 0 Q (F0 m 4 ls []) := by
  refine lp_rule (Ph := (fun st : Int × Int => ∀ (H : Heap) (locs : List Loc) (ls : Array Slot), Rl g ad h s.heap H locs → lv_has ls 3 [(0, .ref (ad v0)), (1, .int (Int32.ofInt st.1)), (2, .int (Int32.ofInt st.2))] → W p l e rmX6_firstReady s m args below meth c H locs 0 0 Q (F0 m 4 ls []))) (Px := (fun ex : Int => ∀ (H : Heap) (locs : List Loc) (ls : Array Slot), Rl g ad h s.heap H locs → lv_has ls 3 [(1, .int (Int32.ofInt ex))] → W p l e rmX6_firstReady s m args below meth c H locs 0 0 Q (F0 m 49 ls []))) ?_
  rintro ⟨v1, v2⟩ o hF hK H locs ls hR hl
  have hR : Rl g ad h s.heap H locs := hR
  have hl : lv_has ls 3 [(0, .ref (ad v0)), (1, .int (Int32.ofInt v1)), (2, .int (Int32.ofInt v2))] := hl
  have hF : LX6_firstReady_4 h v0 v1 v2 = some o := hF
  unfold LX6_firstReady_4 at hF
  refine lv_iload_n hC.1 hC.2.1 dX6_firstReady_4 rfl (lv_at hl 2 rfl) ?_
  refine lv_aload_n hC.1 hC.2.1 dX6_firstReady_5 rfl (lv_at hl 0 rfl) ?_
  obtain ⟨x1, e1, hF⟩ := bnd hF
  refine pw_gfi hC hR e1 flX6_9 dX6_firstReady_6 ?_
  refine pw_icmpge hC 49 dX6_firstReady_9 (by decide) (fun hc => ?_) (fun hc => ?_)
  · rw [if_neg hc] at hF
    cases hF
    exact hK _ _ _ hR (lv_sub hl [1] rfl)
  · rw [if_pos hc] at hF
    refine lv_aload_n hC.1 hC.2.1 dX6_firstReady_12 rfl (lv_at hl 0 rfl) ?_
    obtain ⟨x2, e2, hF⟩ := bnd hF
    refine pw_gfr hC hR e2 flX6_18 dX6_firstReady_13 ?_
    refine lv_iload_n hC.1 hC.2.1 dX6_firstReady_16 rfl (lv_at hl 2 rfl) ?_
    obtain ⟨x3, e3, hF⟩ := bnd hF
    refine pw_iald hC hR e3 dX6_firstReady_17 ?_
    refine pw_iconst hC dX6_firstReady_18 ?_
    refine pw_icmpne hC 43 dX6_firstReady_19 (by decide) (fun hc => ?_) (fun hc => ?_)
    · rw [if_neg hc] at hF
      exact BX6_firstReady_43 hC hR (lv_sub hl [0, 1, 2] rfl) hF hK
    · rw [if_pos hc] at hF
      refine lv_iload_n hC.1 hC.2.1 dX6_firstReady_22 rfl (lv_at hl 1 rfl) ?_
      refine pw_iflt hC 41 dX6_firstReady_23 (by decide) (fun hc => ?_) (fun hc => ?_)
      · rw [if_pos hc] at hF
        exact BX6_firstReady_41 hC hR (lv_sub hl [0, 2] rfl) hF hK
      · rw [if_neg hc] at hF
        refine lv_aload_n hC.1 hC.2.1 dX6_firstReady_26 rfl (lv_at hl 0 rfl) ?_
        obtain ⟨x4, e4, hF⟩ := bnd hF
        refine pw_gfr hC hR e4 flX6_25 dX6_firstReady_27 ?_
        refine lv_iload_n hC.1 hC.2.1 dX6_firstReady_30 rfl (lv_at hl 2 rfl) ?_
        obtain ⟨x5, e5, hF⟩ := bnd hF
        refine pw_iald hC hR e5 dX6_firstReady_31 ?_
        refine lv_aload_n hC.1 hC.2.1 dX6_firstReady_32 rfl (lv_at hl 0 rfl) ?_
        obtain ⟨x6, e6, hF⟩ := bnd hF
        refine pw_gfr hC hR e6 flX6_25 dX6_firstReady_33 ?_
        refine lv_iload_n hC.1 hC.2.1 dX6_firstReady_36 rfl (lv_at hl 1 rfl) ?_
        obtain ⟨x7, e7, hF⟩ := bnd hF
        refine pw_iald hC hR e7 dX6_firstReady_37 ?_
        refine pw_icmple hC 43 dX6_firstReady_38 (by decide) (fun hc => ?_) (fun hc => ?_)
        · rw [if_neg hc] at hF
          exact BX6_firstReady_43 hC hR (lv_sub hl [0, 1, 2] rfl) hF hK
        · rw [if_pos hc] at hF
          exact BX6_firstReady_41 hC hR (lv_sub hl [0, 2] rfl) hF hK
def FX6_firstReady (h : PH) (v0 : Nat) : Option (Int) :=
  (isO h 6 v0).bind fun _ =>
  (lp (fun st : Int × Int => LX6_firstReady_4 h v0 st.1 st.2) FU ((-1), 0)).bind fun ex8 =>
  some ex8
theorem OX6_firstReady {h : PH} {v0 : Nat} {q : Int} (hF : FX6_firstReady h v0 = some q) : ∃ fs : List PV, h[v0]? = some (.inr (6, fs)) := by
  unfold FX6_firstReady at hF
  obtain ⟨u0, e0, -⟩ := bnd hF
  exact isO_spec e0
set_option maxHeartbeats 4000000 in
set_option maxRecDepth 100000 in
theorem CX6_firstReady {g : GP} {l : Launch} {ad : Nat → Nat} {h : PH} {v0 : Nat} {q : Int} (hF : FX6_firstReady h v0 = some q) : CN g l yX6_firstReady cX6_firstReady 3 (some .int) rmX6_firstReady ad h [.ref (ad v0)] (some (.int (Int32.ofInt q))) h := by
  refine pw_met (by decide) (Nat.le_of_ble_eq_true rfl) ?_
  intro p e s m args below meth c ls hC hN hR hl
  have hl : lv_has ls 3 [(0, .ref (ad v0))] := hl
  unfold FX6_firstReady at hF
  obtain ⟨u0, e0, hF⟩ := bnd hF
  refine pw_iconst hC dX6_firstReady_0 ?_
  refine lv_istore_n (lv' := [(1, .int (Int32.ofInt (-1))), (0, .ref (ad v0))]) hC.1 hC.2.1 dX6_firstReady_1 rfl hl (by decide) rfl (fun ls hl => ?_)
  refine pw_iconst hC dX6_firstReady_2 ?_
  refine lv_istore_n (lv' := [(2, .int (Int32.ofInt 0)), (1, .int (Int32.ofInt (-1))), (0, .ref (ad v0))]) hC.1 hC.2.1 dX6_firstReady_3 rfl hl (by decide) rfl (fun ls hl => ?_)
  obtain ⟨ex8, e8, hF⟩ := bnd hF
  refine LRX6_firstReady_4 hC FU _ ex8 e8 ?_ _ _ _ hR (lv_sub hl [2, 1, 0] rfl)
  intro H locs ls hR hl
  refine lv_iload_n hC.1 hC.2.1 dX6_firstReady_49 rfl (lv_at hl 0 rfl) ?_
  cases hF
  exact pw_iret hC hR dX6_firstReady_50
abbrev rmX3_queueTasks : Room := { frames := 1, cells := 0, slots := 0, locals := 23 }
def LX3_queueTasks_2 (v0 : Nat) (v1 : Int) (h : PH) : Option ((Int × PH) ⊕ (((PH) ⊕ ((PH) ⊕ (PH))))) :=
  if w32 v1 < w32 32 then (
    (gfr h 3 v0 0).bind fun x1 =>
    (FX6_firstReady h x1).bind fun x2 =>
    if w32 x2 < 0 then (
      some (.inr (.inl h))
    ) else (
      (gfr h 3 v0 1).bind fun x3 =>
      (gfr h 3 v0 0).bind fun x4 =>
      (gfr h 6 x4 5).bind fun x5 =>
      (ald 0 h x5 x2).bind fun x6 =>
      (FX0_queueFor h x3 x6).bind fun x7 =>
      if w32 x7 < 0 then (
        some (.inr (.inr (.inl h)))
      ) else (
        (gfr h 3 v0 1).bind fun x8 =>
        (FX0_putLast h x8 x7 x2).bind fun h9 =>
        (gfr h9 3 v0 0).bind fun x10 =>
        (gfr h9 6 x10 2).bind fun x11 =>
        (ast 0 h9 x11 x2 2).bind fun h12 =>
        some (.inl ((v1 + 1), h12))
      )
    )
  ) else (
    some (.inr (.inr (.inr h)))
  )
set_option maxHeartbeats 4000000 in
set_option maxRecDepth 100000 in
theorem LRX3_queueTasks_2 {v0 : Nat} {Q : State → Prop} (hC : Cx g p s m args meth c cX3_queueTasks 4 RX3 none) : ∀ (n : Nat) (st : Int × PH) (ex : ((PH) ⊕ ((PH) ⊕ (PH)))), lp (fun st : Int × PH => LX3_queueTasks_2 v0 st.1 st.2) n st = some ex → (Sum.elim (fun ex : PH => ∀ (H : Heap) (locs : List Loc) (ls : Array Slot), Rl g ad ex s.heap H locs → lv_has ls 4 [] → W p l e rmX3_queueTasks s m args below meth c H locs 0 0 Q (F0 m 20 ls [])) (Sum.elim (fun ex : PH => ∀ (H : Heap) (locs : List Loc) (ls : Array Slot), Rl g ad ex s.heap H locs → lv_has ls 4 [] → W p l e rmX3_queueTasks s m args below meth c H locs 0 0 Q (F0 m 42 ls [])) (fun ex : PH => ∀ (H : Heap) (locs : List Loc) (ls : Array Slot), Rl g ad ex s.heap H locs → lv_has ls 4 [] → W p l e rmX3_queueTasks s m args below meth c H locs 0 0 Q (F0 m 68 ls [])))) ex → ∀ (H : Heap) (locs : List Loc) (ls : Array Slot), Rl g ad st.2 s.heap H locs → lv_has ls 4 [(0, .ref (ad v0)), (1, .int (Int32.ofInt st.1))] → W p l e rmX3_queueTasks s m args below meth c H locs 0 0 Q (F0 m 2 ls []) := by
  refine lp_rule (Ph := (fun st : Int × PH => ∀ (H : Heap) (locs : List Loc) (ls : Array Slot), Rl g ad st.2 s.heap H locs → lv_has ls 4 [(0, .ref (ad v0)), (1, .int (Int32.ofInt st.1))] → W p l e rmX3_queueTasks s m args below meth c H locs 0 0 Q (F0 m 2 ls []))) (Px := (Sum.elim (fun ex : PH => ∀ (H : Heap) (locs : List Loc) (ls : Array Slot), Rl g ad ex s.heap H locs → lv_has ls 4 [] → W p l e rmX3_queueTasks s m args below meth c H locs 0 0 Q (F0 m 20 ls [])) (Sum.elim (fun ex : PH => ∀ (H : Heap) (locs : List Loc) (ls : Array Slot), Rl g ad ex s.heap H locs → lv_has ls 4 [] → W p l e rmX3_queueTasks s m args below meth c H locs 0 0 Q (F0 m 42 ls [])) (fun ex : PH => ∀ (H : Heap) (locs : List Loc) (ls : Array Slot), Rl g ad ex s.heap H locs → lv_has ls 4 [] → W p l e rmX3_queueTasks s m args below meth c H locs 0 0 Q (F0 m 68 ls []))))) ?_
  rintro ⟨v1, h⟩ o hF hK H locs ls hR hl
  have hR : Rl g ad h s.heap H locs := hR
  have hl : lv_has ls 4 [(0, .ref (ad v0)), (1, .int (Int32.ofInt v1))] := hl
  have hF : LX3_queueTasks_2 v0 v1 h = some o := hF
  unfold LX3_queueTasks_2 at hF
  refine lv_iload_n hC.1 hC.2.1 dX3_queueTasks_2 rfl (lv_at hl 1 rfl) ?_
  refine pw_bipush hC dX3_queueTasks_3 rfl ?_
  refine pw_icmpge hC 68 dX3_queueTasks_5 (by decide) (fun hc => ?_) (fun hc => ?_)
  · rw [if_neg hc] at hF
    cases hF
    exact hK _ _ _ hR (lv_sub hl [] rfl)
  · rw [if_pos hc] at hF
    refine lv_aload_n hC.1 hC.2.1 dX3_queueTasks_8 rfl (lv_at hl 0 rfl) ?_
    obtain ⟨x1, e1, hF⟩ := bnd hF
    refine pw_gfr hC hR e1 flX3_12 dX3_queueTasks_9 ?_
    obtain ⟨x2, e2, hF⟩ := bnd hF
    obtain ⟨fs2, ho2⟩ := OX6_firstReady e2
    refine pw_cVi (rest := []) hC hR lvX3_88 ho2 (CX6_firstReady e2) ⟨rfl, rfl⟩ rfl hl.1 rfl ⟨Nat.le_of_ble_eq_true rfl, Nat.le_of_ble_eq_true rfl⟩ (Nat.le_of_ble_eq_true rfl) dX3_queueTasks_12 ⟨Nat.zero_le _, Nat.zero_le _⟩ (fun H locs hR => ?_)
    refine lv_istore_n (lv' := [(2, .int (Int32.ofInt x2)), (0, .ref (ad v0)), (1, .int (Int32.ofInt v1))]) hC.1 hC.2.1 dX3_queueTasks_15 rfl hl (by decide) rfl (fun ls hl => ?_)
    refine lv_iload_n hC.1 hC.2.1 dX3_queueTasks_16 rfl (lv_at hl 0 rfl) ?_
    refine pw_ifge hC 21 dX3_queueTasks_17 (by decide) (fun hc => ?_) (fun hc => ?_)
    · rw [if_neg hc] at hF
      refine lv_aload_n hC.1 hC.2.1 dX3_queueTasks_21 rfl (lv_at hl 1 rfl) ?_
      obtain ⟨x3, e3, hF⟩ := bnd hF
      refine pw_gfr hC hR e3 flX3_21 dX3_queueTasks_22 ?_
      refine lv_aload_n hC.1 hC.2.1 dX3_queueTasks_25 rfl (lv_at hl 1 rfl) ?_
      obtain ⟨x4, e4, hF⟩ := bnd hF
      refine pw_gfr hC hR e4 flX3_12 dX3_queueTasks_26 ?_
      obtain ⟨x5, e5, hF⟩ := bnd hF
      refine pw_gfr hC hR e5 flX3_91 dX3_queueTasks_29 ?_
      refine lv_iload_n hC.1 hC.2.1 dX3_queueTasks_32 rfl (lv_at hl 0 rfl) ?_
      obtain ⟨x6, e6, hF⟩ := bnd hF
      refine pw_iald hC hR e6 dX3_queueTasks_33 ?_
      obtain ⟨x7, e7, hF⟩ := bnd hF
      obtain ⟨fs7, ho7⟩ := OX0_queueFor e7
      refine pw_cVi (rest := []) hC hR lvX3_94 ho7 (CX0_queueFor e7) ⟨rfl, rfl⟩ rfl hl.1 rfl ⟨Nat.le_of_ble_eq_true rfl, Nat.le_of_ble_eq_true rfl⟩ (Nat.le_of_ble_eq_true rfl) dX3_queueTasks_34 ⟨Nat.zero_le _, Nat.zero_le _⟩ (fun H locs hR => ?_)
      refine lv_istore_n (lv' := [(3, .int (Int32.ofInt x7)), (2, .int (Int32.ofInt x2)), (0, .ref (ad v0)), (1, .int (Int32.ofInt v1))]) hC.1 hC.2.1 dX3_queueTasks_37 rfl hl (by decide) rfl (fun ls hl => ?_)
      refine lv_iload_n hC.1 hC.2.1 dX3_queueTasks_38 rfl (lv_at hl 0 rfl) ?_
      refine pw_ifge hC 43 dX3_queueTasks_39 (by decide) (fun hc => ?_) (fun hc => ?_)
      · rw [if_neg hc] at hF
        refine lv_aload_n hC.1 hC.2.1 dX3_queueTasks_43 rfl (lv_at hl 2 rfl) ?_
        obtain ⟨x8, e8, hF⟩ := bnd hF
        refine pw_gfr hC hR e8 flX3_21 dX3_queueTasks_44 ?_
        refine lv_iload_n hC.1 hC.2.1 dX3_queueTasks_47 rfl (lv_at hl 0 rfl) ?_
        refine lv_iload_n hC.1 hC.2.1 dX3_queueTasks_48 rfl (lv_at hl 1 rfl) ?_
        obtain ⟨h9, e9, hF⟩ := bnd hF
        obtain ⟨fs9, ho9⟩ := OX0_putLast e9
        refine pw_cVv (rest := []) hC hR lvX3_98 ho9 (CX0_putLast e9) ⟨rfl, rfl⟩ rfl hl.1 rfl ⟨Nat.le_of_ble_eq_true rfl, Nat.le_of_ble_eq_true rfl⟩ (Nat.le_of_ble_eq_true rfl) dX3_queueTasks_49 ⟨Nat.zero_le _, Nat.zero_le _⟩ (fun H locs hR => ?_)
        refine lv_aload_n hC.1 hC.2.1 dX3_queueTasks_52 rfl (lv_at hl 2 rfl) ?_
        obtain ⟨x10, e10, hF⟩ := bnd hF
        refine pw_gfr hC hR e10 flX3_12 dX3_queueTasks_53 ?_
        obtain ⟨x11, e11, hF⟩ := bnd hF
        refine pw_gfr hC hR e11 flX3_82 dX3_queueTasks_56 ?_
        refine lv_iload_n hC.1 hC.2.1 dX3_queueTasks_59 rfl (lv_at hl 1 rfl) ?_
        refine pw_iconst hC dX3_queueTasks_60 ?_
        obtain ⟨h12, e12, hF⟩ := bnd hF
        refine pw_iast hC hR e12 dX3_queueTasks_61 (fun H locs hR => ?_)
        refine pw_iinc (lv' := [(1, .int (Int32.ofInt (v1 + 1))), (3, .int (Int32.ofInt x7)), (2, .int (Int32.ofInt x2)), (0, .ref (ad v0))]) hC hl 3 dX3_queueTasks_62 rfl (by decide) rfl (fun ls hl => ?_)
        refine pw_goto hC 2 dX3_queueTasks_65 (by decide) ?_
        cases hF
        exact hK _ _ _ hR (lv_sub hl [3, 0] rfl)
      · rw [if_pos hc] at hF
        cases hF
        exact hK _ _ _ hR (lv_sub hl [] rfl)
    · rw [if_pos hc] at hF
      cases hF
      exact hK _ _ _ hR (lv_sub hl [] rfl)
def FX3_queueTasks (h : PH) (v0 : Nat) : Option (PH) :=
  (isO h 3 v0).bind fun _ =>
  (lp (fun st : Int × PH => LX3_queueTasks_2 v0 st.1 st.2) FU (0, h)).bind fun ex13 =>
  Sum.elim (fun ex13 => (
    some ex13
  )) (fun ex13 => (
    Sum.elim (fun ex13 => (
      some ex13
    )) (fun ex13 => (
      some ex13
    )) ex13
  )) ex13
theorem OX3_queueTasks {h : PH} {v0 : Nat} {q : PH} (hF : FX3_queueTasks h v0 = some q) : ∃ fs : List PV, h[v0]? = some (.inr (3, fs)) := by
  unfold FX3_queueTasks at hF
  obtain ⟨u0, e0, -⟩ := bnd hF
  exact isO_spec e0
set_option maxHeartbeats 4000000 in
set_option maxRecDepth 100000 in
theorem CX3_queueTasks {g : GP} {l : Launch} {ad : Nat → Nat} {h : PH} {v0 : Nat} {q : PH} (hF : FX3_queueTasks h v0 = some q) : CN g l yX3_queueTasks cX3_queueTasks 4 none rmX3_queueTasks ad h [.ref (ad v0)] none q := by
  refine pw_met (by decide) (Nat.le_of_ble_eq_true rfl) ?_
  intro p e s m args below meth c ls hC hN hR hl
  have hl : lv_has ls 4 [(0, .ref (ad v0))] := hl
  unfold FX3_queueTasks at hF
  obtain ⟨u0, e0, hF⟩ := bnd hF
  refine pw_iconst hC dX3_queueTasks_0 ?_
  refine lv_istore_n (lv' := [(1, .int (Int32.ofInt 0)), (0, .ref (ad v0))]) hC.1 hC.2.1 dX3_queueTasks_1 rfl hl (by decide) rfl (fun ls hl => ?_)
  obtain ⟨ex13, e13, hF⟩ := bnd hF
  refine LRX3_queueTasks_2 hC FU _ ex13 e13 ?_ _ _ _ hR (lv_sub hl [1, 0] rfl)
  rcases ex13 with ex13 | ex13
  · dsimp only [Sum.elim_inl, Sum.elim_inr] at hF
    intro H locs ls hR hl
    cases hF
    exact pw_vret hC hR dX3_queueTasks_20
  · dsimp only [Sum.elim_inl, Sum.elim_inr] at hF
    rcases ex13 with ex13 | ex13
    · dsimp only [Sum.elim_inl, Sum.elim_inr] at hF
      intro H locs ls hR hl
      cases hF
      exact pw_vret hC hR dX3_queueTasks_42
    · dsimp only [Sum.elim_inl, Sum.elim_inr] at hF
      intro H locs ls hR hl
      cases hF
      exact pw_vret hC hR dX3_queueTasks_68
end
