section
variable {p : Program} {l : Launch} {e : Env} {s : State} {m : MethodId} {args : Array Value} {below : List Frame} {meth : Method} {c : Code} {H : Heap} {locs : List Loc} {ls : Array Slot} {g : GP} {ad : Nat → Nat}
abbrev rmX7_requirePriority : Room := { frames := 8, cells := 1, slots := 6, locals := 150 }
def JX7_requirePriority_10 (h : PH) : Option (Nat) :=
  some 2
set_option maxHeartbeats 4000000 in
set_option maxRecDepth 100000 in
theorem BX7_requirePriority_10 (hst : l.stackTraces = false) (hout : ∀ x ∈ c.exceptionTable.toList, False) {h : PH} (hC : Cx g p s m args meth c cX7_requirePriority 1 RX7 none) (hR : Rl g ad h s.heap H locs) (hl : lv_has ls 1 []) {q : Nat} (hF : JX7_requirePriority_10 h  = some q) : W p l e rmX7_requirePriority s m args below meth c H locs 0 0 (vx_MQ below (QcT g ad q h none) (XcT g ad q h) args s 1 6 (gA g)) (F0 m 10 ls []) := by
  unfold JX7_requirePriority_10 at hF
  cases hF
  exact pw_thI (i := 23) (tx := "priority is not 0 to 9") hC hR hst hout (by decide +kernel) hl.1 dX7_requirePriority_10 dX7_requirePriority_13 dX7_requirePriority_14 dX7_requirePriority_16 dX7_requirePriority_19 (Nat.le_of_ble_eq_true rfl) (Nat.le_of_ble_eq_true rfl) (Nat.le_of_ble_eq_true rfl) (Nat.le_of_ble_eq_true rfl) (Nat.le_of_ble_eq_true rfl) (Nat.le_of_ble_eq_true rfl)
def FX7_requirePriority (h : PH) (v0 : Int) : Option (Nat) :=
  if w32 v0 < 0 then (
    JX7_requirePriority_10 h
  ) else (
    if w32 9 < w32 v0 then (
      JX7_requirePriority_10 h
    ) else (
      some 0
    )
  )
set_option maxHeartbeats 4000000 in
set_option maxRecDepth 100000 in
theorem CX7_requirePriority {g : GP} {l : Launch} (hst : l.stackTraces = false) {ad : Nat → Nat} {h : PH} {v0 : Int} {q : Nat} (hF : FX7_requirePriority h v0 = some q) : CT g l yX7_requirePriority cX7_requirePriority 1 none rmX7_requirePriority ad h [.int (Int32.ofInt v0)] q none h := by
  refine pw_metT (by decide) (Nat.le_of_ble_eq_true rfl) ?_
  intro p e s m args below meth c ls hC hout hR hl
  have hl : lv_has ls 1 [(0, .int (Int32.ofInt v0))] := hl
  unfold FX7_requirePriority at hF
  refine lv_iload_n hC.1 hC.2.1 dX7_requirePriority_0 rfl (lv_at hl 0 rfl) ?_
  refine pw_iflt hC 10 dX7_requirePriority_1 (by decide) (fun hc => ?_) (fun hc => ?_)
  · rw [if_pos hc] at hF
    exact BX7_requirePriority_10 hst hout hC hR (lv_sub hl [] rfl) hF
  · rw [if_neg hc] at hF
    refine lv_iload_n hC.1 hC.2.1 dX7_requirePriority_4 rfl (lv_at hl 0 rfl) ?_
    refine pw_bipush hC dX7_requirePriority_5 rfl ?_
    refine pw_icmple hC 20 dX7_requirePriority_7 (by decide) (fun hc => ?_) (fun hc => ?_)
    · rw [if_neg hc] at hF
      cases hF
      exact pw_vretT hC hR (Nat.le_of_ble_eq_true rfl) (Nat.le_of_ble_eq_true rfl) dX7_requirePriority_20
    · rw [if_pos hc] at hF
      exact BX7_requirePriority_10 hst hout hC hR (lv_sub hl [] rfl) hF
abbrev rmX7_submit : Room := { frames := 9, cells := 3, slots := 18, locals := 171 }
def JX7_submit_16 (h : PH) : Option (Nat × Int × PH) :=
  some (2, 0, h)
set_option maxHeartbeats 4000000 in
set_option maxRecDepth 100000 in
theorem BX7_submit_16 (hst : l.stackTraces = false) (hout : ∀ x ∈ c.exceptionTable.toList, False) {h : PH} (hC : Cx g p s m args meth c cX7_submit 4 RX7 (some .int)) (hR : Rl g ad h s.heap H locs) (hl : lv_has ls 4 []) {q : Nat × Int × PH} (hF : JX7_submit_16 h  = some q) : W p l e rmX7_submit s m args below meth c H locs 1 6 (vx_MQ below (QcT g ad q.1 q.2.2 (some (.int (Int32.ofInt q.2.1)))) (XcT g ad q.1 q.2.2) args s 3 18 (gA g)) (F0 m 16 ls []) := by
  unfold JX7_submit_16 at hF
  cases hF
  exact pw_thI (i := 14) (tx := "duration is not 1 to 99") hC hR hst hout (by decide +kernel) hl.1 dX7_submit_16 dX7_submit_19 dX7_submit_20 dX7_submit_22 dX7_submit_25 (Nat.le_of_ble_eq_true rfl) (Nat.le_of_ble_eq_true rfl) (Nat.le_of_ble_eq_true rfl) (Nat.le_of_ble_eq_true rfl) (Nat.le_of_ble_eq_true rfl) (Nat.le_of_ble_eq_true rfl)
def FX7_submit (h : PH) (v0 : Nat) (v1 : Int) (v2 : Int) (v3 : Int) : Option (Nat × Int × PH) :=
  (isO h 7 v0).bind fun _ =>
  (FX7_requireCore h v0 v3).bind fun x1 =>
  if x1 = 0 then (
    if w32 v1 < w32 1 then (
      JX7_submit_16 h
    ) else (
      if w32 99 < w32 v1 then (
        JX7_submit_16 h
      ) else (
        (FX7_requirePriority h v2).bind fun x2 =>
        if x2 = 0 then (
          (gfr h 7 v0 1).bind fun x3 =>
          (gfr h 3 x3 0).bind fun x4 =>
          (gfi h 6 x4 0).bind fun x5 =>
          if w32 x5 < w32 32 then (
            (gfr h 7 v0 3).bind fun x6 =>
            (gfr h 7 v0 1).bind fun x7 =>
            (FX2_remember h x6 x7).bind fun h8 =>
            (gfr h8 7 v0 1).bind fun x9 =>
            (gfr h8 3 x9 0).bind fun x10 =>
            (FX6_add h8 x10 v1 v2 v3 0).bind fun h11 =>
            (gfr h11 7 v0 1).bind fun x12 =>
            (gfr h11 3 x12 0).bind fun x13 =>
            (gfi h11 6 x13 0).bind fun x14 =>
            some (0, (x14 - 1), h11)
          ) else (
            some (3, 0, h)
          )
        ) else (some (x2, 0, h))
      )
    )
  ) else (some (x1, 0, h))
theorem OX7_submit {h : PH} {v0 : Nat} {v1 : Int} {v2 : Int} {v3 : Int} {q : Nat × Int × PH} (hF : FX7_submit h v0 v1 v2 v3 = some q) : ∃ fs : List PV, h[v0]? = some (.inr (7, fs)) := by
  unfold FX7_submit at hF
  obtain ⟨u0, e0, -⟩ := bnd hF
  exact isO_spec e0
set_option maxHeartbeats 4000000 in
set_option maxRecDepth 100000 in
theorem CX7_submit {g : GP} {l : Launch} (hst : l.stackTraces = false) {ad : Nat → Nat} {h : PH} {v0 : Nat} {v1 : Int} {v2 : Int} {v3 : Int} {q : Nat × Int × PH} (hF : FX7_submit h v0 v1 v2 v3 = some q) : CT g l yX7_submit cX7_submit 4 (some .int) rmX7_submit ad h [.ref (ad v0), .int (Int32.ofInt v1), .int (Int32.ofInt v2), .int (Int32.ofInt v3)] q.1 (some (.int (Int32.ofInt q.2.1))) q.2.2 := by
  refine pw_metT (by decide) (Nat.le_of_ble_eq_true rfl) ?_
  intro p e s m args below meth c ls hC hout hR hl
  have hl : lv_has ls 4 [(0, .ref (ad v0)), (1, .int (Int32.ofInt v1)), (2, .int (Int32.ofInt v2)), (3, .int (Int32.ofInt v3))] := hl
  unfold FX7_submit at hF
  obtain ⟨u0, e0, hF⟩ := bnd hF
  refine lv_aload_n hC.1 hC.2.1 dX7_submit_0 rfl (lv_at hl 0 rfl) ?_
  refine lv_iload_n hC.1 hC.2.1 dX7_submit_1 rfl (lv_at hl 3 rfl) ?_
  obtain ⟨x1, e1, hF⟩ := bnd hF
  obtain ⟨fs1, ho1⟩ := OX7_requireCore e1
  refine pw_cVT (rest := []) hC hR lvX7_129 ho1 (CX7_requireCore hst e1) ⟨rfl, rfl⟩ rfl hl.1 rfl ⟨Nat.le_of_ble_eq_true rfl, Nat.le_of_ble_eq_true rfl⟩ (Nat.le_of_ble_eq_true rfl) dX7_submit_2 ⟨Nat.le_of_ble_eq_true rfl, Nat.le_of_ble_eq_true rfl⟩ (fun hk H locs hR => ?_) (fun hk H locs q ce hR h1 h2 h3 => ?_)
  · rw [if_pos hk] at hF
    refine lv_iload_n hC.1 hC.2.1 dX7_submit_5 rfl (lv_at hl 1 rfl) ?_
    refine pw_iconst hC dX7_submit_6 ?_
    refine pw_icmplt hC 16 dX7_submit_7 (by decide) (fun hc => ?_) (fun hc => ?_)
    · rw [if_pos hc] at hF
      exact BX7_submit_16 hst hout hC hR (lv_sub hl [] rfl) hF
    · rw [if_neg hc] at hF
      refine lv_iload_n hC.1 hC.2.1 dX7_submit_10 rfl (lv_at hl 1 rfl) ?_
      refine pw_bipush hC dX7_submit_11 rfl ?_
      refine pw_icmple hC 26 dX7_submit_13 (by decide) (fun hc => ?_) (fun hc => ?_)
      · rw [if_neg hc] at hF
        refine lv_iload_n hC.1 hC.2.1 dX7_submit_26 rfl (lv_at hl 2 rfl) ?_
        obtain ⟨x2, e2, hF⟩ := bnd hF
        refine pw_cST (rest := []) hC hR lsX7_190 (CX7_requirePriority hst e2) ⟨rfl, rfl⟩ rfl hl.1 rfl ⟨Nat.le_of_ble_eq_true rfl, Nat.le_of_ble_eq_true rfl⟩ (Nat.le_of_ble_eq_true rfl) dX7_submit_27 ⟨Nat.le_of_ble_eq_true rfl, Nat.le_of_ble_eq_true rfl⟩ (fun hk H locs hR => ?_) (fun hk H locs q ce hR h1 h2 h3 => ?_)
        · rw [if_pos hk] at hF
          refine lv_aload_n hC.1 hC.2.1 dX7_submit_30 rfl (lv_at hl 0 rfl) ?_
          obtain ⟨x3, e3, hF⟩ := bnd hF
          refine pw_gfr hC hR e3 flX7_19 dX7_submit_31 ?_
          obtain ⟨x4, e4, hF⟩ := bnd hF
          refine pw_gfr hC hR e4 flX7_74 dX7_submit_34 ?_
          obtain ⟨x5, e5, hF⟩ := bnd hF
          refine pw_gfi hC hR e5 flX7_78 dX7_submit_37 ?_
          refine pw_bipush hC dX7_submit_40 rfl ?_
          refine pw_icmplt hC 55 dX7_submit_42 (by decide) (fun hc => ?_) (fun hc => ?_)
          · rw [if_pos hc] at hF
            refine lv_aload_n hC.1 hC.2.1 dX7_submit_55 rfl (lv_at hl 0 rfl) ?_
            obtain ⟨x6, e6, hF⟩ := bnd hF
            refine pw_gfr hC hR e6 flX7_29 dX7_submit_56 ?_
            refine lv_aload_n hC.1 hC.2.1 dX7_submit_59 rfl (lv_at hl 0 rfl) ?_
            obtain ⟨x7, e7, hF⟩ := bnd hF
            refine pw_gfr hC hR e7 flX7_19 dX7_submit_60 ?_
            obtain ⟨h8, e8, hF⟩ := bnd hF
            obtain ⟨fs8, ho8⟩ := OX2_remember e8
            refine pw_cVv (rest := []) hC hR lvX7_67 ho8 (CX2_remember e8) ⟨rfl, rfl⟩ rfl hl.1 rfl ⟨Nat.le_of_ble_eq_true rfl, Nat.le_of_ble_eq_true rfl⟩ (Nat.le_of_ble_eq_true rfl) dX7_submit_63 ⟨Nat.le_of_ble_eq_true rfl, Nat.le_of_ble_eq_true rfl⟩ (fun H locs hR => ?_)
            refine lv_aload_n hC.1 hC.2.1 dX7_submit_66 rfl (lv_at hl 0 rfl) ?_
            obtain ⟨x9, e9, hF⟩ := bnd hF
            refine pw_gfr hC hR e9 flX7_19 dX7_submit_67 ?_
            obtain ⟨x10, e10, hF⟩ := bnd hF
            refine pw_gfr hC hR e10 flX7_74 dX7_submit_70 ?_
            refine lv_iload_n hC.1 hC.2.1 dX7_submit_73 rfl (lv_at hl 1 rfl) ?_
            refine lv_iload_n hC.1 hC.2.1 dX7_submit_74 rfl (lv_at hl 2 rfl) ?_
            refine lv_iload_n hC.1 hC.2.1 dX7_submit_75 rfl (lv_at hl 3 rfl) ?_
            refine pw_iconst hC dX7_submit_76 ?_
            obtain ⟨h11, e11, hF⟩ := bnd hF
            obtain ⟨fs11, ho11⟩ := OX6_add e11
            refine pw_cVv (rest := []) hC hR lvX7_195 ho11 (CX6_add e11) ⟨rfl, rfl⟩ rfl hl.1 rfl ⟨Nat.le_of_ble_eq_true rfl, Nat.le_of_ble_eq_true rfl⟩ (Nat.le_of_ble_eq_true rfl) dX7_submit_77 ⟨Nat.le_of_ble_eq_true rfl, Nat.le_of_ble_eq_true rfl⟩ (fun H locs hR => ?_)
            refine lv_aload_n hC.1 hC.2.1 dX7_submit_80 rfl (lv_at hl 0 rfl) ?_
            obtain ⟨x12, e12, hF⟩ := bnd hF
            refine pw_gfr hC hR e12 flX7_19 dX7_submit_81 ?_
            obtain ⟨x13, e13, hF⟩ := bnd hF
            refine pw_gfr hC hR e13 flX7_74 dX7_submit_84 ?_
            obtain ⟨x14, e14, hF⟩ := bnd hF
            refine pw_gfi hC hR e14 flX7_78 dX7_submit_87 ?_
            refine pw_iconst hC dX7_submit_90 ?_
            refine pw_isub hC dX7_submit_91 ?_
            cases hF
            exact pw_iretT hC hR (Nat.le_of_ble_eq_true rfl) (Nat.le_of_ble_eq_true rfl) dX7_submit_92
          · rw [if_neg hc] at hF
            cases hF
            exact pw_thS (i := 15) (tx := "there are 32 tasks") hC hR hst hout (by decide +kernel) hl.1 dX7_submit_45 dX7_submit_48 dX7_submit_49 dX7_submit_51 dX7_submit_54 (Nat.le_of_ble_eq_true rfl) (Nat.le_of_ble_eq_true rfl) (Nat.le_of_ble_eq_true rfl) (Nat.le_of_ble_eq_true rfl) (Nat.le_of_ble_eq_true rfl) (Nat.le_of_ble_eq_true rfl)
        · rw [if_neg hk] at hF
          cases hF
          exact pw_thru hC hR hk hout h1 h2 h3 (Nat.le_of_ble_eq_true rfl) (Nat.le_of_ble_eq_true rfl)
      · rw [if_pos hc] at hF
        exact BX7_submit_16 hst hout hC hR (lv_sub hl [] rfl) hF
  · rw [if_neg hk] at hF
    cases hF
    exact pw_thru hC hR hk hout h1 h2 h3 (Nat.le_of_ble_eq_true rfl) (Nat.le_of_ble_eq_true rfl)
abbrev rmX7_depend : Room := { frames := 9, cells := 2, slots := 12, locals := 171 }
def JX7_depend_45 (h : PH) : Option (Nat × Int × PH) :=
  some (2, 0, h)
set_option maxHeartbeats 4000000 in
set_option maxRecDepth 100000 in
theorem BX7_depend_45 (hst : l.stackTraces = false) (hout : ∀ x ∈ c.exceptionTable.toList, False) {h : PH} (hC : Cx g p s m args meth c cX7_depend 4 RX7 (some .int)) (hR : Rl g ad h s.heap H locs) (hl : lv_has ls 4 []) {q : Nat × Int × PH} (hF : JX7_depend_45 h  = some q) : W p l e rmX7_depend s m args below meth c H locs 1 6 (vx_MQ below (QcT g ad q.1 q.2.2 (some (.int (Int32.ofInt q.2.1)))) (XcT g ad q.1 q.2.2) args s 2 12 (gA g)) (F0 m 45 ls []) := by
  unfold JX7_depend_45 at hF
  cases hF
  exact pw_thI (i := 17) (tx := "not an earlier task, or a predecessor already") hC hR hst hout (by decide +kernel) hl.1 dX7_depend_45 dX7_depend_48 dX7_depend_49 dX7_depend_51 dX7_depend_54 (Nat.le_of_ble_eq_true rfl) (Nat.le_of_ble_eq_true rfl) (Nat.le_of_ble_eq_true rfl) (Nat.le_of_ble_eq_true rfl) (Nat.le_of_ble_eq_true rfl) (Nat.le_of_ble_eq_true rfl)
def FX7_depend (h : PH) (v0 : Nat) (v1 : Int) (v2 : Int) : Option (Nat × Int × PH) :=
  (isO h 7 v0).bind fun _ =>
  (FX7_requireTask h v0 v1).bind fun x1 =>
  if x1 = 0 then (
    if w32 v2 < 0 then (
      some (1, 0, h)
    ) else (
      (gfr h 7 v0 1).bind fun x2 =>
      (gfr h 3 x2 0).bind fun x3 =>
      if w32 v2 < w32 v1 then (
        (gfr h 6 x3 6).bind fun x4 =>
        (ald 0 h x4 v1).bind fun x5 =>
        (FX7_hasBit h x5 v2).bind fun x6 =>
        if w32 x6 = 0 then (
          (gfr h 6 x3 2).bind fun x7 =>
          (ald 0 h x7 v1).bind fun x8 =>
          if w32 x8 = 0 then (
            (gfr h 7 v0 3).bind fun x9 =>
            (gfr h 7 v0 1).bind fun x10 =>
            (FX2_remember h x9 x10).bind fun h11 =>
            (gfr h11 6 x3 6).bind fun x12 =>
            (ald 0 h11 x12 v1).bind fun x13 =>
            (ast 0 h11 x12 v1 (orI x13 (shlI 1 v2))).bind fun h14 =>
            (FX6_unfinishedBits h14 x3).bind fun x15 =>
            (FX6_counterOf h14 x3 v1 x15).bind fun x16 =>
            some (0, x16, h14)
          ) else (
            some (3, 0, h)
          )
        ) else (
          JX7_depend_45 h
        )
      ) else (
        JX7_depend_45 h
      )
    )
  ) else (some (x1, 0, h))
theorem OX7_depend {h : PH} {v0 : Nat} {v1 : Int} {v2 : Int} {q : Nat × Int × PH} (hF : FX7_depend h v0 v1 v2 = some q) : ∃ fs : List PV, h[v0]? = some (.inr (7, fs)) := by
  unfold FX7_depend at hF
  obtain ⟨u0, e0, -⟩ := bnd hF
  exact isO_spec e0
set_option maxHeartbeats 4000000 in
set_option maxRecDepth 100000 in
theorem CX7_depend {g : GP} {l : Launch} (hst : l.stackTraces = false) {ad : Nat → Nat} {h : PH} {v0 : Nat} {v1 : Int} {v2 : Int} {q : Nat × Int × PH} (hF : FX7_depend h v0 v1 v2 = some q) : CT g l yX7_depend cX7_depend 4 (some .int) rmX7_depend ad h [.ref (ad v0), .int (Int32.ofInt v1), .int (Int32.ofInt v2)] q.1 (some (.int (Int32.ofInt q.2.1))) q.2.2 := by
  refine pw_metT (by decide) (Nat.le_of_ble_eq_true rfl) ?_
  intro p e s m args below meth c ls hC hout hR hl
  have hl : lv_has ls 4 [(0, .ref (ad v0)), (1, .int (Int32.ofInt v1)), (2, .int (Int32.ofInt v2))] := hl
  unfold FX7_depend at hF
  obtain ⟨u0, e0, hF⟩ := bnd hF
  refine lv_aload_n hC.1 hC.2.1 dX7_depend_0 rfl (lv_at hl 0 rfl) ?_
  refine lv_iload_n hC.1 hC.2.1 dX7_depend_1 rfl (lv_at hl 1 rfl) ?_
  obtain ⟨x1, e1, hF⟩ := bnd hF
  obtain ⟨fs1, ho1⟩ := OX7_requireTask e1
  refine pw_cVT (rest := []) hC hR lvX7_96 ho1 (CX7_requireTask hst e1) ⟨rfl, rfl⟩ rfl hl.1 rfl ⟨Nat.le_of_ble_eq_true rfl, Nat.le_of_ble_eq_true rfl⟩ (Nat.le_of_ble_eq_true rfl) dX7_depend_2 ⟨Nat.le_of_ble_eq_true rfl, Nat.le_of_ble_eq_true rfl⟩ (fun hk H locs hR => ?_) (fun hk H locs q ce hR h1 h2 h3 => ?_)
  · rw [if_pos hk] at hF
    refine lv_iload_n hC.1 hC.2.1 dX7_depend_5 rfl (lv_at hl 2 rfl) ?_
    refine pw_ifge hC 19 dX7_depend_6 (by decide) (fun hc => ?_) (fun hc => ?_)
    · rw [if_neg hc] at hF
      refine lv_aload_n hC.1 hC.2.1 dX7_depend_19 rfl (lv_at hl 0 rfl) ?_
      obtain ⟨x2, e2, hF⟩ := bnd hF
      refine pw_gfr hC hR e2 flX7_19 dX7_depend_20 ?_
      obtain ⟨x3, e3, hF⟩ := bnd hF
      refine pw_gfr hC hR e3 flX7_74 dX7_depend_23 ?_
      refine lv_astore_n (lv' := [(3, .ref (ad x3)), (0, .ref (ad v0)), (1, .int (Int32.ofInt v1)), (2, .int (Int32.ofInt v2))]) hC.1 hC.2.1 dX7_depend_26 rfl hl (by decide) rfl (fun ls hl => ?_)
      refine lv_iload_n hC.1 hC.2.1 dX7_depend_27 rfl (lv_at hl 3 rfl) ?_
      refine lv_iload_n hC.1 hC.2.1 dX7_depend_28 rfl (lv_at hl 2 rfl) ?_
      refine pw_icmpge hC 45 dX7_depend_29 (by decide) (fun hc => ?_) (fun hc => ?_)
      · rw [if_neg hc] at hF
        exact BX7_depend_45 hst hout hC hR (lv_sub hl [] rfl) hF
      · rw [if_pos hc] at hF
        refine lv_aload_n hC.1 hC.2.1 dX7_depend_32 rfl (lv_at hl 0 rfl) ?_
        obtain ⟨x4, e4, hF⟩ := bnd hF
        refine pw_gfr hC hR e4 flX7_201 dX7_depend_33 ?_
        refine lv_iload_n hC.1 hC.2.1 dX7_depend_36 rfl (lv_at hl 2 rfl) ?_
        obtain ⟨x5, e5, hF⟩ := bnd hF
        refine pw_iald hC hR e5 dX7_depend_37 ?_
        refine lv_iload_n hC.1 hC.2.1 dX7_depend_38 rfl (lv_at hl 3 rfl) ?_
        obtain ⟨x6, e6, hF⟩ := bnd hF
        refine pw_cSi (rest := []) hC hR lsX7_204 (CX7_hasBit e6) ⟨rfl, rfl⟩ rfl hl.1 rfl ⟨Nat.le_of_ble_eq_true rfl, Nat.le_of_ble_eq_true rfl⟩ (Nat.le_of_ble_eq_true rfl) dX7_depend_39 ⟨Nat.le_of_ble_eq_true rfl, Nat.le_of_ble_eq_true rfl⟩ (fun H locs hR => ?_)
        refine pw_ifeq hC 55 dX7_depend_42 (by decide) (fun hc => ?_) (fun hc => ?_)
        · rw [if_pos hc] at hF
          refine lv_aload_n hC.1 hC.2.1 dX7_depend_55 rfl (lv_at hl 0 rfl) ?_
          obtain ⟨x7, e7, hF⟩ := bnd hF
          refine pw_gfr hC hR e7 flX7_99 dX7_depend_56 ?_
          refine lv_iload_n hC.1 hC.2.1 dX7_depend_59 rfl (lv_at hl 2 rfl) ?_
          obtain ⟨x8, e8, hF⟩ := bnd hF
          refine pw_iald hC hR e8 dX7_depend_60 ?_
          refine pw_ifeq hC 74 dX7_depend_61 (by decide) (fun hc => ?_) (fun hc => ?_)
          · rw [if_pos hc] at hF
            refine lv_aload_n hC.1 hC.2.1 dX7_depend_74 rfl (lv_at hl 1 rfl) ?_
            obtain ⟨x9, e9, hF⟩ := bnd hF
            refine pw_gfr hC hR e9 flX7_29 dX7_depend_75 ?_
            refine lv_aload_n hC.1 hC.2.1 dX7_depend_78 rfl (lv_at hl 1 rfl) ?_
            obtain ⟨x10, e10, hF⟩ := bnd hF
            refine pw_gfr hC hR e10 flX7_19 dX7_depend_79 ?_
            obtain ⟨h11, e11, hF⟩ := bnd hF
            obtain ⟨fs11, ho11⟩ := OX2_remember e11
            refine pw_cVv (rest := []) hC hR lvX7_67 ho11 (CX2_remember e11) ⟨rfl, rfl⟩ rfl hl.1 rfl ⟨Nat.le_of_ble_eq_true rfl, Nat.le_of_ble_eq_true rfl⟩ (Nat.le_of_ble_eq_true rfl) dX7_depend_82 ⟨Nat.le_of_ble_eq_true rfl, Nat.le_of_ble_eq_true rfl⟩ (fun H locs hR => ?_)
            refine lv_aload_n hC.1 hC.2.1 dX7_depend_85 rfl (lv_at hl 0 rfl) ?_
            obtain ⟨x12, e12, hF⟩ := bnd hF
            refine pw_gfr hC hR e12 flX7_201 dX7_depend_86 ?_
            refine lv_iload_n hC.1 hC.2.1 dX7_depend_89 rfl (lv_at hl 2 rfl) ?_
            refine lv_dup2_11 hC.1 hC.2.1 dX7_depend_90 rfl rfl ?_
            obtain ⟨x13, e13, hF⟩ := bnd hF
            refine pw_iald hC hR e13 dX7_depend_91 ?_
            refine pw_iconst hC dX7_depend_92 ?_
            refine lv_iload_n hC.1 hC.2.1 dX7_depend_93 rfl (lv_at hl 3 rfl) ?_
            refine pw_ishl hC dX7_depend_94 ?_
            refine pw_ior hC dX7_depend_95 ?_
            obtain ⟨h14, e14, hF⟩ := bnd hF
            refine pw_iast hC hR e14 dX7_depend_96 (fun H locs hR => ?_)
            refine lv_aload_n hC.1 hC.2.1 dX7_depend_97 rfl (lv_at hl 0 rfl) ?_
            refine lv_iload_n hC.1 hC.2.1 dX7_depend_98 rfl (lv_at hl 2 rfl) ?_
            refine lv_aload_n hC.1 hC.2.1 dX7_depend_99 rfl (lv_at hl 0 rfl) ?_
            obtain ⟨x15, e15, hF⟩ := bnd hF
            obtain ⟨fs15, ho15⟩ := OX6_unfinishedBits e15
            refine pw_cVi (rest := [.int (Int32.ofInt v1), .ref (ad x3)]) hC hR lvX7_103 ho15 (CX6_unfinishedBits e15) ⟨rfl, rfl⟩ rfl hl.1 rfl ⟨Nat.le_of_ble_eq_true rfl, Nat.le_of_ble_eq_true rfl⟩ (Nat.le_of_ble_eq_true rfl) dX7_depend_100 ⟨Nat.le_of_ble_eq_true rfl, Nat.le_of_ble_eq_true rfl⟩ (fun H locs hR => ?_)
            obtain ⟨x16, e16, hF⟩ := bnd hF
            obtain ⟨fs16, ho16⟩ := OX6_counterOf e16
            refine pw_cVi (rest := []) hC hR lvX7_107 ho16 (CX6_counterOf e16) ⟨rfl, rfl⟩ rfl hl.1 rfl ⟨Nat.le_of_ble_eq_true rfl, Nat.le_of_ble_eq_true rfl⟩ (Nat.le_of_ble_eq_true rfl) dX7_depend_103 ⟨Nat.le_of_ble_eq_true rfl, Nat.le_of_ble_eq_true rfl⟩ (fun H locs hR => ?_)
            cases hF
            exact pw_iretT hC hR (Nat.le_of_ble_eq_true rfl) (Nat.le_of_ble_eq_true rfl) dX7_depend_106
          · rw [if_neg hc] at hF
            cases hF
            exact pw_thS (i := 18) (tx := "the task is not WAITING") hC hR hst hout (by decide +kernel) hl.1 dX7_depend_64 dX7_depend_67 dX7_depend_68 dX7_depend_70 dX7_depend_73 (Nat.le_of_ble_eq_true rfl) (Nat.le_of_ble_eq_true rfl) (Nat.le_of_ble_eq_true rfl) (Nat.le_of_ble_eq_true rfl) (Nat.le_of_ble_eq_true rfl) (Nat.le_of_ble_eq_true rfl)
        · rw [if_neg hc] at hF
          exact BX7_depend_45 hst hout hC hR (lv_sub hl [] rfl) hF
    · rw [if_pos hc] at hF
      cases hF
      exact pw_thB (i := 16) (tx := "no such task to depend on") hC hR hst hout (by decide +kernel) hl.1 dX7_depend_9 dX7_depend_12 dX7_depend_13 dX7_depend_15 dX7_depend_18 (Nat.le_of_ble_eq_true rfl) (Nat.le_of_ble_eq_true rfl) (Nat.le_of_ble_eq_true rfl) (Nat.le_of_ble_eq_true rfl) (Nat.le_of_ble_eq_true rfl) (Nat.le_of_ble_eq_true rfl)
  · rw [if_neg hk] at hF
    cases hF
    exact pw_thru hC hR hk hout h1 h2 h3 (Nat.le_of_ble_eq_true rfl) (Nat.le_of_ble_eq_true rfl)
abbrev rmX7_cancel : Room := { frames := 9, cells := 2, slots := 12, locals := 171 }
def JX7_cancel_42 (h : PH) (v0 : Nat) (v1 : Int) (v2 : Int) : Option (Nat × Int × PH) :=
  (gfr h 7 v0 3).bind fun x6 =>
  (gfr h 7 v0 1).bind fun x7 =>
  (FX2_remember h x6 x7).bind fun h8 =>
  (gfr h8 7 v0 1).bind fun x9 =>
  (gfr h8 3 x9 1).bind fun x10 =>
  (FX0_removeFromQueues h8 x10 v1).bind fun h11 =>
  (gfr h11 7 v0 1).bind fun x12 =>
  (gfr h11 3 x12 0).bind fun x13 =>
  (gfr h11 6 x13 2).bind fun x14 =>
  (ast 0 h11 x14 v1 5).bind fun h15 =>
  some (0, v2, h15)
set_option maxHeartbeats 4000000 in
set_option maxRecDepth 100000 in
theorem BX7_cancel_42 (hst : l.stackTraces = false) (hout : ∀ x ∈ c.exceptionTable.toList, False) {h : PH} {v0 : Nat} {v1 : Int} {v2 : Int} (hC : Cx g p s m args meth c cX7_cancel 3 RX7 (some .int)) (hR : Rl g ad h s.heap H locs) (hl : lv_has ls 3 [(0, .ref (ad v0)), (1, .int (Int32.ofInt v1)), (2, .int (Int32.ofInt v2))]) {q : Nat × Int × PH} (hF : JX7_cancel_42 h v0 v1 v2 = some q) : W p l e rmX7_cancel s m args below meth c H locs 1 6 (vx_MQ below (QcT g ad q.1 q.2.2 (some (.int (Int32.ofInt q.2.1)))) (XcT g ad q.1 q.2.2) args s 2 12 (gA g)) (F0 m 42 ls []) := by
  unfold JX7_cancel_42 at hF
  refine lv_aload_n hC.1 hC.2.1 dX7_cancel_42 rfl (lv_at hl 0 rfl) ?_
  obtain ⟨x6, e6, hF⟩ := bnd hF
  refine pw_gfr hC hR e6 flX7_29 dX7_cancel_43 ?_
  refine lv_aload_n hC.1 hC.2.1 dX7_cancel_46 rfl (lv_at hl 0 rfl) ?_
  obtain ⟨x7, e7, hF⟩ := bnd hF
  refine pw_gfr hC hR e7 flX7_19 dX7_cancel_47 ?_
  obtain ⟨h8, e8, hF⟩ := bnd hF
  obtain ⟨fs8, ho8⟩ := OX2_remember e8
  refine pw_cVv (rest := []) hC hR lvX7_67 ho8 (CX2_remember e8) ⟨rfl, rfl⟩ rfl hl.1 rfl ⟨Nat.le_of_ble_eq_true rfl, Nat.le_of_ble_eq_true rfl⟩ (Nat.le_of_ble_eq_true rfl) dX7_cancel_50 ⟨Nat.le_of_ble_eq_true rfl, Nat.le_of_ble_eq_true rfl⟩ (fun H locs hR => ?_)
  refine lv_aload_n hC.1 hC.2.1 dX7_cancel_53 rfl (lv_at hl 0 rfl) ?_
  obtain ⟨x9, e9, hF⟩ := bnd hF
  refine pw_gfr hC hR e9 flX7_19 dX7_cancel_54 ?_
  obtain ⟨x10, e10, hF⟩ := bnd hF
  refine pw_gfr hC hR e10 flX7_83 dX7_cancel_57 ?_
  refine lv_iload_n hC.1 hC.2.1 dX7_cancel_60 rfl (lv_at hl 1 rfl) ?_
  obtain ⟨h11, e11, hF⟩ := bnd hF
  obtain ⟨fs11, ho11⟩ := OX0_removeFromQueues e11
  refine pw_cVv (rest := []) hC hR lvX7_213 ho11 (CX0_removeFromQueues e11) ⟨rfl, rfl⟩ rfl hl.1 rfl ⟨Nat.le_of_ble_eq_true rfl, Nat.le_of_ble_eq_true rfl⟩ (Nat.le_of_ble_eq_true rfl) dX7_cancel_61 ⟨Nat.le_of_ble_eq_true rfl, Nat.le_of_ble_eq_true rfl⟩ (fun H locs hR => ?_)
  refine lv_aload_n hC.1 hC.2.1 dX7_cancel_64 rfl (lv_at hl 0 rfl) ?_
  obtain ⟨x12, e12, hF⟩ := bnd hF
  refine pw_gfr hC hR e12 flX7_19 dX7_cancel_65 ?_
  obtain ⟨x13, e13, hF⟩ := bnd hF
  refine pw_gfr hC hR e13 flX7_74 dX7_cancel_68 ?_
  obtain ⟨x14, e14, hF⟩ := bnd hF
  refine pw_gfr hC hR e14 flX7_99 dX7_cancel_71 ?_
  refine lv_iload_n hC.1 hC.2.1 dX7_cancel_74 rfl (lv_at hl 1 rfl) ?_
  refine pw_iconst hC dX7_cancel_75 ?_
  obtain ⟨h15, e15, hF⟩ := bnd hF
  refine pw_iast hC hR e15 dX7_cancel_76 (fun H locs hR => ?_)
  refine lv_iload_n hC.1 hC.2.1 dX7_cancel_77 rfl (lv_at hl 2 rfl) ?_
  cases hF
  exact pw_iretT hC hR (Nat.le_of_ble_eq_true rfl) (Nat.le_of_ble_eq_true rfl) dX7_cancel_78
def FX7_cancel (h : PH) (v0 : Nat) (v1 : Int) : Option (Nat × Int × PH) :=
  (isO h 7 v0).bind fun _ =>
  (FX7_requireTask h v0 v1).bind fun x1 =>
  if x1 = 0 then (
    (gfr h 7 v0 1).bind fun x2 =>
    (gfr h 3 x2 0).bind fun x3 =>
    (gfr h 6 x3 2).bind fun x4 =>
    (ald 0 h x4 v1).bind fun x5 =>
    if w32 x5 = 0 then (
      JX7_cancel_42 h v0 v1 x5
    ) else (
      if w32 x5 = w32 1 then (
        JX7_cancel_42 h v0 v1 x5
      ) else (
        if w32 x5 = w32 2 then (
          JX7_cancel_42 h v0 v1 x5
        ) else (
          some (3, 0, h)
        )
      )
    )
  ) else (some (x1, 0, h))
theorem OX7_cancel {h : PH} {v0 : Nat} {v1 : Int} {q : Nat × Int × PH} (hF : FX7_cancel h v0 v1 = some q) : ∃ fs : List PV, h[v0]? = some (.inr (7, fs)) := by
  unfold FX7_cancel at hF
  obtain ⟨u0, e0, -⟩ := bnd hF
  exact isO_spec e0
set_option maxHeartbeats 4000000 in
set_option maxRecDepth 100000 in
theorem CX7_cancel {g : GP} {l : Launch} (hst : l.stackTraces = false) {ad : Nat → Nat} {h : PH} {v0 : Nat} {v1 : Int} {q : Nat × Int × PH} (hF : FX7_cancel h v0 v1 = some q) : CT g l yX7_cancel cX7_cancel 3 (some .int) rmX7_cancel ad h [.ref (ad v0), .int (Int32.ofInt v1)] q.1 (some (.int (Int32.ofInt q.2.1))) q.2.2 := by
  refine pw_metT (by decide) (Nat.le_of_ble_eq_true rfl) ?_
  intro p e s m args below meth c ls hC hout hR hl
  have hl : lv_has ls 3 [(0, .ref (ad v0)), (1, .int (Int32.ofInt v1))] := hl
  unfold FX7_cancel at hF
  obtain ⟨u0, e0, hF⟩ := bnd hF
  refine lv_aload_n hC.1 hC.2.1 dX7_cancel_0 rfl (lv_at hl 0 rfl) ?_
  refine lv_iload_n hC.1 hC.2.1 dX7_cancel_1 rfl (lv_at hl 1 rfl) ?_
  obtain ⟨x1, e1, hF⟩ := bnd hF
  obtain ⟨fs1, ho1⟩ := OX7_requireTask e1
  refine pw_cVT (rest := []) hC hR lvX7_96 ho1 (CX7_requireTask hst e1) ⟨rfl, rfl⟩ rfl hl.1 rfl ⟨Nat.le_of_ble_eq_true rfl, Nat.le_of_ble_eq_true rfl⟩ (Nat.le_of_ble_eq_true rfl) dX7_cancel_2 ⟨Nat.le_of_ble_eq_true rfl, Nat.le_of_ble_eq_true rfl⟩ (fun hk H locs hR => ?_) (fun hk H locs q ce hR h1 h2 h3 => ?_)
  · rw [if_pos hk] at hF
    refine lv_aload_n hC.1 hC.2.1 dX7_cancel_5 rfl (lv_at hl 0 rfl) ?_
    obtain ⟨x2, e2, hF⟩ := bnd hF
    refine pw_gfr hC hR e2 flX7_19 dX7_cancel_6 ?_
    obtain ⟨x3, e3, hF⟩ := bnd hF
    refine pw_gfr hC hR e3 flX7_74 dX7_cancel_9 ?_
    obtain ⟨x4, e4, hF⟩ := bnd hF
    refine pw_gfr hC hR e4 flX7_99 dX7_cancel_12 ?_
    refine lv_iload_n hC.1 hC.2.1 dX7_cancel_15 rfl (lv_at hl 1 rfl) ?_
    obtain ⟨x5, e5, hF⟩ := bnd hF
    refine pw_iald hC hR e5 dX7_cancel_16 ?_
    refine lv_istore_n (lv' := [(2, .int (Int32.ofInt x5)), (0, .ref (ad v0)), (1, .int (Int32.ofInt v1))]) hC.1 hC.2.1 dX7_cancel_17 rfl hl (by decide) rfl (fun ls hl => ?_)
    refine lv_iload_n hC.1 hC.2.1 dX7_cancel_18 rfl (lv_at hl 0 rfl) ?_
    refine pw_ifeq hC 42 dX7_cancel_19 (by decide) (fun hc => ?_) (fun hc => ?_)
    · rw [if_pos hc] at hF
      exact BX7_cancel_42 hst hout hC hR (lv_sub hl [1, 2, 0] rfl) hF
    · rw [if_neg hc] at hF
      refine lv_iload_n hC.1 hC.2.1 dX7_cancel_22 rfl (lv_at hl 0 rfl) ?_
      refine pw_iconst hC dX7_cancel_23 ?_
      refine pw_icmpeq hC 42 dX7_cancel_24 (by decide) (fun hc => ?_) (fun hc => ?_)
      · rw [if_pos hc] at hF
        exact BX7_cancel_42 hst hout hC hR (lv_sub hl [1, 2, 0] rfl) hF
      · rw [if_neg hc] at hF
        refine lv_iload_n hC.1 hC.2.1 dX7_cancel_27 rfl (lv_at hl 0 rfl) ?_
        refine pw_iconst hC dX7_cancel_28 ?_
        refine pw_icmpeq hC 42 dX7_cancel_29 (by decide) (fun hc => ?_) (fun hc => ?_)
        · rw [if_pos hc] at hF
          exact BX7_cancel_42 hst hout hC hR (lv_sub hl [1, 2, 0] rfl) hF
        · rw [if_neg hc] at hF
          cases hF
          exact pw_thS (i := 19) (tx := "the task is RUNNING, DONE or CANCELLED") hC hR hst hout (by decide +kernel) hl.1 dX7_cancel_32 dX7_cancel_35 dX7_cancel_36 dX7_cancel_38 dX7_cancel_41 (Nat.le_of_ble_eq_true rfl) (Nat.le_of_ble_eq_true rfl) (Nat.le_of_ble_eq_true rfl) (Nat.le_of_ble_eq_true rfl) (Nat.le_of_ble_eq_true rfl) (Nat.le_of_ble_eq_true rfl)
  · rw [if_neg hk] at hF
    cases hF
    exact pw_thru hC hR hk hout h1 h2 h3 (Nat.le_of_ble_eq_true rfl) (Nat.le_of_ble_eq_true rfl)
abbrev rmX7_setPriority : Room := { frames := 9, cells := 3, slots := 18, locals := 171 }
def FX7_setPriority (h : PH) (v0 : Nat) (v1 : Int) (v2 : Int) : Option (Nat × Int × PH) :=
  (isO h 7 v0).bind fun _ =>
  (FX7_requireTask h v0 v1).bind fun x1 =>
  if x1 = 0 then (
    (FX7_requirePriority h v2).bind fun x2 =>
    if x2 = 0 then (
      (gfr h 7 v0 3).bind fun x3 =>
      (gfr h 7 v0 1).bind fun x4 =>
      (FX2_remember h x3 x4).bind fun h5 =>
      (gfr h5 7 v0 1).bind fun x6 =>
      (gfr h5 3 x6 0).bind fun x7 =>
      (gfr h5 6 x7 4).bind fun x8 =>
      (ald 0 h5 x8 v1).bind fun x9 =>
      (gfr h5 7 v0 1).bind fun x10 =>
      (gfr h5 3 x10 0).bind fun x11 =>
      (gfr h5 6 x11 4).bind fun x12 =>
      (ast 0 h5 x12 v1 v2).bind fun h13 =>
      some (0, x9, h13)
    ) else (some (x2, 0, h))
  ) else (some (x1, 0, h))
theorem OX7_setPriority {h : PH} {v0 : Nat} {v1 : Int} {v2 : Int} {q : Nat × Int × PH} (hF : FX7_setPriority h v0 v1 v2 = some q) : ∃ fs : List PV, h[v0]? = some (.inr (7, fs)) := by
  unfold FX7_setPriority at hF
  obtain ⟨u0, e0, -⟩ := bnd hF
  exact isO_spec e0
set_option maxHeartbeats 4000000 in
set_option maxRecDepth 100000 in
theorem CX7_setPriority {g : GP} {l : Launch} (hst : l.stackTraces = false) {ad : Nat → Nat} {h : PH} {v0 : Nat} {v1 : Int} {v2 : Int} {q : Nat × Int × PH} (hF : FX7_setPriority h v0 v1 v2 = some q) : CT g l yX7_setPriority cX7_setPriority 4 (some .int) rmX7_setPriority ad h [.ref (ad v0), .int (Int32.ofInt v1), .int (Int32.ofInt v2)] q.1 (some (.int (Int32.ofInt q.2.1))) q.2.2 := by
  refine pw_metT (by decide) (Nat.le_of_ble_eq_true rfl) ?_
  intro p e s m args below meth c ls hC hout hR hl
  have hl : lv_has ls 4 [(0, .ref (ad v0)), (1, .int (Int32.ofInt v1)), (2, .int (Int32.ofInt v2))] := hl
  unfold FX7_setPriority at hF
  obtain ⟨u0, e0, hF⟩ := bnd hF
  refine lv_aload_n hC.1 hC.2.1 dX7_setPriority_0 rfl (lv_at hl 0 rfl) ?_
  refine lv_iload_n hC.1 hC.2.1 dX7_setPriority_1 rfl (lv_at hl 1 rfl) ?_
  obtain ⟨x1, e1, hF⟩ := bnd hF
  obtain ⟨fs1, ho1⟩ := OX7_requireTask e1
  refine pw_cVT (rest := []) hC hR lvX7_96 ho1 (CX7_requireTask hst e1) ⟨rfl, rfl⟩ rfl hl.1 rfl ⟨Nat.le_of_ble_eq_true rfl, Nat.le_of_ble_eq_true rfl⟩ (Nat.le_of_ble_eq_true rfl) dX7_setPriority_2 ⟨Nat.le_of_ble_eq_true rfl, Nat.le_of_ble_eq_true rfl⟩ (fun hk H locs hR => ?_) (fun hk H locs q ce hR h1 h2 h3 => ?_)
  · rw [if_pos hk] at hF
    refine lv_iload_n hC.1 hC.2.1 dX7_setPriority_5 rfl (lv_at hl 2 rfl) ?_
    obtain ⟨x2, e2, hF⟩ := bnd hF
    refine pw_cST (rest := []) hC hR lsX7_190 (CX7_requirePriority hst e2) ⟨rfl, rfl⟩ rfl hl.1 rfl ⟨Nat.le_of_ble_eq_true rfl, Nat.le_of_ble_eq_true rfl⟩ (Nat.le_of_ble_eq_true rfl) dX7_setPriority_6 ⟨Nat.le_of_ble_eq_true rfl, Nat.le_of_ble_eq_true rfl⟩ (fun hk H locs hR => ?_) (fun hk H locs q ce hR h1 h2 h3 => ?_)
    · rw [if_pos hk] at hF
      refine lv_aload_n hC.1 hC.2.1 dX7_setPriority_9 rfl (lv_at hl 0 rfl) ?_
      obtain ⟨x3, e3, hF⟩ := bnd hF
      refine pw_gfr hC hR e3 flX7_29 dX7_setPriority_10 ?_
      refine lv_aload_n hC.1 hC.2.1 dX7_setPriority_13 rfl (lv_at hl 0 rfl) ?_
      obtain ⟨x4, e4, hF⟩ := bnd hF
      refine pw_gfr hC hR e4 flX7_19 dX7_setPriority_14 ?_
      obtain ⟨h5, e5, hF⟩ := bnd hF
      obtain ⟨fs5, ho5⟩ := OX2_remember e5
      refine pw_cVv (rest := []) hC hR lvX7_67 ho5 (CX2_remember e5) ⟨rfl, rfl⟩ rfl hl.1 rfl ⟨Nat.le_of_ble_eq_true rfl, Nat.le_of_ble_eq_true rfl⟩ (Nat.le_of_ble_eq_true rfl) dX7_setPriority_17 ⟨Nat.le_of_ble_eq_true rfl, Nat.le_of_ble_eq_true rfl⟩ (fun H locs hR => ?_)
      refine lv_aload_n hC.1 hC.2.1 dX7_setPriority_20 rfl (lv_at hl 0 rfl) ?_
      obtain ⟨x6, e6, hF⟩ := bnd hF
      refine pw_gfr hC hR e6 flX7_19 dX7_setPriority_21 ?_
      obtain ⟨x7, e7, hF⟩ := bnd hF
      refine pw_gfr hC hR e7 flX7_74 dX7_setPriority_24 ?_
      obtain ⟨x8, e8, hF⟩ := bnd hF
      refine pw_gfr hC hR e8 flX7_111 dX7_setPriority_27 ?_
      refine lv_iload_n hC.1 hC.2.1 dX7_setPriority_30 rfl (lv_at hl 1 rfl) ?_
      obtain ⟨x9, e9, hF⟩ := bnd hF
      refine pw_iald hC hR e9 dX7_setPriority_31 ?_
      refine lv_istore_n (lv' := [(3, .int (Int32.ofInt x9)), (0, .ref (ad v0)), (1, .int (Int32.ofInt v1)), (2, .int (Int32.ofInt v2))]) hC.1 hC.2.1 dX7_setPriority_32 rfl hl (by decide) rfl (fun ls hl => ?_)
      refine lv_aload_n hC.1 hC.2.1 dX7_setPriority_33 rfl (lv_at hl 1 rfl) ?_
      obtain ⟨x10, e10, hF⟩ := bnd hF
      refine pw_gfr hC hR e10 flX7_19 dX7_setPriority_34 ?_
      obtain ⟨x11, e11, hF⟩ := bnd hF
      refine pw_gfr hC hR e11 flX7_74 dX7_setPriority_37 ?_
      obtain ⟨x12, e12, hF⟩ := bnd hF
      refine pw_gfr hC hR e12 flX7_111 dX7_setPriority_40 ?_
      refine lv_iload_n hC.1 hC.2.1 dX7_setPriority_43 rfl (lv_at hl 2 rfl) ?_
      refine lv_iload_n hC.1 hC.2.1 dX7_setPriority_44 rfl (lv_at hl 3 rfl) ?_
      obtain ⟨h13, e13, hF⟩ := bnd hF
      refine pw_iast hC hR e13 dX7_setPriority_45 (fun H locs hR => ?_)
      refine lv_iload_n hC.1 hC.2.1 dX7_setPriority_46 rfl (lv_at hl 0 rfl) ?_
      cases hF
      exact pw_iretT hC hR (Nat.le_of_ble_eq_true rfl) (Nat.le_of_ble_eq_true rfl) dX7_setPriority_47
    · rw [if_neg hk] at hF
      cases hF
      exact pw_thru hC hR hk hout h1 h2 h3 (Nat.le_of_ble_eq_true rfl) (Nat.le_of_ble_eq_true rfl)
  · rw [if_neg hk] at hF
    cases hF
    exact pw_thru hC hR hk hout h1 h2 h3 (Nat.le_of_ble_eq_true rfl) (Nat.le_of_ble_eq_true rfl)
abbrev rmX7_pause : Room := { frames := 9, cells := 2, slots := 12, locals := 171 }
def FX7_pause (h : PH) (v0 : Nat) (v1 : Int) (v2 : Int) : Option (Nat × Int × PH) :=
  (isO h 7 v0).bind fun _ =>
  (FX7_requireCore h v0 v1).bind fun x1 =>
  if x1 = 0 then (
    (gfr h 7 v0 3).bind fun x2 =>
    (gfr h 7 v0 1).bind fun x3 =>
    (FX2_remember h x2 x3).bind fun h4 =>
    (gfr h4 7 v0 1).bind fun x5 =>
    (gfr h4 3 x5 1).bind fun x6 =>
    (gfr h4 0 x6 9).bind fun x7 =>
    (ald 2 h4 x7 v1).bind fun x8 =>
    (gfr h4 7 v0 1).bind fun x9 =>
    (gfr h4 3 x9 1).bind fun x10 =>
    (gfr h4 0 x10 9).bind fun x11 =>
    (ast 2 h4 x11 v1 v2).bind fun h12 =>
    if x8 = 0 ∨ x8 = 1 then some (0, x8, h12) else none
  ) else (some (x1, 0, h))
theorem OX7_pause {h : PH} {v0 : Nat} {v1 : Int} {v2 : Int} {q : Nat × Int × PH} (hF : FX7_pause h v0 v1 v2 = some q) : ∃ fs : List PV, h[v0]? = some (.inr (7, fs)) := by
  unfold FX7_pause at hF
  obtain ⟨u0, e0, -⟩ := bnd hF
  exact isO_spec e0
set_option maxHeartbeats 4000000 in
set_option maxRecDepth 100000 in
theorem CX7_pause {g : GP} {l : Launch} (hst : l.stackTraces = false) {ad : Nat → Nat} {h : PH} {v0 : Nat} {v1 : Int} {v2 : Int} {q : Nat × Int × PH} (hF : FX7_pause h v0 v1 v2 = some q) : CT g l yX7_pause cX7_pause 4 (some .boolean) rmX7_pause ad h [.ref (ad v0), .int (Int32.ofInt v1), .int (Int32.ofInt v2)] q.1 (some (.int (Int32.ofInt q.2.1))) q.2.2 := by
  refine pw_metT (by decide) (Nat.le_of_ble_eq_true rfl) ?_
  intro p e s m args below meth c ls hC hout hR hl
  have hl : lv_has ls 4 [(0, .ref (ad v0)), (1, .int (Int32.ofInt v1)), (2, .int (Int32.ofInt v2))] := hl
  unfold FX7_pause at hF
  obtain ⟨u0, e0, hF⟩ := bnd hF
  refine lv_aload_n hC.1 hC.2.1 dX7_pause_0 rfl (lv_at hl 0 rfl) ?_
  refine lv_iload_n hC.1 hC.2.1 dX7_pause_1 rfl (lv_at hl 1 rfl) ?_
  obtain ⟨x1, e1, hF⟩ := bnd hF
  obtain ⟨fs1, ho1⟩ := OX7_requireCore e1
  refine pw_cVT (rest := []) hC hR lvX7_129 ho1 (CX7_requireCore hst e1) ⟨rfl, rfl⟩ rfl hl.1 rfl ⟨Nat.le_of_ble_eq_true rfl, Nat.le_of_ble_eq_true rfl⟩ (Nat.le_of_ble_eq_true rfl) dX7_pause_2 ⟨Nat.le_of_ble_eq_true rfl, Nat.le_of_ble_eq_true rfl⟩ (fun hk H locs hR => ?_) (fun hk H locs q ce hR h1 h2 h3 => ?_)
  · rw [if_pos hk] at hF
    refine lv_aload_n hC.1 hC.2.1 dX7_pause_5 rfl (lv_at hl 0 rfl) ?_
    obtain ⟨x2, e2, hF⟩ := bnd hF
    refine pw_gfr hC hR e2 flX7_29 dX7_pause_6 ?_
    refine lv_aload_n hC.1 hC.2.1 dX7_pause_9 rfl (lv_at hl 0 rfl) ?_
    obtain ⟨x3, e3, hF⟩ := bnd hF
    refine pw_gfr hC hR e3 flX7_19 dX7_pause_10 ?_
    obtain ⟨h4, e4, hF⟩ := bnd hF
    obtain ⟨fs4, ho4⟩ := OX2_remember e4
    refine pw_cVv (rest := []) hC hR lvX7_67 ho4 (CX2_remember e4) ⟨rfl, rfl⟩ rfl hl.1 rfl ⟨Nat.le_of_ble_eq_true rfl, Nat.le_of_ble_eq_true rfl⟩ (Nat.le_of_ble_eq_true rfl) dX7_pause_13 ⟨Nat.le_of_ble_eq_true rfl, Nat.le_of_ble_eq_true rfl⟩ (fun H locs hR => ?_)
    refine lv_aload_n hC.1 hC.2.1 dX7_pause_16 rfl (lv_at hl 0 rfl) ?_
    obtain ⟨x5, e5, hF⟩ := bnd hF
    refine pw_gfr hC hR e5 flX7_19 dX7_pause_17 ?_
    obtain ⟨x6, e6, hF⟩ := bnd hF
    refine pw_gfr hC hR e6 flX7_83 dX7_pause_20 ?_
    obtain ⟨x7, e7, hF⟩ := bnd hF
    refine pw_gfr hC hR e7 flX7_152 dX7_pause_23 ?_
    refine lv_iload_n hC.1 hC.2.1 dX7_pause_26 rfl (lv_at hl 1 rfl) ?_
    obtain ⟨x8, e8, hF⟩ := bnd hF
    refine pw_zald hC hR e8 dX7_pause_27 ?_
    refine lv_istore_n (lv' := [(3, .int (Int32.ofInt x8)), (0, .ref (ad v0)), (1, .int (Int32.ofInt v1)), (2, .int (Int32.ofInt v2))]) hC.1 hC.2.1 dX7_pause_28 rfl hl (by decide) rfl (fun ls hl => ?_)
    refine lv_aload_n hC.1 hC.2.1 dX7_pause_29 rfl (lv_at hl 1 rfl) ?_
    obtain ⟨x9, e9, hF⟩ := bnd hF
    refine pw_gfr hC hR e9 flX7_19 dX7_pause_30 ?_
    obtain ⟨x10, e10, hF⟩ := bnd hF
    refine pw_gfr hC hR e10 flX7_83 dX7_pause_33 ?_
    obtain ⟨x11, e11, hF⟩ := bnd hF
    refine pw_gfr hC hR e11 flX7_152 dX7_pause_36 ?_
    refine lv_iload_n hC.1 hC.2.1 dX7_pause_39 rfl (lv_at hl 2 rfl) ?_
    refine lv_iload_n hC.1 hC.2.1 dX7_pause_40 rfl (lv_at hl 3 rfl) ?_
    obtain ⟨h12, e12, hF⟩ := bnd hF
    refine pw_zast hC hR e12 dX7_pause_41 (fun H locs hR => ?_)
    refine lv_iload_n hC.1 hC.2.1 dX7_pause_42 rfl (lv_at hl 0 rfl) ?_
    by_cases hb13 : x8 = 0 ∨ x8 = 1
    · rw [if_pos hb13] at hF
      cases hF
      exact pw_zretT hC hR hb13 (Nat.le_of_ble_eq_true rfl) (Nat.le_of_ble_eq_true rfl) dX7_pause_43
    · rw [if_neg hb13] at hF; cases hF
  · rw [if_neg hk] at hF
    cases hF
    exact pw_thru hC hR hk hout h1 h2 h3 (Nat.le_of_ble_eq_true rfl) (Nat.le_of_ble_eq_true rfl)
end
