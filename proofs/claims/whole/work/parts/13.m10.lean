section
variable {p : Program} {l : Launch} {e : Env} {s : State} {m : MethodId} {args : Array Value} {below : List Frame} {meth : Method} {c : Code} {H : Heap} {locs : List Loc} {ls : Array Slot} {g : GP} {ad : Nat → Nat}
abbrev rmX8_setPriority : Room := { frames := 2, cells := 0, slots := 0, locals := 43 }
def JX8_setPriority_36 (h : PH) : Option (Int × PH) :=
  some (0, h)
set_option maxHeartbeats 4000000 in
set_option maxRecDepth 100000 in
theorem BX8_setPriority_36 {h : PH} (hC : Cx g p s m args meth c cX8_setPriority 4 RX8 (some .int)) (hR : Rl g ad h s.heap H locs) (hl : lv_has ls 4 []) {q : Int × PH} (hF : JX8_setPriority_36 h  = some q) : W p l e rmX8_setPriority s m args below meth c H locs 0 0 (MQ below (QcN g ad q.2 (some (.int (Int32.ofInt q.1)))) args s 0 0 (gA g)) (F0 m 36 ls []) := by
  unfold JX8_setPriority_36 at hF
  refine pw_iconst hC dX8_setPriority_36 ?_
  cases hF
  exact pw_iret hC hR dX8_setPriority_37
def JX8_setPriority_29 (h : PH) (v0 : Nat) (v1 : Int) (v2 : Int) (s0 : Int) (s1 : Nat) : Option (Int × PH) :=
  (FX8_fails h s1 s0 2).bind fun q4 =>
  if w32 q4.1 = 0 then (
    (FX8_remember q4.2 v0).bind fun h5 =>
    (gfr h5 8 v0 8).bind fun x6 =>
    (FX8_task h5 v1).bind fun x7 =>
    (ald 0 h5 x6 (x7 + 1)).bind fun x8 =>
    (gfr h5 8 v0 8).bind fun x9 =>
    (FX8_task h5 v1).bind fun x10 =>
    (ast 0 h5 x9 (x10 + 1) v2).bind fun h11 =>
    some (x8, h11)
  ) else (
    JX8_setPriority_36 q4.2
  )
set_option maxHeartbeats 4000000 in
set_option maxRecDepth 100000 in
theorem BX8_setPriority_29 {h : PH} {v0 : Nat} {v1 : Int} {v2 : Int} {s0 : Int} {s1 : Nat} (hC : Cx g p s m args meth c cX8_setPriority 4 RX8 (some .int)) (hR : Rl g ad h s.heap H locs) (hl : lv_has ls 4 [(0, .ref (ad v0)), (1, .int (Int32.ofInt v1)), (2, .int (Int32.ofInt v2))]) {q : Int × PH} (hF : JX8_setPriority_29 h v0 v1 v2 s0 s1 = some q) : W p l e rmX8_setPriority s m args below meth c H locs 0 0 (MQ below (QcN g ad q.2 (some (.int (Int32.ofInt q.1)))) args s 0 0 (gA g)) (F0 m 29 ls [.int (Int32.ofInt s0), .ref (ad s1)]) := by
  unfold JX8_setPriority_29 at hF
  refine pw_iconst hC dX8_setPriority_29 ?_
  obtain ⟨q4, e4, hF⟩ := bnd hF
  obtain ⟨fs4, ho4⟩ := OX8_fails e4
  refine pw_cVi (rest := []) hC hR lvX8_162 ho4 (CX8_fails e4) ⟨rfl, rfl⟩ rfl hl.1 rfl ⟨Nat.le_of_ble_eq_true rfl, Nat.le_of_ble_eq_true rfl⟩ (Nat.le_of_ble_eq_true rfl) dX8_setPriority_30 ⟨Nat.zero_le _, Nat.zero_le _⟩ (fun H locs hR => ?_)
  refine pw_ifeq hC 38 dX8_setPriority_33 (by decide) (fun hc => ?_) (fun hc => ?_)
  · rw [if_pos hc] at hF
    refine lv_aload_n hC.1 hC.2.1 dX8_setPriority_38 rfl (lv_at hl 0 rfl) ?_
    obtain ⟨h5, e5, hF⟩ := bnd hF
    obtain ⟨fs5, ho5⟩ := OX8_remember e5
    refine pw_cVv (rest := []) hC hR lvX8_175 ho5 (CX8_remember e5) ⟨rfl, rfl⟩ rfl hl.1 rfl ⟨Nat.le_of_ble_eq_true rfl, Nat.le_of_ble_eq_true rfl⟩ (Nat.le_of_ble_eq_true rfl) dX8_setPriority_39 ⟨Nat.zero_le _, Nat.zero_le _⟩ (fun H locs hR => ?_)
    refine lv_aload_n hC.1 hC.2.1 dX8_setPriority_42 rfl (lv_at hl 0 rfl) ?_
    obtain ⟨x6, e6, hF⟩ := bnd hF
    refine pw_gfr hC hR e6 flX8_17 dX8_setPriority_43 ?_
    refine lv_iload_n hC.1 hC.2.1 dX8_setPriority_46 rfl (lv_at hl 1 rfl) ?_
    obtain ⟨x7, e7, hF⟩ := bnd hF
    refine pw_cSi (rest := [.ref (ad x6)]) hC hR lsX8_136 (CX8_task e7) ⟨rfl, rfl⟩ rfl hl.1 rfl ⟨Nat.le_of_ble_eq_true rfl, Nat.le_of_ble_eq_true rfl⟩ (Nat.le_of_ble_eq_true rfl) dX8_setPriority_47 ⟨Nat.zero_le _, Nat.zero_le _⟩ (fun H locs hR => ?_)
    refine pw_iconst hC dX8_setPriority_50 ?_
    refine pw_iadd hC dX8_setPriority_51 ?_
    obtain ⟨x8, e8, hF⟩ := bnd hF
    refine pw_iald hC hR e8 dX8_setPriority_52 ?_
    refine lv_istore_n (lv' := [(3, .int (Int32.ofInt x8)), (0, .ref (ad v0)), (1, .int (Int32.ofInt v1)), (2, .int (Int32.ofInt v2))]) hC.1 hC.2.1 dX8_setPriority_53 rfl hl (by decide) rfl (fun ls hl => ?_)
    refine lv_aload_n hC.1 hC.2.1 dX8_setPriority_54 rfl (lv_at hl 1 rfl) ?_
    obtain ⟨x9, e9, hF⟩ := bnd hF
    refine pw_gfr hC hR e9 flX8_17 dX8_setPriority_55 ?_
    refine lv_iload_n hC.1 hC.2.1 dX8_setPriority_58 rfl (lv_at hl 2 rfl) ?_
    obtain ⟨x10, e10, hF⟩ := bnd hF
    refine pw_cSi (rest := [.ref (ad x9)]) hC hR lsX8_136 (CX8_task e10) ⟨rfl, rfl⟩ rfl hl.1 rfl ⟨Nat.le_of_ble_eq_true rfl, Nat.le_of_ble_eq_true rfl⟩ (Nat.le_of_ble_eq_true rfl) dX8_setPriority_59 ⟨Nat.zero_le _, Nat.zero_le _⟩ (fun H locs hR => ?_)
    refine pw_iconst hC dX8_setPriority_62 ?_
    refine pw_iadd hC dX8_setPriority_63 ?_
    refine lv_iload_n hC.1 hC.2.1 dX8_setPriority_64 rfl (lv_at hl 3 rfl) ?_
    obtain ⟨h11, e11, hF⟩ := bnd hF
    refine pw_iast hC hR e11 dX8_setPriority_65 (fun H locs hR => ?_)
    refine lv_iload_n hC.1 hC.2.1 dX8_setPriority_66 rfl (lv_at hl 0 rfl) ?_
    cases hF
    exact pw_iret hC hR dX8_setPriority_67
  · rw [if_neg hc] at hF
    exact BX8_setPriority_36 hC hR (lv_sub hl [] rfl) hF
def FX8_setPriority (h : PH) (v0 : Nat) (v1 : Int) (v2 : Int) : Option (Int × PH) :=
  (isO h 8 v0).bind fun _ =>
  (pfi h 8 v0 0 0).bind fun h1 =>
  (FX8_noTask h1 v0 v1).bind fun q2 =>
  if w32 q2.1 = 0 then (
    (FX8_in q2.2 v2 0 9).bind fun x3 =>
    if w32 x3 = 0 then (
      JX8_setPriority_29 q2.2 v0 v1 v2 1 v0
    ) else (
      JX8_setPriority_29 q2.2 v0 v1 v2 0 v0
    )
  ) else (
    JX8_setPriority_36 q2.2
  )
theorem OX8_setPriority {h : PH} {v0 : Nat} {v1 : Int} {v2 : Int} {q : Int × PH} (hF : FX8_setPriority h v0 v1 v2 = some q) : ∃ fs : List PV, h[v0]? = some (.inr (8, fs)) := by
  unfold FX8_setPriority at hF
  obtain ⟨u0, e0, -⟩ := bnd hF
  exact isO_spec e0
set_option maxHeartbeats 4000000 in
set_option maxRecDepth 100000 in
theorem CX8_setPriority {g : GP} {l : Launch} {ad : Nat → Nat} {h : PH} {v0 : Nat} {v1 : Int} {v2 : Int} {q : Int × PH} (hF : FX8_setPriority h v0 v1 v2 = some q) : CN g l yX8_setPriority cX8_setPriority 4 (some .int) rmX8_setPriority ad h [.ref (ad v0), .int (Int32.ofInt v1), .int (Int32.ofInt v2)] (some (.int (Int32.ofInt q.1))) q.2 := by
  refine pw_met (by decide) (Nat.le_of_ble_eq_true rfl) ?_
  intro p e s m args below meth c ls hC hN hR hl
  have hl : lv_has ls 4 [(0, .ref (ad v0)), (1, .int (Int32.ofInt v1)), (2, .int (Int32.ofInt v2))] := hl
  unfold FX8_setPriority at hF
  obtain ⟨u0, e0, hF⟩ := bnd hF
  refine lv_aload_n hC.1 hC.2.1 dX8_setPriority_0 rfl (lv_at hl 0 rfl) ?_
  refine pw_iconst hC dX8_setPriority_1 ?_
  obtain ⟨h1, e1, hF⟩ := bnd hF
  refine pw_pfi hC hR e1 fpX8_38 (Or.inl rfl) dX8_setPriority_2 (fun H locs hR => ?_)
  refine lv_aload_n hC.1 hC.2.1 dX8_setPriority_5 rfl (lv_at hl 0 rfl) ?_
  refine lv_iload_n hC.1 hC.2.1 dX8_setPriority_6 rfl (lv_at hl 1 rfl) ?_
  obtain ⟨q2, e2, hF⟩ := bnd hF
  obtain ⟨fs2, ho2⟩ := OX8_noTask e2
  refine pw_cVi (rest := []) hC hR lvX8_227 ho2 (CX8_noTask e2) ⟨rfl, rfl⟩ rfl hl.1 rfl ⟨Nat.le_of_ble_eq_true rfl, Nat.le_of_ble_eq_true rfl⟩ (Nat.le_of_ble_eq_true rfl) dX8_setPriority_7 ⟨Nat.zero_le _, Nat.zero_le _⟩ (fun H locs hR => ?_)
  refine pw_ifne hC 36 dX8_setPriority_10 (by decide) (fun hc => ?_) (fun hc => ?_)
  · rw [if_neg hc] at hF
    exact BX8_setPriority_36 hC hR (lv_sub hl [] rfl) hF
  · rw [if_pos hc] at hF
    refine lv_aload_n hC.1 hC.2.1 dX8_setPriority_13 rfl (lv_at hl 0 rfl) ?_
    refine lv_iload_n hC.1 hC.2.1 dX8_setPriority_14 rfl (lv_at hl 2 rfl) ?_
    refine pw_iconst hC dX8_setPriority_15 ?_
    refine pw_bipush hC dX8_setPriority_16 rfl ?_
    obtain ⟨x3, e3, hF⟩ := bnd hF
    refine pw_cSi (rest := [.ref (ad v0)]) hC hR lsX8_63 (CX8_in e3) ⟨rfl, rfl⟩ rfl hl.1 rfl ⟨Nat.le_of_ble_eq_true rfl, Nat.le_of_ble_eq_true rfl⟩ (Nat.le_of_ble_eq_true rfl) dX8_setPriority_18 ⟨Nat.zero_le _, Nat.zero_le _⟩ (fun H locs hR => ?_)
    refine pw_ifne hC 28 dX8_setPriority_21 (by decide) (fun hc => ?_) (fun hc => ?_)
    · rw [if_neg hc] at hF
      refine pw_iconst hC dX8_setPriority_28 ?_
      exact BX8_setPriority_29 hC hR (lv_sub hl [0, 1, 2] rfl) hF
    · rw [if_pos hc] at hF
      refine pw_iconst hC dX8_setPriority_24 ?_
      refine pw_goto hC 29 dX8_setPriority_25 (by decide) ?_
      exact BX8_setPriority_29 hC hR (lv_sub hl [0, 1, 2] rfl) hF
abbrev rmX8_pause : Room := { frames := 2, cells := 0, slots := 0, locals := 43 }
def JX8_pause_59 (h : PH) (v3 : Int) (s0 : Int) (s1 : Int) (s2 : Nat) : Option (Int × PH) :=
  (ast 0 h s2 s1 s0).bind fun h9 =>
  if v3 = 0 ∨ v3 = 1 then some (v3, h9) else none
set_option maxHeartbeats 4000000 in
set_option maxRecDepth 100000 in
theorem BX8_pause_59 {h : PH} {v3 : Int} {s0 : Int} {s1 : Int} {s2 : Nat} (hC : Cx g p s m args meth c cX8_pause 4 RX8 (some .boolean)) (hR : Rl g ad h s.heap H locs) (hl : lv_has ls 4 [(3, .int (Int32.ofInt v3))]) {q : Int × PH} (hF : JX8_pause_59 h v3 s0 s1 s2 = some q) : W p l e rmX8_pause s m args below meth c H locs 0 0 (MQ below (QcN g ad q.2 (some (.int (Int32.ofInt q.1)))) args s 0 0 (gA g)) (F0 m 59 ls [.int (Int32.ofInt s0), .int (Int32.ofInt s1), .ref (ad s2)]) := by
  unfold JX8_pause_59 at hF
  obtain ⟨h9, e9, hF⟩ := bnd hF
  refine pw_iast hC hR e9 dX8_pause_59 (fun H locs hR => ?_)
  refine lv_iload_n hC.1 hC.2.1 dX8_pause_60 rfl (lv_at hl 0 rfl) ?_
  by_cases hb10 : v3 = 0 ∨ v3 = 1
  · rw [if_pos hb10] at hF
    cases hF
    exact pw_zret hC hR hb10 dX8_pause_61
  · rw [if_neg hb10] at hF; cases hF
def JX8_pause_39 (h : PH) (v0 : Nat) (v1 : Int) (v2 : Int) (s0 : Int) : Option (Int × PH) :=
  (gfr h 8 v0 8).bind fun x7 =>
  (FX8_core h v1).bind fun x8 =>
  if w32 v2 = 0 then (
    JX8_pause_59 h s0 0 (x8 + 3) x7
  ) else (
    JX8_pause_59 h s0 1 (x8 + 3) x7
  )
set_option maxHeartbeats 4000000 in
set_option maxRecDepth 100000 in
theorem BX8_pause_39 {h : PH} {v0 : Nat} {v1 : Int} {v2 : Int} {s0 : Int} (hC : Cx g p s m args meth c cX8_pause 4 RX8 (some .boolean)) (hR : Rl g ad h s.heap H locs) (hl : lv_has ls 4 [(0, .ref (ad v0)), (1, .int (Int32.ofInt v1)), (2, .int (Int32.ofInt v2))]) {q : Int × PH} (hF : JX8_pause_39 h v0 v1 v2 s0 = some q) : W p l e rmX8_pause s m args below meth c H locs 0 0 (MQ below (QcN g ad q.2 (some (.int (Int32.ofInt q.1)))) args s 0 0 (gA g)) (F0 m 39 ls [.int (Int32.ofInt s0)]) := by
  unfold JX8_pause_39 at hF
  refine lv_istore_n (lv' := [(3, .int (Int32.ofInt s0)), (0, .ref (ad v0)), (1, .int (Int32.ofInt v1)), (2, .int (Int32.ofInt v2))]) hC.1 hC.2.1 dX8_pause_39 rfl hl (by decide) rfl (fun ls hl => ?_)
  refine lv_aload_n hC.1 hC.2.1 dX8_pause_40 rfl (lv_at hl 1 rfl) ?_
  obtain ⟨x7, e7, hF⟩ := bnd hF
  refine pw_gfr hC hR e7 flX8_17 dX8_pause_41 ?_
  refine lv_iload_n hC.1 hC.2.1 dX8_pause_44 rfl (lv_at hl 2 rfl) ?_
  obtain ⟨x8, e8, hF⟩ := bnd hF
  refine pw_cSi (rest := [.ref (ad x7)]) hC hR lsX8_41 (CX8_core e8) ⟨rfl, rfl⟩ rfl hl.1 rfl ⟨Nat.le_of_ble_eq_true rfl, Nat.le_of_ble_eq_true rfl⟩ (Nat.le_of_ble_eq_true rfl) dX8_pause_45 ⟨Nat.zero_le _, Nat.zero_le _⟩ (fun H locs hR => ?_)
  refine pw_iconst hC dX8_pause_48 ?_
  refine pw_iadd hC dX8_pause_49 ?_
  refine lv_iload_n hC.1 hC.2.1 dX8_pause_50 rfl (lv_at hl 3 rfl) ?_
  refine pw_ifeq hC 58 dX8_pause_51 (by decide) (fun hc => ?_) (fun hc => ?_)
  · rw [if_pos hc] at hF
    refine pw_iconst hC dX8_pause_58 ?_
    exact BX8_pause_59 hC hR (lv_sub hl [0] rfl) hF
  · rw [if_neg hc] at hF
    refine pw_iconst hC dX8_pause_54 ?_
    refine pw_goto hC 59 dX8_pause_55 (by decide) ?_
    exact BX8_pause_59 hC hR (lv_sub hl [0] rfl) hF
def FX8_pause (h : PH) (v0 : Nat) (v1 : Int) (v2 : Int) : Option (Int × PH) :=
  (isO h 8 v0).bind fun _ =>
  (pfi h 8 v0 0 0).bind fun h1 =>
  (FX8_noCore h1 v0 v1).bind fun q2 =>
  if w32 q2.1 = 0 then (
    (FX8_remember q2.2 v0).bind fun h3 =>
    (gfr h3 8 v0 8).bind fun x4 =>
    (FX8_core h3 v1).bind fun x5 =>
    (ald 0 h3 x4 (x5 + 3)).bind fun x6 =>
    if w32 x6 = w32 1 then (
      JX8_pause_39 h3 v0 v1 v2 1
    ) else (
      JX8_pause_39 h3 v0 v1 v2 0
    )
  ) else (
    some (0, q2.2)
  )
theorem OX8_pause {h : PH} {v0 : Nat} {v1 : Int} {v2 : Int} {q : Int × PH} (hF : FX8_pause h v0 v1 v2 = some q) : ∃ fs : List PV, h[v0]? = some (.inr (8, fs)) := by
  unfold FX8_pause at hF
  obtain ⟨u0, e0, -⟩ := bnd hF
  exact isO_spec e0
set_option maxHeartbeats 4000000 in
set_option maxRecDepth 100000 in
theorem CX8_pause {g : GP} {l : Launch} {ad : Nat → Nat} {h : PH} {v0 : Nat} {v1 : Int} {v2 : Int} {q : Int × PH} (hF : FX8_pause h v0 v1 v2 = some q) : CN g l yX8_pause cX8_pause 4 (some .boolean) rmX8_pause ad h [.ref (ad v0), .int (Int32.ofInt v1), .int (Int32.ofInt v2)] (some (.int (Int32.ofInt q.1))) q.2 := by
  refine pw_met (by decide) (Nat.le_of_ble_eq_true rfl) ?_
  intro p e s m args below meth c ls hC hN hR hl
  have hl : lv_has ls 4 [(0, .ref (ad v0)), (1, .int (Int32.ofInt v1)), (2, .int (Int32.ofInt v2))] := hl
  unfold FX8_pause at hF
  obtain ⟨u0, e0, hF⟩ := bnd hF
  refine lv_aload_n hC.1 hC.2.1 dX8_pause_0 rfl (lv_at hl 0 rfl) ?_
  refine pw_iconst hC dX8_pause_1 ?_
  obtain ⟨h1, e1, hF⟩ := bnd hF
  refine pw_pfi hC hR e1 fpX8_38 (Or.inl rfl) dX8_pause_2 (fun H locs hR => ?_)
  refine lv_aload_n hC.1 hC.2.1 dX8_pause_5 rfl (lv_at hl 0 rfl) ?_
  refine lv_iload_n hC.1 hC.2.1 dX8_pause_6 rfl (lv_at hl 1 rfl) ?_
  obtain ⟨q2, e2, hF⟩ := bnd hF
  obtain ⟨fs2, ho2⟩ := OX8_noCore e2
  refine pw_cVi (rest := []) hC hR lvX8_230 ho2 (CX8_noCore e2) ⟨rfl, rfl⟩ rfl hl.1 rfl ⟨Nat.le_of_ble_eq_true rfl, Nat.le_of_ble_eq_true rfl⟩ (Nat.le_of_ble_eq_true rfl) dX8_pause_7 ⟨Nat.zero_le _, Nat.zero_le _⟩ (fun H locs hR => ?_)
  refine pw_ifeq hC 15 dX8_pause_10 (by decide) (fun hc => ?_) (fun hc => ?_)
  · rw [if_pos hc] at hF
    refine lv_aload_n hC.1 hC.2.1 dX8_pause_15 rfl (lv_at hl 0 rfl) ?_
    obtain ⟨h3, e3, hF⟩ := bnd hF
    obtain ⟨fs3, ho3⟩ := OX8_remember e3
    refine pw_cVv (rest := []) hC hR lvX8_175 ho3 (CX8_remember e3) ⟨rfl, rfl⟩ rfl hl.1 rfl ⟨Nat.le_of_ble_eq_true rfl, Nat.le_of_ble_eq_true rfl⟩ (Nat.le_of_ble_eq_true rfl) dX8_pause_16 ⟨Nat.zero_le _, Nat.zero_le _⟩ (fun H locs hR => ?_)
    refine lv_aload_n hC.1 hC.2.1 dX8_pause_19 rfl (lv_at hl 0 rfl) ?_
    obtain ⟨x4, e4, hF⟩ := bnd hF
    refine pw_gfr hC hR e4 flX8_17 dX8_pause_20 ?_
    refine lv_iload_n hC.1 hC.2.1 dX8_pause_23 rfl (lv_at hl 1 rfl) ?_
    obtain ⟨x5, e5, hF⟩ := bnd hF
    refine pw_cSi (rest := [.ref (ad x4)]) hC hR lsX8_41 (CX8_core e5) ⟨rfl, rfl⟩ rfl hl.1 rfl ⟨Nat.le_of_ble_eq_true rfl, Nat.le_of_ble_eq_true rfl⟩ (Nat.le_of_ble_eq_true rfl) dX8_pause_24 ⟨Nat.zero_le _, Nat.zero_le _⟩ (fun H locs hR => ?_)
    refine pw_iconst hC dX8_pause_27 ?_
    refine pw_iadd hC dX8_pause_28 ?_
    obtain ⟨x6, e6, hF⟩ := bnd hF
    refine pw_iald hC hR e6 dX8_pause_29 ?_
    refine pw_iconst hC dX8_pause_30 ?_
    refine pw_icmpne hC 38 dX8_pause_31 (by decide) (fun hc => ?_) (fun hc => ?_)
    · rw [if_neg hc] at hF
      refine pw_iconst hC dX8_pause_38 ?_
      exact BX8_pause_39 hC hR (lv_sub hl [0, 1, 2] rfl) hF
    · rw [if_pos hc] at hF
      refine pw_iconst hC dX8_pause_34 ?_
      refine pw_goto hC 39 dX8_pause_35 (by decide) ?_
      exact BX8_pause_39 hC hR (lv_sub hl [0, 1, 2] rfl) hF
  · rw [if_neg hc] at hF
    refine pw_iconst hC dX8_pause_13 ?_
    cases hF
    exact pw_zret hC hR (Or.inl rfl) dX8_pause_14
abbrev rmX8_undo : Room := { frames := 1, cells := 0, slots := 0, locals := 22 }
def FX8_undo (h : PH) (v0 : Nat) : Option (Int × PH) :=
  (isO h 8 v0).bind fun _ =>
  (pfi h 8 v0 0 0).bind fun h1 =>
  (gfi h1 8 v0 12).bind fun x2 =>
  if w32 x2 = 0 then (
    some ((-1), h1)
  ) else (
    (gfi h1 8 v0 12).bind fun x3 =>
    (pfi h1 8 v0 12 (x3 - 1)).bind fun h4 =>
    (gfr h4 8 v0 11).bind fun x5 =>
    (gfi h4 8 v0 12).bind fun x6 =>
    (rld h4 10 x5 x6).bind fun x7 =>
    (gfr h4 8 v0 8).bind fun x8 =>
    (FX8_copy h4 x7 x8).bind fun h9 =>
    (gfi h9 8 v0 12).bind fun x10 =>
    some (x10, h9)
  )
theorem OX8_undo {h : PH} {v0 : Nat} {q : Int × PH} (hF : FX8_undo h v0 = some q) : ∃ fs : List PV, h[v0]? = some (.inr (8, fs)) := by
  unfold FX8_undo at hF
  obtain ⟨u0, e0, -⟩ := bnd hF
  exact isO_spec e0
set_option maxHeartbeats 4000000 in
set_option maxRecDepth 100000 in
theorem CX8_undo {g : GP} {l : Launch} {ad : Nat → Nat} {h : PH} {v0 : Nat} {q : Int × PH} (hF : FX8_undo h v0 = some q) : CN g l yX8_undo cX8_undo 1 (some .int) rmX8_undo ad h [.ref (ad v0)] (some (.int (Int32.ofInt q.1))) q.2 := by
  refine pw_met (by decide) (Nat.le_of_ble_eq_true rfl) ?_
  intro p e s m args below meth c ls hC hN hR hl
  have hl : lv_has ls 1 [(0, .ref (ad v0))] := hl
  unfold FX8_undo at hF
  obtain ⟨u0, e0, hF⟩ := bnd hF
  refine lv_aload_n hC.1 hC.2.1 dX8_undo_0 rfl (lv_at hl 0 rfl) ?_
  refine pw_iconst hC dX8_undo_1 ?_
  obtain ⟨h1, e1, hF⟩ := bnd hF
  refine pw_pfi hC hR e1 fpX8_38 (Or.inl rfl) dX8_undo_2 (fun H locs hR => ?_)
  refine lv_aload_n hC.1 hC.2.1 dX8_undo_5 rfl (lv_at hl 0 rfl) ?_
  obtain ⟨x2, e2, hF⟩ := bnd hF
  refine pw_gfi hC hR e2 flX8_252 dX8_undo_6 ?_
  refine pw_ifne hC 14 dX8_undo_9 (by decide) (fun hc => ?_) (fun hc => ?_)
  · rw [if_neg hc] at hF
    refine lv_aload_n hC.1 hC.2.1 dX8_undo_14 rfl (lv_at hl 0 rfl) ?_
    refine lv_dup hC.1 hC.2.1 dX8_undo_15 rfl ?_
    obtain ⟨x3, e3, hF⟩ := bnd hF
    refine pw_gfi hC hR e3 flX8_252 dX8_undo_16 ?_
    refine pw_iconst hC dX8_undo_19 ?_
    refine pw_isub hC dX8_undo_20 ?_
    obtain ⟨h4, e4, hF⟩ := bnd hF
    refine pw_pfi hC hR e4 fpX8_252 (Or.inl rfl) dX8_undo_21 (fun H locs hR => ?_)
    refine lv_aload_n hC.1 hC.2.1 dX8_undo_24 rfl (lv_at hl 0 rfl) ?_
    obtain ⟨x5, e5, hF⟩ := bnd hF
    refine pw_gfr hC hR e5 flX8_28 dX8_undo_25 ?_
    refine lv_aload_n hC.1 hC.2.1 dX8_undo_28 rfl (lv_at hl 0 rfl) ?_
    obtain ⟨x6, e6, hF⟩ := bnd hF
    refine pw_gfi hC hR e6 flX8_252 dX8_undo_29 ?_
    obtain ⟨x7, e7, hF⟩ := bnd hF
    refine pw_rald10 hC hR e7 dX8_undo_32 ?_
    refine lv_aload_n hC.1 hC.2.1 dX8_undo_33 rfl (lv_at hl 0 rfl) ?_
    obtain ⟨x8, e8, hF⟩ := bnd hF
    refine pw_gfr hC hR e8 flX8_17 dX8_undo_34 ?_
    obtain ⟨h9, e9, hF⟩ := bnd hF
    refine pw_cSv (rest := []) hC hR lsX8_178 (CX8_copy e9) ⟨rfl, rfl⟩ rfl hl.1 rfl ⟨Nat.le_of_ble_eq_true rfl, Nat.le_of_ble_eq_true rfl⟩ (Nat.le_of_ble_eq_true rfl) dX8_undo_37 ⟨Nat.zero_le _, Nat.zero_le _⟩ (fun H locs hR => ?_)
    refine lv_aload_n hC.1 hC.2.1 dX8_undo_40 rfl (lv_at hl 0 rfl) ?_
    obtain ⟨x10, e10, hF⟩ := bnd hF
    refine pw_gfi hC hR e10 flX8_252 dX8_undo_41 ?_
    cases hF
    exact pw_iret hC hR dX8_undo_44
  · rw [if_pos hc] at hF
    refine pw_iconst hC dX8_undo_12 ?_
    cases hF
    exact pw_iret hC hR dX8_undo_13
abbrev rmX8_checksum : Room := { frames := 4, cells := 0, slots := 0, locals := 86 }
def LX8_checksum_28 (h : PH) (v0 : Nat) (v1 : Int) (v3 : Int) : Option ((Int × Int) ⊕ (Int)) :=
  (gfr h 8 v0 8).bind fun x6 =>
  (ald 0 h x6 3).bind fun x7 =>
  if w32 v3 < w32 x7 then (
    (gfr h 8 v0 8).bind fun x8 =>
    (FX8_task h v3).bind fun x9 =>
    (ald 0 h x8 (x9 + 4)).bind fun x10 =>
    (gfr h 8 v0 8).bind fun x11 =>
    (FX8_task h v3).bind fun x12 =>
    (ald 0 h x11 (x12 + 1)).bind fun x13 =>
    (gfr h 8 v0 8).bind fun x14 =>
    (FX8_counterOf h x14 v3).bind fun x15 =>
    some (.inl (((31 * ((31 * ((31 * v1) + (w32 x10))) + (w32 x13))) + (w32 x15)), (v3 + 1)))
  ) else (
    some (.inr v1)
  )
set_option maxHeartbeats 4000000 in
set_option maxRecDepth 100000 in
theorem LRX8_checksum_28 {h : PH} {v0 : Nat} {Q : State → Prop} (hC : Cx g p s m args meth c cX8_checksum 5 RX8 (some .long)) : ∀ (n : Nat) (st : Int × Int) (ex : Int), lp (fun st : Int × Int => LX8_checksum_28 h v0 st.1 st.2) n st = some ex → (fun ex : Int => ∀ (H : Heap) (locs : List Loc) (ls : Array Slot), Rl g ad h s.heap H locs → lv_has ls 5 [(0, .ref (ad v0)), (1, .long (Int64.ofInt ex))] → W p l e rmX8_checksum s m args below meth c H locs 0 0 Q (F0 m 98 ls [])) ex → ∀ (H : Heap) (locs : List Loc) (ls : Array Slot), Rl g ad h s.heap H locs → lv_has ls 5 [(0, .ref (ad v0)), (1, .long (Int64.ofInt st.1)), (3, .int (Int32.ofInt st.2))] → W p l e rmX8_checksum s m args below meth c H locs 0 0 Q (F0 m 28 ls []) := by
  refine lp_rule (Ph := (fun st : Int × Int => ∀ (H : Heap) (locs : List Loc) (ls : Array Slot), Rl g ad h s.heap H locs → lv_has ls 5 [(0, .ref (ad v0)), (1, .long (Int64.ofInt st.1)), (3, .int (Int32.ofInt st.2))] → W p l e rmX8_checksum s m args below meth c H locs 0 0 Q (F0 m 28 ls []))) (Px := (fun ex : Int => ∀ (H : Heap) (locs : List Loc) (ls : Array Slot), Rl g ad h s.heap H locs → lv_has ls 5 [(0, .ref (ad v0)), (1, .long (Int64.ofInt ex))] → W p l e rmX8_checksum s m args below meth c H locs 0 0 Q (F0 m 98 ls []))) ?_
  rintro ⟨v1, v3⟩ o hF hK H locs ls hR hl
  have hR : Rl g ad h s.heap H locs := hR
  have hl : lv_has ls 5 [(0, .ref (ad v0)), (1, .long (Int64.ofInt v1)), (3, .int (Int32.ofInt v3))] := hl
  have hF : LX8_checksum_28 h v0 v1 v3 = some o := hF
  unfold LX8_checksum_28 at hF
  refine lv_iload_n hC.1 hC.2.1 dX8_checksum_28 rfl (lv_at hl 2 rfl) ?_
  refine lv_aload_n hC.1 hC.2.1 dX8_checksum_29 rfl (lv_at hl 0 rfl) ?_
  obtain ⟨x6, e6, hF⟩ := bnd hF
  refine pw_gfr hC hR e6 flX8_17 dX8_checksum_30 ?_
  refine pw_iconst hC dX8_checksum_33 ?_
  obtain ⟨x7, e7, hF⟩ := bnd hF
  refine pw_iald hC hR e7 dX8_checksum_34 ?_
  refine pw_icmpge hC 98 dX8_checksum_35 (by decide) (fun hc => ?_) (fun hc => ?_)
  · rw [if_neg hc] at hF
    cases hF
    exact hK _ _ _ hR (lv_sub hl [0, 1] rfl)
  · rw [if_pos hc] at hF
    refine pw_ldc2 hC 31 kcX8_256 dX8_checksum_38 ?_
    refine lv_lload_n hC.1 hC.2.1 dX8_checksum_41 rfl (lv_at hl 1 rfl) ?_
    refine pw_lmul hC dX8_checksum_42 ?_
    refine lv_aload_n hC.1 hC.2.1 dX8_checksum_43 rfl (lv_at hl 0 rfl) ?_
    obtain ⟨x8, e8, hF⟩ := bnd hF
    refine pw_gfr hC hR e8 flX8_17 dX8_checksum_44 ?_
    refine lv_iload_n hC.1 hC.2.1 dX8_checksum_47 rfl (lv_at hl 2 rfl) ?_
    obtain ⟨x9, e9, hF⟩ := bnd hF
    refine pw_cSi (rest := [.ref (ad x8), .long (Int64.ofInt (31 * v1))]) hC hR lsX8_136 (CX8_task e9) ⟨rfl, rfl⟩ rfl hl.1 rfl ⟨Nat.le_of_ble_eq_true rfl, Nat.le_of_ble_eq_true rfl⟩ (Nat.le_of_ble_eq_true rfl) dX8_checksum_48 ⟨Nat.zero_le _, Nat.zero_le _⟩ (fun H locs hR => ?_)
    refine pw_iconst hC dX8_checksum_51 ?_
    refine pw_iadd hC dX8_checksum_52 ?_
    obtain ⟨x10, e10, hF⟩ := bnd hF
    refine pw_iald hC hR e10 dX8_checksum_53 ?_
    refine pw_i2l hC dX8_checksum_54 ?_
    refine pw_ladd hC dX8_checksum_55 ?_
    refine lv_lstore_n (lv' := [(1, .long (Int64.ofInt ((31 * v1) + (w32 x10)))), (0, .ref (ad v0)), (3, .int (Int32.ofInt v3))]) hC.1 hC.2.1 dX8_checksum_56 rfl hl (by decide) rfl (fun ls hl => ?_)
    refine pw_ldc2 hC 31 kcX8_256 dX8_checksum_57 ?_
    refine lv_lload_n hC.1 hC.2.1 dX8_checksum_60 rfl (lv_at hl 0 rfl) ?_
    refine pw_lmul hC dX8_checksum_61 ?_
    refine lv_aload_n hC.1 hC.2.1 dX8_checksum_62 rfl (lv_at hl 1 rfl) ?_
    obtain ⟨x11, e11, hF⟩ := bnd hF
    refine pw_gfr hC hR e11 flX8_17 dX8_checksum_63 ?_
    refine lv_iload_n hC.1 hC.2.1 dX8_checksum_66 rfl (lv_at hl 2 rfl) ?_
    obtain ⟨x12, e12, hF⟩ := bnd hF
    refine pw_cSi (rest := [.ref (ad x11), .long (Int64.ofInt (31 * ((31 * v1) + (w32 x10))))]) hC hR lsX8_136 (CX8_task e12) ⟨rfl, rfl⟩ rfl hl.1 rfl ⟨Nat.le_of_ble_eq_true rfl, Nat.le_of_ble_eq_true rfl⟩ (Nat.le_of_ble_eq_true rfl) dX8_checksum_67 ⟨Nat.zero_le _, Nat.zero_le _⟩ (fun H locs hR => ?_)
    refine pw_iconst hC dX8_checksum_70 ?_
    refine pw_iadd hC dX8_checksum_71 ?_
    obtain ⟨x13, e13, hF⟩ := bnd hF
    refine pw_iald hC hR e13 dX8_checksum_72 ?_
    refine pw_i2l hC dX8_checksum_73 ?_
    refine pw_ladd hC dX8_checksum_74 ?_
    refine lv_lstore_n (lv' := [(1, .long (Int64.ofInt ((31 * ((31 * v1) + (w32 x10))) + (w32 x13)))), (0, .ref (ad v0)), (3, .int (Int32.ofInt v3))]) hC.1 hC.2.1 dX8_checksum_75 rfl hl (by decide) rfl (fun ls hl => ?_)
    refine pw_ldc2 hC 31 kcX8_256 dX8_checksum_76 ?_
    refine lv_lload_n hC.1 hC.2.1 dX8_checksum_79 rfl (lv_at hl 0 rfl) ?_
    refine pw_lmul hC dX8_checksum_80 ?_
    refine lv_aload_n hC.1 hC.2.1 dX8_checksum_81 rfl (lv_at hl 1 rfl) ?_
    obtain ⟨x14, e14, hF⟩ := bnd hF
    refine pw_gfr hC hR e14 flX8_17 dX8_checksum_82 ?_
    refine lv_iload_n hC.1 hC.2.1 dX8_checksum_85 rfl (lv_at hl 2 rfl) ?_
    obtain ⟨x15, e15, hF⟩ := bnd hF
    refine pw_cSi (rest := [.long (Int64.ofInt (31 * ((31 * ((31 * v1) + (w32 x10))) + (w32 x13))))]) hC hR lsX8_203 (CX8_counterOf e15) ⟨rfl, rfl⟩ rfl hl.1 rfl ⟨Nat.le_of_ble_eq_true rfl, Nat.le_of_ble_eq_true rfl⟩ (Nat.le_of_ble_eq_true rfl) dX8_checksum_86 ⟨Nat.zero_le _, Nat.zero_le _⟩ (fun H locs hR => ?_)
    refine pw_i2l hC dX8_checksum_89 ?_
    refine pw_ladd hC dX8_checksum_90 ?_
    refine lv_lstore_n (lv' := [(1, .long (Int64.ofInt ((31 * ((31 * ((31 * v1) + (w32 x10))) + (w32 x13))) + (w32 x15)))), (0, .ref (ad v0)), (3, .int (Int32.ofInt v3))]) hC.1 hC.2.1 dX8_checksum_91 rfl hl (by decide) rfl (fun ls hl => ?_)
    refine pw_iinc (lv' := [(3, .int (Int32.ofInt (v3 + 1))), (1, .long (Int64.ofInt ((31 * ((31 * ((31 * v1) + (w32 x10))) + (w32 x13))) + (w32 x15)))), (0, .ref (ad v0))]) hC hl 2 dX8_checksum_92 rfl (by decide) rfl (fun ls hl => ?_)
    refine pw_goto hC 28 dX8_checksum_95 (by decide) ?_
    cases hF
    exact hK _ _ _ hR (lv_sub hl [2, 1, 0] rfl)
def LX8_checksum_113 (h : PH) (v0 : Nat) (v3 : Int) (v1 : Int) (v4 : Int) : Option ((Int × Int) ⊕ (Int)) :=
  (gfr h 8 v0 8).bind fun x19 =>
  (FX8_core h v3).bind fun x20 =>
  (ald 0 h x19 (x20 + 4)).bind fun x21 =>
  if w32 v4 < w32 x21 then (
    (gfr h 8 v0 8).bind fun x22 =>
    (FX8_core h v3).bind fun x23 =>
    (ald 0 h x22 ((x23 + 5) + v4)).bind fun x24 =>
    some (.inl (((31 * v1) + (w32 x24)), (v4 + 1)))
  ) else (
    some (.inr v1)
  )
set_option maxHeartbeats 4000000 in
set_option maxRecDepth 100000 in
theorem LRX8_checksum_113 {h : PH} {v0 : Nat} {v3 : Int} {Q : State → Prop} (hC : Cx g p s m args meth c cX8_checksum 5 RX8 (some .long)) : ∀ (n : Nat) (st : Int × Int) (ex : Int), lp (fun st : Int × Int => LX8_checksum_113 h v0 v3 st.1 st.2) n st = some ex → (fun ex : Int => ∀ (H : Heap) (locs : List Loc) (ls : Array Slot), Rl g ad h s.heap H locs → lv_has ls 5 [(0, .ref (ad v0)), (1, .long (Int64.ofInt ex)), (3, .int (Int32.ofInt v3))] → W p l e rmX8_checksum s m args below meth c H locs 0 0 Q (F0 m 157 ls [])) ex → ∀ (H : Heap) (locs : List Loc) (ls : Array Slot), Rl g ad h s.heap H locs → lv_has ls 5 [(0, .ref (ad v0)), (1, .long (Int64.ofInt st.1)), (3, .int (Int32.ofInt v3)), (4, .int (Int32.ofInt st.2))] → W p l e rmX8_checksum s m args below meth c H locs 0 0 Q (F0 m 113 ls []) := by
  refine lp_rule (Ph := (fun st : Int × Int => ∀ (H : Heap) (locs : List Loc) (ls : Array Slot), Rl g ad h s.heap H locs → lv_has ls 5 [(0, .ref (ad v0)), (1, .long (Int64.ofInt st.1)), (3, .int (Int32.ofInt v3)), (4, .int (Int32.ofInt st.2))] → W p l e rmX8_checksum s m args below meth c H locs 0 0 Q (F0 m 113 ls []))) (Px := (fun ex : Int => ∀ (H : Heap) (locs : List Loc) (ls : Array Slot), Rl g ad h s.heap H locs → lv_has ls 5 [(0, .ref (ad v0)), (1, .long (Int64.ofInt ex)), (3, .int (Int32.ofInt v3))] → W p l e rmX8_checksum s m args below meth c H locs 0 0 Q (F0 m 157 ls []))) ?_
  rintro ⟨v1, v4⟩ o hF hK H locs ls hR hl
  have hR : Rl g ad h s.heap H locs := hR
  have hl : lv_has ls 5 [(0, .ref (ad v0)), (1, .long (Int64.ofInt v1)), (3, .int (Int32.ofInt v3)), (4, .int (Int32.ofInt v4))] := hl
  have hF : LX8_checksum_113 h v0 v3 v1 v4 = some o := hF
  unfold LX8_checksum_113 at hF
  refine lv_iload hC.1 hC.2.1 dX8_checksum_113 (lv_at hl 3 rfl) ?_
  refine lv_aload_n hC.1 hC.2.1 dX8_checksum_115 rfl (lv_at hl 0 rfl) ?_
  obtain ⟨x19, e19, hF⟩ := bnd hF
  refine pw_gfr hC hR e19 flX8_17 dX8_checksum_116 ?_
  refine lv_iload_n hC.1 hC.2.1 dX8_checksum_119 rfl (lv_at hl 2 rfl) ?_
  obtain ⟨x20, e20, hF⟩ := bnd hF
  refine pw_cSi (rest := [.ref (ad x19), .int (Int32.ofInt v4)]) hC hR lsX8_41 (CX8_core e20) ⟨rfl, rfl⟩ rfl hl.1 rfl ⟨Nat.le_of_ble_eq_true rfl, Nat.le_of_ble_eq_true rfl⟩ (Nat.le_of_ble_eq_true rfl) dX8_checksum_120 ⟨Nat.zero_le _, Nat.zero_le _⟩ (fun H locs hR => ?_)
  refine pw_iconst hC dX8_checksum_123 ?_
  refine pw_iadd hC dX8_checksum_124 ?_
  obtain ⟨x21, e21, hF⟩ := bnd hF
  refine pw_iald hC hR e21 dX8_checksum_125 ?_
  refine pw_icmpge hC 157 dX8_checksum_126 (by decide) (fun hc => ?_) (fun hc => ?_)
  · rw [if_neg hc] at hF
    cases hF
    exact hK _ _ _ hR (lv_sub hl [0, 1, 2] rfl)
  · rw [if_pos hc] at hF
    refine pw_ldc2 hC 31 kcX8_256 dX8_checksum_129 ?_
    refine lv_lload_n hC.1 hC.2.1 dX8_checksum_132 rfl (lv_at hl 1 rfl) ?_
    refine pw_lmul hC dX8_checksum_133 ?_
    refine lv_aload_n hC.1 hC.2.1 dX8_checksum_134 rfl (lv_at hl 0 rfl) ?_
    obtain ⟨x22, e22, hF⟩ := bnd hF
    refine pw_gfr hC hR e22 flX8_17 dX8_checksum_135 ?_
    refine lv_iload_n hC.1 hC.2.1 dX8_checksum_138 rfl (lv_at hl 2 rfl) ?_
    obtain ⟨x23, e23, hF⟩ := bnd hF
    refine pw_cSi (rest := [.ref (ad x22), .long (Int64.ofInt (31 * v1))]) hC hR lsX8_41 (CX8_core e23) ⟨rfl, rfl⟩ rfl hl.1 rfl ⟨Nat.le_of_ble_eq_true rfl, Nat.le_of_ble_eq_true rfl⟩ (Nat.le_of_ble_eq_true rfl) dX8_checksum_139 ⟨Nat.zero_le _, Nat.zero_le _⟩ (fun H locs hR => ?_)
    refine pw_iconst hC dX8_checksum_142 ?_
    refine pw_iadd hC dX8_checksum_143 ?_
    refine lv_iload hC.1 hC.2.1 dX8_checksum_144 (lv_at hl 3 rfl) ?_
    refine pw_iadd hC dX8_checksum_146 ?_
    obtain ⟨x24, e24, hF⟩ := bnd hF
    refine pw_iald hC hR e24 dX8_checksum_147 ?_
    refine pw_i2l hC dX8_checksum_148 ?_
    refine pw_ladd hC dX8_checksum_149 ?_
    refine lv_lstore_n (lv' := [(1, .long (Int64.ofInt ((31 * v1) + (w32 x24)))), (0, .ref (ad v0)), (3, .int (Int32.ofInt v3)), (4, .int (Int32.ofInt v4))]) hC.1 hC.2.1 dX8_checksum_150 rfl hl (by decide) rfl (fun ls hl => ?_)
    refine pw_iinc (lv' := [(4, .int (Int32.ofInt (v4 + 1))), (1, .long (Int64.ofInt ((31 * v1) + (w32 x24)))), (0, .ref (ad v0)), (3, .int (Int32.ofInt v3))]) hC hl 3 dX8_checksum_151 rfl (by decide) rfl (fun ls hl => ?_)
    refine pw_goto hC 113 dX8_checksum_154 (by decide) ?_
    cases hF
    exact hK _ _ _ hR (lv_sub hl [2, 1, 3, 0] rfl)
def LX8_checksum_100 (h : PH) (v0 : Nat) (v1 : Int) (v3 : Int) : Option ((Int × Int) ⊕ (Int)) :=
  (gfr h 8 v0 8).bind fun x17 =>
  (ald 0 h x17 0).bind fun x18 =>
  if w32 v3 < w32 x18 then (
    (lp (fun st : Int × Int => LX8_checksum_113 h v0 v3 st.1 st.2) FU (v1, 0)).bind fun ex25 =>
    (gfr h 8 v0 8).bind fun x26 =>
    (FX8_core h v3).bind fun x27 =>
    (ald 0 h x26 (x27 + 0)).bind fun x28 =>
    (FX8_remainingOf h v0 v3).bind fun x29 =>
    (gfr h 8 v0 8).bind fun x30 =>
    (FX8_core h v3).bind fun x31 =>
    (ald 0 h x30 (x31 + 1)).bind fun x32 =>
    (gfr h 8 v0 8).bind fun x33 =>
    (FX8_core h v3).bind fun x34 =>
    (ald 0 h x33 (x34 + 2)).bind fun x35 =>
    some (.inl (((31 * ((31 * ((31 * ((31 * ex25) + (w32 x28))) + (w32 x29))) + (w32 x32))) + (w32 x35)), (v3 + 1)))
  ) else (
    some (.inr v1)
  )
set_option maxHeartbeats 4000000 in
set_option maxRecDepth 100000 in
theorem LRX8_checksum_100 {h : PH} {v0 : Nat} {Q : State → Prop} (hC : Cx g p s m args meth c cX8_checksum 5 RX8 (some .long)) : ∀ (n : Nat) (st : Int × Int) (ex : Int), lp (fun st : Int × Int => LX8_checksum_100 h v0 st.1 st.2) n st = some ex → (fun ex : Int => ∀ (H : Heap) (locs : List Loc) (ls : Array Slot), Rl g ad h s.heap H locs → lv_has ls 5 [(1, .long (Int64.ofInt ex))] → W p l e rmX8_checksum s m args below meth c H locs 0 0 Q (F0 m 233 ls [])) ex → ∀ (H : Heap) (locs : List Loc) (ls : Array Slot), Rl g ad h s.heap H locs → lv_has ls 5 [(0, .ref (ad v0)), (1, .long (Int64.ofInt st.1)), (3, .int (Int32.ofInt st.2))] → W p l e rmX8_checksum s m args below meth c H locs 0 0 Q (F0 m 100 ls []) := by
  refine lp_rule (Ph := (fun st : Int × Int => ∀ (H : Heap) (locs : List Loc) (ls : Array Slot), Rl g ad h s.heap H locs → lv_has ls 5 [(0, .ref (ad v0)), (1, .long (Int64.ofInt st.1)), (3, .int (Int32.ofInt st.2))] → W p l e rmX8_checksum s m args below meth c H locs 0 0 Q (F0 m 100 ls []))) (Px := (fun ex : Int => ∀ (H : Heap) (locs : List Loc) (ls : Array Slot), Rl g ad h s.heap H locs → lv_has ls 5 [(1, .long (Int64.ofInt ex))] → W p l e rmX8_checksum s m args below meth c H locs 0 0 Q (F0 m 233 ls []))) ?_
  rintro ⟨v1, v3⟩ o hF hK H locs ls hR hl
  have hR : Rl g ad h s.heap H locs := hR
  have hl : lv_has ls 5 [(0, .ref (ad v0)), (1, .long (Int64.ofInt v1)), (3, .int (Int32.ofInt v3))] := hl
  have hF : LX8_checksum_100 h v0 v1 v3 = some o := hF
  unfold LX8_checksum_100 at hF
  refine lv_iload_n hC.1 hC.2.1 dX8_checksum_100 rfl (lv_at hl 2 rfl) ?_
  refine lv_aload_n hC.1 hC.2.1 dX8_checksum_101 rfl (lv_at hl 0 rfl) ?_
  obtain ⟨x17, e17, hF⟩ := bnd hF
  refine pw_gfr hC hR e17 flX8_17 dX8_checksum_102 ?_
  refine pw_iconst hC dX8_checksum_105 ?_
  obtain ⟨x18, e18, hF⟩ := bnd hF
  refine pw_iald hC hR e18 dX8_checksum_106 ?_
  refine pw_icmpge hC 233 dX8_checksum_107 (by decide) (fun hc => ?_) (fun hc => ?_)
  · rw [if_neg hc] at hF
    cases hF
    exact hK _ _ _ hR (lv_sub hl [1] rfl)
  · rw [if_pos hc] at hF
    refine pw_iconst hC dX8_checksum_110 ?_
    refine lv_istore (lv' := [(4, .int (Int32.ofInt 0)), (0, .ref (ad v0)), (1, .long (Int64.ofInt v1)), (3, .int (Int32.ofInt v3))]) hC.1 hC.2.1 dX8_checksum_111 hl (by decide) rfl (fun ls hl => ?_)
    obtain ⟨ex25, e25, hF⟩ := bnd hF
    refine LRX8_checksum_113 hC FU _ ex25 e25 ?_ _ _ _ hR (lv_sub hl [1, 2, 3, 0] rfl)
    intro H locs ls hR hl
    refine pw_ldc2 hC 31 kcX8_256 dX8_checksum_157 ?_
    refine lv_lload_n hC.1 hC.2.1 dX8_checksum_160 rfl (lv_at hl 1 rfl) ?_
    refine pw_lmul hC dX8_checksum_161 ?_
    refine lv_aload_n hC.1 hC.2.1 dX8_checksum_162 rfl (lv_at hl 0 rfl) ?_
    obtain ⟨x26, e26, hF⟩ := bnd hF
    refine pw_gfr hC hR e26 flX8_17 dX8_checksum_163 ?_
    refine lv_iload_n hC.1 hC.2.1 dX8_checksum_166 rfl (lv_at hl 2 rfl) ?_
    obtain ⟨x27, e27, hF⟩ := bnd hF
    refine pw_cSi (rest := [.ref (ad x26), .long (Int64.ofInt (31 * ex25))]) hC hR lsX8_41 (CX8_core e27) ⟨rfl, rfl⟩ rfl hl.1 rfl ⟨Nat.le_of_ble_eq_true rfl, Nat.le_of_ble_eq_true rfl⟩ (Nat.le_of_ble_eq_true rfl) dX8_checksum_167 ⟨Nat.zero_le _, Nat.zero_le _⟩ (fun H locs hR => ?_)
    refine pw_iconst hC dX8_checksum_170 ?_
    refine pw_iadd hC dX8_checksum_171 ?_
    obtain ⟨x28, e28, hF⟩ := bnd hF
    refine pw_iald hC hR e28 dX8_checksum_172 ?_
    refine pw_i2l hC dX8_checksum_173 ?_
    refine pw_ladd hC dX8_checksum_174 ?_
    refine lv_lstore_n (lv' := [(1, .long (Int64.ofInt ((31 * ex25) + (w32 x28)))), (0, .ref (ad v0)), (3, .int (Int32.ofInt v3))]) hC.1 hC.2.1 dX8_checksum_175 rfl hl (by decide) rfl (fun ls hl => ?_)
    refine pw_ldc2 hC 31 kcX8_256 dX8_checksum_176 ?_
    refine lv_lload_n hC.1 hC.2.1 dX8_checksum_179 rfl (lv_at hl 0 rfl) ?_
    refine pw_lmul hC dX8_checksum_180 ?_
    refine lv_aload_n hC.1 hC.2.1 dX8_checksum_181 rfl (lv_at hl 1 rfl) ?_
    refine lv_iload_n hC.1 hC.2.1 dX8_checksum_182 rfl (lv_at hl 2 rfl) ?_
    obtain ⟨x29, e29, hF⟩ := bnd hF
    obtain ⟨fs29, ho29⟩ := OX8_remainingOf e29
    refine pw_cVi (rest := [.long (Int64.ofInt (31 * ((31 * ex25) + (w32 x28))))]) hC hR lvX8_233 ho29 (CX8_remainingOf e29) ⟨rfl, rfl⟩ rfl hl.1 rfl ⟨Nat.le_of_ble_eq_true rfl, Nat.le_of_ble_eq_true rfl⟩ (Nat.le_of_ble_eq_true rfl) dX8_checksum_183 ⟨Nat.zero_le _, Nat.zero_le _⟩ (fun H locs hR => ?_)
    refine pw_i2l hC dX8_checksum_186 ?_
    refine pw_ladd hC dX8_checksum_187 ?_
    refine lv_lstore_n (lv' := [(1, .long (Int64.ofInt ((31 * ((31 * ex25) + (w32 x28))) + (w32 x29)))), (0, .ref (ad v0)), (3, .int (Int32.ofInt v3))]) hC.1 hC.2.1 dX8_checksum_188 rfl hl (by decide) rfl (fun ls hl => ?_)
    refine pw_ldc2 hC 31 kcX8_256 dX8_checksum_189 ?_
    refine lv_lload_n hC.1 hC.2.1 dX8_checksum_192 rfl (lv_at hl 0 rfl) ?_
    refine pw_lmul hC dX8_checksum_193 ?_
    refine lv_aload_n hC.1 hC.2.1 dX8_checksum_194 rfl (lv_at hl 1 rfl) ?_
    obtain ⟨x30, e30, hF⟩ := bnd hF
    refine pw_gfr hC hR e30 flX8_17 dX8_checksum_195 ?_
    refine lv_iload_n hC.1 hC.2.1 dX8_checksum_198 rfl (lv_at hl 2 rfl) ?_
    obtain ⟨x31, e31, hF⟩ := bnd hF
    refine pw_cSi (rest := [.ref (ad x30), .long (Int64.ofInt (31 * ((31 * ((31 * ex25) + (w32 x28))) + (w32 x29))))]) hC hR lsX8_41 (CX8_core e31) ⟨rfl, rfl⟩ rfl hl.1 rfl ⟨Nat.le_of_ble_eq_true rfl, Nat.le_of_ble_eq_true rfl⟩ (Nat.le_of_ble_eq_true rfl) dX8_checksum_199 ⟨Nat.zero_le _, Nat.zero_le _⟩ (fun H locs hR => ?_)
    refine pw_iconst hC dX8_checksum_202 ?_
    refine pw_iadd hC dX8_checksum_203 ?_
    obtain ⟨x32, e32, hF⟩ := bnd hF
    refine pw_iald hC hR e32 dX8_checksum_204 ?_
    refine pw_i2l hC dX8_checksum_205 ?_
    refine pw_ladd hC dX8_checksum_206 ?_
    refine lv_lstore_n (lv' := [(1, .long (Int64.ofInt ((31 * ((31 * ((31 * ex25) + (w32 x28))) + (w32 x29))) + (w32 x32)))), (0, .ref (ad v0)), (3, .int (Int32.ofInt v3))]) hC.1 hC.2.1 dX8_checksum_207 rfl hl (by decide) rfl (fun ls hl => ?_)
    refine pw_ldc2 hC 31 kcX8_256 dX8_checksum_208 ?_
    refine lv_lload_n hC.1 hC.2.1 dX8_checksum_211 rfl (lv_at hl 0 rfl) ?_
    refine pw_lmul hC dX8_checksum_212 ?_
    refine lv_aload_n hC.1 hC.2.1 dX8_checksum_213 rfl (lv_at hl 1 rfl) ?_
    obtain ⟨x33, e33, hF⟩ := bnd hF
    refine pw_gfr hC hR e33 flX8_17 dX8_checksum_214 ?_
    refine lv_iload_n hC.1 hC.2.1 dX8_checksum_217 rfl (lv_at hl 2 rfl) ?_
    obtain ⟨x34, e34, hF⟩ := bnd hF
    refine pw_cSi (rest := [.ref (ad x33), .long (Int64.ofInt (31 * ((31 * ((31 * ((31 * ex25) + (w32 x28))) + (w32 x29))) + (w32 x32))))]) hC hR lsX8_41 (CX8_core e34) ⟨rfl, rfl⟩ rfl hl.1 rfl ⟨Nat.le_of_ble_eq_true rfl, Nat.le_of_ble_eq_true rfl⟩ (Nat.le_of_ble_eq_true rfl) dX8_checksum_218 ⟨Nat.zero_le _, Nat.zero_le _⟩ (fun H locs hR => ?_)
    refine pw_iconst hC dX8_checksum_221 ?_
    refine pw_iadd hC dX8_checksum_222 ?_
    obtain ⟨x35, e35, hF⟩ := bnd hF
    refine pw_iald hC hR e35 dX8_checksum_223 ?_
    refine pw_i2l hC dX8_checksum_224 ?_
    refine pw_ladd hC dX8_checksum_225 ?_
    refine lv_lstore_n (lv' := [(1, .long (Int64.ofInt ((31 * ((31 * ((31 * ((31 * ex25) + (w32 x28))) + (w32 x29))) + (w32 x32))) + (w32 x35)))), (0, .ref (ad v0)), (3, .int (Int32.ofInt v3))]) hC.1 hC.2.1 dX8_checksum_226 rfl hl (by decide) rfl (fun ls hl => ?_)
    refine pw_iinc (lv' := [(3, .int (Int32.ofInt (v3 + 1))), (1, .long (Int64.ofInt ((31 * ((31 * ((31 * ((31 * ex25) + (w32 x28))) + (w32 x29))) + (w32 x32))) + (w32 x35)))), (0, .ref (ad v0))]) hC hl 2 dX8_checksum_227 rfl (by decide) rfl (fun ls hl => ?_)
    refine pw_goto hC 100 dX8_checksum_230 (by decide) ?_
    cases hF
    exact hK _ _ _ hR (lv_sub hl [2, 1, 0] rfl)
def FX8_checksum (h : PH) (v0 : Nat) : Option (Int × PH) :=
  (isO h 8 v0).bind fun _ =>
  (pfi h 8 v0 0 0).bind fun h1 =>
  (gfr h1 8 v0 8).bind fun x2 =>
  (ald 0 h1 x2 5).bind fun x3 =>
  (gfr h1 8 v0 8).bind fun x4 =>
  (FX8_finishedOf h1 x4).bind fun x5 =>
  (lp (fun st : Int × Int => LX8_checksum_28 h1 v0 st.1 st.2) FU (((31 * (w32 x3)) + (w32 x5)), 0)).bind fun ex16 =>
  (lp (fun st : Int × Int => LX8_checksum_100 h1 v0 st.1 st.2) FU (ex16, 0)).bind fun ex36 =>
  some (ex36, h1)
theorem OX8_checksum {h : PH} {v0 : Nat} {q : Int × PH} (hF : FX8_checksum h v0 = some q) : ∃ fs : List PV, h[v0]? = some (.inr (8, fs)) := by
  unfold FX8_checksum at hF
  obtain ⟨u0, e0, -⟩ := bnd hF
  exact isO_spec e0
set_option maxHeartbeats 4000000 in
set_option maxRecDepth 100000 in
theorem CX8_checksum {g : GP} {l : Launch} {ad : Nat → Nat} {h : PH} {v0 : Nat} {q : Int × PH} (hF : FX8_checksum h v0 = some q) : CN g l yX8_checksum cX8_checksum 5 (some .long) rmX8_checksum ad h [.ref (ad v0)] (some (.long (Int64.ofInt q.1))) q.2 := by
  refine pw_met (by decide) (Nat.le_of_ble_eq_true rfl) ?_
  intro p e s m args below meth c ls hC hN hR hl
  have hl : lv_has ls 5 [(0, .ref (ad v0))] := hl
  unfold FX8_checksum at hF
  obtain ⟨u0, e0, hF⟩ := bnd hF
  refine lv_aload_n hC.1 hC.2.1 dX8_checksum_0 rfl (lv_at hl 0 rfl) ?_
  refine pw_iconst hC dX8_checksum_1 ?_
  obtain ⟨h1, e1, hF⟩ := bnd hF
  refine pw_pfi hC hR e1 fpX8_38 (Or.inl rfl) dX8_checksum_2 (fun H locs hR => ?_)
  refine pw_ldc2 hC 31 kcX8_256 dX8_checksum_5 ?_
  refine lv_aload_n hC.1 hC.2.1 dX8_checksum_8 rfl (lv_at hl 0 rfl) ?_
  obtain ⟨x2, e2, hF⟩ := bnd hF
  refine pw_gfr hC hR e2 flX8_17 dX8_checksum_9 ?_
  refine pw_iconst hC dX8_checksum_12 ?_
  obtain ⟨x3, e3, hF⟩ := bnd hF
  refine pw_iald hC hR e3 dX8_checksum_13 ?_
  refine pw_i2l hC dX8_checksum_14 ?_
  refine pw_lmul hC dX8_checksum_15 ?_
  refine lv_aload_n hC.1 hC.2.1 dX8_checksum_16 rfl (lv_at hl 0 rfl) ?_
  obtain ⟨x4, e4, hF⟩ := bnd hF
  refine pw_gfr hC hR e4 flX8_17 dX8_checksum_17 ?_
  obtain ⟨x5, e5, hF⟩ := bnd hF
  refine pw_cSi (rest := [.long (Int64.ofInt (31 * (w32 x3)))]) hC hR lsX8_236 (CX8_finishedOf e5) ⟨rfl, rfl⟩ rfl hl.1 rfl ⟨Nat.le_of_ble_eq_true rfl, Nat.le_of_ble_eq_true rfl⟩ (Nat.le_of_ble_eq_true rfl) dX8_checksum_20 ⟨Nat.zero_le _, Nat.zero_le _⟩ (fun H locs hR => ?_)
  refine pw_i2l hC dX8_checksum_23 ?_
  refine pw_ladd hC dX8_checksum_24 ?_
  refine lv_lstore_n (lv' := [(1, .long (Int64.ofInt ((31 * (w32 x3)) + (w32 x5)))), (0, .ref (ad v0))]) hC.1 hC.2.1 dX8_checksum_25 rfl hl (by decide) rfl (fun ls hl => ?_)
  refine pw_iconst hC dX8_checksum_26 ?_
  refine lv_istore_n (lv' := [(3, .int (Int32.ofInt 0)), (1, .long (Int64.ofInt ((31 * (w32 x3)) + (w32 x5)))), (0, .ref (ad v0))]) hC.1 hC.2.1 dX8_checksum_27 rfl hl (by decide) rfl (fun ls hl => ?_)
  obtain ⟨ex16, e16, hF⟩ := bnd hF
  refine LRX8_checksum_28 hC FU _ ex16 e16 ?_ _ _ _ hR (lv_sub hl [2, 1, 0] rfl)
  intro H locs ls hR hl
  refine pw_iconst hC dX8_checksum_98 ?_
  refine lv_istore_n (lv' := [(3, .int (Int32.ofInt 0)), (0, .ref (ad v0)), (1, .long (Int64.ofInt ex16))]) hC.1 hC.2.1 dX8_checksum_99 rfl hl (by decide) rfl (fun ls hl => ?_)
  obtain ⟨ex36, e36, hF⟩ := bnd hF
  refine LRX8_checksum_100 hC FU _ ex36 e36 ?_ _ _ _ hR (lv_sub hl [1, 2, 0] rfl)
  intro H locs ls hR hl
  refine lv_lload_n hC.1 hC.2.1 dX8_checksum_233 rfl (lv_at hl 0 rfl) ?_
  cases hF
  exact pw_lret hC hR dX8_checksum_234
end
