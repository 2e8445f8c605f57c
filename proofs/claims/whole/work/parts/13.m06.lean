section
variable {p : Program} {l : Launch} {e : Env} {s : State} {m : MethodId} {args : Array Value} {below : List Frame} {meth : Method} {c : Code} {H : Heap} {locs : List Loc} {ls : Array Slot} {g : GP} {ad : Nat → Nat}
abbrev rmX8_putToWait : Room := { frames := 1, cells := 0, slots := 0, locals := 20 }
def FX8_putToWait (h : PH) (v0 : Nat) (v1 : Int) : Option (PH) :=
  (FX8_task h v1).bind fun x1 =>
  (ast 0 h v0 (x1 + 4) 0).bind fun h2 =>
  (FX8_task h2 v1).bind fun x3 =>
  (ast 0 h2 v0 (x3 + 5) 0).bind fun h4 =>
  (FX8_task h4 v1).bind fun x5 =>
  (ast 0 h4 v0 (x5 + 6) (-1)).bind fun h6 =>
  (FX8_task h6 v1).bind fun x7 =>
  (ast 0 h6 v0 (x7 + 7) (-1)).bind fun h8 =>
  some h8
set_option maxHeartbeats 4000000 in
set_option maxRecDepth 100000 in
theorem CX8_putToWait {g : GP} {l : Launch} {ad : Nat → Nat} {h : PH} {v0 : Nat} {v1 : Int} {q : PH} (hF : FX8_putToWait h v0 v1 = some q) : CN g l yX8_putToWait cX8_putToWait 2 none rmX8_putToWait ad h [.ref (ad v0), .int (Int32.ofInt v1)] none q := by
  refine pw_met (by decide) (Nat.le_of_ble_eq_true rfl) ?_
  intro p e s m args below meth c ls hC hN hR hl
  have hl : lv_has ls 2 [(0, .ref (ad v0)), (1, .int (Int32.ofInt v1))] := hl
  unfold FX8_putToWait at hF
  refine lv_aload_n hC.1 hC.2.1 dX8_putToWait_0 rfl (lv_at hl 0 rfl) ?_
  refine lv_iload_n hC.1 hC.2.1 dX8_putToWait_1 rfl (lv_at hl 1 rfl) ?_
  obtain ⟨x1, e1, hF⟩ := bnd hF
  refine pw_cSi (rest := [.ref (ad v0)]) hC hR lsX8_136 (CX8_task e1) ⟨rfl, rfl⟩ rfl hl.1 rfl ⟨Nat.le_of_ble_eq_true rfl, Nat.le_of_ble_eq_true rfl⟩ (Nat.le_of_ble_eq_true rfl) dX8_putToWait_2 ⟨Nat.zero_le _, Nat.zero_le _⟩ (fun H locs hR => ?_)
  refine pw_iconst hC dX8_putToWait_5 ?_
  refine pw_iadd hC dX8_putToWait_6 ?_
  refine pw_iconst hC dX8_putToWait_7 ?_
  obtain ⟨h2, e2, hF⟩ := bnd hF
  refine pw_iast hC hR e2 dX8_putToWait_8 (fun H locs hR => ?_)
  refine lv_aload_n hC.1 hC.2.1 dX8_putToWait_9 rfl (lv_at hl 0 rfl) ?_
  refine lv_iload_n hC.1 hC.2.1 dX8_putToWait_10 rfl (lv_at hl 1 rfl) ?_
  obtain ⟨x3, e3, hF⟩ := bnd hF
  refine pw_cSi (rest := [.ref (ad v0)]) hC hR lsX8_136 (CX8_task e3) ⟨rfl, rfl⟩ rfl hl.1 rfl ⟨Nat.le_of_ble_eq_true rfl, Nat.le_of_ble_eq_true rfl⟩ (Nat.le_of_ble_eq_true rfl) dX8_putToWait_11 ⟨Nat.zero_le _, Nat.zero_le _⟩ (fun H locs hR => ?_)
  refine pw_iconst hC dX8_putToWait_14 ?_
  refine pw_iadd hC dX8_putToWait_15 ?_
  refine pw_iconst hC dX8_putToWait_16 ?_
  obtain ⟨h4, e4, hF⟩ := bnd hF
  refine pw_iast hC hR e4 dX8_putToWait_17 (fun H locs hR => ?_)
  refine lv_aload_n hC.1 hC.2.1 dX8_putToWait_18 rfl (lv_at hl 0 rfl) ?_
  refine lv_iload_n hC.1 hC.2.1 dX8_putToWait_19 rfl (lv_at hl 1 rfl) ?_
  obtain ⟨x5, e5, hF⟩ := bnd hF
  refine pw_cSi (rest := [.ref (ad v0)]) hC hR lsX8_136 (CX8_task e5) ⟨rfl, rfl⟩ rfl hl.1 rfl ⟨Nat.le_of_ble_eq_true rfl, Nat.le_of_ble_eq_true rfl⟩ (Nat.le_of_ble_eq_true rfl) dX8_putToWait_20 ⟨Nat.zero_le _, Nat.zero_le _⟩ (fun H locs hR => ?_)
  refine pw_bipush hC dX8_putToWait_23 rfl ?_
  refine pw_iadd hC dX8_putToWait_25 ?_
  refine pw_iconst hC dX8_putToWait_26 ?_
  obtain ⟨h6, e6, hF⟩ := bnd hF
  refine pw_iast hC hR e6 dX8_putToWait_27 (fun H locs hR => ?_)
  refine lv_aload_n hC.1 hC.2.1 dX8_putToWait_28 rfl (lv_at hl 0 rfl) ?_
  refine lv_iload_n hC.1 hC.2.1 dX8_putToWait_29 rfl (lv_at hl 1 rfl) ?_
  obtain ⟨x7, e7, hF⟩ := bnd hF
  refine pw_cSi (rest := [.ref (ad v0)]) hC hR lsX8_136 (CX8_task e7) ⟨rfl, rfl⟩ rfl hl.1 rfl ⟨Nat.le_of_ble_eq_true rfl, Nat.le_of_ble_eq_true rfl⟩ (Nat.le_of_ble_eq_true rfl) dX8_putToWait_30 ⟨Nat.zero_le _, Nat.zero_le _⟩ (fun H locs hR => ?_)
  refine pw_bipush hC dX8_putToWait_33 rfl ?_
  refine pw_iadd hC dX8_putToWait_35 ?_
  refine pw_iconst hC dX8_putToWait_36 ?_
  obtain ⟨h8, e8, hF⟩ := bnd hF
  refine pw_iast hC hR e8 dX8_putToWait_37 (fun H locs hR => ?_)
  cases hF
  exact pw_vret hC hR dX8_putToWait_38
abbrev rmX8_addTask : Room := { frames := 2, cells := 0, slots := 0, locals := 41 }
def FX8_addTask (h : PH) (v0 : Nat) (v1 : Int) (v2 : Int) (v3 : Int) : Option (Int × PH) :=
  (ald 0 h v0 3).bind fun x1 =>
  (FX8_task h x1).bind fun x2 =>
  (ald 0 h v0 3).bind fun x3 =>
  (ast 0 h v0 3 (x3 + 1)).bind fun h4 =>
  (ast 0 h4 v0 x2 v1).bind fun h5 =>
  (ast 0 h5 v0 (x2 + 1) v2).bind fun h6 =>
  (ast 0 h6 v0 (x2 + 2) v3).bind fun h7 =>
  (ast 0 h7 v0 (x2 + 3) 0).bind fun h8 =>
  (FX8_putToWait h8 v0 x1).bind fun h9 =>
  some (x1, h9)
set_option maxHeartbeats 4000000 in
set_option maxRecDepth 100000 in
theorem CX8_addTask {g : GP} {l : Launch} {ad : Nat → Nat} {h : PH} {v0 : Nat} {v1 : Int} {v2 : Int} {v3 : Int} {q : Int × PH} (hF : FX8_addTask h v0 v1 v2 v3 = some q) : CN g l yX8_addTask cX8_addTask 6 (some .int) rmX8_addTask ad h [.ref (ad v0), .int (Int32.ofInt v1), .int (Int32.ofInt v2), .int (Int32.ofInt v3)] (some (.int (Int32.ofInt q.1))) q.2 := by
  refine pw_met (by decide) (Nat.le_of_ble_eq_true rfl) ?_
  intro p e s m args below meth c ls hC hN hR hl
  have hl : lv_has ls 6 [(0, .ref (ad v0)), (1, .int (Int32.ofInt v1)), (2, .int (Int32.ofInt v2)), (3, .int (Int32.ofInt v3))] := hl
  unfold FX8_addTask at hF
  refine lv_aload_n hC.1 hC.2.1 dX8_addTask_0 rfl (lv_at hl 0 rfl) ?_
  refine pw_iconst hC dX8_addTask_1 ?_
  obtain ⟨x1, e1, hF⟩ := bnd hF
  refine pw_iald hC hR e1 dX8_addTask_2 ?_
  refine lv_istore (lv' := [(4, .int (Int32.ofInt x1)), (0, .ref (ad v0)), (1, .int (Int32.ofInt v1)), (2, .int (Int32.ofInt v2)), (3, .int (Int32.ofInt v3))]) hC.1 hC.2.1 dX8_addTask_3 hl (by decide) rfl (fun ls hl => ?_)
  refine lv_iload hC.1 hC.2.1 dX8_addTask_5 (lv_at hl 0 rfl) ?_
  obtain ⟨x2, e2, hF⟩ := bnd hF
  refine pw_cSi (rest := []) hC hR lsX8_136 (CX8_task e2) ⟨rfl, rfl⟩ rfl hl.1 rfl ⟨Nat.le_of_ble_eq_true rfl, Nat.le_of_ble_eq_true rfl⟩ (Nat.le_of_ble_eq_true rfl) dX8_addTask_7 ⟨Nat.zero_le _, Nat.zero_le _⟩ (fun H locs hR => ?_)
  refine lv_istore (lv' := [(5, .int (Int32.ofInt x2)), (4, .int (Int32.ofInt x1)), (0, .ref (ad v0)), (1, .int (Int32.ofInt v1)), (2, .int (Int32.ofInt v2)), (3, .int (Int32.ofInt v3))]) hC.1 hC.2.1 dX8_addTask_10 hl (by decide) rfl (fun ls hl => ?_)
  refine lv_aload_n hC.1 hC.2.1 dX8_addTask_12 rfl (lv_at hl 2 rfl) ?_
  refine pw_iconst hC dX8_addTask_13 ?_
  refine lv_dup2_11 hC.1 hC.2.1 dX8_addTask_14 rfl rfl ?_
  obtain ⟨x3, e3, hF⟩ := bnd hF
  refine pw_iald hC hR e3 dX8_addTask_15 ?_
  refine pw_iconst hC dX8_addTask_16 ?_
  refine pw_iadd hC dX8_addTask_17 ?_
  obtain ⟨h4, e4, hF⟩ := bnd hF
  refine pw_iast hC hR e4 dX8_addTask_18 (fun H locs hR => ?_)
  refine lv_aload_n hC.1 hC.2.1 dX8_addTask_19 rfl (lv_at hl 2 rfl) ?_
  refine lv_iload hC.1 hC.2.1 dX8_addTask_20 (lv_at hl 0 rfl) ?_
  refine lv_iload_n hC.1 hC.2.1 dX8_addTask_22 rfl (lv_at hl 3 rfl) ?_
  obtain ⟨h5, e5, hF⟩ := bnd hF
  refine pw_iast hC hR e5 dX8_addTask_23 (fun H locs hR => ?_)
  refine lv_aload_n hC.1 hC.2.1 dX8_addTask_24 rfl (lv_at hl 2 rfl) ?_
  refine lv_iload hC.1 hC.2.1 dX8_addTask_25 (lv_at hl 0 rfl) ?_
  refine pw_iconst hC dX8_addTask_27 ?_
  refine pw_iadd hC dX8_addTask_28 ?_
  refine lv_iload_n hC.1 hC.2.1 dX8_addTask_29 rfl (lv_at hl 4 rfl) ?_
  obtain ⟨h6, e6, hF⟩ := bnd hF
  refine pw_iast hC hR e6 dX8_addTask_30 (fun H locs hR => ?_)
  refine lv_aload_n hC.1 hC.2.1 dX8_addTask_31 rfl (lv_at hl 2 rfl) ?_
  refine lv_iload hC.1 hC.2.1 dX8_addTask_32 (lv_at hl 0 rfl) ?_
  refine pw_iconst hC dX8_addTask_34 ?_
  refine pw_iadd hC dX8_addTask_35 ?_
  refine lv_iload_n hC.1 hC.2.1 dX8_addTask_36 rfl (lv_at hl 5 rfl) ?_
  obtain ⟨h7, e7, hF⟩ := bnd hF
  refine pw_iast hC hR e7 dX8_addTask_37 (fun H locs hR => ?_)
  refine lv_aload_n hC.1 hC.2.1 dX8_addTask_38 rfl (lv_at hl 2 rfl) ?_
  refine lv_iload hC.1 hC.2.1 dX8_addTask_39 (lv_at hl 0 rfl) ?_
  refine pw_iconst hC dX8_addTask_41 ?_
  refine pw_iadd hC dX8_addTask_42 ?_
  refine pw_iconst hC dX8_addTask_43 ?_
  obtain ⟨h8, e8, hF⟩ := bnd hF
  refine pw_iast hC hR e8 dX8_addTask_44 (fun H locs hR => ?_)
  refine lv_aload_n hC.1 hC.2.1 dX8_addTask_45 rfl (lv_at hl 2 rfl) ?_
  refine lv_iload hC.1 hC.2.1 dX8_addTask_46 (lv_at hl 1 rfl) ?_
  obtain ⟨h9, e9, hF⟩ := bnd hF
  refine pw_cSv (rest := []) hC hR lsX8_139 (CX8_putToWait e9) ⟨rfl, rfl⟩ rfl hl.1 rfl ⟨Nat.le_of_ble_eq_true rfl, Nat.le_of_ble_eq_true rfl⟩ (Nat.le_of_ble_eq_true rfl) dX8_addTask_48 ⟨Nat.zero_le _, Nat.zero_le _⟩ (fun H locs hR => ?_)
  refine lv_iload hC.1 hC.2.1 dX8_addTask_51 (lv_at hl 1 rfl) ?_
  cases hF
  exact pw_iret hC hR dX8_addTask_53
abbrev rmX8_readFence : Room := { frames := 1, cells := 0, slots := 0, locals := 22 }
def JX8_readFence_18 (h : PH) (v0 : Nat) : Option (PH) :=
  (FX8_isGood h v0).bind fun x3 =>
  if w32 x3 = 0 then (
    some h
  ) else (
    (gfr h 8 v0 9).bind fun x4 =>
    (gfr h 8 v0 9).bind fun x5 =>
    (ald 0 h x5 4).bind fun x6 =>
    (gfr h 8 v0 9).bind fun x7 =>
    (ald 0 h x7 3).bind fun x8 =>
    (ast 0 h x4 (8 + x6) x8).bind fun h9 =>
    (gfr h9 8 v0 9).bind fun x10 =>
    (ald 0 h9 x10 4).bind fun x11 =>
    (ast 0 h9 x10 4 (x11 + 1)).bind fun h12 =>
    some h12
  )
set_option maxHeartbeats 4000000 in
set_option maxRecDepth 100000 in
theorem BX8_readFence_18 {h : PH} {v0 : Nat} (hC : Cx g p s m args meth c cX8_readFence 2 RX8 none) (hR : Rl g ad h s.heap H locs) (hl : lv_has ls 2 [(0, .ref (ad v0))]) {q : PH} (hF : JX8_readFence_18 h v0 = some q) : W p l e rmX8_readFence s m args below meth c H locs 0 0 (MQ below (QcN g ad q none) args s 0 0 (gA g)) (F0 m 18 ls []) := by
  unfold JX8_readFence_18 at hF
  refine lv_aload_n hC.1 hC.2.1 dX8_readFence_18 rfl (lv_at hl 0 rfl) ?_
  obtain ⟨x3, e3, hF⟩ := bnd hF
  obtain ⟨fs3, ho3⟩ := OX8_isGood e3
  refine pw_cVi (rest := []) hC hR lvX8_67 ho3 (CX8_isGood e3) ⟨rfl, rfl⟩ rfl hl.1 rfl ⟨Nat.le_of_ble_eq_true rfl, Nat.le_of_ble_eq_true rfl⟩ (Nat.le_of_ble_eq_true rfl) dX8_readFence_19 ⟨Nat.zero_le _, Nat.zero_le _⟩ (fun H locs hR => ?_)
  refine pw_ifne hC 26 dX8_readFence_22 (by decide) (fun hc => ?_) (fun hc => ?_)
  · rw [if_neg hc] at hF
    refine lv_aload_n hC.1 hC.2.1 dX8_readFence_26 rfl (lv_at hl 0 rfl) ?_
    obtain ⟨x4, e4, hF⟩ := bnd hF
    refine pw_gfr hC hR e4 flX8_20 dX8_readFence_27 ?_
    refine pw_bipush hC dX8_readFence_30 rfl ?_
    refine lv_aload_n hC.1 hC.2.1 dX8_readFence_32 rfl (lv_at hl 0 rfl) ?_
    obtain ⟨x5, e5, hF⟩ := bnd hF
    refine pw_gfr hC hR e5 flX8_20 dX8_readFence_33 ?_
    refine pw_iconst hC dX8_readFence_36 ?_
    obtain ⟨x6, e6, hF⟩ := bnd hF
    refine pw_iald hC hR e6 dX8_readFence_37 ?_
    refine pw_iadd hC dX8_readFence_38 ?_
    refine lv_aload_n hC.1 hC.2.1 dX8_readFence_39 rfl (lv_at hl 0 rfl) ?_
    obtain ⟨x7, e7, hF⟩ := bnd hF
    refine pw_gfr hC hR e7 flX8_20 dX8_readFence_40 ?_
    refine pw_iconst hC dX8_readFence_43 ?_
    obtain ⟨x8, e8, hF⟩ := bnd hF
    refine pw_iald hC hR e8 dX8_readFence_44 ?_
    obtain ⟨h9, e9, hF⟩ := bnd hF
    refine pw_iast hC hR e9 dX8_readFence_45 (fun H locs hR => ?_)
    refine lv_aload_n hC.1 hC.2.1 dX8_readFence_46 rfl (lv_at hl 0 rfl) ?_
    obtain ⟨x10, e10, hF⟩ := bnd hF
    refine pw_gfr hC hR e10 flX8_20 dX8_readFence_47 ?_
    refine pw_iconst hC dX8_readFence_50 ?_
    refine lv_dup2_11 hC.1 hC.2.1 dX8_readFence_51 rfl rfl ?_
    obtain ⟨x11, e11, hF⟩ := bnd hF
    refine pw_iald hC hR e11 dX8_readFence_52 ?_
    refine pw_iconst hC dX8_readFence_53 ?_
    refine pw_iadd hC dX8_readFence_54 ?_
    obtain ⟨h12, e12, hF⟩ := bnd hF
    refine pw_iast hC hR e12 dX8_readFence_55 (fun H locs hR => ?_)
    cases hF
    exact pw_vret hC hR dX8_readFence_56
  · rw [if_pos hc] at hF
    cases hF
    exact pw_vret hC hR dX8_readFence_25
def FX8_readFence (h : PH) (v0 : Nat) (v1 : Int) : Option (PH) :=
  (isO h 8 v0).bind fun _ =>
  (gfr h 8 v0 9).bind fun x1 =>
  (ald 0 h x1 4).bind fun x2 =>
  if w32 x2 = w32 8 then (
    (FX8_report h v0 (-4) v1).bind fun h13 =>
    JX8_readFence_18 h13 v0
  ) else (
    JX8_readFence_18 h v0
  )
theorem OX8_readFence {h : PH} {v0 : Nat} {v1 : Int} {q : PH} (hF : FX8_readFence h v0 v1 = some q) : ∃ fs : List PV, h[v0]? = some (.inr (8, fs)) := by
  unfold FX8_readFence at hF
  obtain ⟨u0, e0, -⟩ := bnd hF
  exact isO_spec e0
set_option maxHeartbeats 4000000 in
set_option maxRecDepth 100000 in
theorem CX8_readFence {g : GP} {l : Launch} {ad : Nat → Nat} {h : PH} {v0 : Nat} {v1 : Int} {q : PH} (hF : FX8_readFence h v0 v1 = some q) : CN g l yX8_readFence cX8_readFence 2 none rmX8_readFence ad h [.ref (ad v0), .int (Int32.ofInt v1)] none q := by
  refine pw_met (by decide) (Nat.le_of_ble_eq_true rfl) ?_
  intro p e s m args below meth c ls hC hN hR hl
  have hl : lv_has ls 2 [(0, .ref (ad v0)), (1, .int (Int32.ofInt v1))] := hl
  unfold FX8_readFence at hF
  obtain ⟨u0, e0, hF⟩ := bnd hF
  refine lv_aload_n hC.1 hC.2.1 dX8_readFence_0 rfl (lv_at hl 0 rfl) ?_
  obtain ⟨x1, e1, hF⟩ := bnd hF
  refine pw_gfr hC hR e1 flX8_20 dX8_readFence_1 ?_
  refine pw_iconst hC dX8_readFence_4 ?_
  obtain ⟨x2, e2, hF⟩ := bnd hF
  refine pw_iald hC hR e2 dX8_readFence_5 ?_
  refine pw_bipush hC dX8_readFence_6 rfl ?_
  refine pw_icmpne hC 18 dX8_readFence_8 (by decide) (fun hc => ?_) (fun hc => ?_)
  · rw [if_neg hc] at hF
    exact BX8_readFence_18 hC hR (lv_sub hl [0] rfl) hF
  · rw [if_pos hc] at hF
    refine lv_aload_n hC.1 hC.2.1 dX8_readFence_11 rfl (lv_at hl 0 rfl) ?_
    refine pw_bipush hC dX8_readFence_12 rfl ?_
    refine lv_iload_n hC.1 hC.2.1 dX8_readFence_14 rfl (lv_at hl 1 rfl) ?_
    obtain ⟨h13, e13, hF⟩ := bnd hF
    obtain ⟨fs13, ho13⟩ := OX8_report e13
    refine pw_cVv (rest := []) hC hR lvX8_84 ho13 (CX8_report e13) ⟨rfl, rfl⟩ rfl hl.1 rfl ⟨Nat.le_of_ble_eq_true rfl, Nat.le_of_ble_eq_true rfl⟩ (Nat.le_of_ble_eq_true rfl) dX8_readFence_15 ⟨Nat.zero_le _, Nat.zero_le _⟩ (fun H locs hR => ?_)
    exact BX8_readFence_18 hC hR (lv_sub hl [0] rfl) hF
abbrev rmX8_remember : Room := { frames := 1, cells := 0, slots := 0, locals := 22 }
def JX8_remember_50 (h : PH) (v0 : Nat) : Option (PH) :=
  (gfr h 8 v0 8).bind fun x2 =>
  (gfr h 8 v0 11).bind fun x3 =>
  (gfi h 8 v0 12).bind fun x4 =>
  (rld h 10 x3 x4).bind fun x5 =>
  (FX8_copy h x2 x5).bind fun h6 =>
  (gfi h6 8 v0 12).bind fun x7 =>
  (pfi h6 8 v0 12 (x7 + 1)).bind fun h8 =>
  some h8
set_option maxHeartbeats 4000000 in
set_option maxRecDepth 100000 in
theorem BX8_remember_50 {h : PH} {v0 : Nat} (hC : Cx g p s m args meth c cX8_remember 2 RX8 none) (hR : Rl g ad h s.heap H locs) (hl : lv_has ls 2 [(0, .ref (ad v0))]) {q : PH} (hF : JX8_remember_50 h v0 = some q) : W p l e rmX8_remember s m args below meth c H locs 0 0 (MQ below (QcN g ad q none) args s 0 0 (gA g)) (F0 m 50 ls []) := by
  unfold JX8_remember_50 at hF
  refine lv_aload_n hC.1 hC.2.1 dX8_remember_50 rfl (lv_at hl 0 rfl) ?_
  obtain ⟨x2, e2, hF⟩ := bnd hF
  refine pw_gfr hC hR e2 flX8_17 dX8_remember_51 ?_
  refine lv_aload_n hC.1 hC.2.1 dX8_remember_54 rfl (lv_at hl 0 rfl) ?_
  obtain ⟨x3, e3, hF⟩ := bnd hF
  refine pw_gfr hC hR e3 flX8_28 dX8_remember_55 ?_
  refine lv_aload_n hC.1 hC.2.1 dX8_remember_58 rfl (lv_at hl 0 rfl) ?_
  obtain ⟨x4, e4, hF⟩ := bnd hF
  refine pw_gfi hC hR e4 flX8_252 dX8_remember_59 ?_
  obtain ⟨x5, e5, hF⟩ := bnd hF
  refine pw_rald10 hC hR e5 dX8_remember_62 ?_
  obtain ⟨h6, e6, hF⟩ := bnd hF
  refine pw_cSv (rest := []) hC hR lsX8_178 (CX8_copy e6) ⟨rfl, rfl⟩ rfl hl.1 rfl ⟨Nat.le_of_ble_eq_true rfl, Nat.le_of_ble_eq_true rfl⟩ (Nat.le_of_ble_eq_true rfl) dX8_remember_63 ⟨Nat.zero_le _, Nat.zero_le _⟩ (fun H locs hR => ?_)
  refine lv_aload_n hC.1 hC.2.1 dX8_remember_66 rfl (lv_at hl 0 rfl) ?_
  refine lv_dup hC.1 hC.2.1 dX8_remember_67 rfl ?_
  obtain ⟨x7, e7, hF⟩ := bnd hF
  refine pw_gfi hC hR e7 flX8_252 dX8_remember_68 ?_
  refine pw_iconst hC dX8_remember_71 ?_
  refine pw_iadd hC dX8_remember_72 ?_
  obtain ⟨h8, e8, hF⟩ := bnd hF
  refine pw_pfi hC hR e8 fpX8_252 (Or.inl rfl) dX8_remember_73 (fun H locs hR => ?_)
  cases hF
  exact pw_vret hC hR dX8_remember_76
def LX8_remember_11 (v0 : Nat) (v1 : Int) (h : PH) : Option ((Int × PH) ⊕ (PH)) :=
  if w32 v1 < w32 8 then (
    (gfr h 8 v0 11).bind fun x9 =>
    (rld h 10 x9 v1).bind fun x10 =>
    (gfr h 8 v0 11).bind fun x11 =>
    (rld h 10 x11 (v1 - 1)).bind fun x12 =>
    (FX8_copy h x10 x12).bind fun h13 =>
    some (.inl ((v1 + 1), h13))
  ) else (
    some (.inr h)
  )
set_option maxHeartbeats 4000000 in
set_option maxRecDepth 100000 in
theorem LRX8_remember_11 {v0 : Nat} {Q : State → Prop} (hC : Cx g p s m args meth c cX8_remember 2 RX8 none) : ∀ (n : Nat) (st : Int × PH) (ex : PH), lp (fun st : Int × PH => LX8_remember_11 v0 st.1 st.2) n st = some ex → (fun ex : PH => ∀ (H : Heap) (locs : List Loc) (ls : Array Slot), Rl g ad ex s.heap H locs → lv_has ls 2 [(0, .ref (ad v0))] → W p l e rmX8_remember s m args below meth c H locs 0 0 Q (F0 m 40 ls [])) ex → ∀ (H : Heap) (locs : List Loc) (ls : Array Slot), Rl g ad st.2 s.heap H locs → lv_has ls 2 [(0, .ref (ad v0)), (1, .int (Int32.ofInt st.1))] → W p l e rmX8_remember s m args below meth c H locs 0 0 Q (F0 m 11 ls []) := by
  refine lp_rule (Ph := (fun st : Int × PH => ∀ (H : Heap) (locs : List Loc) (ls : Array Slot), Rl g ad st.2 s.heap H locs → lv_has ls 2 [(0, .ref (ad v0)), (1, .int (Int32.ofInt st.1))] → W p l e rmX8_remember s m args below meth c H locs 0 0 Q (F0 m 11 ls []))) (Px := (fun ex : PH => ∀ (H : Heap) (locs : List Loc) (ls : Array Slot), Rl g ad ex s.heap H locs → lv_has ls 2 [(0, .ref (ad v0))] → W p l e rmX8_remember s m args below meth c H locs 0 0 Q (F0 m 40 ls []))) ?_
  rintro ⟨v1, h⟩ o hF hK H locs ls hR hl
  have hR : Rl g ad h s.heap H locs := hR
  have hl : lv_has ls 2 [(0, .ref (ad v0)), (1, .int (Int32.ofInt v1))] := hl
  have hF : LX8_remember_11 v0 v1 h = some o := hF
  unfold LX8_remember_11 at hF
  refine lv_iload_n hC.1 hC.2.1 dX8_remember_11 rfl (lv_at hl 1 rfl) ?_
  refine pw_bipush hC dX8_remember_12 rfl ?_
  refine pw_icmpge hC 40 dX8_remember_14 (by decide) (fun hc => ?_) (fun hc => ?_)
  · rw [if_neg hc] at hF
    cases hF
    exact hK _ _ _ hR (lv_sub hl [0] rfl)
  · rw [if_pos hc] at hF
    refine lv_aload_n hC.1 hC.2.1 dX8_remember_17 rfl (lv_at hl 0 rfl) ?_
    obtain ⟨x9, e9, hF⟩ := bnd hF
    refine pw_gfr hC hR e9 flX8_28 dX8_remember_18 ?_
    refine lv_iload_n hC.1 hC.2.1 dX8_remember_21 rfl (lv_at hl 1 rfl) ?_
    obtain ⟨x10, e10, hF⟩ := bnd hF
    refine pw_rald10 hC hR e10 dX8_remember_22 ?_
    refine lv_aload_n hC.1 hC.2.1 dX8_remember_23 rfl (lv_at hl 0 rfl) ?_
    obtain ⟨x11, e11, hF⟩ := bnd hF
    refine pw_gfr hC hR e11 flX8_28 dX8_remember_24 ?_
    refine lv_iload_n hC.1 hC.2.1 dX8_remember_27 rfl (lv_at hl 1 rfl) ?_
    refine pw_iconst hC dX8_remember_28 ?_
    refine pw_isub hC dX8_remember_29 ?_
    obtain ⟨x12, e12, hF⟩ := bnd hF
    refine pw_rald10 hC hR e12 dX8_remember_30 ?_
    obtain ⟨h13, e13, hF⟩ := bnd hF
    refine pw_cSv (rest := []) hC hR lsX8_178 (CX8_copy e13) ⟨rfl, rfl⟩ rfl hl.1 rfl ⟨Nat.le_of_ble_eq_true rfl, Nat.le_of_ble_eq_true rfl⟩ (Nat.le_of_ble_eq_true rfl) dX8_remember_31 ⟨Nat.zero_le _, Nat.zero_le _⟩ (fun H locs hR => ?_)
    refine pw_iinc (lv' := [(1, .int (Int32.ofInt (v1 + 1))), (0, .ref (ad v0))]) hC hl 1 dX8_remember_34 rfl (by decide) rfl (fun ls hl => ?_)
    refine pw_goto hC 11 dX8_remember_37 (by decide) ?_
    cases hF
    exact hK _ _ _ hR (lv_sub hl [1, 0] rfl)
def FX8_remember (h : PH) (v0 : Nat) : Option (PH) :=
  (isO h 8 v0).bind fun _ =>
  (gfi h 8 v0 12).bind fun x1 =>
  if w32 x1 = w32 8 then (
    (lp (fun st : Int × PH => LX8_remember_11 v0 st.1 st.2) FU (1, h)).bind fun ex14 =>
    (gfi ex14 8 v0 12).bind fun x15 =>
    (pfi ex14 8 v0 12 (x15 - 1)).bind fun h16 =>
    JX8_remember_50 h16 v0
  ) else (
    JX8_remember_50 h v0
  )
theorem OX8_remember {h : PH} {v0 : Nat} {q : PH} (hF : FX8_remember h v0 = some q) : ∃ fs : List PV, h[v0]? = some (.inr (8, fs)) := by
  unfold FX8_remember at hF
  obtain ⟨u0, e0, -⟩ := bnd hF
  exact isO_spec e0
set_option maxHeartbeats 4000000 in
set_option maxRecDepth 100000 in
theorem CX8_remember {g : GP} {l : Launch} {ad : Nat → Nat} {h : PH} {v0 : Nat} {q : PH} (hF : FX8_remember h v0 = some q) : CN g l yX8_remember cX8_remember 2 none rmX8_remember ad h [.ref (ad v0)] none q := by
  refine pw_met (by decide) (Nat.le_of_ble_eq_true rfl) ?_
  intro p e s m args below meth c ls hC hN hR hl
  have hl : lv_has ls 2 [(0, .ref (ad v0))] := hl
  unfold FX8_remember at hF
  obtain ⟨u0, e0, hF⟩ := bnd hF
  refine lv_aload_n hC.1 hC.2.1 dX8_remember_0 rfl (lv_at hl 0 rfl) ?_
  obtain ⟨x1, e1, hF⟩ := bnd hF
  refine pw_gfi hC hR e1 flX8_252 dX8_remember_1 ?_
  refine pw_bipush hC dX8_remember_4 rfl ?_
  refine pw_icmpne hC 50 dX8_remember_6 (by decide) (fun hc => ?_) (fun hc => ?_)
  · rw [if_neg hc] at hF
    exact BX8_remember_50 hC hR (lv_sub hl [0] rfl) hF
  · rw [if_pos hc] at hF
    refine pw_iconst hC dX8_remember_9 ?_
    refine lv_istore_n (lv' := [(1, .int (Int32.ofInt 1)), (0, .ref (ad v0))]) hC.1 hC.2.1 dX8_remember_10 rfl hl (by decide) rfl (fun ls hl => ?_)
    obtain ⟨ex14, e14, hF⟩ := bnd hF
    refine LRX8_remember_11 hC FU _ ex14 e14 ?_ _ _ _ hR (lv_sub hl [1, 0] rfl)
    intro H locs ls hR hl
    refine lv_aload_n hC.1 hC.2.1 dX8_remember_40 rfl (lv_at hl 0 rfl) ?_
    refine lv_dup hC.1 hC.2.1 dX8_remember_41 rfl ?_
    obtain ⟨x15, e15, hF⟩ := bnd hF
    refine pw_gfi hC hR e15 flX8_252 dX8_remember_42 ?_
    refine pw_iconst hC dX8_remember_45 ?_
    refine pw_isub hC dX8_remember_46 ?_
    obtain ⟨h16, e16, hF⟩ := bnd hF
    refine pw_pfi hC hR e16 fpX8_252 (Or.inl rfl) dX8_remember_47 (fun H locs hR => ?_)
    exact BX8_remember_50 hC hR (lv_sub hl [0] rfl) hF
abbrev rmX8_errorOffset : Room := { frames := 0, cells := 0, slots := 0, locals := 0 }
def FX8_errorOffset (h : PH) (v0 : Nat) : Option (Int × PH) :=
  (isO h 8 v0).bind fun _ =>
  (pfi h 8 v0 0 0).bind fun h1 =>
  (gfi h1 8 v0 7).bind fun x2 =>
  some (x2, h1)
theorem OX8_errorOffset {h : PH} {v0 : Nat} {q : Int × PH} (hF : FX8_errorOffset h v0 = some q) : ∃ fs : List PV, h[v0]? = some (.inr (8, fs)) := by
  unfold FX8_errorOffset at hF
  obtain ⟨u0, e0, -⟩ := bnd hF
  exact isO_spec e0
set_option maxHeartbeats 4000000 in
set_option maxRecDepth 100000 in
theorem CX8_errorOffset {g : GP} {l : Launch} {ad : Nat → Nat} {h : PH} {v0 : Nat} {q : Int × PH} (hF : FX8_errorOffset h v0 = some q) : CN g l yX8_errorOffset cX8_errorOffset 1 (some .int) rmX8_errorOffset ad h [.ref (ad v0)] (some (.int (Int32.ofInt q.1))) q.2 := by
  refine pw_met (by decide) (Nat.le_of_ble_eq_true rfl) ?_
  intro p e s m args below meth c ls hC hN hR hl
  have hl : lv_has ls 1 [(0, .ref (ad v0))] := hl
  unfold FX8_errorOffset at hF
  obtain ⟨u0, e0, hF⟩ := bnd hF
  refine lv_aload_n hC.1 hC.2.1 dX8_errorOffset_0 rfl (lv_at hl 0 rfl) ?_
  refine pw_iconst hC dX8_errorOffset_1 ?_
  obtain ⟨h1, e1, hF⟩ := bnd hF
  refine pw_pfi hC hR e1 fpX8_38 (Or.inl rfl) dX8_errorOffset_2 (fun H locs hR => ?_)
  refine lv_aload_n hC.1 hC.2.1 dX8_errorOffset_5 rfl (lv_at hl 0 rfl) ?_
  obtain ⟨x2, e2, hF⟩ := bnd hF
  refine pw_gfi hC hR e2 flX8_13 dX8_errorOffset_6 ?_
  cases hF
  exact pw_iret hC hR dX8_errorOffset_9
abbrev rmX8_limited : Room := { frames := 0, cells := 0, slots := 0, locals := 0 }
def JX8_limited_29 (h : PH) (s0 : Int) : Option (Int) :=
  some s0
set_option maxHeartbeats 4000000 in
set_option maxRecDepth 100000 in
theorem BX8_limited_29 {h : PH} {s0 : Int} (hC : Cx g p s m args meth c cX8_limited 2 RX8 (some .long)) (hR : Rl g ad h s.heap H locs) (hl : lv_has ls 2 []) {q : Int} (hF : JX8_limited_29 h s0 = some q) : W p l e rmX8_limited s m args below meth c H locs 0 0 (MQ below (QcN g ad h (some (.long (Int64.ofInt q)))) args s 0 0 (gA g)) (F0 m 29 ls [.long (Int64.ofInt s0)]) := by
  unfold JX8_limited_29 at hF
  cases hF
  exact pw_lret hC hR dX8_limited_29
def FX8_limited (h : PH) (v0 : Int) : Option (Int) :=
  if 0 < w32 (cmpL v0 1000000) then (
    JX8_limited_29 h 1000000
  ) else (
    if w32 (cmpL v0 (-1000000)) < 0 then (
      JX8_limited_29 h (-1000000)
    ) else (
      JX8_limited_29 h v0
    )
  )
set_option maxHeartbeats 4000000 in
set_option maxRecDepth 100000 in
theorem CX8_limited {g : GP} {l : Launch} {ad : Nat → Nat} {h : PH} {v0 : Int} {q : Int} (hF : FX8_limited h v0 = some q) : CN g l yX8_limited cX8_limited 2 (some .long) rmX8_limited ad h [.long (Int64.ofInt v0)] (some (.long (Int64.ofInt q))) h := by
  refine pw_met (by decide) (Nat.le_of_ble_eq_true rfl) ?_
  intro p e s m args below meth c ls hC hN hR hl
  have hl : lv_has ls 2 [(0, .long (Int64.ofInt v0))] := hl
  unfold FX8_limited at hF
  refine lv_lload_n hC.1 hC.2.1 dX8_limited_0 rfl (lv_at hl 0 rfl) ?_
  refine pw_ldc2 hC 1000000 kcX8_182 dX8_limited_1 ?_
  refine pw_lcmp hC dX8_limited_4 ?_
  refine pw_ifle hC 14 dX8_limited_5 (by decide) (fun hc => ?_) (fun hc => ?_)
  · rw [if_neg hc] at hF
    refine lv_lload_n hC.1 hC.2.1 dX8_limited_14 rfl (lv_at hl 0 rfl) ?_
    refine pw_ldc2 hC (-1000000) kcX8_184 dX8_limited_15 ?_
    refine pw_lcmp hC dX8_limited_18 ?_
    refine pw_ifge hC 28 dX8_limited_19 (by decide) (fun hc => ?_) (fun hc => ?_)
    · rw [if_neg hc] at hF
      refine lv_lload_n hC.1 hC.2.1 dX8_limited_28 rfl (lv_at hl 0 rfl) ?_
      exact BX8_limited_29 hC hR (lv_sub hl [] rfl) hF
    · rw [if_pos hc] at hF
      refine pw_ldc2 hC (-1000000) kcX8_184 dX8_limited_22 ?_
      refine pw_goto hC 29 dX8_limited_25 (by decide) ?_
      exact BX8_limited_29 hC hR (lv_sub hl [] rfl) hF
  · rw [if_pos hc] at hF
    refine pw_ldc2 hC 1000000 kcX8_182 dX8_limited_8 ?_
    refine pw_goto hC 29 dX8_limited_11 (by decide) ?_
    exact BX8_limited_29 hC hR (lv_sub hl [] rfl) hF
abbrev rmX8_operate : Room := { frames := 1, cells := 0, slots := 0, locals := 21 }
def JX8_operate_44 (h : PH) (s0 : Int) : Option (Int) :=
  (FX8_limited h s0).bind fun x1 =>
  some x1
set_option maxHeartbeats 4000000 in
set_option maxRecDepth 100000 in
theorem BX8_operate_44 {h : PH} {s0 : Int} (hC : Cx g p s m args meth c cX8_operate 5 RX8 (some .long)) (hR : Rl g ad h s.heap H locs) (hl : lv_has ls 5 []) {q : Int} (hF : JX8_operate_44 h s0 = some q) : W p l e rmX8_operate s m args below meth c H locs 0 0 (MQ below (QcN g ad h (some (.long (Int64.ofInt q)))) args s 0 0 (gA g)) (F0 m 44 ls [.long (Int64.ofInt s0)]) := by
  unfold JX8_operate_44 at hF
  obtain ⟨x1, e1, hF⟩ := bnd hF
  refine pw_cSl (rest := []) hC hR lsX8_186 (CX8_limited e1) ⟨rfl, rfl⟩ rfl hl.1 rfl ⟨Nat.le_of_ble_eq_true rfl, Nat.le_of_ble_eq_true rfl⟩ (Nat.le_of_ble_eq_true rfl) dX8_operate_44 ⟨Nat.zero_le _, Nat.zero_le _⟩ (fun H locs hR => ?_)
  cases hF
  exact pw_lret hC hR dX8_operate_47
def JX8_operate_18 (h : PH) (s0 : Int) : Option (Int) :=
  some s0
set_option maxHeartbeats 4000000 in
set_option maxRecDepth 100000 in
theorem BX8_operate_18 {h : PH} {s0 : Int} (hC : Cx g p s m args meth c cX8_operate 5 RX8 (some .long)) (hR : Rl g ad h s.heap H locs) (hl : lv_has ls 5 []) {q : Int} (hF : JX8_operate_18 h s0 = some q) : W p l e rmX8_operate s m args below meth c H locs 0 0 (MQ below (QcN g ad h (some (.long (Int64.ofInt q)))) args s 0 0 (gA g)) (F0 m 18 ls [.long (Int64.ofInt s0)]) := by
  unfold JX8_operate_18 at hF
  cases hF
  exact pw_lret hC hR dX8_operate_18
def FX8_operate (h : PH) (v0 : Int) (v1 : Int) (v3 : Int) : Option (Int) :=
  if w32 v0 = w32 5 then (
    if w32 (cmpL v3 0) = 0 then (
      JX8_operate_18 h 0
    ) else (
      if w64 v3 = 0 then none else
      JX8_operate_18 h (divL v1 v3)
    )
  ) else (
    if w32 v0 = w32 2 then (
      JX8_operate_44 h (v1 + v3)
    ) else (
      if w32 v0 = w32 3 then (
        JX8_operate_44 h (v1 - v3)
      ) else (
        JX8_operate_44 h (v1 * v3)
      )
    )
  )
set_option maxHeartbeats 4000000 in
set_option maxRecDepth 100000 in
theorem CX8_operate {g : GP} {l : Launch} {ad : Nat → Nat} {h : PH} {v0 : Int} {v1 : Int} {v3 : Int} {q : Int} (hF : FX8_operate h v0 v1 v3 = some q) : CN g l yX8_operate cX8_operate 5 (some .long) rmX8_operate ad h [.int (Int32.ofInt v0), .long (Int64.ofInt v1), .long (Int64.ofInt v3)] (some (.long (Int64.ofInt q))) h := by
  refine pw_met (by decide) (Nat.le_of_ble_eq_true rfl) ?_
  intro p e s m args below meth c ls hC hN hR hl
  have hl : lv_has ls 5 [(0, .int (Int32.ofInt v0)), (1, .long (Int64.ofInt v1)), (3, .long (Int64.ofInt v3))] := hl
  unfold FX8_operate at hF
  refine lv_iload_n hC.1 hC.2.1 dX8_operate_0 rfl (lv_at hl 0 rfl) ?_
  refine pw_iconst hC dX8_operate_1 ?_
  refine pw_icmpne hC 19 dX8_operate_2 (by decide) (fun hc => ?_) (fun hc => ?_)
  · rw [if_neg hc] at hF
    refine lv_iload_n hC.1 hC.2.1 dX8_operate_19 rfl (lv_at hl 0 rfl) ?_
    refine pw_iconst hC dX8_operate_20 ?_
    refine pw_icmpne hC 30 dX8_operate_21 (by decide) (fun hc => ?_) (fun hc => ?_)
    · rw [if_neg hc] at hF
      refine lv_iload_n hC.1 hC.2.1 dX8_operate_30 rfl (lv_at hl 0 rfl) ?_
      refine pw_iconst hC dX8_operate_31 ?_
      refine pw_icmpne hC 41 dX8_operate_32 (by decide) (fun hc => ?_) (fun hc => ?_)
      · rw [if_neg hc] at hF
        refine lv_lload_n hC.1 hC.2.1 dX8_operate_41 rfl (lv_at hl 1 rfl) ?_
        refine lv_lload_n hC.1 hC.2.1 dX8_operate_42 rfl (lv_at hl 2 rfl) ?_
        refine pw_lmul hC dX8_operate_43 ?_
        exact BX8_operate_44 hC hR (lv_sub hl [] rfl) hF
      · rw [if_pos hc] at hF
        refine lv_lload_n hC.1 hC.2.1 dX8_operate_35 rfl (lv_at hl 1 rfl) ?_
        refine lv_lload_n hC.1 hC.2.1 dX8_operate_36 rfl (lv_at hl 2 rfl) ?_
        refine pw_lsub hC dX8_operate_37 ?_
        refine pw_goto hC 44 dX8_operate_38 (by decide) ?_
        exact BX8_operate_44 hC hR (lv_sub hl [] rfl) hF
    · rw [if_pos hc] at hF
      refine lv_lload_n hC.1 hC.2.1 dX8_operate_24 rfl (lv_at hl 1 rfl) ?_
      refine lv_lload_n hC.1 hC.2.1 dX8_operate_25 rfl (lv_at hl 2 rfl) ?_
      refine pw_ladd hC dX8_operate_26 ?_
      refine pw_goto hC 44 dX8_operate_27 (by decide) ?_
      exact BX8_operate_44 hC hR (lv_sub hl [] rfl) hF
  · rw [if_pos hc] at hF
    refine lv_lload_n hC.1 hC.2.1 dX8_operate_5 rfl (lv_at hl 2 rfl) ?_
    refine pw_lconst hC 0 dX8_operate_6 rfl ?_
    refine pw_lcmp hC dX8_operate_7 ?_
    refine pw_ifne hC 15 dX8_operate_8 (by decide) (fun hc => ?_) (fun hc => ?_)
    · rw [if_neg hc] at hF
      refine lv_lload_n hC.1 hC.2.1 dX8_operate_15 rfl (lv_at hl 1 rfl) ?_
      refine lv_lload_n hC.1 hC.2.1 dX8_operate_16 rfl (lv_at hl 2 rfl) ?_
      by_cases hn2 : w64 v3 = 0
      · rw [if_pos hn2] at hF; cases hF
      rw [if_neg hn2] at hF
      refine pw_ldiv hC hn2 dX8_operate_17 ?_
      exact BX8_operate_18 hC hR (lv_sub hl [] rfl) hF
    · rw [if_pos hc] at hF
      refine pw_lconst hC 0 dX8_operate_11 rfl ?_
      refine pw_goto hC 18 dX8_operate_12 (by decide) ?_
      exact BX8_operate_18 hC hR (lv_sub hl [] rfl) hF
abbrev rmX8_lengthOf : Room := { frames := 2, cells := 0, slots := 0, locals := 45 }
def JX8_lengthOf_168 (h : PH) (v0 : Nat) (v1 : Nat) (v2 : Int) (v3 : Int) (v4 : Int) (v5 : Int) : Option ((Int × Int × PH) ⊕ (PH)) :=
  some (.inl (v4, (v5 + 1), h))
set_option maxHeartbeats 4000000 in
set_option maxRecDepth 100000 in
theorem BX8_lengthOf_168 {h : PH} {v0 : Nat} {v1 : Nat} {v2 : Int} {v3 : Int} {v4 : Int} {v5 : Int} (hC : Cx g p s m args meth c cX8_lengthOf 8 RX8 (some .int)) (hR : Rl g ad h s.heap H locs) (hl : lv_has ls 8 [(0, .ref (ad v0)), (1, .ref (ad v1)), (2, .int (Int32.ofInt v2)), (3, .int (Int32.ofInt v3)), (4, .int (Int32.ofInt v4)), (5, .int (Int32.ofInt v5))]) {Q : State → Prop} {o : (Int × Int × PH) ⊕ (PH)} (hF : JX8_lengthOf_168 h v0 v1 v2 v3 v4 v5 = some o) (hK : Sum.elim (fun st : Int × Int × PH => ∀ (H : Heap) (locs : List Loc) (ls : Array Slot), Rl g ad st.2.2 s.heap H locs → lv_has ls 8 [(0, .ref (ad v0)), (1, .ref (ad v1)), (2, .int (Int32.ofInt v2)), (3, .int (Int32.ofInt v3)), (4, .int (Int32.ofInt st.1)), (5, .int (Int32.ofInt st.2.1))] → W p l e rmX8_lengthOf s m args below meth c H locs 0 0 Q (F0 m 20 ls [])) (fun ex : PH => ∀ (H : Heap) (locs : List Loc) (ls : Array Slot), Rl g ad ex s.heap H locs → lv_has ls 8 [(0, .ref (ad v0))] → W p l e rmX8_lengthOf s m args below meth c H locs 0 0 Q (F0 m 174 ls [])) o) : W p l e rmX8_lengthOf s m args below meth c H locs 0 0 Q (F0 m 168 ls []) := by
  unfold JX8_lengthOf_168 at hF
  refine pw_iinc (lv' := [(5, .int (Int32.ofInt (v5 + 1))), (0, .ref (ad v0)), (1, .ref (ad v1)), (2, .int (Int32.ofInt v2)), (3, .int (Int32.ofInt v3)), (4, .int (Int32.ofInt v4))]) hC hl 5 dX8_lengthOf_168 rfl (by decide) rfl (fun ls hl => ?_)
  refine pw_goto hC 20 dX8_lengthOf_171 (by decide) ?_
  cases hF
  exact hK _ _ _ hR (lv_sub hl [1, 2, 3, 4, 5, 0] rfl)
def JX8_lengthOf_128 (h : PH) (v0 : Nat) (v1 : Nat) (v2 : Int) (v3 : Int) (v4 : Int) (v5 : Int) (s0 : Int) (s1 : Int) (s2 : Nat) : Option ((Int × Int × PH) ⊕ (PH)) :=
  (ast 3 h s2 s1 s0).bind fun h15 =>
  JX8_lengthOf_168 h15 v0 v1 v2 v3 (v4 + 1) v5
set_option maxHeartbeats 4000000 in
set_option maxRecDepth 100000 in
theorem BX8_lengthOf_128 {h : PH} {v0 : Nat} {v1 : Nat} {v2 : Int} {v3 : Int} {v4 : Int} {v5 : Int} {s0 : Int} {s1 : Int} {s2 : Nat} (hC : Cx g p s m args meth c cX8_lengthOf 8 RX8 (some .int)) (hR : Rl g ad h s.heap H locs) (hl : lv_has ls 8 [(0, .ref (ad v0)), (1, .ref (ad v1)), (2, .int (Int32.ofInt v2)), (3, .int (Int32.ofInt v3)), (4, .int (Int32.ofInt v4)), (5, .int (Int32.ofInt v5))]) {Q : State → Prop} {o : (Int × Int × PH) ⊕ (PH)} (hF : JX8_lengthOf_128 h v0 v1 v2 v3 v4 v5 s0 s1 s2 = some o) (hK : Sum.elim (fun st : Int × Int × PH => ∀ (H : Heap) (locs : List Loc) (ls : Array Slot), Rl g ad st.2.2 s.heap H locs → lv_has ls 8 [(0, .ref (ad v0)), (1, .ref (ad v1)), (2, .int (Int32.ofInt v2)), (3, .int (Int32.ofInt v3)), (4, .int (Int32.ofInt st.1)), (5, .int (Int32.ofInt st.2.1))] → W p l e rmX8_lengthOf s m args below meth c H locs 0 0 Q (F0 m 20 ls [])) (fun ex : PH => ∀ (H : Heap) (locs : List Loc) (ls : Array Slot), Rl g ad ex s.heap H locs → lv_has ls 8 [(0, .ref (ad v0))] → W p l e rmX8_lengthOf s m args below meth c H locs 0 0 Q (F0 m 174 ls [])) o) : W p l e rmX8_lengthOf s m args below meth c H locs 0 0 Q (F0 m 128 ls [.long (Int64.ofInt s0), .int (Int32.ofInt s1), .ref (ad s2)]) := by
  unfold JX8_lengthOf_128 at hF
  obtain ⟨h15, e15, hF⟩ := bnd hF
  refine pw_last hC hR e15 dX8_lengthOf_128 (fun H locs hR => ?_)
  refine pw_iinc (lv' := [(4, .int (Int32.ofInt (v4 + 1))), (0, .ref (ad v0)), (1, .ref (ad v1)), (2, .int (Int32.ofInt v2)), (3, .int (Int32.ofInt v3)), (5, .int (Int32.ofInt v5))]) hC hl 4 dX8_lengthOf_129 rfl (by decide) rfl (fun ls hl => ?_)
  refine pw_goto hC 168 dX8_lengthOf_132 (by decide) ?_
  exact BX8_lengthOf_168 hC hR (lv_sub hl [1, 2, 3, 4, 0, 5] rfl) hF hK
def LX8_lengthOf_20 (v0 : Nat) (v1 : Nat) (v2 : Int) (v3 : Int) (v4 : Int) (v5 : Int) (h : PH) : Option ((Int × Int × PH) ⊕ (PH)) :=
  (ald 0 h v1 7).bind fun x2 =>
  if w32 v5 < w32 x2 then (
    (ald 0 h v1 (324 + v5)).bind fun x3 =>
    if w32 1 < w32 x3 then (
      (gfr h 8 v0 16).bind fun x4 =>
      (gfr h 8 v0 16).bind fun x5 =>
      (ald 3 h x5 ((v4 + -1) - 1)).bind fun x6 =>
      (gfr h 8 v0 16).bind fun x7 =>
      (ald 3 h x7 (v4 + -1)).bind fun x8 =>
      (FX8_operate h x3 x6 x8).bind fun x9 =>
      (ast 3 h x4 ((v4 + -1) - 1) x9).bind fun h10 =>
      JX8_lengthOf_168 h10 v0 v1 v2 v3 (v4 + -1) v5
    ) else (
      (ald 0 h v1 (324 + (v5 + 1))).bind fun x11 =>
      (gfr h 8 v0 16).bind fun x12 =>
      if w32 x3 = 0 then (
        JX8_lengthOf_128 h v0 v1 v2 v3 v4 (v5 + 1) (w32 x11) v4 x12
      ) else (
        if w32 x11 = 0 then (
          (FX8_task h v2).bind fun x18 =>
          (ald 0 h v1 x18).bind fun x19 =>
          JX8_lengthOf_128 h v0 v1 v2 v3 v4 (v5 + 1) (w32 x19) v4 x12
        ) else (
          if w32 x11 = w32 1 then (
            (FX8_task h v2).bind fun x16 =>
            (ald 0 h v1 (x16 + 1)).bind fun x17 =>
            JX8_lengthOf_128 h v0 v1 v2 v3 v4 (v5 + 1) (w32 x17) v4 x12
          ) else (
            if w32 x11 = w32 2 then (
              JX8_lengthOf_128 h v0 v1 v2 v3 v4 (v5 + 1) (w32 v3) v4 x12
            ) else (
              (FX8_core h v3).bind fun x13 =>
              (ald 0 h v1 (x13 + 4)).bind fun x14 =>
              JX8_lengthOf_128 h v0 v1 v2 v3 v4 (v5 + 1) (w32 x14) v4 x12
            )
          )
        )
      )
    )
  ) else (
    some (.inr h)
  )
set_option maxHeartbeats 4000000 in
set_option maxRecDepth 100000 in
theorem LRX8_lengthOf_20 {v0 : Nat} {v1 : Nat} {v2 : Int} {v3 : Int} {Q : State → Prop} (hC : Cx g p s m args meth c cX8_lengthOf 8 RX8 (some .int)) : ∀ (n : Nat) (st : Int × Int × PH) (ex : PH), lp (fun st : Int × Int × PH => LX8_lengthOf_20 v0 v1 v2 v3 st.1 st.2.1 st.2.2) n st = some ex → (fun ex : PH => ∀ (H : Heap) (locs : List Loc) (ls : Array Slot), Rl g ad ex s.heap H locs → lv_has ls 8 [(0, .ref (ad v0))] → W p l e rmX8_lengthOf s m args below meth c H locs 0 0 Q (F0 m 174 ls [])) ex → ∀ (H : Heap) (locs : List Loc) (ls : Array Slot), Rl g ad st.2.2 s.heap H locs → lv_has ls 8 [(0, .ref (ad v0)), (1, .ref (ad v1)), (2, .int (Int32.ofInt v2)), (3, .int (Int32.ofInt v3)), (4, .int (Int32.ofInt st.1)), (5, .int (Int32.ofInt st.2.1))] → W p l e rmX8_lengthOf s m args below meth c H locs 0 0 Q (F0 m 20 ls []) := by
  refine lp_rule (Ph := (fun st : Int × Int × PH => ∀ (H : Heap) (locs : List Loc) (ls : Array Slot), Rl g ad st.2.2 s.heap H locs → lv_has ls 8 [(0, .ref (ad v0)), (1, .ref (ad v1)), (2, .int (Int32.ofInt v2)), (3, .int (Int32.ofInt v3)), (4, .int (Int32.ofInt st.1)), (5, .int (Int32.ofInt st.2.1))] → W p l e rmX8_lengthOf s m args below meth c H locs 0 0 Q (F0 m 20 ls []))) (Px := (fun ex : PH => ∀ (H : Heap) (locs : List Loc) (ls : Array Slot), Rl g ad ex s.heap H locs → lv_has ls 8 [(0, .ref (ad v0))] → W p l e rmX8_lengthOf s m args below meth c H locs 0 0 Q (F0 m 174 ls []))) ?_
  rintro ⟨v4, v5, h⟩ o hF hK H locs ls hR hl
  have hR : Rl g ad h s.heap H locs := hR
  have hl : lv_has ls 8 [(0, .ref (ad v0)), (1, .ref (ad v1)), (2, .int (Int32.ofInt v2)), (3, .int (Int32.ofInt v3)), (4, .int (Int32.ofInt v4)), (5, .int (Int32.ofInt v5))] := hl
  have hF : LX8_lengthOf_20 v0 v1 v2 v3 v4 v5 h = some o := hF
  unfold LX8_lengthOf_20 at hF
  refine lv_iload hC.1 hC.2.1 dX8_lengthOf_20 (lv_at hl 5 rfl) ?_
  refine lv_aload_n hC.1 hC.2.1 dX8_lengthOf_22 rfl (lv_at hl 1 rfl) ?_
  refine pw_bipush hC dX8_lengthOf_23 rfl ?_
  obtain ⟨x2, e2, hF⟩ := bnd hF
  refine pw_iald hC hR e2 dX8_lengthOf_25 ?_
  refine pw_icmpge hC 174 dX8_lengthOf_26 (by decide) (fun hc => ?_) (fun hc => ?_)
  · rw [if_neg hc] at hF
    cases hF
    exact hK _ _ _ hR (lv_sub hl [0] rfl)
  · rw [if_pos hc] at hF
    refine lv_aload_n hC.1 hC.2.1 dX8_lengthOf_29 rfl (lv_at hl 1 rfl) ?_
    refine pw_sipush hC dX8_lengthOf_30 rfl ?_
    refine lv_iload hC.1 hC.2.1 dX8_lengthOf_33 (lv_at hl 5 rfl) ?_
    refine pw_iadd hC dX8_lengthOf_35 ?_
    obtain ⟨x3, e3, hF⟩ := bnd hF
    refine pw_iald hC hR e3 dX8_lengthOf_36 ?_
    refine lv_istore (lv' := [(6, .int (Int32.ofInt x3)), (0, .ref (ad v0)), (1, .ref (ad v1)), (2, .int (Int32.ofInt v2)), (3, .int (Int32.ofInt v3)), (4, .int (Int32.ofInt v4)), (5, .int (Int32.ofInt v5))]) hC.1 hC.2.1 dX8_lengthOf_37 hl (by decide) rfl (fun ls hl => ?_)
    refine lv_iload hC.1 hC.2.1 dX8_lengthOf_39 (lv_at hl 0 rfl) ?_
    refine pw_iconst hC dX8_lengthOf_41 ?_
    refine pw_icmpgt hC 135 dX8_lengthOf_42 (by decide) (fun hc => ?_) (fun hc => ?_)
    · rw [if_pos hc] at hF
      refine pw_iinc (lv' := [(4, .int (Int32.ofInt (v4 + -1))), (6, .int (Int32.ofInt x3)), (0, .ref (ad v0)), (1, .ref (ad v1)), (2, .int (Int32.ofInt v2)), (3, .int (Int32.ofInt v3)), (5, .int (Int32.ofInt v5))]) hC hl 5 dX8_lengthOf_135 rfl (by decide) rfl (fun ls hl => ?_)
      refine lv_aload_n hC.1 hC.2.1 dX8_lengthOf_138 rfl (lv_at hl 2 rfl) ?_
      obtain ⟨x4, e4, hF⟩ := bnd hF
      refine pw_gfr hC hR e4 flX8_31 dX8_lengthOf_139 ?_
      refine lv_iload hC.1 hC.2.1 dX8_lengthOf_142 (lv_at hl 0 rfl) ?_
      refine pw_iconst hC dX8_lengthOf_144 ?_
      refine pw_isub hC dX8_lengthOf_145 ?_
      refine lv_iload hC.1 hC.2.1 dX8_lengthOf_146 (lv_at hl 1 rfl) ?_
      refine lv_aload_n hC.1 hC.2.1 dX8_lengthOf_148 rfl (lv_at hl 2 rfl) ?_
      obtain ⟨x5, e5, hF⟩ := bnd hF
      refine pw_gfr hC hR e5 flX8_31 dX8_lengthOf_149 ?_
      refine lv_iload hC.1 hC.2.1 dX8_lengthOf_152 (lv_at hl 0 rfl) ?_
      refine pw_iconst hC dX8_lengthOf_154 ?_
      refine pw_isub hC dX8_lengthOf_155 ?_
      obtain ⟨x6, e6, hF⟩ := bnd hF
      refine pw_lald hC hR e6 dX8_lengthOf_156 ?_
      refine lv_aload_n hC.1 hC.2.1 dX8_lengthOf_157 rfl (lv_at hl 2 rfl) ?_
      obtain ⟨x7, e7, hF⟩ := bnd hF
      refine pw_gfr hC hR e7 flX8_31 dX8_lengthOf_158 ?_
      refine lv_iload hC.1 hC.2.1 dX8_lengthOf_161 (lv_at hl 0 rfl) ?_
      obtain ⟨x8, e8, hF⟩ := bnd hF
      refine pw_lald hC hR e8 dX8_lengthOf_163 ?_
      obtain ⟨x9, e9, hF⟩ := bnd hF
      refine pw_cSl (rest := [.int (Int32.ofInt ((v4 + -1) - 1)), .ref (ad x4)]) hC hR lsX8_190 (CX8_operate e9) ⟨rfl, rfl⟩ rfl hl.1 rfl ⟨Nat.le_of_ble_eq_true rfl, Nat.le_of_ble_eq_true rfl⟩ (Nat.le_of_ble_eq_true rfl) dX8_lengthOf_164 ⟨Nat.zero_le _, Nat.zero_le _⟩ (fun H locs hR => ?_)
      obtain ⟨h10, e10, hF⟩ := bnd hF
      refine pw_last hC hR e10 dX8_lengthOf_167 (fun H locs hR => ?_)
      exact BX8_lengthOf_168 hC hR (lv_sub hl [2, 3, 4, 5, 0, 6] rfl) hF hK
    · rw [if_neg hc] at hF
      refine pw_iinc (lv' := [(5, .int (Int32.ofInt (v5 + 1))), (6, .int (Int32.ofInt x3)), (0, .ref (ad v0)), (1, .ref (ad v1)), (2, .int (Int32.ofInt v2)), (3, .int (Int32.ofInt v3)), (4, .int (Int32.ofInt v4))]) hC hl 6 dX8_lengthOf_45 rfl (by decide) rfl (fun ls hl => ?_)
      refine lv_aload_n hC.1 hC.2.1 dX8_lengthOf_48 rfl (lv_at hl 3 rfl) ?_
      refine pw_sipush hC dX8_lengthOf_49 rfl ?_
      refine lv_iload hC.1 hC.2.1 dX8_lengthOf_52 (lv_at hl 0 rfl) ?_
      refine pw_iadd hC dX8_lengthOf_54 ?_
      obtain ⟨x11, e11, hF⟩ := bnd hF
      refine pw_iald hC hR e11 dX8_lengthOf_55 ?_
      refine lv_istore (lv' := [(7, .int (Int32.ofInt x11)), (5, .int (Int32.ofInt (v5 + 1))), (6, .int (Int32.ofInt x3)), (0, .ref (ad v0)), (1, .ref (ad v1)), (2, .int (Int32.ofInt v2)), (3, .int (Int32.ofInt v3)), (4, .int (Int32.ofInt v4))]) hC.1 hC.2.1 dX8_lengthOf_56 hl (by decide) rfl (fun ls hl => ?_)
      refine lv_aload_n hC.1 hC.2.1 dX8_lengthOf_58 rfl (lv_at hl 3 rfl) ?_
      obtain ⟨x12, e12, hF⟩ := bnd hF
      refine pw_gfr hC hR e12 flX8_31 dX8_lengthOf_59 ?_
      refine lv_iload hC.1 hC.2.1 dX8_lengthOf_62 (lv_at hl 7 rfl) ?_
      refine lv_iload hC.1 hC.2.1 dX8_lengthOf_64 (lv_at hl 2 rfl) ?_
      refine pw_ifne hC 75 dX8_lengthOf_66 (by decide) (fun hc => ?_) (fun hc => ?_)
      · rw [if_neg hc] at hF
        refine lv_iload hC.1 hC.2.1 dX8_lengthOf_75 (lv_at hl 0 rfl) ?_
        refine pw_ifne hC 90 dX8_lengthOf_77 (by decide) (fun hc => ?_) (fun hc => ?_)
        · rw [if_neg hc] at hF
          refine lv_iload hC.1 hC.2.1 dX8_lengthOf_90 (lv_at hl 0 rfl) ?_
          refine pw_iconst hC dX8_lengthOf_92 ?_
          refine pw_icmpne hC 108 dX8_lengthOf_93 (by decide) (fun hc => ?_) (fun hc => ?_)
          · rw [if_neg hc] at hF
            refine lv_iload hC.1 hC.2.1 dX8_lengthOf_108 (lv_at hl 0 rfl) ?_
            refine pw_iconst hC dX8_lengthOf_110 ?_
            refine pw_icmpne hC 119 dX8_lengthOf_111 (by decide) (fun hc => ?_) (fun hc => ?_)
            · rw [if_neg hc] at hF
              refine lv_aload_n hC.1 hC.2.1 dX8_lengthOf_119 rfl (lv_at hl 4 rfl) ?_
              refine lv_iload_n hC.1 hC.2.1 dX8_lengthOf_120 rfl (lv_at hl 6 rfl) ?_
              obtain ⟨x13, e13, hF⟩ := bnd hF
              refine pw_cSi (rest := [.ref (ad v1), .int (Int32.ofInt v4), .ref (ad x12)]) hC hR lsX8_41 (CX8_core e13) ⟨rfl, rfl⟩ rfl hl.1 rfl ⟨Nat.le_of_ble_eq_true rfl, Nat.le_of_ble_eq_true rfl⟩ (Nat.le_of_ble_eq_true rfl) dX8_lengthOf_121 ⟨Nat.zero_le _, Nat.zero_le _⟩ (fun H locs hR => ?_)
              refine pw_iconst hC dX8_lengthOf_124 ?_
              refine pw_iadd hC dX8_lengthOf_125 ?_
              obtain ⟨x14, e14, hF⟩ := bnd hF
              refine pw_iald hC hR e14 dX8_lengthOf_126 ?_
              refine pw_i2l hC dX8_lengthOf_127 ?_
              exact BX8_lengthOf_128 hC hR (lv_sub hl [3, 4, 5, 6, 7, 1] rfl) hF hK
            · rw [if_pos hc] at hF
              refine lv_iload_n hC.1 hC.2.1 dX8_lengthOf_114 rfl (lv_at hl 6 rfl) ?_
              refine pw_i2l hC dX8_lengthOf_115 ?_
              refine pw_goto hC 128 dX8_lengthOf_116 (by decide) ?_
              exact BX8_lengthOf_128 hC hR (lv_sub hl [3, 4, 5, 6, 7, 1] rfl) hF hK
          · rw [if_pos hc] at hF
            refine lv_aload_n hC.1 hC.2.1 dX8_lengthOf_96 rfl (lv_at hl 4 rfl) ?_
            refine lv_iload_n hC.1 hC.2.1 dX8_lengthOf_97 rfl (lv_at hl 5 rfl) ?_
            obtain ⟨x16, e16, hF⟩ := bnd hF
            refine pw_cSi (rest := [.ref (ad v1), .int (Int32.ofInt v4), .ref (ad x12)]) hC hR lsX8_136 (CX8_task e16) ⟨rfl, rfl⟩ rfl hl.1 rfl ⟨Nat.le_of_ble_eq_true rfl, Nat.le_of_ble_eq_true rfl⟩ (Nat.le_of_ble_eq_true rfl) dX8_lengthOf_98 ⟨Nat.zero_le _, Nat.zero_le _⟩ (fun H locs hR => ?_)
            refine pw_iconst hC dX8_lengthOf_101 ?_
            refine pw_iadd hC dX8_lengthOf_102 ?_
            obtain ⟨x17, e17, hF⟩ := bnd hF
            refine pw_iald hC hR e17 dX8_lengthOf_103 ?_
            refine pw_i2l hC dX8_lengthOf_104 ?_
            refine pw_goto hC 128 dX8_lengthOf_105 (by decide) ?_
            exact BX8_lengthOf_128 hC hR (lv_sub hl [3, 4, 5, 6, 7, 1] rfl) hF hK
        · rw [if_pos hc] at hF
          refine lv_aload_n hC.1 hC.2.1 dX8_lengthOf_80 rfl (lv_at hl 4 rfl) ?_
          refine lv_iload_n hC.1 hC.2.1 dX8_lengthOf_81 rfl (lv_at hl 5 rfl) ?_
          obtain ⟨x18, e18, hF⟩ := bnd hF
          refine pw_cSi (rest := [.ref (ad v1), .int (Int32.ofInt v4), .ref (ad x12)]) hC hR lsX8_136 (CX8_task e18) ⟨rfl, rfl⟩ rfl hl.1 rfl ⟨Nat.le_of_ble_eq_true rfl, Nat.le_of_ble_eq_true rfl⟩ (Nat.le_of_ble_eq_true rfl) dX8_lengthOf_82 ⟨Nat.zero_le _, Nat.zero_le _⟩ (fun H locs hR => ?_)
          obtain ⟨x19, e19, hF⟩ := bnd hF
          refine pw_iald hC hR e19 dX8_lengthOf_85 ?_
          refine pw_i2l hC dX8_lengthOf_86 ?_
          refine pw_goto hC 128 dX8_lengthOf_87 (by decide) ?_
          exact BX8_lengthOf_128 hC hR (lv_sub hl [3, 4, 5, 6, 7, 1] rfl) hF hK
      · rw [if_pos hc] at hF
        refine lv_iload hC.1 hC.2.1 dX8_lengthOf_69 (lv_at hl 0 rfl) ?_
        refine pw_i2l hC dX8_lengthOf_71 ?_
        refine pw_goto hC 128 dX8_lengthOf_72 (by decide) ?_
        exact BX8_lengthOf_128 hC hR (lv_sub hl [3, 4, 5, 6, 7, 1] rfl) hF hK
def JX8_lengthOf_215 (h : PH) (s0 : Int) : Option (Int × PH) :=
  some (s0, h)
set_option maxHeartbeats 4000000 in
set_option maxRecDepth 100000 in
theorem BX8_lengthOf_215 {h : PH} {s0 : Int} (hC : Cx g p s m args meth c cX8_lengthOf 8 RX8 (some .int)) (hR : Rl g ad h s.heap H locs) (hl : lv_has ls 8 []) {q : Int × PH} (hF : JX8_lengthOf_215 h s0 = some q) : W p l e rmX8_lengthOf s m args below meth c H locs 0 0 (MQ below (QcN g ad q.2 (some (.int (Int32.ofInt q.1)))) args s 0 0 (gA g)) (F0 m 215 ls [.int (Int32.ofInt s0)]) := by
  unfold JX8_lengthOf_215 at hF
  cases hF
  exact pw_iret hC hR dX8_lengthOf_215
def FX8_lengthOf (h : PH) (v0 : Nat) (v1 : Nat) (v2 : Int) (v3 : Int) : Option (Int × PH) :=
  (isO h 8 v0).bind fun _ =>
  (ald 0 h v1 6).bind fun x1 =>
  if w32 x1 = 0 then (
    (FX8_task h v2).bind fun x27 =>
    (ald 0 h v1 x27).bind fun x28 =>
    some (x28, h)
  ) else (
    (lp (fun st : Int × Int × PH => LX8_lengthOf_20 v0 v1 v2 v3 st.1 st.2.1 st.2.2) FU (0, 0, h)).bind fun ex20 =>
    (gfr ex20 8 v0 16).bind fun x21 =>
    (ald 3 ex20 x21 0).bind fun x22 =>
    if w32 (cmpL x22 1) < 0 then (
      JX8_lengthOf_215 ex20 1
    ) else (
      (gfr ex20 8 v0 16).bind fun x23 =>
      (ald 3 ex20 x23 0).bind fun x24 =>
      if 0 < w32 (cmpL x24 999) then (
        JX8_lengthOf_215 ex20 999
      ) else (
        (gfr ex20 8 v0 16).bind fun x25 =>
        (ald 3 ex20 x25 0).bind fun x26 =>
        JX8_lengthOf_215 ex20 x26
      )
    )
  )
theorem OX8_lengthOf {h : PH} {v0 : Nat} {v1 : Nat} {v2 : Int} {v3 : Int} {q : Int × PH} (hF : FX8_lengthOf h v0 v1 v2 v3 = some q) : ∃ fs : List PV, h[v0]? = some (.inr (8, fs)) := by
  unfold FX8_lengthOf at hF
  obtain ⟨u0, e0, -⟩ := bnd hF
  exact isO_spec e0
set_option maxHeartbeats 4000000 in
set_option maxRecDepth 100000 in
theorem CX8_lengthOf {g : GP} {l : Launch} {ad : Nat → Nat} {h : PH} {v0 : Nat} {v1 : Nat} {v2 : Int} {v3 : Int} {q : Int × PH} (hF : FX8_lengthOf h v0 v1 v2 v3 = some q) : CN g l yX8_lengthOf cX8_lengthOf 8 (some .int) rmX8_lengthOf ad h [.ref (ad v0), .ref (ad v1), .int (Int32.ofInt v2), .int (Int32.ofInt v3)] (some (.int (Int32.ofInt q.1))) q.2 := by
  refine pw_met (by decide) (Nat.le_of_ble_eq_true rfl) ?_
  intro p e s m args below meth c ls hC hN hR hl
  have hl : lv_has ls 8 [(0, .ref (ad v0)), (1, .ref (ad v1)), (2, .int (Int32.ofInt v2)), (3, .int (Int32.ofInt v3))] := hl
  unfold FX8_lengthOf at hF
  obtain ⟨u0, e0, hF⟩ := bnd hF
  refine lv_aload_n hC.1 hC.2.1 dX8_lengthOf_0 rfl (lv_at hl 1 rfl) ?_
  refine pw_bipush hC dX8_lengthOf_1 rfl ?_
  obtain ⟨x1, e1, hF⟩ := bnd hF
  refine pw_iald hC hR e1 dX8_lengthOf_3 ?_
  refine pw_ifne hC 14 dX8_lengthOf_4 (by decide) (fun hc => ?_) (fun hc => ?_)
  · rw [if_neg hc] at hF
    refine pw_iconst hC dX8_lengthOf_14 ?_
    refine lv_istore (lv' := [(4, .int (Int32.ofInt 0)), (0, .ref (ad v0)), (1, .ref (ad v1)), (2, .int (Int32.ofInt v2)), (3, .int (Int32.ofInt v3))]) hC.1 hC.2.1 dX8_lengthOf_15 hl (by decide) rfl (fun ls hl => ?_)
    refine pw_iconst hC dX8_lengthOf_17 ?_
    refine lv_istore (lv' := [(5, .int (Int32.ofInt 0)), (4, .int (Int32.ofInt 0)), (0, .ref (ad v0)), (1, .ref (ad v1)), (2, .int (Int32.ofInt v2)), (3, .int (Int32.ofInt v3))]) hC.1 hC.2.1 dX8_lengthOf_18 hl (by decide) rfl (fun ls hl => ?_)
    obtain ⟨ex20, e20, hF⟩ := bnd hF
    refine LRX8_lengthOf_20 hC FU _ ex20 e20 ?_ _ _ _ hR (lv_sub hl [2, 3, 4, 5, 1, 0] rfl)
    intro H locs ls hR hl
    refine lv_aload_n hC.1 hC.2.1 dX8_lengthOf_174 rfl (lv_at hl 0 rfl) ?_
    obtain ⟨x21, e21, hF⟩ := bnd hF
    refine pw_gfr hC hR e21 flX8_31 dX8_lengthOf_175 ?_
    refine pw_iconst hC dX8_lengthOf_178 ?_
    obtain ⟨x22, e22, hF⟩ := bnd hF
    refine pw_lald hC hR e22 dX8_lengthOf_179 ?_
    refine pw_lconst hC 1 dX8_lengthOf_180 rfl ?_
    refine pw_lcmp hC dX8_lengthOf_181 ?_
    refine pw_ifge hC 189 dX8_lengthOf_182 (by decide) (fun hc => ?_) (fun hc => ?_)
    · rw [if_neg hc] at hF
      refine lv_aload_n hC.1 hC.2.1 dX8_lengthOf_189 rfl (lv_at hl 0 rfl) ?_
      obtain ⟨x23, e23, hF⟩ := bnd hF
      refine pw_gfr hC hR e23 flX8_31 dX8_lengthOf_190 ?_
      refine pw_iconst hC dX8_lengthOf_193 ?_
      obtain ⟨x24, e24, hF⟩ := bnd hF
      refine pw_lald hC hR e24 dX8_lengthOf_194 ?_
      refine pw_ldc2 hC 999 kcX8_194 dX8_lengthOf_195 ?_
      refine pw_lcmp hC dX8_lengthOf_198 ?_
      refine pw_ifle hC 208 dX8_lengthOf_199 (by decide) (fun hc => ?_) (fun hc => ?_)
      · rw [if_neg hc] at hF
        refine lv_aload_n hC.1 hC.2.1 dX8_lengthOf_208 rfl (lv_at hl 0 rfl) ?_
        obtain ⟨x25, e25, hF⟩ := bnd hF
        refine pw_gfr hC hR e25 flX8_31 dX8_lengthOf_209 ?_
        refine pw_iconst hC dX8_lengthOf_212 ?_
        obtain ⟨x26, e26, hF⟩ := bnd hF
        refine pw_lald hC hR e26 dX8_lengthOf_213 ?_
        refine pw_l2i hC dX8_lengthOf_214 ?_
        exact BX8_lengthOf_215 hC hR (lv_sub hl [] rfl) hF
      · rw [if_pos hc] at hF
        refine pw_sipush hC dX8_lengthOf_202 rfl ?_
        refine pw_goto hC 215 dX8_lengthOf_205 (by decide) ?_
        exact BX8_lengthOf_215 hC hR (lv_sub hl [] rfl) hF
    · rw [if_pos hc] at hF
      refine pw_iconst hC dX8_lengthOf_185 ?_
      refine pw_goto hC 215 dX8_lengthOf_186 (by decide) ?_
      exact BX8_lengthOf_215 hC hR (lv_sub hl [] rfl) hF
  · rw [if_pos hc] at hF
    refine lv_aload_n hC.1 hC.2.1 dX8_lengthOf_7 rfl (lv_at hl 1 rfl) ?_
    refine lv_iload_n hC.1 hC.2.1 dX8_lengthOf_8 rfl (lv_at hl 2 rfl) ?_
    obtain ⟨x27, e27, hF⟩ := bnd hF
    refine pw_cSi (rest := [.ref (ad v1)]) hC hR lsX8_136 (CX8_task e27) ⟨rfl, rfl⟩ rfl hl.1 rfl ⟨Nat.le_of_ble_eq_true rfl, Nat.le_of_ble_eq_true rfl⟩ (Nat.le_of_ble_eq_true rfl) dX8_lengthOf_9 ⟨Nat.zero_le _, Nat.zero_le _⟩ (fun H locs hR => ?_)
    obtain ⟨x28, e28, hF⟩ := bnd hF
    refine pw_iald hC hR e28 dX8_lengthOf_12 ?_
    cases hF
    exact pw_iret hC hR dX8_lengthOf_13
abbrev rmX8_isFinished : Room := { frames := 1, cells := 0, slots := 0, locals := 20 }
def JX8_isFinished_17 (h : PH) (s0 : Int) : Option (Int) :=
  if s0 = 0 ∨ s0 = 1 then some s0 else none
set_option maxHeartbeats 4000000 in
set_option maxRecDepth 100000 in
theorem BX8_isFinished_17 {h : PH} {s0 : Int} (hC : Cx g p s m args meth c cX8_isFinished 2 RX8 (some .boolean)) (hR : Rl g ad h s.heap H locs) (hl : lv_has ls 2 []) {q : Int} (hF : JX8_isFinished_17 h s0 = some q) : W p l e rmX8_isFinished s m args below meth c H locs 0 0 (MQ below (QcN g ad h (some (.int (Int32.ofInt q)))) args s 0 0 (gA g)) (F0 m 17 ls [.int (Int32.ofInt s0)]) := by
  unfold JX8_isFinished_17 at hF
  by_cases hb3 : s0 = 0 ∨ s0 = 1
  · rw [if_pos hb3] at hF
    cases hF
    exact pw_zret hC hR hb3 dX8_isFinished_17
  · rw [if_neg hb3] at hF; cases hF
def FX8_isFinished (h : PH) (v0 : Nat) (v1 : Int) : Option (Int) :=
  (FX8_task h v1).bind fun x1 =>
  (ald 0 h v0 (x1 + 4)).bind fun x2 =>
  if w32 x2 < w32 4 then (
    JX8_isFinished_17 h 0
  ) else (
    JX8_isFinished_17 h 1
  )
set_option maxHeartbeats 4000000 in
set_option maxRecDepth 100000 in
theorem CX8_isFinished {g : GP} {l : Launch} {ad : Nat → Nat} {h : PH} {v0 : Nat} {v1 : Int} {q : Int} (hF : FX8_isFinished h v0 v1 = some q) : CN g l yX8_isFinished cX8_isFinished 2 (some .boolean) rmX8_isFinished ad h [.ref (ad v0), .int (Int32.ofInt v1)] (some (.int (Int32.ofInt q))) h := by
  refine pw_met (by decide) (Nat.le_of_ble_eq_true rfl) ?_
  intro p e s m args below meth c ls hC hN hR hl
  have hl : lv_has ls 2 [(0, .ref (ad v0)), (1, .int (Int32.ofInt v1))] := hl
  unfold FX8_isFinished at hF
  refine lv_aload_n hC.1 hC.2.1 dX8_isFinished_0 rfl (lv_at hl 0 rfl) ?_
  refine lv_iload_n hC.1 hC.2.1 dX8_isFinished_1 rfl (lv_at hl 1 rfl) ?_
  obtain ⟨x1, e1, hF⟩ := bnd hF
  refine pw_cSi (rest := [.ref (ad v0)]) hC hR lsX8_136 (CX8_task e1) ⟨rfl, rfl⟩ rfl hl.1 rfl ⟨Nat.le_of_ble_eq_true rfl, Nat.le_of_ble_eq_true rfl⟩ (Nat.le_of_ble_eq_true rfl) dX8_isFinished_2 ⟨Nat.zero_le _, Nat.zero_le _⟩ (fun H locs hR => ?_)
  refine pw_iconst hC dX8_isFinished_5 ?_
  refine pw_iadd hC dX8_isFinished_6 ?_
  obtain ⟨x2, e2, hF⟩ := bnd hF
  refine pw_iald hC hR e2 dX8_isFinished_7 ?_
  refine pw_iconst hC dX8_isFinished_8 ?_
  refine pw_icmplt hC 16 dX8_isFinished_9 (by decide) (fun hc => ?_) (fun hc => ?_)
  · rw [if_pos hc] at hF
    refine pw_iconst hC dX8_isFinished_16 ?_
    exact BX8_isFinished_17 hC hR (lv_sub hl [] rfl) hF
  · rw [if_neg hc] at hF
    refine pw_iconst hC dX8_isFinished_12 ?_
    refine pw_goto hC 17 dX8_isFinished_13 (by decide) ?_
    exact BX8_isFinished_17 hC hR (lv_sub hl [] rfl) hF
abbrev rmX8_isOpened : Room := { frames := 2, cells := 0, slots := 0, locals := 41 }
def LX8_isOpened_2 (h : PH) (v0 : Nat) (v1 : Int) (v2 : Int) : Option ((Int) ⊕ (((Unit) ⊕ (Unit)))) :=
  (ald 0 h v0 (8 + v1)).bind fun x1 =>
  if w32 v2 < w32 x1 then (
    (FX8_isFinished h v0 v2).bind fun x2 =>
    if w32 x2 = 0 then (
      some (.inr (.inl ()))
    ) else (
      some (.inl (v2 + 1))
    )
  ) else (
    some (.inr (.inr ()))
  )
set_option maxHeartbeats 4000000 in
set_option maxRecDepth 100000 in
theorem LRX8_isOpened_2 {h : PH} {v0 : Nat} {v1 : Int} {Q : State → Prop} (hC : Cx g p s m args meth c cX8_isOpened 3 RX8 (some .boolean)) : ∀ (n : Nat) (st : Int) (ex : ((Unit) ⊕ (Unit))), lp (fun st : Int => LX8_isOpened_2 h v0 v1 st) n st = some ex → (Sum.elim (fun ex : Unit => ∀ (H : Heap) (locs : List Loc) (ls : Array Slot), Rl g ad h s.heap H locs → lv_has ls 3 [] → W p l e rmX8_isOpened s m args below meth c H locs 0 0 Q (F0 m 20 ls [])) (fun ex : Unit => ∀ (H : Heap) (locs : List Loc) (ls : Array Slot), Rl g ad h s.heap H locs → lv_has ls 3 [] → W p l e rmX8_isOpened s m args below meth c H locs 0 0 Q (F0 m 28 ls []))) ex → ∀ (H : Heap) (locs : List Loc) (ls : Array Slot), Rl g ad h s.heap H locs → lv_has ls 3 [(0, .ref (ad v0)), (1, .int (Int32.ofInt v1)), (2, .int (Int32.ofInt st))] → W p l e rmX8_isOpened s m args below meth c H locs 0 0 Q (F0 m 2 ls []) := by
  refine lp_rule (Ph := (fun st : Int => ∀ (H : Heap) (locs : List Loc) (ls : Array Slot), Rl g ad h s.heap H locs → lv_has ls 3 [(0, .ref (ad v0)), (1, .int (Int32.ofInt v1)), (2, .int (Int32.ofInt st))] → W p l e rmX8_isOpened s m args below meth c H locs 0 0 Q (F0 m 2 ls []))) (Px := (Sum.elim (fun ex : Unit => ∀ (H : Heap) (locs : List Loc) (ls : Array Slot), Rl g ad h s.heap H locs → lv_has ls 3 [] → W p l e rmX8_isOpened s m args below meth c H locs 0 0 Q (F0 m 20 ls [])) (fun ex : Unit => ∀ (H : Heap) (locs : List Loc) (ls : Array Slot), Rl g ad h s.heap H locs → lv_has ls 3 [] → W p l e rmX8_isOpened s m args below meth c H locs 0 0 Q (F0 m 28 ls [])))) ?_
  rintro v2 o hF hK H locs ls hR hl
  have hR : Rl g ad h s.heap H locs := hR
  have hl : lv_has ls 3 [(0, .ref (ad v0)), (1, .int (Int32.ofInt v1)), (2, .int (Int32.ofInt v2))] := hl
  have hF : LX8_isOpened_2 h v0 v1 v2 = some o := hF
  unfold LX8_isOpened_2 at hF
  refine lv_iload_n hC.1 hC.2.1 dX8_isOpened_2 rfl (lv_at hl 2 rfl) ?_
  refine lv_aload_n hC.1 hC.2.1 dX8_isOpened_3 rfl (lv_at hl 0 rfl) ?_
  refine pw_bipush hC dX8_isOpened_4 rfl ?_
  refine lv_iload_n hC.1 hC.2.1 dX8_isOpened_6 rfl (lv_at hl 1 rfl) ?_
  refine pw_iadd hC dX8_isOpened_7 ?_
  obtain ⟨x1, e1, hF⟩ := bnd hF
  refine pw_iald hC hR e1 dX8_isOpened_8 ?_
  refine pw_icmpge hC 28 dX8_isOpened_9 (by decide) (fun hc => ?_) (fun hc => ?_)
  · rw [if_neg hc] at hF
    cases hF
    exact hK _ _ _ hR (lv_sub hl [] rfl)
  · rw [if_pos hc] at hF
    refine lv_aload_n hC.1 hC.2.1 dX8_isOpened_12 rfl (lv_at hl 0 rfl) ?_
    refine lv_iload_n hC.1 hC.2.1 dX8_isOpened_13 rfl (lv_at hl 2 rfl) ?_
    obtain ⟨x2, e2, hF⟩ := bnd hF
    refine pw_cSi (rest := []) hC hR lsX8_196 (CX8_isFinished e2) ⟨rfl, rfl⟩ rfl hl.1 rfl ⟨Nat.le_of_ble_eq_true rfl, Nat.le_of_ble_eq_true rfl⟩ (Nat.le_of_ble_eq_true rfl) dX8_isOpened_14 ⟨Nat.zero_le _, Nat.zero_le _⟩ (fun H locs hR => ?_)
    refine pw_ifne hC 22 dX8_isOpened_17 (by decide) (fun hc => ?_) (fun hc => ?_)
    · rw [if_neg hc] at hF
      refine pw_iinc (lv' := [(2, .int (Int32.ofInt (v2 + 1))), (0, .ref (ad v0)), (1, .int (Int32.ofInt v1))]) hC hl 2 dX8_isOpened_22 rfl (by decide) rfl (fun ls hl => ?_)
      refine pw_goto hC 2 dX8_isOpened_25 (by decide) ?_
      cases hF
      exact hK _ _ _ hR (lv_sub hl [1, 2, 0] rfl)
    · rw [if_pos hc] at hF
      cases hF
      exact hK _ _ _ hR (lv_sub hl [] rfl)
def FX8_isOpened (h : PH) (v0 : Nat) (v1 : Int) : Option (Int) :=
  (lp (fun st : Int => LX8_isOpened_2 h v0 v1 st) FU 0).bind fun ex3 =>
  Sum.elim (fun ex3 => (
    some 0
  )) (fun ex3 => (
    some 1
  )) ex3
set_option maxHeartbeats 4000000 in
set_option maxRecDepth 100000 in
theorem CX8_isOpened {g : GP} {l : Launch} {ad : Nat → Nat} {h : PH} {v0 : Nat} {v1 : Int} {q : Int} (hF : FX8_isOpened h v0 v1 = some q) : CN g l yX8_isOpened cX8_isOpened 3 (some .boolean) rmX8_isOpened ad h [.ref (ad v0), .int (Int32.ofInt v1)] (some (.int (Int32.ofInt q))) h := by
  refine pw_met (by decide) (Nat.le_of_ble_eq_true rfl) ?_
  intro p e s m args below meth c ls hC hN hR hl
  have hl : lv_has ls 3 [(0, .ref (ad v0)), (1, .int (Int32.ofInt v1))] := hl
  unfold FX8_isOpened at hF
  refine pw_iconst hC dX8_isOpened_0 ?_
  refine lv_istore_n (lv' := [(2, .int (Int32.ofInt 0)), (0, .ref (ad v0)), (1, .int (Int32.ofInt v1))]) hC.1 hC.2.1 dX8_isOpened_1 rfl hl (by decide) rfl (fun ls hl => ?_)
  obtain ⟨ex3, e3, hF⟩ := bnd hF
  refine LRX8_isOpened_2 hC FU _ ex3 e3 ?_ _ _ _ hR (lv_sub hl [1, 2, 0] rfl)
  rcases ex3 with ex3 | ex3
  · dsimp only [Sum.elim_inl, Sum.elim_inr] at hF
    intro H locs ls hR hl
    refine pw_iconst hC dX8_isOpened_20 ?_
    cases hF
    exact pw_zret hC hR (Or.inl rfl) dX8_isOpened_21
  · dsimp only [Sum.elim_inl, Sum.elim_inr] at hF
    intro H locs ls hR hl
    refine pw_iconst hC dX8_isOpened_28 ?_
    cases hF
    exact pw_zret hC hR (Or.inr rfl) dX8_isOpened_29
abbrev rmX8_counterOf : Room := { frames := 3, cells := 0, slots := 0, locals := 63 }
def JX8_counterOf_39 (h : PH) (v0 : Nat) (v1 : Int) (v3 : Int) (s0 : Int) (s1 : Int) : Option ((Int × Int) ⊕ (Int)) :=
  some (.inl ((s1 + s0), (v3 + 1)))
set_option maxHeartbeats 4000000 in
set_option maxRecDepth 100000 in
theorem BX8_counterOf_39 {h : PH} {v0 : Nat} {v1 : Int} {v3 : Int} {s0 : Int} {s1 : Int} (hC : Cx g p s m args meth c cX8_counterOf 4 RX8 (some .int)) (hR : Rl g ad h s.heap H locs) (hl : lv_has ls 4 [(0, .ref (ad v0)), (1, .int (Int32.ofInt v1)), (3, .int (Int32.ofInt v3))]) {Q : State → Prop} {o : (Int × Int) ⊕ (Int)} (hF : JX8_counterOf_39 h v0 v1 v3 s0 s1 = some o) (hK : Sum.elim (fun st : Int × Int => ∀ (H : Heap) (locs : List Loc) (ls : Array Slot), Rl g ad h s.heap H locs → lv_has ls 4 [(0, .ref (ad v0)), (1, .int (Int32.ofInt v1)), (2, .int (Int32.ofInt st.1)), (3, .int (Int32.ofInt st.2))] → W p l e rmX8_counterOf s m args below meth c H locs 0 0 Q (F0 m 4 ls [])) (fun ex : Int => ∀ (H : Heap) (locs : List Loc) (ls : Array Slot), Rl g ad h s.heap H locs → lv_has ls 4 [(0, .ref (ad v0)), (1, .int (Int32.ofInt v1)), (2, .int (Int32.ofInt ex))] → W p l e rmX8_counterOf s m args below meth c H locs 0 0 Q (F0 m 47 ls [])) o) : W p l e rmX8_counterOf s m args below meth c H locs 0 0 Q (F0 m 39 ls [.int (Int32.ofInt s0), .int (Int32.ofInt s1)]) := by
  unfold JX8_counterOf_39 at hF
  refine pw_iadd hC dX8_counterOf_39 ?_
  refine lv_istore_n (lv' := [(2, .int (Int32.ofInt (s1 + s0))), (0, .ref (ad v0)), (1, .int (Int32.ofInt v1)), (3, .int (Int32.ofInt v3))]) hC.1 hC.2.1 dX8_counterOf_40 rfl hl (by decide) rfl (fun ls hl => ?_)
  refine pw_iinc (lv' := [(3, .int (Int32.ofInt (v3 + 1))), (2, .int (Int32.ofInt (s1 + s0))), (0, .ref (ad v0)), (1, .int (Int32.ofInt v1))]) hC hl 3 dX8_counterOf_41 rfl (by decide) rfl (fun ls hl => ?_)
  refine pw_goto hC 4 dX8_counterOf_44 (by decide) ?_
  cases hF
  exact hK _ _ _ hR (lv_sub hl [2, 3, 1, 0] rfl)
def JX8_counterOf_38 (h : PH) (v0 : Nat) (v1 : Int) (v3 : Int) (s0 : Int) : Option ((Int × Int) ⊕ (Int)) :=
  JX8_counterOf_39 h v0 v1 v3 0 s0
set_option maxHeartbeats 4000000 in
set_option maxRecDepth 100000 in
theorem BX8_counterOf_38 {h : PH} {v0 : Nat} {v1 : Int} {v3 : Int} {s0 : Int} (hC : Cx g p s m args meth c cX8_counterOf 4 RX8 (some .int)) (hR : Rl g ad h s.heap H locs) (hl : lv_has ls 4 [(0, .ref (ad v0)), (1, .int (Int32.ofInt v1)), (3, .int (Int32.ofInt v3))]) {Q : State → Prop} {o : (Int × Int) ⊕ (Int)} (hF : JX8_counterOf_38 h v0 v1 v3 s0 = some o) (hK : Sum.elim (fun st : Int × Int => ∀ (H : Heap) (locs : List Loc) (ls : Array Slot), Rl g ad h s.heap H locs → lv_has ls 4 [(0, .ref (ad v0)), (1, .int (Int32.ofInt v1)), (2, .int (Int32.ofInt st.1)), (3, .int (Int32.ofInt st.2))] → W p l e rmX8_counterOf s m args below meth c H locs 0 0 Q (F0 m 4 ls [])) (fun ex : Int => ∀ (H : Heap) (locs : List Loc) (ls : Array Slot), Rl g ad h s.heap H locs → lv_has ls 4 [(0, .ref (ad v0)), (1, .int (Int32.ofInt v1)), (2, .int (Int32.ofInt ex))] → W p l e rmX8_counterOf s m args below meth c H locs 0 0 Q (F0 m 47 ls [])) o) : W p l e rmX8_counterOf s m args below meth c H locs 0 0 Q (F0 m 38 ls [.int (Int32.ofInt s0)]) := by
  unfold JX8_counterOf_38 at hF
  refine pw_iconst hC dX8_counterOf_38 ?_
  exact BX8_counterOf_39 hC hR (lv_sub hl [0, 1, 2] rfl) hF hK
def LX8_counterOf_4 (h : PH) (v0 : Nat) (v1 : Int) (v2 : Int) (v3 : Int) : Option ((Int × Int) ⊕ (Int)) :=
  if w32 v3 < w32 v1 then (
    (FX8_task h v1).bind fun x1 =>
    (ald 0 h v0 (x1 + 3)).bind fun x2 =>
    if w32 (andI (shrI x2 v3) 1) = w32 1 then (
      (FX8_isFinished h v0 v3).bind fun x3 =>
      if w32 x3 = 0 then (
        JX8_counterOf_39 h v0 v1 v3 1 v2
      ) else (
        JX8_counterOf_38 h v0 v1 v3 v2
      )
    ) else (
      JX8_counterOf_38 h v0 v1 v3 v2
    )
  ) else (
    some (.inr v2)
  )
set_option maxHeartbeats 4000000 in
set_option maxRecDepth 100000 in
theorem LRX8_counterOf_4 {h : PH} {v0 : Nat} {v1 : Int} {Q : State → Prop} (hC : Cx g p s m args meth c cX8_counterOf 4 RX8 (some .int)) : ∀ (n : Nat) (st : Int × Int) (ex : Int), lp (fun st : Int × Int => LX8_counterOf_4 h v0 v1 st.1 st.2) n st = some ex → (fun ex : Int => ∀ (H : Heap) (locs : List Loc) (ls : Array Slot), Rl g ad h s.heap H locs → lv_has ls 4 [(0, .ref (ad v0)), (1, .int (Int32.ofInt v1)), (2, .int (Int32.ofInt ex))] → W p l e rmX8_counterOf s m args below meth c H locs 0 0 Q (F0 m 47 ls [])) ex → ∀ (H : Heap) (locs : List Loc) (ls : Array Slot), Rl g ad h s.heap H locs → lv_has ls 4 [(0, .ref (ad v0)), (1, .int (Int32.ofInt v1)), (2, .int (Int32.ofInt st.1)), (3, .int (Int32.ofInt st.2))] → W p l e rmX8_counterOf s m args below meth c H locs 0 0 Q (F0 m 4 ls []) := by
  refine lp_rule (Ph := (fun st : Int × Int => ∀ (H : Heap) (locs : List Loc) (ls : Array Slot), Rl g ad h s.heap H locs → lv_has ls 4 [(0, .ref (ad v0)), (1, .int (Int32.ofInt v1)), (2, .int (Int32.ofInt st.1)), (3, .int (Int32.ofInt st.2))] → W p l e rmX8_counterOf s m args below meth c H locs 0 0 Q (F0 m 4 ls []))) (Px := (fun ex : Int => ∀ (H : Heap) (locs : List Loc) (ls : Array Slot), Rl g ad h s.heap H locs → lv_has ls 4 [(0, .ref (ad v0)), (1, .int (Int32.ofInt v1)), (2, .int (Int32.ofInt ex))] → W p l e rmX8_counterOf s m args below meth c H locs 0 0 Q (F0 m 47 ls []))) ?_
  rintro ⟨v2, v3⟩ o hF hK H locs ls hR hl
  have hR : Rl g ad h s.heap H locs := hR
  have hl : lv_has ls 4 [(0, .ref (ad v0)), (1, .int (Int32.ofInt v1)), (2, .int (Int32.ofInt v2)), (3, .int (Int32.ofInt v3))] := hl
  have hF : LX8_counterOf_4 h v0 v1 v2 v3 = some o := hF
  unfold LX8_counterOf_4 at hF
  refine lv_iload_n hC.1 hC.2.1 dX8_counterOf_4 rfl (lv_at hl 3 rfl) ?_
  refine lv_iload_n hC.1 hC.2.1 dX8_counterOf_5 rfl (lv_at hl 1 rfl) ?_
  refine pw_icmpge hC 47 dX8_counterOf_6 (by decide) (fun hc => ?_) (fun hc => ?_)
  · rw [if_neg hc] at hF
    cases hF
    exact hK _ _ _ hR (lv_sub hl [0, 1, 2] rfl)
  · rw [if_pos hc] at hF
    refine lv_iload_n hC.1 hC.2.1 dX8_counterOf_9 rfl (lv_at hl 2 rfl) ?_
    refine lv_aload_n hC.1 hC.2.1 dX8_counterOf_10 rfl (lv_at hl 0 rfl) ?_
    refine lv_iload_n hC.1 hC.2.1 dX8_counterOf_11 rfl (lv_at hl 1 rfl) ?_
    obtain ⟨x1, e1, hF⟩ := bnd hF
    refine pw_cSi (rest := [.ref (ad v0), .int (Int32.ofInt v2)]) hC hR lsX8_136 (CX8_task e1) ⟨rfl, rfl⟩ rfl hl.1 rfl ⟨Nat.le_of_ble_eq_true rfl, Nat.le_of_ble_eq_true rfl⟩ (Nat.le_of_ble_eq_true rfl) dX8_counterOf_12 ⟨Nat.zero_le _, Nat.zero_le _⟩ (fun H locs hR => ?_)
    refine pw_iconst hC dX8_counterOf_15 ?_
    refine pw_iadd hC dX8_counterOf_16 ?_
    obtain ⟨x2, e2, hF⟩ := bnd hF
    refine pw_iald hC hR e2 dX8_counterOf_17 ?_
    refine lv_iload_n hC.1 hC.2.1 dX8_counterOf_18 rfl (lv_at hl 3 rfl) ?_
    refine pw_ishr hC dX8_counterOf_19 ?_
    refine pw_iconst hC dX8_counterOf_20 ?_
    refine pw_iand hC dX8_counterOf_21 ?_
    refine pw_iconst hC dX8_counterOf_22 ?_
    refine pw_icmpne hC 38 dX8_counterOf_23 (by decide) (fun hc => ?_) (fun hc => ?_)
    · rw [if_neg hc] at hF
      exact BX8_counterOf_38 hC hR (lv_sub hl [0, 1, 3] rfl) hF hK
    · rw [if_pos hc] at hF
      refine lv_aload_n hC.1 hC.2.1 dX8_counterOf_26 rfl (lv_at hl 0 rfl) ?_
      refine lv_iload_n hC.1 hC.2.1 dX8_counterOf_27 rfl (lv_at hl 3 rfl) ?_
      obtain ⟨x3, e3, hF⟩ := bnd hF
      refine pw_cSi (rest := [.int (Int32.ofInt v2)]) hC hR lsX8_196 (CX8_isFinished e3) ⟨rfl, rfl⟩ rfl hl.1 rfl ⟨Nat.le_of_ble_eq_true rfl, Nat.le_of_ble_eq_true rfl⟩ (Nat.le_of_ble_eq_true rfl) dX8_counterOf_28 ⟨Nat.zero_le _, Nat.zero_le _⟩ (fun H locs hR => ?_)
      refine pw_ifne hC 38 dX8_counterOf_31 (by decide) (fun hc => ?_) (fun hc => ?_)
      · rw [if_neg hc] at hF
        exact BX8_counterOf_38 hC hR (lv_sub hl [0, 1, 3] rfl) hF hK
      · rw [if_pos hc] at hF
        refine pw_iconst hC dX8_counterOf_34 ?_
        refine pw_goto hC 39 dX8_counterOf_35 (by decide) ?_
        exact BX8_counterOf_39 hC hR (lv_sub hl [0, 1, 3] rfl) hF hK
def JX8_counterOf_80 (h : PH) (v0 : Nat) (v1 : Int) (v3 : Int) (s0 : Int) (s1 : Int) : Option ((Int × Int) ⊕ (Int)) :=
  some (.inl ((s1 + s0), (v3 + 1)))
set_option maxHeartbeats 4000000 in
set_option maxRecDepth 100000 in
theorem BX8_counterOf_80 {h : PH} {v0 : Nat} {v1 : Int} {v3 : Int} {s0 : Int} {s1 : Int} (hC : Cx g p s m args meth c cX8_counterOf 4 RX8 (some .int)) (hR : Rl g ad h s.heap H locs) (hl : lv_has ls 4 [(0, .ref (ad v0)), (1, .int (Int32.ofInt v1)), (3, .int (Int32.ofInt v3))]) {Q : State → Prop} {o : (Int × Int) ⊕ (Int)} (hF : JX8_counterOf_80 h v0 v1 v3 s0 s1 = some o) (hK : Sum.elim (fun st : Int × Int => ∀ (H : Heap) (locs : List Loc) (ls : Array Slot), Rl g ad h s.heap H locs → lv_has ls 4 [(0, .ref (ad v0)), (1, .int (Int32.ofInt v1)), (2, .int (Int32.ofInt st.1)), (3, .int (Int32.ofInt st.2))] → W p l e rmX8_counterOf s m args below meth c H locs 0 0 Q (F0 m 49 ls [])) (fun ex : Int => ∀ (H : Heap) (locs : List Loc) (ls : Array Slot), Rl g ad h s.heap H locs → lv_has ls 4 [(2, .int (Int32.ofInt ex))] → W p l e rmX8_counterOf s m args below meth c H locs 0 0 Q (F0 m 88 ls [])) o) : W p l e rmX8_counterOf s m args below meth c H locs 0 0 Q (F0 m 80 ls [.int (Int32.ofInt s0), .int (Int32.ofInt s1)]) := by
  unfold JX8_counterOf_80 at hF
  refine pw_iadd hC dX8_counterOf_80 ?_
  refine lv_istore_n (lv' := [(2, .int (Int32.ofInt (s1 + s0))), (0, .ref (ad v0)), (1, .int (Int32.ofInt v1)), (3, .int (Int32.ofInt v3))]) hC.1 hC.2.1 dX8_counterOf_81 rfl hl (by decide) rfl (fun ls hl => ?_)
  refine pw_iinc (lv' := [(3, .int (Int32.ofInt (v3 + 1))), (2, .int (Int32.ofInt (s1 + s0))), (0, .ref (ad v0)), (1, .int (Int32.ofInt v1))]) hC hl 3 dX8_counterOf_82 rfl (by decide) rfl (fun ls hl => ?_)
  refine pw_goto hC 49 dX8_counterOf_85 (by decide) ?_
  cases hF
  exact hK _ _ _ hR (lv_sub hl [2, 3, 1, 0] rfl)
def JX8_counterOf_79 (h : PH) (v0 : Nat) (v1 : Int) (v3 : Int) (s0 : Int) : Option ((Int × Int) ⊕ (Int)) :=
  JX8_counterOf_80 h v0 v1 v3 0 s0
set_option maxHeartbeats 4000000 in
set_option maxRecDepth 100000 in
theorem BX8_counterOf_79 {h : PH} {v0 : Nat} {v1 : Int} {v3 : Int} {s0 : Int} (hC : Cx g p s m args meth c cX8_counterOf 4 RX8 (some .int)) (hR : Rl g ad h s.heap H locs) (hl : lv_has ls 4 [(0, .ref (ad v0)), (1, .int (Int32.ofInt v1)), (3, .int (Int32.ofInt v3))]) {Q : State → Prop} {o : (Int × Int) ⊕ (Int)} (hF : JX8_counterOf_79 h v0 v1 v3 s0 = some o) (hK : Sum.elim (fun st : Int × Int => ∀ (H : Heap) (locs : List Loc) (ls : Array Slot), Rl g ad h s.heap H locs → lv_has ls 4 [(0, .ref (ad v0)), (1, .int (Int32.ofInt v1)), (2, .int (Int32.ofInt st.1)), (3, .int (Int32.ofInt st.2))] → W p l e rmX8_counterOf s m args below meth c H locs 0 0 Q (F0 m 49 ls [])) (fun ex : Int => ∀ (H : Heap) (locs : List Loc) (ls : Array Slot), Rl g ad h s.heap H locs → lv_has ls 4 [(2, .int (Int32.ofInt ex))] → W p l e rmX8_counterOf s m args below meth c H locs 0 0 Q (F0 m 88 ls [])) o) : W p l e rmX8_counterOf s m args below meth c H locs 0 0 Q (F0 m 79 ls [.int (Int32.ofInt s0)]) := by
  unfold JX8_counterOf_79 at hF
  refine pw_iconst hC dX8_counterOf_79 ?_
  exact BX8_counterOf_80 hC hR (lv_sub hl [0, 1, 2] rfl) hF hK
def LX8_counterOf_49 (h : PH) (v0 : Nat) (v1 : Int) (v2 : Int) (v3 : Int) : Option ((Int × Int) ⊕ (Int)) :=
  (ald 0 h v0 4).bind fun x5 =>
  if w32 v3 < w32 x5 then (
    (ald 0 h v0 (8 + v3)).bind fun x6 =>
    if w32 v1 < w32 x6 then (
      JX8_counterOf_79 h v0 v1 v3 v2
    ) else (
      (FX8_isOpened h v0 v3).bind fun x7 =>
      if w32 x7 = 0 then (
        JX8_counterOf_80 h v0 v1 v3 1 v2
      ) else (
        JX8_counterOf_79 h v0 v1 v3 v2
      )
    )
  ) else (
    some (.inr v2)
  )
set_option maxHeartbeats 4000000 in
set_option maxRecDepth 100000 in
theorem LRX8_counterOf_49 {h : PH} {v0 : Nat} {v1 : Int} {Q : State → Prop} (hC : Cx g p s m args meth c cX8_counterOf 4 RX8 (some .int)) : ∀ (n : Nat) (st : Int × Int) (ex : Int), lp (fun st : Int × Int => LX8_counterOf_49 h v0 v1 st.1 st.2) n st = some ex → (fun ex : Int => ∀ (H : Heap) (locs : List Loc) (ls : Array Slot), Rl g ad h s.heap H locs → lv_has ls 4 [(2, .int (Int32.ofInt ex))] → W p l e rmX8_counterOf s m args below meth c H locs 0 0 Q (F0 m 88 ls [])) ex → ∀ (H : Heap) (locs : List Loc) (ls : Array Slot), Rl g ad h s.heap H locs → lv_has ls 4 [(0, .ref (ad v0)), (1, .int (Int32.ofInt v1)), (2, .int (Int32.ofInt st.1)), (3, .int (Int32.ofInt st.2))] → W p l e rmX8_counterOf s m args below meth c H locs 0 0 Q (F0 m 49 ls []) := by
  refine lp_rule (Ph := (fun st : Int × Int => ∀ (H : Heap) (locs : List Loc) (ls : Array Slot), Rl g ad h s.heap H locs → lv_has ls 4 [(0, .ref (ad v0)), (1, .int (Int32.ofInt v1)), (2, .int (Int32.ofInt st.1)), (3, .int (Int32.ofInt st.2))] → W p l e rmX8_counterOf s m args below meth c H locs 0 0 Q (F0 m 49 ls []))) (Px := (fun ex : Int => ∀ (H : Heap) (locs : List Loc) (ls : Array Slot), Rl g ad h s.heap H locs → lv_has ls 4 [(2, .int (Int32.ofInt ex))] → W p l e rmX8_counterOf s m args below meth c H locs 0 0 Q (F0 m 88 ls []))) ?_
  rintro ⟨v2, v3⟩ o hF hK H locs ls hR hl
  have hR : Rl g ad h s.heap H locs := hR
  have hl : lv_has ls 4 [(0, .ref (ad v0)), (1, .int (Int32.ofInt v1)), (2, .int (Int32.ofInt v2)), (3, .int (Int32.ofInt v3))] := hl
  have hF : LX8_counterOf_49 h v0 v1 v2 v3 = some o := hF
  unfold LX8_counterOf_49 at hF
  refine lv_iload_n hC.1 hC.2.1 dX8_counterOf_49 rfl (lv_at hl 3 rfl) ?_
  refine lv_aload_n hC.1 hC.2.1 dX8_counterOf_50 rfl (lv_at hl 0 rfl) ?_
  refine pw_iconst hC dX8_counterOf_51 ?_
  obtain ⟨x5, e5, hF⟩ := bnd hF
  refine pw_iald hC hR e5 dX8_counterOf_52 ?_
  refine pw_icmpge hC 88 dX8_counterOf_53 (by decide) (fun hc => ?_) (fun hc => ?_)
  · rw [if_neg hc] at hF
    cases hF
    exact hK _ _ _ hR (lv_sub hl [2] rfl)
  · rw [if_pos hc] at hF
    refine lv_iload_n hC.1 hC.2.1 dX8_counterOf_56 rfl (lv_at hl 2 rfl) ?_
    refine lv_aload_n hC.1 hC.2.1 dX8_counterOf_57 rfl (lv_at hl 0 rfl) ?_
    refine pw_bipush hC dX8_counterOf_58 rfl ?_
    refine lv_iload_n hC.1 hC.2.1 dX8_counterOf_60 rfl (lv_at hl 3 rfl) ?_
    refine pw_iadd hC dX8_counterOf_61 ?_
    obtain ⟨x6, e6, hF⟩ := bnd hF
    refine pw_iald hC hR e6 dX8_counterOf_62 ?_
    refine lv_iload_n hC.1 hC.2.1 dX8_counterOf_63 rfl (lv_at hl 1 rfl) ?_
    refine pw_icmpgt hC 79 dX8_counterOf_64 (by decide) (fun hc => ?_) (fun hc => ?_)
    · rw [if_pos hc] at hF
      exact BX8_counterOf_79 hC hR (lv_sub hl [0, 1, 3] rfl) hF hK
    · rw [if_neg hc] at hF
      refine lv_aload_n hC.1 hC.2.1 dX8_counterOf_67 rfl (lv_at hl 0 rfl) ?_
      refine lv_iload_n hC.1 hC.2.1 dX8_counterOf_68 rfl (lv_at hl 3 rfl) ?_
      obtain ⟨x7, e7, hF⟩ := bnd hF
      refine pw_cSi (rest := [.int (Int32.ofInt v2)]) hC hR lsX8_200 (CX8_isOpened e7) ⟨rfl, rfl⟩ rfl hl.1 rfl ⟨Nat.le_of_ble_eq_true rfl, Nat.le_of_ble_eq_true rfl⟩ (Nat.le_of_ble_eq_true rfl) dX8_counterOf_69 ⟨Nat.zero_le _, Nat.zero_le _⟩ (fun H locs hR => ?_)
      refine pw_ifne hC 79 dX8_counterOf_72 (by decide) (fun hc => ?_) (fun hc => ?_)
      · rw [if_neg hc] at hF
        exact BX8_counterOf_79 hC hR (lv_sub hl [0, 1, 3] rfl) hF hK
      · rw [if_pos hc] at hF
        refine pw_iconst hC dX8_counterOf_75 ?_
        refine pw_goto hC 80 dX8_counterOf_76 (by decide) ?_
        exact BX8_counterOf_80 hC hR (lv_sub hl [0, 1, 3] rfl) hF hK
def FX8_counterOf (h : PH) (v0 : Nat) (v1 : Int) : Option (Int) :=
  (lp (fun st : Int × Int => LX8_counterOf_4 h v0 v1 st.1 st.2) FU (0, 0)).bind fun ex4 =>
  (lp (fun st : Int × Int => LX8_counterOf_49 h v0 v1 st.1 st.2) FU (ex4, 0)).bind fun ex8 =>
  some ex8
set_option maxHeartbeats 4000000 in
set_option maxRecDepth 100000 in
theorem CX8_counterOf {g : GP} {l : Launch} {ad : Nat → Nat} {h : PH} {v0 : Nat} {v1 : Int} {q : Int} (hF : FX8_counterOf h v0 v1 = some q) : CN g l yX8_counterOf cX8_counterOf 4 (some .int) rmX8_counterOf ad h [.ref (ad v0), .int (Int32.ofInt v1)] (some (.int (Int32.ofInt q))) h := by
  refine pw_met (by decide) (Nat.le_of_ble_eq_true rfl) ?_
  intro p e s m args below meth c ls hC hN hR hl
  have hl : lv_has ls 4 [(0, .ref (ad v0)), (1, .int (Int32.ofInt v1))] := hl
  unfold FX8_counterOf at hF
  refine pw_iconst hC dX8_counterOf_0 ?_
  refine lv_istore_n (lv' := [(2, .int (Int32.ofInt 0)), (0, .ref (ad v0)), (1, .int (Int32.ofInt v1))]) hC.1 hC.2.1 dX8_counterOf_1 rfl hl (by decide) rfl (fun ls hl => ?_)
  refine pw_iconst hC dX8_counterOf_2 ?_
  refine lv_istore_n (lv' := [(3, .int (Int32.ofInt 0)), (2, .int (Int32.ofInt 0)), (0, .ref (ad v0)), (1, .int (Int32.ofInt v1))]) hC.1 hC.2.1 dX8_counterOf_3 rfl hl (by decide) rfl (fun ls hl => ?_)
  obtain ⟨ex4, e4, hF⟩ := bnd hF
  refine LRX8_counterOf_4 hC FU _ ex4 e4 ?_ _ _ _ hR (lv_sub hl [2, 3, 1, 0] rfl)
  intro H locs ls hR hl
  refine pw_iconst hC dX8_counterOf_47 ?_
  refine lv_istore_n (lv' := [(3, .int (Int32.ofInt 0)), (0, .ref (ad v0)), (1, .int (Int32.ofInt v1)), (2, .int (Int32.ofInt ex4))]) hC.1 hC.2.1 dX8_counterOf_48 rfl hl (by decide) rfl (fun ls hl => ?_)
  obtain ⟨ex8, e8, hF⟩ := bnd hF
  refine LRX8_counterOf_49 hC FU _ ex8 e8 ?_ _ _ _ hR (lv_sub hl [1, 2, 3, 0] rfl)
  intro H locs ls hR hl
  refine lv_iload_n hC.1 hC.2.1 dX8_counterOf_88 rfl (lv_at hl 0 rfl) ?_
  cases hF
  exact pw_iret hC hR dX8_counterOf_89
abbrev rmX8_finishedOf : Room := { frames := 2, cells := 0, slots := 0, locals := 41 }
def JX8_finishedOf_25 (h : PH) (v0 : Nat) (v2 : Int) (s0 : Int) (s1 : Int) : Option ((Int × Int) ⊕ (Int)) :=
  some (.inl ((s1 + s0), (v2 + 1)))
set_option maxHeartbeats 4000000 in
set_option maxRecDepth 100000 in
theorem BX8_finishedOf_25 {h : PH} {v0 : Nat} {v2 : Int} {s0 : Int} {s1 : Int} (hC : Cx g p s m args meth c cX8_finishedOf 3 RX8 (some .int)) (hR : Rl g ad h s.heap H locs) (hl : lv_has ls 3 [(0, .ref (ad v0)), (2, .int (Int32.ofInt v2))]) {Q : State → Prop} {o : (Int × Int) ⊕ (Int)} (hF : JX8_finishedOf_25 h v0 v2 s0 s1 = some o) (hK : Sum.elim (fun st : Int × Int => ∀ (H : Heap) (locs : List Loc) (ls : Array Slot), Rl g ad h s.heap H locs → lv_has ls 3 [(0, .ref (ad v0)), (1, .int (Int32.ofInt st.1)), (2, .int (Int32.ofInt st.2))] → W p l e rmX8_finishedOf s m args below meth c H locs 0 0 Q (F0 m 4 ls [])) (fun ex : Int => ∀ (H : Heap) (locs : List Loc) (ls : Array Slot), Rl g ad h s.heap H locs → lv_has ls 3 [(1, .int (Int32.ofInt ex))] → W p l e rmX8_finishedOf s m args below meth c H locs 0 0 Q (F0 m 33 ls [])) o) : W p l e rmX8_finishedOf s m args below meth c H locs 0 0 Q (F0 m 25 ls [.int (Int32.ofInt s0), .int (Int32.ofInt s1)]) := by
  unfold JX8_finishedOf_25 at hF
  refine pw_iadd hC dX8_finishedOf_25 ?_
  refine lv_istore_n (lv' := [(1, .int (Int32.ofInt (s1 + s0))), (0, .ref (ad v0)), (2, .int (Int32.ofInt v2))]) hC.1 hC.2.1 dX8_finishedOf_26 rfl hl (by decide) rfl (fun ls hl => ?_)
  refine pw_iinc (lv' := [(2, .int (Int32.ofInt (v2 + 1))), (1, .int (Int32.ofInt (s1 + s0))), (0, .ref (ad v0))]) hC hl 2 dX8_finishedOf_27 rfl (by decide) rfl (fun ls hl => ?_)
  refine pw_goto hC 4 dX8_finishedOf_30 (by decide) ?_
  cases hF
  exact hK _ _ _ hR (lv_sub hl [2, 1, 0] rfl)
def LX8_finishedOf_4 (h : PH) (v0 : Nat) (v1 : Int) (v2 : Int) : Option ((Int × Int) ⊕ (Int)) :=
  (ald 0 h v0 3).bind fun x1 =>
  if w32 v2 < w32 x1 then (
    (FX8_isFinished h v0 v2).bind fun x2 =>
    if w32 x2 = 0 then (
      JX8_finishedOf_25 h v0 v2 0 v1
    ) else (
      JX8_finishedOf_25 h v0 v2 1 v1
    )
  ) else (
    some (.inr v1)
  )
set_option maxHeartbeats 4000000 in
set_option maxRecDepth 100000 in
theorem LRX8_finishedOf_4 {h : PH} {v0 : Nat} {Q : State → Prop} (hC : Cx g p s m args meth c cX8_finishedOf 3 RX8 (some .int)) : ∀ (n : Nat) (st : Int × Int) (ex : Int), lp (fun st : Int × Int => LX8_finishedOf_4 h v0 st.1 st.2) n st = some ex → (fun ex : Int => ∀ (H : Heap) (locs : List Loc) (ls : Array Slot), Rl g ad h s.heap H locs → lv_has ls 3 [(1, .int (Int32.ofInt ex))] → W p l e rmX8_finishedOf s m args below meth c H locs 0 0 Q (F0 m 33 ls [])) ex → ∀ (H : Heap) (locs : List Loc) (ls : Array Slot), Rl g ad h s.heap H locs → lv_has ls 3 [(0, .ref (ad v0)), (1, .int (Int32.ofInt st.1)), (2, .int (Int32.ofInt st.2))] → W p l e rmX8_finishedOf s m args below meth c H locs 0 0 Q (F0 m 4 ls []) := by
  refine lp_rule (Ph := (fun st : Int × Int => ∀ (H : Heap) (locs : List Loc) (ls : Array Slot), Rl g ad h s.heap H locs → lv_has ls 3 [(0, .ref (ad v0)), (1, .int (Int32.ofInt st.1)), (2, .int (Int32.ofInt st.2))] → W p l e rmX8_finishedOf s m args below meth c H locs 0 0 Q (F0 m 4 ls []))) (Px := (fun ex : Int => ∀ (H : Heap) (locs : List Loc) (ls : Array Slot), Rl g ad h s.heap H locs → lv_has ls 3 [(1, .int (Int32.ofInt ex))] → W p l e rmX8_finishedOf s m args below meth c H locs 0 0 Q (F0 m 33 ls []))) ?_
  rintro ⟨v1, v2⟩ o hF hK H locs ls hR hl
  have hR : Rl g ad h s.heap H locs := hR
  have hl : lv_has ls 3 [(0, .ref (ad v0)), (1, .int (Int32.ofInt v1)), (2, .int (Int32.ofInt v2))] := hl
  have hF : LX8_finishedOf_4 h v0 v1 v2 = some o := hF
  unfold LX8_finishedOf_4 at hF
  refine lv_iload_n hC.1 hC.2.1 dX8_finishedOf_4 rfl (lv_at hl 2 rfl) ?_
  refine lv_aload_n hC.1 hC.2.1 dX8_finishedOf_5 rfl (lv_at hl 0 rfl) ?_
  refine pw_iconst hC dX8_finishedOf_6 ?_
  obtain ⟨x1, e1, hF⟩ := bnd hF
  refine pw_iald hC hR e1 dX8_finishedOf_7 ?_
  refine pw_icmpge hC 33 dX8_finishedOf_8 (by decide) (fun hc => ?_) (fun hc => ?_)
  · rw [if_neg hc] at hF
    cases hF
    exact hK _ _ _ hR (lv_sub hl [1] rfl)
  · rw [if_pos hc] at hF
    refine lv_iload_n hC.1 hC.2.1 dX8_finishedOf_11 rfl (lv_at hl 1 rfl) ?_
    refine lv_aload_n hC.1 hC.2.1 dX8_finishedOf_12 rfl (lv_at hl 0 rfl) ?_
    refine lv_iload_n hC.1 hC.2.1 dX8_finishedOf_13 rfl (lv_at hl 2 rfl) ?_
    obtain ⟨x2, e2, hF⟩ := bnd hF
    refine pw_cSi (rest := [.int (Int32.ofInt v1)]) hC hR lsX8_196 (CX8_isFinished e2) ⟨rfl, rfl⟩ rfl hl.1 rfl ⟨Nat.le_of_ble_eq_true rfl, Nat.le_of_ble_eq_true rfl⟩ (Nat.le_of_ble_eq_true rfl) dX8_finishedOf_14 ⟨Nat.zero_le _, Nat.zero_le _⟩ (fun H locs hR => ?_)
    refine pw_ifeq hC 24 dX8_finishedOf_17 (by decide) (fun hc => ?_) (fun hc => ?_)
    · rw [if_pos hc] at hF
      refine pw_iconst hC dX8_finishedOf_24 ?_
      exact BX8_finishedOf_25 hC hR (lv_sub hl [0, 2] rfl) hF hK
    · rw [if_neg hc] at hF
      refine pw_iconst hC dX8_finishedOf_20 ?_
      refine pw_goto hC 25 dX8_finishedOf_21 (by decide) ?_
      exact BX8_finishedOf_25 hC hR (lv_sub hl [0, 2] rfl) hF hK
def FX8_finishedOf (h : PH) (v0 : Nat) : Option (Int) :=
  (lp (fun st : Int × Int => LX8_finishedOf_4 h v0 st.1 st.2) FU (0, 0)).bind fun ex3 =>
  some ex3
set_option maxHeartbeats 4000000 in
set_option maxRecDepth 100000 in
theorem CX8_finishedOf {g : GP} {l : Launch} {ad : Nat → Nat} {h : PH} {v0 : Nat} {q : Int} (hF : FX8_finishedOf h v0 = some q) : CN g l yX8_finishedOf cX8_finishedOf 3 (some .int) rmX8_finishedOf ad h [.ref (ad v0)] (some (.int (Int32.ofInt q))) h := by
  refine pw_met (by decide) (Nat.le_of_ble_eq_true rfl) ?_
  intro p e s m args below meth c ls hC hN hR hl
  have hl : lv_has ls 3 [(0, .ref (ad v0))] := hl
  unfold FX8_finishedOf at hF
  refine pw_iconst hC dX8_finishedOf_0 ?_
  refine lv_istore_n (lv' := [(1, .int (Int32.ofInt 0)), (0, .ref (ad v0))]) hC.1 hC.2.1 dX8_finishedOf_1 rfl hl (by decide) rfl (fun ls hl => ?_)
  refine pw_iconst hC dX8_finishedOf_2 ?_
  refine lv_istore_n (lv' := [(2, .int (Int32.ofInt 0)), (1, .int (Int32.ofInt 0)), (0, .ref (ad v0))]) hC.1 hC.2.1 dX8_finishedOf_3 rfl hl (by decide) rfl (fun ls hl => ?_)
  obtain ⟨ex3, e3, hF⟩ := bnd hF
  refine LRX8_finishedOf_4 hC FU _ ex3 e3 ?_ _ _ _ hR (lv_sub hl [2, 1, 0] rfl)
  intro H locs ls hR hl
  refine lv_iload_n hC.1 hC.2.1 dX8_finishedOf_33 rfl (lv_at hl 0 rfl) ?_
  cases hF
  exact pw_iret hC hR dX8_finishedOf_34
end
