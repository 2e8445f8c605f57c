section
variable {p : Program} {l : Launch} {e : Env} {s : State} {m : MethodId} {args : Array Value} {below : List Frame} {meth : Method} {c : Code} {H : Heap} {locs : List Loc} {ls : Array Slot} {g : GP} {ad : Nat → Nat}
abbrev rmX8_steals : Room := { frames := 2, cells := 0, slots := 0, locals := 43 }
def JX8_steals_28 (h : PH) (s0 : Int) : Option (Int × PH) :=
  some (s0, h)
set_option maxHeartbeats 4000000 in
set_option maxRecDepth 100000 in
theorem BX8_steals_28 {h : PH} {s0 : Int} (hC : Cx g p s m args meth c cX8_steals 2 RX8 (some .int)) (hR : Rl g ad h s.heap H locs) (hl : lv_has ls 2 []) {q : Int × PH} (hF : JX8_steals_28 h s0 = some q) : W p l e rmX8_steals s m args below meth c H locs 0 0 (MQ below (QcN g ad q.2 (some (.int (Int32.ofInt q.1)))) args s 0 0 (gA g)) (F0 m 28 ls [.int (Int32.ofInt s0)]) := by
  unfold JX8_steals_28 at hF
  cases hF
  exact pw_iret hC hR dX8_steals_28
def FX8_steals (h : PH) (v0 : Nat) (v1 : Int) : Option (Int × PH) :=
  (isO h 8 v0).bind fun _ =>
  (pfi h 8 v0 0 0).bind fun h1 =>
  (FX8_noCore h1 v0 v1).bind fun q2 =>
  if w32 q2.1 = 0 then (
    (gfr q2.2 8 v0 8).bind fun x3 =>
    (FX8_core q2.2 v1).bind fun x4 =>
    (ald 0 q2.2 x3 (x4 + 2)).bind fun x5 =>
    JX8_steals_28 q2.2 x5
  ) else (
    JX8_steals_28 q2.2 0
  )
theorem OX8_steals {h : PH} {v0 : Nat} {v1 : Int} {q : Int × PH} (hF : FX8_steals h v0 v1 = some q) : ∃ fs : List PV, h[v0]? = some (.inr (8, fs)) := by
  unfold FX8_steals at hF
  obtain ⟨u0, e0, -⟩ := bnd hF
  exact isO_spec e0
set_option maxHeartbeats 4000000 in
set_option maxRecDepth 100000 in
theorem CX8_steals {g : GP} {l : Launch} {ad : Nat → Nat} {h : PH} {v0 : Nat} {v1 : Int} {q : Int × PH} (hF : FX8_steals h v0 v1 = some q) : CN g l yX8_steals cX8_steals 2 (some .int) rmX8_steals ad h [.ref (ad v0), .int (Int32.ofInt v1)] (some (.int (Int32.ofInt q.1))) q.2 := by
  refine pw_met (by decide) (Nat.le_of_ble_eq_true rfl) ?_
  intro p e s m args below meth c ls hC hN hR hl
  have hl : lv_has ls 2 [(0, .ref (ad v0)), (1, .int (Int32.ofInt v1))] := hl
  unfold FX8_steals at hF
  obtain ⟨u0, e0, hF⟩ := bnd hF
  refine lv_aload_n hC.1 hC.2.1 dX8_steals_0 rfl (lv_at hl 0 rfl) ?_
  refine pw_iconst hC dX8_steals_1 ?_
  obtain ⟨h1, e1, hF⟩ := bnd hF
  refine pw_pfi hC hR e1 fpX8_38 (Or.inl rfl) dX8_steals_2 (fun H locs hR => ?_)
  refine lv_aload_n hC.1 hC.2.1 dX8_steals_5 rfl (lv_at hl 0 rfl) ?_
  refine lv_iload_n hC.1 hC.2.1 dX8_steals_6 rfl (lv_at hl 1 rfl) ?_
  obtain ⟨q2, e2, hF⟩ := bnd hF
  obtain ⟨fs2, ho2⟩ := OX8_noCore e2
  refine pw_cVi (rest := []) hC hR lvX8_230 ho2 (CX8_noCore e2) ⟨rfl, rfl⟩ rfl hl.1 rfl ⟨Nat.le_of_ble_eq_true rfl, Nat.le_of_ble_eq_true rfl⟩ (Nat.le_of_ble_eq_true rfl) dX8_steals_7 ⟨Nat.zero_le _, Nat.zero_le _⟩ (fun H locs hR => ?_)
  refine pw_ifeq hC 17 dX8_steals_10 (by decide) (fun hc => ?_) (fun hc => ?_)
  · rw [if_pos hc] at hF
    refine lv_aload_n hC.1 hC.2.1 dX8_steals_17 rfl (lv_at hl 0 rfl) ?_
    obtain ⟨x3, e3, hF⟩ := bnd hF
    refine pw_gfr hC hR e3 flX8_17 dX8_steals_18 ?_
    refine lv_iload_n hC.1 hC.2.1 dX8_steals_21 rfl (lv_at hl 1 rfl) ?_
    obtain ⟨x4, e4, hF⟩ := bnd hF
    refine pw_cSi (rest := [.ref (ad x3)]) hC hR lsX8_41 (CX8_core e4) ⟨rfl, rfl⟩ rfl hl.1 rfl ⟨Nat.le_of_ble_eq_true rfl, Nat.le_of_ble_eq_true rfl⟩ (Nat.le_of_ble_eq_true rfl) dX8_steals_22 ⟨Nat.zero_le _, Nat.zero_le _⟩ (fun H locs hR => ?_)
    refine pw_iconst hC dX8_steals_25 ?_
    refine pw_iadd hC dX8_steals_26 ?_
    obtain ⟨x5, e5, hF⟩ := bnd hF
    refine pw_iald hC hR e5 dX8_steals_27 ?_
    exact BX8_steals_28 hC hR (lv_sub hl [] rfl) hF
  · rw [if_neg hc] at hF
    refine pw_iconst hC dX8_steals_13 ?_
    refine pw_goto hC 28 dX8_steals_14 (by decide) ?_
    exact BX8_steals_28 hC hR (lv_sub hl [] rfl) hF
abbrev rmX8_isPaused : Room := { frames := 2, cells := 0, slots := 0, locals := 43 }
def JX8_isPaused_33 (h : PH) (s0 : Int) : Option (Int × PH) :=
  if s0 = 0 ∨ s0 = 1 then some (s0, h) else none
set_option maxHeartbeats 4000000 in
set_option maxRecDepth 100000 in
theorem BX8_isPaused_33 {h : PH} {s0 : Int} (hC : Cx g p s m args meth c cX8_isPaused 2 RX8 (some .boolean)) (hR : Rl g ad h s.heap H locs) (hl : lv_has ls 2 []) {q : Int × PH} (hF : JX8_isPaused_33 h s0 = some q) : W p l e rmX8_isPaused s m args below meth c H locs 0 0 (MQ below (QcN g ad q.2 (some (.int (Int32.ofInt q.1)))) args s 0 0 (gA g)) (F0 m 33 ls [.int (Int32.ofInt s0)]) := by
  unfold JX8_isPaused_33 at hF
  by_cases hb3 : s0 = 0 ∨ s0 = 1
  · rw [if_pos hb3] at hF
    cases hF
    exact pw_zret hC hR hb3 dX8_isPaused_33
  · rw [if_neg hb3] at hF; cases hF
def JX8_isPaused_32 (h : PH) : Option (Int × PH) :=
  JX8_isPaused_33 h 0
set_option maxHeartbeats 4000000 in
set_option maxRecDepth 100000 in
theorem BX8_isPaused_32 {h : PH} (hC : Cx g p s m args meth c cX8_isPaused 2 RX8 (some .boolean)) (hR : Rl g ad h s.heap H locs) (hl : lv_has ls 2 []) {q : Int × PH} (hF : JX8_isPaused_32 h  = some q) : W p l e rmX8_isPaused s m args below meth c H locs 0 0 (MQ below (QcN g ad q.2 (some (.int (Int32.ofInt q.1)))) args s 0 0 (gA g)) (F0 m 32 ls []) := by
  unfold JX8_isPaused_32 at hF
  refine pw_iconst hC dX8_isPaused_32 ?_
  exact BX8_isPaused_33 hC hR (lv_sub hl [] rfl) hF
def FX8_isPaused (h : PH) (v0 : Nat) (v1 : Int) : Option (Int × PH) :=
  (isO h 8 v0).bind fun _ =>
  (pfi h 8 v0 0 0).bind fun h1 =>
  (FX8_noCore h1 v0 v1).bind fun q2 =>
  if w32 q2.1 = 0 then (
    (gfr q2.2 8 v0 8).bind fun x4 =>
    (FX8_core q2.2 v1).bind fun x5 =>
    (ald 0 q2.2 x4 (x5 + 3)).bind fun x6 =>
    if w32 x6 = w32 1 then (
      JX8_isPaused_33 q2.2 1
    ) else (
      JX8_isPaused_32 q2.2
    )
  ) else (
    JX8_isPaused_32 q2.2
  )
theorem OX8_isPaused {h : PH} {v0 : Nat} {v1 : Int} {q : Int × PH} (hF : FX8_isPaused h v0 v1 = some q) : ∃ fs : List PV, h[v0]? = some (.inr (8, fs)) := by
  unfold FX8_isPaused at hF
  obtain ⟨u0, e0, -⟩ := bnd hF
  exact isO_spec e0
set_option maxHeartbeats 4000000 in
set_option maxRecDepth 100000 in
theorem CX8_isPaused {g : GP} {l : Launch} {ad : Nat → Nat} {h : PH} {v0 : Nat} {v1 : Int} {q : Int × PH} (hF : FX8_isPaused h v0 v1 = some q) : CN g l yX8_isPaused cX8_isPaused 2 (some .boolean) rmX8_isPaused ad h [.ref (ad v0), .int (Int32.ofInt v1)] (some (.int (Int32.ofInt q.1))) q.2 := by
  refine pw_met (by decide) (Nat.le_of_ble_eq_true rfl) ?_
  intro p e s m args below meth c ls hC hN hR hl
  have hl : lv_has ls 2 [(0, .ref (ad v0)), (1, .int (Int32.ofInt v1))] := hl
  unfold FX8_isPaused at hF
  obtain ⟨u0, e0, hF⟩ := bnd hF
  refine lv_aload_n hC.1 hC.2.1 dX8_isPaused_0 rfl (lv_at hl 0 rfl) ?_
  refine pw_iconst hC dX8_isPaused_1 ?_
  obtain ⟨h1, e1, hF⟩ := bnd hF
  refine pw_pfi hC hR e1 fpX8_38 (Or.inl rfl) dX8_isPaused_2 (fun H locs hR => ?_)
  refine lv_aload_n hC.1 hC.2.1 dX8_isPaused_5 rfl (lv_at hl 0 rfl) ?_
  refine lv_iload_n hC.1 hC.2.1 dX8_isPaused_6 rfl (lv_at hl 1 rfl) ?_
  obtain ⟨q2, e2, hF⟩ := bnd hF
  obtain ⟨fs2, ho2⟩ := OX8_noCore e2
  refine pw_cVi (rest := []) hC hR lvX8_230 ho2 (CX8_noCore e2) ⟨rfl, rfl⟩ rfl hl.1 rfl ⟨Nat.le_of_ble_eq_true rfl, Nat.le_of_ble_eq_true rfl⟩ (Nat.le_of_ble_eq_true rfl) dX8_isPaused_7 ⟨Nat.zero_le _, Nat.zero_le _⟩ (fun H locs hR => ?_)
  refine pw_ifne hC 32 dX8_isPaused_10 (by decide) (fun hc => ?_) (fun hc => ?_)
  · rw [if_neg hc] at hF
    exact BX8_isPaused_32 hC hR (lv_sub hl [] rfl) hF
  · rw [if_pos hc] at hF
    refine lv_aload_n hC.1 hC.2.1 dX8_isPaused_13 rfl (lv_at hl 0 rfl) ?_
    obtain ⟨x4, e4, hF⟩ := bnd hF
    refine pw_gfr hC hR e4 flX8_17 dX8_isPaused_14 ?_
    refine lv_iload_n hC.1 hC.2.1 dX8_isPaused_17 rfl (lv_at hl 1 rfl) ?_
    obtain ⟨x5, e5, hF⟩ := bnd hF
    refine pw_cSi (rest := [.ref (ad x4)]) hC hR lsX8_41 (CX8_core e5) ⟨rfl, rfl⟩ rfl hl.1 rfl ⟨Nat.le_of_ble_eq_true rfl, Nat.le_of_ble_eq_true rfl⟩ (Nat.le_of_ble_eq_true rfl) dX8_isPaused_18 ⟨Nat.zero_le _, Nat.zero_le _⟩ (fun H locs hR => ?_)
    refine pw_iconst hC dX8_isPaused_21 ?_
    refine pw_iadd hC dX8_isPaused_22 ?_
    obtain ⟨x6, e6, hF⟩ := bnd hF
    refine pw_iald hC hR e6 dX8_isPaused_23 ?_
    refine pw_iconst hC dX8_isPaused_24 ?_
    refine pw_icmpne hC 32 dX8_isPaused_25 (by decide) (fun hc => ?_) (fun hc => ?_)
    · rw [if_neg hc] at hF
      exact BX8_isPaused_32 hC hR (lv_sub hl [] rfl) hF
    · rw [if_pos hc] at hF
      refine pw_iconst hC dX8_isPaused_28 ?_
      refine pw_goto hC 33 dX8_isPaused_29 (by decide) ?_
      exact BX8_isPaused_33 hC hR (lv_sub hl [] rfl) hF
abbrev rmX8_finished : Room := { frames := 3, cells := 0, slots := 0, locals := 63 }
def FX8_finished (h : PH) (v0 : Nat) : Option (Int × PH) :=
  (isO h 8 v0).bind fun _ =>
  (pfi h 8 v0 0 0).bind fun h1 =>
  (gfr h1 8 v0 8).bind fun x2 =>
  (FX8_finishedOf h1 x2).bind fun x3 =>
  some (x3, h1)
theorem OX8_finished {h : PH} {v0 : Nat} {q : Int × PH} (hF : FX8_finished h v0 = some q) : ∃ fs : List PV, h[v0]? = some (.inr (8, fs)) := by
  unfold FX8_finished at hF
  obtain ⟨u0, e0, -⟩ := bnd hF
  exact isO_spec e0
set_option maxHeartbeats 4000000 in
set_option maxRecDepth 100000 in
theorem CX8_finished {g : GP} {l : Launch} {ad : Nat → Nat} {h : PH} {v0 : Nat} {q : Int × PH} (hF : FX8_finished h v0 = some q) : CN g l yX8_finished cX8_finished 1 (some .int) rmX8_finished ad h [.ref (ad v0)] (some (.int (Int32.ofInt q.1))) q.2 := by
  refine pw_met (by decide) (Nat.le_of_ble_eq_true rfl) ?_
  intro p e s m args below meth c ls hC hN hR hl
  have hl : lv_has ls 1 [(0, .ref (ad v0))] := hl
  unfold FX8_finished at hF
  obtain ⟨u0, e0, hF⟩ := bnd hF
  refine lv_aload_n hC.1 hC.2.1 dX8_finished_0 rfl (lv_at hl 0 rfl) ?_
  refine pw_iconst hC dX8_finished_1 ?_
  obtain ⟨h1, e1, hF⟩ := bnd hF
  refine pw_pfi hC hR e1 fpX8_38 (Or.inl rfl) dX8_finished_2 (fun H locs hR => ?_)
  refine lv_aload_n hC.1 hC.2.1 dX8_finished_5 rfl (lv_at hl 0 rfl) ?_
  obtain ⟨x2, e2, hF⟩ := bnd hF
  refine pw_gfr hC hR e2 flX8_17 dX8_finished_6 ?_
  obtain ⟨x3, e3, hF⟩ := bnd hF
  refine pw_cSi (rest := []) hC hR lsX8_236 (CX8_finishedOf e3) ⟨rfl, rfl⟩ rfl hl.1 rfl ⟨Nat.le_of_ble_eq_true rfl, Nat.le_of_ble_eq_true rfl⟩ (Nat.le_of_ble_eq_true rfl) dX8_finished_9 ⟨Nat.zero_le _, Nat.zero_le _⟩ (fun H locs hR => ?_)
  cases hF
  exact pw_iret hC hR dX8_finished_12
abbrev rmX8_isAhead : Room := { frames := 1, cells := 0, slots := 0, locals := 20 }
def JX8_isAhead_61 (h : PH) (v0 : Nat) (v1 : Int) (v2 : Int) (v3 : Int) : Option ((Int) ⊕ (((Unit) ⊕ (Unit)))) :=
  some (.inl (v3 + 1))
set_option maxHeartbeats 4000000 in
set_option maxRecDepth 100000 in
theorem BX8_isAhead_61 {h : PH} {v0 : Nat} {v1 : Int} {v2 : Int} {v3 : Int} (hC : Cx g p s m args meth c cX8_isAhead 4 RX8 (some .boolean)) (hR : Rl g ad h s.heap H locs) (hl : lv_has ls 4 [(0, .ref (ad v0)), (1, .int (Int32.ofInt v1)), (2, .int (Int32.ofInt v2)), (3, .int (Int32.ofInt v3))]) {Q : State → Prop} {o : (Int) ⊕ (((Unit) ⊕ (Unit)))} (hF : JX8_isAhead_61 h v0 v1 v2 v3 = some o) (hK : Sum.elim (fun st : Int => ∀ (H : Heap) (locs : List Loc) (ls : Array Slot), Rl g ad h s.heap H locs → lv_has ls 4 [(0, .ref (ad v0)), (1, .int (Int32.ofInt v1)), (2, .int (Int32.ofInt v2)), (3, .int (Int32.ofInt st))] → W p l e rmX8_isAhead s m args below meth c H locs 0 0 Q (F0 m 23 ls [])) (Sum.elim (fun ex : Unit => ∀ (H : Heap) (locs : List Loc) (ls : Array Slot), Rl g ad h s.heap H locs → lv_has ls 4 [] → W p l e rmX8_isAhead s m args below meth c H locs 0 0 Q (F0 m 59 ls [])) (fun ex : Unit => ∀ (H : Heap) (locs : List Loc) (ls : Array Slot), Rl g ad h s.heap H locs → lv_has ls 4 [] → W p l e rmX8_isAhead s m args below meth c H locs 0 0 Q (F0 m 67 ls []))) o) : W p l e rmX8_isAhead s m args below meth c H locs 0 0 Q (F0 m 61 ls []) := by
  unfold JX8_isAhead_61 at hF
  refine pw_iinc (lv' := [(3, .int (Int32.ofInt (v3 + 1))), (0, .ref (ad v0)), (1, .int (Int32.ofInt v1)), (2, .int (Int32.ofInt v2))]) hC hl 3 dX8_isAhead_61 rfl (by decide) rfl (fun ls hl => ?_)
  refine pw_goto hC 23 dX8_isAhead_64 (by decide) ?_
  cases hF
  exact hK _ _ _ hR (lv_sub hl [1, 2, 3, 0] rfl)
def LX8_isAhead_23 (h : PH) (v0 : Nat) (v1 : Int) (v2 : Int) (v3 : Int) : Option ((Int) ⊕ (((Unit) ⊕ (Unit)))) :=
  (gfr h 8 v0 8).bind fun x4 =>
  (ald 0 h x4 4).bind fun x5 =>
  if w32 v3 < w32 x5 then (
    (gfr h 8 v0 8).bind fun x6 =>
    (ald 0 h x6 (8 + v3)).bind fun x7 =>
    if w32 v1 < w32 x7 then (
      (gfr h 8 v0 8).bind fun x8 =>
      (ald 0 h x8 (8 + v3)).bind fun x9 =>
      if w32 v2 < w32 x9 then (
        JX8_isAhead_61 h v0 v1 v2 v3
      ) else (
        some (.inr (.inl ()))
      )
    ) else (
      JX8_isAhead_61 h v0 v1 v2 v3
    )
  ) else (
    some (.inr (.inr ()))
  )
set_option maxHeartbeats 4000000 in
set_option maxRecDepth 100000 in
theorem LRX8_isAhead_23 {h : PH} {v0 : Nat} {v1 : Int} {v2 : Int} {Q : State → Prop} (hC : Cx g p s m args meth c cX8_isAhead 4 RX8 (some .boolean)) : ∀ (n : Nat) (st : Int) (ex : ((Unit) ⊕ (Unit))), lp (fun st : Int => LX8_isAhead_23 h v0 v1 v2 st) n st = some ex → (Sum.elim (fun ex : Unit => ∀ (H : Heap) (locs : List Loc) (ls : Array Slot), Rl g ad h s.heap H locs → lv_has ls 4 [] → W p l e rmX8_isAhead s m args below meth c H locs 0 0 Q (F0 m 59 ls [])) (fun ex : Unit => ∀ (H : Heap) (locs : List Loc) (ls : Array Slot), Rl g ad h s.heap H locs → lv_has ls 4 [] → W p l e rmX8_isAhead s m args below meth c H locs 0 0 Q (F0 m 67 ls []))) ex → ∀ (H : Heap) (locs : List Loc) (ls : Array Slot), Rl g ad h s.heap H locs → lv_has ls 4 [(0, .ref (ad v0)), (1, .int (Int32.ofInt v1)), (2, .int (Int32.ofInt v2)), (3, .int (Int32.ofInt st))] → W p l e rmX8_isAhead s m args below meth c H locs 0 0 Q (F0 m 23 ls []) := by
  refine lp_rule (Ph := (fun st : Int => ∀ (H : Heap) (locs : List Loc) (ls : Array Slot), Rl g ad h s.heap H locs → lv_has ls 4 [(0, .ref (ad v0)), (1, .int (Int32.ofInt v1)), (2, .int (Int32.ofInt v2)), (3, .int (Int32.ofInt st))] → W p l e rmX8_isAhead s m args below meth c H locs 0 0 Q (F0 m 23 ls []))) (Px := (Sum.elim (fun ex : Unit => ∀ (H : Heap) (locs : List Loc) (ls : Array Slot), Rl g ad h s.heap H locs → lv_has ls 4 [] → W p l e rmX8_isAhead s m args below meth c H locs 0 0 Q (F0 m 59 ls [])) (fun ex : Unit => ∀ (H : Heap) (locs : List Loc) (ls : Array Slot), Rl g ad h s.heap H locs → lv_has ls 4 [] → W p l e rmX8_isAhead s m args below meth c H locs 0 0 Q (F0 m 67 ls [])))) ?_
  rintro v3 o hF hK H locs ls hR hl
  have hR : Rl g ad h s.heap H locs := hR
  have hl : lv_has ls 4 [(0, .ref (ad v0)), (1, .int (Int32.ofInt v1)), (2, .int (Int32.ofInt v2)), (3, .int (Int32.ofInt v3))] := hl
  have hF : LX8_isAhead_23 h v0 v1 v2 v3 = some o := hF
  unfold LX8_isAhead_23 at hF
  refine lv_iload_n hC.1 hC.2.1 dX8_isAhead_23 rfl (lv_at hl 3 rfl) ?_
  refine lv_aload_n hC.1 hC.2.1 dX8_isAhead_24 rfl (lv_at hl 0 rfl) ?_
  obtain ⟨x4, e4, hF⟩ := bnd hF
  refine pw_gfr hC hR e4 flX8_17 dX8_isAhead_25 ?_
  refine pw_iconst hC dX8_isAhead_28 ?_
  obtain ⟨x5, e5, hF⟩ := bnd hF
  refine pw_iald hC hR e5 dX8_isAhead_29 ?_
  refine pw_icmpge hC 67 dX8_isAhead_30 (by decide) (fun hc => ?_) (fun hc => ?_)
  · rw [if_neg hc] at hF
    cases hF
    exact hK _ _ _ hR (lv_sub hl [] rfl)
  · rw [if_pos hc] at hF
    refine lv_iload_n hC.1 hC.2.1 dX8_isAhead_33 rfl (lv_at hl 1 rfl) ?_
    refine lv_aload_n hC.1 hC.2.1 dX8_isAhead_34 rfl (lv_at hl 0 rfl) ?_
    obtain ⟨x6, e6, hF⟩ := bnd hF
    refine pw_gfr hC hR e6 flX8_17 dX8_isAhead_35 ?_
    refine pw_bipush hC dX8_isAhead_38 rfl ?_
    refine lv_iload_n hC.1 hC.2.1 dX8_isAhead_40 rfl (lv_at hl 3 rfl) ?_
    refine pw_iadd hC dX8_isAhead_41 ?_
    obtain ⟨x7, e7, hF⟩ := bnd hF
    refine pw_iald hC hR e7 dX8_isAhead_42 ?_
    refine pw_icmpge hC 61 dX8_isAhead_43 (by decide) (fun hc => ?_) (fun hc => ?_)
    · rw [if_neg hc] at hF
      exact BX8_isAhead_61 hC hR (lv_sub hl [0, 1, 2, 3] rfl) hF hK
    · rw [if_pos hc] at hF
      refine lv_aload_n hC.1 hC.2.1 dX8_isAhead_46 rfl (lv_at hl 0 rfl) ?_
      obtain ⟨x8, e8, hF⟩ := bnd hF
      refine pw_gfr hC hR e8 flX8_17 dX8_isAhead_47 ?_
      refine pw_bipush hC dX8_isAhead_50 rfl ?_
      refine lv_iload_n hC.1 hC.2.1 dX8_isAhead_52 rfl (lv_at hl 3 rfl) ?_
      refine pw_iadd hC dX8_isAhead_53 ?_
      obtain ⟨x9, e9, hF⟩ := bnd hF
      refine pw_iald hC hR e9 dX8_isAhead_54 ?_
      refine lv_iload_n hC.1 hC.2.1 dX8_isAhead_55 rfl (lv_at hl 2 rfl) ?_
      refine pw_icmpgt hC 61 dX8_isAhead_56 (by decide) (fun hc => ?_) (fun hc => ?_)
      · rw [if_pos hc] at hF
        exact BX8_isAhead_61 hC hR (lv_sub hl [0, 1, 2, 3] rfl) hF hK
      · rw [if_neg hc] at hF
        cases hF
        exact hK _ _ _ hR (lv_sub hl [] rfl)
def FX8_isAhead (h : PH) (v0 : Nat) (v1 : Int) (v2 : Int) : Option (Int) :=
  (isO h 8 v0).bind fun _ =>
  (gfr h 8 v0 8).bind fun x1 =>
  (FX8_task h v2).bind fun x2 =>
  (ald 0 h x1 (x2 + 3)).bind fun x3 =>
  if w32 (andI (shrI x3 v1) 1) = w32 1 then (
    some 1
  ) else (
    (lp (fun st : Int => LX8_isAhead_23 h v0 v1 v2 st) FU 0).bind fun ex10 =>
    Sum.elim (fun ex10 => (
      some 1
    )) (fun ex10 => (
      some 0
    )) ex10
  )
theorem OX8_isAhead {h : PH} {v0 : Nat} {v1 : Int} {v2 : Int} {q : Int} (hF : FX8_isAhead h v0 v1 v2 = some q) : ∃ fs : List PV, h[v0]? = some (.inr (8, fs)) := by
  unfold FX8_isAhead at hF
  obtain ⟨u0, e0, -⟩ := bnd hF
  exact isO_spec e0
set_option maxHeartbeats 4000000 in
set_option maxRecDepth 100000 in
theorem CX8_isAhead {g : GP} {l : Launch} {ad : Nat → Nat} {h : PH} {v0 : Nat} {v1 : Int} {v2 : Int} {q : Int} (hF : FX8_isAhead h v0 v1 v2 = some q) : CN g l yX8_isAhead cX8_isAhead 4 (some .boolean) rmX8_isAhead ad h [.ref (ad v0), .int (Int32.ofInt v1), .int (Int32.ofInt v2)] (some (.int (Int32.ofInt q))) h := by
  refine pw_met (by decide) (Nat.le_of_ble_eq_true rfl) ?_
  intro p e s m args below meth c ls hC hN hR hl
  have hl : lv_has ls 4 [(0, .ref (ad v0)), (1, .int (Int32.ofInt v1)), (2, .int (Int32.ofInt v2))] := hl
  unfold FX8_isAhead at hF
  obtain ⟨u0, e0, hF⟩ := bnd hF
  refine lv_aload_n hC.1 hC.2.1 dX8_isAhead_0 rfl (lv_at hl 0 rfl) ?_
  obtain ⟨x1, e1, hF⟩ := bnd hF
  refine pw_gfr hC hR e1 flX8_17 dX8_isAhead_1 ?_
  refine lv_iload_n hC.1 hC.2.1 dX8_isAhead_4 rfl (lv_at hl 2 rfl) ?_
  obtain ⟨x2, e2, hF⟩ := bnd hF
  refine pw_cSi (rest := [.ref (ad x1)]) hC hR lsX8_136 (CX8_task e2) ⟨rfl, rfl⟩ rfl hl.1 rfl ⟨Nat.le_of_ble_eq_true rfl, Nat.le_of_ble_eq_true rfl⟩ (Nat.le_of_ble_eq_true rfl) dX8_isAhead_5 ⟨Nat.zero_le _, Nat.zero_le _⟩ (fun H locs hR => ?_)
  refine pw_iconst hC dX8_isAhead_8 ?_
  refine pw_iadd hC dX8_isAhead_9 ?_
  obtain ⟨x3, e3, hF⟩ := bnd hF
  refine pw_iald hC hR e3 dX8_isAhead_10 ?_
  refine lv_iload_n hC.1 hC.2.1 dX8_isAhead_11 rfl (lv_at hl 1 rfl) ?_
  refine pw_ishr hC dX8_isAhead_12 ?_
  refine pw_iconst hC dX8_isAhead_13 ?_
  refine pw_iand hC dX8_isAhead_14 ?_
  refine pw_iconst hC dX8_isAhead_15 ?_
  refine pw_icmpne hC 21 dX8_isAhead_16 (by decide) (fun hc => ?_) (fun hc => ?_)
  · rw [if_neg hc] at hF
    refine pw_iconst hC dX8_isAhead_21 ?_
    refine lv_istore_n (lv' := [(3, .int (Int32.ofInt 0)), (0, .ref (ad v0)), (1, .int (Int32.ofInt v1)), (2, .int (Int32.ofInt v2))]) hC.1 hC.2.1 dX8_isAhead_22 rfl hl (by decide) rfl (fun ls hl => ?_)
    obtain ⟨ex10, e10, hF⟩ := bnd hF
    refine LRX8_isAhead_23 hC FU _ ex10 e10 ?_ _ _ _ hR (lv_sub hl [1, 2, 3, 0] rfl)
    rcases ex10 with ex10 | ex10
    · dsimp only [Sum.elim_inl, Sum.elim_inr] at hF
      intro H locs ls hR hl
      refine pw_iconst hC dX8_isAhead_59 ?_
      cases hF
      exact pw_zret hC hR (Or.inr rfl) dX8_isAhead_60
    · dsimp only [Sum.elim_inl, Sum.elim_inr] at hF
      intro H locs ls hR hl
      refine pw_iconst hC dX8_isAhead_67 ?_
      cases hF
      exact pw_zret hC hR (Or.inl rfl) dX8_isAhead_68
  · rw [if_pos hc] at hF
    refine pw_iconst hC dX8_isAhead_19 ?_
    cases hF
    exact pw_zret hC hR (Or.inr rfl) dX8_isAhead_20
abbrev rmX8_criticalPath : Room := { frames := 2, cells := 0, slots := 0, locals := 43 }
def JX8_criticalPath_77 (h : PH) (v0 : Nat) (v1 : Int) (v2 : Int) (v3 : Int) : Option ((Int × PH) ⊕ (PH)) :=
  some (.inl ((v3 + 1), h))
set_option maxHeartbeats 4000000 in
set_option maxRecDepth 100000 in
theorem BX8_criticalPath_77 {h : PH} {v0 : Nat} {v1 : Int} {v2 : Int} {v3 : Int} (hC : Cx g p s m args meth c cX8_criticalPath 4 RX8 (some .int)) (hR : Rl g ad h s.heap H locs) (hl : lv_has ls 4 [(0, .ref (ad v0)), (1, .int (Int32.ofInt v1)), (2, .int (Int32.ofInt v2)), (3, .int (Int32.ofInt v3))]) {Q : State → Prop} {o : (Int × PH) ⊕ (PH)} (hF : JX8_criticalPath_77 h v0 v1 v2 v3 = some o) (hK : Sum.elim (fun st : Int × PH => ∀ (H : Heap) (locs : List Loc) (ls : Array Slot), Rl g ad st.2 s.heap H locs → lv_has ls 4 [(0, .ref (ad v0)), (1, .int (Int32.ofInt v1)), (2, .int (Int32.ofInt v2)), (3, .int (Int32.ofInt st.1))] → W p l e rmX8_criticalPath s m args below meth c H locs 0 0 Q (F0 m 42 ls [])) (fun ex : PH => ∀ (H : Heap) (locs : List Loc) (ls : Array Slot), Rl g ad ex s.heap H locs → lv_has ls 4 [(0, .ref (ad v0)), (1, .int (Int32.ofInt v1)), (2, .int (Int32.ofInt v2))] → W p l e rmX8_criticalPath s m args below meth c H locs 0 0 Q (F0 m 83 ls [])) o) : W p l e rmX8_criticalPath s m args below meth c H locs 0 0 Q (F0 m 77 ls []) := by
  unfold JX8_criticalPath_77 at hF
  refine pw_iinc (lv' := [(3, .int (Int32.ofInt (v3 + 1))), (0, .ref (ad v0)), (1, .int (Int32.ofInt v1)), (2, .int (Int32.ofInt v2))]) hC hl 3 dX8_criticalPath_77 rfl (by decide) rfl (fun ls hl => ?_)
  refine pw_goto hC 42 dX8_criticalPath_80 (by decide) ?_
  cases hF
  exact hK _ _ _ hR (lv_sub hl [1, 2, 3, 0] rfl)
def LX8_criticalPath_42 (v0 : Nat) (v1 : Int) (v2 : Int) (v3 : Int) (h : PH) : Option ((Int × PH) ⊕ (PH)) :=
  if w32 v3 < w32 v2 then (
    (FX8_isAhead h v0 v3 v2).bind fun x8 =>
    if w32 x8 = 0 then (
      JX8_criticalPath_77 h v0 v1 v2 v3
    ) else (
      (gfr h 8 v0 17).bind fun x9 =>
      (gfr h 8 v0 17).bind fun x10 =>
      (ald 0 h x10 v2).bind fun x11 =>
      (gfr h 8 v0 17).bind fun x12 =>
      (ald 0 h x12 v3).bind fun x13 =>
      (FX8_max h x11 x13).bind fun x14 =>
      (ast 0 h x9 v2 x14).bind fun h15 =>
      JX8_criticalPath_77 h15 v0 v1 v2 v3
    )
  ) else (
    some (.inr h)
  )
set_option maxHeartbeats 4000000 in
set_option maxRecDepth 100000 in
theorem LRX8_criticalPath_42 {v0 : Nat} {v1 : Int} {v2 : Int} {Q : State → Prop} (hC : Cx g p s m args meth c cX8_criticalPath 4 RX8 (some .int)) : ∀ (n : Nat) (st : Int × PH) (ex : PH), lp (fun st : Int × PH => LX8_criticalPath_42 v0 v1 v2 st.1 st.2) n st = some ex → (fun ex : PH => ∀ (H : Heap) (locs : List Loc) (ls : Array Slot), Rl g ad ex s.heap H locs → lv_has ls 4 [(0, .ref (ad v0)), (1, .int (Int32.ofInt v1)), (2, .int (Int32.ofInt v2))] → W p l e rmX8_criticalPath s m args below meth c H locs 0 0 Q (F0 m 83 ls [])) ex → ∀ (H : Heap) (locs : List Loc) (ls : Array Slot), Rl g ad st.2 s.heap H locs → lv_has ls 4 [(0, .ref (ad v0)), (1, .int (Int32.ofInt v1)), (2, .int (Int32.ofInt v2)), (3, .int (Int32.ofInt st.1))] → W p l e rmX8_criticalPath s m args below meth c H locs 0 0 Q (F0 m 42 ls []) := by
  refine lp_rule (Ph := (fun st : Int × PH => ∀ (H : Heap) (locs : List Loc) (ls : Array Slot), Rl g ad st.2 s.heap H locs → lv_has ls 4 [(0, .ref (ad v0)), (1, .int (Int32.ofInt v1)), (2, .int (Int32.ofInt v2)), (3, .int (Int32.ofInt st.1))] → W p l e rmX8_criticalPath s m args below meth c H locs 0 0 Q (F0 m 42 ls []))) (Px := (fun ex : PH => ∀ (H : Heap) (locs : List Loc) (ls : Array Slot), Rl g ad ex s.heap H locs → lv_has ls 4 [(0, .ref (ad v0)), (1, .int (Int32.ofInt v1)), (2, .int (Int32.ofInt v2))] → W p l e rmX8_criticalPath s m args below meth c H locs 0 0 Q (F0 m 83 ls []))) ?_
  rintro ⟨v3, h⟩ o hF hK H locs ls hR hl
  have hR : Rl g ad h s.heap H locs := hR
  have hl : lv_has ls 4 [(0, .ref (ad v0)), (1, .int (Int32.ofInt v1)), (2, .int (Int32.ofInt v2)), (3, .int (Int32.ofInt v3))] := hl
  have hF : LX8_criticalPath_42 v0 v1 v2 v3 h = some o := hF
  unfold LX8_criticalPath_42 at hF
  refine lv_iload_n hC.1 hC.2.1 dX8_criticalPath_42 rfl (lv_at hl 3 rfl) ?_
  refine lv_iload_n hC.1 hC.2.1 dX8_criticalPath_43 rfl (lv_at hl 2 rfl) ?_
  refine pw_icmpge hC 83 dX8_criticalPath_44 (by decide) (fun hc => ?_) (fun hc => ?_)
  · rw [if_neg hc] at hF
    cases hF
    exact hK _ _ _ hR (lv_sub hl [0, 1, 2] rfl)
  · rw [if_pos hc] at hF
    refine lv_aload_n hC.1 hC.2.1 dX8_criticalPath_47 rfl (lv_at hl 0 rfl) ?_
    refine lv_iload_n hC.1 hC.2.1 dX8_criticalPath_48 rfl (lv_at hl 3 rfl) ?_
    refine lv_iload_n hC.1 hC.2.1 dX8_criticalPath_49 rfl (lv_at hl 2 rfl) ?_
    obtain ⟨x8, e8, hF⟩ := bnd hF
    obtain ⟨fs8, ho8⟩ := OX8_isAhead e8
    refine pw_cVi (rest := []) hC hR lvX8_239 ho8 (CX8_isAhead e8) ⟨rfl, rfl⟩ rfl hl.1 rfl ⟨Nat.le_of_ble_eq_true rfl, Nat.le_of_ble_eq_true rfl⟩ (Nat.le_of_ble_eq_true rfl) dX8_criticalPath_50 ⟨Nat.zero_le _, Nat.zero_le _⟩ (fun H locs hR => ?_)
    refine pw_ifeq hC 77 dX8_criticalPath_53 (by decide) (fun hc => ?_) (fun hc => ?_)
    · rw [if_pos hc] at hF
      exact BX8_criticalPath_77 hC hR (lv_sub hl [0, 1, 2, 3] rfl) hF hK
    · rw [if_neg hc] at hF
      refine lv_aload_n hC.1 hC.2.1 dX8_criticalPath_56 rfl (lv_at hl 0 rfl) ?_
      obtain ⟨x9, e9, hF⟩ := bnd hF
      refine pw_gfr hC hR e9 flX8_35 dX8_criticalPath_57 ?_
      refine lv_iload_n hC.1 hC.2.1 dX8_criticalPath_60 rfl (lv_at hl 2 rfl) ?_
      refine lv_aload_n hC.1 hC.2.1 dX8_criticalPath_61 rfl (lv_at hl 0 rfl) ?_
      obtain ⟨x10, e10, hF⟩ := bnd hF
      refine pw_gfr hC hR e10 flX8_35 dX8_criticalPath_62 ?_
      refine lv_iload_n hC.1 hC.2.1 dX8_criticalPath_65 rfl (lv_at hl 2 rfl) ?_
      obtain ⟨x11, e11, hF⟩ := bnd hF
      refine pw_iald hC hR e11 dX8_criticalPath_66 ?_
      refine lv_aload_n hC.1 hC.2.1 dX8_criticalPath_67 rfl (lv_at hl 0 rfl) ?_
      obtain ⟨x12, e12, hF⟩ := bnd hF
      refine pw_gfr hC hR e12 flX8_35 dX8_criticalPath_68 ?_
      refine lv_iload_n hC.1 hC.2.1 dX8_criticalPath_71 rfl (lv_at hl 3 rfl) ?_
      obtain ⟨x13, e13, hF⟩ := bnd hF
      refine pw_iald hC hR e13 dX8_criticalPath_72 ?_
      obtain ⟨x14, e14, hF⟩ := bnd hF
      refine pw_cSi (rest := [.int (Int32.ofInt v2), .ref (ad x9)]) hC hR lsX8_243 (CX8_max e14) ⟨rfl, rfl⟩ rfl hl.1 rfl ⟨Nat.le_of_ble_eq_true rfl, Nat.le_of_ble_eq_true rfl⟩ (Nat.le_of_ble_eq_true rfl) dX8_criticalPath_73 ⟨Nat.zero_le _, Nat.zero_le _⟩ (fun H locs hR => ?_)
      obtain ⟨h15, e15, hF⟩ := bnd hF
      refine pw_iast hC hR e15 dX8_criticalPath_76 (fun H locs hR => ?_)
      exact BX8_criticalPath_77 hC hR (lv_sub hl [0, 1, 2, 3] rfl) hF hK
def JX8_criticalPath_112 (h : PH) (v0 : Nat) (v1 : Int) (v2 : Int) : Option ((Int × Int × PH) ⊕ (Int × PH)) :=
  some (.inl (v1, (v2 + 1), h))
set_option maxHeartbeats 4000000 in
set_option maxRecDepth 100000 in
theorem BX8_criticalPath_112 {h : PH} {v0 : Nat} {v1 : Int} {v2 : Int} (hC : Cx g p s m args meth c cX8_criticalPath 4 RX8 (some .int)) (hR : Rl g ad h s.heap H locs) (hl : lv_has ls 4 [(0, .ref (ad v0)), (1, .int (Int32.ofInt v1)), (2, .int (Int32.ofInt v2))]) {Q : State → Prop} {o : (Int × Int × PH) ⊕ (Int × PH)} (hF : JX8_criticalPath_112 h v0 v1 v2 = some o) (hK : Sum.elim (fun st : Int × Int × PH => ∀ (H : Heap) (locs : List Loc) (ls : Array Slot), Rl g ad st.2.2 s.heap H locs → lv_has ls 4 [(0, .ref (ad v0)), (1, .int (Int32.ofInt st.1)), (2, .int (Int32.ofInt st.2.1))] → W p l e rmX8_criticalPath s m args below meth c H locs 0 0 Q (F0 m 9 ls [])) (fun ex : Int × PH => ∀ (H : Heap) (locs : List Loc) (ls : Array Slot), Rl g ad ex.2 s.heap H locs → lv_has ls 4 [(1, .int (Int32.ofInt ex.1))] → W p l e rmX8_criticalPath s m args below meth c H locs 0 0 Q (F0 m 118 ls [])) o) : W p l e rmX8_criticalPath s m args below meth c H locs 0 0 Q (F0 m 112 ls []) := by
  unfold JX8_criticalPath_112 at hF
  refine pw_iinc (lv' := [(2, .int (Int32.ofInt (v2 + 1))), (0, .ref (ad v0)), (1, .int (Int32.ofInt v1))]) hC hl 2 dX8_criticalPath_112 rfl (by decide) rfl (fun ls hl => ?_)
  refine pw_goto hC 9 dX8_criticalPath_115 (by decide) ?_
  cases hF
  exact hK _ _ _ hR (lv_sub hl [1, 2, 0] rfl)
def LX8_criticalPath_9 (v0 : Nat) (v1 : Int) (v2 : Int) (h : PH) : Option ((Int × Int × PH) ⊕ (Int × PH)) :=
  (gfr h 8 v0 8).bind fun x2 =>
  (ald 0 h x2 3).bind fun x3 =>
  if w32 v2 < w32 x3 then (
    (gfr h 8 v0 17).bind fun x4 =>
    (ast 0 h x4 v2 0).bind fun h5 =>
    (gfr h5 8 v0 8).bind fun x6 =>
    (FX8_isFinished h5 x6 v2).bind fun x7 =>
    if w32 x7 = 0 then (
      (lp (fun st : Int × PH => LX8_criticalPath_42 v0 v1 v2 st.1 st.2) FU (0, h5)).bind fun ex16 =>
      (gfr ex16 8 v0 17).bind fun x17 =>
      (ald 0 ex16 x17 v2).bind fun x18 =>
      (gfr ex16 8 v0 8).bind fun x19 =>
      (FX8_task ex16 v2).bind fun x20 =>
      (ald 0 ex16 x19 x20).bind fun x21 =>
      (ast 0 ex16 x17 v2 (x18 + x21)).bind fun h22 =>
      (gfr h22 8 v0 17).bind fun x23 =>
      (ald 0 h22 x23 v2).bind fun x24 =>
      (FX8_max h22 v1 x24).bind fun x25 =>
      JX8_criticalPath_112 h22 v0 x25 v2
    ) else (
      JX8_criticalPath_112 h5 v0 v1 v2
    )
  ) else (
    some (.inr (v1, h))
  )
set_option maxHeartbeats 4000000 in
set_option maxRecDepth 100000 in
theorem LRX8_criticalPath_9 {v0 : Nat} {Q : State → Prop} (hC : Cx g p s m args meth c cX8_criticalPath 4 RX8 (some .int)) : ∀ (n : Nat) (st : Int × Int × PH) (ex : Int × PH), lp (fun st : Int × Int × PH => LX8_criticalPath_9 v0 st.1 st.2.1 st.2.2) n st = some ex → (fun ex : Int × PH => ∀ (H : Heap) (locs : List Loc) (ls : Array Slot), Rl g ad ex.2 s.heap H locs → lv_has ls 4 [(1, .int (Int32.ofInt ex.1))] → W p l e rmX8_criticalPath s m args below meth c H locs 0 0 Q (F0 m 118 ls [])) ex → ∀ (H : Heap) (locs : List Loc) (ls : Array Slot), Rl g ad st.2.2 s.heap H locs → lv_has ls 4 [(0, .ref (ad v0)), (1, .int (Int32.ofInt st.1)), (2, .int (Int32.ofInt st.2.1))] → W p l e rmX8_criticalPath s m args below meth c H locs 0 0 Q (F0 m 9 ls []) := by
  refine lp_rule (Ph := (fun st : Int × Int × PH => ∀ (H : Heap) (locs : List Loc) (ls : Array Slot), Rl g ad st.2.2 s.heap H locs → lv_has ls 4 [(0, .ref (ad v0)), (1, .int (Int32.ofInt st.1)), (2, .int (Int32.ofInt st.2.1))] → W p l e rmX8_criticalPath s m args below meth c H locs 0 0 Q (F0 m 9 ls []))) (Px := (fun ex : Int × PH => ∀ (H : Heap) (locs : List Loc) (ls : Array Slot), Rl g ad ex.2 s.heap H locs → lv_has ls 4 [(1, .int (Int32.ofInt ex.1))] → W p l e rmX8_criticalPath s m args below meth c H locs 0 0 Q (F0 m 118 ls []))) ?_
  rintro ⟨v1, v2, h⟩ o hF hK H locs ls hR hl
  have hR : Rl g ad h s.heap H locs := hR
  have hl : lv_has ls 4 [(0, .ref (ad v0)), (1, .int (Int32.ofInt v1)), (2, .int (Int32.ofInt v2))] := hl
  have hF : LX8_criticalPath_9 v0 v1 v2 h = some o := hF
  unfold LX8_criticalPath_9 at hF
  refine lv_iload_n hC.1 hC.2.1 dX8_criticalPath_9 rfl (lv_at hl 2 rfl) ?_
  refine lv_aload_n hC.1 hC.2.1 dX8_criticalPath_10 rfl (lv_at hl 0 rfl) ?_
  obtain ⟨x2, e2, hF⟩ := bnd hF
  refine pw_gfr hC hR e2 flX8_17 dX8_criticalPath_11 ?_
  refine pw_iconst hC dX8_criticalPath_14 ?_
  obtain ⟨x3, e3, hF⟩ := bnd hF
  refine pw_iald hC hR e3 dX8_criticalPath_15 ?_
  refine pw_icmpge hC 118 dX8_criticalPath_16 (by decide) (fun hc => ?_) (fun hc => ?_)
  · rw [if_neg hc] at hF
    cases hF
    exact hK _ _ _ hR (lv_sub hl [1] rfl)
  · rw [if_pos hc] at hF
    refine lv_aload_n hC.1 hC.2.1 dX8_criticalPath_19 rfl (lv_at hl 0 rfl) ?_
    obtain ⟨x4, e4, hF⟩ := bnd hF
    refine pw_gfr hC hR e4 flX8_35 dX8_criticalPath_20 ?_
    refine lv_iload_n hC.1 hC.2.1 dX8_criticalPath_23 rfl (lv_at hl 2 rfl) ?_
    refine pw_iconst hC dX8_criticalPath_24 ?_
    obtain ⟨h5, e5, hF⟩ := bnd hF
    refine pw_iast hC hR e5 dX8_criticalPath_25 (fun H locs hR => ?_)
    refine lv_aload_n hC.1 hC.2.1 dX8_criticalPath_26 rfl (lv_at hl 0 rfl) ?_
    obtain ⟨x6, e6, hF⟩ := bnd hF
    refine pw_gfr hC hR e6 flX8_17 dX8_criticalPath_27 ?_
    refine lv_iload_n hC.1 hC.2.1 dX8_criticalPath_30 rfl (lv_at hl 2 rfl) ?_
    obtain ⟨x7, e7, hF⟩ := bnd hF
    refine pw_cSi (rest := []) hC hR lsX8_196 (CX8_isFinished e7) ⟨rfl, rfl⟩ rfl hl.1 rfl ⟨Nat.le_of_ble_eq_true rfl, Nat.le_of_ble_eq_true rfl⟩ (Nat.le_of_ble_eq_true rfl) dX8_criticalPath_31 ⟨Nat.zero_le _, Nat.zero_le _⟩ (fun H locs hR => ?_)
    refine pw_ifeq hC 40 dX8_criticalPath_34 (by decide) (fun hc => ?_) (fun hc => ?_)
    · rw [if_pos hc] at hF
      refine pw_iconst hC dX8_criticalPath_40 ?_
      refine lv_istore_n (lv' := [(3, .int (Int32.ofInt 0)), (0, .ref (ad v0)), (1, .int (Int32.ofInt v1)), (2, .int (Int32.ofInt v2))]) hC.1 hC.2.1 dX8_criticalPath_41 rfl hl (by decide) rfl (fun ls hl => ?_)
      obtain ⟨ex16, e16, hF⟩ := bnd hF
      refine LRX8_criticalPath_42 hC FU _ ex16 e16 ?_ _ _ _ hR (lv_sub hl [1, 2, 3, 0] rfl)
      intro H locs ls hR hl
      refine lv_aload_n hC.1 hC.2.1 dX8_criticalPath_83 rfl (lv_at hl 0 rfl) ?_
      obtain ⟨x17, e17, hF⟩ := bnd hF
      refine pw_gfr hC hR e17 flX8_35 dX8_criticalPath_84 ?_
      refine lv_iload_n hC.1 hC.2.1 dX8_criticalPath_87 rfl (lv_at hl 2 rfl) ?_
      refine lv_dup2_11 hC.1 hC.2.1 dX8_criticalPath_88 rfl rfl ?_
      obtain ⟨x18, e18, hF⟩ := bnd hF
      refine pw_iald hC hR e18 dX8_criticalPath_89 ?_
      refine lv_aload_n hC.1 hC.2.1 dX8_criticalPath_90 rfl (lv_at hl 0 rfl) ?_
      obtain ⟨x19, e19, hF⟩ := bnd hF
      refine pw_gfr hC hR e19 flX8_17 dX8_criticalPath_91 ?_
      refine lv_iload_n hC.1 hC.2.1 dX8_criticalPath_94 rfl (lv_at hl 2 rfl) ?_
      obtain ⟨x20, e20, hF⟩ := bnd hF
      refine pw_cSi (rest := [.ref (ad x19), .int (Int32.ofInt x18), .int (Int32.ofInt v2), .ref (ad x17)]) hC hR lsX8_136 (CX8_task e20) ⟨rfl, rfl⟩ rfl hl.1 rfl ⟨Nat.le_of_ble_eq_true rfl, Nat.le_of_ble_eq_true rfl⟩ (Nat.le_of_ble_eq_true rfl) dX8_criticalPath_95 ⟨Nat.zero_le _, Nat.zero_le _⟩ (fun H locs hR => ?_)
      obtain ⟨x21, e21, hF⟩ := bnd hF
      refine pw_iald hC hR e21 dX8_criticalPath_98 ?_
      refine pw_iadd hC dX8_criticalPath_99 ?_
      obtain ⟨h22, e22, hF⟩ := bnd hF
      refine pw_iast hC hR e22 dX8_criticalPath_100 (fun H locs hR => ?_)
      refine lv_iload_n hC.1 hC.2.1 dX8_criticalPath_101 rfl (lv_at hl 1 rfl) ?_
      refine lv_aload_n hC.1 hC.2.1 dX8_criticalPath_102 rfl (lv_at hl 0 rfl) ?_
      obtain ⟨x23, e23, hF⟩ := bnd hF
      refine pw_gfr hC hR e23 flX8_35 dX8_criticalPath_103 ?_
      refine lv_iload_n hC.1 hC.2.1 dX8_criticalPath_106 rfl (lv_at hl 2 rfl) ?_
      obtain ⟨x24, e24, hF⟩ := bnd hF
      refine pw_iald hC hR e24 dX8_criticalPath_107 ?_
      obtain ⟨x25, e25, hF⟩ := bnd hF
      refine pw_cSi (rest := []) hC hR lsX8_243 (CX8_max e25) ⟨rfl, rfl⟩ rfl hl.1 rfl ⟨Nat.le_of_ble_eq_true rfl, Nat.le_of_ble_eq_true rfl⟩ (Nat.le_of_ble_eq_true rfl) dX8_criticalPath_108 ⟨Nat.zero_le _, Nat.zero_le _⟩ (fun H locs hR => ?_)
      refine lv_istore_n (lv' := [(1, .int (Int32.ofInt x25)), (0, .ref (ad v0)), (2, .int (Int32.ofInt v2))]) hC.1 hC.2.1 dX8_criticalPath_111 rfl hl (by decide) rfl (fun ls hl => ?_)
      exact BX8_criticalPath_112 hC hR (lv_sub hl [1, 0, 2] rfl) hF hK
    · rw [if_neg hc] at hF
      refine pw_goto hC 112 dX8_criticalPath_37 (by decide) ?_
      exact BX8_criticalPath_112 hC hR (lv_sub hl [0, 1, 2] rfl) hF hK
def FX8_criticalPath (h : PH) (v0 : Nat) : Option (Int × PH) :=
  (isO h 8 v0).bind fun _ =>
  (pfi h 8 v0 0 0).bind fun h1 =>
  (lp (fun st : Int × Int × PH => LX8_criticalPath_9 v0 st.1 st.2.1 st.2.2) FU (0, 0, h1)).bind fun ex26 =>
  some (ex26.1, ex26.2)
theorem OX8_criticalPath {h : PH} {v0 : Nat} {q : Int × PH} (hF : FX8_criticalPath h v0 = some q) : ∃ fs : List PV, h[v0]? = some (.inr (8, fs)) := by
  unfold FX8_criticalPath at hF
  obtain ⟨u0, e0, -⟩ := bnd hF
  exact isO_spec e0
set_option maxHeartbeats 4000000 in
set_option maxRecDepth 100000 in
theorem CX8_criticalPath {g : GP} {l : Launch} {ad : Nat → Nat} {h : PH} {v0 : Nat} {q : Int × PH} (hF : FX8_criticalPath h v0 = some q) : CN g l yX8_criticalPath cX8_criticalPath 4 (some .int) rmX8_criticalPath ad h [.ref (ad v0)] (some (.int (Int32.ofInt q.1))) q.2 := by
  refine pw_met (by decide) (Nat.le_of_ble_eq_true rfl) ?_
  intro p e s m args below meth c ls hC hN hR hl
  have hl : lv_has ls 4 [(0, .ref (ad v0))] := hl
  unfold FX8_criticalPath at hF
  obtain ⟨u0, e0, hF⟩ := bnd hF
  refine lv_aload_n hC.1 hC.2.1 dX8_criticalPath_0 rfl (lv_at hl 0 rfl) ?_
  refine pw_iconst hC dX8_criticalPath_1 ?_
  obtain ⟨h1, e1, hF⟩ := bnd hF
  refine pw_pfi hC hR e1 fpX8_38 (Or.inl rfl) dX8_criticalPath_2 (fun H locs hR => ?_)
  refine pw_iconst hC dX8_criticalPath_5 ?_
  refine lv_istore_n (lv' := [(1, .int (Int32.ofInt 0)), (0, .ref (ad v0))]) hC.1 hC.2.1 dX8_criticalPath_6 rfl hl (by decide) rfl (fun ls hl => ?_)
  refine pw_iconst hC dX8_criticalPath_7 ?_
  refine lv_istore_n (lv' := [(2, .int (Int32.ofInt 0)), (1, .int (Int32.ofInt 0)), (0, .ref (ad v0))]) hC.1 hC.2.1 dX8_criticalPath_8 rfl hl (by decide) rfl (fun ls hl => ?_)
  obtain ⟨ex26, e26, hF⟩ := bnd hF
  refine LRX8_criticalPath_9 hC FU _ ex26 e26 ?_ _ _ _ hR (lv_sub hl [2, 1, 0] rfl)
  intro H locs ls hR hl
  refine lv_iload_n hC.1 hC.2.1 dX8_criticalPath_118 rfl (lv_at hl 0 rfl) ?_
  cases hF
  exact pw_iret hC hR dX8_criticalPath_119
abbrev rmX8_finishFuture : Room := { frames := 6, cells := 0, slots := 0, locals := 132 }
def LX8_finishFuture_2 (v0 : Nat) (v1 : Int) (v2 : Int) (h : PH) : Option ((Int × PH) ⊕ (((Int × PH) ⊕ (PH)))) :=
  if w32 v1 < w32 v2 then (
    some (.inr (.inr h))
  ) else (
    (gfr h 8 v0 10).bind fun x1 =>
    (FX8_finishedOf h x1).bind fun x2 =>
    (gfr h 8 v0 10).bind fun x3 =>
    (ald 0 h x3 3).bind fun x4 =>
    if w32 x2 = w32 x4 then (
      some (.inr (.inl (v2, h)))
    ) else (
      (gfr h 8 v0 10).bind fun x5 =>
      (FX8_cycle h v0 x5).bind fun q6 =>
      some (.inl ((v2 + 1), q6.2))
    )
  )
set_option maxHeartbeats 4000000 in
set_option maxRecDepth 100000 in
theorem LRX8_finishFuture_2 {v0 : Nat} {v1 : Int} {Q : State → Prop} (hC : Cx g p s m args meth c cX8_finishFuture 3 RX8 (some .int)) : ∀ (n : Nat) (st : Int × PH) (ex : ((Int × PH) ⊕ (PH))), lp (fun st : Int × PH => LX8_finishFuture_2 v0 v1 st.1 st.2) n st = some ex → (Sum.elim (fun ex : Int × PH => ∀ (H : Heap) (locs : List Loc) (ls : Array Slot), Rl g ad ex.2 s.heap H locs → lv_has ls 3 [(2, .int (Int32.ofInt ex.1))] → W p l e rmX8_finishFuture s m args below meth c H locs 0 0 Q (F0 m 23 ls [])) (fun ex : PH => ∀ (H : Heap) (locs : List Loc) (ls : Array Slot), Rl g ad ex s.heap H locs → lv_has ls 3 [] → W p l e rmX8_finishFuture s m args below meth c H locs 0 0 Q (F0 m 40 ls []))) ex → ∀ (H : Heap) (locs : List Loc) (ls : Array Slot), Rl g ad st.2 s.heap H locs → lv_has ls 3 [(0, .ref (ad v0)), (1, .int (Int32.ofInt v1)), (2, .int (Int32.ofInt st.1))] → W p l e rmX8_finishFuture s m args below meth c H locs 0 0 Q (F0 m 2 ls []) := by
  refine lp_rule (Ph := (fun st : Int × PH => ∀ (H : Heap) (locs : List Loc) (ls : Array Slot), Rl g ad st.2 s.heap H locs → lv_has ls 3 [(0, .ref (ad v0)), (1, .int (Int32.ofInt v1)), (2, .int (Int32.ofInt st.1))] → W p l e rmX8_finishFuture s m args below meth c H locs 0 0 Q (F0 m 2 ls []))) (Px := (Sum.elim (fun ex : Int × PH => ∀ (H : Heap) (locs : List Loc) (ls : Array Slot), Rl g ad ex.2 s.heap H locs → lv_has ls 3 [(2, .int (Int32.ofInt ex.1))] → W p l e rmX8_finishFuture s m args below meth c H locs 0 0 Q (F0 m 23 ls [])) (fun ex : PH => ∀ (H : Heap) (locs : List Loc) (ls : Array Slot), Rl g ad ex s.heap H locs → lv_has ls 3 [] → W p l e rmX8_finishFuture s m args below meth c H locs 0 0 Q (F0 m 40 ls [])))) ?_
  rintro ⟨v2, h⟩ o hF hK H locs ls hR hl
  have hR : Rl g ad h s.heap H locs := hR
  have hl : lv_has ls 3 [(0, .ref (ad v0)), (1, .int (Int32.ofInt v1)), (2, .int (Int32.ofInt v2))] := hl
  have hF : LX8_finishFuture_2 v0 v1 v2 h = some o := hF
  unfold LX8_finishFuture_2 at hF
  refine lv_iload_n hC.1 hC.2.1 dX8_finishFuture_2 rfl (lv_at hl 2 rfl) ?_
  refine lv_iload_n hC.1 hC.2.1 dX8_finishFuture_3 rfl (lv_at hl 1 rfl) ?_
  refine pw_icmpgt hC 40 dX8_finishFuture_4 (by decide) (fun hc => ?_) (fun hc => ?_)
  · rw [if_pos hc] at hF
    cases hF
    exact hK _ _ _ hR (lv_sub hl [] rfl)
  · rw [if_neg hc] at hF
    refine lv_aload_n hC.1 hC.2.1 dX8_finishFuture_7 rfl (lv_at hl 0 rfl) ?_
    obtain ⟨x1, e1, hF⟩ := bnd hF
    refine pw_gfr hC hR e1 flX8_23 dX8_finishFuture_8 ?_
    obtain ⟨x2, e2, hF⟩ := bnd hF
    refine pw_cSi (rest := []) hC hR lsX8_236 (CX8_finishedOf e2) ⟨rfl, rfl⟩ rfl hl.1 rfl ⟨Nat.le_of_ble_eq_true rfl, Nat.le_of_ble_eq_true rfl⟩ (Nat.le_of_ble_eq_true rfl) dX8_finishFuture_11 ⟨Nat.zero_le _, Nat.zero_le _⟩ (fun H locs hR => ?_)
    refine lv_aload_n hC.1 hC.2.1 dX8_finishFuture_14 rfl (lv_at hl 0 rfl) ?_
    obtain ⟨x3, e3, hF⟩ := bnd hF
    refine pw_gfr hC hR e3 flX8_23 dX8_finishFuture_15 ?_
    refine pw_iconst hC dX8_finishFuture_18 ?_
    obtain ⟨x4, e4, hF⟩ := bnd hF
    refine pw_iald hC hR e4 dX8_finishFuture_19 ?_
    refine pw_icmpne hC 25 dX8_finishFuture_20 (by decide) (fun hc => ?_) (fun hc => ?_)
    · rw [if_neg hc] at hF
      refine lv_aload_n hC.1 hC.2.1 dX8_finishFuture_25 rfl (lv_at hl 0 rfl) ?_
      refine lv_aload_n hC.1 hC.2.1 dX8_finishFuture_26 rfl (lv_at hl 0 rfl) ?_
      obtain ⟨x5, e5, hF⟩ := bnd hF
      refine pw_gfr hC hR e5 flX8_23 dX8_finishFuture_27 ?_
      obtain ⟨q6, e6, hF⟩ := bnd hF
      obtain ⟨fs6, ho6⟩ := OX8_cycle e6
      refine pw_cVi (rest := []) hC hR lvX8_246 ho6 (CX8_cycle e6) ⟨rfl, rfl⟩ rfl hl.1 rfl ⟨Nat.le_of_ble_eq_true rfl, Nat.le_of_ble_eq_true rfl⟩ (Nat.le_of_ble_eq_true rfl) dX8_finishFuture_30 ⟨Nat.zero_le _, Nat.zero_le _⟩ (fun H locs hR => ?_)
      refine lv_pop hC.1 hC.2.1 dX8_finishFuture_33 rfl ?_
      refine pw_iinc (lv' := [(2, .int (Int32.ofInt (v2 + 1))), (0, .ref (ad v0)), (1, .int (Int32.ofInt v1))]) hC hl 2 dX8_finishFuture_34 rfl (by decide) rfl (fun ls hl => ?_)
      refine pw_goto hC 2 dX8_finishFuture_37 (by decide) ?_
      cases hF
      exact hK _ _ _ hR (lv_sub hl [1, 2, 0] rfl)
    · rw [if_pos hc] at hF
      cases hF
      exact hK _ _ _ hR (lv_sub hl [2] rfl)
def FX8_finishFuture (h : PH) (v0 : Nat) (v1 : Int) : Option (Int × PH) :=
  (isO h 8 v0).bind fun _ =>
  (lp (fun st : Int × PH => LX8_finishFuture_2 v0 v1 st.1 st.2) FU (0, h)).bind fun ex7 =>
  Sum.elim (fun ex7 => (
    some (ex7.1, ex7.2)
  )) (fun ex7 => (
    some ((-1), ex7)
  )) ex7
theorem OX8_finishFuture {h : PH} {v0 : Nat} {v1 : Int} {q : Int × PH} (hF : FX8_finishFuture h v0 v1 = some q) : ∃ fs : List PV, h[v0]? = some (.inr (8, fs)) := by
  unfold FX8_finishFuture at hF
  obtain ⟨u0, e0, -⟩ := bnd hF
  exact isO_spec e0
set_option maxHeartbeats 4000000 in
set_option maxRecDepth 100000 in
theorem CX8_finishFuture {g : GP} {l : Launch} {ad : Nat → Nat} {h : PH} {v0 : Nat} {v1 : Int} {q : Int × PH} (hF : FX8_finishFuture h v0 v1 = some q) : CN g l yX8_finishFuture cX8_finishFuture 3 (some .int) rmX8_finishFuture ad h [.ref (ad v0), .int (Int32.ofInt v1)] (some (.int (Int32.ofInt q.1))) q.2 := by
  refine pw_met (by decide) (Nat.le_of_ble_eq_true rfl) ?_
  intro p e s m args below meth c ls hC hN hR hl
  have hl : lv_has ls 3 [(0, .ref (ad v0)), (1, .int (Int32.ofInt v1))] := hl
  unfold FX8_finishFuture at hF
  obtain ⟨u0, e0, hF⟩ := bnd hF
  refine pw_iconst hC dX8_finishFuture_0 ?_
  refine lv_istore_n (lv' := [(2, .int (Int32.ofInt 0)), (0, .ref (ad v0)), (1, .int (Int32.ofInt v1))]) hC.1 hC.2.1 dX8_finishFuture_1 rfl hl (by decide) rfl (fun ls hl => ?_)
  obtain ⟨ex7, e7, hF⟩ := bnd hF
  refine LRX8_finishFuture_2 hC FU _ ex7 e7 ?_ _ _ _ hR (lv_sub hl [1, 2, 0] rfl)
  rcases ex7 with ex7 | ex7
  · dsimp only [Sum.elim_inl, Sum.elim_inr] at hF
    intro H locs ls hR hl
    refine lv_iload_n hC.1 hC.2.1 dX8_finishFuture_23 rfl (lv_at hl 0 rfl) ?_
    cases hF
    exact pw_iret hC hR dX8_finishFuture_24
  · dsimp only [Sum.elim_inl, Sum.elim_inr] at hF
    intro H locs ls hR hl
    refine pw_iconst hC dX8_finishFuture_40 ?_
    cases hF
    exact pw_iret hC hR dX8_finishFuture_41
abbrev rmX8_finishTime : Room := { frames := 7, cells := 0, slots := 0, locals := 154 }
def JX8_finishTime_22 (h : PH) (v0 : Nat) (v1 : Int) (s0 : Int) (s1 : Nat) : Option (Int × PH) :=
  (FX8_fails h s1 s0 1).bind fun q3 =>
  if w32 q3.1 = 0 then (
    (gfr q3.2 8 v0 8).bind fun x4 =>
    (gfr q3.2 8 v0 10).bind fun x5 =>
    (FX8_copy q3.2 x4 x5).bind fun h6 =>
    (FX8_finishFuture h6 v0 v1).bind fun q7 =>
    some (q7.1, q7.2)
  ) else (
    some (0, q3.2)
  )
set_option maxHeartbeats 4000000 in
set_option maxRecDepth 100000 in
theorem BX8_finishTime_22 {h : PH} {v0 : Nat} {v1 : Int} {s0 : Int} {s1 : Nat} (hC : Cx g p s m args meth c cX8_finishTime 2 RX8 (some .int)) (hR : Rl g ad h s.heap H locs) (hl : lv_has ls 2 [(0, .ref (ad v0)), (1, .int (Int32.ofInt v1))]) {q : Int × PH} (hF : JX8_finishTime_22 h v0 v1 s0 s1 = some q) : W p l e rmX8_finishTime s m args below meth c H locs 0 0 (MQ below (QcN g ad q.2 (some (.int (Int32.ofInt q.1)))) args s 0 0 (gA g)) (F0 m 22 ls [.int (Int32.ofInt s0), .ref (ad s1)]) := by
  unfold JX8_finishTime_22 at hF
  refine pw_iconst hC dX8_finishTime_22 ?_
  obtain ⟨q3, e3, hF⟩ := bnd hF
  obtain ⟨fs3, ho3⟩ := OX8_fails e3
  refine pw_cVi (rest := []) hC hR lvX8_162 ho3 (CX8_fails e3) ⟨rfl, rfl⟩ rfl hl.1 rfl ⟨Nat.le_of_ble_eq_true rfl, Nat.le_of_ble_eq_true rfl⟩ (Nat.le_of_ble_eq_true rfl) dX8_finishTime_23 ⟨Nat.zero_le _, Nat.zero_le _⟩ (fun H locs hR => ?_)
  refine pw_ifeq hC 31 dX8_finishTime_26 (by decide) (fun hc => ?_) (fun hc => ?_)
  · rw [if_pos hc] at hF
    refine lv_aload_n hC.1 hC.2.1 dX8_finishTime_31 rfl (lv_at hl 0 rfl) ?_
    obtain ⟨x4, e4, hF⟩ := bnd hF
    refine pw_gfr hC hR e4 flX8_17 dX8_finishTime_32 ?_
    refine lv_aload_n hC.1 hC.2.1 dX8_finishTime_35 rfl (lv_at hl 0 rfl) ?_
    obtain ⟨x5, e5, hF⟩ := bnd hF
    refine pw_gfr hC hR e5 flX8_23 dX8_finishTime_36 ?_
    obtain ⟨h6, e6, hF⟩ := bnd hF
    refine pw_cSv (rest := []) hC hR lsX8_178 (CX8_copy e6) ⟨rfl, rfl⟩ rfl hl.1 rfl ⟨Nat.le_of_ble_eq_true rfl, Nat.le_of_ble_eq_true rfl⟩ (Nat.le_of_ble_eq_true rfl) dX8_finishTime_39 ⟨Nat.zero_le _, Nat.zero_le _⟩ (fun H locs hR => ?_)
    refine lv_aload_n hC.1 hC.2.1 dX8_finishTime_42 rfl (lv_at hl 0 rfl) ?_
    refine lv_iload_n hC.1 hC.2.1 dX8_finishTime_43 rfl (lv_at hl 1 rfl) ?_
    obtain ⟨q7, e7, hF⟩ := bnd hF
    obtain ⟨fs7, ho7⟩ := OX8_finishFuture e7
    refine pw_cVi (rest := []) hC hR lvX8_249 ho7 (CX8_finishFuture e7) ⟨rfl, rfl⟩ rfl hl.1 rfl ⟨Nat.le_of_ble_eq_true rfl, Nat.le_of_ble_eq_true rfl⟩ (Nat.le_of_ble_eq_true rfl) dX8_finishTime_44 ⟨Nat.zero_le _, Nat.zero_le _⟩ (fun H locs hR => ?_)
    cases hF
    exact pw_iret hC hR dX8_finishTime_47
  · rw [if_neg hc] at hF
    refine pw_iconst hC dX8_finishTime_29 ?_
    cases hF
    exact pw_iret hC hR dX8_finishTime_30
def FX8_finishTime (h : PH) (v0 : Nat) (v1 : Int) : Option (Int × PH) :=
  (isO h 8 v0).bind fun _ =>
  (pfi h 8 v0 0 0).bind fun h1 =>
  (FX8_in h1 v1 0 500).bind fun x2 =>
  if w32 x2 = 0 then (
    JX8_finishTime_22 h1 v0 v1 1 v0
  ) else (
    JX8_finishTime_22 h1 v0 v1 0 v0
  )
theorem OX8_finishTime {h : PH} {v0 : Nat} {v1 : Int} {q : Int × PH} (hF : FX8_finishTime h v0 v1 = some q) : ∃ fs : List PV, h[v0]? = some (.inr (8, fs)) := by
  unfold FX8_finishTime at hF
  obtain ⟨u0, e0, -⟩ := bnd hF
  exact isO_spec e0
set_option maxHeartbeats 4000000 in
set_option maxRecDepth 100000 in
theorem CX8_finishTime {g : GP} {l : Launch} {ad : Nat → Nat} {h : PH} {v0 : Nat} {v1 : Int} {q : Int × PH} (hF : FX8_finishTime h v0 v1 = some q) : CN g l yX8_finishTime cX8_finishTime 2 (some .int) rmX8_finishTime ad h [.ref (ad v0), .int (Int32.ofInt v1)] (some (.int (Int32.ofInt q.1))) q.2 := by
  refine pw_met (by decide) (Nat.le_of_ble_eq_true rfl) ?_
  intro p e s m args below meth c ls hC hN hR hl
  have hl : lv_has ls 2 [(0, .ref (ad v0)), (1, .int (Int32.ofInt v1))] := hl
  unfold FX8_finishTime at hF
  obtain ⟨u0, e0, hF⟩ := bnd hF
  refine lv_aload_n hC.1 hC.2.1 dX8_finishTime_0 rfl (lv_at hl 0 rfl) ?_
  refine pw_iconst hC dX8_finishTime_1 ?_
  obtain ⟨h1, e1, hF⟩ := bnd hF
  refine pw_pfi hC hR e1 fpX8_38 (Or.inl rfl) dX8_finishTime_2 (fun H locs hR => ?_)
  refine lv_aload_n hC.1 hC.2.1 dX8_finishTime_5 rfl (lv_at hl 0 rfl) ?_
  refine lv_iload_n hC.1 hC.2.1 dX8_finishTime_6 rfl (lv_at hl 1 rfl) ?_
  refine pw_iconst hC dX8_finishTime_7 ?_
  refine pw_sipush hC dX8_finishTime_8 rfl ?_
  obtain ⟨x2, e2, hF⟩ := bnd hF
  refine pw_cSi (rest := [.ref (ad v0)]) hC hR lsX8_63 (CX8_in e2) ⟨rfl, rfl⟩ rfl hl.1 rfl ⟨Nat.le_of_ble_eq_true rfl, Nat.le_of_ble_eq_true rfl⟩ (Nat.le_of_ble_eq_true rfl) dX8_finishTime_11 ⟨Nat.zero_le _, Nat.zero_le _⟩ (fun H locs hR => ?_)
  refine pw_ifne hC 21 dX8_finishTime_14 (by decide) (fun hc => ?_) (fun hc => ?_)
  · rw [if_neg hc] at hF
    refine pw_iconst hC dX8_finishTime_21 ?_
    exact BX8_finishTime_22 hC hR (lv_sub hl [0, 1] rfl) hF
  · rw [if_pos hc] at hF
    refine pw_iconst hC dX8_finishTime_17 ?_
    refine pw_goto hC 22 dX8_finishTime_18 (by decide) ?_
    exact BX8_finishTime_22 hC hR (lv_sub hl [0, 1] rfl) hF
abbrev rmX8_timeOn : Room := { frames := 7, cells := 0, slots := 0, locals := 154 }
def JX8_timeOn_60 (h : PH) : Option (Int × PH) :=
  some (0, h)
set_option maxHeartbeats 4000000 in
set_option maxRecDepth 100000 in
theorem BX8_timeOn_60 {h : PH} (hC : Cx g p s m args meth c cX8_timeOn 4 RX8 (some .int)) (hR : Rl g ad h s.heap H locs) (hl : lv_has ls 4 []) {q : Int × PH} (hF : JX8_timeOn_60 h  = some q) : W p l e rmX8_timeOn s m args below meth c H locs 0 0 (MQ below (QcN g ad q.2 (some (.int (Int32.ofInt q.1)))) args s 0 0 (gA g)) (F0 m 60 ls []) := by
  unfold JX8_timeOn_60 at hF
  refine pw_iconst hC dX8_timeOn_60 ?_
  cases hF
  exact pw_iret hC hR dX8_timeOn_61
def JX8_timeOn_144 (h : PH) (v0 : Nat) (v1 : Int) (v2 : Int) (v3 : Int) : Option ((Int × PH) ⊕ (PH)) :=
  some (.inl ((v3 + 1), h))
set_option maxHeartbeats 4000000 in
set_option maxRecDepth 100000 in
theorem BX8_timeOn_144 {h : PH} {v0 : Nat} {v1 : Int} {v2 : Int} {v3 : Int} (hC : Cx g p s m args meth c cX8_timeOn 4 RX8 (some .int)) (hR : Rl g ad h s.heap H locs) (hl : lv_has ls 4 [(0, .ref (ad v0)), (1, .int (Int32.ofInt v1)), (2, .int (Int32.ofInt v2)), (3, .int (Int32.ofInt v3))]) {Q : State → Prop} {o : (Int × PH) ⊕ (PH)} (hF : JX8_timeOn_144 h v0 v1 v2 v3 = some o) (hK : Sum.elim (fun st : Int × PH => ∀ (H : Heap) (locs : List Loc) (ls : Array Slot), Rl g ad st.2 s.heap H locs → lv_has ls 4 [(0, .ref (ad v0)), (1, .int (Int32.ofInt v1)), (2, .int (Int32.ofInt v2)), (3, .int (Int32.ofInt st.1))] → W p l e rmX8_timeOn s m args below meth c H locs 0 0 Q (F0 m 96 ls [])) (fun ex : PH => ∀ (H : Heap) (locs : List Loc) (ls : Array Slot), Rl g ad ex s.heap H locs → lv_has ls 4 [(0, .ref (ad v0)), (2, .int (Int32.ofInt v2))] → W p l e rmX8_timeOn s m args below meth c H locs 0 0 Q (F0 m 150 ls [])) o) : W p l e rmX8_timeOn s m args below meth c H locs 0 0 Q (F0 m 144 ls []) := by
  unfold JX8_timeOn_144 at hF
  refine pw_iinc (lv' := [(3, .int (Int32.ofInt (v3 + 1))), (0, .ref (ad v0)), (1, .int (Int32.ofInt v1)), (2, .int (Int32.ofInt v2))]) hC hl 3 dX8_timeOn_144 rfl (by decide) rfl (fun ls hl => ?_)
  refine pw_goto hC 96 dX8_timeOn_147 (by decide) ?_
  cases hF
  exact hK _ _ _ hR (lv_sub hl [1, 2, 3, 0] rfl)
def LX8_timeOn_96 (v0 : Nat) (v1 : Int) (v2 : Int) (v3 : Int) (h : PH) : Option ((Int × PH) ⊕ (PH)) :=
  (gfr h 8 v0 10).bind fun x16 =>
  (ald 0 h x16 3).bind fun x17 =>
  if w32 v3 < w32 x17 then (
    (gfr h 8 v0 10).bind fun x18 =>
    (FX8_task h v3).bind fun x19 =>
    (ald 0 h x18 (x19 + 2)).bind fun x20 =>
    if w32 v1 = 0 then none else
    (ast 0 h x18 (x19 + 2) (remI x20 v1)).bind fun h22 =>
    (gfr h22 8 v0 10).bind fun x23 =>
    (FX8_task h22 v3).bind fun x24 =>
    (ald 0 h22 x23 (x24 + 4)).bind fun x25 =>
    if w32 x25 = w32 5 then (
      JX8_timeOn_144 h22 v0 v1 v2 v3
    ) else (
      (gfr h22 8 v0 10).bind fun x26 =>
      (FX8_putToWait h22 x26 v3).bind fun h27 =>
      JX8_timeOn_144 h27 v0 v1 v2 v3
    )
  ) else (
    some (.inr h)
  )
set_option maxHeartbeats 4000000 in
set_option maxRecDepth 100000 in
theorem LRX8_timeOn_96 {v0 : Nat} {v1 : Int} {v2 : Int} {Q : State → Prop} (hC : Cx g p s m args meth c cX8_timeOn 4 RX8 (some .int)) : ∀ (n : Nat) (st : Int × PH) (ex : PH), lp (fun st : Int × PH => LX8_timeOn_96 v0 v1 v2 st.1 st.2) n st = some ex → (fun ex : PH => ∀ (H : Heap) (locs : List Loc) (ls : Array Slot), Rl g ad ex s.heap H locs → lv_has ls 4 [(0, .ref (ad v0)), (2, .int (Int32.ofInt v2))] → W p l e rmX8_timeOn s m args below meth c H locs 0 0 Q (F0 m 150 ls [])) ex → ∀ (H : Heap) (locs : List Loc) (ls : Array Slot), Rl g ad st.2 s.heap H locs → lv_has ls 4 [(0, .ref (ad v0)), (1, .int (Int32.ofInt v1)), (2, .int (Int32.ofInt v2)), (3, .int (Int32.ofInt st.1))] → W p l e rmX8_timeOn s m args below meth c H locs 0 0 Q (F0 m 96 ls []) := by
  refine lp_rule (Ph := (fun st : Int × PH => ∀ (H : Heap) (locs : List Loc) (ls : Array Slot), Rl g ad st.2 s.heap H locs → lv_has ls 4 [(0, .ref (ad v0)), (1, .int (Int32.ofInt v1)), (2, .int (Int32.ofInt v2)), (3, .int (Int32.ofInt st.1))] → W p l e rmX8_timeOn s m args below meth c H locs 0 0 Q (F0 m 96 ls []))) (Px := (fun ex : PH => ∀ (H : Heap) (locs : List Loc) (ls : Array Slot), Rl g ad ex s.heap H locs → lv_has ls 4 [(0, .ref (ad v0)), (2, .int (Int32.ofInt v2))] → W p l e rmX8_timeOn s m args below meth c H locs 0 0 Q (F0 m 150 ls []))) ?_
  rintro ⟨v3, h⟩ o hF hK H locs ls hR hl
  have hR : Rl g ad h s.heap H locs := hR
  have hl : lv_has ls 4 [(0, .ref (ad v0)), (1, .int (Int32.ofInt v1)), (2, .int (Int32.ofInt v2)), (3, .int (Int32.ofInt v3))] := hl
  have hF : LX8_timeOn_96 v0 v1 v2 v3 h = some o := hF
  unfold LX8_timeOn_96 at hF
  refine lv_iload_n hC.1 hC.2.1 dX8_timeOn_96 rfl (lv_at hl 3 rfl) ?_
  refine lv_aload_n hC.1 hC.2.1 dX8_timeOn_97 rfl (lv_at hl 0 rfl) ?_
  obtain ⟨x16, e16, hF⟩ := bnd hF
  refine pw_gfr hC hR e16 flX8_23 dX8_timeOn_98 ?_
  refine pw_iconst hC dX8_timeOn_101 ?_
  obtain ⟨x17, e17, hF⟩ := bnd hF
  refine pw_iald hC hR e17 dX8_timeOn_102 ?_
  refine pw_icmpge hC 150 dX8_timeOn_103 (by decide) (fun hc => ?_) (fun hc => ?_)
  · rw [if_neg hc] at hF
    cases hF
    exact hK _ _ _ hR (lv_sub hl [0, 2] rfl)
  · rw [if_pos hc] at hF
    refine lv_aload_n hC.1 hC.2.1 dX8_timeOn_106 rfl (lv_at hl 0 rfl) ?_
    obtain ⟨x18, e18, hF⟩ := bnd hF
    refine pw_gfr hC hR e18 flX8_23 dX8_timeOn_107 ?_
    refine lv_iload_n hC.1 hC.2.1 dX8_timeOn_110 rfl (lv_at hl 3 rfl) ?_
    obtain ⟨x19, e19, hF⟩ := bnd hF
    refine pw_cSi (rest := [.ref (ad x18)]) hC hR lsX8_136 (CX8_task e19) ⟨rfl, rfl⟩ rfl hl.1 rfl ⟨Nat.le_of_ble_eq_true rfl, Nat.le_of_ble_eq_true rfl⟩ (Nat.le_of_ble_eq_true rfl) dX8_timeOn_111 ⟨Nat.zero_le _, Nat.zero_le _⟩ (fun H locs hR => ?_)
    refine pw_iconst hC dX8_timeOn_114 ?_
    refine pw_iadd hC dX8_timeOn_115 ?_
    refine lv_dup2_11 hC.1 hC.2.1 dX8_timeOn_116 rfl rfl ?_
    obtain ⟨x20, e20, hF⟩ := bnd hF
    refine pw_iald hC hR e20 dX8_timeOn_117 ?_
    refine lv_iload_n hC.1 hC.2.1 dX8_timeOn_118 rfl (lv_at hl 1 rfl) ?_
    by_cases hn21 : w32 v1 = 0
    · rw [if_pos hn21] at hF; cases hF
    rw [if_neg hn21] at hF
    refine pw_irem hC hn21 dX8_timeOn_119 ?_
    obtain ⟨h22, e22, hF⟩ := bnd hF
    refine pw_iast hC hR e22 dX8_timeOn_120 (fun H locs hR => ?_)
    refine lv_aload_n hC.1 hC.2.1 dX8_timeOn_121 rfl (lv_at hl 0 rfl) ?_
    obtain ⟨x23, e23, hF⟩ := bnd hF
    refine pw_gfr hC hR e23 flX8_23 dX8_timeOn_122 ?_
    refine lv_iload_n hC.1 hC.2.1 dX8_timeOn_125 rfl (lv_at hl 3 rfl) ?_
    obtain ⟨x24, e24, hF⟩ := bnd hF
    refine pw_cSi (rest := [.ref (ad x23)]) hC hR lsX8_136 (CX8_task e24) ⟨rfl, rfl⟩ rfl hl.1 rfl ⟨Nat.le_of_ble_eq_true rfl, Nat.le_of_ble_eq_true rfl⟩ (Nat.le_of_ble_eq_true rfl) dX8_timeOn_126 ⟨Nat.zero_le _, Nat.zero_le _⟩ (fun H locs hR => ?_)
    refine pw_iconst hC dX8_timeOn_129 ?_
    refine pw_iadd hC dX8_timeOn_130 ?_
    obtain ⟨x25, e25, hF⟩ := bnd hF
    refine pw_iald hC hR e25 dX8_timeOn_131 ?_
    refine pw_iconst hC dX8_timeOn_132 ?_
    refine pw_icmpeq hC 144 dX8_timeOn_133 (by decide) (fun hc => ?_) (fun hc => ?_)
    · rw [if_pos hc] at hF
      exact BX8_timeOn_144 hC hR (lv_sub hl [0, 1, 2, 3] rfl) hF hK
    · rw [if_neg hc] at hF
      refine lv_aload_n hC.1 hC.2.1 dX8_timeOn_136 rfl (lv_at hl 0 rfl) ?_
      obtain ⟨x26, e26, hF⟩ := bnd hF
      refine pw_gfr hC hR e26 flX8_23 dX8_timeOn_137 ?_
      refine lv_iload_n hC.1 hC.2.1 dX8_timeOn_140 rfl (lv_at hl 3 rfl) ?_
      obtain ⟨h27, e27, hF⟩ := bnd hF
      refine pw_cSv (rest := []) hC hR lsX8_139 (CX8_putToWait e27) ⟨rfl, rfl⟩ rfl hl.1 rfl ⟨Nat.le_of_ble_eq_true rfl, Nat.le_of_ble_eq_true rfl⟩ (Nat.le_of_ble_eq_true rfl) dX8_timeOn_141 ⟨Nat.zero_le _, Nat.zero_le _⟩ (fun H locs hR => ?_)
      exact BX8_timeOn_144 hC hR (lv_sub hl [0, 1, 2, 3] rfl) hF hK
def JX8_timeOn_53 (h : PH) (v0 : Nat) (v1 : Int) (v2 : Int) (s0 : Int) (s1 : Nat) : Option (Int × PH) :=
  (FX8_fails h s1 s0 2).bind fun q6 =>
  if w32 q6.1 = 0 then (
    (gfr q6.2 8 v0 8).bind fun x7 =>
    (gfr q6.2 8 v0 10).bind fun x8 =>
    (FX8_copy q6.2 x7 x8).bind fun h9 =>
    (gfr h9 8 v0 10).bind fun x10 =>
    (ast 0 h9 x10 0 v1).bind fun h11 =>
    (gfr h11 8 v0 10).bind fun x12 =>
    (ast 0 h11 x12 5 0).bind fun h13 =>
    (gfr h13 8 v0 10).bind fun x14 =>
    (FX8_clearCores h13 x14).bind fun h15 =>
    (lp (fun st : Int × PH => LX8_timeOn_96 v0 v1 v2 st.1 st.2) FU (0, h15)).bind fun ex28 =>
    (FX8_finishFuture ex28 v0 v2).bind fun q29 =>
    some (q29.1, q29.2)
  ) else (
    JX8_timeOn_60 q6.2
  )
set_option maxHeartbeats 4000000 in
set_option maxRecDepth 100000 in
theorem BX8_timeOn_53 {h : PH} {v0 : Nat} {v1 : Int} {v2 : Int} {s0 : Int} {s1 : Nat} (hC : Cx g p s m args meth c cX8_timeOn 4 RX8 (some .int)) (hR : Rl g ad h s.heap H locs) (hl : lv_has ls 4 [(0, .ref (ad v0)), (1, .int (Int32.ofInt v1)), (2, .int (Int32.ofInt v2))]) {q : Int × PH} (hF : JX8_timeOn_53 h v0 v1 v2 s0 s1 = some q) : W p l e rmX8_timeOn s m args below meth c H locs 0 0 (MQ below (QcN g ad q.2 (some (.int (Int32.ofInt q.1)))) args s 0 0 (gA g)) (F0 m 53 ls [.int (Int32.ofInt s0), .ref (ad s1)]) := by
  unfold JX8_timeOn_53 at hF
  refine pw_iconst hC dX8_timeOn_53 ?_
  obtain ⟨q6, e6, hF⟩ := bnd hF
  obtain ⟨fs6, ho6⟩ := OX8_fails e6
  refine pw_cVi (rest := []) hC hR lvX8_162 ho6 (CX8_fails e6) ⟨rfl, rfl⟩ rfl hl.1 rfl ⟨Nat.le_of_ble_eq_true rfl, Nat.le_of_ble_eq_true rfl⟩ (Nat.le_of_ble_eq_true rfl) dX8_timeOn_54 ⟨Nat.zero_le _, Nat.zero_le _⟩ (fun H locs hR => ?_)
  refine pw_ifeq hC 62 dX8_timeOn_57 (by decide) (fun hc => ?_) (fun hc => ?_)
  · rw [if_pos hc] at hF
    refine lv_aload_n hC.1 hC.2.1 dX8_timeOn_62 rfl (lv_at hl 0 rfl) ?_
    obtain ⟨x7, e7, hF⟩ := bnd hF
    refine pw_gfr hC hR e7 flX8_17 dX8_timeOn_63 ?_
    refine lv_aload_n hC.1 hC.2.1 dX8_timeOn_66 rfl (lv_at hl 0 rfl) ?_
    obtain ⟨x8, e8, hF⟩ := bnd hF
    refine pw_gfr hC hR e8 flX8_23 dX8_timeOn_67 ?_
    obtain ⟨h9, e9, hF⟩ := bnd hF
    refine pw_cSv (rest := []) hC hR lsX8_178 (CX8_copy e9) ⟨rfl, rfl⟩ rfl hl.1 rfl ⟨Nat.le_of_ble_eq_true rfl, Nat.le_of_ble_eq_true rfl⟩ (Nat.le_of_ble_eq_true rfl) dX8_timeOn_70 ⟨Nat.zero_le _, Nat.zero_le _⟩ (fun H locs hR => ?_)
    refine lv_aload_n hC.1 hC.2.1 dX8_timeOn_73 rfl (lv_at hl 0 rfl) ?_
    obtain ⟨x10, e10, hF⟩ := bnd hF
    refine pw_gfr hC hR e10 flX8_23 dX8_timeOn_74 ?_
    refine pw_iconst hC dX8_timeOn_77 ?_
    refine lv_iload_n hC.1 hC.2.1 dX8_timeOn_78 rfl (lv_at hl 1 rfl) ?_
    obtain ⟨h11, e11, hF⟩ := bnd hF
    refine pw_iast hC hR e11 dX8_timeOn_79 (fun H locs hR => ?_)
    refine lv_aload_n hC.1 hC.2.1 dX8_timeOn_80 rfl (lv_at hl 0 rfl) ?_
    obtain ⟨x12, e12, hF⟩ := bnd hF
    refine pw_gfr hC hR e12 flX8_23 dX8_timeOn_81 ?_
    refine pw_iconst hC dX8_timeOn_84 ?_
    refine pw_iconst hC dX8_timeOn_85 ?_
    obtain ⟨h13, e13, hF⟩ := bnd hF
    refine pw_iast hC hR e13 dX8_timeOn_86 (fun H locs hR => ?_)
    refine lv_aload_n hC.1 hC.2.1 dX8_timeOn_87 rfl (lv_at hl 0 rfl) ?_
    obtain ⟨x14, e14, hF⟩ := bnd hF
    refine pw_gfr hC hR e14 flX8_23 dX8_timeOn_88 ?_
    obtain ⟨h15, e15, hF⟩ := bnd hF
    refine pw_cSv (rest := []) hC hR lsX8_166 (CX8_clearCores e15) ⟨rfl, rfl⟩ rfl hl.1 rfl ⟨Nat.le_of_ble_eq_true rfl, Nat.le_of_ble_eq_true rfl⟩ (Nat.le_of_ble_eq_true rfl) dX8_timeOn_91 ⟨Nat.zero_le _, Nat.zero_le _⟩ (fun H locs hR => ?_)
    refine pw_iconst hC dX8_timeOn_94 ?_
    refine lv_istore_n (lv' := [(3, .int (Int32.ofInt 0)), (0, .ref (ad v0)), (1, .int (Int32.ofInt v1)), (2, .int (Int32.ofInt v2))]) hC.1 hC.2.1 dX8_timeOn_95 rfl hl (by decide) rfl (fun ls hl => ?_)
    obtain ⟨ex28, e28, hF⟩ := bnd hF
    refine LRX8_timeOn_96 hC FU _ ex28 e28 ?_ _ _ _ hR (lv_sub hl [1, 2, 3, 0] rfl)
    intro H locs ls hR hl
    refine lv_aload_n hC.1 hC.2.1 dX8_timeOn_150 rfl (lv_at hl 0 rfl) ?_
    refine lv_iload_n hC.1 hC.2.1 dX8_timeOn_151 rfl (lv_at hl 1 rfl) ?_
    obtain ⟨q29, e29, hF⟩ := bnd hF
    obtain ⟨fs29, ho29⟩ := OX8_finishFuture e29
    refine pw_cVi (rest := []) hC hR lvX8_249 ho29 (CX8_finishFuture e29) ⟨rfl, rfl⟩ rfl hl.1 rfl ⟨Nat.le_of_ble_eq_true rfl, Nat.le_of_ble_eq_true rfl⟩ (Nat.le_of_ble_eq_true rfl) dX8_timeOn_152 ⟨Nat.zero_le _, Nat.zero_le _⟩ (fun H locs hR => ?_)
    cases hF
    exact pw_iret hC hR dX8_timeOn_155
  · rw [if_neg hc] at hF
    exact BX8_timeOn_60 hC hR (lv_sub hl [] rfl) hF
def JX8_timeOn_31 (h : PH) (v0 : Nat) (v1 : Int) (v2 : Int) (s0 : Int) (s1 : Nat) : Option (Int × PH) :=
  (FX8_fails h s1 s0 1).bind fun q3 =>
  if w32 q3.1 = 0 then (
    (gfr q3.2 8 v0 8).bind fun x4 =>
    (ald 0 q3.2 x4 0).bind fun x5 =>
    if w32 x5 = 0 then (
      JX8_timeOn_53 q3.2 v0 v1 v2 1 v0
    ) else (
      JX8_timeOn_53 q3.2 v0 v1 v2 0 v0
    )
  ) else (
    JX8_timeOn_60 q3.2
  )
set_option maxHeartbeats 4000000 in
set_option maxRecDepth 100000 in
theorem BX8_timeOn_31 {h : PH} {v0 : Nat} {v1 : Int} {v2 : Int} {s0 : Int} {s1 : Nat} (hC : Cx g p s m args meth c cX8_timeOn 4 RX8 (some .int)) (hR : Rl g ad h s.heap H locs) (hl : lv_has ls 4 [(0, .ref (ad v0)), (1, .int (Int32.ofInt v1)), (2, .int (Int32.ofInt v2))]) {q : Int × PH} (hF : JX8_timeOn_31 h v0 v1 v2 s0 s1 = some q) : W p l e rmX8_timeOn s m args below meth c H locs 0 0 (MQ below (QcN g ad q.2 (some (.int (Int32.ofInt q.1)))) args s 0 0 (gA g)) (F0 m 31 ls [.int (Int32.ofInt s0), .ref (ad s1)]) := by
  unfold JX8_timeOn_31 at hF
  refine pw_iconst hC dX8_timeOn_31 ?_
  obtain ⟨q3, e3, hF⟩ := bnd hF
  obtain ⟨fs3, ho3⟩ := OX8_fails e3
  refine pw_cVi (rest := []) hC hR lvX8_162 ho3 (CX8_fails e3) ⟨rfl, rfl⟩ rfl hl.1 rfl ⟨Nat.le_of_ble_eq_true rfl, Nat.le_of_ble_eq_true rfl⟩ (Nat.le_of_ble_eq_true rfl) dX8_timeOn_32 ⟨Nat.zero_le _, Nat.zero_le _⟩ (fun H locs hR => ?_)
  refine pw_ifne hC 60 dX8_timeOn_35 (by decide) (fun hc => ?_) (fun hc => ?_)
  · rw [if_neg hc] at hF
    exact BX8_timeOn_60 hC hR (lv_sub hl [] rfl) hF
  · rw [if_pos hc] at hF
    refine lv_aload_n hC.1 hC.2.1 dX8_timeOn_38 rfl (lv_at hl 0 rfl) ?_
    refine lv_aload_n hC.1 hC.2.1 dX8_timeOn_39 rfl (lv_at hl 0 rfl) ?_
    obtain ⟨x4, e4, hF⟩ := bnd hF
    refine pw_gfr hC hR e4 flX8_17 dX8_timeOn_40 ?_
    refine pw_iconst hC dX8_timeOn_43 ?_
    obtain ⟨x5, e5, hF⟩ := bnd hF
    refine pw_iald hC hR e5 dX8_timeOn_44 ?_
    refine pw_ifne hC 52 dX8_timeOn_45 (by decide) (fun hc => ?_) (fun hc => ?_)
    · rw [if_neg hc] at hF
      refine pw_iconst hC dX8_timeOn_52 ?_
      exact BX8_timeOn_53 hC hR (lv_sub hl [0, 1, 2] rfl) hF
    · rw [if_pos hc] at hF
      refine pw_iconst hC dX8_timeOn_48 ?_
      refine pw_goto hC 53 dX8_timeOn_49 (by decide) ?_
      exact BX8_timeOn_53 hC hR (lv_sub hl [0, 1, 2] rfl) hF
def JX8_timeOn_26 (h : PH) (v0 : Nat) (v1 : Int) (v2 : Int) (s0 : Nat) : Option (Int × PH) :=
  JX8_timeOn_31 h v0 v1 v2 1 s0
set_option maxHeartbeats 4000000 in
set_option maxRecDepth 100000 in
theorem BX8_timeOn_26 {h : PH} {v0 : Nat} {v1 : Int} {v2 : Int} {s0 : Nat} (hC : Cx g p s m args meth c cX8_timeOn 4 RX8 (some .int)) (hR : Rl g ad h s.heap H locs) (hl : lv_has ls 4 [(0, .ref (ad v0)), (1, .int (Int32.ofInt v1)), (2, .int (Int32.ofInt v2))]) {q : Int × PH} (hF : JX8_timeOn_26 h v0 v1 v2 s0 = some q) : W p l e rmX8_timeOn s m args below meth c H locs 0 0 (MQ below (QcN g ad q.2 (some (.int (Int32.ofInt q.1)))) args s 0 0 (gA g)) (F0 m 26 ls [.ref (ad s0)]) := by
  unfold JX8_timeOn_26 at hF
  refine pw_iconst hC dX8_timeOn_26 ?_
  refine pw_goto hC 31 dX8_timeOn_27 (by decide) ?_
  exact BX8_timeOn_31 hC hR (lv_sub hl [0, 1, 2] rfl) hF
def FX8_timeOn (h : PH) (v0 : Nat) (v1 : Int) (v2 : Int) : Option (Int × PH) :=
  (isO h 8 v0).bind fun _ =>
  (pfi h 8 v0 0 0).bind fun h1 =>
  (FX8_in h1 v1 1 4).bind fun x2 =>
  if w32 x2 = 0 then (
    JX8_timeOn_26 h1 v0 v1 v2 v0
  ) else (
    (FX8_in h1 v2 0 500).bind fun x30 =>
    if w32 x30 = 0 then (
      JX8_timeOn_26 h1 v0 v1 v2 v0
    ) else (
      JX8_timeOn_31 h1 v0 v1 v2 0 v0
    )
  )
theorem OX8_timeOn {h : PH} {v0 : Nat} {v1 : Int} {v2 : Int} {q : Int × PH} (hF : FX8_timeOn h v0 v1 v2 = some q) : ∃ fs : List PV, h[v0]? = some (.inr (8, fs)) := by
  unfold FX8_timeOn at hF
  obtain ⟨u0, e0, -⟩ := bnd hF
  exact isO_spec e0
set_option maxHeartbeats 4000000 in
set_option maxRecDepth 100000 in
theorem CX8_timeOn {g : GP} {l : Launch} {ad : Nat → Nat} {h : PH} {v0 : Nat} {v1 : Int} {v2 : Int} {q : Int × PH} (hF : FX8_timeOn h v0 v1 v2 = some q) : CN g l yX8_timeOn cX8_timeOn 4 (some .int) rmX8_timeOn ad h [.ref (ad v0), .int (Int32.ofInt v1), .int (Int32.ofInt v2)] (some (.int (Int32.ofInt q.1))) q.2 := by
  refine pw_met (by decide) (Nat.le_of_ble_eq_true rfl) ?_
  intro p e s m args below meth c ls hC hN hR hl
  have hl : lv_has ls 4 [(0, .ref (ad v0)), (1, .int (Int32.ofInt v1)), (2, .int (Int32.ofInt v2))] := hl
  unfold FX8_timeOn at hF
  obtain ⟨u0, e0, hF⟩ := bnd hF
  refine lv_aload_n hC.1 hC.2.1 dX8_timeOn_0 rfl (lv_at hl 0 rfl) ?_
  refine pw_iconst hC dX8_timeOn_1 ?_
  obtain ⟨h1, e1, hF⟩ := bnd hF
  refine pw_pfi hC hR e1 fpX8_38 (Or.inl rfl) dX8_timeOn_2 (fun H locs hR => ?_)
  refine lv_aload_n hC.1 hC.2.1 dX8_timeOn_5 rfl (lv_at hl 0 rfl) ?_
  refine lv_iload_n hC.1 hC.2.1 dX8_timeOn_6 rfl (lv_at hl 1 rfl) ?_
  refine pw_iconst hC dX8_timeOn_7 ?_
  refine pw_iconst hC dX8_timeOn_8 ?_
  obtain ⟨x2, e2, hF⟩ := bnd hF
  refine pw_cSi (rest := [.ref (ad v0)]) hC hR lsX8_63 (CX8_in e2) ⟨rfl, rfl⟩ rfl hl.1 rfl ⟨Nat.le_of_ble_eq_true rfl, Nat.le_of_ble_eq_true rfl⟩ (Nat.le_of_ble_eq_true rfl) dX8_timeOn_9 ⟨Nat.zero_le _, Nat.zero_le _⟩ (fun H locs hR => ?_)
  refine pw_ifeq hC 26 dX8_timeOn_12 (by decide) (fun hc => ?_) (fun hc => ?_)
  · rw [if_pos hc] at hF
    exact BX8_timeOn_26 hC hR (lv_sub hl [0, 1, 2] rfl) hF
  · rw [if_neg hc] at hF
    refine lv_iload_n hC.1 hC.2.1 dX8_timeOn_15 rfl (lv_at hl 2 rfl) ?_
    refine pw_iconst hC dX8_timeOn_16 ?_
    refine pw_sipush hC dX8_timeOn_17 rfl ?_
    obtain ⟨x30, e30, hF⟩ := bnd hF
    refine pw_cSi (rest := [.ref (ad v0)]) hC hR lsX8_63 (CX8_in e30) ⟨rfl, rfl⟩ rfl hl.1 rfl ⟨Nat.le_of_ble_eq_true rfl, Nat.le_of_ble_eq_true rfl⟩ (Nat.le_of_ble_eq_true rfl) dX8_timeOn_20 ⟨Nat.zero_le _, Nat.zero_le _⟩ (fun H locs hR => ?_)
    refine pw_ifne hC 30 dX8_timeOn_23 (by decide) (fun hc => ?_) (fun hc => ?_)
    · rw [if_neg hc] at hF
      refine pw_iconst hC dX8_timeOn_30 ?_
      exact BX8_timeOn_31 hC hR (lv_sub hl [0, 1, 2] rfl) hF
    · rw [if_pos hc] at hF
      exact BX8_timeOn_26 hC hR (lv_sub hl [0, 1, 2] rfl) hF
abbrev rmX8_run : Room := { frames := 6, cells := 0, slots := 0, locals := 132 }
def JX8_run_64 (h : PH) : Option (Int × PH) :=
  some (0, h)
set_option maxHeartbeats 4000000 in
set_option maxRecDepth 100000 in
theorem BX8_run_64 {h : PH} (hC : Cx g p s m args meth c cX8_run 4 RX8 (some .int)) (hR : Rl g ad h s.heap H locs) (hl : lv_has ls 4 []) {q : Int × PH} (hF : JX8_run_64 h  = some q) : W p l e rmX8_run s m args below meth c H locs 0 0 (MQ below (QcN g ad q.2 (some (.int (Int32.ofInt q.1)))) args s 0 0 (gA g)) (F0 m 64 ls []) := by
  unfold JX8_run_64 at hF
  refine pw_iconst hC dX8_run_64 ?_
  cases hF
  exact pw_iret hC hR dX8_run_65
def LX8_run_74 (v0 : Nat) (v1 : Int) (v2 : Int) (v3 : Int) (h : PH) : Option ((Int × Int × PH) ⊕ (Int × PH)) :=
  if w32 v3 < w32 v1 then (
    (gfr h 8 v0 8).bind fun x8 =>
    (FX8_cycle h v0 x8).bind fun q9 =>
    some (.inl ((v2 + q9.1), (v3 + 1), q9.2))
  ) else (
    some (.inr (v2, h))
  )
set_option maxHeartbeats 4000000 in
set_option maxRecDepth 100000 in
theorem LRX8_run_74 {v0 : Nat} {v1 : Int} {Q : State → Prop} (hC : Cx g p s m args meth c cX8_run 4 RX8 (some .int)) : ∀ (n : Nat) (st : Int × Int × PH) (ex : Int × PH), lp (fun st : Int × Int × PH => LX8_run_74 v0 v1 st.1 st.2.1 st.2.2) n st = some ex → (fun ex : Int × PH => ∀ (H : Heap) (locs : List Loc) (ls : Array Slot), Rl g ad ex.2 s.heap H locs → lv_has ls 4 [(2, .int (Int32.ofInt ex.1))] → W p l e rmX8_run s m args below meth c H locs 0 0 Q (F0 m 96 ls [])) ex → ∀ (H : Heap) (locs : List Loc) (ls : Array Slot), Rl g ad st.2.2 s.heap H locs → lv_has ls 4 [(0, .ref (ad v0)), (1, .int (Int32.ofInt v1)), (2, .int (Int32.ofInt st.1)), (3, .int (Int32.ofInt st.2.1))] → W p l e rmX8_run s m args below meth c H locs 0 0 Q (F0 m 74 ls []) := by
  refine lp_rule (Ph := (fun st : Int × Int × PH => ∀ (H : Heap) (locs : List Loc) (ls : Array Slot), Rl g ad st.2.2 s.heap H locs → lv_has ls 4 [(0, .ref (ad v0)), (1, .int (Int32.ofInt v1)), (2, .int (Int32.ofInt st.1)), (3, .int (Int32.ofInt st.2.1))] → W p l e rmX8_run s m args below meth c H locs 0 0 Q (F0 m 74 ls []))) (Px := (fun ex : Int × PH => ∀ (H : Heap) (locs : List Loc) (ls : Array Slot), Rl g ad ex.2 s.heap H locs → lv_has ls 4 [(2, .int (Int32.ofInt ex.1))] → W p l e rmX8_run s m args below meth c H locs 0 0 Q (F0 m 96 ls []))) ?_
  rintro ⟨v2, v3, h⟩ o hF hK H locs ls hR hl
  have hR : Rl g ad h s.heap H locs := hR
  have hl : lv_has ls 4 [(0, .ref (ad v0)), (1, .int (Int32.ofInt v1)), (2, .int (Int32.ofInt v2)), (3, .int (Int32.ofInt v3))] := hl
  have hF : LX8_run_74 v0 v1 v2 v3 h = some o := hF
  unfold LX8_run_74 at hF
  refine lv_iload_n hC.1 hC.2.1 dX8_run_74 rfl (lv_at hl 3 rfl) ?_
  refine lv_iload_n hC.1 hC.2.1 dX8_run_75 rfl (lv_at hl 1 rfl) ?_
  refine pw_icmpge hC 96 dX8_run_76 (by decide) (fun hc => ?_) (fun hc => ?_)
  · rw [if_neg hc] at hF
    cases hF
    exact hK _ _ _ hR (lv_sub hl [2] rfl)
  · rw [if_pos hc] at hF
    refine lv_iload_n hC.1 hC.2.1 dX8_run_79 rfl (lv_at hl 2 rfl) ?_
    refine lv_aload_n hC.1 hC.2.1 dX8_run_80 rfl (lv_at hl 0 rfl) ?_
    refine lv_aload_n hC.1 hC.2.1 dX8_run_81 rfl (lv_at hl 0 rfl) ?_
    obtain ⟨x8, e8, hF⟩ := bnd hF
    refine pw_gfr hC hR e8 flX8_17 dX8_run_82 ?_
    obtain ⟨q9, e9, hF⟩ := bnd hF
    obtain ⟨fs9, ho9⟩ := OX8_cycle e9
    refine pw_cVi (rest := [.int (Int32.ofInt v2)]) hC hR lvX8_246 ho9 (CX8_cycle e9) ⟨rfl, rfl⟩ rfl hl.1 rfl ⟨Nat.le_of_ble_eq_true rfl, Nat.le_of_ble_eq_true rfl⟩ (Nat.le_of_ble_eq_true rfl) dX8_run_85 ⟨Nat.zero_le _, Nat.zero_le _⟩ (fun H locs hR => ?_)
    refine pw_iadd hC dX8_run_88 ?_
    refine lv_istore_n (lv' := [(2, .int (Int32.ofInt (v2 + q9.1))), (0, .ref (ad v0)), (1, .int (Int32.ofInt v1)), (3, .int (Int32.ofInt v3))]) hC.1 hC.2.1 dX8_run_89 rfl hl (by decide) rfl (fun ls hl => ?_)
    refine pw_iinc (lv' := [(3, .int (Int32.ofInt (v3 + 1))), (2, .int (Int32.ofInt (v2 + q9.1))), (0, .ref (ad v0)), (1, .int (Int32.ofInt v1))]) hC hl 3 dX8_run_90 rfl (by decide) rfl (fun ls hl => ?_)
    refine pw_goto hC 74 dX8_run_93 (by decide) ?_
    cases hF
    exact hK _ _ _ hR (lv_sub hl [2, 3, 1, 0] rfl)
def JX8_run_57 (h : PH) (v0 : Nat) (v1 : Int) (s0 : Int) (s1 : Nat) : Option (Int × PH) :=
  (FX8_fails h s1 s0 2).bind fun q6 =>
  if w32 q6.1 = 0 then (
    (FX8_remember q6.2 v0).bind fun h7 =>
    (lp (fun st : Int × Int × PH => LX8_run_74 v0 v1 st.1 st.2.1 st.2.2) FU (0, 0, h7)).bind fun ex10 =>
    some (ex10.1, ex10.2)
  ) else (
    JX8_run_64 q6.2
  )
set_option maxHeartbeats 4000000 in
set_option maxRecDepth 100000 in
theorem BX8_run_57 {h : PH} {v0 : Nat} {v1 : Int} {s0 : Int} {s1 : Nat} (hC : Cx g p s m args meth c cX8_run 4 RX8 (some .int)) (hR : Rl g ad h s.heap H locs) (hl : lv_has ls 4 [(0, .ref (ad v0)), (1, .int (Int32.ofInt v1))]) {q : Int × PH} (hF : JX8_run_57 h v0 v1 s0 s1 = some q) : W p l e rmX8_run s m args below meth c H locs 0 0 (MQ below (QcN g ad q.2 (some (.int (Int32.ofInt q.1)))) args s 0 0 (gA g)) (F0 m 57 ls [.int (Int32.ofInt s0), .ref (ad s1)]) := by
  unfold JX8_run_57 at hF
  refine pw_iconst hC dX8_run_57 ?_
  obtain ⟨q6, e6, hF⟩ := bnd hF
  obtain ⟨fs6, ho6⟩ := OX8_fails e6
  refine pw_cVi (rest := []) hC hR lvX8_162 ho6 (CX8_fails e6) ⟨rfl, rfl⟩ rfl hl.1 rfl ⟨Nat.le_of_ble_eq_true rfl, Nat.le_of_ble_eq_true rfl⟩ (Nat.le_of_ble_eq_true rfl) dX8_run_58 ⟨Nat.zero_le _, Nat.zero_le _⟩ (fun H locs hR => ?_)
  refine pw_ifeq hC 66 dX8_run_61 (by decide) (fun hc => ?_) (fun hc => ?_)
  · rw [if_pos hc] at hF
    refine lv_aload_n hC.1 hC.2.1 dX8_run_66 rfl (lv_at hl 0 rfl) ?_
    obtain ⟨h7, e7, hF⟩ := bnd hF
    obtain ⟨fs7, ho7⟩ := OX8_remember e7
    refine pw_cVv (rest := []) hC hR lvX8_175 ho7 (CX8_remember e7) ⟨rfl, rfl⟩ rfl hl.1 rfl ⟨Nat.le_of_ble_eq_true rfl, Nat.le_of_ble_eq_true rfl⟩ (Nat.le_of_ble_eq_true rfl) dX8_run_67 ⟨Nat.zero_le _, Nat.zero_le _⟩ (fun H locs hR => ?_)
    refine pw_iconst hC dX8_run_70 ?_
    refine lv_istore_n (lv' := [(2, .int (Int32.ofInt 0)), (0, .ref (ad v0)), (1, .int (Int32.ofInt v1))]) hC.1 hC.2.1 dX8_run_71 rfl hl (by decide) rfl (fun ls hl => ?_)
    refine pw_iconst hC dX8_run_72 ?_
    refine lv_istore_n (lv' := [(3, .int (Int32.ofInt 0)), (2, .int (Int32.ofInt 0)), (0, .ref (ad v0)), (1, .int (Int32.ofInt v1))]) hC.1 hC.2.1 dX8_run_73 rfl hl (by decide) rfl (fun ls hl => ?_)
    obtain ⟨ex10, e10, hF⟩ := bnd hF
    refine LRX8_run_74 hC FU _ ex10 e10 ?_ _ _ _ hR (lv_sub hl [2, 3, 1, 0] rfl)
    intro H locs ls hR hl
    refine lv_iload_n hC.1 hC.2.1 dX8_run_96 rfl (lv_at hl 0 rfl) ?_
    cases hF
    exact pw_iret hC hR dX8_run_97
  · rw [if_neg hc] at hF
    exact BX8_run_64 hC hR (lv_sub hl [] rfl) hF
def JX8_run_52 (h : PH) (v0 : Nat) (v1 : Int) (s0 : Nat) : Option (Int × PH) :=
  JX8_run_57 h v0 v1 1 s0
set_option maxHeartbeats 4000000 in
set_option maxRecDepth 100000 in
theorem BX8_run_52 {h : PH} {v0 : Nat} {v1 : Int} {s0 : Nat} (hC : Cx g p s m args meth c cX8_run 4 RX8 (some .int)) (hR : Rl g ad h s.heap H locs) (hl : lv_has ls 4 [(0, .ref (ad v0)), (1, .int (Int32.ofInt v1))]) {q : Int × PH} (hF : JX8_run_52 h v0 v1 s0 = some q) : W p l e rmX8_run s m args below meth c H locs 0 0 (MQ below (QcN g ad q.2 (some (.int (Int32.ofInt q.1)))) args s 0 0 (gA g)) (F0 m 52 ls [.ref (ad s0)]) := by
  unfold JX8_run_52 at hF
  refine pw_iconst hC dX8_run_52 ?_
  refine pw_goto hC 57 dX8_run_53 (by decide) ?_
  exact BX8_run_57 hC hR (lv_sub hl [0, 1] rfl) hF
def JX8_run_22 (h : PH) (v0 : Nat) (v1 : Int) (s0 : Int) (s1 : Nat) : Option (Int × PH) :=
  (FX8_fails h s1 s0 1).bind fun q3 =>
  if w32 q3.1 = 0 then (
    (gfr q3.2 8 v0 8).bind fun x4 =>
    (ald 0 q3.2 x4 0).bind fun x5 =>
    if w32 x5 = 0 then (
      JX8_run_52 q3.2 v0 v1 v0
    ) else (
      (gfr q3.2 8 v0 8).bind fun x11 =>
      (ald 0 q3.2 x11 5).bind fun x12 =>
      if w32 100000 < w32 (x12 + v1) then (
        JX8_run_52 q3.2 v0 v1 v0
      ) else (
        JX8_run_57 q3.2 v0 v1 0 v0
      )
    )
  ) else (
    JX8_run_64 q3.2
  )
set_option maxHeartbeats 4000000 in
set_option maxRecDepth 100000 in
theorem BX8_run_22 {h : PH} {v0 : Nat} {v1 : Int} {s0 : Int} {s1 : Nat} (hC : Cx g p s m args meth c cX8_run 4 RX8 (some .int)) (hR : Rl g ad h s.heap H locs) (hl : lv_has ls 4 [(0, .ref (ad v0)), (1, .int (Int32.ofInt v1))]) {q : Int × PH} (hF : JX8_run_22 h v0 v1 s0 s1 = some q) : W p l e rmX8_run s m args below meth c H locs 0 0 (MQ below (QcN g ad q.2 (some (.int (Int32.ofInt q.1)))) args s 0 0 (gA g)) (F0 m 22 ls [.int (Int32.ofInt s0), .ref (ad s1)]) := by
  unfold JX8_run_22 at hF
  refine pw_iconst hC dX8_run_22 ?_
  obtain ⟨q3, e3, hF⟩ := bnd hF
  obtain ⟨fs3, ho3⟩ := OX8_fails e3
  refine pw_cVi (rest := []) hC hR lvX8_162 ho3 (CX8_fails e3) ⟨rfl, rfl⟩ rfl hl.1 rfl ⟨Nat.le_of_ble_eq_true rfl, Nat.le_of_ble_eq_true rfl⟩ (Nat.le_of_ble_eq_true rfl) dX8_run_23 ⟨Nat.zero_le _, Nat.zero_le _⟩ (fun H locs hR => ?_)
  refine pw_ifne hC 64 dX8_run_26 (by decide) (fun hc => ?_) (fun hc => ?_)
  · rw [if_neg hc] at hF
    exact BX8_run_64 hC hR (lv_sub hl [] rfl) hF
  · rw [if_pos hc] at hF
    refine lv_aload_n hC.1 hC.2.1 dX8_run_29 rfl (lv_at hl 0 rfl) ?_
    refine lv_aload_n hC.1 hC.2.1 dX8_run_30 rfl (lv_at hl 0 rfl) ?_
    obtain ⟨x4, e4, hF⟩ := bnd hF
    refine pw_gfr hC hR e4 flX8_17 dX8_run_31 ?_
    refine pw_iconst hC dX8_run_34 ?_
    obtain ⟨x5, e5, hF⟩ := bnd hF
    refine pw_iald hC hR e5 dX8_run_35 ?_
    refine pw_ifeq hC 52 dX8_run_36 (by decide) (fun hc => ?_) (fun hc => ?_)
    · rw [if_pos hc] at hF
      exact BX8_run_52 hC hR (lv_sub hl [0, 1] rfl) hF
    · rw [if_neg hc] at hF
      refine lv_aload_n hC.1 hC.2.1 dX8_run_39 rfl (lv_at hl 0 rfl) ?_
      obtain ⟨x11, e11, hF⟩ := bnd hF
      refine pw_gfr hC hR e11 flX8_17 dX8_run_40 ?_
      refine pw_iconst hC dX8_run_43 ?_
      obtain ⟨x12, e12, hF⟩ := bnd hF
      refine pw_iald hC hR e12 dX8_run_44 ?_
      refine lv_iload_n hC.1 hC.2.1 dX8_run_45 rfl (lv_at hl 1 rfl) ?_
      refine pw_iadd hC dX8_run_46 ?_
      refine pw_ldc hC 100000 kcX8_255 dX8_run_47 ?_
      refine pw_icmple hC 56 dX8_run_49 (by decide) (fun hc => ?_) (fun hc => ?_)
      · rw [if_neg hc] at hF
        refine pw_iconst hC dX8_run_56 ?_
        exact BX8_run_57 hC hR (lv_sub hl [0, 1] rfl) hF
      · rw [if_pos hc] at hF
        exact BX8_run_52 hC hR (lv_sub hl [0, 1] rfl) hF
def FX8_run (h : PH) (v0 : Nat) (v1 : Int) : Option (Int × PH) :=
  (isO h 8 v0).bind fun _ =>
  (pfi h 8 v0 0 0).bind fun h1 =>
  (FX8_in h1 v1 1 200).bind fun x2 =>
  if w32 x2 = 0 then (
    JX8_run_22 h1 v0 v1 1 v0
  ) else (
    JX8_run_22 h1 v0 v1 0 v0
  )
theorem OX8_run {h : PH} {v0 : Nat} {v1 : Int} {q : Int × PH} (hF : FX8_run h v0 v1 = some q) : ∃ fs : List PV, h[v0]? = some (.inr (8, fs)) := by
  unfold FX8_run at hF
  obtain ⟨u0, e0, -⟩ := bnd hF
  exact isO_spec e0
set_option maxHeartbeats 4000000 in
set_option maxRecDepth 100000 in
theorem CX8_run {g : GP} {l : Launch} {ad : Nat → Nat} {h : PH} {v0 : Nat} {v1 : Int} {q : Int × PH} (hF : FX8_run h v0 v1 = some q) : CN g l yX8_run cX8_run 4 (some .int) rmX8_run ad h [.ref (ad v0), .int (Int32.ofInt v1)] (some (.int (Int32.ofInt q.1))) q.2 := by
  refine pw_met (by decide) (Nat.le_of_ble_eq_true rfl) ?_
  intro p e s m args below meth c ls hC hN hR hl
  have hl : lv_has ls 4 [(0, .ref (ad v0)), (1, .int (Int32.ofInt v1))] := hl
  unfold FX8_run at hF
  obtain ⟨u0, e0, hF⟩ := bnd hF
  refine lv_aload_n hC.1 hC.2.1 dX8_run_0 rfl (lv_at hl 0 rfl) ?_
  refine pw_iconst hC dX8_run_1 ?_
  obtain ⟨h1, e1, hF⟩ := bnd hF
  refine pw_pfi hC hR e1 fpX8_38 (Or.inl rfl) dX8_run_2 (fun H locs hR => ?_)
  refine lv_aload_n hC.1 hC.2.1 dX8_run_5 rfl (lv_at hl 0 rfl) ?_
  refine lv_iload_n hC.1 hC.2.1 dX8_run_6 rfl (lv_at hl 1 rfl) ?_
  refine pw_iconst hC dX8_run_7 ?_
  refine pw_sipush hC dX8_run_8 rfl ?_
  obtain ⟨x2, e2, hF⟩ := bnd hF
  refine pw_cSi (rest := [.ref (ad v0)]) hC hR lsX8_63 (CX8_in e2) ⟨rfl, rfl⟩ rfl hl.1 rfl ⟨Nat.le_of_ble_eq_true rfl, Nat.le_of_ble_eq_true rfl⟩ (Nat.le_of_ble_eq_true rfl) dX8_run_11 ⟨Nat.zero_le _, Nat.zero_le _⟩ (fun H locs hR => ?_)
  refine pw_ifne hC 21 dX8_run_14 (by decide) (fun hc => ?_) (fun hc => ?_)
  · rw [if_neg hc] at hF
    refine pw_iconst hC dX8_run_21 ?_
    exact BX8_run_22 hC hR (lv_sub hl [0, 1] rfl) hF
  · rw [if_pos hc] at hF
    refine pw_iconst hC dX8_run_17 ?_
    refine pw_goto hC 22 dX8_run_18 (by decide) ?_
    exact BX8_run_22 hC hR (lv_sub hl [0, 1] rfl) hF
abbrev rmX8_submit : Room := { frames := 3, cells := 0, slots := 0, locals := 66 }
def JX8_submit_70 (h : PH) : Option (Int × PH) :=
  some (0, h)
set_option maxHeartbeats 4000000 in
set_option maxRecDepth 100000 in
theorem BX8_submit_70 {h : PH} (hC : Cx g p s m args meth c cX8_submit 4 RX8 (some .int)) (hR : Rl g ad h s.heap H locs) (hl : lv_has ls 4 []) {q : Int × PH} (hF : JX8_submit_70 h  = some q) : W p l e rmX8_submit s m args below meth c H locs 0 0 (MQ below (QcN g ad q.2 (some (.int (Int32.ofInt q.1)))) args s 0 0 (gA g)) (F0 m 70 ls []) := by
  unfold JX8_submit_70 at hF
  refine pw_iconst hC dX8_submit_70 ?_
  cases hF
  exact pw_iret hC hR dX8_submit_71
def JX8_submit_63 (h : PH) (v0 : Nat) (v1 : Int) (v2 : Int) (v3 : Int) (s0 : Int) (s1 : Nat) : Option (Int × PH) :=
  (FX8_fails h s1 s0 3).bind fun q7 =>
  if w32 q7.1 = 0 then (
    (FX8_remember q7.2 v0).bind fun h8 =>
    (gfr h8 8 v0 8).bind fun x9 =>
    (FX8_addTask h8 x9 v1 v2 v3).bind fun q10 =>
    some (q10.1, q10.2)
  ) else (
    JX8_submit_70 q7.2
  )
set_option maxHeartbeats 4000000 in
set_option maxRecDepth 100000 in
theorem BX8_submit_63 {h : PH} {v0 : Nat} {v1 : Int} {v2 : Int} {v3 : Int} {s0 : Int} {s1 : Nat} (hC : Cx g p s m args meth c cX8_submit 4 RX8 (some .int)) (hR : Rl g ad h s.heap H locs) (hl : lv_has ls 4 [(0, .ref (ad v0)), (1, .int (Int32.ofInt v1)), (2, .int (Int32.ofInt v2)), (3, .int (Int32.ofInt v3))]) {q : Int × PH} (hF : JX8_submit_63 h v0 v1 v2 v3 s0 s1 = some q) : W p l e rmX8_submit s m args below meth c H locs 0 0 (MQ below (QcN g ad q.2 (some (.int (Int32.ofInt q.1)))) args s 0 0 (gA g)) (F0 m 63 ls [.int (Int32.ofInt s0), .ref (ad s1)]) := by
  unfold JX8_submit_63 at hF
  refine pw_iconst hC dX8_submit_63 ?_
  obtain ⟨q7, e7, hF⟩ := bnd hF
  obtain ⟨fs7, ho7⟩ := OX8_fails e7
  refine pw_cVi (rest := []) hC hR lvX8_162 ho7 (CX8_fails e7) ⟨rfl, rfl⟩ rfl hl.1 rfl ⟨Nat.le_of_ble_eq_true rfl, Nat.le_of_ble_eq_true rfl⟩ (Nat.le_of_ble_eq_true rfl) dX8_submit_64 ⟨Nat.zero_le _, Nat.zero_le _⟩ (fun H locs hR => ?_)
  refine pw_ifeq hC 72 dX8_submit_67 (by decide) (fun hc => ?_) (fun hc => ?_)
  · rw [if_pos hc] at hF
    refine lv_aload_n hC.1 hC.2.1 dX8_submit_72 rfl (lv_at hl 0 rfl) ?_
    obtain ⟨h8, e8, hF⟩ := bnd hF
    obtain ⟨fs8, ho8⟩ := OX8_remember e8
    refine pw_cVv (rest := []) hC hR lvX8_175 ho8 (CX8_remember e8) ⟨rfl, rfl⟩ rfl hl.1 rfl ⟨Nat.le_of_ble_eq_true rfl, Nat.le_of_ble_eq_true rfl⟩ (Nat.le_of_ble_eq_true rfl) dX8_submit_73 ⟨Nat.zero_le _, Nat.zero_le _⟩ (fun H locs hR => ?_)
    refine lv_aload_n hC.1 hC.2.1 dX8_submit_76 rfl (lv_at hl 0 rfl) ?_
    obtain ⟨x9, e9, hF⟩ := bnd hF
    refine pw_gfr hC hR e9 flX8_17 dX8_submit_77 ?_
    refine lv_iload_n hC.1 hC.2.1 dX8_submit_80 rfl (lv_at hl 1 rfl) ?_
    refine lv_iload_n hC.1 hC.2.1 dX8_submit_81 rfl (lv_at hl 2 rfl) ?_
    refine lv_iload_n hC.1 hC.2.1 dX8_submit_82 rfl (lv_at hl 3 rfl) ?_
    obtain ⟨q10, e10, hF⟩ := bnd hF
    refine pw_cSi (rest := []) hC hR lsX8_145 (CX8_addTask e10) ⟨rfl, rfl⟩ rfl hl.1 rfl ⟨Nat.le_of_ble_eq_true rfl, Nat.le_of_ble_eq_true rfl⟩ (Nat.le_of_ble_eq_true rfl) dX8_submit_83 ⟨Nat.zero_le _, Nat.zero_le _⟩ (fun H locs hR => ?_)
    cases hF
    exact pw_iret hC hR dX8_submit_86
  · rw [if_neg hc] at hF
    exact BX8_submit_70 hC hR (lv_sub hl [] rfl) hF
def JX8_submit_39 (h : PH) (v0 : Nat) (v1 : Int) (v2 : Int) (v3 : Int) (s0 : Int) (s1 : Nat) : Option (Int × PH) :=
  (FX8_fails h s1 s0 2).bind fun q4 =>
  if w32 q4.1 = 0 then (
    (gfr q4.2 8 v0 8).bind fun x5 =>
    (ald 0 q4.2 x5 3).bind fun x6 =>
    if w32 x6 = w32 32 then (
      JX8_submit_63 q4.2 v0 v1 v2 v3 1 v0
    ) else (
      JX8_submit_63 q4.2 v0 v1 v2 v3 0 v0
    )
  ) else (
    JX8_submit_70 q4.2
  )
set_option maxHeartbeats 4000000 in
set_option maxRecDepth 100000 in
theorem BX8_submit_39 {h : PH} {v0 : Nat} {v1 : Int} {v2 : Int} {v3 : Int} {s0 : Int} {s1 : Nat} (hC : Cx g p s m args meth c cX8_submit 4 RX8 (some .int)) (hR : Rl g ad h s.heap H locs) (hl : lv_has ls 4 [(0, .ref (ad v0)), (1, .int (Int32.ofInt v1)), (2, .int (Int32.ofInt v2)), (3, .int (Int32.ofInt v3))]) {q : Int × PH} (hF : JX8_submit_39 h v0 v1 v2 v3 s0 s1 = some q) : W p l e rmX8_submit s m args below meth c H locs 0 0 (MQ below (QcN g ad q.2 (some (.int (Int32.ofInt q.1)))) args s 0 0 (gA g)) (F0 m 39 ls [.int (Int32.ofInt s0), .ref (ad s1)]) := by
  unfold JX8_submit_39 at hF
  refine pw_iconst hC dX8_submit_39 ?_
  obtain ⟨q4, e4, hF⟩ := bnd hF
  obtain ⟨fs4, ho4⟩ := OX8_fails e4
  refine pw_cVi (rest := []) hC hR lvX8_162 ho4 (CX8_fails e4) ⟨rfl, rfl⟩ rfl hl.1 rfl ⟨Nat.le_of_ble_eq_true rfl, Nat.le_of_ble_eq_true rfl⟩ (Nat.le_of_ble_eq_true rfl) dX8_submit_40 ⟨Nat.zero_le _, Nat.zero_le _⟩ (fun H locs hR => ?_)
  refine pw_ifne hC 70 dX8_submit_43 (by decide) (fun hc => ?_) (fun hc => ?_)
  · rw [if_neg hc] at hF
    exact BX8_submit_70 hC hR (lv_sub hl [] rfl) hF
  · rw [if_pos hc] at hF
    refine lv_aload_n hC.1 hC.2.1 dX8_submit_46 rfl (lv_at hl 0 rfl) ?_
    refine lv_aload_n hC.1 hC.2.1 dX8_submit_47 rfl (lv_at hl 0 rfl) ?_
    obtain ⟨x5, e5, hF⟩ := bnd hF
    refine pw_gfr hC hR e5 flX8_17 dX8_submit_48 ?_
    refine pw_iconst hC dX8_submit_51 ?_
    obtain ⟨x6, e6, hF⟩ := bnd hF
    refine pw_iald hC hR e6 dX8_submit_52 ?_
    refine pw_bipush hC dX8_submit_53 rfl ?_
    refine pw_icmpne hC 62 dX8_submit_55 (by decide) (fun hc => ?_) (fun hc => ?_)
    · rw [if_neg hc] at hF
      refine pw_iconst hC dX8_submit_62 ?_
      exact BX8_submit_63 hC hR (lv_sub hl [0, 1, 2, 3] rfl) hF
    · rw [if_pos hc] at hF
      refine pw_iconst hC dX8_submit_58 ?_
      refine pw_goto hC 63 dX8_submit_59 (by decide) ?_
      exact BX8_submit_63 hC hR (lv_sub hl [0, 1, 2, 3] rfl) hF
def JX8_submit_34 (h : PH) (v0 : Nat) (v1 : Int) (v2 : Int) (v3 : Int) (s0 : Nat) : Option (Int × PH) :=
  JX8_submit_39 h v0 v1 v2 v3 1 s0
set_option maxHeartbeats 4000000 in
set_option maxRecDepth 100000 in
theorem BX8_submit_34 {h : PH} {v0 : Nat} {v1 : Int} {v2 : Int} {v3 : Int} {s0 : Nat} (hC : Cx g p s m args meth c cX8_submit 4 RX8 (some .int)) (hR : Rl g ad h s.heap H locs) (hl : lv_has ls 4 [(0, .ref (ad v0)), (1, .int (Int32.ofInt v1)), (2, .int (Int32.ofInt v2)), (3, .int (Int32.ofInt v3))]) {q : Int × PH} (hF : JX8_submit_34 h v0 v1 v2 v3 s0 = some q) : W p l e rmX8_submit s m args below meth c H locs 0 0 (MQ below (QcN g ad q.2 (some (.int (Int32.ofInt q.1)))) args s 0 0 (gA g)) (F0 m 34 ls [.ref (ad s0)]) := by
  unfold JX8_submit_34 at hF
  refine pw_iconst hC dX8_submit_34 ?_
  refine pw_goto hC 39 dX8_submit_35 (by decide) ?_
  exact BX8_submit_39 hC hR (lv_sub hl [0, 1, 2, 3] rfl) hF
def FX8_submit (h : PH) (v0 : Nat) (v1 : Int) (v2 : Int) (v3 : Int) : Option (Int × PH) :=
  (isO h 8 v0).bind fun _ =>
  (pfi h 8 v0 0 0).bind fun h1 =>
  (FX8_noCore h1 v0 v3).bind fun q2 =>
  if w32 q2.1 = 0 then (
    (FX8_in q2.2 v1 1 99).bind fun x3 =>
    if w32 x3 = 0 then (
      JX8_submit_34 q2.2 v0 v1 v2 v3 v0
    ) else (
      (FX8_in q2.2 v2 0 9).bind fun x11 =>
      if w32 x11 = 0 then (
        JX8_submit_34 q2.2 v0 v1 v2 v3 v0
      ) else (
        JX8_submit_39 q2.2 v0 v1 v2 v3 0 v0
      )
    )
  ) else (
    JX8_submit_70 q2.2
  )
theorem OX8_submit {h : PH} {v0 : Nat} {v1 : Int} {v2 : Int} {v3 : Int} {q : Int × PH} (hF : FX8_submit h v0 v1 v2 v3 = some q) : ∃ fs : List PV, h[v0]? = some (.inr (8, fs)) := by
  unfold FX8_submit at hF
  obtain ⟨u0, e0, -⟩ := bnd hF
  exact isO_spec e0
set_option maxHeartbeats 4000000 in
set_option maxRecDepth 100000 in
theorem CX8_submit {g : GP} {l : Launch} {ad : Nat → Nat} {h : PH} {v0 : Nat} {v1 : Int} {v2 : Int} {v3 : Int} {q : Int × PH} (hF : FX8_submit h v0 v1 v2 v3 = some q) : CN g l yX8_submit cX8_submit 4 (some .int) rmX8_submit ad h [.ref (ad v0), .int (Int32.ofInt v1), .int (Int32.ofInt v2), .int (Int32.ofInt v3)] (some (.int (Int32.ofInt q.1))) q.2 := by
  refine pw_met (by decide) (Nat.le_of_ble_eq_true rfl) ?_
  intro p e s m args below meth c ls hC hN hR hl
  have hl : lv_has ls 4 [(0, .ref (ad v0)), (1, .int (Int32.ofInt v1)), (2, .int (Int32.ofInt v2)), (3, .int (Int32.ofInt v3))] := hl
  unfold FX8_submit at hF
  obtain ⟨u0, e0, hF⟩ := bnd hF
  refine lv_aload_n hC.1 hC.2.1 dX8_submit_0 rfl (lv_at hl 0 rfl) ?_
  refine pw_iconst hC dX8_submit_1 ?_
  obtain ⟨h1, e1, hF⟩ := bnd hF
  refine pw_pfi hC hR e1 fpX8_38 (Or.inl rfl) dX8_submit_2 (fun H locs hR => ?_)
  refine lv_aload_n hC.1 hC.2.1 dX8_submit_5 rfl (lv_at hl 0 rfl) ?_
  refine lv_iload_n hC.1 hC.2.1 dX8_submit_6 rfl (lv_at hl 3 rfl) ?_
  obtain ⟨q2, e2, hF⟩ := bnd hF
  obtain ⟨fs2, ho2⟩ := OX8_noCore e2
  refine pw_cVi (rest := []) hC hR lvX8_230 ho2 (CX8_noCore e2) ⟨rfl, rfl⟩ rfl hl.1 rfl ⟨Nat.le_of_ble_eq_true rfl, Nat.le_of_ble_eq_true rfl⟩ (Nat.le_of_ble_eq_true rfl) dX8_submit_7 ⟨Nat.zero_le _, Nat.zero_le _⟩ (fun H locs hR => ?_)
  refine pw_ifne hC 70 dX8_submit_10 (by decide) (fun hc => ?_) (fun hc => ?_)
  · rw [if_neg hc] at hF
    exact BX8_submit_70 hC hR (lv_sub hl [] rfl) hF
  · rw [if_pos hc] at hF
    refine lv_aload_n hC.1 hC.2.1 dX8_submit_13 rfl (lv_at hl 0 rfl) ?_
    refine lv_iload_n hC.1 hC.2.1 dX8_submit_14 rfl (lv_at hl 1 rfl) ?_
    refine pw_iconst hC dX8_submit_15 ?_
    refine pw_bipush hC dX8_submit_16 rfl ?_
    obtain ⟨x3, e3, hF⟩ := bnd hF
    refine pw_cSi (rest := [.ref (ad v0)]) hC hR lsX8_63 (CX8_in e3) ⟨rfl, rfl⟩ rfl hl.1 rfl ⟨Nat.le_of_ble_eq_true rfl, Nat.le_of_ble_eq_true rfl⟩ (Nat.le_of_ble_eq_true rfl) dX8_submit_18 ⟨Nat.zero_le _, Nat.zero_le _⟩ (fun H locs hR => ?_)
    refine pw_ifeq hC 34 dX8_submit_21 (by decide) (fun hc => ?_) (fun hc => ?_)
    · rw [if_pos hc] at hF
      exact BX8_submit_34 hC hR (lv_sub hl [0, 1, 2, 3] rfl) hF
    · rw [if_neg hc] at hF
      refine lv_iload_n hC.1 hC.2.1 dX8_submit_24 rfl (lv_at hl 2 rfl) ?_
      refine pw_iconst hC dX8_submit_25 ?_
      refine pw_bipush hC dX8_submit_26 rfl ?_
      obtain ⟨x11, e11, hF⟩ := bnd hF
      refine pw_cSi (rest := [.ref (ad v0)]) hC hR lsX8_63 (CX8_in e11) ⟨rfl, rfl⟩ rfl hl.1 rfl ⟨Nat.le_of_ble_eq_true rfl, Nat.le_of_ble_eq_true rfl⟩ (Nat.le_of_ble_eq_true rfl) dX8_submit_28 ⟨Nat.zero_le _, Nat.zero_le _⟩ (fun H locs hR => ?_)
      refine pw_ifne hC 38 dX8_submit_31 (by decide) (fun hc => ?_) (fun hc => ?_)
      · rw [if_neg hc] at hF
        refine pw_iconst hC dX8_submit_38 ?_
        exact BX8_submit_39 hC hR (lv_sub hl [0, 1, 2, 3] rfl) hF
      · rw [if_pos hc] at hF
        exact BX8_submit_34 hC hR (lv_sub hl [0, 1, 2, 3] rfl) hF
abbrev rmX8_depend : Room := { frames := 4, cells := 0, slots := 0, locals := 86 }
def JX8_depend_48 (h : PH) : Option (Int × PH) :=
  some (0, h)
set_option maxHeartbeats 4000000 in
set_option maxRecDepth 100000 in
theorem BX8_depend_48 {h : PH} (hC : Cx g p s m args meth c cX8_depend 4 RX8 (some .int)) (hR : Rl g ad h s.heap H locs) (hl : lv_has ls 4 []) {q : Int × PH} (hF : JX8_depend_48 h  = some q) : W p l e rmX8_depend s m args below meth c H locs 0 0 (MQ below (QcN g ad q.2 (some (.int (Int32.ofInt q.1)))) args s 0 0 (gA g)) (F0 m 48 ls []) := by
  unfold JX8_depend_48 at hF
  refine pw_iconst hC dX8_depend_48 ?_
  cases hF
  exact pw_iret hC hR dX8_depend_49
def JX8_depend_108 (h : PH) : Option (Int × PH) :=
  some (0, h)
set_option maxHeartbeats 4000000 in
set_option maxRecDepth 100000 in
theorem BX8_depend_108 {h : PH} (hC : Cx g p s m args meth c cX8_depend 4 RX8 (some .int)) (hR : Rl g ad h s.heap H locs) (hl : lv_has ls 4 []) {q : Int × PH} (hF : JX8_depend_108 h  = some q) : W p l e rmX8_depend s m args below meth c H locs 0 0 (MQ below (QcN g ad q.2 (some (.int (Int32.ofInt q.1)))) args s 0 0 (gA g)) (F0 m 108 ls []) := by
  unfold JX8_depend_108 at hF
  refine pw_iconst hC dX8_depend_108 ?_
  cases hF
  exact pw_iret hC hR dX8_depend_109
def JX8_depend_101 (h : PH) (v0 : Nat) (v1 : Int) (v2 : Int) (v3 : Int) (s0 : Int) (s1 : Nat) : Option (Int × PH) :=
  (FX8_fails h s1 s0 3).bind fun q11 =>
  if w32 q11.1 = 0 then (
    (FX8_remember q11.2 v0).bind fun h12 =>
    (gfr h12 8 v0 8).bind fun x13 =>
    (ald 0 h12 x13 (v3 + 3)).bind fun x14 =>
    (ast 0 h12 x13 (v3 + 3) (orI x14 (shlI 1 v2))).bind fun h15 =>
    (gfr h15 8 v0 8).bind fun x16 =>
    (FX8_counterOf h15 x16 v1).bind fun x17 =>
    some (x17, h15)
  ) else (
    JX8_depend_108 q11.2
  )
set_option maxHeartbeats 4000000 in
set_option maxRecDepth 100000 in
theorem BX8_depend_101 {h : PH} {v0 : Nat} {v1 : Int} {v2 : Int} {v3 : Int} {s0 : Int} {s1 : Nat} (hC : Cx g p s m args meth c cX8_depend 4 RX8 (some .int)) (hR : Rl g ad h s.heap H locs) (hl : lv_has ls 4 [(0, .ref (ad v0)), (1, .int (Int32.ofInt v1)), (2, .int (Int32.ofInt v2)), (3, .int (Int32.ofInt v3))]) {q : Int × PH} (hF : JX8_depend_101 h v0 v1 v2 v3 s0 s1 = some q) : W p l e rmX8_depend s m args below meth c H locs 0 0 (MQ below (QcN g ad q.2 (some (.int (Int32.ofInt q.1)))) args s 0 0 (gA g)) (F0 m 101 ls [.int (Int32.ofInt s0), .ref (ad s1)]) := by
  unfold JX8_depend_101 at hF
  refine pw_iconst hC dX8_depend_101 ?_
  obtain ⟨q11, e11, hF⟩ := bnd hF
  obtain ⟨fs11, ho11⟩ := OX8_fails e11
  refine pw_cVi (rest := []) hC hR lvX8_162 ho11 (CX8_fails e11) ⟨rfl, rfl⟩ rfl hl.1 rfl ⟨Nat.le_of_ble_eq_true rfl, Nat.le_of_ble_eq_true rfl⟩ (Nat.le_of_ble_eq_true rfl) dX8_depend_102 ⟨Nat.zero_le _, Nat.zero_le _⟩ (fun H locs hR => ?_)
  refine pw_ifeq hC 110 dX8_depend_105 (by decide) (fun hc => ?_) (fun hc => ?_)
  · rw [if_pos hc] at hF
    refine lv_aload_n hC.1 hC.2.1 dX8_depend_110 rfl (lv_at hl 0 rfl) ?_
    obtain ⟨h12, e12, hF⟩ := bnd hF
    obtain ⟨fs12, ho12⟩ := OX8_remember e12
    refine pw_cVv (rest := []) hC hR lvX8_175 ho12 (CX8_remember e12) ⟨rfl, rfl⟩ rfl hl.1 rfl ⟨Nat.le_of_ble_eq_true rfl, Nat.le_of_ble_eq_true rfl⟩ (Nat.le_of_ble_eq_true rfl) dX8_depend_111 ⟨Nat.zero_le _, Nat.zero_le _⟩ (fun H locs hR => ?_)
    refine lv_aload_n hC.1 hC.2.1 dX8_depend_114 rfl (lv_at hl 0 rfl) ?_
    obtain ⟨x13, e13, hF⟩ := bnd hF
    refine pw_gfr hC hR e13 flX8_17 dX8_depend_115 ?_
    refine lv_iload_n hC.1 hC.2.1 dX8_depend_118 rfl (lv_at hl 3 rfl) ?_
    refine pw_iconst hC dX8_depend_119 ?_
    refine pw_iadd hC dX8_depend_120 ?_
    refine lv_dup2_11 hC.1 hC.2.1 dX8_depend_121 rfl rfl ?_
    obtain ⟨x14, e14, hF⟩ := bnd hF
    refine pw_iald hC hR e14 dX8_depend_122 ?_
    refine pw_iconst hC dX8_depend_123 ?_
    refine lv_iload_n hC.1 hC.2.1 dX8_depend_124 rfl (lv_at hl 2 rfl) ?_
    refine pw_ishl hC dX8_depend_125 ?_
    refine pw_ior hC dX8_depend_126 ?_
    obtain ⟨h15, e15, hF⟩ := bnd hF
    refine pw_iast hC hR e15 dX8_depend_127 (fun H locs hR => ?_)
    refine lv_aload_n hC.1 hC.2.1 dX8_depend_128 rfl (lv_at hl 0 rfl) ?_
    obtain ⟨x16, e16, hF⟩ := bnd hF
    refine pw_gfr hC hR e16 flX8_17 dX8_depend_129 ?_
    refine lv_iload_n hC.1 hC.2.1 dX8_depend_132 rfl (lv_at hl 1 rfl) ?_
    obtain ⟨x17, e17, hF⟩ := bnd hF
    refine pw_cSi (rest := []) hC hR lsX8_203 (CX8_counterOf e17) ⟨rfl, rfl⟩ rfl hl.1 rfl ⟨Nat.le_of_ble_eq_true rfl, Nat.le_of_ble_eq_true rfl⟩ (Nat.le_of_ble_eq_true rfl) dX8_depend_133 ⟨Nat.zero_le _, Nat.zero_le _⟩ (fun H locs hR => ?_)
    cases hF
    exact pw_iret hC hR dX8_depend_136
  · rw [if_neg hc] at hF
    exact BX8_depend_108 hC hR (lv_sub hl [] rfl) hF
def JX8_depend_77 (h : PH) (v0 : Nat) (v1 : Int) (v2 : Int) (v3 : Int) (s0 : Int) (s1 : Nat) : Option (Int × PH) :=
  (FX8_fails h s1 s0 2).bind fun q8 =>
  if w32 q8.1 = 0 then (
    (gfr q8.2 8 v0 8).bind fun x9 =>
    (ald 0 q8.2 x9 (v3 + 4)).bind fun x10 =>
    if w32 x10 = 0 then (
      JX8_depend_101 q8.2 v0 v1 v2 v3 0 v0
    ) else (
      JX8_depend_101 q8.2 v0 v1 v2 v3 1 v0
    )
  ) else (
    JX8_depend_108 q8.2
  )
set_option maxHeartbeats 4000000 in
set_option maxRecDepth 100000 in
theorem BX8_depend_77 {h : PH} {v0 : Nat} {v1 : Int} {v2 : Int} {v3 : Int} {s0 : Int} {s1 : Nat} (hC : Cx g p s m args meth c cX8_depend 4 RX8 (some .int)) (hR : Rl g ad h s.heap H locs) (hl : lv_has ls 4 [(0, .ref (ad v0)), (1, .int (Int32.ofInt v1)), (2, .int (Int32.ofInt v2)), (3, .int (Int32.ofInt v3))]) {q : Int × PH} (hF : JX8_depend_77 h v0 v1 v2 v3 s0 s1 = some q) : W p l e rmX8_depend s m args below meth c H locs 0 0 (MQ below (QcN g ad q.2 (some (.int (Int32.ofInt q.1)))) args s 0 0 (gA g)) (F0 m 77 ls [.int (Int32.ofInt s0), .ref (ad s1)]) := by
  unfold JX8_depend_77 at hF
  refine pw_iconst hC dX8_depend_77 ?_
  obtain ⟨q8, e8, hF⟩ := bnd hF
  obtain ⟨fs8, ho8⟩ := OX8_fails e8
  refine pw_cVi (rest := []) hC hR lvX8_162 ho8 (CX8_fails e8) ⟨rfl, rfl⟩ rfl hl.1 rfl ⟨Nat.le_of_ble_eq_true rfl, Nat.le_of_ble_eq_true rfl⟩ (Nat.le_of_ble_eq_true rfl) dX8_depend_78 ⟨Nat.zero_le _, Nat.zero_le _⟩ (fun H locs hR => ?_)
  refine pw_ifne hC 108 dX8_depend_81 (by decide) (fun hc => ?_) (fun hc => ?_)
  · rw [if_neg hc] at hF
    exact BX8_depend_108 hC hR (lv_sub hl [] rfl) hF
  · rw [if_pos hc] at hF
    refine lv_aload_n hC.1 hC.2.1 dX8_depend_84 rfl (lv_at hl 0 rfl) ?_
    refine lv_aload_n hC.1 hC.2.1 dX8_depend_85 rfl (lv_at hl 0 rfl) ?_
    obtain ⟨x9, e9, hF⟩ := bnd hF
    refine pw_gfr hC hR e9 flX8_17 dX8_depend_86 ?_
    refine lv_iload_n hC.1 hC.2.1 dX8_depend_89 rfl (lv_at hl 3 rfl) ?_
    refine pw_iconst hC dX8_depend_90 ?_
    refine pw_iadd hC dX8_depend_91 ?_
    obtain ⟨x10, e10, hF⟩ := bnd hF
    refine pw_iald hC hR e10 dX8_depend_92 ?_
    refine pw_ifeq hC 100 dX8_depend_93 (by decide) (fun hc => ?_) (fun hc => ?_)
    · rw [if_pos hc] at hF
      refine pw_iconst hC dX8_depend_100 ?_
      exact BX8_depend_101 hC hR (lv_sub hl [0, 1, 2, 3] rfl) hF
    · rw [if_neg hc] at hF
      refine pw_iconst hC dX8_depend_96 ?_
      refine pw_goto hC 101 dX8_depend_97 (by decide) ?_
      exact BX8_depend_101 hC hR (lv_sub hl [0, 1, 2, 3] rfl) hF
def JX8_depend_41 (h : PH) (v0 : Nat) (v1 : Int) (v2 : Int) (s0 : Int) (s1 : Nat) : Option (Int × PH) :=
  (FX8_fails h s1 s0 2).bind fun q4 =>
  if w32 q4.1 = 0 then (
    (FX8_task q4.2 v1).bind fun x5 =>
    (gfr q4.2 8 v0 8).bind fun x6 =>
    (ald 0 q4.2 x6 (x5 + 3)).bind fun x7 =>
    if w32 (andI (shrI x7 v2) 1) = w32 1 then (
      JX8_depend_77 q4.2 v0 v1 v2 x5 1 v0
    ) else (
      JX8_depend_77 q4.2 v0 v1 v2 x5 0 v0
    )
  ) else (
    JX8_depend_48 q4.2
  )
set_option maxHeartbeats 4000000 in
set_option maxRecDepth 100000 in
theorem BX8_depend_41 {h : PH} {v0 : Nat} {v1 : Int} {v2 : Int} {s0 : Int} {s1 : Nat} (hC : Cx g p s m args meth c cX8_depend 4 RX8 (some .int)) (hR : Rl g ad h s.heap H locs) (hl : lv_has ls 4 [(0, .ref (ad v0)), (1, .int (Int32.ofInt v1)), (2, .int (Int32.ofInt v2))]) {q : Int × PH} (hF : JX8_depend_41 h v0 v1 v2 s0 s1 = some q) : W p l e rmX8_depend s m args below meth c H locs 0 0 (MQ below (QcN g ad q.2 (some (.int (Int32.ofInt q.1)))) args s 0 0 (gA g)) (F0 m 41 ls [.int (Int32.ofInt s0), .ref (ad s1)]) := by
  unfold JX8_depend_41 at hF
  refine pw_iconst hC dX8_depend_41 ?_
  obtain ⟨q4, e4, hF⟩ := bnd hF
  obtain ⟨fs4, ho4⟩ := OX8_fails e4
  refine pw_cVi (rest := []) hC hR lvX8_162 ho4 (CX8_fails e4) ⟨rfl, rfl⟩ rfl hl.1 rfl ⟨Nat.le_of_ble_eq_true rfl, Nat.le_of_ble_eq_true rfl⟩ (Nat.le_of_ble_eq_true rfl) dX8_depend_42 ⟨Nat.zero_le _, Nat.zero_le _⟩ (fun H locs hR => ?_)
  refine pw_ifeq hC 50 dX8_depend_45 (by decide) (fun hc => ?_) (fun hc => ?_)
  · rw [if_pos hc] at hF
    refine lv_iload_n hC.1 hC.2.1 dX8_depend_50 rfl (lv_at hl 1 rfl) ?_
    obtain ⟨x5, e5, hF⟩ := bnd hF
    refine pw_cSi (rest := []) hC hR lsX8_136 (CX8_task e5) ⟨rfl, rfl⟩ rfl hl.1 rfl ⟨Nat.le_of_ble_eq_true rfl, Nat.le_of_ble_eq_true rfl⟩ (Nat.le_of_ble_eq_true rfl) dX8_depend_51 ⟨Nat.zero_le _, Nat.zero_le _⟩ (fun H locs hR => ?_)
    refine lv_istore_n (lv' := [(3, .int (Int32.ofInt x5)), (0, .ref (ad v0)), (1, .int (Int32.ofInt v1)), (2, .int (Int32.ofInt v2))]) hC.1 hC.2.1 dX8_depend_54 rfl hl (by decide) rfl (fun ls hl => ?_)
    refine lv_aload_n hC.1 hC.2.1 dX8_depend_55 rfl (lv_at hl 1 rfl) ?_
    refine lv_aload_n hC.1 hC.2.1 dX8_depend_56 rfl (lv_at hl 1 rfl) ?_
    obtain ⟨x6, e6, hF⟩ := bnd hF
    refine pw_gfr hC hR e6 flX8_17 dX8_depend_57 ?_
    refine lv_iload_n hC.1 hC.2.1 dX8_depend_60 rfl (lv_at hl 0 rfl) ?_
    refine pw_iconst hC dX8_depend_61 ?_
    refine pw_iadd hC dX8_depend_62 ?_
    obtain ⟨x7, e7, hF⟩ := bnd hF
    refine pw_iald hC hR e7 dX8_depend_63 ?_
    refine lv_iload_n hC.1 hC.2.1 dX8_depend_64 rfl (lv_at hl 3 rfl) ?_
    refine pw_ishr hC dX8_depend_65 ?_
    refine pw_iconst hC dX8_depend_66 ?_
    refine pw_iand hC dX8_depend_67 ?_
    refine pw_iconst hC dX8_depend_68 ?_
    refine pw_icmpne hC 76 dX8_depend_69 (by decide) (fun hc => ?_) (fun hc => ?_)
    · rw [if_neg hc] at hF
      refine pw_iconst hC dX8_depend_76 ?_
      exact BX8_depend_77 hC hR (lv_sub hl [1, 2, 3, 0] rfl) hF
    · rw [if_pos hc] at hF
      refine pw_iconst hC dX8_depend_72 ?_
      refine pw_goto hC 77 dX8_depend_73 (by decide) ?_
      exact BX8_depend_77 hC hR (lv_sub hl [1, 2, 3, 0] rfl) hF
  · rw [if_neg hc] at hF
    exact BX8_depend_48 hC hR (lv_sub hl [] rfl) hF
def JX8_depend_23 (h : PH) (v0 : Nat) (v1 : Int) (v2 : Int) (s0 : Int) (s1 : Nat) : Option (Int × PH) :=
  (FX8_fails h s1 s0 1).bind fun q3 =>
  if w32 q3.1 = 0 then (
    if w32 v2 < w32 v1 then (
      JX8_depend_41 q3.2 v0 v1 v2 0 v0
    ) else (
      JX8_depend_41 q3.2 v0 v1 v2 1 v0
    )
  ) else (
    JX8_depend_48 q3.2
  )
set_option maxHeartbeats 4000000 in
set_option maxRecDepth 100000 in
theorem BX8_depend_23 {h : PH} {v0 : Nat} {v1 : Int} {v2 : Int} {s0 : Int} {s1 : Nat} (hC : Cx g p s m args meth c cX8_depend 4 RX8 (some .int)) (hR : Rl g ad h s.heap H locs) (hl : lv_has ls 4 [(0, .ref (ad v0)), (1, .int (Int32.ofInt v1)), (2, .int (Int32.ofInt v2))]) {q : Int × PH} (hF : JX8_depend_23 h v0 v1 v2 s0 s1 = some q) : W p l e rmX8_depend s m args below meth c H locs 0 0 (MQ below (QcN g ad q.2 (some (.int (Int32.ofInt q.1)))) args s 0 0 (gA g)) (F0 m 23 ls [.int (Int32.ofInt s0), .ref (ad s1)]) := by
  unfold JX8_depend_23 at hF
  refine pw_iconst hC dX8_depend_23 ?_
  obtain ⟨q3, e3, hF⟩ := bnd hF
  obtain ⟨fs3, ho3⟩ := OX8_fails e3
  refine pw_cVi (rest := []) hC hR lvX8_162 ho3 (CX8_fails e3) ⟨rfl, rfl⟩ rfl hl.1 rfl ⟨Nat.le_of_ble_eq_true rfl, Nat.le_of_ble_eq_true rfl⟩ (Nat.le_of_ble_eq_true rfl) dX8_depend_24 ⟨Nat.zero_le _, Nat.zero_le _⟩ (fun H locs hR => ?_)
  refine pw_ifne hC 48 dX8_depend_27 (by decide) (fun hc => ?_) (fun hc => ?_)
  · rw [if_neg hc] at hF
    exact BX8_depend_48 hC hR (lv_sub hl [] rfl) hF
  · rw [if_pos hc] at hF
    refine lv_aload_n hC.1 hC.2.1 dX8_depend_30 rfl (lv_at hl 0 rfl) ?_
    refine lv_iload_n hC.1 hC.2.1 dX8_depend_31 rfl (lv_at hl 2 rfl) ?_
    refine lv_iload_n hC.1 hC.2.1 dX8_depend_32 rfl (lv_at hl 1 rfl) ?_
    refine pw_icmplt hC 40 dX8_depend_33 (by decide) (fun hc => ?_) (fun hc => ?_)
    · rw [if_pos hc] at hF
      refine pw_iconst hC dX8_depend_40 ?_
      exact BX8_depend_41 hC hR (lv_sub hl [0, 1, 2] rfl) hF
    · rw [if_neg hc] at hF
      refine pw_iconst hC dX8_depend_36 ?_
      refine pw_goto hC 41 dX8_depend_37 (by decide) ?_
      exact BX8_depend_41 hC hR (lv_sub hl [0, 1, 2] rfl) hF
def FX8_depend (h : PH) (v0 : Nat) (v1 : Int) (v2 : Int) : Option (Int × PH) :=
  (isO h 8 v0).bind fun _ =>
  (pfi h 8 v0 0 0).bind fun h1 =>
  (FX8_noTask h1 v0 v1).bind fun q2 =>
  if w32 q2.1 = 0 then (
    if w32 v2 < 0 then (
      JX8_depend_23 q2.2 v0 v1 v2 1 v0
    ) else (
      JX8_depend_23 q2.2 v0 v1 v2 0 v0
    )
  ) else (
    JX8_depend_48 q2.2
  )
theorem OX8_depend {h : PH} {v0 : Nat} {v1 : Int} {v2 : Int} {q : Int × PH} (hF : FX8_depend h v0 v1 v2 = some q) : ∃ fs : List PV, h[v0]? = some (.inr (8, fs)) := by
  unfold FX8_depend at hF
  obtain ⟨u0, e0, -⟩ := bnd hF
  exact isO_spec e0
set_option maxHeartbeats 4000000 in
set_option maxRecDepth 100000 in
theorem CX8_depend {g : GP} {l : Launch} {ad : Nat → Nat} {h : PH} {v0 : Nat} {v1 : Int} {v2 : Int} {q : Int × PH} (hF : FX8_depend h v0 v1 v2 = some q) : CN g l yX8_depend cX8_depend 4 (some .int) rmX8_depend ad h [.ref (ad v0), .int (Int32.ofInt v1), .int (Int32.ofInt v2)] (some (.int (Int32.ofInt q.1))) q.2 := by
  refine pw_met (by decide) (Nat.le_of_ble_eq_true rfl) ?_
  intro p e s m args below meth c ls hC hN hR hl
  have hl : lv_has ls 4 [(0, .ref (ad v0)), (1, .int (Int32.ofInt v1)), (2, .int (Int32.ofInt v2))] := hl
  unfold FX8_depend at hF
  obtain ⟨u0, e0, hF⟩ := bnd hF
  refine lv_aload_n hC.1 hC.2.1 dX8_depend_0 rfl (lv_at hl 0 rfl) ?_
  refine pw_iconst hC dX8_depend_1 ?_
  obtain ⟨h1, e1, hF⟩ := bnd hF
  refine pw_pfi hC hR e1 fpX8_38 (Or.inl rfl) dX8_depend_2 (fun H locs hR => ?_)
  refine lv_aload_n hC.1 hC.2.1 dX8_depend_5 rfl (lv_at hl 0 rfl) ?_
  refine lv_iload_n hC.1 hC.2.1 dX8_depend_6 rfl (lv_at hl 1 rfl) ?_
  obtain ⟨q2, e2, hF⟩ := bnd hF
  obtain ⟨fs2, ho2⟩ := OX8_noTask e2
  refine pw_cVi (rest := []) hC hR lvX8_227 ho2 (CX8_noTask e2) ⟨rfl, rfl⟩ rfl hl.1 rfl ⟨Nat.le_of_ble_eq_true rfl, Nat.le_of_ble_eq_true rfl⟩ (Nat.le_of_ble_eq_true rfl) dX8_depend_7 ⟨Nat.zero_le _, Nat.zero_le _⟩ (fun H locs hR => ?_)
  refine pw_ifne hC 48 dX8_depend_10 (by decide) (fun hc => ?_) (fun hc => ?_)
  · rw [if_neg hc] at hF
    exact BX8_depend_48 hC hR (lv_sub hl [] rfl) hF
  · rw [if_pos hc] at hF
    refine lv_aload_n hC.1 hC.2.1 dX8_depend_13 rfl (lv_at hl 0 rfl) ?_
    refine lv_iload_n hC.1 hC.2.1 dX8_depend_14 rfl (lv_at hl 2 rfl) ?_
    refine pw_ifge hC 22 dX8_depend_15 (by decide) (fun hc => ?_) (fun hc => ?_)
    · rw [if_neg hc] at hF
      refine pw_iconst hC dX8_depend_22 ?_
      exact BX8_depend_23 hC hR (lv_sub hl [0, 1, 2] rfl) hF
    · rw [if_pos hc] at hF
      refine pw_iconst hC dX8_depend_18 ?_
      refine pw_goto hC 23 dX8_depend_19 (by decide) ?_
      exact BX8_depend_23 hC hR (lv_sub hl [0, 1, 2] rfl) hF
abbrev rmX8_cancel : Room := { frames := 2, cells := 0, slots := 0, locals := 45 }
def JX8_cancel_117 (h : PH) (v0 : Nat) (v1 : Int) (v2 : Int) (v3 : Int) (v4 : Int) : Option ((Int × PH) ⊕ (PH)) :=
  some (.inl ((v4 + -1), h))
set_option maxHeartbeats 4000000 in
set_option maxRecDepth 100000 in
theorem BX8_cancel_117 {h : PH} {v0 : Nat} {v1 : Int} {v2 : Int} {v3 : Int} {v4 : Int} (hC : Cx g p s m args meth c cX8_cancel 5 RX8 (some .int)) (hR : Rl g ad h s.heap H locs) (hl : lv_has ls 5 [(0, .ref (ad v0)), (1, .int (Int32.ofInt v1)), (2, .int (Int32.ofInt v2)), (3, .int (Int32.ofInt v3)), (4, .int (Int32.ofInt v4))]) {Q : State → Prop} {o : (Int × PH) ⊕ (PH)} (hF : JX8_cancel_117 h v0 v1 v2 v3 v4 = some o) (hK : Sum.elim (fun st : Int × PH => ∀ (H : Heap) (locs : List Loc) (ls : Array Slot), Rl g ad st.2 s.heap H locs → lv_has ls 5 [(0, .ref (ad v0)), (1, .int (Int32.ofInt v1)), (2, .int (Int32.ofInt v2)), (3, .int (Int32.ofInt v3)), (4, .int (Int32.ofInt st.1))] → W p l e rmX8_cancel s m args below meth c H locs 0 0 Q (F0 m 83 ls [])) (fun ex : PH => ∀ (H : Heap) (locs : List Loc) (ls : Array Slot), Rl g ad ex s.heap H locs → lv_has ls 5 [(0, .ref (ad v0)), (1, .int (Int32.ofInt v1)), (2, .int (Int32.ofInt v2)), (3, .int (Int32.ofInt v3))] → W p l e rmX8_cancel s m args below meth c H locs 0 0 Q (F0 m 123 ls [])) o) : W p l e rmX8_cancel s m args below meth c H locs 0 0 Q (F0 m 117 ls []) := by
  unfold JX8_cancel_117 at hF
  refine pw_iinc (lv' := [(4, .int (Int32.ofInt (v4 + -1))), (0, .ref (ad v0)), (1, .int (Int32.ofInt v1)), (2, .int (Int32.ofInt v2)), (3, .int (Int32.ofInt v3))]) hC hl 4 dX8_cancel_117 rfl (by decide) rfl (fun ls hl => ?_)
  refine pw_goto hC 83 dX8_cancel_120 (by decide) ?_
  cases hF
  exact hK _ _ _ hR (lv_sub hl [1, 2, 3, 4, 0] rfl)
def LX8_cancel_83 (v0 : Nat) (v1 : Int) (v2 : Int) (v3 : Int) (v4 : Int) (h : PH) : Option ((Int × PH) ⊕ (PH)) :=
  if w32 v4 < 0 then (
    some (.inr h)
  ) else (
    (gfr h 8 v0 8).bind fun x13 =>
    (FX8_core h v3).bind fun x14 =>
    (ald 0 h x13 ((x14 + 5) + v4)).bind fun x15 =>
    if w32 x15 = w32 v1 then (
      (gfr h 8 v0 8).bind fun x16 =>
      (FX8_takeOut h x16 v3 v4).bind fun q17 =>
      JX8_cancel_117 q17.2 v0 v1 v2 v3 v4
    ) else (
      JX8_cancel_117 h v0 v1 v2 v3 v4
    )
  )
set_option maxHeartbeats 4000000 in
set_option maxRecDepth 100000 in
theorem LRX8_cancel_83 {v0 : Nat} {v1 : Int} {v2 : Int} {v3 : Int} {Q : State → Prop} (hC : Cx g p s m args meth c cX8_cancel 5 RX8 (some .int)) : ∀ (n : Nat) (st : Int × PH) (ex : PH), lp (fun st : Int × PH => LX8_cancel_83 v0 v1 v2 v3 st.1 st.2) n st = some ex → (fun ex : PH => ∀ (H : Heap) (locs : List Loc) (ls : Array Slot), Rl g ad ex s.heap H locs → lv_has ls 5 [(0, .ref (ad v0)), (1, .int (Int32.ofInt v1)), (2, .int (Int32.ofInt v2)), (3, .int (Int32.ofInt v3))] → W p l e rmX8_cancel s m args below meth c H locs 0 0 Q (F0 m 123 ls [])) ex → ∀ (H : Heap) (locs : List Loc) (ls : Array Slot), Rl g ad st.2 s.heap H locs → lv_has ls 5 [(0, .ref (ad v0)), (1, .int (Int32.ofInt v1)), (2, .int (Int32.ofInt v2)), (3, .int (Int32.ofInt v3)), (4, .int (Int32.ofInt st.1))] → W p l e rmX8_cancel s m args below meth c H locs 0 0 Q (F0 m 83 ls []) := by
  refine lp_rule (Ph := (fun st : Int × PH => ∀ (H : Heap) (locs : List Loc) (ls : Array Slot), Rl g ad st.2 s.heap H locs → lv_has ls 5 [(0, .ref (ad v0)), (1, .int (Int32.ofInt v1)), (2, .int (Int32.ofInt v2)), (3, .int (Int32.ofInt v3)), (4, .int (Int32.ofInt st.1))] → W p l e rmX8_cancel s m args below meth c H locs 0 0 Q (F0 m 83 ls []))) (Px := (fun ex : PH => ∀ (H : Heap) (locs : List Loc) (ls : Array Slot), Rl g ad ex s.heap H locs → lv_has ls 5 [(0, .ref (ad v0)), (1, .int (Int32.ofInt v1)), (2, .int (Int32.ofInt v2)), (3, .int (Int32.ofInt v3))] → W p l e rmX8_cancel s m args below meth c H locs 0 0 Q (F0 m 123 ls []))) ?_
  rintro ⟨v4, h⟩ o hF hK H locs ls hR hl
  have hR : Rl g ad h s.heap H locs := hR
  have hl : lv_has ls 5 [(0, .ref (ad v0)), (1, .int (Int32.ofInt v1)), (2, .int (Int32.ofInt v2)), (3, .int (Int32.ofInt v3)), (4, .int (Int32.ofInt v4))] := hl
  have hF : LX8_cancel_83 v0 v1 v2 v3 v4 h = some o := hF
  unfold LX8_cancel_83 at hF
  refine lv_iload hC.1 hC.2.1 dX8_cancel_83 (lv_at hl 4 rfl) ?_
  refine pw_iflt hC 123 dX8_cancel_85 (by decide) (fun hc => ?_) (fun hc => ?_)
  · rw [if_pos hc] at hF
    cases hF
    exact hK _ _ _ hR (lv_sub hl [0, 1, 2, 3] rfl)
  · rw [if_neg hc] at hF
    refine lv_aload_n hC.1 hC.2.1 dX8_cancel_88 rfl (lv_at hl 0 rfl) ?_
    obtain ⟨x13, e13, hF⟩ := bnd hF
    refine pw_gfr hC hR e13 flX8_17 dX8_cancel_89 ?_
    refine lv_iload_n hC.1 hC.2.1 dX8_cancel_92 rfl (lv_at hl 3 rfl) ?_
    obtain ⟨x14, e14, hF⟩ := bnd hF
    refine pw_cSi (rest := [.ref (ad x13)]) hC hR lsX8_41 (CX8_core e14) ⟨rfl, rfl⟩ rfl hl.1 rfl ⟨Nat.le_of_ble_eq_true rfl, Nat.le_of_ble_eq_true rfl⟩ (Nat.le_of_ble_eq_true rfl) dX8_cancel_93 ⟨Nat.zero_le _, Nat.zero_le _⟩ (fun H locs hR => ?_)
    refine pw_iconst hC dX8_cancel_96 ?_
    refine pw_iadd hC dX8_cancel_97 ?_
    refine lv_iload hC.1 hC.2.1 dX8_cancel_98 (lv_at hl 4 rfl) ?_
    refine pw_iadd hC dX8_cancel_100 ?_
    obtain ⟨x15, e15, hF⟩ := bnd hF
    refine pw_iald hC hR e15 dX8_cancel_101 ?_
    refine lv_iload_n hC.1 hC.2.1 dX8_cancel_102 rfl (lv_at hl 1 rfl) ?_
    refine pw_icmpne hC 117 dX8_cancel_103 (by decide) (fun hc => ?_) (fun hc => ?_)
    · rw [if_neg hc] at hF
      exact BX8_cancel_117 hC hR (lv_sub hl [0, 1, 2, 3, 4] rfl) hF hK
    · rw [if_pos hc] at hF
      refine lv_aload_n hC.1 hC.2.1 dX8_cancel_106 rfl (lv_at hl 0 rfl) ?_
      obtain ⟨x16, e16, hF⟩ := bnd hF
      refine pw_gfr hC hR e16 flX8_17 dX8_cancel_107 ?_
      refine lv_iload_n hC.1 hC.2.1 dX8_cancel_110 rfl (lv_at hl 3 rfl) ?_
      refine lv_iload hC.1 hC.2.1 dX8_cancel_111 (lv_at hl 4 rfl) ?_
      obtain ⟨q17, e17, hF⟩ := bnd hF
      refine pw_cSi (rest := []) hC hR lsX8_210 (CX8_takeOut e17) ⟨rfl, rfl⟩ rfl hl.1 rfl ⟨Nat.le_of_ble_eq_true rfl, Nat.le_of_ble_eq_true rfl⟩ (Nat.le_of_ble_eq_true rfl) dX8_cancel_113 ⟨Nat.zero_le _, Nat.zero_le _⟩ (fun H locs hR => ?_)
      refine lv_pop hC.1 hC.2.1 dX8_cancel_116 rfl ?_
      exact BX8_cancel_117 hC hR (lv_sub hl [0, 1, 2, 3, 4] rfl) hF hK
def LX8_cancel_53 (v0 : Nat) (v1 : Int) (v2 : Int) (v3 : Int) (h : PH) : Option ((Int × PH) ⊕ (PH)) :=
  (gfr h 8 v0 8).bind fun x8 =>
  (ald 0 h x8 0).bind fun x9 =>
  if w32 v3 < w32 x9 then (
    if w32 v2 = w32 2 then (
      (gfr h 8 v0 8).bind fun x10 =>
      (FX8_core h v3).bind fun x11 =>
      (ald 0 h x10 (x11 + 4)).bind fun x12 =>
      (lp (fun st : Int × PH => LX8_cancel_83 v0 v1 v2 v3 st.1 st.2) FU ((x12 - 1), h)).bind fun ex18 =>
      some (.inl ((v3 + 1), ex18))
    ) else (
      some (.inr h)
    )
  ) else (
    some (.inr h)
  )
set_option maxHeartbeats 4000000 in
set_option maxRecDepth 100000 in
theorem LRX8_cancel_53 {v0 : Nat} {v1 : Int} {v2 : Int} {Q : State → Prop} (hC : Cx g p s m args meth c cX8_cancel 5 RX8 (some .int)) : ∀ (n : Nat) (st : Int × PH) (ex : PH), lp (fun st : Int × PH => LX8_cancel_53 v0 v1 v2 st.1 st.2) n st = some ex → (fun ex : PH => ∀ (H : Heap) (locs : List Loc) (ls : Array Slot), Rl g ad ex s.heap H locs → lv_has ls 5 [(0, .ref (ad v0)), (1, .int (Int32.ofInt v1)), (2, .int (Int32.ofInt v2))] → W p l e rmX8_cancel s m args below meth c H locs 0 0 Q (F0 m 129 ls [])) ex → ∀ (H : Heap) (locs : List Loc) (ls : Array Slot), Rl g ad st.2 s.heap H locs → lv_has ls 5 [(0, .ref (ad v0)), (1, .int (Int32.ofInt v1)), (2, .int (Int32.ofInt v2)), (3, .int (Int32.ofInt st.1))] → W p l e rmX8_cancel s m args below meth c H locs 0 0 Q (F0 m 53 ls []) := by
  refine lp_rule (Ph := (fun st : Int × PH => ∀ (H : Heap) (locs : List Loc) (ls : Array Slot), Rl g ad st.2 s.heap H locs → lv_has ls 5 [(0, .ref (ad v0)), (1, .int (Int32.ofInt v1)), (2, .int (Int32.ofInt v2)), (3, .int (Int32.ofInt st.1))] → W p l e rmX8_cancel s m args below meth c H locs 0 0 Q (F0 m 53 ls []))) (Px := (fun ex : PH => ∀ (H : Heap) (locs : List Loc) (ls : Array Slot), Rl g ad ex s.heap H locs → lv_has ls 5 [(0, .ref (ad v0)), (1, .int (Int32.ofInt v1)), (2, .int (Int32.ofInt v2))] → W p l e rmX8_cancel s m args below meth c H locs 0 0 Q (F0 m 129 ls []))) ?_
  rintro ⟨v3, h⟩ o hF hK H locs ls hR hl
  have hR : Rl g ad h s.heap H locs := hR
  have hl : lv_has ls 5 [(0, .ref (ad v0)), (1, .int (Int32.ofInt v1)), (2, .int (Int32.ofInt v2)), (3, .int (Int32.ofInt v3))] := hl
  have hF : LX8_cancel_53 v0 v1 v2 v3 h = some o := hF
  unfold LX8_cancel_53 at hF
  refine lv_iload_n hC.1 hC.2.1 dX8_cancel_53 rfl (lv_at hl 3 rfl) ?_
  refine lv_aload_n hC.1 hC.2.1 dX8_cancel_54 rfl (lv_at hl 0 rfl) ?_
  obtain ⟨x8, e8, hF⟩ := bnd hF
  refine pw_gfr hC hR e8 flX8_17 dX8_cancel_55 ?_
  refine pw_iconst hC dX8_cancel_58 ?_
  obtain ⟨x9, e9, hF⟩ := bnd hF
  refine pw_iald hC hR e9 dX8_cancel_59 ?_
  refine pw_icmpge hC 129 dX8_cancel_60 (by decide) (fun hc => ?_) (fun hc => ?_)
  · rw [if_neg hc] at hF
    cases hF
    exact hK _ _ _ hR (lv_sub hl [0, 1, 2] rfl)
  · rw [if_pos hc] at hF
    refine lv_iload_n hC.1 hC.2.1 dX8_cancel_63 rfl (lv_at hl 2 rfl) ?_
    refine pw_iconst hC dX8_cancel_64 ?_
    refine pw_icmpne hC 129 dX8_cancel_65 (by decide) (fun hc => ?_) (fun hc => ?_)
    · rw [if_neg hc] at hF
      cases hF
      exact hK _ _ _ hR (lv_sub hl [0, 1, 2] rfl)
    · rw [if_pos hc] at hF
      refine lv_aload_n hC.1 hC.2.1 dX8_cancel_68 rfl (lv_at hl 0 rfl) ?_
      obtain ⟨x10, e10, hF⟩ := bnd hF
      refine pw_gfr hC hR e10 flX8_17 dX8_cancel_69 ?_
      refine lv_iload_n hC.1 hC.2.1 dX8_cancel_72 rfl (lv_at hl 3 rfl) ?_
      obtain ⟨x11, e11, hF⟩ := bnd hF
      refine pw_cSi (rest := [.ref (ad x10)]) hC hR lsX8_41 (CX8_core e11) ⟨rfl, rfl⟩ rfl hl.1 rfl ⟨Nat.le_of_ble_eq_true rfl, Nat.le_of_ble_eq_true rfl⟩ (Nat.le_of_ble_eq_true rfl) dX8_cancel_73 ⟨Nat.zero_le _, Nat.zero_le _⟩ (fun H locs hR => ?_)
      refine pw_iconst hC dX8_cancel_76 ?_
      refine pw_iadd hC dX8_cancel_77 ?_
      obtain ⟨x12, e12, hF⟩ := bnd hF
      refine pw_iald hC hR e12 dX8_cancel_78 ?_
      refine pw_iconst hC dX8_cancel_79 ?_
      refine pw_isub hC dX8_cancel_80 ?_
      refine lv_istore (lv' := [(4, .int (Int32.ofInt (x12 - 1))), (0, .ref (ad v0)), (1, .int (Int32.ofInt v1)), (2, .int (Int32.ofInt v2)), (3, .int (Int32.ofInt v3))]) hC.1 hC.2.1 dX8_cancel_81 hl (by decide) rfl (fun ls hl => ?_)
      obtain ⟨ex18, e18, hF⟩ := bnd hF
      refine LRX8_cancel_83 hC FU _ ex18 e18 ?_ _ _ _ hR (lv_sub hl [1, 2, 3, 4, 0] rfl)
      intro H locs ls hR hl
      refine pw_iinc (lv' := [(3, .int (Int32.ofInt (v3 + 1))), (0, .ref (ad v0)), (1, .int (Int32.ofInt v1)), (2, .int (Int32.ofInt v2))]) hC hl 3 dX8_cancel_123 rfl (by decide) rfl (fun ls hl => ?_)
      refine pw_goto hC 53 dX8_cancel_126 (by decide) ?_
      cases hF
      exact hK _ _ _ hR (lv_sub hl [1, 2, 3, 0] rfl)
def JX8_cancel_129 (h : PH) (v0 : Nat) (v1 : Int) (v2 : Int) : Option (Int × PH) :=
  (gfr h 8 v0 8).bind fun x20 =>
  (FX8_task h v1).bind fun x21 =>
  (ast 0 h x20 (x21 + 4) 5).bind fun h22 =>
  some (v2, h22)
set_option maxHeartbeats 4000000 in
set_option maxRecDepth 100000 in
theorem BX8_cancel_129 {h : PH} {v0 : Nat} {v1 : Int} {v2 : Int} (hC : Cx g p s m args meth c cX8_cancel 5 RX8 (some .int)) (hR : Rl g ad h s.heap H locs) (hl : lv_has ls 5 [(0, .ref (ad v0)), (1, .int (Int32.ofInt v1)), (2, .int (Int32.ofInt v2))]) {q : Int × PH} (hF : JX8_cancel_129 h v0 v1 v2 = some q) : W p l e rmX8_cancel s m args below meth c H locs 0 0 (MQ below (QcN g ad q.2 (some (.int (Int32.ofInt q.1)))) args s 0 0 (gA g)) (F0 m 129 ls []) := by
  unfold JX8_cancel_129 at hF
  refine lv_aload_n hC.1 hC.2.1 dX8_cancel_129 rfl (lv_at hl 0 rfl) ?_
  obtain ⟨x20, e20, hF⟩ := bnd hF
  refine pw_gfr hC hR e20 flX8_17 dX8_cancel_130 ?_
  refine lv_iload_n hC.1 hC.2.1 dX8_cancel_133 rfl (lv_at hl 1 rfl) ?_
  obtain ⟨x21, e21, hF⟩ := bnd hF
  refine pw_cSi (rest := [.ref (ad x20)]) hC hR lsX8_136 (CX8_task e21) ⟨rfl, rfl⟩ rfl hl.1 rfl ⟨Nat.le_of_ble_eq_true rfl, Nat.le_of_ble_eq_true rfl⟩ (Nat.le_of_ble_eq_true rfl) dX8_cancel_134 ⟨Nat.zero_le _, Nat.zero_le _⟩ (fun H locs hR => ?_)
  refine pw_iconst hC dX8_cancel_137 ?_
  refine pw_iadd hC dX8_cancel_138 ?_
  refine pw_iconst hC dX8_cancel_139 ?_
  obtain ⟨h22, e22, hF⟩ := bnd hF
  refine pw_iast hC hR e22 dX8_cancel_140 (fun H locs hR => ?_)
  refine lv_iload_n hC.1 hC.2.1 dX8_cancel_141 rfl (lv_at hl 2 rfl) ?_
  cases hF
  exact pw_iret hC hR dX8_cancel_142
def JX8_cancel_38 (h : PH) (v0 : Nat) (v1 : Int) (v2 : Int) (s0 : Int) (s1 : Nat) : Option (Int × PH) :=
  (FX8_fails h s1 s0 2).bind fun q6 =>
  if w32 q6.1 = 0 then (
    (FX8_remember q6.2 v0).bind fun h7 =>
    (lp (fun st : Int × PH => LX8_cancel_53 v0 v1 v2 st.1 st.2) FU (0, h7)).bind fun ex19 =>
    JX8_cancel_129 ex19 v0 v1 v2
  ) else (
    some (0, q6.2)
  )
set_option maxHeartbeats 4000000 in
set_option maxRecDepth 100000 in
theorem BX8_cancel_38 {h : PH} {v0 : Nat} {v1 : Int} {v2 : Int} {s0 : Int} {s1 : Nat} (hC : Cx g p s m args meth c cX8_cancel 5 RX8 (some .int)) (hR : Rl g ad h s.heap H locs) (hl : lv_has ls 5 [(0, .ref (ad v0)), (1, .int (Int32.ofInt v1)), (2, .int (Int32.ofInt v2))]) {q : Int × PH} (hF : JX8_cancel_38 h v0 v1 v2 s0 s1 = some q) : W p l e rmX8_cancel s m args below meth c H locs 0 0 (MQ below (QcN g ad q.2 (some (.int (Int32.ofInt q.1)))) args s 0 0 (gA g)) (F0 m 38 ls [.int (Int32.ofInt s0), .ref (ad s1)]) := by
  unfold JX8_cancel_38 at hF
  refine pw_iconst hC dX8_cancel_38 ?_
  obtain ⟨q6, e6, hF⟩ := bnd hF
  obtain ⟨fs6, ho6⟩ := OX8_fails e6
  refine pw_cVi (rest := []) hC hR lvX8_162 ho6 (CX8_fails e6) ⟨rfl, rfl⟩ rfl hl.1 rfl ⟨Nat.le_of_ble_eq_true rfl, Nat.le_of_ble_eq_true rfl⟩ (Nat.le_of_ble_eq_true rfl) dX8_cancel_39 ⟨Nat.zero_le _, Nat.zero_le _⟩ (fun H locs hR => ?_)
  refine pw_ifeq hC 47 dX8_cancel_42 (by decide) (fun hc => ?_) (fun hc => ?_)
  · rw [if_pos hc] at hF
    refine lv_aload_n hC.1 hC.2.1 dX8_cancel_47 rfl (lv_at hl 0 rfl) ?_
    obtain ⟨h7, e7, hF⟩ := bnd hF
    obtain ⟨fs7, ho7⟩ := OX8_remember e7
    refine pw_cVv (rest := []) hC hR lvX8_175 ho7 (CX8_remember e7) ⟨rfl, rfl⟩ rfl hl.1 rfl ⟨Nat.le_of_ble_eq_true rfl, Nat.le_of_ble_eq_true rfl⟩ (Nat.le_of_ble_eq_true rfl) dX8_cancel_48 ⟨Nat.zero_le _, Nat.zero_le _⟩ (fun H locs hR => ?_)
    refine pw_iconst hC dX8_cancel_51 ?_
    refine lv_istore_n (lv' := [(3, .int (Int32.ofInt 0)), (0, .ref (ad v0)), (1, .int (Int32.ofInt v1)), (2, .int (Int32.ofInt v2))]) hC.1 hC.2.1 dX8_cancel_52 rfl hl (by decide) rfl (fun ls hl => ?_)
    obtain ⟨ex19, e19, hF⟩ := bnd hF
    refine LRX8_cancel_53 hC FU _ ex19 e19 ?_ _ _ _ hR (lv_sub hl [1, 2, 3, 0] rfl)
    intro H locs ls hR hl
    exact BX8_cancel_129 hC hR (lv_sub hl [0, 1, 2] rfl) hF
  · rw [if_neg hc] at hF
    refine pw_iconst hC dX8_cancel_45 ?_
    cases hF
    exact pw_iret hC hR dX8_cancel_46
def FX8_cancel (h : PH) (v0 : Nat) (v1 : Int) : Option (Int × PH) :=
  (isO h 8 v0).bind fun _ =>
  (pfi h 8 v0 0 0).bind fun h1 =>
  (FX8_noTask h1 v0 v1).bind fun q2 =>
  if w32 q2.1 = 0 then (
    (gfr q2.2 8 v0 8).bind fun x3 =>
    (FX8_task q2.2 v1).bind fun x4 =>
    (ald 0 q2.2 x3 (x4 + 4)).bind fun x5 =>
    if w32 x5 < w32 3 then (
      JX8_cancel_38 q2.2 v0 v1 x5 0 v0
    ) else (
      JX8_cancel_38 q2.2 v0 v1 x5 1 v0
    )
  ) else (
    some (0, q2.2)
  )
theorem OX8_cancel {h : PH} {v0 : Nat} {v1 : Int} {q : Int × PH} (hF : FX8_cancel h v0 v1 = some q) : ∃ fs : List PV, h[v0]? = some (.inr (8, fs)) := by
  unfold FX8_cancel at hF
  obtain ⟨u0, e0, -⟩ := bnd hF
  exact isO_spec e0
set_option maxHeartbeats 4000000 in
set_option maxRecDepth 100000 in
theorem CX8_cancel {g : GP} {l : Launch} {ad : Nat → Nat} {h : PH} {v0 : Nat} {v1 : Int} {q : Int × PH} (hF : FX8_cancel h v0 v1 = some q) : CN g l yX8_cancel cX8_cancel 5 (some .int) rmX8_cancel ad h [.ref (ad v0), .int (Int32.ofInt v1)] (some (.int (Int32.ofInt q.1))) q.2 := by
  refine pw_met (by decide) (Nat.le_of_ble_eq_true rfl) ?_
  intro p e s m args below meth c ls hC hN hR hl
  have hl : lv_has ls 5 [(0, .ref (ad v0)), (1, .int (Int32.ofInt v1))] := hl
  unfold FX8_cancel at hF
  obtain ⟨u0, e0, hF⟩ := bnd hF
  refine lv_aload_n hC.1 hC.2.1 dX8_cancel_0 rfl (lv_at hl 0 rfl) ?_
  refine pw_iconst hC dX8_cancel_1 ?_
  obtain ⟨h1, e1, hF⟩ := bnd hF
  refine pw_pfi hC hR e1 fpX8_38 (Or.inl rfl) dX8_cancel_2 (fun H locs hR => ?_)
  refine lv_aload_n hC.1 hC.2.1 dX8_cancel_5 rfl (lv_at hl 0 rfl) ?_
  refine lv_iload_n hC.1 hC.2.1 dX8_cancel_6 rfl (lv_at hl 1 rfl) ?_
  obtain ⟨q2, e2, hF⟩ := bnd hF
  obtain ⟨fs2, ho2⟩ := OX8_noTask e2
  refine pw_cVi (rest := []) hC hR lvX8_227 ho2 (CX8_noTask e2) ⟨rfl, rfl⟩ rfl hl.1 rfl ⟨Nat.le_of_ble_eq_true rfl, Nat.le_of_ble_eq_true rfl⟩ (Nat.le_of_ble_eq_true rfl) dX8_cancel_7 ⟨Nat.zero_le _, Nat.zero_le _⟩ (fun H locs hR => ?_)
  refine pw_ifeq hC 15 dX8_cancel_10 (by decide) (fun hc => ?_) (fun hc => ?_)
  · rw [if_pos hc] at hF
    refine lv_aload_n hC.1 hC.2.1 dX8_cancel_15 rfl (lv_at hl 0 rfl) ?_
    obtain ⟨x3, e3, hF⟩ := bnd hF
    refine pw_gfr hC hR e3 flX8_17 dX8_cancel_16 ?_
    refine lv_iload_n hC.1 hC.2.1 dX8_cancel_19 rfl (lv_at hl 1 rfl) ?_
    obtain ⟨x4, e4, hF⟩ := bnd hF
    refine pw_cSi (rest := [.ref (ad x3)]) hC hR lsX8_136 (CX8_task e4) ⟨rfl, rfl⟩ rfl hl.1 rfl ⟨Nat.le_of_ble_eq_true rfl, Nat.le_of_ble_eq_true rfl⟩ (Nat.le_of_ble_eq_true rfl) dX8_cancel_20 ⟨Nat.zero_le _, Nat.zero_le _⟩ (fun H locs hR => ?_)
    refine pw_iconst hC dX8_cancel_23 ?_
    refine pw_iadd hC dX8_cancel_24 ?_
    obtain ⟨x5, e5, hF⟩ := bnd hF
    refine pw_iald hC hR e5 dX8_cancel_25 ?_
    refine lv_istore_n (lv' := [(2, .int (Int32.ofInt x5)), (0, .ref (ad v0)), (1, .int (Int32.ofInt v1))]) hC.1 hC.2.1 dX8_cancel_26 rfl hl (by decide) rfl (fun ls hl => ?_)
    refine lv_aload_n hC.1 hC.2.1 dX8_cancel_27 rfl (lv_at hl 1 rfl) ?_
    refine lv_iload_n hC.1 hC.2.1 dX8_cancel_28 rfl (lv_at hl 0 rfl) ?_
    refine pw_iconst hC dX8_cancel_29 ?_
    refine pw_icmplt hC 37 dX8_cancel_30 (by decide) (fun hc => ?_) (fun hc => ?_)
    · rw [if_pos hc] at hF
      refine pw_iconst hC dX8_cancel_37 ?_
      exact BX8_cancel_38 hC hR (lv_sub hl [1, 2, 0] rfl) hF
    · rw [if_neg hc] at hF
      refine pw_iconst hC dX8_cancel_33 ?_
      refine pw_goto hC 38 dX8_cancel_34 (by decide) ?_
      exact BX8_cancel_38 hC hR (lv_sub hl [1, 2, 0] rfl) hF
  · rw [if_neg hc] at hF
    refine pw_iconst hC dX8_cancel_13 ?_
    cases hF
    exact pw_iret hC hR dX8_cancel_14
end
