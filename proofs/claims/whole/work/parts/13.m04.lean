section
variable {p : Program} {l : Launch} {e : Env} {s : State} {m : MethodId} {args : Array Value} {below : List Frame} {meth : Method} {c : Code} {H : Heap} {locs : List Loc} {ls : Array Slot} {g : GP} {ad : Nat → Nat}
abbrev rmX7_clock : Room := { frames := 0, cells := 0, slots := 0, locals := 0 }
def FX7_clock (h : PH) (v0 : Nat) : Option (Int) :=
  (isO h 7 v0).bind fun _ =>
  (gfr h 7 v0 1).bind fun x1 =>
  (gfi h 3 x1 3).bind fun x2 =>
  some x2
theorem OX7_clock {h : PH} {v0 : Nat} {q : Int} (hF : FX7_clock h v0 = some q) : ∃ fs : List PV, h[v0]? = some (.inr (7, fs)) := by
  unfold FX7_clock at hF
  obtain ⟨u0, e0, -⟩ := bnd hF
  exact isO_spec e0
set_option maxHeartbeats 4000000 in
set_option maxRecDepth 100000 in
theorem CX7_clock {g : GP} {l : Launch} {ad : Nat → Nat} {h : PH} {v0 : Nat} {q : Int} (hF : FX7_clock h v0 = some q) : CN g l yX7_clock cX7_clock 1 (some .int) rmX7_clock ad h [.ref (ad v0)] (some (.int (Int32.ofInt q))) h := by
  refine pw_met (by decide) (Nat.le_of_ble_eq_true rfl) ?_
  intro p e s m args below meth c ls hC hN hR hl
  have hl : lv_has ls 1 [(0, .ref (ad v0))] := hl
  unfold FX7_clock at hF
  obtain ⟨u0, e0, hF⟩ := bnd hF
  refine lv_aload_n hC.1 hC.2.1 dX7_clock_0 rfl (lv_at hl 0 rfl) ?_
  obtain ⟨x1, e1, hF⟩ := bnd hF
  refine pw_gfr hC hR e1 flX7_19 dX7_clock_1 ?_
  obtain ⟨x2, e2, hF⟩ := bnd hF
  refine pw_gfi hC hR e2 flX7_93 dX7_clock_4 ?_
  cases hF
  exact pw_iret hC hR dX7_clock_7
abbrev rmX7_finished : Room := { frames := 2, cells := 0, slots := 0, locals := 42 }
def FX7_finished (h : PH) (v0 : Nat) : Option (Int) :=
  (isO h 7 v0).bind fun _ =>
  (gfr h 7 v0 1).bind fun x1 =>
  (gfr h 3 x1 0).bind fun x2 =>
  (FX6_finishedTotal h x2).bind fun x3 =>
  some x3
theorem OX7_finished {h : PH} {v0 : Nat} {q : Int} (hF : FX7_finished h v0 = some q) : ∃ fs : List PV, h[v0]? = some (.inr (7, fs)) := by
  unfold FX7_finished at hF
  obtain ⟨u0, e0, -⟩ := bnd hF
  exact isO_spec e0
set_option maxHeartbeats 4000000 in
set_option maxRecDepth 100000 in
theorem CX7_finished {g : GP} {l : Launch} {ad : Nat → Nat} {h : PH} {v0 : Nat} {q : Int} (hF : FX7_finished h v0 = some q) : CN g l yX7_finished cX7_finished 1 (some .int) rmX7_finished ad h [.ref (ad v0)] (some (.int (Int32.ofInt q))) h := by
  refine pw_met (by decide) (Nat.le_of_ble_eq_true rfl) ?_
  intro p e s m args below meth c ls hC hN hR hl
  have hl : lv_has ls 1 [(0, .ref (ad v0))] := hl
  unfold FX7_finished at hF
  obtain ⟨u0, e0, hF⟩ := bnd hF
  refine lv_aload_n hC.1 hC.2.1 dX7_finished_0 rfl (lv_at hl 0 rfl) ?_
  obtain ⟨x1, e1, hF⟩ := bnd hF
  refine pw_gfr hC hR e1 flX7_19 dX7_finished_1 ?_
  obtain ⟨x2, e2, hF⟩ := bnd hF
  refine pw_gfr hC hR e2 flX7_74 dX7_finished_4 ?_
  obtain ⟨x3, e3, hF⟩ := bnd hF
  obtain ⟨fs3, ho3⟩ := OX6_finishedTotal e3
  refine pw_cVi (rest := []) hC hR lvX7_156 ho3 (CX6_finishedTotal e3) ⟨rfl, rfl⟩ rfl hl.1 rfl ⟨Nat.le_of_ble_eq_true rfl, Nat.le_of_ble_eq_true rfl⟩ (Nat.le_of_ble_eq_true rfl) dX7_finished_7 ⟨Nat.zero_le _, Nat.zero_le _⟩ (fun H locs hR => ?_)
  cases hF
  exact pw_iret hC hR dX7_finished_10
abbrev rmX7_criticalPath : Room := { frames := 3, cells := 0, slots := 0, locals := 71 }
def FX7_criticalPath (h : PH) (v0 : Nat) : Option (Int × PH) :=
  (isO h 7 v0).bind fun _ =>
  (gfr h 7 v0 1).bind fun x1 =>
  (gfr h 3 x1 0).bind fun x2 =>
  (FX6_longestChain h x2).bind fun q3 =>
  some (q3.1, q3.2)
theorem OX7_criticalPath {h : PH} {v0 : Nat} {q : Int × PH} (hF : FX7_criticalPath h v0 = some q) : ∃ fs : List PV, h[v0]? = some (.inr (7, fs)) := by
  unfold FX7_criticalPath at hF
  obtain ⟨u0, e0, -⟩ := bnd hF
  exact isO_spec e0
set_option maxHeartbeats 4000000 in
set_option maxRecDepth 100000 in
theorem CX7_criticalPath {g : GP} {l : Launch} {ad : Nat → Nat} {h : PH} {v0 : Nat} {q : Int × PH} (hF : FX7_criticalPath h v0 = some q) : CN g l yX7_criticalPath cX7_criticalPath 1 (some .int) rmX7_criticalPath ad h [.ref (ad v0)] (some (.int (Int32.ofInt q.1))) q.2 := by
  refine pw_met (by decide) (Nat.le_of_ble_eq_true rfl) ?_
  intro p e s m args below meth c ls hC hN hR hl
  have hl : lv_has ls 1 [(0, .ref (ad v0))] := hl
  unfold FX7_criticalPath at hF
  obtain ⟨u0, e0, hF⟩ := bnd hF
  refine lv_aload_n hC.1 hC.2.1 dX7_criticalPath_0 rfl (lv_at hl 0 rfl) ?_
  obtain ⟨x1, e1, hF⟩ := bnd hF
  refine pw_gfr hC hR e1 flX7_19 dX7_criticalPath_1 ?_
  obtain ⟨x2, e2, hF⟩ := bnd hF
  refine pw_gfr hC hR e2 flX7_74 dX7_criticalPath_4 ?_
  obtain ⟨q3, e3, hF⟩ := bnd hF
  obtain ⟨fs3, ho3⟩ := OX6_longestChain e3
  refine pw_cVi (rest := []) hC hR lvX7_159 ho3 (CX6_longestChain e3) ⟨rfl, rfl⟩ rfl hl.1 rfl ⟨Nat.le_of_ble_eq_true rfl, Nat.le_of_ble_eq_true rfl⟩ (Nat.le_of_ble_eq_true rfl) dX7_criticalPath_7 ⟨Nat.zero_le _, Nat.zero_le _⟩ (fun H locs hR => ?_)
  cases hF
  exact pw_iret hC hR dX7_criticalPath_10
abbrev rmX7_undo : Room := { frames := 4, cells := 0, slots := 0, locals := 128 }
def FX7_undo (h : PH) (v0 : Nat) : Option (Int × PH) :=
  (isO h 7 v0).bind fun _ =>
  (gfr h 7 v0 3).bind fun x1 =>
  (gfr h 7 v0 1).bind fun x2 =>
  (FX2_restoreLatest h x1 x2).bind fun q3 =>
  some (q3.1, q3.2)
theorem OX7_undo {h : PH} {v0 : Nat} {q : Int × PH} (hF : FX7_undo h v0 = some q) : ∃ fs : List PV, h[v0]? = some (.inr (7, fs)) := by
  unfold FX7_undo at hF
  obtain ⟨u0, e0, -⟩ := bnd hF
  exact isO_spec e0
set_option maxHeartbeats 4000000 in
set_option maxRecDepth 100000 in
theorem CX7_undo {g : GP} {l : Launch} {ad : Nat → Nat} {h : PH} {v0 : Nat} {q : Int × PH} (hF : FX7_undo h v0 = some q) : CN g l yX7_undo cX7_undo 1 (some .int) rmX7_undo ad h [.ref (ad v0)] (some (.int (Int32.ofInt q.1))) q.2 := by
  refine pw_met (by decide) (Nat.le_of_ble_eq_true rfl) ?_
  intro p e s m args below meth c ls hC hN hR hl
  have hl : lv_has ls 1 [(0, .ref (ad v0))] := hl
  unfold FX7_undo at hF
  obtain ⟨u0, e0, hF⟩ := bnd hF
  refine lv_aload_n hC.1 hC.2.1 dX7_undo_0 rfl (lv_at hl 0 rfl) ?_
  obtain ⟨x1, e1, hF⟩ := bnd hF
  refine pw_gfr hC hR e1 flX7_29 dX7_undo_1 ?_
  refine lv_aload_n hC.1 hC.2.1 dX7_undo_4 rfl (lv_at hl 0 rfl) ?_
  obtain ⟨x2, e2, hF⟩ := bnd hF
  refine pw_gfr hC hR e2 flX7_19 dX7_undo_5 ?_
  obtain ⟨q3, e3, hF⟩ := bnd hF
  obtain ⟨fs3, ho3⟩ := OX2_restoreLatest e3
  refine pw_cVi (rest := []) hC hR lvX7_216 ho3 (CX2_restoreLatest e3) ⟨rfl, rfl⟩ rfl hl.1 rfl ⟨Nat.le_of_ble_eq_true rfl, Nat.le_of_ble_eq_true rfl⟩ (Nat.le_of_ble_eq_true rfl) dX7_undo_8 ⟨Nat.zero_le _, Nat.zero_le _⟩ (fun H locs hR => ?_)
  cases hF
  exact pw_iret hC hR dX7_undo_11
abbrev rmX7_checksum : Room := { frames := 2, cells := 0, slots := 0, locals := 48 }
def LX7_checksum_44 (h : PH) (v1 : Nat) (v2 : Nat) (v5 : Int) (v3 : Int) (v6 : Int) : Option ((Int × Int) ⊕ (Int)) :=
  (gfi h 6 v1 0).bind fun x9 =>
  if w32 v6 < w32 x9 then (
    (gfr h 6 v1 2).bind fun x10 =>
    (ald 0 h x10 v6).bind fun x11 =>
    (gfr h 6 v1 4).bind fun x12 =>
    (ald 0 h x12 v6).bind fun x13 =>
    (FX6_counterOf h v1 v6 v5).bind fun x14 =>
    some (.inl (((31 * ((31 * ((31 * v3) + (w32 x11))) + (w32 x13))) + (w32 x14)), (v6 + 1)))
  ) else (
    some (.inr v3)
  )
set_option maxHeartbeats 4000000 in
set_option maxRecDepth 100000 in
theorem LRX7_checksum_44 {h : PH} {v1 : Nat} {v2 : Nat} {v5 : Int} {Q : State → Prop} (hC : Cx g p s m args meth c cX7_checksum 8 RX7 (some .long)) : ∀ (n : Nat) (st : Int × Int) (ex : Int), lp (fun st : Int × Int => LX7_checksum_44 h v1 v2 v5 st.1 st.2) n st = some ex → (fun ex : Int => ∀ (H : Heap) (locs : List Loc) (ls : Array Slot), Rl g ad h s.heap H locs → lv_has ls 8 [(2, .ref (ad v2)), (3, .long (Int64.ofInt ex))] → W p l e rmX7_checksum s m args below meth c H locs 0 0 Q (F0 m 105 ls [])) ex → ∀ (H : Heap) (locs : List Loc) (ls : Array Slot), Rl g ad h s.heap H locs → lv_has ls 8 [(1, .ref (ad v1)), (2, .ref (ad v2)), (3, .long (Int64.ofInt st.1)), (5, .int (Int32.ofInt v5)), (6, .int (Int32.ofInt st.2))] → W p l e rmX7_checksum s m args below meth c H locs 0 0 Q (F0 m 44 ls []) := by
  refine lp_rule (Ph := (fun st : Int × Int => ∀ (H : Heap) (locs : List Loc) (ls : Array Slot), Rl g ad h s.heap H locs → lv_has ls 8 [(1, .ref (ad v1)), (2, .ref (ad v2)), (3, .long (Int64.ofInt st.1)), (5, .int (Int32.ofInt v5)), (6, .int (Int32.ofInt st.2))] → W p l e rmX7_checksum s m args below meth c H locs 0 0 Q (F0 m 44 ls []))) (Px := (fun ex : Int => ∀ (H : Heap) (locs : List Loc) (ls : Array Slot), Rl g ad h s.heap H locs → lv_has ls 8 [(2, .ref (ad v2)), (3, .long (Int64.ofInt ex))] → W p l e rmX7_checksum s m args below meth c H locs 0 0 Q (F0 m 105 ls []))) ?_
  rintro ⟨v3, v6⟩ o hF hK H locs ls hR hl
  have hR : Rl g ad h s.heap H locs := hR
  have hl : lv_has ls 8 [(1, .ref (ad v1)), (2, .ref (ad v2)), (3, .long (Int64.ofInt v3)), (5, .int (Int32.ofInt v5)), (6, .int (Int32.ofInt v6))] := hl
  have hF : LX7_checksum_44 h v1 v2 v5 v3 v6 = some o := hF
  unfold LX7_checksum_44 at hF
  refine lv_iload hC.1 hC.2.1 dX7_checksum_44 (lv_at hl 4 rfl) ?_
  refine lv_aload_n hC.1 hC.2.1 dX7_checksum_46 rfl (lv_at hl 0 rfl) ?_
  obtain ⟨x9, e9, hF⟩ := bnd hF
  refine pw_gfi hC hR e9 flX7_78 dX7_checksum_47 ?_
  refine pw_icmpge hC 105 dX7_checksum_50 (by decide) (fun hc => ?_) (fun hc => ?_)
  · rw [if_neg hc] at hF
    cases hF
    exact hK _ _ _ hR (lv_sub hl [1, 2] rfl)
  · rw [if_pos hc] at hF
    refine pw_ldc2 hC 31 kcX7_220 dX7_checksum_53 ?_
    refine lv_lload_n hC.1 hC.2.1 dX7_checksum_56 rfl (lv_at hl 2 rfl) ?_
    refine pw_lmul hC dX7_checksum_57 ?_
    refine lv_aload_n hC.1 hC.2.1 dX7_checksum_58 rfl (lv_at hl 0 rfl) ?_
    obtain ⟨x10, e10, hF⟩ := bnd hF
    refine pw_gfr hC hR e10 flX7_99 dX7_checksum_59 ?_
    refine lv_iload hC.1 hC.2.1 dX7_checksum_62 (lv_at hl 4 rfl) ?_
    obtain ⟨x11, e11, hF⟩ := bnd hF
    refine pw_iald hC hR e11 dX7_checksum_64 ?_
    refine pw_i2l hC dX7_checksum_65 ?_
    refine pw_ladd hC dX7_checksum_66 ?_
    refine lv_lstore_n (lv' := [(3, .long (Int64.ofInt ((31 * v3) + (w32 x11)))), (1, .ref (ad v1)), (2, .ref (ad v2)), (5, .int (Int32.ofInt v5)), (6, .int (Int32.ofInt v6))]) hC.1 hC.2.1 dX7_checksum_67 rfl hl (by decide) rfl (fun ls hl => ?_)
    refine pw_ldc2 hC 31 kcX7_220 dX7_checksum_68 ?_
    refine lv_lload_n hC.1 hC.2.1 dX7_checksum_71 rfl (lv_at hl 0 rfl) ?_
    refine pw_lmul hC dX7_checksum_72 ?_
    refine lv_aload_n hC.1 hC.2.1 dX7_checksum_73 rfl (lv_at hl 1 rfl) ?_
    obtain ⟨x12, e12, hF⟩ := bnd hF
    refine pw_gfr hC hR e12 flX7_111 dX7_checksum_74 ?_
    refine lv_iload hC.1 hC.2.1 dX7_checksum_77 (lv_at hl 4 rfl) ?_
    obtain ⟨x13, e13, hF⟩ := bnd hF
    refine pw_iald hC hR e13 dX7_checksum_79 ?_
    refine pw_i2l hC dX7_checksum_80 ?_
    refine pw_ladd hC dX7_checksum_81 ?_
    refine lv_lstore_n (lv' := [(3, .long (Int64.ofInt ((31 * ((31 * v3) + (w32 x11))) + (w32 x13)))), (1, .ref (ad v1)), (2, .ref (ad v2)), (5, .int (Int32.ofInt v5)), (6, .int (Int32.ofInt v6))]) hC.1 hC.2.1 dX7_checksum_82 rfl hl (by decide) rfl (fun ls hl => ?_)
    refine pw_ldc2 hC 31 kcX7_220 dX7_checksum_83 ?_
    refine lv_lload_n hC.1 hC.2.1 dX7_checksum_86 rfl (lv_at hl 0 rfl) ?_
    refine pw_lmul hC dX7_checksum_87 ?_
    refine lv_aload_n hC.1 hC.2.1 dX7_checksum_88 rfl (lv_at hl 1 rfl) ?_
    refine lv_iload hC.1 hC.2.1 dX7_checksum_89 (lv_at hl 4 rfl) ?_
    refine lv_iload hC.1 hC.2.1 dX7_checksum_91 (lv_at hl 3 rfl) ?_
    obtain ⟨x14, e14, hF⟩ := bnd hF
    obtain ⟨fs14, ho14⟩ := OX6_counterOf e14
    refine pw_cVi (rest := [.long (Int64.ofInt (31 * ((31 * ((31 * v3) + (w32 x11))) + (w32 x13))))]) hC hR lvX7_107 ho14 (CX6_counterOf e14) ⟨rfl, rfl⟩ rfl hl.1 rfl ⟨Nat.le_of_ble_eq_true rfl, Nat.le_of_ble_eq_true rfl⟩ (Nat.le_of_ble_eq_true rfl) dX7_checksum_93 ⟨Nat.zero_le _, Nat.zero_le _⟩ (fun H locs hR => ?_)
    refine pw_i2l hC dX7_checksum_96 ?_
    refine pw_ladd hC dX7_checksum_97 ?_
    refine lv_lstore_n (lv' := [(3, .long (Int64.ofInt ((31 * ((31 * ((31 * v3) + (w32 x11))) + (w32 x13))) + (w32 x14)))), (1, .ref (ad v1)), (2, .ref (ad v2)), (5, .int (Int32.ofInt v5)), (6, .int (Int32.ofInt v6))]) hC.1 hC.2.1 dX7_checksum_98 rfl hl (by decide) rfl (fun ls hl => ?_)
    refine pw_iinc (lv' := [(6, .int (Int32.ofInt (v6 + 1))), (3, .long (Int64.ofInt ((31 * ((31 * ((31 * v3) + (w32 x11))) + (w32 x13))) + (w32 x14)))), (1, .ref (ad v1)), (2, .ref (ad v2)), (5, .int (Int32.ofInt v5))]) hC hl 4 dX7_checksum_99 rfl (by decide) rfl (fun ls hl => ?_)
    refine pw_goto hC 44 dX7_checksum_102 (by decide) ?_
    cases hF
    exact hK _ _ _ hR (lv_sub hl [2, 3, 1, 4, 0] rfl)
def LX7_checksum_120 (h : PH) (v2 : Nat) (v6 : Int) (v3 : Int) (v7 : Int) : Option ((Int × Int) ⊕ (Int)) :=
  (gfr h 0 v2 4).bind fun x17 =>
  (ald 0 h x17 v6).bind fun x18 =>
  if w32 v7 < w32 x18 then (
    (gfr h 0 v2 3).bind fun x19 =>
    (ald 0 h x19 ((v6 * 8) + v7)).bind fun x20 =>
    some (.inl (((31 * v3) + (w32 x20)), (v7 + 1)))
  ) else (
    some (.inr v3)
  )
set_option maxHeartbeats 4000000 in
set_option maxRecDepth 100000 in
theorem LRX7_checksum_120 {h : PH} {v2 : Nat} {v6 : Int} {Q : State → Prop} (hC : Cx g p s m args meth c cX7_checksum 8 RX7 (some .long)) : ∀ (n : Nat) (st : Int × Int) (ex : Int), lp (fun st : Int × Int => LX7_checksum_120 h v2 v6 st.1 st.2) n st = some ex → (fun ex : Int => ∀ (H : Heap) (locs : List Loc) (ls : Array Slot), Rl g ad h s.heap H locs → lv_has ls 8 [(2, .ref (ad v2)), (3, .long (Int64.ofInt ex)), (6, .int (Int32.ofInt v6))] → W p l e rmX7_checksum s m args below meth c H locs 0 0 Q (F0 m 159 ls [])) ex → ∀ (H : Heap) (locs : List Loc) (ls : Array Slot), Rl g ad h s.heap H locs → lv_has ls 8 [(2, .ref (ad v2)), (3, .long (Int64.ofInt st.1)), (6, .int (Int32.ofInt v6)), (7, .int (Int32.ofInt st.2))] → W p l e rmX7_checksum s m args below meth c H locs 0 0 Q (F0 m 120 ls []) := by
  refine lp_rule (Ph := (fun st : Int × Int => ∀ (H : Heap) (locs : List Loc) (ls : Array Slot), Rl g ad h s.heap H locs → lv_has ls 8 [(2, .ref (ad v2)), (3, .long (Int64.ofInt st.1)), (6, .int (Int32.ofInt v6)), (7, .int (Int32.ofInt st.2))] → W p l e rmX7_checksum s m args below meth c H locs 0 0 Q (F0 m 120 ls []))) (Px := (fun ex : Int => ∀ (H : Heap) (locs : List Loc) (ls : Array Slot), Rl g ad h s.heap H locs → lv_has ls 8 [(2, .ref (ad v2)), (3, .long (Int64.ofInt ex)), (6, .int (Int32.ofInt v6))] → W p l e rmX7_checksum s m args below meth c H locs 0 0 Q (F0 m 159 ls []))) ?_
  rintro ⟨v3, v7⟩ o hF hK H locs ls hR hl
  have hR : Rl g ad h s.heap H locs := hR
  have hl : lv_has ls 8 [(2, .ref (ad v2)), (3, .long (Int64.ofInt v3)), (6, .int (Int32.ofInt v6)), (7, .int (Int32.ofInt v7))] := hl
  have hF : LX7_checksum_120 h v2 v6 v3 v7 = some o := hF
  unfold LX7_checksum_120 at hF
  refine lv_iload hC.1 hC.2.1 dX7_checksum_120 (lv_at hl 3 rfl) ?_
  refine lv_aload_n hC.1 hC.2.1 dX7_checksum_122 rfl (lv_at hl 0 rfl) ?_
  obtain ⟨x17, e17, hF⟩ := bnd hF
  refine pw_gfr hC hR e17 flX7_132 dX7_checksum_123 ?_
  refine lv_iload hC.1 hC.2.1 dX7_checksum_126 (lv_at hl 2 rfl) ?_
  obtain ⟨x18, e18, hF⟩ := bnd hF
  refine pw_iald hC hR e18 dX7_checksum_128 ?_
  refine pw_icmpge hC 159 dX7_checksum_129 (by decide) (fun hc => ?_) (fun hc => ?_)
  · rw [if_neg hc] at hF
    cases hF
    exact hK _ _ _ hR (lv_sub hl [0, 1, 2] rfl)
  · rw [if_pos hc] at hF
    refine pw_ldc2 hC 31 kcX7_220 dX7_checksum_132 ?_
    refine lv_lload_n hC.1 hC.2.1 dX7_checksum_135 rfl (lv_at hl 1 rfl) ?_
    refine pw_lmul hC dX7_checksum_136 ?_
    refine lv_aload_n hC.1 hC.2.1 dX7_checksum_137 rfl (lv_at hl 0 rfl) ?_
    obtain ⟨x19, e19, hF⟩ := bnd hF
    refine pw_gfr hC hR e19 flX7_137 dX7_checksum_138 ?_
    refine lv_iload hC.1 hC.2.1 dX7_checksum_141 (lv_at hl 2 rfl) ?_
    refine pw_bipush hC dX7_checksum_143 rfl ?_
    refine pw_imul hC dX7_checksum_145 ?_
    refine lv_iload hC.1 hC.2.1 dX7_checksum_146 (lv_at hl 3 rfl) ?_
    refine pw_iadd hC dX7_checksum_148 ?_
    obtain ⟨x20, e20, hF⟩ := bnd hF
    refine pw_iald hC hR e20 dX7_checksum_149 ?_
    refine pw_i2l hC dX7_checksum_150 ?_
    refine pw_ladd hC dX7_checksum_151 ?_
    refine lv_lstore_n (lv' := [(3, .long (Int64.ofInt ((31 * v3) + (w32 x20)))), (2, .ref (ad v2)), (6, .int (Int32.ofInt v6)), (7, .int (Int32.ofInt v7))]) hC.1 hC.2.1 dX7_checksum_152 rfl hl (by decide) rfl (fun ls hl => ?_)
    refine pw_iinc (lv' := [(7, .int (Int32.ofInt (v7 + 1))), (3, .long (Int64.ofInt ((31 * v3) + (w32 x20)))), (2, .ref (ad v2)), (6, .int (Int32.ofInt v6))]) hC hl 3 dX7_checksum_153 rfl (by decide) rfl (fun ls hl => ?_)
    refine pw_goto hC 120 dX7_checksum_156 (by decide) ?_
    cases hF
    exact hK _ _ _ hR (lv_sub hl [2, 1, 3, 0] rfl)
def LX7_checksum_108 (h : PH) (v2 : Nat) (v3 : Int) (v6 : Int) : Option ((Int × Int) ⊕ (Int)) :=
  (gfi h 0 v2 0).bind fun x16 =>
  if w32 v6 < w32 x16 then (
    (lp (fun st : Int × Int => LX7_checksum_120 h v2 v6 st.1 st.2) FU (v3, 0)).bind fun ex21 =>
    (gfr h 0 v2 5).bind fun x22 =>
    (ald 0 h x22 v6).bind fun x23 =>
    (gfr h 0 v2 6).bind fun x24 =>
    (ald 0 h x24 v6).bind fun x25 =>
    (gfr h 0 v2 7).bind fun x26 =>
    (ald 0 h x26 v6).bind fun x27 =>
    (gfr h 0 v2 8).bind fun x28 =>
    (ald 0 h x28 v6).bind fun x29 =>
    some (.inl (((31 * ((31 * ((31 * ((31 * ex21) + (w32 x23))) + (w32 x25))) + (w32 x27))) + (w32 x29)), (v6 + 1)))
  ) else (
    some (.inr v3)
  )
set_option maxHeartbeats 4000000 in
set_option maxRecDepth 100000 in
theorem LRX7_checksum_108 {h : PH} {v2 : Nat} {Q : State → Prop} (hC : Cx g p s m args meth c cX7_checksum 8 RX7 (some .long)) : ∀ (n : Nat) (st : Int × Int) (ex : Int), lp (fun st : Int × Int => LX7_checksum_108 h v2 st.1 st.2) n st = some ex → (fun ex : Int => ∀ (H : Heap) (locs : List Loc) (ls : Array Slot), Rl g ad h s.heap H locs → lv_has ls 8 [(3, .long (Int64.ofInt ex))] → W p l e rmX7_checksum s m args below meth c H locs 0 0 Q (F0 m 225 ls [])) ex → ∀ (H : Heap) (locs : List Loc) (ls : Array Slot), Rl g ad h s.heap H locs → lv_has ls 8 [(2, .ref (ad v2)), (3, .long (Int64.ofInt st.1)), (6, .int (Int32.ofInt st.2))] → W p l e rmX7_checksum s m args below meth c H locs 0 0 Q (F0 m 108 ls []) := by
  refine lp_rule (Ph := (fun st : Int × Int => ∀ (H : Heap) (locs : List Loc) (ls : Array Slot), Rl g ad h s.heap H locs → lv_has ls 8 [(2, .ref (ad v2)), (3, .long (Int64.ofInt st.1)), (6, .int (Int32.ofInt st.2))] → W p l e rmX7_checksum s m args below meth c H locs 0 0 Q (F0 m 108 ls []))) (Px := (fun ex : Int => ∀ (H : Heap) (locs : List Loc) (ls : Array Slot), Rl g ad h s.heap H locs → lv_has ls 8 [(3, .long (Int64.ofInt ex))] → W p l e rmX7_checksum s m args below meth c H locs 0 0 Q (F0 m 225 ls []))) ?_
  rintro ⟨v3, v6⟩ o hF hK H locs ls hR hl
  have hR : Rl g ad h s.heap H locs := hR
  have hl : lv_has ls 8 [(2, .ref (ad v2)), (3, .long (Int64.ofInt v3)), (6, .int (Int32.ofInt v6))] := hl
  have hF : LX7_checksum_108 h v2 v3 v6 = some o := hF
  unfold LX7_checksum_108 at hF
  refine lv_iload hC.1 hC.2.1 dX7_checksum_108 (lv_at hl 2 rfl) ?_
  refine lv_aload_n hC.1 hC.2.1 dX7_checksum_110 rfl (lv_at hl 0 rfl) ?_
  obtain ⟨x16, e16, hF⟩ := bnd hF
  refine pw_gfi hC hR e16 flX7_87 dX7_checksum_111 ?_
  refine pw_icmpge hC 225 dX7_checksum_114 (by decide) (fun hc => ?_) (fun hc => ?_)
  · rw [if_neg hc] at hF
    cases hF
    exact hK _ _ _ hR (lv_sub hl [1] rfl)
  · rw [if_pos hc] at hF
    refine pw_iconst hC dX7_checksum_117 ?_
    refine lv_istore (lv' := [(7, .int (Int32.ofInt 0)), (2, .ref (ad v2)), (3, .long (Int64.ofInt v3)), (6, .int (Int32.ofInt v6))]) hC.1 hC.2.1 dX7_checksum_118 hl (by decide) rfl (fun ls hl => ?_)
    obtain ⟨ex21, e21, hF⟩ := bnd hF
    refine LRX7_checksum_120 hC FU _ ex21 e21 ?_ _ _ _ hR (lv_sub hl [1, 2, 3, 0] rfl)
    intro H locs ls hR hl
    refine pw_ldc2 hC 31 kcX7_220 dX7_checksum_159 ?_
    refine lv_lload_n hC.1 hC.2.1 dX7_checksum_162 rfl (lv_at hl 1 rfl) ?_
    refine pw_lmul hC dX7_checksum_163 ?_
    refine lv_aload_n hC.1 hC.2.1 dX7_checksum_164 rfl (lv_at hl 0 rfl) ?_
    obtain ⟨x22, e22, hF⟩ := bnd hF
    refine pw_gfr hC hR e22 flX7_140 dX7_checksum_165 ?_
    refine lv_iload hC.1 hC.2.1 dX7_checksum_168 (lv_at hl 2 rfl) ?_
    obtain ⟨x23, e23, hF⟩ := bnd hF
    refine pw_iald hC hR e23 dX7_checksum_170 ?_
    refine pw_i2l hC dX7_checksum_171 ?_
    refine pw_ladd hC dX7_checksum_172 ?_
    refine lv_lstore_n (lv' := [(3, .long (Int64.ofInt ((31 * ex21) + (w32 x23)))), (2, .ref (ad v2)), (6, .int (Int32.ofInt v6))]) hC.1 hC.2.1 dX7_checksum_173 rfl hl (by decide) rfl (fun ls hl => ?_)
    refine pw_ldc2 hC 31 kcX7_220 dX7_checksum_174 ?_
    refine lv_lload_n hC.1 hC.2.1 dX7_checksum_177 rfl (lv_at hl 0 rfl) ?_
    refine pw_lmul hC dX7_checksum_178 ?_
    refine lv_aload_n hC.1 hC.2.1 dX7_checksum_179 rfl (lv_at hl 1 rfl) ?_
    obtain ⟨x24, e24, hF⟩ := bnd hF
    refine pw_gfr hC hR e24 flX7_143 dX7_checksum_180 ?_
    refine lv_iload hC.1 hC.2.1 dX7_checksum_183 (lv_at hl 2 rfl) ?_
    obtain ⟨x25, e25, hF⟩ := bnd hF
    refine pw_iald hC hR e25 dX7_checksum_185 ?_
    refine pw_i2l hC dX7_checksum_186 ?_
    refine pw_ladd hC dX7_checksum_187 ?_
    refine lv_lstore_n (lv' := [(3, .long (Int64.ofInt ((31 * ((31 * ex21) + (w32 x23))) + (w32 x25)))), (2, .ref (ad v2)), (6, .int (Int32.ofInt v6))]) hC.1 hC.2.1 dX7_checksum_188 rfl hl (by decide) rfl (fun ls hl => ?_)
    refine pw_ldc2 hC 31 kcX7_220 dX7_checksum_189 ?_
    refine lv_lload_n hC.1 hC.2.1 dX7_checksum_192 rfl (lv_at hl 0 rfl) ?_
    refine pw_lmul hC dX7_checksum_193 ?_
    refine lv_aload_n hC.1 hC.2.1 dX7_checksum_194 rfl (lv_at hl 1 rfl) ?_
    obtain ⟨x26, e26, hF⟩ := bnd hF
    refine pw_gfr hC hR e26 flX7_146 dX7_checksum_195 ?_
    refine lv_iload hC.1 hC.2.1 dX7_checksum_198 (lv_at hl 2 rfl) ?_
    obtain ⟨x27, e27, hF⟩ := bnd hF
    refine pw_iald hC hR e27 dX7_checksum_200 ?_
    refine pw_i2l hC dX7_checksum_201 ?_
    refine pw_ladd hC dX7_checksum_202 ?_
    refine lv_lstore_n (lv' := [(3, .long (Int64.ofInt ((31 * ((31 * ((31 * ex21) + (w32 x23))) + (w32 x25))) + (w32 x27)))), (2, .ref (ad v2)), (6, .int (Int32.ofInt v6))]) hC.1 hC.2.1 dX7_checksum_203 rfl hl (by decide) rfl (fun ls hl => ?_)
    refine pw_ldc2 hC 31 kcX7_220 dX7_checksum_204 ?_
    refine lv_lload_n hC.1 hC.2.1 dX7_checksum_207 rfl (lv_at hl 0 rfl) ?_
    refine pw_lmul hC dX7_checksum_208 ?_
    refine lv_aload_n hC.1 hC.2.1 dX7_checksum_209 rfl (lv_at hl 1 rfl) ?_
    obtain ⟨x28, e28, hF⟩ := bnd hF
    refine pw_gfr hC hR e28 flX7_149 dX7_checksum_210 ?_
    refine lv_iload hC.1 hC.2.1 dX7_checksum_213 (lv_at hl 2 rfl) ?_
    obtain ⟨x29, e29, hF⟩ := bnd hF
    refine pw_iald hC hR e29 dX7_checksum_215 ?_
    refine pw_i2l hC dX7_checksum_216 ?_
    refine pw_ladd hC dX7_checksum_217 ?_
    refine lv_lstore_n (lv' := [(3, .long (Int64.ofInt ((31 * ((31 * ((31 * ((31 * ex21) + (w32 x23))) + (w32 x25))) + (w32 x27))) + (w32 x29)))), (2, .ref (ad v2)), (6, .int (Int32.ofInt v6))]) hC.1 hC.2.1 dX7_checksum_218 rfl hl (by decide) rfl (fun ls hl => ?_)
    refine pw_iinc (lv' := [(6, .int (Int32.ofInt (v6 + 1))), (3, .long (Int64.ofInt ((31 * ((31 * ((31 * ((31 * ex21) + (w32 x23))) + (w32 x25))) + (w32 x27))) + (w32 x29)))), (2, .ref (ad v2))]) hC hl 2 dX7_checksum_219 rfl (by decide) rfl (fun ls hl => ?_)
    refine pw_goto hC 108 dX7_checksum_222 (by decide) ?_
    cases hF
    exact hK _ _ _ hR (lv_sub hl [2, 1, 0] rfl)
def FX7_checksum (h : PH) (v0 : Nat) : Option (Int) :=
  (isO h 7 v0).bind fun _ =>
  (gfr h 7 v0 1).bind fun x1 =>
  (gfr h 3 x1 0).bind fun x2 =>
  (gfr h 7 v0 1).bind fun x3 =>
  (gfr h 3 x3 1).bind fun x4 =>
  (gfr h 7 v0 1).bind fun x5 =>
  (gfi h 3 x5 3).bind fun x6 =>
  (FX6_finishedTotal h x2).bind fun x7 =>
  (FX6_unfinishedBits h x2).bind fun x8 =>
  (lp (fun st : Int × Int => LX7_checksum_44 h x2 x4 x8 st.1 st.2) FU (((31 * (w32 x6)) + (w32 x7)), 0)).bind fun ex15 =>
  (lp (fun st : Int × Int => LX7_checksum_108 h x4 st.1 st.2) FU (ex15, 0)).bind fun ex30 =>
  some ex30
theorem OX7_checksum {h : PH} {v0 : Nat} {q : Int} (hF : FX7_checksum h v0 = some q) : ∃ fs : List PV, h[v0]? = some (.inr (7, fs)) := by
  unfold FX7_checksum at hF
  obtain ⟨u0, e0, -⟩ := bnd hF
  exact isO_spec e0
set_option maxHeartbeats 4000000 in
set_option maxRecDepth 100000 in
theorem CX7_checksum {g : GP} {l : Launch} {ad : Nat → Nat} {h : PH} {v0 : Nat} {q : Int} (hF : FX7_checksum h v0 = some q) : CN g l yX7_checksum cX7_checksum 8 (some .long) rmX7_checksum ad h [.ref (ad v0)] (some (.long (Int64.ofInt q))) h := by
  refine pw_met (by decide) (Nat.le_of_ble_eq_true rfl) ?_
  intro p e s m args below meth c ls hC hN hR hl
  have hl : lv_has ls 8 [(0, .ref (ad v0))] := hl
  unfold FX7_checksum at hF
  obtain ⟨u0, e0, hF⟩ := bnd hF
  refine lv_aload_n hC.1 hC.2.1 dX7_checksum_0 rfl (lv_at hl 0 rfl) ?_
  obtain ⟨x1, e1, hF⟩ := bnd hF
  refine pw_gfr hC hR e1 flX7_19 dX7_checksum_1 ?_
  obtain ⟨x2, e2, hF⟩ := bnd hF
  refine pw_gfr hC hR e2 flX7_74 dX7_checksum_4 ?_
  refine lv_astore_n (lv' := [(1, .ref (ad x2)), (0, .ref (ad v0))]) hC.1 hC.2.1 dX7_checksum_7 rfl hl (by decide) rfl (fun ls hl => ?_)
  refine lv_aload_n hC.1 hC.2.1 dX7_checksum_8 rfl (lv_at hl 1 rfl) ?_
  obtain ⟨x3, e3, hF⟩ := bnd hF
  refine pw_gfr hC hR e3 flX7_19 dX7_checksum_9 ?_
  obtain ⟨x4, e4, hF⟩ := bnd hF
  refine pw_gfr hC hR e4 flX7_83 dX7_checksum_12 ?_
  refine lv_astore_n (lv' := [(2, .ref (ad x4)), (1, .ref (ad x2)), (0, .ref (ad v0))]) hC.1 hC.2.1 dX7_checksum_15 rfl hl (by decide) rfl (fun ls hl => ?_)
  refine pw_ldc2 hC 31 kcX7_220 dX7_checksum_16 ?_
  refine lv_aload_n hC.1 hC.2.1 dX7_checksum_19 rfl (lv_at hl 2 rfl) ?_
  obtain ⟨x5, e5, hF⟩ := bnd hF
  refine pw_gfr hC hR e5 flX7_19 dX7_checksum_20 ?_
  obtain ⟨x6, e6, hF⟩ := bnd hF
  refine pw_gfi hC hR e6 flX7_93 dX7_checksum_23 ?_
  refine pw_i2l hC dX7_checksum_26 ?_
  refine pw_lmul hC dX7_checksum_27 ?_
  refine lv_aload_n hC.1 hC.2.1 dX7_checksum_28 rfl (lv_at hl 1 rfl) ?_
  obtain ⟨x7, e7, hF⟩ := bnd hF
  obtain ⟨fs7, ho7⟩ := OX6_finishedTotal e7
  refine pw_cVi (rest := [.long (Int64.ofInt (31 * (w32 x6)))]) hC hR lvX7_156 ho7 (CX6_finishedTotal e7) ⟨rfl, rfl⟩ rfl hl.1 rfl ⟨Nat.le_of_ble_eq_true rfl, Nat.le_of_ble_eq_true rfl⟩ (Nat.le_of_ble_eq_true rfl) dX7_checksum_29 ⟨Nat.zero_le _, Nat.zero_le _⟩ (fun H locs hR => ?_)
  refine pw_i2l hC dX7_checksum_32 ?_
  refine pw_ladd hC dX7_checksum_33 ?_
  refine lv_lstore_n (lv' := [(3, .long (Int64.ofInt ((31 * (w32 x6)) + (w32 x7)))), (2, .ref (ad x4)), (1, .ref (ad x2)), (0, .ref (ad v0))]) hC.1 hC.2.1 dX7_checksum_34 rfl hl (by decide) rfl (fun ls hl => ?_)
  refine lv_aload_n hC.1 hC.2.1 dX7_checksum_35 rfl (lv_at hl 2 rfl) ?_
  obtain ⟨x8, e8, hF⟩ := bnd hF
  obtain ⟨fs8, ho8⟩ := OX6_unfinishedBits e8
  refine pw_cVi (rest := []) hC hR lvX7_103 ho8 (CX6_unfinishedBits e8) ⟨rfl, rfl⟩ rfl hl.1 rfl ⟨Nat.le_of_ble_eq_true rfl, Nat.le_of_ble_eq_true rfl⟩ (Nat.le_of_ble_eq_true rfl) dX7_checksum_36 ⟨Nat.zero_le _, Nat.zero_le _⟩ (fun H locs hR => ?_)
  refine lv_istore (lv' := [(5, .int (Int32.ofInt x8)), (3, .long (Int64.ofInt ((31 * (w32 x6)) + (w32 x7)))), (2, .ref (ad x4)), (1, .ref (ad x2)), (0, .ref (ad v0))]) hC.1 hC.2.1 dX7_checksum_39 hl (by decide) rfl (fun ls hl => ?_)
  refine pw_iconst hC dX7_checksum_41 ?_
  refine lv_istore (lv' := [(6, .int (Int32.ofInt 0)), (5, .int (Int32.ofInt x8)), (3, .long (Int64.ofInt ((31 * (w32 x6)) + (w32 x7)))), (2, .ref (ad x4)), (1, .ref (ad x2)), (0, .ref (ad v0))]) hC.1 hC.2.1 dX7_checksum_42 hl (by decide) rfl (fun ls hl => ?_)
  obtain ⟨ex15, e15, hF⟩ := bnd hF
  refine LRX7_checksum_44 hC FU _ ex15 e15 ?_ _ _ _ hR (lv_sub hl [4, 3, 2, 1, 0] rfl)
  intro H locs ls hR hl
  refine pw_iconst hC dX7_checksum_105 ?_
  refine lv_istore (lv' := [(6, .int (Int32.ofInt 0)), (2, .ref (ad x4)), (3, .long (Int64.ofInt ex15))]) hC.1 hC.2.1 dX7_checksum_106 hl (by decide) rfl (fun ls hl => ?_)
  obtain ⟨ex30, e30, hF⟩ := bnd hF
  refine LRX7_checksum_108 hC FU _ ex30 e30 ?_ _ _ _ hR (lv_sub hl [1, 2, 0] rfl)
  intro H locs ls hR hl
  refine lv_lload_n hC.1 hC.2.1 dX7_checksum_225 rfl (lv_at hl 0 rfl) ?_
  cases hF
  exact pw_lret hC hR dX7_checksum_226
abbrev rmX8_thrown : Room := { frames := 0, cells := 0, slots := 0, locals := 0 }
def FX8_thrown (h : PH) (v0 : Nat) : Option (Int) :=
  (isO h 8 v0).bind fun _ =>
  (gfi h 8 v0 0).bind fun x1 =>
  some x1
theorem OX8_thrown {h : PH} {v0 : Nat} {q : Int} (hF : FX8_thrown h v0 = some q) : ∃ fs : List PV, h[v0]? = some (.inr (8, fs)) := by
  unfold FX8_thrown at hF
  obtain ⟨u0, e0, -⟩ := bnd hF
  exact isO_spec e0
set_option maxHeartbeats 4000000 in
set_option maxRecDepth 100000 in
theorem CX8_thrown {g : GP} {l : Launch} {ad : Nat → Nat} {h : PH} {v0 : Nat} {q : Int} (hF : FX8_thrown h v0 = some q) : CN g l yX8_thrown cX8_thrown 1 (some .int) rmX8_thrown ad h [.ref (ad v0)] (some (.int (Int32.ofInt q))) h := by
  refine pw_met (by decide) (Nat.le_of_ble_eq_true rfl) ?_
  intro p e s m args below meth c ls hC hN hR hl
  have hl : lv_has ls 1 [(0, .ref (ad v0))] := hl
  unfold FX8_thrown at hF
  obtain ⟨u0, e0, hF⟩ := bnd hF
  refine lv_aload_n hC.1 hC.2.1 dX8_thrown_0 rfl (lv_at hl 0 rfl) ?_
  obtain ⟨x1, e1, hF⟩ := bnd hF
  refine pw_gfi hC hR e1 flX8_38 dX8_thrown_1 ?_
  cases hF
  exact pw_iret hC hR dX8_thrown_4
abbrev rmX8_fails : Room := { frames := 0, cells := 0, slots := 0, locals := 0 }
def JX8_fails_28 (h : PH) (s0 : Int) : Option (Int × PH) :=
  if s0 = 0 ∨ s0 = 1 then some (s0, h) else none
set_option maxHeartbeats 4000000 in
set_option maxRecDepth 100000 in
theorem BX8_fails_28 {h : PH} {s0 : Int} (hC : Cx g p s m args meth c cX8_fails 3 RX8 (some .boolean)) (hR : Rl g ad h s.heap H locs) (hl : lv_has ls 3 []) {q : Int × PH} (hF : JX8_fails_28 h s0 = some q) : W p l e rmX8_fails s m args below meth c H locs 0 0 (MQ below (QcN g ad q.2 (some (.int (Int32.ofInt q.1)))) args s 0 0 (gA g)) (F0 m 28 ls [.int (Int32.ofInt s0)]) := by
  unfold JX8_fails_28 at hF
  by_cases hb2 : s0 = 0 ∨ s0 = 1
  · rw [if_pos hb2] at hF
    cases hF
    exact pw_zret hC hR hb2 dX8_fails_28
  · rw [if_neg hb2] at hF; cases hF
def JX8_fails_16 (h : PH) (v0 : Nat) : Option (Int × PH) :=
  (gfi h 8 v0 0).bind fun x1 =>
  if w32 x1 = 0 then (
    JX8_fails_28 h 0
  ) else (
    JX8_fails_28 h 1
  )
set_option maxHeartbeats 4000000 in
set_option maxRecDepth 100000 in
theorem BX8_fails_16 {h : PH} {v0 : Nat} (hC : Cx g p s m args meth c cX8_fails 3 RX8 (some .boolean)) (hR : Rl g ad h s.heap H locs) (hl : lv_has ls 3 [(0, .ref (ad v0))]) {q : Int × PH} (hF : JX8_fails_16 h v0 = some q) : W p l e rmX8_fails s m args below meth c H locs 0 0 (MQ below (QcN g ad q.2 (some (.int (Int32.ofInt q.1)))) args s 0 0 (gA g)) (F0 m 16 ls []) := by
  unfold JX8_fails_16 at hF
  refine lv_aload_n hC.1 hC.2.1 dX8_fails_16 rfl (lv_at hl 0 rfl) ?_
  obtain ⟨x1, e1, hF⟩ := bnd hF
  refine pw_gfi hC hR e1 flX8_38 dX8_fails_17 ?_
  refine pw_ifeq hC 27 dX8_fails_20 (by decide) (fun hc => ?_) (fun hc => ?_)
  · rw [if_pos hc] at hF
    refine pw_iconst hC dX8_fails_27 ?_
    exact BX8_fails_28 hC hR (lv_sub hl [] rfl) hF
  · rw [if_neg hc] at hF
    refine pw_iconst hC dX8_fails_23 ?_
    refine pw_goto hC 28 dX8_fails_24 (by decide) ?_
    exact BX8_fails_28 hC hR (lv_sub hl [] rfl) hF
def FX8_fails (h : PH) (v0 : Nat) (v1 : Int) (v2 : Int) : Option (Int × PH) :=
  (isO h 8 v0).bind fun _ =>
  if w32 v1 = 0 then (
    JX8_fails_16 h v0
  ) else (
    (gfi h 8 v0 0).bind fun x3 =>
    if w32 x3 = 0 then (
      (pfi h 8 v0 0 v2).bind fun h4 =>
      JX8_fails_16 h4 v0
    ) else (
      JX8_fails_16 h v0
    )
  )
theorem OX8_fails {h : PH} {v0 : Nat} {v1 : Int} {v2 : Int} {q : Int × PH} (hF : FX8_fails h v0 v1 v2 = some q) : ∃ fs : List PV, h[v0]? = some (.inr (8, fs)) := by
  unfold FX8_fails at hF
  obtain ⟨u0, e0, -⟩ := bnd hF
  exact isO_spec e0
set_option maxHeartbeats 4000000 in
set_option maxRecDepth 100000 in
theorem CX8_fails {g : GP} {l : Launch} {ad : Nat → Nat} {h : PH} {v0 : Nat} {v1 : Int} {v2 : Int} {q : Int × PH} (hF : FX8_fails h v0 v1 v2 = some q) : CN g l yX8_fails cX8_fails 3 (some .boolean) rmX8_fails ad h [.ref (ad v0), .int (Int32.ofInt v1), .int (Int32.ofInt v2)] (some (.int (Int32.ofInt q.1))) q.2 := by
  refine pw_met (by decide) (Nat.le_of_ble_eq_true rfl) ?_
  intro p e s m args below meth c ls hC hN hR hl
  have hl : lv_has ls 3 [(0, .ref (ad v0)), (1, .int (Int32.ofInt v1)), (2, .int (Int32.ofInt v2))] := hl
  unfold FX8_fails at hF
  obtain ⟨u0, e0, hF⟩ := bnd hF
  refine lv_iload_n hC.1 hC.2.1 dX8_fails_0 rfl (lv_at hl 1 rfl) ?_
  refine pw_ifeq hC 16 dX8_fails_1 (by decide) (fun hc => ?_) (fun hc => ?_)
  · rw [if_pos hc] at hF
    exact BX8_fails_16 hC hR (lv_sub hl [0] rfl) hF
  · rw [if_neg hc] at hF
    refine lv_aload_n hC.1 hC.2.1 dX8_fails_4 rfl (lv_at hl 0 rfl) ?_
    obtain ⟨x3, e3, hF⟩ := bnd hF
    refine pw_gfi hC hR e3 flX8_38 dX8_fails_5 ?_
    refine pw_ifne hC 16 dX8_fails_8 (by decide) (fun hc => ?_) (fun hc => ?_)
    · rw [if_neg hc] at hF
      exact BX8_fails_16 hC hR (lv_sub hl [0] rfl) hF
    · rw [if_pos hc] at hF
      refine lv_aload_n hC.1 hC.2.1 dX8_fails_11 rfl (lv_at hl 0 rfl) ?_
      refine lv_iload_n hC.1 hC.2.1 dX8_fails_12 rfl (lv_at hl 2 rfl) ?_
      obtain ⟨h4, e4, hF⟩ := bnd hF
      refine pw_pfi hC hR e4 fpX8_38 (Or.inl rfl) dX8_fails_13 (fun H locs hR => ?_)
      exact BX8_fails_16 hC hR (lv_sub hl [0] rfl) hF
abbrev rmX8_in : Room := { frames := 0, cells := 0, slots := 0, locals := 0 }
def JX8_in_15 (h : PH) (s0 : Int) : Option (Int) :=
  if s0 = 0 ∨ s0 = 1 then some s0 else none
set_option maxHeartbeats 4000000 in
set_option maxRecDepth 100000 in
theorem BX8_in_15 {h : PH} {s0 : Int} (hC : Cx g p s m args meth c cX8_in 3 RX8 (some .boolean)) (hR : Rl g ad h s.heap H locs) (hl : lv_has ls 3 []) {q : Int} (hF : JX8_in_15 h s0 = some q) : W p l e rmX8_in s m args below meth c H locs 0 0 (MQ below (QcN g ad h (some (.int (Int32.ofInt q)))) args s 0 0 (gA g)) (F0 m 15 ls [.int (Int32.ofInt s0)]) := by
  unfold JX8_in_15 at hF
  by_cases hb1 : s0 = 0 ∨ s0 = 1
  · rw [if_pos hb1] at hF
    cases hF
    exact pw_zret hC hR hb1 dX8_in_15
  · rw [if_neg hb1] at hF; cases hF
def JX8_in_14 (h : PH) : Option (Int) :=
  JX8_in_15 h 0
set_option maxHeartbeats 4000000 in
set_option maxRecDepth 100000 in
theorem BX8_in_14 {h : PH} (hC : Cx g p s m args meth c cX8_in 3 RX8 (some .boolean)) (hR : Rl g ad h s.heap H locs) (hl : lv_has ls 3 []) {q : Int} (hF : JX8_in_14 h  = some q) : W p l e rmX8_in s m args below meth c H locs 0 0 (MQ below (QcN g ad h (some (.int (Int32.ofInt q)))) args s 0 0 (gA g)) (F0 m 14 ls []) := by
  unfold JX8_in_14 at hF
  refine pw_iconst hC dX8_in_14 ?_
  exact BX8_in_15 hC hR (lv_sub hl [] rfl) hF
def FX8_in (h : PH) (v0 : Int) (v1 : Int) (v2 : Int) : Option (Int) :=
  if w32 v0 < w32 v1 then (
    JX8_in_14 h
  ) else (
    if w32 v2 < w32 v0 then (
      JX8_in_14 h
    ) else (
      JX8_in_15 h 1
    )
  )
set_option maxHeartbeats 4000000 in
set_option maxRecDepth 100000 in
theorem CX8_in {g : GP} {l : Launch} {ad : Nat → Nat} {h : PH} {v0 : Int} {v1 : Int} {v2 : Int} {q : Int} (hF : FX8_in h v0 v1 v2 = some q) : CN g l yX8_in cX8_in 3 (some .boolean) rmX8_in ad h [.int (Int32.ofInt v0), .int (Int32.ofInt v1), .int (Int32.ofInt v2)] (some (.int (Int32.ofInt q))) h := by
  refine pw_met (by decide) (Nat.le_of_ble_eq_true rfl) ?_
  intro p e s m args below meth c ls hC hN hR hl
  have hl : lv_has ls 3 [(0, .int (Int32.ofInt v0)), (1, .int (Int32.ofInt v1)), (2, .int (Int32.ofInt v2))] := hl
  unfold FX8_in at hF
  refine lv_iload_n hC.1 hC.2.1 dX8_in_0 rfl (lv_at hl 0 rfl) ?_
  refine lv_iload_n hC.1 hC.2.1 dX8_in_1 rfl (lv_at hl 1 rfl) ?_
  refine pw_icmplt hC 14 dX8_in_2 (by decide) (fun hc => ?_) (fun hc => ?_)
  · rw [if_pos hc] at hF
    exact BX8_in_14 hC hR (lv_sub hl [] rfl) hF
  · rw [if_neg hc] at hF
    refine lv_iload_n hC.1 hC.2.1 dX8_in_5 rfl (lv_at hl 0 rfl) ?_
    refine lv_iload_n hC.1 hC.2.1 dX8_in_6 rfl (lv_at hl 2 rfl) ?_
    refine pw_icmpgt hC 14 dX8_in_7 (by decide) (fun hc => ?_) (fun hc => ?_)
    · rw [if_pos hc] at hF
      exact BX8_in_14 hC hR (lv_sub hl [] rfl) hF
    · rw [if_neg hc] at hF
      refine pw_iconst hC dX8_in_10 ?_
      refine pw_goto hC 15 dX8_in_11 (by decide) ?_
      exact BX8_in_15 hC hR (lv_sub hl [] rfl) hF
abbrev rmX8_min : Room := { frames := 0, cells := 0, slots := 0, locals := 0 }
def JX8_min_10 (h : PH) (s0 : Int) : Option (Int) :=
  some s0
set_option maxHeartbeats 4000000 in
set_option maxRecDepth 100000 in
theorem BX8_min_10 {h : PH} {s0 : Int} (hC : Cx g p s m args meth c cX8_min 2 RX8 (some .int)) (hR : Rl g ad h s.heap H locs) (hl : lv_has ls 2 []) {q : Int} (hF : JX8_min_10 h s0 = some q) : W p l e rmX8_min s m args below meth c H locs 0 0 (MQ below (QcN g ad h (some (.int (Int32.ofInt q)))) args s 0 0 (gA g)) (F0 m 10 ls [.int (Int32.ofInt s0)]) := by
  unfold JX8_min_10 at hF
  cases hF
  exact pw_iret hC hR dX8_min_10
def FX8_min (h : PH) (v0 : Int) (v1 : Int) : Option (Int) :=
  if w32 v0 < w32 v1 then (
    JX8_min_10 h v0
  ) else (
    JX8_min_10 h v1
  )
set_option maxHeartbeats 4000000 in
set_option maxRecDepth 100000 in
theorem CX8_min {g : GP} {l : Launch} {ad : Nat → Nat} {h : PH} {v0 : Int} {v1 : Int} {q : Int} (hF : FX8_min h v0 v1 = some q) : CN g l yX8_min cX8_min 2 (some .int) rmX8_min ad h [.int (Int32.ofInt v0), .int (Int32.ofInt v1)] (some (.int (Int32.ofInt q))) h := by
  refine pw_met (by decide) (Nat.le_of_ble_eq_true rfl) ?_
  intro p e s m args below meth c ls hC hN hR hl
  have hl : lv_has ls 2 [(0, .int (Int32.ofInt v0)), (1, .int (Int32.ofInt v1))] := hl
  unfold FX8_min at hF
  refine lv_iload_n hC.1 hC.2.1 dX8_min_0 rfl (lv_at hl 0 rfl) ?_
  refine lv_iload_n hC.1 hC.2.1 dX8_min_1 rfl (lv_at hl 1 rfl) ?_
  refine pw_icmpge hC 9 dX8_min_2 (by decide) (fun hc => ?_) (fun hc => ?_)
  · rw [if_neg hc] at hF
    refine lv_iload_n hC.1 hC.2.1 dX8_min_9 rfl (lv_at hl 1 rfl) ?_
    exact BX8_min_10 hC hR (lv_sub hl [] rfl) hF
  · rw [if_pos hc] at hF
    refine lv_iload_n hC.1 hC.2.1 dX8_min_5 rfl (lv_at hl 0 rfl) ?_
    refine pw_goto hC 10 dX8_min_6 (by decide) ?_
    exact BX8_min_10 hC hR (lv_sub hl [] rfl) hF
abbrev rmX8_max : Room := { frames := 0, cells := 0, slots := 0, locals := 0 }
def JX8_max_10 (h : PH) (s0 : Int) : Option (Int) :=
  some s0
set_option maxHeartbeats 4000000 in
set_option maxRecDepth 100000 in
theorem BX8_max_10 {h : PH} {s0 : Int} (hC : Cx g p s m args meth c cX8_max 2 RX8 (some .int)) (hR : Rl g ad h s.heap H locs) (hl : lv_has ls 2 []) {q : Int} (hF : JX8_max_10 h s0 = some q) : W p l e rmX8_max s m args below meth c H locs 0 0 (MQ below (QcN g ad h (some (.int (Int32.ofInt q)))) args s 0 0 (gA g)) (F0 m 10 ls [.int (Int32.ofInt s0)]) := by
  unfold JX8_max_10 at hF
  cases hF
  exact pw_iret hC hR dX8_max_10
def FX8_max (h : PH) (v0 : Int) (v1 : Int) : Option (Int) :=
  if w32 v1 < w32 v0 then (
    JX8_max_10 h v0
  ) else (
    JX8_max_10 h v1
  )
set_option maxHeartbeats 4000000 in
set_option maxRecDepth 100000 in
theorem CX8_max {g : GP} {l : Launch} {ad : Nat → Nat} {h : PH} {v0 : Int} {v1 : Int} {q : Int} (hF : FX8_max h v0 v1 = some q) : CN g l yX8_max cX8_max 2 (some .int) rmX8_max ad h [.int (Int32.ofInt v0), .int (Int32.ofInt v1)] (some (.int (Int32.ofInt q))) h := by
  refine pw_met (by decide) (Nat.le_of_ble_eq_true rfl) ?_
  intro p e s m args below meth c ls hC hN hR hl
  have hl : lv_has ls 2 [(0, .int (Int32.ofInt v0)), (1, .int (Int32.ofInt v1))] := hl
  unfold FX8_max at hF
  refine lv_iload_n hC.1 hC.2.1 dX8_max_0 rfl (lv_at hl 0 rfl) ?_
  refine lv_iload_n hC.1 hC.2.1 dX8_max_1 rfl (lv_at hl 1 rfl) ?_
  refine pw_icmple hC 9 dX8_max_2 (by decide) (fun hc => ?_) (fun hc => ?_)
  · rw [if_neg hc] at hF
    refine lv_iload_n hC.1 hC.2.1 dX8_max_9 rfl (lv_at hl 1 rfl) ?_
    exact BX8_max_10 hC hR (lv_sub hl [] rfl) hF
  · rw [if_pos hc] at hF
    refine lv_iload_n hC.1 hC.2.1 dX8_max_5 rfl (lv_at hl 0 rfl) ?_
    refine pw_goto hC 10 dX8_max_6 (by decide) ?_
    exact BX8_max_10 hC hR (lv_sub hl [] rfl) hF
abbrev rmX8_copy : Room := { frames := 0, cells := 0, slots := 0, locals := 0 }
def LX8_copy_2 (v0 : Nat) (v1 : Nat) (v2 : Int) (h : PH) : Option ((Int × PH) ⊕ (PH)) :=
  if w32 v2 < w32 1824 then (
    (ald 0 h v0 v2).bind fun x1 =>
    (ast 0 h v1 v2 x1).bind fun h2 =>
    some (.inl ((v2 + 1), h2))
  ) else (
    some (.inr h)
  )
set_option maxHeartbeats 4000000 in
set_option maxRecDepth 100000 in
theorem LRX8_copy_2 {v0 : Nat} {v1 : Nat} {Q : State → Prop} (hC : Cx g p s m args meth c cX8_copy 3 RX8 none) : ∀ (n : Nat) (st : Int × PH) (ex : PH), lp (fun st : Int × PH => LX8_copy_2 v0 v1 st.1 st.2) n st = some ex → (fun ex : PH => ∀ (H : Heap) (locs : List Loc) (ls : Array Slot), Rl g ad ex s.heap H locs → lv_has ls 3 [] → W p l e rmX8_copy s m args below meth c H locs 0 0 Q (F0 m 21 ls [])) ex → ∀ (H : Heap) (locs : List Loc) (ls : Array Slot), Rl g ad st.2 s.heap H locs → lv_has ls 3 [(0, .ref (ad v0)), (1, .ref (ad v1)), (2, .int (Int32.ofInt st.1))] → W p l e rmX8_copy s m args below meth c H locs 0 0 Q (F0 m 2 ls []) := by
  refine lp_rule (Ph := (fun st : Int × PH => ∀ (H : Heap) (locs : List Loc) (ls : Array Slot), Rl g ad st.2 s.heap H locs → lv_has ls 3 [(0, .ref (ad v0)), (1, .ref (ad v1)), (2, .int (Int32.ofInt st.1))] → W p l e rmX8_copy s m args below meth c H locs 0 0 Q (F0 m 2 ls []))) (Px := (fun ex : PH => ∀ (H : Heap) (locs : List Loc) (ls : Array Slot), Rl g ad ex s.heap H locs → lv_has ls 3 [] → W p l e rmX8_copy s m args below meth c H locs 0 0 Q (F0 m 21 ls []))) ?_
  rintro ⟨v2, h⟩ o hF hK H locs ls hR hl
  have hR : Rl g ad h s.heap H locs := hR
  have hl : lv_has ls 3 [(0, .ref (ad v0)), (1, .ref (ad v1)), (2, .int (Int32.ofInt v2))] := hl
  have hF : LX8_copy_2 v0 v1 v2 h = some o := hF
  unfold LX8_copy_2 at hF
  refine lv_iload_n hC.1 hC.2.1 dX8_copy_2 rfl (lv_at hl 2 rfl) ?_
  refine pw_sipush hC dX8_copy_3 rfl ?_
  refine pw_icmpge hC 21 dX8_copy_6 (by decide) (fun hc => ?_) (fun hc => ?_)
  · rw [if_neg hc] at hF
    cases hF
    exact hK _ _ _ hR (lv_sub hl [] rfl)
  · rw [if_pos hc] at hF
    refine lv_aload_n hC.1 hC.2.1 dX8_copy_9 rfl (lv_at hl 1 rfl) ?_
    refine lv_iload_n hC.1 hC.2.1 dX8_copy_10 rfl (lv_at hl 2 rfl) ?_
    refine lv_aload_n hC.1 hC.2.1 dX8_copy_11 rfl (lv_at hl 0 rfl) ?_
    refine lv_iload_n hC.1 hC.2.1 dX8_copy_12 rfl (lv_at hl 2 rfl) ?_
    obtain ⟨x1, e1, hF⟩ := bnd hF
    refine pw_iald hC hR e1 dX8_copy_13 ?_
    obtain ⟨h2, e2, hF⟩ := bnd hF
    refine pw_iast hC hR e2 dX8_copy_14 (fun H locs hR => ?_)
    refine pw_iinc (lv' := [(2, .int (Int32.ofInt (v2 + 1))), (0, .ref (ad v0)), (1, .ref (ad v1))]) hC hl 2 dX8_copy_15 rfl (by decide) rfl (fun ls hl => ?_)
    refine pw_goto hC 2 dX8_copy_18 (by decide) ?_
    cases hF
    exact hK _ _ _ hR (lv_sub hl [1, 2, 0] rfl)
def FX8_copy (h : PH) (v0 : Nat) (v1 : Nat) : Option (PH) :=
  (lp (fun st : Int × PH => LX8_copy_2 v0 v1 st.1 st.2) FU (0, h)).bind fun ex3 =>
  some ex3
set_option maxHeartbeats 4000000 in
set_option maxRecDepth 100000 in
theorem CX8_copy {g : GP} {l : Launch} {ad : Nat → Nat} {h : PH} {v0 : Nat} {v1 : Nat} {q : PH} (hF : FX8_copy h v0 v1 = some q) : CN g l yX8_copy cX8_copy 3 none rmX8_copy ad h [.ref (ad v0), .ref (ad v1)] none q := by
  refine pw_met (by decide) (Nat.le_of_ble_eq_true rfl) ?_
  intro p e s m args below meth c ls hC hN hR hl
  have hl : lv_has ls 3 [(0, .ref (ad v0)), (1, .ref (ad v1))] := hl
  unfold FX8_copy at hF
  refine pw_iconst hC dX8_copy_0 ?_
  refine lv_istore_n (lv' := [(2, .int (Int32.ofInt 0)), (0, .ref (ad v0)), (1, .ref (ad v1))]) hC.1 hC.2.1 dX8_copy_1 rfl hl (by decide) rfl (fun ls hl => ?_)
  obtain ⟨ex3, e3, hF⟩ := bnd hF
  refine LRX8_copy_2 hC FU _ ex3 e3 ?_ _ _ _ hR (lv_sub hl [1, 2, 0] rfl)
  intro H locs ls hR hl
  cases hF
  exact pw_vret hC hR dX8_copy_21
abbrev rmX8_task : Room := { frames := 0, cells := 0, slots := 0, locals := 0 }
def FX8_task (h : PH) (v0 : Int) : Option (Int) :=
  some (16 + (8 * v0))
set_option maxHeartbeats 4000000 in
set_option maxRecDepth 100000 in
theorem CX8_task {g : GP} {l : Launch} {ad : Nat → Nat} {h : PH} {v0 : Int} {q : Int} (hF : FX8_task h v0 = some q) : CN g l yX8_task cX8_task 1 (some .int) rmX8_task ad h [.int (Int32.ofInt v0)] (some (.int (Int32.ofInt q))) h := by
  refine pw_met (by decide) (Nat.le_of_ble_eq_true rfl) ?_
  intro p e s m args below meth c ls hC hN hR hl
  have hl : lv_has ls 1 [(0, .int (Int32.ofInt v0))] := hl
  unfold FX8_task at hF
  refine pw_bipush hC dX8_task_0 rfl ?_
  refine pw_bipush hC dX8_task_2 rfl ?_
  refine lv_iload_n hC.1 hC.2.1 dX8_task_4 rfl (lv_at hl 0 rfl) ?_
  refine pw_imul hC dX8_task_5 ?_
  refine pw_iadd hC dX8_task_6 ?_
  cases hF
  exact pw_iret hC hR dX8_task_7
end
