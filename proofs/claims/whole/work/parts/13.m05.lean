section
variable {p : Program} {l : Launch} {e : Env} {s : State} {m : MethodId} {args : Array Value} {below : List Frame} {meth : Method} {c : Code} {H : Heap} {locs : List Loc} {ls : Array Slot} {g : GP} {ad : Nat → Nat}
abbrev rmX8_core : Room := { frames := 0, cells := 0, slots := 0, locals := 0 }
def FX8_core (h : PH) (v0 : Int) : Option (Int) :=
  some (272 + (13 * v0))
set_option maxHeartbeats 4000000 in
set_option maxRecDepth 100000 in
theorem CX8_core {g : GP} {l : Launch} {ad : Nat → Nat} {h : PH} {v0 : Int} {q : Int} (hF : FX8_core h v0 = some q) : CN g l yX8_core cX8_core 1 (some .int) rmX8_core ad h [.int (Int32.ofInt v0)] (some (.int (Int32.ofInt q))) h := by
  refine pw_met (by decide) (Nat.le_of_ble_eq_true rfl) ?_
  intro p e s m args below meth c ls hC hN hR hl
  have hl : lv_has ls 1 [(0, .int (Int32.ofInt v0))] := hl
  unfold FX8_core at hF
  refine pw_sipush hC dX8_core_0 rfl ?_
  refine pw_bipush hC dX8_core_3 rfl ?_
  refine lv_iload_n hC.1 hC.2.1 dX8_core_5 rfl (lv_at hl 0 rfl) ?_
  refine pw_imul hC dX8_core_6 ?_
  refine pw_iadd hC dX8_core_7 ?_
  cases hF
  exact pw_iret hC hR dX8_core_8
abbrev rmX8_clearCores : Room := { frames := 1, cells := 0, slots := 0, locals := 20 }
def LX8_clearCores_4 (v0 : Nat) (v1 : Int) (h : PH) : Option ((Int × PH) ⊕ (PH)) :=
  if w32 v1 < w32 324 then (
    (ast 0 h v0 v1 0).bind fun h1 =>
    some (.inl ((v1 + 1), h1))
  ) else (
    some (.inr h)
  )
set_option maxHeartbeats 4000000 in
set_option maxRecDepth 100000 in
theorem LRX8_clearCores_4 {v0 : Nat} {Q : State → Prop} (hC : Cx g p s m args meth c cX8_clearCores 2 RX8 none) : ∀ (n : Nat) (st : Int × PH) (ex : PH), lp (fun st : Int × PH => LX8_clearCores_4 v0 st.1 st.2) n st = some ex → (fun ex : PH => ∀ (H : Heap) (locs : List Loc) (ls : Array Slot), Rl g ad ex s.heap H locs → lv_has ls 2 [(0, .ref (ad v0))] → W p l e rmX8_clearCores s m args below meth c H locs 0 0 Q (F0 m 21 ls [])) ex → ∀ (H : Heap) (locs : List Loc) (ls : Array Slot), Rl g ad st.2 s.heap H locs → lv_has ls 2 [(0, .ref (ad v0)), (1, .int (Int32.ofInt st.1))] → W p l e rmX8_clearCores s m args below meth c H locs 0 0 Q (F0 m 4 ls []) := by
  refine lp_rule (Ph := (fun st : Int × PH => ∀ (H : Heap) (locs : List Loc) (ls : Array Slot), Rl g ad st.2 s.heap H locs → lv_has ls 2 [(0, .ref (ad v0)), (1, .int (Int32.ofInt st.1))] → W p l e rmX8_clearCores s m args below meth c H locs 0 0 Q (F0 m 4 ls []))) (Px := (fun ex : PH => ∀ (H : Heap) (locs : List Loc) (ls : Array Slot), Rl g ad ex s.heap H locs → lv_has ls 2 [(0, .ref (ad v0))] → W p l e rmX8_clearCores s m args below meth c H locs 0 0 Q (F0 m 21 ls []))) ?_
  rintro ⟨v1, h⟩ o hF hK H locs ls hR hl
  have hR : Rl g ad h s.heap H locs := hR
  have hl : lv_has ls 2 [(0, .ref (ad v0)), (1, .int (Int32.ofInt v1))] := hl
  have hF : LX8_clearCores_4 v0 v1 h = some o := hF
  unfold LX8_clearCores_4 at hF
  refine lv_iload_n hC.1 hC.2.1 dX8_clearCores_4 rfl (lv_at hl 1 rfl) ?_
  refine pw_sipush hC dX8_clearCores_5 rfl ?_
  refine pw_icmpge hC 21 dX8_clearCores_8 (by decide) (fun hc => ?_) (fun hc => ?_)
  · rw [if_neg hc] at hF
    cases hF
    exact hK _ _ _ hR (lv_sub hl [0] rfl)
  · rw [if_pos hc] at hF
    refine lv_aload_n hC.1 hC.2.1 dX8_clearCores_11 rfl (lv_at hl 0 rfl) ?_
    refine lv_iload_n hC.1 hC.2.1 dX8_clearCores_12 rfl (lv_at hl 1 rfl) ?_
    refine pw_iconst hC dX8_clearCores_13 ?_
    obtain ⟨h1, e1, hF⟩ := bnd hF
    refine pw_iast hC hR e1 dX8_clearCores_14 (fun H locs hR => ?_)
    refine pw_iinc (lv' := [(1, .int (Int32.ofInt (v1 + 1))), (0, .ref (ad v0))]) hC hl 1 dX8_clearCores_15 rfl (by decide) rfl (fun ls hl => ?_)
    refine pw_goto hC 4 dX8_clearCores_18 (by decide) ?_
    cases hF
    exact hK _ _ _ hR (lv_sub hl [1, 0] rfl)
def LX8_clearCores_23 (v0 : Nat) (v1 : Int) (h : PH) : Option ((Int × PH) ⊕ (PH)) :=
  if w32 v1 < w32 4 then (
    (FX8_core h v1).bind fun x3 =>
    (ast 0 h v0 (x3 + 0) (-1)).bind fun h4 =>
    some (.inl ((v1 + 1), h4))
  ) else (
    some (.inr h)
  )
set_option maxHeartbeats 4000000 in
set_option maxRecDepth 100000 in
theorem LRX8_clearCores_23 {v0 : Nat} {Q : State → Prop} (hC : Cx g p s m args meth c cX8_clearCores 2 RX8 none) : ∀ (n : Nat) (st : Int × PH) (ex : PH), lp (fun st : Int × PH => LX8_clearCores_23 v0 st.1 st.2) n st = some ex → (fun ex : PH => ∀ (H : Heap) (locs : List Loc) (ls : Array Slot), Rl g ad ex s.heap H locs → lv_has ls 2 [] → W p l e rmX8_clearCores s m args below meth c H locs 0 0 Q (F0 m 43 ls [])) ex → ∀ (H : Heap) (locs : List Loc) (ls : Array Slot), Rl g ad st.2 s.heap H locs → lv_has ls 2 [(0, .ref (ad v0)), (1, .int (Int32.ofInt st.1))] → W p l e rmX8_clearCores s m args below meth c H locs 0 0 Q (F0 m 23 ls []) := by
  refine lp_rule (Ph := (fun st : Int × PH => ∀ (H : Heap) (locs : List Loc) (ls : Array Slot), Rl g ad st.2 s.heap H locs → lv_has ls 2 [(0, .ref (ad v0)), (1, .int (Int32.ofInt st.1))] → W p l e rmX8_clearCores s m args below meth c H locs 0 0 Q (F0 m 23 ls []))) (Px := (fun ex : PH => ∀ (H : Heap) (locs : List Loc) (ls : Array Slot), Rl g ad ex s.heap H locs → lv_has ls 2 [] → W p l e rmX8_clearCores s m args below meth c H locs 0 0 Q (F0 m 43 ls []))) ?_
  rintro ⟨v1, h⟩ o hF hK H locs ls hR hl
  have hR : Rl g ad h s.heap H locs := hR
  have hl : lv_has ls 2 [(0, .ref (ad v0)), (1, .int (Int32.ofInt v1))] := hl
  have hF : LX8_clearCores_23 v0 v1 h = some o := hF
  unfold LX8_clearCores_23 at hF
  refine lv_iload_n hC.1 hC.2.1 dX8_clearCores_23 rfl (lv_at hl 1 rfl) ?_
  refine pw_iconst hC dX8_clearCores_24 ?_
  refine pw_icmpge hC 43 dX8_clearCores_25 (by decide) (fun hc => ?_) (fun hc => ?_)
  · rw [if_neg hc] at hF
    cases hF
    exact hK _ _ _ hR (lv_sub hl [] rfl)
  · rw [if_pos hc] at hF
    refine lv_aload_n hC.1 hC.2.1 dX8_clearCores_28 rfl (lv_at hl 0 rfl) ?_
    refine lv_iload_n hC.1 hC.2.1 dX8_clearCores_29 rfl (lv_at hl 1 rfl) ?_
    obtain ⟨x3, e3, hF⟩ := bnd hF
    refine pw_cSi (rest := [.ref (ad v0)]) hC hR lsX8_41 (CX8_core e3) ⟨rfl, rfl⟩ rfl hl.1 rfl ⟨Nat.le_of_ble_eq_true rfl, Nat.le_of_ble_eq_true rfl⟩ (Nat.le_of_ble_eq_true rfl) dX8_clearCores_30 ⟨Nat.zero_le _, Nat.zero_le _⟩ (fun H locs hR => ?_)
    refine pw_iconst hC dX8_clearCores_33 ?_
    refine pw_iadd hC dX8_clearCores_34 ?_
    refine pw_iconst hC dX8_clearCores_35 ?_
    obtain ⟨h4, e4, hF⟩ := bnd hF
    refine pw_iast hC hR e4 dX8_clearCores_36 (fun H locs hR => ?_)
    refine pw_iinc (lv' := [(1, .int (Int32.ofInt (v1 + 1))), (0, .ref (ad v0))]) hC hl 1 dX8_clearCores_37 rfl (by decide) rfl (fun ls hl => ?_)
    refine pw_goto hC 23 dX8_clearCores_40 (by decide) ?_
    cases hF
    exact hK _ _ _ hR (lv_sub hl [1, 0] rfl)
def FX8_clearCores (h : PH) (v0 : Nat) : Option (PH) :=
  (lp (fun st : Int × PH => LX8_clearCores_4 v0 st.1 st.2) FU (272, h)).bind fun ex2 =>
  (lp (fun st : Int × PH => LX8_clearCores_23 v0 st.1 st.2) FU (0, ex2)).bind fun ex5 =>
  some ex5
set_option maxHeartbeats 4000000 in
set_option maxRecDepth 100000 in
theorem CX8_clearCores {g : GP} {l : Launch} {ad : Nat → Nat} {h : PH} {v0 : Nat} {q : PH} (hF : FX8_clearCores h v0 = some q) : CN g l yX8_clearCores cX8_clearCores 2 none rmX8_clearCores ad h [.ref (ad v0)] none q := by
  refine pw_met (by decide) (Nat.le_of_ble_eq_true rfl) ?_
  intro p e s m args below meth c ls hC hN hR hl
  have hl : lv_has ls 2 [(0, .ref (ad v0))] := hl
  unfold FX8_clearCores at hF
  refine pw_sipush hC dX8_clearCores_0 rfl ?_
  refine lv_istore_n (lv' := [(1, .int (Int32.ofInt 272)), (0, .ref (ad v0))]) hC.1 hC.2.1 dX8_clearCores_3 rfl hl (by decide) rfl (fun ls hl => ?_)
  obtain ⟨ex2, e2, hF⟩ := bnd hF
  refine LRX8_clearCores_4 hC FU _ ex2 e2 ?_ _ _ _ hR (lv_sub hl [1, 0] rfl)
  intro H locs ls hR hl
  refine pw_iconst hC dX8_clearCores_21 ?_
  refine lv_istore_n (lv' := [(1, .int (Int32.ofInt 0)), (0, .ref (ad v0))]) hC.1 hC.2.1 dX8_clearCores_22 rfl hl (by decide) rfl (fun ls hl => ?_)
  obtain ⟨ex5, e5, hF⟩ := bnd hF
  refine LRX8_clearCores_23 hC FU _ ex5 e5 ?_ _ _ _ hR (lv_sub hl [1, 0] rfl)
  intro H locs ls hR hl
  cases hF
  exact pw_vret hC hR dX8_clearCores_43
abbrev rmX8_append : Room := { frames := 0, cells := 0, slots := 0, locals := 0 }
def JX8_append_76 (h : PH) (v0 : Nat) (v1 : Int) (v2 : Int) (v3 : Int) (v4 : Int) (v5 : Int) (v6 : Int) (s0 : Int) : Option ((Int × PH) ⊕ (PH)) :=
  (gfr h 8 v0 1).bind fun x3 =>
  (gfi h 8 v0 2).bind fun x4 =>
  if w32 4 = 0 then none else
  (ast 0 h x3 x4 (andI (shrI s0 (24 - (8 * (remI v6 4)))) 255)).bind fun h6 =>
  (gfi h6 8 v0 2).bind fun x7 =>
  (pfi h6 8 v0 2 (x7 + 1)).bind fun h8 =>
  some (.inl ((v6 + 1), h8))
set_option maxHeartbeats 4000000 in
set_option maxRecDepth 100000 in
theorem BX8_append_76 {h : PH} {v0 : Nat} {v1 : Int} {v2 : Int} {v3 : Int} {v4 : Int} {v5 : Int} {v6 : Int} {s0 : Int} (hC : Cx g p s m args meth c cX8_append 8 RX8 (some .int)) (hR : Rl g ad h s.heap H locs) (hl : lv_has ls 8 [(0, .ref (ad v0)), (1, .int (Int32.ofInt v1)), (2, .int (Int32.ofInt v2)), (3, .int (Int32.ofInt v3)), (4, .int (Int32.ofInt v4)), (5, .int (Int32.ofInt v5)), (6, .int (Int32.ofInt v6))]) {Q : State → Prop} {o : (Int × PH) ⊕ (PH)} (hF : JX8_append_76 h v0 v1 v2 v3 v4 v5 v6 s0 = some o) (hK : Sum.elim (fun st : Int × PH => ∀ (H : Heap) (locs : List Loc) (ls : Array Slot), Rl g ad st.2 s.heap H locs → lv_has ls 8 [(0, .ref (ad v0)), (1, .int (Int32.ofInt v1)), (2, .int (Int32.ofInt v2)), (3, .int (Int32.ofInt v3)), (4, .int (Int32.ofInt v4)), (5, .int (Int32.ofInt v5)), (6, .int (Int32.ofInt st.1))] → W p l e rmX8_append s m args below meth c H locs 0 0 Q (F0 m 23 ls [])) (fun ex : PH => ∀ (H : Heap) (locs : List Loc) (ls : Array Slot), Rl g ad ex s.heap H locs → lv_has ls 8 [(0, .ref (ad v0))] → W p l e rmX8_append s m args below meth c H locs 0 0 Q (F0 m 120 ls [])) o) : W p l e rmX8_append s m args below meth c H locs 0 0 Q (F0 m 76 ls [.int (Int32.ofInt s0)]) := by
  unfold JX8_append_76 at hF
  refine lv_istore (lv' := [(7, .int (Int32.ofInt s0)), (0, .ref (ad v0)), (1, .int (Int32.ofInt v1)), (2, .int (Int32.ofInt v2)), (3, .int (Int32.ofInt v3)), (4, .int (Int32.ofInt v4)), (5, .int (Int32.ofInt v5)), (6, .int (Int32.ofInt v6))]) hC.1 hC.2.1 dX8_append_76 hl (by decide) rfl (fun ls hl => ?_)
  refine lv_aload_n hC.1 hC.2.1 dX8_append_78 rfl (lv_at hl 1 rfl) ?_
  obtain ⟨x3, e3, hF⟩ := bnd hF
  refine pw_gfr hC hR e3 flX8_9 dX8_append_79 ?_
  refine lv_aload_n hC.1 hC.2.1 dX8_append_82 rfl (lv_at hl 1 rfl) ?_
  obtain ⟨x4, e4, hF⟩ := bnd hF
  refine pw_gfi hC hR e4 flX8_45 dX8_append_83 ?_
  refine lv_iload hC.1 hC.2.1 dX8_append_86 (lv_at hl 0 rfl) ?_
  refine pw_bipush hC dX8_append_88 rfl ?_
  refine pw_bipush hC dX8_append_90 rfl ?_
  refine lv_iload hC.1 hC.2.1 dX8_append_92 (lv_at hl 7 rfl) ?_
  refine pw_iconst hC dX8_append_94 ?_
  by_cases hn5 : w32 4 = 0
  · rw [if_pos hn5] at hF; cases hF
  rw [if_neg hn5] at hF
  refine pw_irem hC hn5 dX8_append_95 ?_
  refine pw_imul hC dX8_append_96 ?_
  refine pw_isub hC dX8_append_97 ?_
  refine pw_ishr hC dX8_append_98 ?_
  refine pw_sipush hC dX8_append_99 rfl ?_
  refine pw_iand hC dX8_append_102 ?_
  obtain ⟨h6, e6, hF⟩ := bnd hF
  refine pw_iast hC hR e6 dX8_append_103 (fun H locs hR => ?_)
  refine lv_aload_n hC.1 hC.2.1 dX8_append_104 rfl (lv_at hl 1 rfl) ?_
  refine lv_dup hC.1 hC.2.1 dX8_append_105 rfl ?_
  obtain ⟨x7, e7, hF⟩ := bnd hF
  refine pw_gfi hC hR e7 flX8_45 dX8_append_106 ?_
  refine pw_iconst hC dX8_append_109 ?_
  refine pw_iadd hC dX8_append_110 ?_
  obtain ⟨h8, e8, hF⟩ := bnd hF
  refine pw_pfi hC hR e8 fpX8_45 (Or.inl rfl) dX8_append_111 (fun H locs hR => ?_)
  refine pw_iinc (lv' := [(6, .int (Int32.ofInt (v6 + 1))), (7, .int (Int32.ofInt s0)), (0, .ref (ad v0)), (1, .int (Int32.ofInt v1)), (2, .int (Int32.ofInt v2)), (3, .int (Int32.ofInt v3)), (4, .int (Int32.ofInt v4)), (5, .int (Int32.ofInt v5))]) hC hl 7 dX8_append_114 rfl (by decide) rfl (fun ls hl => ?_)
  refine pw_goto hC 23 dX8_append_117 (by decide) ?_
  cases hF
  exact hK _ _ _ hR (lv_sub hl [2, 3, 4, 5, 6, 7, 0] rfl)
def LX8_append_23 (v0 : Nat) (v1 : Int) (v2 : Int) (v3 : Int) (v4 : Int) (v5 : Int) (v6 : Int) (h : PH) : Option ((Int × PH) ⊕ (PH)) :=
  if w32 v6 < w32 20 then (
    if w32 v6 < w32 4 then (
      JX8_append_76 h v0 v1 v2 v3 v4 v5 v6 v1
    ) else (
      if w32 v6 < w32 8 then (
        JX8_append_76 h v0 v1 v2 v3 v4 v5 v6 v2
      ) else (
        if w32 v6 < w32 12 then (
          JX8_append_76 h v0 v1 v2 v3 v4 v5 v6 v3
        ) else (
          if w32 v6 < w32 16 then (
            JX8_append_76 h v0 v1 v2 v3 v4 v5 v6 v4
          ) else (
            JX8_append_76 h v0 v1 v2 v3 v4 v5 v6 v5
          )
        )
      )
    )
  ) else (
    some (.inr h)
  )
set_option maxHeartbeats 4000000 in
set_option maxRecDepth 100000 in
theorem LRX8_append_23 {v0 : Nat} {v1 : Int} {v2 : Int} {v3 : Int} {v4 : Int} {v5 : Int} {Q : State → Prop} (hC : Cx g p s m args meth c cX8_append 8 RX8 (some .int)) : ∀ (n : Nat) (st : Int × PH) (ex : PH), lp (fun st : Int × PH => LX8_append_23 v0 v1 v2 v3 v4 v5 st.1 st.2) n st = some ex → (fun ex : PH => ∀ (H : Heap) (locs : List Loc) (ls : Array Slot), Rl g ad ex s.heap H locs → lv_has ls 8 [(0, .ref (ad v0))] → W p l e rmX8_append s m args below meth c H locs 0 0 Q (F0 m 120 ls [])) ex → ∀ (H : Heap) (locs : List Loc) (ls : Array Slot), Rl g ad st.2 s.heap H locs → lv_has ls 8 [(0, .ref (ad v0)), (1, .int (Int32.ofInt v1)), (2, .int (Int32.ofInt v2)), (3, .int (Int32.ofInt v3)), (4, .int (Int32.ofInt v4)), (5, .int (Int32.ofInt v5)), (6, .int (Int32.ofInt st.1))] → W p l e rmX8_append s m args below meth c H locs 0 0 Q (F0 m 23 ls []) := by
  refine lp_rule (Ph := (fun st : Int × PH => ∀ (H : Heap) (locs : List Loc) (ls : Array Slot), Rl g ad st.2 s.heap H locs → lv_has ls 8 [(0, .ref (ad v0)), (1, .int (Int32.ofInt v1)), (2, .int (Int32.ofInt v2)), (3, .int (Int32.ofInt v3)), (4, .int (Int32.ofInt v4)), (5, .int (Int32.ofInt v5)), (6, .int (Int32.ofInt st.1))] → W p l e rmX8_append s m args below meth c H locs 0 0 Q (F0 m 23 ls []))) (Px := (fun ex : PH => ∀ (H : Heap) (locs : List Loc) (ls : Array Slot), Rl g ad ex s.heap H locs → lv_has ls 8 [(0, .ref (ad v0))] → W p l e rmX8_append s m args below meth c H locs 0 0 Q (F0 m 120 ls []))) ?_
  rintro ⟨v6, h⟩ o hF hK H locs ls hR hl
  have hR : Rl g ad h s.heap H locs := hR
  have hl : lv_has ls 8 [(0, .ref (ad v0)), (1, .int (Int32.ofInt v1)), (2, .int (Int32.ofInt v2)), (3, .int (Int32.ofInt v3)), (4, .int (Int32.ofInt v4)), (5, .int (Int32.ofInt v5)), (6, .int (Int32.ofInt v6))] := hl
  have hF : LX8_append_23 v0 v1 v2 v3 v4 v5 v6 h = some o := hF
  unfold LX8_append_23 at hF
  refine lv_iload hC.1 hC.2.1 dX8_append_23 (lv_at hl 6 rfl) ?_
  refine pw_bipush hC dX8_append_25 rfl ?_
  refine pw_icmpge hC 120 dX8_append_27 (by decide) (fun hc => ?_) (fun hc => ?_)
  · rw [if_neg hc] at hF
    cases hF
    exact hK _ _ _ hR (lv_sub hl [0] rfl)
  · rw [if_pos hc] at hF
    refine lv_iload hC.1 hC.2.1 dX8_append_30 (lv_at hl 6 rfl) ?_
    refine pw_iconst hC dX8_append_32 ?_
    refine pw_icmpge hC 40 dX8_append_33 (by decide) (fun hc => ?_) (fun hc => ?_)
    · rw [if_neg hc] at hF
      refine lv_iload hC.1 hC.2.1 dX8_append_40 (lv_at hl 6 rfl) ?_
      refine pw_bipush hC dX8_append_42 rfl ?_
      refine pw_icmpge hC 51 dX8_append_44 (by decide) (fun hc => ?_) (fun hc => ?_)
      · rw [if_neg hc] at hF
        refine lv_iload hC.1 hC.2.1 dX8_append_51 (lv_at hl 6 rfl) ?_
        refine pw_bipush hC dX8_append_53 rfl ?_
        refine pw_icmpge hC 62 dX8_append_55 (by decide) (fun hc => ?_) (fun hc => ?_)
        · rw [if_neg hc] at hF
          refine lv_iload hC.1 hC.2.1 dX8_append_62 (lv_at hl 6 rfl) ?_
          refine pw_bipush hC dX8_append_64 rfl ?_
          refine pw_icmpge hC 74 dX8_append_66 (by decide) (fun hc => ?_) (fun hc => ?_)
          · rw [if_neg hc] at hF
            refine lv_iload hC.1 hC.2.1 dX8_append_74 (lv_at hl 5 rfl) ?_
            exact BX8_append_76 hC hR (lv_sub hl [0, 1, 2, 3, 4, 5, 6] rfl) hF hK
          · rw [if_pos hc] at hF
            refine lv_iload hC.1 hC.2.1 dX8_append_69 (lv_at hl 4 rfl) ?_
            refine pw_goto hC 76 dX8_append_71 (by decide) ?_
            exact BX8_append_76 hC hR (lv_sub hl [0, 1, 2, 3, 4, 5, 6] rfl) hF hK
        · rw [if_pos hc] at hF
          refine lv_iload_n hC.1 hC.2.1 dX8_append_58 rfl (lv_at hl 3 rfl) ?_
          refine pw_goto hC 76 dX8_append_59 (by decide) ?_
          exact BX8_append_76 hC hR (lv_sub hl [0, 1, 2, 3, 4, 5, 6] rfl) hF hK
      · rw [if_pos hc] at hF
        refine lv_iload_n hC.1 hC.2.1 dX8_append_47 rfl (lv_at hl 2 rfl) ?_
        refine pw_goto hC 76 dX8_append_48 (by decide) ?_
        exact BX8_append_76 hC hR (lv_sub hl [0, 1, 2, 3, 4, 5, 6] rfl) hF hK
    · rw [if_pos hc] at hF
      refine lv_iload_n hC.1 hC.2.1 dX8_append_36 rfl (lv_at hl 1 rfl) ?_
      refine pw_goto hC 76 dX8_append_37 (by decide) ?_
      exact BX8_append_76 hC hR (lv_sub hl [0, 1, 2, 3, 4, 5, 6] rfl) hF hK
def FX8_append (h : PH) (v0 : Nat) (v1 : Int) (v2 : Int) (v3 : Int) (v4 : Int) (v5 : Int) : Option (Int × PH) :=
  (isO h 8 v0).bind fun _ =>
  (pfi h 8 v0 0 0).bind fun h1 =>
  (gfi h1 8 v0 2).bind fun x2 =>
  if w32 900 < w32 (x2 + 20) then (
    some ((-1), h1)
  ) else (
    (lp (fun st : Int × PH => LX8_append_23 v0 v1 v2 v3 v4 v5 st.1 st.2) FU (0, h1)).bind fun ex9 =>
    (gfi ex9 8 v0 2).bind fun x10 =>
    some (x10, ex9)
  )
theorem OX8_append {h : PH} {v0 : Nat} {v1 : Int} {v2 : Int} {v3 : Int} {v4 : Int} {v5 : Int} {q : Int × PH} (hF : FX8_append h v0 v1 v2 v3 v4 v5 = some q) : ∃ fs : List PV, h[v0]? = some (.inr (8, fs)) := by
  unfold FX8_append at hF
  obtain ⟨u0, e0, -⟩ := bnd hF
  exact isO_spec e0
set_option maxHeartbeats 4000000 in
set_option maxRecDepth 100000 in
theorem CX8_append {g : GP} {l : Launch} {ad : Nat → Nat} {h : PH} {v0 : Nat} {v1 : Int} {v2 : Int} {v3 : Int} {v4 : Int} {v5 : Int} {q : Int × PH} (hF : FX8_append h v0 v1 v2 v3 v4 v5 = some q) : CN g l yX8_append cX8_append 8 (some .int) rmX8_append ad h [.ref (ad v0), .int (Int32.ofInt v1), .int (Int32.ofInt v2), .int (Int32.ofInt v3), .int (Int32.ofInt v4), .int (Int32.ofInt v5)] (some (.int (Int32.ofInt q.1))) q.2 := by
  refine pw_met (by decide) (Nat.le_of_ble_eq_true rfl) ?_
  intro p e s m args below meth c ls hC hN hR hl
  have hl : lv_has ls 8 [(0, .ref (ad v0)), (1, .int (Int32.ofInt v1)), (2, .int (Int32.ofInt v2)), (3, .int (Int32.ofInt v3)), (4, .int (Int32.ofInt v4)), (5, .int (Int32.ofInt v5))] := hl
  unfold FX8_append at hF
  obtain ⟨u0, e0, hF⟩ := bnd hF
  refine lv_aload_n hC.1 hC.2.1 dX8_append_0 rfl (lv_at hl 0 rfl) ?_
  refine pw_iconst hC dX8_append_1 ?_
  obtain ⟨h1, e1, hF⟩ := bnd hF
  refine pw_pfi hC hR e1 fpX8_38 (Or.inl rfl) dX8_append_2 (fun H locs hR => ?_)
  refine lv_aload_n hC.1 hC.2.1 dX8_append_5 rfl (lv_at hl 0 rfl) ?_
  obtain ⟨x2, e2, hF⟩ := bnd hF
  refine pw_gfi hC hR e2 flX8_45 dX8_append_6 ?_
  refine pw_bipush hC dX8_append_9 rfl ?_
  refine pw_iadd hC dX8_append_11 ?_
  refine pw_sipush hC dX8_append_12 rfl ?_
  refine pw_icmple hC 20 dX8_append_15 (by decide) (fun hc => ?_) (fun hc => ?_)
  · rw [if_neg hc] at hF
    refine pw_iconst hC dX8_append_20 ?_
    refine lv_istore (lv' := [(6, .int (Int32.ofInt 0)), (0, .ref (ad v0)), (1, .int (Int32.ofInt v1)), (2, .int (Int32.ofInt v2)), (3, .int (Int32.ofInt v3)), (4, .int (Int32.ofInt v4)), (5, .int (Int32.ofInt v5))]) hC.1 hC.2.1 dX8_append_21 hl (by decide) rfl (fun ls hl => ?_)
    obtain ⟨ex9, e9, hF⟩ := bnd hF
    refine LRX8_append_23 hC FU _ ex9 e9 ?_ _ _ _ hR (lv_sub hl [1, 2, 3, 4, 5, 6, 0] rfl)
    intro H locs ls hR hl
    refine lv_aload_n hC.1 hC.2.1 dX8_append_120 rfl (lv_at hl 0 rfl) ?_
    obtain ⟨x10, e10, hF⟩ := bnd hF
    refine pw_gfi hC hR e10 flX8_45 dX8_append_121 ?_
    cases hF
    exact pw_iret hC hR dX8_append_124
  · rw [if_pos hc] at hF
    refine pw_iconst hC dX8_append_18 ?_
    cases hF
    exact pw_iret hC hR dX8_append_19
abbrev rmX8_byteAt : Room := { frames := 0, cells := 0, slots := 0, locals := 0 }
def JX8_byteAt_18 (h : PH) (s0 : Int) : Option (Int) :=
  some s0
set_option maxHeartbeats 4000000 in
set_option maxRecDepth 100000 in
theorem BX8_byteAt_18 {h : PH} {s0 : Int} (hC : Cx g p s m args meth c cX8_byteAt 2 RX8 (some .int)) (hR : Rl g ad h s.heap H locs) (hl : lv_has ls 2 []) {q : Int} (hF : JX8_byteAt_18 h s0 = some q) : W p l e rmX8_byteAt s m args below meth c H locs 0 0 (MQ below (QcN g ad h (some (.int (Int32.ofInt q)))) args s 0 0 (gA g)) (F0 m 18 ls [.int (Int32.ofInt s0)]) := by
  unfold JX8_byteAt_18 at hF
  cases hF
  exact pw_iret hC hR dX8_byteAt_18
def FX8_byteAt (h : PH) (v0 : Nat) (v1 : Int) : Option (Int) :=
  (isO h 8 v0).bind fun _ =>
  (gfi h 8 v0 3).bind fun x1 =>
  if w32 v1 < w32 x1 then (
    (gfr h 8 v0 1).bind fun x2 =>
    (ald 0 h x2 v1).bind fun x3 =>
    JX8_byteAt_18 h x3
  ) else (
    JX8_byteAt_18 h (-1)
  )
theorem OX8_byteAt {h : PH} {v0 : Nat} {v1 : Int} {q : Int} (hF : FX8_byteAt h v0 v1 = some q) : ∃ fs : List PV, h[v0]? = some (.inr (8, fs)) := by
  unfold FX8_byteAt at hF
  obtain ⟨u0, e0, -⟩ := bnd hF
  exact isO_spec e0
set_option maxHeartbeats 4000000 in
set_option maxRecDepth 100000 in
theorem CX8_byteAt {g : GP} {l : Launch} {ad : Nat → Nat} {h : PH} {v0 : Nat} {v1 : Int} {q : Int} (hF : FX8_byteAt h v0 v1 = some q) : CN g l yX8_byteAt cX8_byteAt 2 (some .int) rmX8_byteAt ad h [.ref (ad v0), .int (Int32.ofInt v1)] (some (.int (Int32.ofInt q))) h := by
  refine pw_met (by decide) (Nat.le_of_ble_eq_true rfl) ?_
  intro p e s m args below meth c ls hC hN hR hl
  have hl : lv_has ls 2 [(0, .ref (ad v0)), (1, .int (Int32.ofInt v1))] := hl
  unfold FX8_byteAt at hF
  obtain ⟨u0, e0, hF⟩ := bnd hF
  refine lv_iload_n hC.1 hC.2.1 dX8_byteAt_0 rfl (lv_at hl 1 rfl) ?_
  refine lv_aload_n hC.1 hC.2.1 dX8_byteAt_1 rfl (lv_at hl 0 rfl) ?_
  obtain ⟨x1, e1, hF⟩ := bnd hF
  refine pw_gfi hC hR e1 flX8_48 dX8_byteAt_2 ?_
  refine pw_icmpge hC 17 dX8_byteAt_5 (by decide) (fun hc => ?_) (fun hc => ?_)
  · rw [if_neg hc] at hF
    refine pw_iconst hC dX8_byteAt_17 ?_
    exact BX8_byteAt_18 hC hR (lv_sub hl [] rfl) hF
  · rw [if_pos hc] at hF
    refine lv_aload_n hC.1 hC.2.1 dX8_byteAt_8 rfl (lv_at hl 0 rfl) ?_
    obtain ⟨x2, e2, hF⟩ := bnd hF
    refine pw_gfr hC hR e2 flX8_9 dX8_byteAt_9 ?_
    refine lv_iload_n hC.1 hC.2.1 dX8_byteAt_12 rfl (lv_at hl 1 rfl) ?_
    obtain ⟨x3, e3, hF⟩ := bnd hF
    refine pw_iald hC hR e3 dX8_byteAt_13 ?_
    refine pw_goto hC 18 dX8_byteAt_14 (by decide) ?_
    exact BX8_byteAt_18 hC hR (lv_sub hl [] rfl) hF
abbrev rmX8_next : Room := { frames := 1, cells := 0, slots := 0, locals := 21 }
def LX8_next_0 (v0 : Nat) (h : PH) : Option ((PH) ⊕ (PH)) :=
  (gfi h 8 v0 4).bind fun x1 =>
  (FX8_byteAt h v0 x1).bind fun x2 =>
  if w32 x2 = w32 32 then (
    (gfi h 8 v0 4).bind fun x3 =>
    (pfi h 8 v0 4 (x3 + 1)).bind fun h4 =>
    some (.inl h4)
  ) else (
    some (.inr h)
  )
set_option maxHeartbeats 4000000 in
set_option maxRecDepth 100000 in
theorem LRX8_next_0 {v0 : Nat} {Q : State → Prop} (hC : Cx g p s m args meth c cX8_next 1 RX8 (some .int)) : ∀ (n : Nat) (st : PH) (ex : PH), lp (fun st : PH => LX8_next_0 v0 st) n st = some ex → (fun ex : PH => ∀ (H : Heap) (locs : List Loc) (ls : Array Slot), Rl g ad ex s.heap H locs → lv_has ls 1 [(0, .ref (ad v0))] → W p l e rmX8_next s m args below meth c H locs 0 0 Q (F0 m 26 ls [])) ex → ∀ (H : Heap) (locs : List Loc) (ls : Array Slot), Rl g ad st s.heap H locs → lv_has ls 1 [(0, .ref (ad v0))] → W p l e rmX8_next s m args below meth c H locs 0 0 Q (F0 m 0 ls []) := by
  refine lp_rule (Ph := (fun st : PH => ∀ (H : Heap) (locs : List Loc) (ls : Array Slot), Rl g ad st s.heap H locs → lv_has ls 1 [(0, .ref (ad v0))] → W p l e rmX8_next s m args below meth c H locs 0 0 Q (F0 m 0 ls []))) (Px := (fun ex : PH => ∀ (H : Heap) (locs : List Loc) (ls : Array Slot), Rl g ad ex s.heap H locs → lv_has ls 1 [(0, .ref (ad v0))] → W p l e rmX8_next s m args below meth c H locs 0 0 Q (F0 m 26 ls []))) ?_
  rintro h o hF hK H locs ls hR hl
  have hR : Rl g ad h s.heap H locs := hR
  have hl : lv_has ls 1 [(0, .ref (ad v0))] := hl
  have hF : LX8_next_0 v0 h = some o := hF
  unfold LX8_next_0 at hF
  refine lv_aload_n hC.1 hC.2.1 dX8_next_0 rfl (lv_at hl 0 rfl) ?_
  refine lv_aload_n hC.1 hC.2.1 dX8_next_1 rfl (lv_at hl 0 rfl) ?_
  obtain ⟨x1, e1, hF⟩ := bnd hF
  refine pw_gfi hC hR e1 flX8_51 dX8_next_2 ?_
  obtain ⟨x2, e2, hF⟩ := bnd hF
  obtain ⟨fs2, ho2⟩ := OX8_byteAt e2
  refine pw_cVi (rest := []) hC hR lvX8_54 ho2 (CX8_byteAt e2) ⟨rfl, rfl⟩ rfl hl.1 rfl ⟨Nat.le_of_ble_eq_true rfl, Nat.le_of_ble_eq_true rfl⟩ (Nat.le_of_ble_eq_true rfl) dX8_next_5 ⟨Nat.zero_le _, Nat.zero_le _⟩ (fun H locs hR => ?_)
  refine pw_bipush hC dX8_next_8 rfl ?_
  refine pw_icmpne hC 26 dX8_next_10 (by decide) (fun hc => ?_) (fun hc => ?_)
  · rw [if_neg hc] at hF
    cases hF
    exact hK _ _ _ hR (lv_sub hl [0] rfl)
  · rw [if_pos hc] at hF
    refine lv_aload_n hC.1 hC.2.1 dX8_next_13 rfl (lv_at hl 0 rfl) ?_
    refine lv_dup hC.1 hC.2.1 dX8_next_14 rfl ?_
    obtain ⟨x3, e3, hF⟩ := bnd hF
    refine pw_gfi hC hR e3 flX8_51 dX8_next_15 ?_
    refine pw_iconst hC dX8_next_18 ?_
    refine pw_iadd hC dX8_next_19 ?_
    obtain ⟨h4, e4, hF⟩ := bnd hF
    refine pw_pfi hC hR e4 fpX8_51 (Or.inl rfl) dX8_next_20 (fun H locs hR => ?_)
    refine pw_goto hC 0 dX8_next_23 (by decide) ?_
    cases hF
    exact hK _ _ _ hR (lv_sub hl [0] rfl)
def FX8_next (h : PH) (v0 : Nat) : Option (Int × PH) :=
  (isO h 8 v0).bind fun _ =>
  (lp (fun st : PH => LX8_next_0 v0 st) FU h).bind fun ex5 =>
  (gfi ex5 8 v0 4).bind fun x6 =>
  (FX8_byteAt ex5 v0 x6).bind fun x7 =>
  some (x7, ex5)
theorem OX8_next {h : PH} {v0 : Nat} {q : Int × PH} (hF : FX8_next h v0 = some q) : ∃ fs : List PV, h[v0]? = some (.inr (8, fs)) := by
  unfold FX8_next at hF
  obtain ⟨u0, e0, -⟩ := bnd hF
  exact isO_spec e0
set_option maxHeartbeats 4000000 in
set_option maxRecDepth 100000 in
theorem CX8_next {g : GP} {l : Launch} {ad : Nat → Nat} {h : PH} {v0 : Nat} {q : Int × PH} (hF : FX8_next h v0 = some q) : CN g l yX8_next cX8_next 1 (some .int) rmX8_next ad h [.ref (ad v0)] (some (.int (Int32.ofInt q.1))) q.2 := by
  refine pw_met (by decide) (Nat.le_of_ble_eq_true rfl) ?_
  intro p e s m args below meth c ls hC hN hR hl
  have hl : lv_has ls 1 [(0, .ref (ad v0))] := hl
  unfold FX8_next at hF
  obtain ⟨u0, e0, hF⟩ := bnd hF
  obtain ⟨ex5, e5, hF⟩ := bnd hF
  refine LRX8_next_0 hC FU _ ex5 e5 ?_ _ _ _ hR (lv_sub hl [0] rfl)
  intro H locs ls hR hl
  refine lv_aload_n hC.1 hC.2.1 dX8_next_26 rfl (lv_at hl 0 rfl) ?_
  refine lv_aload_n hC.1 hC.2.1 dX8_next_27 rfl (lv_at hl 0 rfl) ?_
  obtain ⟨x6, e6, hF⟩ := bnd hF
  refine pw_gfi hC hR e6 flX8_51 dX8_next_28 ?_
  obtain ⟨x7, e7, hF⟩ := bnd hF
  obtain ⟨fs7, ho7⟩ := OX8_byteAt e7
  refine pw_cVi (rest := []) hC hR lvX8_54 ho7 (CX8_byteAt e7) ⟨rfl, rfl⟩ rfl hl.1 rfl ⟨Nat.le_of_ble_eq_true rfl, Nat.le_of_ble_eq_true rfl⟩ (Nat.le_of_ble_eq_true rfl) dX8_next_31 ⟨Nat.zero_le _, Nat.zero_le _⟩ (fun H locs hR => ?_)
  cases hF
  exact pw_iret hC hR dX8_next_34
abbrev rmX8_isGood : Room := { frames := 0, cells := 0, slots := 0, locals := 0 }
def JX8_isGood_12 (h : PH) (s0 : Int) : Option (Int) :=
  if s0 = 0 ∨ s0 = 1 then some s0 else none
set_option maxHeartbeats 4000000 in
set_option maxRecDepth 100000 in
theorem BX8_isGood_12 {h : PH} {s0 : Int} (hC : Cx g p s m args meth c cX8_isGood 1 RX8 (some .boolean)) (hR : Rl g ad h s.heap H locs) (hl : lv_has ls 1 []) {q : Int} (hF : JX8_isGood_12 h s0 = some q) : W p l e rmX8_isGood s m args below meth c H locs 0 0 (MQ below (QcN g ad h (some (.int (Int32.ofInt q)))) args s 0 0 (gA g)) (F0 m 12 ls [.int (Int32.ofInt s0)]) := by
  unfold JX8_isGood_12 at hF
  by_cases hb2 : s0 = 0 ∨ s0 = 1
  · rw [if_pos hb2] at hF
    cases hF
    exact pw_zret hC hR hb2 dX8_isGood_12
  · rw [if_neg hb2] at hF; cases hF
def FX8_isGood (h : PH) (v0 : Nat) : Option (Int) :=
  (isO h 8 v0).bind fun _ =>
  (gfi h 8 v0 5).bind fun x1 =>
  if w32 x1 = 0 then (
    JX8_isGood_12 h 1
  ) else (
    JX8_isGood_12 h 0
  )
theorem OX8_isGood {h : PH} {v0 : Nat} {q : Int} (hF : FX8_isGood h v0 = some q) : ∃ fs : List PV, h[v0]? = some (.inr (8, fs)) := by
  unfold FX8_isGood at hF
  obtain ⟨u0, e0, -⟩ := bnd hF
  exact isO_spec e0
set_option maxHeartbeats 4000000 in
set_option maxRecDepth 100000 in
theorem CX8_isGood {g : GP} {l : Launch} {ad : Nat → Nat} {h : PH} {v0 : Nat} {q : Int} (hF : FX8_isGood h v0 = some q) : CN g l yX8_isGood cX8_isGood 1 (some .boolean) rmX8_isGood ad h [.ref (ad v0)] (some (.int (Int32.ofInt q))) h := by
  refine pw_met (by decide) (Nat.le_of_ble_eq_true rfl) ?_
  intro p e s m args below meth c ls hC hN hR hl
  have hl : lv_has ls 1 [(0, .ref (ad v0))] := hl
  unfold FX8_isGood at hF
  obtain ⟨u0, e0, hF⟩ := bnd hF
  refine lv_aload_n hC.1 hC.2.1 dX8_isGood_0 rfl (lv_at hl 0 rfl) ?_
  obtain ⟨x1, e1, hF⟩ := bnd hF
  refine pw_gfi hC hR e1 flX8_57 dX8_isGood_1 ?_
  refine pw_ifne hC 11 dX8_isGood_4 (by decide) (fun hc => ?_) (fun hc => ?_)
  · rw [if_neg hc] at hF
    refine pw_iconst hC dX8_isGood_11 ?_
    exact BX8_isGood_12 hC hR (lv_sub hl [] rfl) hF
  · rw [if_pos hc] at hF
    refine pw_iconst hC dX8_isGood_7 ?_
    refine pw_goto hC 12 dX8_isGood_8 (by decide) ?_
    exact BX8_isGood_12 hC hR (lv_sub hl [] rfl) hF
abbrev rmX8_report : Room := { frames := 0, cells := 0, slots := 0, locals := 0 }
def FX8_report (h : PH) (v0 : Nat) (v1 : Int) (v2 : Int) : Option (PH) :=
  (isO h 8 v0).bind fun _ =>
  (gfi h 8 v0 5).bind fun x1 =>
  if w32 x1 = 0 then (
    (pfi h 8 v0 5 v1).bind fun h2 =>
    (pfi h2 8 v0 6 v2).bind fun h3 =>
    some h3
  ) else (
    some h
  )
theorem OX8_report {h : PH} {v0 : Nat} {v1 : Int} {v2 : Int} {q : PH} (hF : FX8_report h v0 v1 v2 = some q) : ∃ fs : List PV, h[v0]? = some (.inr (8, fs)) := by
  unfold FX8_report at hF
  obtain ⟨u0, e0, -⟩ := bnd hF
  exact isO_spec e0
set_option maxHeartbeats 4000000 in
set_option maxRecDepth 100000 in
theorem CX8_report {g : GP} {l : Launch} {ad : Nat → Nat} {h : PH} {v0 : Nat} {v1 : Int} {v2 : Int} {q : PH} (hF : FX8_report h v0 v1 v2 = some q) : CN g l yX8_report cX8_report 3 none rmX8_report ad h [.ref (ad v0), .int (Int32.ofInt v1), .int (Int32.ofInt v2)] none q := by
  refine pw_met (by decide) (Nat.le_of_ble_eq_true rfl) ?_
  intro p e s m args below meth c ls hC hN hR hl
  have hl : lv_has ls 3 [(0, .ref (ad v0)), (1, .int (Int32.ofInt v1)), (2, .int (Int32.ofInt v2))] := hl
  unfold FX8_report at hF
  obtain ⟨u0, e0, hF⟩ := bnd hF
  refine lv_aload_n hC.1 hC.2.1 dX8_report_0 rfl (lv_at hl 0 rfl) ?_
  obtain ⟨x1, e1, hF⟩ := bnd hF
  refine pw_gfi hC hR e1 flX8_57 dX8_report_1 ?_
  refine pw_ifeq hC 8 dX8_report_4 (by decide) (fun hc => ?_) (fun hc => ?_)
  · rw [if_pos hc] at hF
    refine lv_aload_n hC.1 hC.2.1 dX8_report_8 rfl (lv_at hl 0 rfl) ?_
    refine lv_iload_n hC.1 hC.2.1 dX8_report_9 rfl (lv_at hl 1 rfl) ?_
    obtain ⟨h2, e2, hF⟩ := bnd hF
    refine pw_pfi hC hR e2 fpX8_57 (Or.inl rfl) dX8_report_10 (fun H locs hR => ?_)
    refine lv_aload_n hC.1 hC.2.1 dX8_report_13 rfl (lv_at hl 0 rfl) ?_
    refine lv_iload_n hC.1 hC.2.1 dX8_report_14 rfl (lv_at hl 2 rfl) ?_
    obtain ⟨h3, e3, hF⟩ := bnd hF
    refine pw_pfi hC hR e3 fpX8_60 (Or.inl rfl) dX8_report_15 (fun H locs hR => ?_)
    cases hF
    exact pw_vret hC hR dX8_report_18
  · rw [if_neg hc] at hF
    cases hF
    exact pw_vret hC hR dX8_report_7
abbrev rmX8_isDigit : Room := { frames := 1, cells := 0, slots := 0, locals := 22 }
def FX8_isDigit (h : PH) (v0 : Int) : Option (Int) :=
  (FX8_in h v0 48 57).bind fun x1 =>
  if x1 = 0 ∨ x1 = 1 then some x1 else none
set_option maxHeartbeats 4000000 in
set_option maxRecDepth 100000 in
theorem CX8_isDigit {g : GP} {l : Launch} {ad : Nat → Nat} {h : PH} {v0 : Int} {q : Int} (hF : FX8_isDigit h v0 = some q) : CN g l yX8_isDigit cX8_isDigit 1 (some .boolean) rmX8_isDigit ad h [.int (Int32.ofInt v0)] (some (.int (Int32.ofInt q))) h := by
  refine pw_met (by decide) (Nat.le_of_ble_eq_true rfl) ?_
  intro p e s m args below meth c ls hC hN hR hl
  have hl : lv_has ls 1 [(0, .int (Int32.ofInt v0))] := hl
  unfold FX8_isDigit at hF
  refine lv_iload_n hC.1 hC.2.1 dX8_isDigit_0 rfl (lv_at hl 0 rfl) ?_
  refine pw_bipush hC dX8_isDigit_1 rfl ?_
  refine pw_bipush hC dX8_isDigit_3 rfl ?_
  obtain ⟨x1, e1, hF⟩ := bnd hF
  refine pw_cSi (rest := []) hC hR lsX8_63 (CX8_in e1) ⟨rfl, rfl⟩ rfl hl.1 rfl ⟨Nat.le_of_ble_eq_true rfl, Nat.le_of_ble_eq_true rfl⟩ (Nat.le_of_ble_eq_true rfl) dX8_isDigit_5 ⟨Nat.zero_le _, Nat.zero_le _⟩ (fun H locs hR => ?_)
  by_cases hb2 : x1 = 0 ∨ x1 = 1
  · rw [if_pos hb2] at hF
    cases hF
    exact pw_zret hC hR hb2 dX8_isDigit_8
  · rw [if_neg hb2] at hF; cases hF
abbrev rmX8_expect : Room := { frames := 2, cells := 0, slots := 0, locals := 41 }
def JX8_expect_39 (h : PH) : Option (PH) :=
  some h
set_option maxHeartbeats 4000000 in
set_option maxRecDepth 100000 in
theorem BX8_expect_39 {h : PH} (hC : Cx g p s m args meth c cX8_expect 2 RX8 none) (hR : Rl g ad h s.heap H locs) (hl : lv_has ls 2 []) {q : PH} (hF : JX8_expect_39 h  = some q) : W p l e rmX8_expect s m args below meth c H locs 0 0 (MQ below (QcN g ad q none) args s 0 0 (gA g)) (F0 m 39 ls []) := by
  unfold JX8_expect_39 at hF
  cases hF
  exact pw_vret hC hR dX8_expect_39
def FX8_expect (h : PH) (v0 : Nat) (v1 : Int) : Option (PH) :=
  (isO h 8 v0).bind fun _ =>
  (FX8_isGood h v0).bind fun x1 =>
  if w32 x1 = 0 then (
    some h
  ) else (
    (FX8_next h v0).bind fun q2 =>
    if w32 q2.1 = w32 v1 then (
      (gfi q2.2 8 v0 4).bind fun x5 =>
      (pfi q2.2 8 v0 4 (x5 + 1)).bind fun h6 =>
      JX8_expect_39 h6
    ) else (
      (gfi q2.2 8 v0 4).bind fun x3 =>
      (FX8_report q2.2 v0 (-2) x3).bind fun h4 =>
      JX8_expect_39 h4
    )
  )
theorem OX8_expect {h : PH} {v0 : Nat} {v1 : Int} {q : PH} (hF : FX8_expect h v0 v1 = some q) : ∃ fs : List PV, h[v0]? = some (.inr (8, fs)) := by
  unfold FX8_expect at hF
  obtain ⟨u0, e0, -⟩ := bnd hF
  exact isO_spec e0
set_option maxHeartbeats 4000000 in
set_option maxRecDepth 100000 in
theorem CX8_expect {g : GP} {l : Launch} {ad : Nat → Nat} {h : PH} {v0 : Nat} {v1 : Int} {q : PH} (hF : FX8_expect h v0 v1 = some q) : CN g l yX8_expect cX8_expect 2 none rmX8_expect ad h [.ref (ad v0), .int (Int32.ofInt v1)] none q := by
  refine pw_met (by decide) (Nat.le_of_ble_eq_true rfl) ?_
  intro p e s m args below meth c ls hC hN hR hl
  have hl : lv_has ls 2 [(0, .ref (ad v0)), (1, .int (Int32.ofInt v1))] := hl
  unfold FX8_expect at hF
  obtain ⟨u0, e0, hF⟩ := bnd hF
  refine lv_aload_n hC.1 hC.2.1 dX8_expect_0 rfl (lv_at hl 0 rfl) ?_
  obtain ⟨x1, e1, hF⟩ := bnd hF
  obtain ⟨fs1, ho1⟩ := OX8_isGood e1
  refine pw_cVi (rest := []) hC hR lvX8_67 ho1 (CX8_isGood e1) ⟨rfl, rfl⟩ rfl hl.1 rfl ⟨Nat.le_of_ble_eq_true rfl, Nat.le_of_ble_eq_true rfl⟩ (Nat.le_of_ble_eq_true rfl) dX8_expect_1 ⟨Nat.zero_le _, Nat.zero_le _⟩ (fun H locs hR => ?_)
  refine pw_ifne hC 8 dX8_expect_4 (by decide) (fun hc => ?_) (fun hc => ?_)
  · rw [if_neg hc] at hF
    refine lv_aload_n hC.1 hC.2.1 dX8_expect_8 rfl (lv_at hl 0 rfl) ?_
    obtain ⟨q2, e2, hF⟩ := bnd hF
    obtain ⟨fs2, ho2⟩ := OX8_next e2
    refine pw_cVi (rest := []) hC hR lvX8_71 ho2 (CX8_next e2) ⟨rfl, rfl⟩ rfl hl.1 rfl ⟨Nat.le_of_ble_eq_true rfl, Nat.le_of_ble_eq_true rfl⟩ (Nat.le_of_ble_eq_true rfl) dX8_expect_9 ⟨Nat.zero_le _, Nat.zero_le _⟩ (fun H locs hR => ?_)
    refine lv_iload_n hC.1 hC.2.1 dX8_expect_12 rfl (lv_at hl 1 rfl) ?_
    refine pw_icmpne hC 29 dX8_expect_13 (by decide) (fun hc => ?_) (fun hc => ?_)
    · rw [if_neg hc] at hF
      refine lv_aload_n hC.1 hC.2.1 dX8_expect_29 rfl (lv_at hl 0 rfl) ?_
      refine pw_bipush hC dX8_expect_30 rfl ?_
      refine lv_aload_n hC.1 hC.2.1 dX8_expect_32 rfl (lv_at hl 0 rfl) ?_
      obtain ⟨x3, e3, hF⟩ := bnd hF
      refine pw_gfi hC hR e3 flX8_51 dX8_expect_33 ?_
      obtain ⟨h4, e4, hF⟩ := bnd hF
      obtain ⟨fs4, ho4⟩ := OX8_report e4
      refine pw_cVv (rest := []) hC hR lvX8_84 ho4 (CX8_report e4) ⟨rfl, rfl⟩ rfl hl.1 rfl ⟨Nat.le_of_ble_eq_true rfl, Nat.le_of_ble_eq_true rfl⟩ (Nat.le_of_ble_eq_true rfl) dX8_expect_36 ⟨Nat.zero_le _, Nat.zero_le _⟩ (fun H locs hR => ?_)
      exact BX8_expect_39 hC hR (lv_sub hl [] rfl) hF
    · rw [if_pos hc] at hF
      refine lv_aload_n hC.1 hC.2.1 dX8_expect_16 rfl (lv_at hl 0 rfl) ?_
      refine lv_dup hC.1 hC.2.1 dX8_expect_17 rfl ?_
      obtain ⟨x5, e5, hF⟩ := bnd hF
      refine pw_gfi hC hR e5 flX8_51 dX8_expect_18 ?_
      refine pw_iconst hC dX8_expect_21 ?_
      refine pw_iadd hC dX8_expect_22 ?_
      obtain ⟨h6, e6, hF⟩ := bnd hF
      refine pw_pfi hC hR e6 fpX8_51 (Or.inl rfl) dX8_expect_23 (fun H locs hR => ?_)
      refine pw_goto hC 39 dX8_expect_26 (by decide) ?_
      exact BX8_expect_39 hC hR (lv_sub hl [] rfl) hF
  · rw [if_pos hc] at hF
    cases hF
    exact pw_vret hC hR dX8_expect_7
abbrev rmX8_number : Room := { frames := 2, cells := 0, slots := 0, locals := 42 }
def LX8_number_41 (v0 : Nat) (v1 : Int) (v2 : Int) (v3 : Int) (h : PH) : Option ((Int × PH) ⊕ (Int × PH)) :=
  (gfi h 8 v0 4).bind fun x6 =>
  (FX8_byteAt h v0 x6).bind fun x7 =>
  (FX8_isDigit h x7).bind fun x8 =>
  if w32 x8 = 0 then (
    some (.inr (v3, h))
  ) else (
    (gfi h 8 v0 4).bind fun x9 =>
    (FX8_byteAt h v0 x9).bind fun x10 =>
    (FX8_min h 1000000 (((10 * v3) + x10) - 48)).bind fun x11 =>
    (gfi h 8 v0 4).bind fun x12 =>
    (pfi h 8 v0 4 (x12 + 1)).bind fun h13 =>
    some (.inl (x11, h13))
  )
set_option maxHeartbeats 4000000 in
set_option maxRecDepth 100000 in
theorem LRX8_number_41 {v0 : Nat} {v1 : Int} {v2 : Int} {Q : State → Prop} (hC : Cx g p s m args meth c cX8_number 4 RX8 (some .int)) : ∀ (n : Nat) (st : Int × PH) (ex : Int × PH), lp (fun st : Int × PH => LX8_number_41 v0 v1 v2 st.1 st.2) n st = some ex → (fun ex : Int × PH => ∀ (H : Heap) (locs : List Loc) (ls : Array Slot), Rl g ad ex.2 s.heap H locs → lv_has ls 4 [(0, .ref (ad v0)), (1, .int (Int32.ofInt v1)), (2, .int (Int32.ofInt v2)), (3, .int (Int32.ofInt ex.1))] → W p l e rmX8_number s m args below meth c H locs 0 0 Q (F0 m 90 ls [])) ex → ∀ (H : Heap) (locs : List Loc) (ls : Array Slot), Rl g ad st.2 s.heap H locs → lv_has ls 4 [(0, .ref (ad v0)), (1, .int (Int32.ofInt v1)), (2, .int (Int32.ofInt v2)), (3, .int (Int32.ofInt st.1))] → W p l e rmX8_number s m args below meth c H locs 0 0 Q (F0 m 41 ls []) := by
  refine lp_rule (Ph := (fun st : Int × PH => ∀ (H : Heap) (locs : List Loc) (ls : Array Slot), Rl g ad st.2 s.heap H locs → lv_has ls 4 [(0, .ref (ad v0)), (1, .int (Int32.ofInt v1)), (2, .int (Int32.ofInt v2)), (3, .int (Int32.ofInt st.1))] → W p l e rmX8_number s m args below meth c H locs 0 0 Q (F0 m 41 ls []))) (Px := (fun ex : Int × PH => ∀ (H : Heap) (locs : List Loc) (ls : Array Slot), Rl g ad ex.2 s.heap H locs → lv_has ls 4 [(0, .ref (ad v0)), (1, .int (Int32.ofInt v1)), (2, .int (Int32.ofInt v2)), (3, .int (Int32.ofInt ex.1))] → W p l e rmX8_number s m args below meth c H locs 0 0 Q (F0 m 90 ls []))) ?_
  rintro ⟨v3, h⟩ o hF hK H locs ls hR hl
  have hR : Rl g ad h s.heap H locs := hR
  have hl : lv_has ls 4 [(0, .ref (ad v0)), (1, .int (Int32.ofInt v1)), (2, .int (Int32.ofInt v2)), (3, .int (Int32.ofInt v3))] := hl
  have hF : LX8_number_41 v0 v1 v2 v3 h = some o := hF
  unfold LX8_number_41 at hF
  refine lv_aload_n hC.1 hC.2.1 dX8_number_41 rfl (lv_at hl 0 rfl) ?_
  refine lv_aload_n hC.1 hC.2.1 dX8_number_42 rfl (lv_at hl 0 rfl) ?_
  obtain ⟨x6, e6, hF⟩ := bnd hF
  refine pw_gfi hC hR e6 flX8_51 dX8_number_43 ?_
  obtain ⟨x7, e7, hF⟩ := bnd hF
  obtain ⟨fs7, ho7⟩ := OX8_byteAt e7
  refine pw_cVi (rest := []) hC hR lvX8_54 ho7 (CX8_byteAt e7) ⟨rfl, rfl⟩ rfl hl.1 rfl ⟨Nat.le_of_ble_eq_true rfl, Nat.le_of_ble_eq_true rfl⟩ (Nat.le_of_ble_eq_true rfl) dX8_number_46 ⟨Nat.zero_le _, Nat.zero_le _⟩ (fun H locs hR => ?_)
  obtain ⟨x8, e8, hF⟩ := bnd hF
  refine pw_cSi (rest := []) hC hR lsX8_88 (CX8_isDigit e8) ⟨rfl, rfl⟩ rfl hl.1 rfl ⟨Nat.le_of_ble_eq_true rfl, Nat.le_of_ble_eq_true rfl⟩ (Nat.le_of_ble_eq_true rfl) dX8_number_49 ⟨Nat.zero_le _, Nat.zero_le _⟩ (fun H locs hR => ?_)
  refine pw_ifeq hC 90 dX8_number_52 (by decide) (fun hc => ?_) (fun hc => ?_)
  · rw [if_pos hc] at hF
    cases hF
    exact hK _ _ _ hR (lv_sub hl [0, 1, 2, 3] rfl)
  · rw [if_neg hc] at hF
    refine pw_ldc hC 1000000 kcX8_95 dX8_number_55 ?_
    refine pw_bipush hC dX8_number_57 rfl ?_
    refine lv_iload_n hC.1 hC.2.1 dX8_number_59 rfl (lv_at hl 3 rfl) ?_
    refine pw_imul hC dX8_number_60 ?_
    refine lv_aload_n hC.1 hC.2.1 dX8_number_61 rfl (lv_at hl 0 rfl) ?_
    refine lv_aload_n hC.1 hC.2.1 dX8_number_62 rfl (lv_at hl 0 rfl) ?_
    obtain ⟨x9, e9, hF⟩ := bnd hF
    refine pw_gfi hC hR e9 flX8_51 dX8_number_63 ?_
    obtain ⟨x10, e10, hF⟩ := bnd hF
    obtain ⟨fs10, ho10⟩ := OX8_byteAt e10
    refine pw_cVi (rest := [.int (Int32.ofInt (10 * v3)), .int (Int32.ofInt 1000000)]) hC hR lvX8_54 ho10 (CX8_byteAt e10) ⟨rfl, rfl⟩ rfl hl.1 rfl ⟨Nat.le_of_ble_eq_true rfl, Nat.le_of_ble_eq_true rfl⟩ (Nat.le_of_ble_eq_true rfl) dX8_number_66 ⟨Nat.zero_le _, Nat.zero_le _⟩ (fun H locs hR => ?_)
    refine pw_iadd hC dX8_number_69 ?_
    refine pw_bipush hC dX8_number_70 rfl ?_
    refine pw_isub hC dX8_number_72 ?_
    obtain ⟨x11, e11, hF⟩ := bnd hF
    refine pw_cSi (rest := []) hC hR lsX8_96 (CX8_min e11) ⟨rfl, rfl⟩ rfl hl.1 rfl ⟨Nat.le_of_ble_eq_true rfl, Nat.le_of_ble_eq_true rfl⟩ (Nat.le_of_ble_eq_true rfl) dX8_number_73 ⟨Nat.zero_le _, Nat.zero_le _⟩ (fun H locs hR => ?_)
    refine lv_istore_n (lv' := [(3, .int (Int32.ofInt x11)), (0, .ref (ad v0)), (1, .int (Int32.ofInt v1)), (2, .int (Int32.ofInt v2))]) hC.1 hC.2.1 dX8_number_76 rfl hl (by decide) rfl (fun ls hl => ?_)
    refine lv_aload_n hC.1 hC.2.1 dX8_number_77 rfl (lv_at hl 1 rfl) ?_
    refine lv_dup hC.1 hC.2.1 dX8_number_78 rfl ?_
    obtain ⟨x12, e12, hF⟩ := bnd hF
    refine pw_gfi hC hR e12 flX8_51 dX8_number_79 ?_
    refine pw_iconst hC dX8_number_82 ?_
    refine pw_iadd hC dX8_number_83 ?_
    obtain ⟨h13, e13, hF⟩ := bnd hF
    refine pw_pfi hC hR e13 fpX8_51 (Or.inl rfl) dX8_number_84 (fun H locs hR => ?_)
    refine pw_goto hC 41 dX8_number_87 (by decide) ?_
    cases hF
    exact hK _ _ _ hR (lv_sub hl [1, 2, 3, 0] rfl)
def JX8_number_109 (h : PH) (v3 : Int) : Option (Int × PH) :=
  some (v3, h)
set_option maxHeartbeats 4000000 in
set_option maxRecDepth 100000 in
theorem BX8_number_109 {h : PH} {v3 : Int} (hC : Cx g p s m args meth c cX8_number 4 RX8 (some .int)) (hR : Rl g ad h s.heap H locs) (hl : lv_has ls 4 [(3, .int (Int32.ofInt v3))]) {q : Int × PH} (hF : JX8_number_109 h v3 = some q) : W p l e rmX8_number s m args below meth c H locs 0 0 (MQ below (QcN g ad q.2 (some (.int (Int32.ofInt q.1)))) args s 0 0 (gA g)) (F0 m 109 ls []) := by
  unfold JX8_number_109 at hF
  refine lv_iload_n hC.1 hC.2.1 dX8_number_109 rfl (lv_at hl 0 rfl) ?_
  cases hF
  exact pw_iret hC hR dX8_number_110
def FX8_number (h : PH) (v0 : Nat) (v1 : Int) (v2 : Int) : Option (Int × PH) :=
  (isO h 8 v0).bind fun _ =>
  (FX8_isGood h v0).bind fun x1 =>
  if w32 x1 = 0 then (
    some (0, h)
  ) else (
    (FX8_next h v0).bind fun q2 =>
    (FX8_isDigit q2.2 q2.1).bind fun x3 =>
    if w32 x3 = 0 then (
      (gfi q2.2 8 v0 4).bind fun x18 =>
      (FX8_report q2.2 v0 (-2) x18).bind fun h19 =>
      some (0, h19)
    ) else (
      (gfi q2.2 8 v0 4).bind fun x4 =>
      (pfi q2.2 8 v0 13 x4).bind fun h5 =>
      (lp (fun st : Int × PH => LX8_number_41 v0 v1 v2 st.1 st.2) FU (0, h5)).bind fun ex14 =>
      (FX8_in ex14.2 ex14.1 v1 v2).bind fun x15 =>
      if w32 x15 = 0 then (
        (gfi ex14.2 8 v0 13).bind fun x16 =>
        (FX8_report ex14.2 v0 (-3) x16).bind fun h17 =>
        JX8_number_109 h17 ex14.1
      ) else (
        JX8_number_109 ex14.2 ex14.1
      )
    )
  )
theorem OX8_number {h : PH} {v0 : Nat} {v1 : Int} {v2 : Int} {q : Int × PH} (hF : FX8_number h v0 v1 v2 = some q) : ∃ fs : List PV, h[v0]? = some (.inr (8, fs)) := by
  unfold FX8_number at hF
  obtain ⟨u0, e0, -⟩ := bnd hF
  exact isO_spec e0
set_option maxHeartbeats 4000000 in
set_option maxRecDepth 100000 in
theorem CX8_number {g : GP} {l : Launch} {ad : Nat → Nat} {h : PH} {v0 : Nat} {v1 : Int} {v2 : Int} {q : Int × PH} (hF : FX8_number h v0 v1 v2 = some q) : CN g l yX8_number cX8_number 4 (some .int) rmX8_number ad h [.ref (ad v0), .int (Int32.ofInt v1), .int (Int32.ofInt v2)] (some (.int (Int32.ofInt q.1))) q.2 := by
  refine pw_met (by decide) (Nat.le_of_ble_eq_true rfl) ?_
  intro p e s m args below meth c ls hC hN hR hl
  have hl : lv_has ls 4 [(0, .ref (ad v0)), (1, .int (Int32.ofInt v1)), (2, .int (Int32.ofInt v2))] := hl
  unfold FX8_number at hF
  obtain ⟨u0, e0, hF⟩ := bnd hF
  refine lv_aload_n hC.1 hC.2.1 dX8_number_0 rfl (lv_at hl 0 rfl) ?_
  obtain ⟨x1, e1, hF⟩ := bnd hF
  obtain ⟨fs1, ho1⟩ := OX8_isGood e1
  refine pw_cVi (rest := []) hC hR lvX8_67 ho1 (CX8_isGood e1) ⟨rfl, rfl⟩ rfl hl.1 rfl ⟨Nat.le_of_ble_eq_true rfl, Nat.le_of_ble_eq_true rfl⟩ (Nat.le_of_ble_eq_true rfl) dX8_number_1 ⟨Nat.zero_le _, Nat.zero_le _⟩ (fun H locs hR => ?_)
  refine pw_ifne hC 9 dX8_number_4 (by decide) (fun hc => ?_) (fun hc => ?_)
  · rw [if_neg hc] at hF
    refine lv_aload_n hC.1 hC.2.1 dX8_number_9 rfl (lv_at hl 0 rfl) ?_
    obtain ⟨q2, e2, hF⟩ := bnd hF
    obtain ⟨fs2, ho2⟩ := OX8_next e2
    refine pw_cVi (rest := []) hC hR lvX8_71 ho2 (CX8_next e2) ⟨rfl, rfl⟩ rfl hl.1 rfl ⟨Nat.le_of_ble_eq_true rfl, Nat.le_of_ble_eq_true rfl⟩ (Nat.le_of_ble_eq_true rfl) dX8_number_10 ⟨Nat.zero_le _, Nat.zero_le _⟩ (fun H locs hR => ?_)
    obtain ⟨x3, e3, hF⟩ := bnd hF
    refine pw_cSi (rest := []) hC hR lsX8_88 (CX8_isDigit e3) ⟨rfl, rfl⟩ rfl hl.1 rfl ⟨Nat.le_of_ble_eq_true rfl, Nat.le_of_ble_eq_true rfl⟩ (Nat.le_of_ble_eq_true rfl) dX8_number_13 ⟨Nat.zero_le _, Nat.zero_le _⟩ (fun H locs hR => ?_)
    refine pw_ifne hC 31 dX8_number_16 (by decide) (fun hc => ?_) (fun hc => ?_)
    · rw [if_neg hc] at hF
      refine lv_aload_n hC.1 hC.2.1 dX8_number_31 rfl (lv_at hl 0 rfl) ?_
      refine lv_aload_n hC.1 hC.2.1 dX8_number_32 rfl (lv_at hl 0 rfl) ?_
      obtain ⟨x4, e4, hF⟩ := bnd hF
      refine pw_gfi hC hR e4 flX8_51 dX8_number_33 ?_
      obtain ⟨h5, e5, hF⟩ := bnd hF
      refine pw_pfi hC hR e5 fpX8_92 (Or.inl rfl) dX8_number_36 (fun H locs hR => ?_)
      refine pw_iconst hC dX8_number_39 ?_
      refine lv_istore_n (lv' := [(3, .int (Int32.ofInt 0)), (0, .ref (ad v0)), (1, .int (Int32.ofInt v1)), (2, .int (Int32.ofInt v2))]) hC.1 hC.2.1 dX8_number_40 rfl hl (by decide) rfl (fun ls hl => ?_)
      obtain ⟨ex14, e14, hF⟩ := bnd hF
      refine LRX8_number_41 hC FU _ ex14 e14 ?_ _ _ _ hR (lv_sub hl [1, 2, 3, 0] rfl)
      intro H locs ls hR hl
      refine lv_iload_n hC.1 hC.2.1 dX8_number_90 rfl (lv_at hl 3 rfl) ?_
      refine lv_iload_n hC.1 hC.2.1 dX8_number_91 rfl (lv_at hl 1 rfl) ?_
      refine lv_iload_n hC.1 hC.2.1 dX8_number_92 rfl (lv_at hl 2 rfl) ?_
      obtain ⟨x15, e15, hF⟩ := bnd hF
      refine pw_cSi (rest := []) hC hR lsX8_63 (CX8_in e15) ⟨rfl, rfl⟩ rfl hl.1 rfl ⟨Nat.le_of_ble_eq_true rfl, Nat.le_of_ble_eq_true rfl⟩ (Nat.le_of_ble_eq_true rfl) dX8_number_93 ⟨Nat.zero_le _, Nat.zero_le _⟩ (fun H locs hR => ?_)
      refine pw_ifne hC 109 dX8_number_96 (by decide) (fun hc => ?_) (fun hc => ?_)
      · rw [if_neg hc] at hF
        exact BX8_number_109 hC hR (lv_sub hl [3] rfl) hF
      · rw [if_pos hc] at hF
        refine lv_aload_n hC.1 hC.2.1 dX8_number_99 rfl (lv_at hl 0 rfl) ?_
        refine pw_bipush hC dX8_number_100 rfl ?_
        refine lv_aload_n hC.1 hC.2.1 dX8_number_102 rfl (lv_at hl 0 rfl) ?_
        obtain ⟨x16, e16, hF⟩ := bnd hF
        refine pw_gfi hC hR e16 flX8_92 dX8_number_103 ?_
        obtain ⟨h17, e17, hF⟩ := bnd hF
        obtain ⟨fs17, ho17⟩ := OX8_report e17
        refine pw_cVv (rest := []) hC hR lvX8_84 ho17 (CX8_report e17) ⟨rfl, rfl⟩ rfl hl.1 rfl ⟨Nat.le_of_ble_eq_true rfl, Nat.le_of_ble_eq_true rfl⟩ (Nat.le_of_ble_eq_true rfl) dX8_number_106 ⟨Nat.zero_le _, Nat.zero_le _⟩ (fun H locs hR => ?_)
        exact BX8_number_109 hC hR (lv_sub hl [3] rfl) hF
    · rw [if_pos hc] at hF
      refine lv_aload_n hC.1 hC.2.1 dX8_number_19 rfl (lv_at hl 0 rfl) ?_
      refine pw_bipush hC dX8_number_20 rfl ?_
      refine lv_aload_n hC.1 hC.2.1 dX8_number_22 rfl (lv_at hl 0 rfl) ?_
      obtain ⟨x18, e18, hF⟩ := bnd hF
      refine pw_gfi hC hR e18 flX8_51 dX8_number_23 ?_
      obtain ⟨h19, e19, hF⟩ := bnd hF
      obtain ⟨fs19, ho19⟩ := OX8_report e19
      refine pw_cVv (rest := []) hC hR lvX8_84 ho19 (CX8_report e19) ⟨rfl, rfl⟩ rfl hl.1 rfl ⟨Nat.le_of_ble_eq_true rfl, Nat.le_of_ble_eq_true rfl⟩ (Nat.le_of_ble_eq_true rfl) dX8_number_26 ⟨Nat.zero_le _, Nat.zero_le _⟩ (fun H locs hR => ?_)
      refine pw_iconst hC dX8_number_29 ?_
      cases hF
      exact pw_iret hC hR dX8_number_30
  · rw [if_pos hc] at hF
    refine pw_iconst hC dX8_number_7 ?_
    cases hF
    exact pw_iret hC hR dX8_number_8
abbrev rmX8_emit : Room := { frames := 1, cells := 0, slots := 0, locals := 20 }
def FX8_emit (h : PH) (v0 : Nat) (v1 : Int) : Option (PH) :=
  (isO h 8 v0).bind fun _ =>
  (FX8_isGood h v0).bind fun x1 =>
  if w32 x1 = 0 then (
    some h
  ) else (
    (gfr h 8 v0 9).bind fun x2 =>
    (gfr h 8 v0 9).bind fun x3 =>
    (ald 0 h x3 7).bind fun x4 =>
    (ast 0 h x2 (324 + x4) v1).bind fun h5 =>
    (gfr h5 8 v0 9).bind fun x6 =>
    (ald 0 h5 x6 7).bind fun x7 =>
    (ast 0 h5 x6 7 (x7 + 1)).bind fun h8 =>
    some h8
  )
theorem OX8_emit {h : PH} {v0 : Nat} {v1 : Int} {q : PH} (hF : FX8_emit h v0 v1 = some q) : ∃ fs : List PV, h[v0]? = some (.inr (8, fs)) := by
  unfold FX8_emit at hF
  obtain ⟨u0, e0, -⟩ := bnd hF
  exact isO_spec e0
set_option maxHeartbeats 4000000 in
set_option maxRecDepth 100000 in
theorem CX8_emit {g : GP} {l : Launch} {ad : Nat → Nat} {h : PH} {v0 : Nat} {v1 : Int} {q : PH} (hF : FX8_emit h v0 v1 = some q) : CN g l yX8_emit cX8_emit 2 none rmX8_emit ad h [.ref (ad v0), .int (Int32.ofInt v1)] none q := by
  refine pw_met (by decide) (Nat.le_of_ble_eq_true rfl) ?_
  intro p e s m args below meth c ls hC hN hR hl
  have hl : lv_has ls 2 [(0, .ref (ad v0)), (1, .int (Int32.ofInt v1))] := hl
  unfold FX8_emit at hF
  obtain ⟨u0, e0, hF⟩ := bnd hF
  refine lv_aload_n hC.1 hC.2.1 dX8_emit_0 rfl (lv_at hl 0 rfl) ?_
  obtain ⟨x1, e1, hF⟩ := bnd hF
  obtain ⟨fs1, ho1⟩ := OX8_isGood e1
  refine pw_cVi (rest := []) hC hR lvX8_67 ho1 (CX8_isGood e1) ⟨rfl, rfl⟩ rfl hl.1 rfl ⟨Nat.le_of_ble_eq_true rfl, Nat.le_of_ble_eq_true rfl⟩ (Nat.le_of_ble_eq_true rfl) dX8_emit_1 ⟨Nat.zero_le _, Nat.zero_le _⟩ (fun H locs hR => ?_)
  refine pw_ifne hC 8 dX8_emit_4 (by decide) (fun hc => ?_) (fun hc => ?_)
  · rw [if_neg hc] at hF
    refine lv_aload_n hC.1 hC.2.1 dX8_emit_8 rfl (lv_at hl 0 rfl) ?_
    obtain ⟨x2, e2, hF⟩ := bnd hF
    refine pw_gfr hC hR e2 flX8_20 dX8_emit_9 ?_
    refine pw_sipush hC dX8_emit_12 rfl ?_
    refine lv_aload_n hC.1 hC.2.1 dX8_emit_15 rfl (lv_at hl 0 rfl) ?_
    obtain ⟨x3, e3, hF⟩ := bnd hF
    refine pw_gfr hC hR e3 flX8_20 dX8_emit_16 ?_
    refine pw_bipush hC dX8_emit_19 rfl ?_
    obtain ⟨x4, e4, hF⟩ := bnd hF
    refine pw_iald hC hR e4 dX8_emit_21 ?_
    refine pw_iadd hC dX8_emit_22 ?_
    refine lv_iload_n hC.1 hC.2.1 dX8_emit_23 rfl (lv_at hl 1 rfl) ?_
    obtain ⟨h5, e5, hF⟩ := bnd hF
    refine pw_iast hC hR e5 dX8_emit_24 (fun H locs hR => ?_)
    refine lv_aload_n hC.1 hC.2.1 dX8_emit_25 rfl (lv_at hl 0 rfl) ?_
    obtain ⟨x6, e6, hF⟩ := bnd hF
    refine pw_gfr hC hR e6 flX8_20 dX8_emit_26 ?_
    refine pw_bipush hC dX8_emit_29 rfl ?_
    refine lv_dup2_11 hC.1 hC.2.1 dX8_emit_31 rfl rfl ?_
    obtain ⟨x7, e7, hF⟩ := bnd hF
    refine pw_iald hC hR e7 dX8_emit_32 ?_
    refine pw_iconst hC dX8_emit_33 ?_
    refine pw_iadd hC dX8_emit_34 ?_
    obtain ⟨h8, e8, hF⟩ := bnd hF
    refine pw_iast hC hR e8 dX8_emit_35 (fun H locs hR => ?_)
    cases hF
    exact pw_vret hC hR dX8_emit_36
  · rw [if_pos hc] at hF
    cases hF
    exact pw_vret hC hR dX8_emit_7
abbrev rmX8_once : Room := { frames := 1, cells := 0, slots := 0, locals := 22 }
def JX8_once_19 (h : PH) (v0 : Nat) (v1 : Int) : Option (PH) :=
  (gfi h 8 v0 15).bind fun x2 =>
  (pfi h 8 v0 15 (orI x2 (shlI 1 v1))).bind fun h3 =>
  some h3
set_option maxHeartbeats 4000000 in
set_option maxRecDepth 100000 in
theorem BX8_once_19 {h : PH} {v0 : Nat} {v1 : Int} (hC : Cx g p s m args meth c cX8_once 3 RX8 none) (hR : Rl g ad h s.heap H locs) (hl : lv_has ls 3 [(0, .ref (ad v0)), (1, .int (Int32.ofInt v1))]) {q : PH} (hF : JX8_once_19 h v0 v1 = some q) : W p l e rmX8_once s m args below meth c H locs 0 0 (MQ below (QcN g ad q none) args s 0 0 (gA g)) (F0 m 19 ls []) := by
  unfold JX8_once_19 at hF
  refine lv_aload_n hC.1 hC.2.1 dX8_once_19 rfl (lv_at hl 0 rfl) ?_
  refine lv_dup hC.1 hC.2.1 dX8_once_20 rfl ?_
  obtain ⟨x2, e2, hF⟩ := bnd hF
  refine pw_gfi hC hR e2 flX8_133 dX8_once_21 ?_
  refine pw_iconst hC dX8_once_24 ?_
  refine lv_iload_n hC.1 hC.2.1 dX8_once_25 rfl (lv_at hl 1 rfl) ?_
  refine pw_ishl hC dX8_once_26 ?_
  refine pw_ior hC dX8_once_27 ?_
  obtain ⟨h3, e3, hF⟩ := bnd hF
  refine pw_pfi hC hR e3 fpX8_133 (Or.inl rfl) dX8_once_28 (fun H locs hR => ?_)
  cases hF
  exact pw_vret hC hR dX8_once_31
def FX8_once (h : PH) (v0 : Nat) (v1 : Int) (v2 : Int) : Option (PH) :=
  (isO h 8 v0).bind fun _ =>
  (gfi h 8 v0 15).bind fun x1 =>
  if w32 (andI (shrI x1 v1) 1) = w32 1 then (
    (FX8_report h v0 (-2) v2).bind fun h4 =>
    JX8_once_19 h4 v0 v1
  ) else (
    JX8_once_19 h v0 v1
  )
theorem OX8_once {h : PH} {v0 : Nat} {v1 : Int} {v2 : Int} {q : PH} (hF : FX8_once h v0 v1 v2 = some q) : ∃ fs : List PV, h[v0]? = some (.inr (8, fs)) := by
  unfold FX8_once at hF
  obtain ⟨u0, e0, -⟩ := bnd hF
  exact isO_spec e0
set_option maxHeartbeats 4000000 in
set_option maxRecDepth 100000 in
theorem CX8_once {g : GP} {l : Launch} {ad : Nat → Nat} {h : PH} {v0 : Nat} {v1 : Int} {v2 : Int} {q : PH} (hF : FX8_once h v0 v1 v2 = some q) : CN g l yX8_once cX8_once 3 none rmX8_once ad h [.ref (ad v0), .int (Int32.ofInt v1), .int (Int32.ofInt v2)] none q := by
  refine pw_met (by decide) (Nat.le_of_ble_eq_true rfl) ?_
  intro p e s m args below meth c ls hC hN hR hl
  have hl : lv_has ls 3 [(0, .ref (ad v0)), (1, .int (Int32.ofInt v1)), (2, .int (Int32.ofInt v2))] := hl
  unfold FX8_once at hF
  obtain ⟨u0, e0, hF⟩ := bnd hF
  refine lv_aload_n hC.1 hC.2.1 dX8_once_0 rfl (lv_at hl 0 rfl) ?_
  obtain ⟨x1, e1, hF⟩ := bnd hF
  refine pw_gfi hC hR e1 flX8_133 dX8_once_1 ?_
  refine lv_iload_n hC.1 hC.2.1 dX8_once_4 rfl (lv_at hl 1 rfl) ?_
  refine pw_ishr hC dX8_once_5 ?_
  refine pw_iconst hC dX8_once_6 ?_
  refine pw_iand hC dX8_once_7 ?_
  refine pw_iconst hC dX8_once_8 ?_
  refine pw_icmpne hC 19 dX8_once_9 (by decide) (fun hc => ?_) (fun hc => ?_)
  · rw [if_neg hc] at hF
    exact BX8_once_19 hC hR (lv_sub hl [0, 1] rfl) hF
  · rw [if_pos hc] at hF
    refine lv_aload_n hC.1 hC.2.1 dX8_once_12 rfl (lv_at hl 0 rfl) ?_
    refine pw_bipush hC dX8_once_13 rfl ?_
    refine lv_iload_n hC.1 hC.2.1 dX8_once_15 rfl (lv_at hl 2 rfl) ?_
    obtain ⟨h4, e4, hF⟩ := bnd hF
    obtain ⟨fs4, ho4⟩ := OX8_report e4
    refine pw_cVv (rest := []) hC hR lvX8_84 ho4 (CX8_report e4) ⟨rfl, rfl⟩ rfl hl.1 rfl ⟨Nat.le_of_ble_eq_true rfl, Nat.le_of_ble_eq_true rfl⟩ (Nat.le_of_ble_eq_true rfl) dX8_once_16 ⟨Nat.zero_le _, Nat.zero_le _⟩ (fun H locs hR => ?_)
    exact BX8_once_19 hC hR (lv_sub hl [0, 1] rfl) hF
end
