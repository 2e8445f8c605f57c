section
variable {p : Program} {l : Launch} {e : Env} {s : State} {m : MethodId} {args : Array Value} {below : List Frame} {meth : Method} {c : Code} {H : Heap} {locs : List Loc} {ls : Array Slot} {g : GP} {ad : Nat → Nat}
abbrev rmX8_goOn : Room := { frames := 1, cells := 0, slots := 0, locals := 20 }
def JX8_goOn_87 (h : PH) (v0 : Nat) (v1 : Int) (v2 : Int) : Option ((Int × Int × PH) ⊕ (Int × PH)) :=
  some (.inl (v1, (v2 + 1), h))
set_option maxHeartbeats 4000000 in
set_option maxRecDepth 100000 in
theorem BX8_goOn_87 {h : PH} {v0 : Nat} {v1 : Int} {v2 : Int} (hC : Cx g p s m args meth c cX8_goOn 4 RX8 (some .int)) (hR : Rl g ad h s.heap H locs) (hl : lv_has ls 4 [(0, .ref (ad v0)), (1, .int (Int32.ofInt v1)), (2, .int (Int32.ofInt v2))]) {Q : State → Prop} {o : (Int × Int × PH) ⊕ (Int × PH)} (hF : JX8_goOn_87 h v0 v1 v2 = some o) (hK : Sum.elim (fun st : Int × Int × PH => ∀ (H : Heap) (locs : List Loc) (ls : Array Slot), Rl g ad st.2.2 s.heap H locs → lv_has ls 4 [(0, .ref (ad v0)), (1, .int (Int32.ofInt st.1)), (2, .int (Int32.ofInt st.2.1))] → W p l e rmX8_goOn s m args below meth c H locs 0 0 Q (F0 m 4 ls [])) (fun ex : Int × PH => ∀ (H : Heap) (locs : List Loc) (ls : Array Slot), Rl g ad ex.2 s.heap H locs → lv_has ls 4 [(1, .int (Int32.ofInt ex.1))] → W p l e rmX8_goOn s m args below meth c H locs 0 0 Q (F0 m 93 ls [])) o) : W p l e rmX8_goOn s m args below meth c H locs 0 0 Q (F0 m 87 ls []) := by
  unfold JX8_goOn_87 at hF
  refine pw_iinc (lv' := [(2, .int (Int32.ofInt (v2 + 1))), (0, .ref (ad v0)), (1, .int (Int32.ofInt v1))]) hC hl 2 dX8_goOn_87 rfl (by decide) rfl (fun ls hl => ?_)
  refine pw_goto hC 4 dX8_goOn_90 (by decide) ?_
  cases hF
  exact hK _ _ _ hR (lv_sub hl [1, 2, 0] rfl)
def LX8_goOn_4 (v0 : Nat) (v1 : Int) (v2 : Int) (h : PH) : Option ((Int × Int × PH) ⊕ (Int × PH)) :=
  (ald 0 h v0 0).bind fun x1 =>
  if w32 v2 < w32 x1 then (
    (FX8_core h v2).bind fun x2 =>
    (ald 0 h v0 (x2 + 0)).bind fun x3 =>
    if w32 x3 = w32 (-1) then (
      JX8_goOn_87 h v0 v1 v2
    ) else (
      (FX8_task h x3).bind fun x4 =>
      (ald 0 h v0 (x4 + 5)).bind fun x5 =>
      (ast 0 h v0 (x4 + 5) (x5 - 1)).bind fun h6 =>
      (FX8_task h6 x3).bind fun x7 =>
      (ald 0 h6 v0 (x7 + 5)).bind fun x8 =>
      if 0 < w32 x8 then (
        JX8_goOn_87 h6 v0 v1 v2
      ) else (
        (FX8_task h6 x3).bind fun x9 =>
        (ast 0 h6 v0 (x9 + 4) 4).bind fun h10 =>
        (FX8_task h10 x3).bind fun x11 =>
        (ald 0 h10 v0 5).bind fun x12 =>
        (ast 0 h10 v0 (x11 + 7) x12).bind fun h13 =>
        (FX8_core h13 v2).bind fun x14 =>
        (ast 0 h13 v0 (x14 + 0) (-1)).bind fun h15 =>
        JX8_goOn_87 h15 v0 (v1 + 1) v2
      )
    )
  ) else (
    some (.inr (v1, h))
  )
set_option maxHeartbeats 4000000 in
set_option maxRecDepth 100000 in
theorem LRX8_goOn_4 {v0 : Nat} {Q : State → Prop} (hC : Cx g p s m args meth c cX8_goOn 4 RX8 (some .int)) : ∀ (n : Nat) (st : Int × Int × PH) (ex : Int × PH), lp (fun st : Int × Int × PH => LX8_goOn_4 v0 st.1 st.2.1 st.2.2) n st = some ex → (fun ex : Int × PH => ∀ (H : Heap) (locs : List Loc) (ls : Array Slot), Rl g ad ex.2 s.heap H locs → lv_has ls 4 [(1, .int (Int32.ofInt ex.1))] → W p l e rmX8_goOn s m args below meth c H locs 0 0 Q (F0 m 93 ls [])) ex → ∀ (H : Heap) (locs : List Loc) (ls : Array Slot), Rl g ad st.2.2 s.heap H locs → lv_has ls 4 [(0, .ref (ad v0)), (1, .int (Int32.ofInt st.1)), (2, .int (Int32.ofInt st.2.1))] → W p l e rmX8_goOn s m args below meth c H locs 0 0 Q (F0 m 4 ls []) := by
  refine lp_rule (Ph := (fun st : Int × Int × PH => ∀ (H : Heap) (locs : List Loc) (ls : Array Slot), Rl g ad st.2.2 s.heap H locs → lv_has ls 4 [(0, .ref (ad v0)), (1, .int (Int32.ofInt st.1)), (2, .int (Int32.ofInt st.2.1))] → W p l e rmX8_goOn s m args below meth c H locs 0 0 Q (F0 m 4 ls []))) (Px := (fun ex : Int × PH => ∀ (H : Heap) (locs : List Loc) (ls : Array Slot), Rl g ad ex.2 s.heap H locs → lv_has ls 4 [(1, .int (Int32.ofInt ex.1))] → W p l e rmX8_goOn s m args below meth c H locs 0 0 Q (F0 m 93 ls []))) ?_
  rintro ⟨v1, v2, h⟩ o hF hK H locs ls hR hl
  have hR : Rl g ad h s.heap H locs := hR
  have hl : lv_has ls 4 [(0, .ref (ad v0)), (1, .int (Int32.ofInt v1)), (2, .int (Int32.ofInt v2))] := hl
  have hF : LX8_goOn_4 v0 v1 v2 h = some o := hF
  unfold LX8_goOn_4 at hF
  refine lv_iload_n hC.1 hC.2.1 dX8_goOn_4 rfl (lv_at hl 2 rfl) ?_
  refine lv_aload_n hC.1 hC.2.1 dX8_goOn_5 rfl (lv_at hl 0 rfl) ?_
  refine pw_iconst hC dX8_goOn_6 ?_
  obtain ⟨x1, e1, hF⟩ := bnd hF
  refine pw_iald hC hR e1 dX8_goOn_7 ?_
  refine pw_icmpge hC 93 dX8_goOn_8 (by decide) (fun hc => ?_) (fun hc => ?_)
  · rw [if_neg hc] at hF
    cases hF
    exact hK _ _ _ hR (lv_sub hl [1] rfl)
  · rw [if_pos hc] at hF
    refine lv_aload_n hC.1 hC.2.1 dX8_goOn_11 rfl (lv_at hl 0 rfl) ?_
    refine lv_iload_n hC.1 hC.2.1 dX8_goOn_12 rfl (lv_at hl 2 rfl) ?_
    obtain ⟨x2, e2, hF⟩ := bnd hF
    refine pw_cSi (rest := [.ref (ad v0)]) hC hR lsX8_41 (CX8_core e2) ⟨rfl, rfl⟩ rfl hl.1 rfl ⟨Nat.le_of_ble_eq_true rfl, Nat.le_of_ble_eq_true rfl⟩ (Nat.le_of_ble_eq_true rfl) dX8_goOn_13 ⟨Nat.zero_le _, Nat.zero_le _⟩ (fun H locs hR => ?_)
    refine pw_iconst hC dX8_goOn_16 ?_
    refine pw_iadd hC dX8_goOn_17 ?_
    obtain ⟨x3, e3, hF⟩ := bnd hF
    refine pw_iald hC hR e3 dX8_goOn_18 ?_
    refine lv_istore_n (lv' := [(3, .int (Int32.ofInt x3)), (0, .ref (ad v0)), (1, .int (Int32.ofInt v1)), (2, .int (Int32.ofInt v2))]) hC.1 hC.2.1 dX8_goOn_19 rfl hl (by decide) rfl (fun ls hl => ?_)
    refine lv_iload_n hC.1 hC.2.1 dX8_goOn_20 rfl (lv_at hl 0 rfl) ?_
    refine pw_iconst hC dX8_goOn_21 ?_
    refine pw_icmpne hC 28 dX8_goOn_22 (by decide) (fun hc => ?_) (fun hc => ?_)
    · rw [if_neg hc] at hF
      refine lv_aload_n hC.1 hC.2.1 dX8_goOn_28 rfl (lv_at hl 1 rfl) ?_
      refine lv_iload_n hC.1 hC.2.1 dX8_goOn_29 rfl (lv_at hl 0 rfl) ?_
      obtain ⟨x4, e4, hF⟩ := bnd hF
      refine pw_cSi (rest := [.ref (ad v0)]) hC hR lsX8_136 (CX8_task e4) ⟨rfl, rfl⟩ rfl hl.1 rfl ⟨Nat.le_of_ble_eq_true rfl, Nat.le_of_ble_eq_true rfl⟩ (Nat.le_of_ble_eq_true rfl) dX8_goOn_30 ⟨Nat.zero_le _, Nat.zero_le _⟩ (fun H locs hR => ?_)
      refine pw_iconst hC dX8_goOn_33 ?_
      refine pw_iadd hC dX8_goOn_34 ?_
      refine lv_dup2_11 hC.1 hC.2.1 dX8_goOn_35 rfl rfl ?_
      obtain ⟨x5, e5, hF⟩ := bnd hF
      refine pw_iald hC hR e5 dX8_goOn_36 ?_
      refine pw_iconst hC dX8_goOn_37 ?_
      refine pw_isub hC dX8_goOn_38 ?_
      obtain ⟨h6, e6, hF⟩ := bnd hF
      refine pw_iast hC hR e6 dX8_goOn_39 (fun H locs hR => ?_)
      refine lv_aload_n hC.1 hC.2.1 dX8_goOn_40 rfl (lv_at hl 1 rfl) ?_
      refine lv_iload_n hC.1 hC.2.1 dX8_goOn_41 rfl (lv_at hl 0 rfl) ?_
      obtain ⟨x7, e7, hF⟩ := bnd hF
      refine pw_cSi (rest := [.ref (ad v0)]) hC hR lsX8_136 (CX8_task e7) ⟨rfl, rfl⟩ rfl hl.1 rfl ⟨Nat.le_of_ble_eq_true rfl, Nat.le_of_ble_eq_true rfl⟩ (Nat.le_of_ble_eq_true rfl) dX8_goOn_42 ⟨Nat.zero_le _, Nat.zero_le _⟩ (fun H locs hR => ?_)
      refine pw_iconst hC dX8_goOn_45 ?_
      refine pw_iadd hC dX8_goOn_46 ?_
      obtain ⟨x8, e8, hF⟩ := bnd hF
      refine pw_iald hC hR e8 dX8_goOn_47 ?_
      refine pw_ifle hC 54 dX8_goOn_48 (by decide) (fun hc => ?_) (fun hc => ?_)
      · rw [if_neg hc] at hF
        refine lv_aload_n hC.1 hC.2.1 dX8_goOn_54 rfl (lv_at hl 1 rfl) ?_
        refine lv_iload_n hC.1 hC.2.1 dX8_goOn_55 rfl (lv_at hl 0 rfl) ?_
        obtain ⟨x9, e9, hF⟩ := bnd hF
        refine pw_cSi (rest := [.ref (ad v0)]) hC hR lsX8_136 (CX8_task e9) ⟨rfl, rfl⟩ rfl hl.1 rfl ⟨Nat.le_of_ble_eq_true rfl, Nat.le_of_ble_eq_true rfl⟩ (Nat.le_of_ble_eq_true rfl) dX8_goOn_56 ⟨Nat.zero_le _, Nat.zero_le _⟩ (fun H locs hR => ?_)
        refine pw_iconst hC dX8_goOn_59 ?_
        refine pw_iadd hC dX8_goOn_60 ?_
        refine pw_iconst hC dX8_goOn_61 ?_
        obtain ⟨h10, e10, hF⟩ := bnd hF
        refine pw_iast hC hR e10 dX8_goOn_62 (fun H locs hR => ?_)
        refine lv_aload_n hC.1 hC.2.1 dX8_goOn_63 rfl (lv_at hl 1 rfl) ?_
        refine lv_iload_n hC.1 hC.2.1 dX8_goOn_64 rfl (lv_at hl 0 rfl) ?_
        obtain ⟨x11, e11, hF⟩ := bnd hF
        refine pw_cSi (rest := [.ref (ad v0)]) hC hR lsX8_136 (CX8_task e11) ⟨rfl, rfl⟩ rfl hl.1 rfl ⟨Nat.le_of_ble_eq_true rfl, Nat.le_of_ble_eq_true rfl⟩ (Nat.le_of_ble_eq_true rfl) dX8_goOn_65 ⟨Nat.zero_le _, Nat.zero_le _⟩ (fun H locs hR => ?_)
        refine pw_bipush hC dX8_goOn_68 rfl ?_
        refine pw_iadd hC dX8_goOn_70 ?_
        refine lv_aload_n hC.1 hC.2.1 dX8_goOn_71 rfl (lv_at hl 1 rfl) ?_
        refine pw_iconst hC dX8_goOn_72 ?_
        obtain ⟨x12, e12, hF⟩ := bnd hF
        refine pw_iald hC hR e12 dX8_goOn_73 ?_
        obtain ⟨h13, e13, hF⟩ := bnd hF
        refine pw_iast hC hR e13 dX8_goOn_74 (fun H locs hR => ?_)
        refine lv_aload_n hC.1 hC.2.1 dX8_goOn_75 rfl (lv_at hl 1 rfl) ?_
        refine lv_iload_n hC.1 hC.2.1 dX8_goOn_76 rfl (lv_at hl 3 rfl) ?_
        obtain ⟨x14, e14, hF⟩ := bnd hF
        refine pw_cSi (rest := [.ref (ad v0)]) hC hR lsX8_41 (CX8_core e14) ⟨rfl, rfl⟩ rfl hl.1 rfl ⟨Nat.le_of_ble_eq_true rfl, Nat.le_of_ble_eq_true rfl⟩ (Nat.le_of_ble_eq_true rfl) dX8_goOn_77 ⟨Nat.zero_le _, Nat.zero_le _⟩ (fun H locs hR => ?_)
        refine pw_iconst hC dX8_goOn_80 ?_
        refine pw_iadd hC dX8_goOn_81 ?_
        refine pw_iconst hC dX8_goOn_82 ?_
        obtain ⟨h15, e15, hF⟩ := bnd hF
        refine pw_iast hC hR e15 dX8_goOn_83 (fun H locs hR => ?_)
        refine pw_iinc (lv' := [(1, .int (Int32.ofInt (v1 + 1))), (3, .int (Int32.ofInt x3)), (0, .ref (ad v0)), (2, .int (Int32.ofInt v2))]) hC hl 2 dX8_goOn_84 rfl (by decide) rfl (fun ls hl => ?_)
        exact BX8_goOn_87 hC hR (lv_sub hl [2, 0, 3] rfl) hF hK
      · rw [if_pos hc] at hF
        refine pw_goto hC 87 dX8_goOn_51 (by decide) ?_
        exact BX8_goOn_87 hC hR (lv_sub hl [1, 2, 3] rfl) hF hK
    · rw [if_pos hc] at hF
      refine pw_goto hC 87 dX8_goOn_25 (by decide) ?_
      exact BX8_goOn_87 hC hR (lv_sub hl [1, 2, 3] rfl) hF hK
def FX8_goOn (h : PH) (v0 : Nat) : Option (Int × PH) :=
  (lp (fun st : Int × Int × PH => LX8_goOn_4 v0 st.1 st.2.1 st.2.2) FU (0, 0, h)).bind fun ex16 =>
  some (ex16.1, ex16.2)
set_option maxHeartbeats 4000000 in
set_option maxRecDepth 100000 in
theorem CX8_goOn {g : GP} {l : Launch} {ad : Nat → Nat} {h : PH} {v0 : Nat} {q : Int × PH} (hF : FX8_goOn h v0 = some q) : CN g l yX8_goOn cX8_goOn 4 (some .int) rmX8_goOn ad h [.ref (ad v0)] (some (.int (Int32.ofInt q.1))) q.2 := by
  refine pw_met (by decide) (Nat.le_of_ble_eq_true rfl) ?_
  intro p e s m args below meth c ls hC hN hR hl
  have hl : lv_has ls 4 [(0, .ref (ad v0))] := hl
  unfold FX8_goOn at hF
  refine pw_iconst hC dX8_goOn_0 ?_
  refine lv_istore_n (lv' := [(1, .int (Int32.ofInt 0)), (0, .ref (ad v0))]) hC.1 hC.2.1 dX8_goOn_1 rfl hl (by decide) rfl (fun ls hl => ?_)
  refine pw_iconst hC dX8_goOn_2 ?_
  refine lv_istore_n (lv' := [(2, .int (Int32.ofInt 0)), (1, .int (Int32.ofInt 0)), (0, .ref (ad v0))]) hC.1 hC.2.1 dX8_goOn_3 rfl hl (by decide) rfl (fun ls hl => ?_)
  obtain ⟨ex16, e16, hF⟩ := bnd hF
  refine LRX8_goOn_4 hC FU _ ex16 e16 ?_ _ _ _ hR (lv_sub hl [2, 1, 0] rfl)
  intro H locs ls hR hl
  refine lv_iload_n hC.1 hC.2.1 dX8_goOn_93 rfl (lv_at hl 0 rfl) ?_
  cases hF
  exact pw_iret hC hR dX8_goOn_94
abbrev rmX8_coreFor : Room := { frames := 1, cells := 0, slots := 0, locals := 20 }
def JX8_coreFor_81 (h : PH) (v0 : Nat) (v3 : Int) (v4 : Int) : Option ((Int × Int) ⊕ (Int)) :=
  some (.inl (v3, (v4 + 1)))
set_option maxHeartbeats 4000000 in
set_option maxRecDepth 100000 in
theorem BX8_coreFor_81 {h : PH} {v0 : Nat} {v3 : Int} {v4 : Int} (hC : Cx g p s m args meth c cX8_coreFor 5 RX8 (some .int)) (hR : Rl g ad h s.heap H locs) (hl : lv_has ls 5 [(0, .ref (ad v0)), (3, .int (Int32.ofInt v3)), (4, .int (Int32.ofInt v4))]) {Q : State → Prop} {o : (Int × Int) ⊕ (Int)} (hF : JX8_coreFor_81 h v0 v3 v4 = some o) (hK : Sum.elim (fun st : Int × Int => ∀ (H : Heap) (locs : List Loc) (ls : Array Slot), Rl g ad h s.heap H locs → lv_has ls 5 [(0, .ref (ad v0)), (3, .int (Int32.ofInt st.1)), (4, .int (Int32.ofInt st.2))] → W p l e rmX8_coreFor s m args below meth c H locs 0 0 Q (F0 m 30 ls [])) (fun ex : Int => ∀ (H : Heap) (locs : List Loc) (ls : Array Slot), Rl g ad h s.heap H locs → lv_has ls 5 [(3, .int (Int32.ofInt ex))] → W p l e rmX8_coreFor s m args below meth c H locs 0 0 Q (F0 m 87 ls [])) o) : W p l e rmX8_coreFor s m args below meth c H locs 0 0 Q (F0 m 81 ls []) := by
  unfold JX8_coreFor_81 at hF
  refine pw_iinc (lv' := [(4, .int (Int32.ofInt (v4 + 1))), (0, .ref (ad v0)), (3, .int (Int32.ofInt v3))]) hC hl 2 dX8_coreFor_81 rfl (by decide) rfl (fun ls hl => ?_)
  refine pw_goto hC 30 dX8_coreFor_84 (by decide) ?_
  cases hF
  exact hK _ _ _ hR (lv_sub hl [1, 2, 0] rfl)
def JX8_coreFor_78 (h : PH) (v0 : Nat) (v4 : Int) : Option ((Int × Int) ⊕ (Int)) :=
  JX8_coreFor_81 h v0 v4 v4
set_option maxHeartbeats 4000000 in
set_option maxRecDepth 100000 in
theorem BX8_coreFor_78 {h : PH} {v0 : Nat} {v4 : Int} (hC : Cx g p s m args meth c cX8_coreFor 5 RX8 (some .int)) (hR : Rl g ad h s.heap H locs) (hl : lv_has ls 5 [(0, .ref (ad v0)), (4, .int (Int32.ofInt v4))]) {Q : State → Prop} {o : (Int × Int) ⊕ (Int)} (hF : JX8_coreFor_78 h v0 v4 = some o) (hK : Sum.elim (fun st : Int × Int => ∀ (H : Heap) (locs : List Loc) (ls : Array Slot), Rl g ad h s.heap H locs → lv_has ls 5 [(0, .ref (ad v0)), (3, .int (Int32.ofInt st.1)), (4, .int (Int32.ofInt st.2))] → W p l e rmX8_coreFor s m args below meth c H locs 0 0 Q (F0 m 30 ls [])) (fun ex : Int => ∀ (H : Heap) (locs : List Loc) (ls : Array Slot), Rl g ad h s.heap H locs → lv_has ls 5 [(3, .int (Int32.ofInt ex))] → W p l e rmX8_coreFor s m args below meth c H locs 0 0 Q (F0 m 87 ls [])) o) : W p l e rmX8_coreFor s m args below meth c H locs 0 0 Q (F0 m 78 ls []) := by
  unfold JX8_coreFor_78 at hF
  refine lv_iload hC.1 hC.2.1 dX8_coreFor_78 (lv_at hl 1 rfl) ?_
  refine lv_istore_n (lv' := [(3, .int (Int32.ofInt v4)), (0, .ref (ad v0)), (4, .int (Int32.ofInt v4))]) hC.1 hC.2.1 dX8_coreFor_80 rfl hl (by decide) rfl (fun ls hl => ?_)
  exact BX8_coreFor_81 hC hR (lv_sub hl [1, 0, 2] rfl) hF hK
def LX8_coreFor_30 (h : PH) (v0 : Nat) (v3 : Int) (v4 : Int) : Option ((Int × Int) ⊕ (Int)) :=
  (ald 0 h v0 0).bind fun x6 =>
  if w32 v4 < w32 x6 then (
    (FX8_core h v4).bind fun x7 =>
    (ald 0 h v0 (x7 + 4)).bind fun x8 =>
    (ald 0 h v0 1).bind fun x9 =>
    if w32 x8 < w32 x9 then (
      if w32 v3 = w32 (-1) then (
        JX8_coreFor_78 h v0 v4
      ) else (
        (FX8_core h v4).bind fun x10 =>
        (ald 0 h v0 (x10 + 4)).bind fun x11 =>
        (FX8_core h v3).bind fun x12 =>
        (ald 0 h v0 (x12 + 4)).bind fun x13 =>
        if w32 x11 < w32 x13 then (
          JX8_coreFor_78 h v0 v4
        ) else (
          JX8_coreFor_81 h v0 v3 v4
        )
      )
    ) else (
      JX8_coreFor_81 h v0 v3 v4
    )
  ) else (
    some (.inr v3)
  )
set_option maxHeartbeats 4000000 in
set_option maxRecDepth 100000 in
theorem LRX8_coreFor_30 {h : PH} {v0 : Nat} {Q : State → Prop} (hC : Cx g p s m args meth c cX8_coreFor 5 RX8 (some .int)) : ∀ (n : Nat) (st : Int × Int) (ex : Int), lp (fun st : Int × Int => LX8_coreFor_30 h v0 st.1 st.2) n st = some ex → (fun ex : Int => ∀ (H : Heap) (locs : List Loc) (ls : Array Slot), Rl g ad h s.heap H locs → lv_has ls 5 [(3, .int (Int32.ofInt ex))] → W p l e rmX8_coreFor s m args below meth c H locs 0 0 Q (F0 m 87 ls [])) ex → ∀ (H : Heap) (locs : List Loc) (ls : Array Slot), Rl g ad h s.heap H locs → lv_has ls 5 [(0, .ref (ad v0)), (3, .int (Int32.ofInt st.1)), (4, .int (Int32.ofInt st.2))] → W p l e rmX8_coreFor s m args below meth c H locs 0 0 Q (F0 m 30 ls []) := by
  refine lp_rule (Ph := (fun st : Int × Int => ∀ (H : Heap) (locs : List Loc) (ls : Array Slot), Rl g ad h s.heap H locs → lv_has ls 5 [(0, .ref (ad v0)), (3, .int (Int32.ofInt st.1)), (4, .int (Int32.ofInt st.2))] → W p l e rmX8_coreFor s m args below meth c H locs 0 0 Q (F0 m 30 ls []))) (Px := (fun ex : Int => ∀ (H : Heap) (locs : List Loc) (ls : Array Slot), Rl g ad h s.heap H locs → lv_has ls 5 [(3, .int (Int32.ofInt ex))] → W p l e rmX8_coreFor s m args below meth c H locs 0 0 Q (F0 m 87 ls []))) ?_
  rintro ⟨v3, v4⟩ o hF hK H locs ls hR hl
  have hR : Rl g ad h s.heap H locs := hR
  have hl : lv_has ls 5 [(0, .ref (ad v0)), (3, .int (Int32.ofInt v3)), (4, .int (Int32.ofInt v4))] := hl
  have hF : LX8_coreFor_30 h v0 v3 v4 = some o := hF
  unfold LX8_coreFor_30 at hF
  refine lv_iload hC.1 hC.2.1 dX8_coreFor_30 (lv_at hl 2 rfl) ?_
  refine lv_aload_n hC.1 hC.2.1 dX8_coreFor_32 rfl (lv_at hl 0 rfl) ?_
  refine pw_iconst hC dX8_coreFor_33 ?_
  obtain ⟨x6, e6, hF⟩ := bnd hF
  refine pw_iald hC hR e6 dX8_coreFor_34 ?_
  refine pw_icmpge hC 87 dX8_coreFor_35 (by decide) (fun hc => ?_) (fun hc => ?_)
  · rw [if_neg hc] at hF
    cases hF
    exact hK _ _ _ hR (lv_sub hl [1] rfl)
  · rw [if_pos hc] at hF
    refine lv_aload_n hC.1 hC.2.1 dX8_coreFor_38 rfl (lv_at hl 0 rfl) ?_
    refine lv_iload hC.1 hC.2.1 dX8_coreFor_39 (lv_at hl 2 rfl) ?_
    obtain ⟨x7, e7, hF⟩ := bnd hF
    refine pw_cSi (rest := [.ref (ad v0)]) hC hR lsX8_41 (CX8_core e7) ⟨rfl, rfl⟩ rfl hl.1 rfl ⟨Nat.le_of_ble_eq_true rfl, Nat.le_of_ble_eq_true rfl⟩ (Nat.le_of_ble_eq_true rfl) dX8_coreFor_41 ⟨Nat.zero_le _, Nat.zero_le _⟩ (fun H locs hR => ?_)
    refine pw_iconst hC dX8_coreFor_44 ?_
    refine pw_iadd hC dX8_coreFor_45 ?_
    obtain ⟨x8, e8, hF⟩ := bnd hF
    refine pw_iald hC hR e8 dX8_coreFor_46 ?_
    refine lv_aload_n hC.1 hC.2.1 dX8_coreFor_47 rfl (lv_at hl 0 rfl) ?_
    refine pw_iconst hC dX8_coreFor_48 ?_
    obtain ⟨x9, e9, hF⟩ := bnd hF
    refine pw_iald hC hR e9 dX8_coreFor_49 ?_
    refine pw_icmpge hC 81 dX8_coreFor_50 (by decide) (fun hc => ?_) (fun hc => ?_)
    · rw [if_neg hc] at hF
      exact BX8_coreFor_81 hC hR (lv_sub hl [0, 1, 2] rfl) hF hK
    · rw [if_pos hc] at hF
      refine lv_iload_n hC.1 hC.2.1 dX8_coreFor_53 rfl (lv_at hl 1 rfl) ?_
      refine pw_iconst hC dX8_coreFor_54 ?_
      refine pw_icmpeq hC 78 dX8_coreFor_55 (by decide) (fun hc => ?_) (fun hc => ?_)
      · rw [if_pos hc] at hF
        exact BX8_coreFor_78 hC hR (lv_sub hl [0, 2] rfl) hF hK
      · rw [if_neg hc] at hF
        refine lv_aload_n hC.1 hC.2.1 dX8_coreFor_58 rfl (lv_at hl 0 rfl) ?_
        refine lv_iload hC.1 hC.2.1 dX8_coreFor_59 (lv_at hl 2 rfl) ?_
        obtain ⟨x10, e10, hF⟩ := bnd hF
        refine pw_cSi (rest := [.ref (ad v0)]) hC hR lsX8_41 (CX8_core e10) ⟨rfl, rfl⟩ rfl hl.1 rfl ⟨Nat.le_of_ble_eq_true rfl, Nat.le_of_ble_eq_true rfl⟩ (Nat.le_of_ble_eq_true rfl) dX8_coreFor_61 ⟨Nat.zero_le _, Nat.zero_le _⟩ (fun H locs hR => ?_)
        refine pw_iconst hC dX8_coreFor_64 ?_
        refine pw_iadd hC dX8_coreFor_65 ?_
        obtain ⟨x11, e11, hF⟩ := bnd hF
        refine pw_iald hC hR e11 dX8_coreFor_66 ?_
        refine lv_aload_n hC.1 hC.2.1 dX8_coreFor_67 rfl (lv_at hl 0 rfl) ?_
        refine lv_iload_n hC.1 hC.2.1 dX8_coreFor_68 rfl (lv_at hl 1 rfl) ?_
        obtain ⟨x12, e12, hF⟩ := bnd hF
        refine pw_cSi (rest := [.ref (ad v0), .int (Int32.ofInt x11)]) hC hR lsX8_41 (CX8_core e12) ⟨rfl, rfl⟩ rfl hl.1 rfl ⟨Nat.le_of_ble_eq_true rfl, Nat.le_of_ble_eq_true rfl⟩ (Nat.le_of_ble_eq_true rfl) dX8_coreFor_69 ⟨Nat.zero_le _, Nat.zero_le _⟩ (fun H locs hR => ?_)
        refine pw_iconst hC dX8_coreFor_72 ?_
        refine pw_iadd hC dX8_coreFor_73 ?_
        obtain ⟨x13, e13, hF⟩ := bnd hF
        refine pw_iald hC hR e13 dX8_coreFor_74 ?_
        refine pw_icmpge hC 81 dX8_coreFor_75 (by decide) (fun hc => ?_) (fun hc => ?_)
        · rw [if_neg hc] at hF
          exact BX8_coreFor_81 hC hR (lv_sub hl [0, 1, 2] rfl) hF hK
        · rw [if_pos hc] at hF
          exact BX8_coreFor_78 hC hR (lv_sub hl [0, 2] rfl) hF hK
def FX8_coreFor (h : PH) (v0 : Nat) (v1 : Int) : Option (Int) :=
  (FX8_task h v1).bind fun x1 =>
  (ald 0 h v0 (x1 + 2)).bind fun x2 =>
  (FX8_core h x2).bind fun x3 =>
  (ald 0 h v0 (x3 + 4)).bind fun x4 =>
  (ald 0 h v0 1).bind fun x5 =>
  if w32 x4 < w32 x5 then (
    some x2
  ) else (
    (lp (fun st : Int × Int => LX8_coreFor_30 h v0 st.1 st.2) FU ((-1), 0)).bind fun ex14 =>
    some ex14
  )
set_option maxHeartbeats 4000000 in
set_option maxRecDepth 100000 in
theorem CX8_coreFor {g : GP} {l : Launch} {ad : Nat → Nat} {h : PH} {v0 : Nat} {v1 : Int} {q : Int} (hF : FX8_coreFor h v0 v1 = some q) : CN g l yX8_coreFor cX8_coreFor 5 (some .int) rmX8_coreFor ad h [.ref (ad v0), .int (Int32.ofInt v1)] (some (.int (Int32.ofInt q))) h := by
  refine pw_met (by decide) (Nat.le_of_ble_eq_true rfl) ?_
  intro p e s m args below meth c ls hC hN hR hl
  have hl : lv_has ls 5 [(0, .ref (ad v0)), (1, .int (Int32.ofInt v1))] := hl
  unfold FX8_coreFor at hF
  refine lv_aload_n hC.1 hC.2.1 dX8_coreFor_0 rfl (lv_at hl 0 rfl) ?_
  refine lv_iload_n hC.1 hC.2.1 dX8_coreFor_1 rfl (lv_at hl 1 rfl) ?_
  obtain ⟨x1, e1, hF⟩ := bnd hF
  refine pw_cSi (rest := [.ref (ad v0)]) hC hR lsX8_136 (CX8_task e1) ⟨rfl, rfl⟩ rfl hl.1 rfl ⟨Nat.le_of_ble_eq_true rfl, Nat.le_of_ble_eq_true rfl⟩ (Nat.le_of_ble_eq_true rfl) dX8_coreFor_2 ⟨Nat.zero_le _, Nat.zero_le _⟩ (fun H locs hR => ?_)
  refine pw_iconst hC dX8_coreFor_5 ?_
  refine pw_iadd hC dX8_coreFor_6 ?_
  obtain ⟨x2, e2, hF⟩ := bnd hF
  refine pw_iald hC hR e2 dX8_coreFor_7 ?_
  refine lv_istore_n (lv' := [(2, .int (Int32.ofInt x2)), (0, .ref (ad v0)), (1, .int (Int32.ofInt v1))]) hC.1 hC.2.1 dX8_coreFor_8 rfl hl (by decide) rfl (fun ls hl => ?_)
  refine lv_aload_n hC.1 hC.2.1 dX8_coreFor_9 rfl (lv_at hl 1 rfl) ?_
  refine lv_iload_n hC.1 hC.2.1 dX8_coreFor_10 rfl (lv_at hl 0 rfl) ?_
  obtain ⟨x3, e3, hF⟩ := bnd hF
  refine pw_cSi (rest := [.ref (ad v0)]) hC hR lsX8_41 (CX8_core e3) ⟨rfl, rfl⟩ rfl hl.1 rfl ⟨Nat.le_of_ble_eq_true rfl, Nat.le_of_ble_eq_true rfl⟩ (Nat.le_of_ble_eq_true rfl) dX8_coreFor_11 ⟨Nat.zero_le _, Nat.zero_le _⟩ (fun H locs hR => ?_)
  refine pw_iconst hC dX8_coreFor_14 ?_
  refine pw_iadd hC dX8_coreFor_15 ?_
  obtain ⟨x4, e4, hF⟩ := bnd hF
  refine pw_iald hC hR e4 dX8_coreFor_16 ?_
  refine lv_aload_n hC.1 hC.2.1 dX8_coreFor_17 rfl (lv_at hl 1 rfl) ?_
  refine pw_iconst hC dX8_coreFor_18 ?_
  obtain ⟨x5, e5, hF⟩ := bnd hF
  refine pw_iald hC hR e5 dX8_coreFor_19 ?_
  refine pw_icmpge hC 25 dX8_coreFor_20 (by decide) (fun hc => ?_) (fun hc => ?_)
  · rw [if_neg hc] at hF
    refine pw_iconst hC dX8_coreFor_25 ?_
    refine lv_istore_n (lv' := [(3, .int (Int32.ofInt (-1))), (2, .int (Int32.ofInt x2)), (0, .ref (ad v0)), (1, .int (Int32.ofInt v1))]) hC.1 hC.2.1 dX8_coreFor_26 rfl hl (by decide) rfl (fun ls hl => ?_)
    refine pw_iconst hC dX8_coreFor_27 ?_
    refine lv_istore (lv' := [(4, .int (Int32.ofInt 0)), (3, .int (Int32.ofInt (-1))), (2, .int (Int32.ofInt x2)), (0, .ref (ad v0)), (1, .int (Int32.ofInt v1))]) hC.1 hC.2.1 dX8_coreFor_28 hl (by decide) rfl (fun ls hl => ?_)
    obtain ⟨ex14, e14, hF⟩ := bnd hF
    refine LRX8_coreFor_30 hC FU _ ex14 e14 ?_ _ _ _ hR (lv_sub hl [3, 1, 0] rfl)
    intro H locs ls hR hl
    refine lv_iload_n hC.1 hC.2.1 dX8_coreFor_87 rfl (lv_at hl 0 rfl) ?_
    cases hF
    exact pw_iret hC hR dX8_coreFor_88
  · rw [if_pos hc] at hF
    refine lv_iload_n hC.1 hC.2.1 dX8_coreFor_23 rfl (lv_at hl 0 rfl) ?_
    cases hF
    exact pw_iret hC hR dX8_coreFor_24
abbrev rmX8_queueReady : Room := { frames := 4, cells := 0, slots := 0, locals := 86 }
def JX8_queueReady_37 (h : PH) (v0 : Nat) (v1 : Int) : Option ((Int × PH) ⊕ (PH)) :=
  some (.inl ((v1 + 1), h))
set_option maxHeartbeats 4000000 in
set_option maxRecDepth 100000 in
theorem BX8_queueReady_37 {h : PH} {v0 : Nat} {v1 : Int} (hC : Cx g p s m args meth c cX8_queueReady 4 RX8 none) (hR : Rl g ad h s.heap H locs) (hl : lv_has ls 4 [(0, .ref (ad v0)), (1, .int (Int32.ofInt v1))]) {Q : State → Prop} {o : (Int × PH) ⊕ (PH)} (hF : JX8_queueReady_37 h v0 v1 = some o) (hK : Sum.elim (fun st : Int × PH => ∀ (H : Heap) (locs : List Loc) (ls : Array Slot), Rl g ad st.2 s.heap H locs → lv_has ls 4 [(0, .ref (ad v0)), (1, .int (Int32.ofInt st.1))] → W p l e rmX8_queueReady s m args below meth c H locs 0 0 Q (F0 m 2 ls [])) (fun ex : PH => ∀ (H : Heap) (locs : List Loc) (ls : Array Slot), Rl g ad ex s.heap H locs → lv_has ls 4 [(0, .ref (ad v0))] → W p l e rmX8_queueReady s m args below meth c H locs 0 0 Q (F0 m 43 ls [])) o) : W p l e rmX8_queueReady s m args below meth c H locs 0 0 Q (F0 m 37 ls []) := by
  unfold JX8_queueReady_37 at hF
  refine pw_iinc (lv' := [(1, .int (Int32.ofInt (v1 + 1))), (0, .ref (ad v0))]) hC hl 1 dX8_queueReady_37 rfl (by decide) rfl (fun ls hl => ?_)
  refine pw_goto hC 2 dX8_queueReady_40 (by decide) ?_
  cases hF
  exact hK _ _ _ hR (lv_sub hl [1, 0] rfl)
def LX8_queueReady_2 (v0 : Nat) (v1 : Int) (h : PH) : Option ((Int × PH) ⊕ (PH)) :=
  (ald 0 h v0 3).bind fun x1 =>
  if w32 v1 < w32 x1 then (
    (FX8_task h v1).bind fun x2 =>
    (ald 0 h v0 (x2 + 4)).bind fun x3 =>
    if w32 x3 = 0 then (
      (FX8_counterOf h v0 v1).bind fun x4 =>
      if w32 x4 = 0 then (
        (FX8_task h v1).bind fun x5 =>
        (ast 0 h v0 (x5 + 4) 1).bind fun h6 =>
        JX8_queueReady_37 h6 v0 v1
      ) else (
        JX8_queueReady_37 h v0 v1
      )
    ) else (
      JX8_queueReady_37 h v0 v1
    )
  ) else (
    some (.inr h)
  )
set_option maxHeartbeats 4000000 in
set_option maxRecDepth 100000 in
theorem LRX8_queueReady_2 {v0 : Nat} {Q : State → Prop} (hC : Cx g p s m args meth c cX8_queueReady 4 RX8 none) : ∀ (n : Nat) (st : Int × PH) (ex : PH), lp (fun st : Int × PH => LX8_queueReady_2 v0 st.1 st.2) n st = some ex → (fun ex : PH => ∀ (H : Heap) (locs : List Loc) (ls : Array Slot), Rl g ad ex s.heap H locs → lv_has ls 4 [(0, .ref (ad v0))] → W p l e rmX8_queueReady s m args below meth c H locs 0 0 Q (F0 m 43 ls [])) ex → ∀ (H : Heap) (locs : List Loc) (ls : Array Slot), Rl g ad st.2 s.heap H locs → lv_has ls 4 [(0, .ref (ad v0)), (1, .int (Int32.ofInt st.1))] → W p l e rmX8_queueReady s m args below meth c H locs 0 0 Q (F0 m 2 ls []) := by
  refine lp_rule (Ph := (fun st : Int × PH => ∀ (H : Heap) (locs : List Loc) (ls : Array Slot), Rl g ad st.2 s.heap H locs → lv_has ls 4 [(0, .ref (ad v0)), (1, .int (Int32.ofInt st.1))] → W p l e rmX8_queueReady s m args below meth c H locs 0 0 Q (F0 m 2 ls []))) (Px := (fun ex : PH => ∀ (H : Heap) (locs : List Loc) (ls : Array Slot), Rl g ad ex s.heap H locs → lv_has ls 4 [(0, .ref (ad v0))] → W p l e rmX8_queueReady s m args below meth c H locs 0 0 Q (F0 m 43 ls []))) ?_
  rintro ⟨v1, h⟩ o hF hK H locs ls hR hl
  have hR : Rl g ad h s.heap H locs := hR
  have hl : lv_has ls 4 [(0, .ref (ad v0)), (1, .int (Int32.ofInt v1))] := hl
  have hF : LX8_queueReady_2 v0 v1 h = some o := hF
  unfold LX8_queueReady_2 at hF
  refine lv_iload_n hC.1 hC.2.1 dX8_queueReady_2 rfl (lv_at hl 1 rfl) ?_
  refine lv_aload_n hC.1 hC.2.1 dX8_queueReady_3 rfl (lv_at hl 0 rfl) ?_
  refine pw_iconst hC dX8_queueReady_4 ?_
  obtain ⟨x1, e1, hF⟩ := bnd hF
  refine pw_iald hC hR e1 dX8_queueReady_5 ?_
  refine pw_icmpge hC 43 dX8_queueReady_6 (by decide) (fun hc => ?_) (fun hc => ?_)
  · rw [if_neg hc] at hF
    cases hF
    exact hK _ _ _ hR (lv_sub hl [0] rfl)
  · rw [if_pos hc] at hF
    refine lv_aload_n hC.1 hC.2.1 dX8_queueReady_9 rfl (lv_at hl 0 rfl) ?_
    refine lv_iload_n hC.1 hC.2.1 dX8_queueReady_10 rfl (lv_at hl 1 rfl) ?_
    obtain ⟨x2, e2, hF⟩ := bnd hF
    refine pw_cSi (rest := [.ref (ad v0)]) hC hR lsX8_136 (CX8_task e2) ⟨rfl, rfl⟩ rfl hl.1 rfl ⟨Nat.le_of_ble_eq_true rfl, Nat.le_of_ble_eq_true rfl⟩ (Nat.le_of_ble_eq_true rfl) dX8_queueReady_11 ⟨Nat.zero_le _, Nat.zero_le _⟩ (fun H locs hR => ?_)
    refine pw_iconst hC dX8_queueReady_14 ?_
    refine pw_iadd hC dX8_queueReady_15 ?_
    obtain ⟨x3, e3, hF⟩ := bnd hF
    refine pw_iald hC hR e3 dX8_queueReady_16 ?_
    refine pw_ifne hC 37 dX8_queueReady_17 (by decide) (fun hc => ?_) (fun hc => ?_)
    · rw [if_neg hc] at hF
      exact BX8_queueReady_37 hC hR (lv_sub hl [0, 1] rfl) hF hK
    · rw [if_pos hc] at hF
      refine lv_aload_n hC.1 hC.2.1 dX8_queueReady_20 rfl (lv_at hl 0 rfl) ?_
      refine lv_iload_n hC.1 hC.2.1 dX8_queueReady_21 rfl (lv_at hl 1 rfl) ?_
      obtain ⟨x4, e4, hF⟩ := bnd hF
      refine pw_cSi (rest := []) hC hR lsX8_203 (CX8_counterOf e4) ⟨rfl, rfl⟩ rfl hl.1 rfl ⟨Nat.le_of_ble_eq_true rfl, Nat.le_of_ble_eq_true rfl⟩ (Nat.le_of_ble_eq_true rfl) dX8_queueReady_22 ⟨Nat.zero_le _, Nat.zero_le _⟩ (fun H locs hR => ?_)
      refine pw_ifne hC 37 dX8_queueReady_25 (by decide) (fun hc => ?_) (fun hc => ?_)
      · rw [if_neg hc] at hF
        exact BX8_queueReady_37 hC hR (lv_sub hl [0, 1] rfl) hF hK
      · rw [if_pos hc] at hF
        refine lv_aload_n hC.1 hC.2.1 dX8_queueReady_28 rfl (lv_at hl 0 rfl) ?_
        refine lv_iload_n hC.1 hC.2.1 dX8_queueReady_29 rfl (lv_at hl 1 rfl) ?_
        obtain ⟨x5, e5, hF⟩ := bnd hF
        refine pw_cSi (rest := [.ref (ad v0)]) hC hR lsX8_136 (CX8_task e5) ⟨rfl, rfl⟩ rfl hl.1 rfl ⟨Nat.le_of_ble_eq_true rfl, Nat.le_of_ble_eq_true rfl⟩ (Nat.le_of_ble_eq_true rfl) dX8_queueReady_30 ⟨Nat.zero_le _, Nat.zero_le _⟩ (fun H locs hR => ?_)
        refine pw_iconst hC dX8_queueReady_33 ?_
        refine pw_iadd hC dX8_queueReady_34 ?_
        refine pw_iconst hC dX8_queueReady_35 ?_
        obtain ⟨h6, e6, hF⟩ := bnd hF
        refine pw_iast hC hR e6 dX8_queueReady_36 (fun H locs hR => ?_)
        exact BX8_queueReady_37 hC hR (lv_sub hl [0, 1] rfl) hF hK
def JX8_queueReady_137 (h : PH) (v0 : Nat) (v1 : Int) (v2 : Int) : Option ((Int × PH) ⊕ (((PH) ⊕ (PH)))) :=
  some (.inl ((v2 + 1), h))
set_option maxHeartbeats 4000000 in
set_option maxRecDepth 100000 in
theorem BX8_queueReady_137 {h : PH} {v0 : Nat} {v1 : Int} {v2 : Int} (hC : Cx g p s m args meth c cX8_queueReady 4 RX8 none) (hR : Rl g ad h s.heap H locs) (hl : lv_has ls 4 [(0, .ref (ad v0)), (1, .int (Int32.ofInt v1)), (2, .int (Int32.ofInt v2))]) {Q : State → Prop} {o : (Int × PH) ⊕ (((PH) ⊕ (PH)))} (hF : JX8_queueReady_137 h v0 v1 v2 = some o) (hK : Sum.elim (fun st : Int × PH => ∀ (H : Heap) (locs : List Loc) (ls : Array Slot), Rl g ad st.2 s.heap H locs → lv_has ls 4 [(0, .ref (ad v0)), (1, .int (Int32.ofInt v1)), (2, .int (Int32.ofInt st.1))] → W p l e rmX8_queueReady s m args below meth c H locs 0 0 Q (F0 m 52 ls [])) (Sum.elim (fun ex : PH => ∀ (H : Heap) (locs : List Loc) (ls : Array Slot), Rl g ad ex s.heap H locs → lv_has ls 4 [] → W p l e rmX8_queueReady s m args below meth c H locs 0 0 Q (F0 m 97 ls [])) (fun ex : PH => ∀ (H : Heap) (locs : List Loc) (ls : Array Slot), Rl g ad ex s.heap H locs → lv_has ls 4 [(0, .ref (ad v0)), (1, .int (Int32.ofInt v1))] → W p l e rmX8_queueReady s m args below meth c H locs 0 0 Q (F0 m 143 ls []))) o) : W p l e rmX8_queueReady s m args below meth c H locs 0 0 Q (F0 m 137 ls []) := by
  unfold JX8_queueReady_137 at hF
  refine pw_iinc (lv' := [(2, .int (Int32.ofInt (v2 + 1))), (0, .ref (ad v0)), (1, .int (Int32.ofInt v1))]) hC hl 2 dX8_queueReady_137 rfl (by decide) rfl (fun ls hl => ?_)
  refine pw_goto hC 52 dX8_queueReady_140 (by decide) ?_
  cases hF
  exact hK _ _ _ hR (lv_sub hl [1, 2, 0] rfl)
def LX8_queueReady_52 (v0 : Nat) (v1 : Int) (v2 : Int) (h : PH) : Option ((Int × PH) ⊕ (((PH) ⊕ (PH)))) :=
  (ald 0 h v0 3).bind fun x8 =>
  if w32 v2 < w32 x8 then (
    (FX8_task h v2).bind fun x9 =>
    (ald 0 h v0 (x9 + 4)).bind fun x10 =>
    if w32 x10 = w32 1 then (
      (FX8_task h v2).bind fun x11 =>
      (ald 0 h v0 (x11 + 1)).bind fun x12 =>
      if w32 x12 = w32 v1 then (
        (FX8_coreFor h v0 v2).bind fun x13 =>
        if w32 x13 = w32 (-1) then (
          some (.inr (.inl h))
        ) else (
          (FX8_core h x13).bind fun x14 =>
          (FX8_core h x13).bind fun x15 =>
          (ald 0 h v0 (x15 + 4)).bind fun x16 =>
          (ast 0 h v0 ((x14 + 5) + x16) v2).bind fun h17 =>
          (FX8_core h17 x13).bind fun x18 =>
          (ald 0 h17 v0 (x18 + 4)).bind fun x19 =>
          (ast 0 h17 v0 (x18 + 4) (x19 + 1)).bind fun h20 =>
          (FX8_task h20 v2).bind fun x21 =>
          (ast 0 h20 v0 (x21 + 4) 2).bind fun h22 =>
          JX8_queueReady_137 h22 v0 v1 v2
        )
      ) else (
        JX8_queueReady_137 h v0 v1 v2
      )
    ) else (
      JX8_queueReady_137 h v0 v1 v2
    )
  ) else (
    some (.inr (.inr h))
  )
set_option maxHeartbeats 4000000 in
set_option maxRecDepth 100000 in
theorem LRX8_queueReady_52 {v0 : Nat} {v1 : Int} {Q : State → Prop} (hC : Cx g p s m args meth c cX8_queueReady 4 RX8 none) : ∀ (n : Nat) (st : Int × PH) (ex : ((PH) ⊕ (PH))), lp (fun st : Int × PH => LX8_queueReady_52 v0 v1 st.1 st.2) n st = some ex → (Sum.elim (fun ex : PH => ∀ (H : Heap) (locs : List Loc) (ls : Array Slot), Rl g ad ex s.heap H locs → lv_has ls 4 [] → W p l e rmX8_queueReady s m args below meth c H locs 0 0 Q (F0 m 97 ls [])) (fun ex : PH => ∀ (H : Heap) (locs : List Loc) (ls : Array Slot), Rl g ad ex s.heap H locs → lv_has ls 4 [(0, .ref (ad v0)), (1, .int (Int32.ofInt v1))] → W p l e rmX8_queueReady s m args below meth c H locs 0 0 Q (F0 m 143 ls []))) ex → ∀ (H : Heap) (locs : List Loc) (ls : Array Slot), Rl g ad st.2 s.heap H locs → lv_has ls 4 [(0, .ref (ad v0)), (1, .int (Int32.ofInt v1)), (2, .int (Int32.ofInt st.1))] → W p l e rmX8_queueReady s m args below meth c H locs 0 0 Q (F0 m 52 ls []) := by
  refine lp_rule (Ph := (fun st : Int × PH => ∀ (H : Heap) (locs : List Loc) (ls : Array Slot), Rl g ad st.2 s.heap H locs → lv_has ls 4 [(0, .ref (ad v0)), (1, .int (Int32.ofInt v1)), (2, .int (Int32.ofInt st.1))] → W p l e rmX8_queueReady s m args below meth c H locs 0 0 Q (F0 m 52 ls []))) (Px := (Sum.elim (fun ex : PH => ∀ (H : Heap) (locs : List Loc) (ls : Array Slot), Rl g ad ex s.heap H locs → lv_has ls 4 [] → W p l e rmX8_queueReady s m args below meth c H locs 0 0 Q (F0 m 97 ls [])) (fun ex : PH => ∀ (H : Heap) (locs : List Loc) (ls : Array Slot), Rl g ad ex s.heap H locs → lv_has ls 4 [(0, .ref (ad v0)), (1, .int (Int32.ofInt v1))] → W p l e rmX8_queueReady s m args below meth c H locs 0 0 Q (F0 m 143 ls [])))) ?_
  rintro ⟨v2, h⟩ o hF hK H locs ls hR hl
  have hR : Rl g ad h s.heap H locs := hR
  have hl : lv_has ls 4 [(0, .ref (ad v0)), (1, .int (Int32.ofInt v1)), (2, .int (Int32.ofInt v2))] := hl
  have hF : LX8_queueReady_52 v0 v1 v2 h = some o := hF
  unfold LX8_queueReady_52 at hF
  refine lv_iload_n hC.1 hC.2.1 dX8_queueReady_52 rfl (lv_at hl 2 rfl) ?_
  refine lv_aload_n hC.1 hC.2.1 dX8_queueReady_53 rfl (lv_at hl 0 rfl) ?_
  refine pw_iconst hC dX8_queueReady_54 ?_
  obtain ⟨x8, e8, hF⟩ := bnd hF
  refine pw_iald hC hR e8 dX8_queueReady_55 ?_
  refine pw_icmpge hC 143 dX8_queueReady_56 (by decide) (fun hc => ?_) (fun hc => ?_)
  · rw [if_neg hc] at hF
    cases hF
    exact hK _ _ _ hR (lv_sub hl [0, 1] rfl)
  · rw [if_pos hc] at hF
    refine lv_aload_n hC.1 hC.2.1 dX8_queueReady_59 rfl (lv_at hl 0 rfl) ?_
    refine lv_iload_n hC.1 hC.2.1 dX8_queueReady_60 rfl (lv_at hl 2 rfl) ?_
    obtain ⟨x9, e9, hF⟩ := bnd hF
    refine pw_cSi (rest := [.ref (ad v0)]) hC hR lsX8_136 (CX8_task e9) ⟨rfl, rfl⟩ rfl hl.1 rfl ⟨Nat.le_of_ble_eq_true rfl, Nat.le_of_ble_eq_true rfl⟩ (Nat.le_of_ble_eq_true rfl) dX8_queueReady_61 ⟨Nat.zero_le _, Nat.zero_le _⟩ (fun H locs hR => ?_)
    refine pw_iconst hC dX8_queueReady_64 ?_
    refine pw_iadd hC dX8_queueReady_65 ?_
    obtain ⟨x10, e10, hF⟩ := bnd hF
    refine pw_iald hC hR e10 dX8_queueReady_66 ?_
    refine pw_iconst hC dX8_queueReady_67 ?_
    refine pw_icmpne hC 137 dX8_queueReady_68 (by decide) (fun hc => ?_) (fun hc => ?_)
    · rw [if_neg hc] at hF
      exact BX8_queueReady_137 hC hR (lv_sub hl [0, 1, 2] rfl) hF hK
    · rw [if_pos hc] at hF
      refine lv_aload_n hC.1 hC.2.1 dX8_queueReady_71 rfl (lv_at hl 0 rfl) ?_
      refine lv_iload_n hC.1 hC.2.1 dX8_queueReady_72 rfl (lv_at hl 2 rfl) ?_
      obtain ⟨x11, e11, hF⟩ := bnd hF
      refine pw_cSi (rest := [.ref (ad v0)]) hC hR lsX8_136 (CX8_task e11) ⟨rfl, rfl⟩ rfl hl.1 rfl ⟨Nat.le_of_ble_eq_true rfl, Nat.le_of_ble_eq_true rfl⟩ (Nat.le_of_ble_eq_true rfl) dX8_queueReady_73 ⟨Nat.zero_le _, Nat.zero_le _⟩ (fun H locs hR => ?_)
      refine pw_iconst hC dX8_queueReady_76 ?_
      refine pw_iadd hC dX8_queueReady_77 ?_
      obtain ⟨x12, e12, hF⟩ := bnd hF
      refine pw_iald hC hR e12 dX8_queueReady_78 ?_
      refine lv_iload_n hC.1 hC.2.1 dX8_queueReady_79 rfl (lv_at hl 1 rfl) ?_
      refine pw_icmpeq hC 86 dX8_queueReady_80 (by decide) (fun hc => ?_) (fun hc => ?_)
      · rw [if_pos hc] at hF
        refine lv_aload_n hC.1 hC.2.1 dX8_queueReady_86 rfl (lv_at hl 0 rfl) ?_
        refine lv_iload_n hC.1 hC.2.1 dX8_queueReady_87 rfl (lv_at hl 2 rfl) ?_
        obtain ⟨x13, e13, hF⟩ := bnd hF
        refine pw_cSi (rest := []) hC hR lsX8_207 (CX8_coreFor e13) ⟨rfl, rfl⟩ rfl hl.1 rfl ⟨Nat.le_of_ble_eq_true rfl, Nat.le_of_ble_eq_true rfl⟩ (Nat.le_of_ble_eq_true rfl) dX8_queueReady_88 ⟨Nat.zero_le _, Nat.zero_le _⟩ (fun H locs hR => ?_)
        refine lv_istore_n (lv' := [(3, .int (Int32.ofInt x13)), (0, .ref (ad v0)), (1, .int (Int32.ofInt v1)), (2, .int (Int32.ofInt v2))]) hC.1 hC.2.1 dX8_queueReady_91 rfl hl (by decide) rfl (fun ls hl => ?_)
        refine lv_iload_n hC.1 hC.2.1 dX8_queueReady_92 rfl (lv_at hl 0 rfl) ?_
        refine pw_iconst hC dX8_queueReady_93 ?_
        refine pw_icmpne hC 98 dX8_queueReady_94 (by decide) (fun hc => ?_) (fun hc => ?_)
        · rw [if_neg hc] at hF
          refine lv_aload_n hC.1 hC.2.1 dX8_queueReady_98 rfl (lv_at hl 1 rfl) ?_
          refine lv_iload_n hC.1 hC.2.1 dX8_queueReady_99 rfl (lv_at hl 0 rfl) ?_
          obtain ⟨x14, e14, hF⟩ := bnd hF
          refine pw_cSi (rest := [.ref (ad v0)]) hC hR lsX8_41 (CX8_core e14) ⟨rfl, rfl⟩ rfl hl.1 rfl ⟨Nat.le_of_ble_eq_true rfl, Nat.le_of_ble_eq_true rfl⟩ (Nat.le_of_ble_eq_true rfl) dX8_queueReady_100 ⟨Nat.zero_le _, Nat.zero_le _⟩ (fun H locs hR => ?_)
          refine pw_iconst hC dX8_queueReady_103 ?_
          refine pw_iadd hC dX8_queueReady_104 ?_
          refine lv_aload_n hC.1 hC.2.1 dX8_queueReady_105 rfl (lv_at hl 1 rfl) ?_
          refine lv_iload_n hC.1 hC.2.1 dX8_queueReady_106 rfl (lv_at hl 0 rfl) ?_
          obtain ⟨x15, e15, hF⟩ := bnd hF
          refine pw_cSi (rest := [.ref (ad v0), .int (Int32.ofInt (x14 + 5)), .ref (ad v0)]) hC hR lsX8_41 (CX8_core e15) ⟨rfl, rfl⟩ rfl hl.1 rfl ⟨Nat.le_of_ble_eq_true rfl, Nat.le_of_ble_eq_true rfl⟩ (Nat.le_of_ble_eq_true rfl) dX8_queueReady_107 ⟨Nat.zero_le _, Nat.zero_le _⟩ (fun H locs hR => ?_)
          refine pw_iconst hC dX8_queueReady_110 ?_
          refine pw_iadd hC dX8_queueReady_111 ?_
          obtain ⟨x16, e16, hF⟩ := bnd hF
          refine pw_iald hC hR e16 dX8_queueReady_112 ?_
          refine pw_iadd hC dX8_queueReady_113 ?_
          refine lv_iload_n hC.1 hC.2.1 dX8_queueReady_114 rfl (lv_at hl 3 rfl) ?_
          obtain ⟨h17, e17, hF⟩ := bnd hF
          refine pw_iast hC hR e17 dX8_queueReady_115 (fun H locs hR => ?_)
          refine lv_aload_n hC.1 hC.2.1 dX8_queueReady_116 rfl (lv_at hl 1 rfl) ?_
          refine lv_iload_n hC.1 hC.2.1 dX8_queueReady_117 rfl (lv_at hl 0 rfl) ?_
          obtain ⟨x18, e18, hF⟩ := bnd hF
          refine pw_cSi (rest := [.ref (ad v0)]) hC hR lsX8_41 (CX8_core e18) ⟨rfl, rfl⟩ rfl hl.1 rfl ⟨Nat.le_of_ble_eq_true rfl, Nat.le_of_ble_eq_true rfl⟩ (Nat.le_of_ble_eq_true rfl) dX8_queueReady_118 ⟨Nat.zero_le _, Nat.zero_le _⟩ (fun H locs hR => ?_)
          refine pw_iconst hC dX8_queueReady_121 ?_
          refine pw_iadd hC dX8_queueReady_122 ?_
          refine lv_dup2_11 hC.1 hC.2.1 dX8_queueReady_123 rfl rfl ?_
          obtain ⟨x19, e19, hF⟩ := bnd hF
          refine pw_iald hC hR e19 dX8_queueReady_124 ?_
          refine pw_iconst hC dX8_queueReady_125 ?_
          refine pw_iadd hC dX8_queueReady_126 ?_
          obtain ⟨h20, e20, hF⟩ := bnd hF
          refine pw_iast hC hR e20 dX8_queueReady_127 (fun H locs hR => ?_)
          refine lv_aload_n hC.1 hC.2.1 dX8_queueReady_128 rfl (lv_at hl 1 rfl) ?_
          refine lv_iload_n hC.1 hC.2.1 dX8_queueReady_129 rfl (lv_at hl 3 rfl) ?_
          obtain ⟨x21, e21, hF⟩ := bnd hF
          refine pw_cSi (rest := [.ref (ad v0)]) hC hR lsX8_136 (CX8_task e21) ⟨rfl, rfl⟩ rfl hl.1 rfl ⟨Nat.le_of_ble_eq_true rfl, Nat.le_of_ble_eq_true rfl⟩ (Nat.le_of_ble_eq_true rfl) dX8_queueReady_130 ⟨Nat.zero_le _, Nat.zero_le _⟩ (fun H locs hR => ?_)
          refine pw_iconst hC dX8_queueReady_133 ?_
          refine pw_iadd hC dX8_queueReady_134 ?_
          refine pw_iconst hC dX8_queueReady_135 ?_
          obtain ⟨h22, e22, hF⟩ := bnd hF
          refine pw_iast hC hR e22 dX8_queueReady_136 (fun H locs hR => ?_)
          exact BX8_queueReady_137 hC hR (lv_sub hl [1, 2, 3] rfl) hF hK
        · rw [if_pos hc] at hF
          cases hF
          exact hK _ _ _ hR (lv_sub hl [] rfl)
      · rw [if_neg hc] at hF
        refine pw_goto hC 137 dX8_queueReady_83 (by decide) ?_
        exact BX8_queueReady_137 hC hR (lv_sub hl [0, 1, 2] rfl) hF hK
def LX8_queueReady_46 (v0 : Nat) (v1 : Int) (h : PH) : Option ((Int × PH) ⊕ (((PH) ⊕ (PH)))) :=
  if w32 v1 < 0 then (
    some (.inr (.inr h))
  ) else (
    (lp (fun st : Int × PH => LX8_queueReady_52 v0 v1 st.1 st.2) FU (0, h)).bind fun ex23 =>
    Sum.elim (fun ex23 => (
      some (.inr (.inl ex23))
    )) (fun ex23 => (
      some (.inl ((v1 + -1), ex23))
    )) ex23
  )
set_option maxHeartbeats 4000000 in
set_option maxRecDepth 100000 in
theorem LRX8_queueReady_46 {v0 : Nat} {Q : State → Prop} (hC : Cx g p s m args meth c cX8_queueReady 4 RX8 none) : ∀ (n : Nat) (st : Int × PH) (ex : ((PH) ⊕ (PH))), lp (fun st : Int × PH => LX8_queueReady_46 v0 st.1 st.2) n st = some ex → (Sum.elim (fun ex : PH => ∀ (H : Heap) (locs : List Loc) (ls : Array Slot), Rl g ad ex s.heap H locs → lv_has ls 4 [] → W p l e rmX8_queueReady s m args below meth c H locs 0 0 Q (F0 m 97 ls [])) (fun ex : PH => ∀ (H : Heap) (locs : List Loc) (ls : Array Slot), Rl g ad ex s.heap H locs → lv_has ls 4 [] → W p l e rmX8_queueReady s m args below meth c H locs 0 0 Q (F0 m 149 ls []))) ex → ∀ (H : Heap) (locs : List Loc) (ls : Array Slot), Rl g ad st.2 s.heap H locs → lv_has ls 4 [(0, .ref (ad v0)), (1, .int (Int32.ofInt st.1))] → W p l e rmX8_queueReady s m args below meth c H locs 0 0 Q (F0 m 46 ls []) := by
  refine lp_rule (Ph := (fun st : Int × PH => ∀ (H : Heap) (locs : List Loc) (ls : Array Slot), Rl g ad st.2 s.heap H locs → lv_has ls 4 [(0, .ref (ad v0)), (1, .int (Int32.ofInt st.1))] → W p l e rmX8_queueReady s m args below meth c H locs 0 0 Q (F0 m 46 ls []))) (Px := (Sum.elim (fun ex : PH => ∀ (H : Heap) (locs : List Loc) (ls : Array Slot), Rl g ad ex s.heap H locs → lv_has ls 4 [] → W p l e rmX8_queueReady s m args below meth c H locs 0 0 Q (F0 m 97 ls [])) (fun ex : PH => ∀ (H : Heap) (locs : List Loc) (ls : Array Slot), Rl g ad ex s.heap H locs → lv_has ls 4 [] → W p l e rmX8_queueReady s m args below meth c H locs 0 0 Q (F0 m 149 ls [])))) ?_
  rintro ⟨v1, h⟩ o hF hK H locs ls hR hl
  have hR : Rl g ad h s.heap H locs := hR
  have hl : lv_has ls 4 [(0, .ref (ad v0)), (1, .int (Int32.ofInt v1))] := hl
  have hF : LX8_queueReady_46 v0 v1 h = some o := hF
  unfold LX8_queueReady_46 at hF
  refine lv_iload_n hC.1 hC.2.1 dX8_queueReady_46 rfl (lv_at hl 1 rfl) ?_
  refine pw_iflt hC 149 dX8_queueReady_47 (by decide) (fun hc => ?_) (fun hc => ?_)
  · rw [if_pos hc] at hF
    cases hF
    exact hK _ _ _ hR (lv_sub hl [] rfl)
  · rw [if_neg hc] at hF
    refine pw_iconst hC dX8_queueReady_50 ?_
    refine lv_istore_n (lv' := [(2, .int (Int32.ofInt 0)), (0, .ref (ad v0)), (1, .int (Int32.ofInt v1))]) hC.1 hC.2.1 dX8_queueReady_51 rfl hl (by decide) rfl (fun ls hl => ?_)
    obtain ⟨ex23, e23, hF⟩ := bnd hF
    refine LRX8_queueReady_52 hC FU _ ex23 e23 ?_ _ _ _ hR (lv_sub hl [1, 2, 0] rfl)
    rcases ex23 with ex23 | ex23
    · dsimp only [Sum.elim_inl, Sum.elim_inr] at hF
      intro H locs ls hR hl
      cases hF
      exact hK _ _ _ hR (lv_sub hl [] rfl)
    · dsimp only [Sum.elim_inl, Sum.elim_inr] at hF
      intro H locs ls hR hl
      refine pw_iinc (lv' := [(1, .int (Int32.ofInt (v1 + -1))), (0, .ref (ad v0))]) hC hl 1 dX8_queueReady_143 rfl (by decide) rfl (fun ls hl => ?_)
      refine pw_goto hC 46 dX8_queueReady_146 (by decide) ?_
      cases hF
      exact hK _ _ _ hR (lv_sub hl [1, 0] rfl)
def FX8_queueReady (h : PH) (v0 : Nat) : Option (PH) :=
  (lp (fun st : Int × PH => LX8_queueReady_2 v0 st.1 st.2) FU (0, h)).bind fun ex7 =>
  (lp (fun st : Int × PH => LX8_queueReady_46 v0 st.1 st.2) FU (9, ex7)).bind fun ex24 =>
  Sum.elim (fun ex24 => (
    some ex24
  )) (fun ex24 => (
    some ex24
  )) ex24
set_option maxHeartbeats 4000000 in
set_option maxRecDepth 100000 in
theorem CX8_queueReady {g : GP} {l : Launch} {ad : Nat → Nat} {h : PH} {v0 : Nat} {q : PH} (hF : FX8_queueReady h v0 = some q) : CN g l yX8_queueReady cX8_queueReady 4 none rmX8_queueReady ad h [.ref (ad v0)] none q := by
  refine pw_met (by decide) (Nat.le_of_ble_eq_true rfl) ?_
  intro p e s m args below meth c ls hC hN hR hl
  have hl : lv_has ls 4 [(0, .ref (ad v0))] := hl
  unfold FX8_queueReady at hF
  refine pw_iconst hC dX8_queueReady_0 ?_
  refine lv_istore_n (lv' := [(1, .int (Int32.ofInt 0)), (0, .ref (ad v0))]) hC.1 hC.2.1 dX8_queueReady_1 rfl hl (by decide) rfl (fun ls hl => ?_)
  obtain ⟨ex7, e7, hF⟩ := bnd hF
  refine LRX8_queueReady_2 hC FU _ ex7 e7 ?_ _ _ _ hR (lv_sub hl [1, 0] rfl)
  intro H locs ls hR hl
  refine pw_bipush hC dX8_queueReady_43 rfl ?_
  refine lv_istore_n (lv' := [(1, .int (Int32.ofInt 9)), (0, .ref (ad v0))]) hC.1 hC.2.1 dX8_queueReady_45 rfl hl (by decide) rfl (fun ls hl => ?_)
  obtain ⟨ex24, e24, hF⟩ := bnd hF
  refine LRX8_queueReady_46 hC FU _ ex24 e24 ?_ _ _ _ hR (lv_sub hl [1, 0] rfl)
  rcases ex24 with ex24 | ex24
  · dsimp only [Sum.elim_inl, Sum.elim_inr] at hF
    intro H locs ls hR hl
    cases hF
    exact pw_vret hC hR dX8_queueReady_97
  · dsimp only [Sum.elim_inl, Sum.elim_inr] at hF
    intro H locs ls hR hl
    cases hF
    exact pw_vret hC hR dX8_queueReady_149
abbrev rmX8_takeOut : Room := { frames := 1, cells := 0, slots := 0, locals := 20 }
def LX8_takeOut_26 (v0 : Nat) (v3 : Int) (v4 : Int) (v5 : Int) (h : PH) : Option ((Int × PH) ⊕ (PH)) :=
  (ald 0 h v0 (v3 + 4)).bind fun x5 =>
  if w32 v5 < w32 x5 then (
    (ald 0 h v0 (((v3 + 5) + v5) + 1)).bind fun x6 =>
    (ast 0 h v0 ((v3 + 5) + v5) x6).bind fun h7 =>
    some (.inl ((v5 + 1), h7))
  ) else (
    some (.inr h)
  )
set_option maxHeartbeats 4000000 in
set_option maxRecDepth 100000 in
theorem LRX8_takeOut_26 {v0 : Nat} {v3 : Int} {v4 : Int} {Q : State → Prop} (hC : Cx g p s m args meth c cX8_takeOut 6 RX8 (some .int)) : ∀ (n : Nat) (st : Int × PH) (ex : PH), lp (fun st : Int × PH => LX8_takeOut_26 v0 v3 v4 st.1 st.2) n st = some ex → (fun ex : PH => ∀ (H : Heap) (locs : List Loc) (ls : Array Slot), Rl g ad ex s.heap H locs → lv_has ls 6 [(4, .int (Int32.ofInt v4))] → W p l e rmX8_takeOut s m args below meth c H locs 0 0 Q (F0 m 60 ls [])) ex → ∀ (H : Heap) (locs : List Loc) (ls : Array Slot), Rl g ad st.2 s.heap H locs → lv_has ls 6 [(0, .ref (ad v0)), (3, .int (Int32.ofInt v3)), (4, .int (Int32.ofInt v4)), (5, .int (Int32.ofInt st.1))] → W p l e rmX8_takeOut s m args below meth c H locs 0 0 Q (F0 m 26 ls []) := by
  refine lp_rule (Ph := (fun st : Int × PH => ∀ (H : Heap) (locs : List Loc) (ls : Array Slot), Rl g ad st.2 s.heap H locs → lv_has ls 6 [(0, .ref (ad v0)), (3, .int (Int32.ofInt v3)), (4, .int (Int32.ofInt v4)), (5, .int (Int32.ofInt st.1))] → W p l e rmX8_takeOut s m args below meth c H locs 0 0 Q (F0 m 26 ls []))) (Px := (fun ex : PH => ∀ (H : Heap) (locs : List Loc) (ls : Array Slot), Rl g ad ex s.heap H locs → lv_has ls 6 [(4, .int (Int32.ofInt v4))] → W p l e rmX8_takeOut s m args below meth c H locs 0 0 Q (F0 m 60 ls []))) ?_
  rintro ⟨v5, h⟩ o hF hK H locs ls hR hl
  have hR : Rl g ad h s.heap H locs := hR
  have hl : lv_has ls 6 [(0, .ref (ad v0)), (3, .int (Int32.ofInt v3)), (4, .int (Int32.ofInt v4)), (5, .int (Int32.ofInt v5))] := hl
  have hF : LX8_takeOut_26 v0 v3 v4 v5 h = some o := hF
  unfold LX8_takeOut_26 at hF
  refine lv_iload hC.1 hC.2.1 dX8_takeOut_26 (lv_at hl 3 rfl) ?_
  refine lv_aload_n hC.1 hC.2.1 dX8_takeOut_28 rfl (lv_at hl 0 rfl) ?_
  refine lv_iload_n hC.1 hC.2.1 dX8_takeOut_29 rfl (lv_at hl 1 rfl) ?_
  refine pw_iconst hC dX8_takeOut_30 ?_
  refine pw_iadd hC dX8_takeOut_31 ?_
  obtain ⟨x5, e5, hF⟩ := bnd hF
  refine pw_iald hC hR e5 dX8_takeOut_32 ?_
  refine pw_icmpge hC 60 dX8_takeOut_33 (by decide) (fun hc => ?_) (fun hc => ?_)
  · rw [if_neg hc] at hF
    cases hF
    exact hK _ _ _ hR (lv_sub hl [2] rfl)
  · rw [if_pos hc] at hF
    refine lv_aload_n hC.1 hC.2.1 dX8_takeOut_36 rfl (lv_at hl 0 rfl) ?_
    refine lv_iload_n hC.1 hC.2.1 dX8_takeOut_37 rfl (lv_at hl 1 rfl) ?_
    refine pw_iconst hC dX8_takeOut_38 ?_
    refine pw_iadd hC dX8_takeOut_39 ?_
    refine lv_iload hC.1 hC.2.1 dX8_takeOut_40 (lv_at hl 3 rfl) ?_
    refine pw_iadd hC dX8_takeOut_42 ?_
    refine lv_aload_n hC.1 hC.2.1 dX8_takeOut_43 rfl (lv_at hl 0 rfl) ?_
    refine lv_iload_n hC.1 hC.2.1 dX8_takeOut_44 rfl (lv_at hl 1 rfl) ?_
    refine pw_iconst hC dX8_takeOut_45 ?_
    refine pw_iadd hC dX8_takeOut_46 ?_
    refine lv_iload hC.1 hC.2.1 dX8_takeOut_47 (lv_at hl 3 rfl) ?_
    refine pw_iadd hC dX8_takeOut_49 ?_
    refine pw_iconst hC dX8_takeOut_50 ?_
    refine pw_iadd hC dX8_takeOut_51 ?_
    obtain ⟨x6, e6, hF⟩ := bnd hF
    refine pw_iald hC hR e6 dX8_takeOut_52 ?_
    obtain ⟨h7, e7, hF⟩ := bnd hF
    refine pw_iast hC hR e7 dX8_takeOut_53 (fun H locs hR => ?_)
    refine pw_iinc (lv' := [(5, .int (Int32.ofInt (v5 + 1))), (0, .ref (ad v0)), (3, .int (Int32.ofInt v3)), (4, .int (Int32.ofInt v4))]) hC hl 3 dX8_takeOut_54 rfl (by decide) rfl (fun ls hl => ?_)
    refine pw_goto hC 26 dX8_takeOut_57 (by decide) ?_
    cases hF
    exact hK _ _ _ hR (lv_sub hl [1, 2, 3, 0] rfl)
def FX8_takeOut (h : PH) (v0 : Nat) (v1 : Int) (v2 : Int) : Option (Int × PH) :=
  (FX8_core h v1).bind fun x1 =>
  (ald 0 h v0 ((x1 + 5) + v2)).bind fun x2 =>
  (ald 0 h v0 (x1 + 4)).bind fun x3 =>
  (ast 0 h v0 (x1 + 4) (x3 - 1)).bind fun h4 =>
  (lp (fun st : Int × PH => LX8_takeOut_26 v0 x1 x2 st.1 st.2) FU (v2, h4)).bind fun ex8 =>
  some (x2, ex8)
set_option maxHeartbeats 4000000 in
set_option maxRecDepth 100000 in
theorem CX8_takeOut {g : GP} {l : Launch} {ad : Nat → Nat} {h : PH} {v0 : Nat} {v1 : Int} {v2 : Int} {q : Int × PH} (hF : FX8_takeOut h v0 v1 v2 = some q) : CN g l yX8_takeOut cX8_takeOut 6 (some .int) rmX8_takeOut ad h [.ref (ad v0), .int (Int32.ofInt v1), .int (Int32.ofInt v2)] (some (.int (Int32.ofInt q.1))) q.2 := by
  refine pw_met (by decide) (Nat.le_of_ble_eq_true rfl) ?_
  intro p e s m args below meth c ls hC hN hR hl
  have hl : lv_has ls 6 [(0, .ref (ad v0)), (1, .int (Int32.ofInt v1)), (2, .int (Int32.ofInt v2))] := hl
  unfold FX8_takeOut at hF
  refine lv_iload_n hC.1 hC.2.1 dX8_takeOut_0 rfl (lv_at hl 1 rfl) ?_
  obtain ⟨x1, e1, hF⟩ := bnd hF
  refine pw_cSi (rest := []) hC hR lsX8_41 (CX8_core e1) ⟨rfl, rfl⟩ rfl hl.1 rfl ⟨Nat.le_of_ble_eq_true rfl, Nat.le_of_ble_eq_true rfl⟩ (Nat.le_of_ble_eq_true rfl) dX8_takeOut_1 ⟨Nat.zero_le _, Nat.zero_le _⟩ (fun H locs hR => ?_)
  refine lv_istore_n (lv' := [(3, .int (Int32.ofInt x1)), (0, .ref (ad v0)), (1, .int (Int32.ofInt v1)), (2, .int (Int32.ofInt v2))]) hC.1 hC.2.1 dX8_takeOut_4 rfl hl (by decide) rfl (fun ls hl => ?_)
  refine lv_aload_n hC.1 hC.2.1 dX8_takeOut_5 rfl (lv_at hl 1 rfl) ?_
  refine lv_iload_n hC.1 hC.2.1 dX8_takeOut_6 rfl (lv_at hl 0 rfl) ?_
  refine pw_iconst hC dX8_takeOut_7 ?_
  refine pw_iadd hC dX8_takeOut_8 ?_
  refine lv_iload_n hC.1 hC.2.1 dX8_takeOut_9 rfl (lv_at hl 3 rfl) ?_
  refine pw_iadd hC dX8_takeOut_10 ?_
  obtain ⟨x2, e2, hF⟩ := bnd hF
  refine pw_iald hC hR e2 dX8_takeOut_11 ?_
  refine lv_istore (lv' := [(4, .int (Int32.ofInt x2)), (3, .int (Int32.ofInt x1)), (0, .ref (ad v0)), (1, .int (Int32.ofInt v1)), (2, .int (Int32.ofInt v2))]) hC.1 hC.2.1 dX8_takeOut_12 hl (by decide) rfl (fun ls hl => ?_)
  refine lv_aload_n hC.1 hC.2.1 dX8_takeOut_14 rfl (lv_at hl 2 rfl) ?_
  refine lv_iload_n hC.1 hC.2.1 dX8_takeOut_15 rfl (lv_at hl 1 rfl) ?_
  refine pw_iconst hC dX8_takeOut_16 ?_
  refine pw_iadd hC dX8_takeOut_17 ?_
  refine lv_dup2_11 hC.1 hC.2.1 dX8_takeOut_18 rfl rfl ?_
  obtain ⟨x3, e3, hF⟩ := bnd hF
  refine pw_iald hC hR e3 dX8_takeOut_19 ?_
  refine pw_iconst hC dX8_takeOut_20 ?_
  refine pw_isub hC dX8_takeOut_21 ?_
  obtain ⟨h4, e4, hF⟩ := bnd hF
  refine pw_iast hC hR e4 dX8_takeOut_22 (fun H locs hR => ?_)
  refine lv_iload_n hC.1 hC.2.1 dX8_takeOut_23 rfl (lv_at hl 4 rfl) ?_
  refine lv_istore (lv' := [(5, .int (Int32.ofInt v2)), (4, .int (Int32.ofInt x2)), (3, .int (Int32.ofInt x1)), (0, .ref (ad v0)), (1, .int (Int32.ofInt v1)), (2, .int (Int32.ofInt v2))]) hC.1 hC.2.1 dX8_takeOut_24 hl (by decide) rfl (fun ls hl => ?_)
  obtain ⟨ex8, e8, hF⟩ := bnd hF
  refine LRX8_takeOut_26 hC FU _ ex8 e8 ?_ _ _ _ hR (lv_sub hl [3, 2, 1, 0] rfl)
  intro H locs ls hR hl
  refine lv_iload hC.1 hC.2.1 dX8_takeOut_60 (lv_at hl 0 rfl) ?_
  cases hF
  exact pw_iret hC hR dX8_takeOut_62
abbrev rmX8_take : Room := { frames := 3, cells := 0, slots := 0, locals := 72 }
def JX8_take_132 (h : PH) (v0 : Nat) (v1 : Nat) (v2 : Int) (v4 : Int) (s0 : Int) (s1 : Int) (s2 : Nat) : Option (PH) :=
  (FX8_takeOut h s2 s1 s0).bind fun q5 =>
  (FX8_core q5.2 v2).bind fun x6 =>
  (ast 0 q5.2 v1 (x6 + 0) q5.1).bind fun h7 =>
  (FX8_task h7 q5.1).bind fun x8 =>
  (ast 0 h7 v1 (x8 + 4) 3).bind fun h9 =>
  (FX8_task h9 q5.1).bind fun x10 =>
  (ast 0 h9 v1 (x10 + 6) v2).bind fun h11 =>
  (FX8_task h11 q5.1).bind fun x12 =>
  (FX8_lengthOf h11 v0 v1 q5.1 v2).bind fun q13 =>
  (ast 0 q13.2 v1 (x12 + 5) (q13.1 + v4)).bind fun h14 =>
  some h14
set_option maxHeartbeats 4000000 in
set_option maxRecDepth 100000 in
theorem BX8_take_132 {h : PH} {v0 : Nat} {v1 : Nat} {v2 : Int} {v4 : Int} {s0 : Int} {s1 : Int} {s2 : Nat} (hC : Cx g p s m args meth c cX8_take 6 RX8 none) (hR : Rl g ad h s.heap H locs) (hl : lv_has ls 6 [(0, .ref (ad v0)), (1, .ref (ad v1)), (2, .int (Int32.ofInt v2)), (4, .int (Int32.ofInt v4))]) {q : PH} (hF : JX8_take_132 h v0 v1 v2 v4 s0 s1 s2 = some q) : W p l e rmX8_take s m args below meth c H locs 0 0 (MQ below (QcN g ad q none) args s 0 0 (gA g)) (F0 m 132 ls [.int (Int32.ofInt s0), .int (Int32.ofInt s1), .ref (ad s2)]) := by
  unfold JX8_take_132 at hF
  obtain ⟨q5, e5, hF⟩ := bnd hF
  refine pw_cSi (rest := []) hC hR lsX8_210 (CX8_takeOut e5) ⟨rfl, rfl⟩ rfl hl.1 rfl ⟨Nat.le_of_ble_eq_true rfl, Nat.le_of_ble_eq_true rfl⟩ (Nat.le_of_ble_eq_true rfl) dX8_take_132 ⟨Nat.zero_le _, Nat.zero_le _⟩ (fun H locs hR => ?_)
  refine lv_istore (lv' := [(5, .int (Int32.ofInt q5.1)), (0, .ref (ad v0)), (1, .ref (ad v1)), (2, .int (Int32.ofInt v2)), (4, .int (Int32.ofInt v4))]) hC.1 hC.2.1 dX8_take_135 hl (by decide) rfl (fun ls hl => ?_)
  refine lv_aload_n hC.1 hC.2.1 dX8_take_137 rfl (lv_at hl 2 rfl) ?_
  refine lv_iload_n hC.1 hC.2.1 dX8_take_138 rfl (lv_at hl 3 rfl) ?_
  obtain ⟨x6, e6, hF⟩ := bnd hF
  refine pw_cSi (rest := [.ref (ad v1)]) hC hR lsX8_41 (CX8_core e6) ⟨rfl, rfl⟩ rfl hl.1 rfl ⟨Nat.le_of_ble_eq_true rfl, Nat.le_of_ble_eq_true rfl⟩ (Nat.le_of_ble_eq_true rfl) dX8_take_139 ⟨Nat.zero_le _, Nat.zero_le _⟩ (fun H locs hR => ?_)
  refine pw_iconst hC dX8_take_142 ?_
  refine pw_iadd hC dX8_take_143 ?_
  refine lv_iload hC.1 hC.2.1 dX8_take_144 (lv_at hl 0 rfl) ?_
  obtain ⟨h7, e7, hF⟩ := bnd hF
  refine pw_iast hC hR e7 dX8_take_146 (fun H locs hR => ?_)
  refine lv_aload_n hC.1 hC.2.1 dX8_take_147 rfl (lv_at hl 2 rfl) ?_
  refine lv_iload hC.1 hC.2.1 dX8_take_148 (lv_at hl 0 rfl) ?_
  obtain ⟨x8, e8, hF⟩ := bnd hF
  refine pw_cSi (rest := [.ref (ad v1)]) hC hR lsX8_136 (CX8_task e8) ⟨rfl, rfl⟩ rfl hl.1 rfl ⟨Nat.le_of_ble_eq_true rfl, Nat.le_of_ble_eq_true rfl⟩ (Nat.le_of_ble_eq_true rfl) dX8_take_150 ⟨Nat.zero_le _, Nat.zero_le _⟩ (fun H locs hR => ?_)
  refine pw_iconst hC dX8_take_153 ?_
  refine pw_iadd hC dX8_take_154 ?_
  refine pw_iconst hC dX8_take_155 ?_
  obtain ⟨h9, e9, hF⟩ := bnd hF
  refine pw_iast hC hR e9 dX8_take_156 (fun H locs hR => ?_)
  refine lv_aload_n hC.1 hC.2.1 dX8_take_157 rfl (lv_at hl 2 rfl) ?_
  refine lv_iload hC.1 hC.2.1 dX8_take_158 (lv_at hl 0 rfl) ?_
  obtain ⟨x10, e10, hF⟩ := bnd hF
  refine pw_cSi (rest := [.ref (ad v1)]) hC hR lsX8_136 (CX8_task e10) ⟨rfl, rfl⟩ rfl hl.1 rfl ⟨Nat.le_of_ble_eq_true rfl, Nat.le_of_ble_eq_true rfl⟩ (Nat.le_of_ble_eq_true rfl) dX8_take_160 ⟨Nat.zero_le _, Nat.zero_le _⟩ (fun H locs hR => ?_)
  refine pw_bipush hC dX8_take_163 rfl ?_
  refine pw_iadd hC dX8_take_165 ?_
  refine lv_iload_n hC.1 hC.2.1 dX8_take_166 rfl (lv_at hl 3 rfl) ?_
  obtain ⟨h11, e11, hF⟩ := bnd hF
  refine pw_iast hC hR e11 dX8_take_167 (fun H locs hR => ?_)
  refine lv_aload_n hC.1 hC.2.1 dX8_take_168 rfl (lv_at hl 2 rfl) ?_
  refine lv_iload hC.1 hC.2.1 dX8_take_169 (lv_at hl 0 rfl) ?_
  obtain ⟨x12, e12, hF⟩ := bnd hF
  refine pw_cSi (rest := [.ref (ad v1)]) hC hR lsX8_136 (CX8_task e12) ⟨rfl, rfl⟩ rfl hl.1 rfl ⟨Nat.le_of_ble_eq_true rfl, Nat.le_of_ble_eq_true rfl⟩ (Nat.le_of_ble_eq_true rfl) dX8_take_171 ⟨Nat.zero_le _, Nat.zero_le _⟩ (fun H locs hR => ?_)
  refine pw_iconst hC dX8_take_174 ?_
  refine pw_iadd hC dX8_take_175 ?_
  refine lv_aload_n hC.1 hC.2.1 dX8_take_176 rfl (lv_at hl 1 rfl) ?_
  refine lv_aload_n hC.1 hC.2.1 dX8_take_177 rfl (lv_at hl 2 rfl) ?_
  refine lv_iload hC.1 hC.2.1 dX8_take_178 (lv_at hl 0 rfl) ?_
  refine lv_iload_n hC.1 hC.2.1 dX8_take_180 rfl (lv_at hl 3 rfl) ?_
  obtain ⟨q13, e13, hF⟩ := bnd hF
  obtain ⟨fs13, ho13⟩ := OX8_lengthOf e13
  refine pw_cVi (rest := [.int (Int32.ofInt (x12 + 5)), .ref (ad v1)]) hC hR lvX8_214 ho13 (CX8_lengthOf e13) ⟨rfl, rfl⟩ rfl hl.1 rfl ⟨Nat.le_of_ble_eq_true rfl, Nat.le_of_ble_eq_true rfl⟩ (Nat.le_of_ble_eq_true rfl) dX8_take_181 ⟨Nat.zero_le _, Nat.zero_le _⟩ (fun H locs hR => ?_)
  refine lv_iload hC.1 hC.2.1 dX8_take_184 (lv_at hl 4 rfl) ?_
  refine pw_iadd hC dX8_take_186 ?_
  obtain ⟨h14, e14, hF⟩ := bnd hF
  refine pw_iast hC hR e14 dX8_take_187 (fun H locs hR => ?_)
  cases hF
  exact pw_vret hC hR dX8_take_188
def JX8_take_111 (h : PH) (v0 : Nat) (v1 : Nat) (v2 : Int) (v3 : Int) (v4 : Int) : Option (PH) :=
  if w32 v3 = w32 v2 then (
    JX8_take_132 h v0 v1 v2 v4 0 v3 v1
  ) else (
    (FX8_core h v3).bind fun x3 =>
    (ald 0 h v1 (x3 + 4)).bind fun x4 =>
    JX8_take_132 h v0 v1 v2 v4 (x4 - 1) v3 v1
  )
set_option maxHeartbeats 4000000 in
set_option maxRecDepth 100000 in
theorem BX8_take_111 {h : PH} {v0 : Nat} {v1 : Nat} {v2 : Int} {v3 : Int} {v4 : Int} (hC : Cx g p s m args meth c cX8_take 6 RX8 none) (hR : Rl g ad h s.heap H locs) (hl : lv_has ls 6 [(0, .ref (ad v0)), (1, .ref (ad v1)), (2, .int (Int32.ofInt v2)), (3, .int (Int32.ofInt v3)), (4, .int (Int32.ofInt v4))]) {q : PH} (hF : JX8_take_111 h v0 v1 v2 v3 v4 = some q) : W p l e rmX8_take s m args below meth c H locs 0 0 (MQ below (QcN g ad q none) args s 0 0 (gA g)) (F0 m 111 ls []) := by
  unfold JX8_take_111 at hF
  refine lv_aload_n hC.1 hC.2.1 dX8_take_111 rfl (lv_at hl 1 rfl) ?_
  refine lv_iload_n hC.1 hC.2.1 dX8_take_112 rfl (lv_at hl 3 rfl) ?_
  refine lv_iload_n hC.1 hC.2.1 dX8_take_113 rfl (lv_at hl 3 rfl) ?_
  refine lv_iload_n hC.1 hC.2.1 dX8_take_114 rfl (lv_at hl 2 rfl) ?_
  refine pw_icmpne hC 122 dX8_take_115 (by decide) (fun hc => ?_) (fun hc => ?_)
  · rw [if_neg hc] at hF
    refine lv_aload_n hC.1 hC.2.1 dX8_take_122 rfl (lv_at hl 1 rfl) ?_
    refine lv_iload_n hC.1 hC.2.1 dX8_take_123 rfl (lv_at hl 3 rfl) ?_
    obtain ⟨x3, e3, hF⟩ := bnd hF
    refine pw_cSi (rest := [.ref (ad v1), .int (Int32.ofInt v3), .ref (ad v1)]) hC hR lsX8_41 (CX8_core e3) ⟨rfl, rfl⟩ rfl hl.1 rfl ⟨Nat.le_of_ble_eq_true rfl, Nat.le_of_ble_eq_true rfl⟩ (Nat.le_of_ble_eq_true rfl) dX8_take_124 ⟨Nat.zero_le _, Nat.zero_le _⟩ (fun H locs hR => ?_)
    refine pw_iconst hC dX8_take_127 ?_
    refine pw_iadd hC dX8_take_128 ?_
    obtain ⟨x4, e4, hF⟩ := bnd hF
    refine pw_iald hC hR e4 dX8_take_129 ?_
    refine pw_iconst hC dX8_take_130 ?_
    refine pw_isub hC dX8_take_131 ?_
    exact BX8_take_132 hC hR (lv_sub hl [0, 1, 2, 4] rfl) hF
  · rw [if_pos hc] at hF
    refine pw_iconst hC dX8_take_118 ?_
    refine pw_goto hC 132 dX8_take_119 (by decide) ?_
    exact BX8_take_132 hC hR (lv_sub hl [0, 1, 2, 4] rfl) hF
def JX8_take_76 (h : PH) (v0 : Nat) (v1 : Nat) (v2 : Int) (v3 : Int) (v5 : Int) : Option ((Int × Int) ⊕ (Int)) :=
  some (.inl (v3, (v5 + 1)))
set_option maxHeartbeats 4000000 in
set_option maxRecDepth 100000 in
theorem BX8_take_76 {h : PH} {v0 : Nat} {v1 : Nat} {v2 : Int} {v3 : Int} {v5 : Int} (hC : Cx g p s m args meth c cX8_take 6 RX8 none) (hR : Rl g ad h s.heap H locs) (hl : lv_has ls 6 [(0, .ref (ad v0)), (1, .ref (ad v1)), (2, .int (Int32.ofInt v2)), (3, .int (Int32.ofInt v3)), (5, .int (Int32.ofInt v5))]) {Q : State → Prop} {o : (Int × Int) ⊕ (Int)} (hF : JX8_take_76 h v0 v1 v2 v3 v5 = some o) (hK : Sum.elim (fun st : Int × Int => ∀ (H : Heap) (locs : List Loc) (ls : Array Slot), Rl g ad h s.heap H locs → lv_has ls 6 [(0, .ref (ad v0)), (1, .ref (ad v1)), (2, .int (Int32.ofInt v2)), (3, .int (Int32.ofInt st.1)), (5, .int (Int32.ofInt st.2))] → W p l e rmX8_take s m args below meth c H locs 0 0 Q (F0 m 19 ls [])) (fun ex : Int => ∀ (H : Heap) (locs : List Loc) (ls : Array Slot), Rl g ad h s.heap H locs → lv_has ls 6 [(0, .ref (ad v0)), (1, .ref (ad v1)), (2, .int (Int32.ofInt v2)), (3, .int (Int32.ofInt ex))] → W p l e rmX8_take s m args below meth c H locs 0 0 Q (F0 m 82 ls [])) o) : W p l e rmX8_take s m args below meth c H locs 0 0 Q (F0 m 76 ls []) := by
  unfold JX8_take_76 at hF
  refine pw_iinc (lv' := [(5, .int (Int32.ofInt (v5 + 1))), (0, .ref (ad v0)), (1, .ref (ad v1)), (2, .int (Int32.ofInt v2)), (3, .int (Int32.ofInt v3))]) hC hl 4 dX8_take_76 rfl (by decide) rfl (fun ls hl => ?_)
  refine pw_goto hC 19 dX8_take_79 (by decide) ?_
  cases hF
  exact hK _ _ _ hR (lv_sub hl [1, 2, 3, 4, 0] rfl)
def JX8_take_73 (h : PH) (v0 : Nat) (v1 : Nat) (v2 : Int) (v5 : Int) : Option ((Int × Int) ⊕ (Int)) :=
  JX8_take_76 h v0 v1 v2 v5 v5
set_option maxHeartbeats 4000000 in
set_option maxRecDepth 100000 in
theorem BX8_take_73 {h : PH} {v0 : Nat} {v1 : Nat} {v2 : Int} {v5 : Int} (hC : Cx g p s m args meth c cX8_take 6 RX8 none) (hR : Rl g ad h s.heap H locs) (hl : lv_has ls 6 [(0, .ref (ad v0)), (1, .ref (ad v1)), (2, .int (Int32.ofInt v2)), (5, .int (Int32.ofInt v5))]) {Q : State → Prop} {o : (Int × Int) ⊕ (Int)} (hF : JX8_take_73 h v0 v1 v2 v5 = some o) (hK : Sum.elim (fun st : Int × Int => ∀ (H : Heap) (locs : List Loc) (ls : Array Slot), Rl g ad h s.heap H locs → lv_has ls 6 [(0, .ref (ad v0)), (1, .ref (ad v1)), (2, .int (Int32.ofInt v2)), (3, .int (Int32.ofInt st.1)), (5, .int (Int32.ofInt st.2))] → W p l e rmX8_take s m args below meth c H locs 0 0 Q (F0 m 19 ls [])) (fun ex : Int => ∀ (H : Heap) (locs : List Loc) (ls : Array Slot), Rl g ad h s.heap H locs → lv_has ls 6 [(0, .ref (ad v0)), (1, .ref (ad v1)), (2, .int (Int32.ofInt v2)), (3, .int (Int32.ofInt ex))] → W p l e rmX8_take s m args below meth c H locs 0 0 Q (F0 m 82 ls [])) o) : W p l e rmX8_take s m args below meth c H locs 0 0 Q (F0 m 73 ls []) := by
  unfold JX8_take_73 at hF
  refine lv_iload hC.1 hC.2.1 dX8_take_73 (lv_at hl 3 rfl) ?_
  refine lv_istore_n (lv' := [(3, .int (Int32.ofInt v5)), (0, .ref (ad v0)), (1, .ref (ad v1)), (2, .int (Int32.ofInt v2)), (5, .int (Int32.ofInt v5))]) hC.1 hC.2.1 dX8_take_75 rfl hl (by decide) rfl (fun ls hl => ?_)
  exact BX8_take_76 hC hR (lv_sub hl [1, 2, 3, 0, 4] rfl) hF hK
def LX8_take_19 (h : PH) (v0 : Nat) (v1 : Nat) (v2 : Int) (v3 : Int) (v5 : Int) : Option ((Int × Int) ⊕ (Int)) :=
  (ald 0 h v1 0).bind fun x15 =>
  if w32 v5 < w32 x15 then (
    (FX8_core h v5).bind fun x16 =>
    (ald 0 h v1 (x16 + 4)).bind fun x17 =>
    (FX8_core h v3).bind fun x18 =>
    (ald 0 h v1 (x18 + 4)).bind fun x19 =>
    if w32 x19 < w32 x17 then (
      JX8_take_73 h v0 v1 v2 v5
    ) else (
      if w32 v5 < w32 v3 then (
        (FX8_core h v5).bind fun x20 =>
        (ald 0 h v1 (x20 + 4)).bind fun x21 =>
        (FX8_core h v3).bind fun x22 =>
        (ald 0 h v1 (x22 + 4)).bind fun x23 =>
        if w32 x21 = w32 x23 then (
          JX8_take_73 h v0 v1 v2 v5
        ) else (
          JX8_take_76 h v0 v1 v2 v3 v5
        )
      ) else (
        JX8_take_76 h v0 v1 v2 v3 v5
      )
    )
  ) else (
    some (.inr v3)
  )
set_option maxHeartbeats 4000000 in
set_option maxRecDepth 100000 in
theorem LRX8_take_19 {h : PH} {v0 : Nat} {v1 : Nat} {v2 : Int} {Q : State → Prop} (hC : Cx g p s m args meth c cX8_take 6 RX8 none) : ∀ (n : Nat) (st : Int × Int) (ex : Int), lp (fun st : Int × Int => LX8_take_19 h v0 v1 v2 st.1 st.2) n st = some ex → (fun ex : Int => ∀ (H : Heap) (locs : List Loc) (ls : Array Slot), Rl g ad h s.heap H locs → lv_has ls 6 [(0, .ref (ad v0)), (1, .ref (ad v1)), (2, .int (Int32.ofInt v2)), (3, .int (Int32.ofInt ex))] → W p l e rmX8_take s m args below meth c H locs 0 0 Q (F0 m 82 ls [])) ex → ∀ (H : Heap) (locs : List Loc) (ls : Array Slot), Rl g ad h s.heap H locs → lv_has ls 6 [(0, .ref (ad v0)), (1, .ref (ad v1)), (2, .int (Int32.ofInt v2)), (3, .int (Int32.ofInt st.1)), (5, .int (Int32.ofInt st.2))] → W p l e rmX8_take s m args below meth c H locs 0 0 Q (F0 m 19 ls []) := by
  refine lp_rule (Ph := (fun st : Int × Int => ∀ (H : Heap) (locs : List Loc) (ls : Array Slot), Rl g ad h s.heap H locs → lv_has ls 6 [(0, .ref (ad v0)), (1, .ref (ad v1)), (2, .int (Int32.ofInt v2)), (3, .int (Int32.ofInt st.1)), (5, .int (Int32.ofInt st.2))] → W p l e rmX8_take s m args below meth c H locs 0 0 Q (F0 m 19 ls []))) (Px := (fun ex : Int => ∀ (H : Heap) (locs : List Loc) (ls : Array Slot), Rl g ad h s.heap H locs → lv_has ls 6 [(0, .ref (ad v0)), (1, .ref (ad v1)), (2, .int (Int32.ofInt v2)), (3, .int (Int32.ofInt ex))] → W p l e rmX8_take s m args below meth c H locs 0 0 Q (F0 m 82 ls []))) ?_
  rintro ⟨v3, v5⟩ o hF hK H locs ls hR hl
  have hR : Rl g ad h s.heap H locs := hR
  have hl : lv_has ls 6 [(0, .ref (ad v0)), (1, .ref (ad v1)), (2, .int (Int32.ofInt v2)), (3, .int (Int32.ofInt v3)), (5, .int (Int32.ofInt v5))] := hl
  have hF : LX8_take_19 h v0 v1 v2 v3 v5 = some o := hF
  unfold LX8_take_19 at hF
  refine lv_iload hC.1 hC.2.1 dX8_take_19 (lv_at hl 4 rfl) ?_
  refine lv_aload_n hC.1 hC.2.1 dX8_take_21 rfl (lv_at hl 1 rfl) ?_
  refine pw_iconst hC dX8_take_22 ?_
  obtain ⟨x15, e15, hF⟩ := bnd hF
  refine pw_iald hC hR e15 dX8_take_23 ?_
  refine pw_icmpge hC 82 dX8_take_24 (by decide) (fun hc => ?_) (fun hc => ?_)
  · rw [if_neg hc] at hF
    cases hF
    exact hK _ _ _ hR (lv_sub hl [0, 1, 2, 3] rfl)
  · rw [if_pos hc] at hF
    refine lv_aload_n hC.1 hC.2.1 dX8_take_27 rfl (lv_at hl 1 rfl) ?_
    refine lv_iload hC.1 hC.2.1 dX8_take_28 (lv_at hl 4 rfl) ?_
    obtain ⟨x16, e16, hF⟩ := bnd hF
    refine pw_cSi (rest := [.ref (ad v1)]) hC hR lsX8_41 (CX8_core e16) ⟨rfl, rfl⟩ rfl hl.1 rfl ⟨Nat.le_of_ble_eq_true rfl, Nat.le_of_ble_eq_true rfl⟩ (Nat.le_of_ble_eq_true rfl) dX8_take_30 ⟨Nat.zero_le _, Nat.zero_le _⟩ (fun H locs hR => ?_)
    refine pw_iconst hC dX8_take_33 ?_
    refine pw_iadd hC dX8_take_34 ?_
    obtain ⟨x17, e17, hF⟩ := bnd hF
    refine pw_iald hC hR e17 dX8_take_35 ?_
    refine lv_aload_n hC.1 hC.2.1 dX8_take_36 rfl (lv_at hl 1 rfl) ?_
    refine lv_iload_n hC.1 hC.2.1 dX8_take_37 rfl (lv_at hl 3 rfl) ?_
    obtain ⟨x18, e18, hF⟩ := bnd hF
    refine pw_cSi (rest := [.ref (ad v1), .int (Int32.ofInt x17)]) hC hR lsX8_41 (CX8_core e18) ⟨rfl, rfl⟩ rfl hl.1 rfl ⟨Nat.le_of_ble_eq_true rfl, Nat.le_of_ble_eq_true rfl⟩ (Nat.le_of_ble_eq_true rfl) dX8_take_38 ⟨Nat.zero_le _, Nat.zero_le _⟩ (fun H locs hR => ?_)
    refine pw_iconst hC dX8_take_41 ?_
    refine pw_iadd hC dX8_take_42 ?_
    obtain ⟨x19, e19, hF⟩ := bnd hF
    refine pw_iald hC hR e19 dX8_take_43 ?_
    refine pw_icmpgt hC 73 dX8_take_44 (by decide) (fun hc => ?_) (fun hc => ?_)
    · rw [if_pos hc] at hF
      exact BX8_take_73 hC hR (lv_sub hl [0, 1, 2, 4] rfl) hF hK
    · rw [if_neg hc] at hF
      refine lv_iload hC.1 hC.2.1 dX8_take_47 (lv_at hl 4 rfl) ?_
      refine lv_iload_n hC.1 hC.2.1 dX8_take_49 rfl (lv_at hl 3 rfl) ?_
      refine pw_icmpge hC 76 dX8_take_50 (by decide) (fun hc => ?_) (fun hc => ?_)
      · rw [if_neg hc] at hF
        exact BX8_take_76 hC hR (lv_sub hl [0, 1, 2, 3, 4] rfl) hF hK
      · rw [if_pos hc] at hF
        refine lv_aload_n hC.1 hC.2.1 dX8_take_53 rfl (lv_at hl 1 rfl) ?_
        refine lv_iload hC.1 hC.2.1 dX8_take_54 (lv_at hl 4 rfl) ?_
        obtain ⟨x20, e20, hF⟩ := bnd hF
        refine pw_cSi (rest := [.ref (ad v1)]) hC hR lsX8_41 (CX8_core e20) ⟨rfl, rfl⟩ rfl hl.1 rfl ⟨Nat.le_of_ble_eq_true rfl, Nat.le_of_ble_eq_true rfl⟩ (Nat.le_of_ble_eq_true rfl) dX8_take_56 ⟨Nat.zero_le _, Nat.zero_le _⟩ (fun H locs hR => ?_)
        refine pw_iconst hC dX8_take_59 ?_
        refine pw_iadd hC dX8_take_60 ?_
        obtain ⟨x21, e21, hF⟩ := bnd hF
        refine pw_iald hC hR e21 dX8_take_61 ?_
        refine lv_aload_n hC.1 hC.2.1 dX8_take_62 rfl (lv_at hl 1 rfl) ?_
        refine lv_iload_n hC.1 hC.2.1 dX8_take_63 rfl (lv_at hl 3 rfl) ?_
        obtain ⟨x22, e22, hF⟩ := bnd hF
        refine pw_cSi (rest := [.ref (ad v1), .int (Int32.ofInt x21)]) hC hR lsX8_41 (CX8_core e22) ⟨rfl, rfl⟩ rfl hl.1 rfl ⟨Nat.le_of_ble_eq_true rfl, Nat.le_of_ble_eq_true rfl⟩ (Nat.le_of_ble_eq_true rfl) dX8_take_64 ⟨Nat.zero_le _, Nat.zero_le _⟩ (fun H locs hR => ?_)
        refine pw_iconst hC dX8_take_67 ?_
        refine pw_iadd hC dX8_take_68 ?_
        obtain ⟨x23, e23, hF⟩ := bnd hF
        refine pw_iald hC hR e23 dX8_take_69 ?_
        refine pw_icmpne hC 76 dX8_take_70 (by decide) (fun hc => ?_) (fun hc => ?_)
        · rw [if_neg hc] at hF
          exact BX8_take_76 hC hR (lv_sub hl [0, 1, 2, 3, 4] rfl) hF hK
        · rw [if_pos hc] at hF
          exact BX8_take_73 hC hR (lv_sub hl [0, 1, 2, 4] rfl) hF hK
def FX8_take (h : PH) (v0 : Nat) (v1 : Nat) (v2 : Int) : Option (PH) :=
  (isO h 8 v0).bind fun _ =>
  (FX8_core h v2).bind fun x1 =>
  (ald 0 h v1 (x1 + 4)).bind fun x2 =>
  if w32 x2 = 0 then (
    (lp (fun st : Int × Int => LX8_take_19 h v0 v1 v2 st.1 st.2) FU (v2, 0)).bind fun ex24 =>
    (FX8_core h ex24).bind fun x25 =>
    (ald 0 h v1 (x25 + 4)).bind fun x26 =>
    if w32 x26 = 0 then (
      some h
    ) else (
      (ald 0 h v1 2).bind fun x27 =>
      (FX8_core h v2).bind fun x28 =>
      (ald 0 h v1 (x28 + 2)).bind fun x29 =>
      (ast 0 h v1 (x28 + 2) (x29 + 1)).bind fun h30 =>
      JX8_take_111 h30 v0 v1 v2 ex24 x27
    )
  ) else (
    JX8_take_111 h v0 v1 v2 v2 0
  )
theorem OX8_take {h : PH} {v0 : Nat} {v1 : Nat} {v2 : Int} {q : PH} (hF : FX8_take h v0 v1 v2 = some q) : ∃ fs : List PV, h[v0]? = some (.inr (8, fs)) := by
  unfold FX8_take at hF
  obtain ⟨u0, e0, -⟩ := bnd hF
  exact isO_spec e0
set_option maxHeartbeats 4000000 in
set_option maxRecDepth 100000 in
theorem CX8_take {g : GP} {l : Launch} {ad : Nat → Nat} {h : PH} {v0 : Nat} {v1 : Nat} {v2 : Int} {q : PH} (hF : FX8_take h v0 v1 v2 = some q) : CN g l yX8_take cX8_take 6 none rmX8_take ad h [.ref (ad v0), .ref (ad v1), .int (Int32.ofInt v2)] none q := by
  refine pw_met (by decide) (Nat.le_of_ble_eq_true rfl) ?_
  intro p e s m args below meth c ls hC hN hR hl
  have hl : lv_has ls 6 [(0, .ref (ad v0)), (1, .ref (ad v1)), (2, .int (Int32.ofInt v2))] := hl
  unfold FX8_take at hF
  obtain ⟨u0, e0, hF⟩ := bnd hF
  refine lv_iload_n hC.1 hC.2.1 dX8_take_0 rfl (lv_at hl 2 rfl) ?_
  refine lv_istore_n (lv' := [(3, .int (Int32.ofInt v2)), (0, .ref (ad v0)), (1, .ref (ad v1)), (2, .int (Int32.ofInt v2))]) hC.1 hC.2.1 dX8_take_1 rfl hl (by decide) rfl (fun ls hl => ?_)
  refine pw_iconst hC dX8_take_2 ?_
  refine lv_istore (lv' := [(4, .int (Int32.ofInt 0)), (3, .int (Int32.ofInt v2)), (0, .ref (ad v0)), (1, .ref (ad v1)), (2, .int (Int32.ofInt v2))]) hC.1 hC.2.1 dX8_take_3 hl (by decide) rfl (fun ls hl => ?_)
  refine lv_aload_n hC.1 hC.2.1 dX8_take_5 rfl (lv_at hl 3 rfl) ?_
  refine lv_iload_n hC.1 hC.2.1 dX8_take_6 rfl (lv_at hl 4 rfl) ?_
  obtain ⟨x1, e1, hF⟩ := bnd hF
  refine pw_cSi (rest := [.ref (ad v1)]) hC hR lsX8_41 (CX8_core e1) ⟨rfl, rfl⟩ rfl hl.1 rfl ⟨Nat.le_of_ble_eq_true rfl, Nat.le_of_ble_eq_true rfl⟩ (Nat.le_of_ble_eq_true rfl) dX8_take_7 ⟨Nat.zero_le _, Nat.zero_le _⟩ (fun H locs hR => ?_)
  refine pw_iconst hC dX8_take_10 ?_
  refine pw_iadd hC dX8_take_11 ?_
  obtain ⟨x2, e2, hF⟩ := bnd hF
  refine pw_iald hC hR e2 dX8_take_12 ?_
  refine pw_ifne hC 111 dX8_take_13 (by decide) (fun hc => ?_) (fun hc => ?_)
  · rw [if_neg hc] at hF
    exact BX8_take_111 hC hR (lv_sub hl [2, 3, 4, 1, 0] rfl) hF
  · rw [if_pos hc] at hF
    refine pw_iconst hC dX8_take_16 ?_
    refine lv_istore (lv' := [(5, .int (Int32.ofInt 0)), (4, .int (Int32.ofInt 0)), (3, .int (Int32.ofInt v2)), (0, .ref (ad v0)), (1, .ref (ad v1)), (2, .int (Int32.ofInt v2))]) hC.1 hC.2.1 dX8_take_17 hl (by decide) rfl (fun ls hl => ?_)
    obtain ⟨ex24, e24, hF⟩ := bnd hF
    refine LRX8_take_19 hC FU _ ex24 e24 ?_ _ _ _ hR (lv_sub hl [3, 4, 5, 2, 0] rfl)
    intro H locs ls hR hl
    refine lv_aload_n hC.1 hC.2.1 dX8_take_82 rfl (lv_at hl 1 rfl) ?_
    refine lv_iload_n hC.1 hC.2.1 dX8_take_83 rfl (lv_at hl 3 rfl) ?_
    obtain ⟨x25, e25, hF⟩ := bnd hF
    refine pw_cSi (rest := [.ref (ad v1)]) hC hR lsX8_41 (CX8_core e25) ⟨rfl, rfl⟩ rfl hl.1 rfl ⟨Nat.le_of_ble_eq_true rfl, Nat.le_of_ble_eq_true rfl⟩ (Nat.le_of_ble_eq_true rfl) dX8_take_84 ⟨Nat.zero_le _, Nat.zero_le _⟩ (fun H locs hR => ?_)
    refine pw_iconst hC dX8_take_87 ?_
    refine pw_iadd hC dX8_take_88 ?_
    obtain ⟨x26, e26, hF⟩ := bnd hF
    refine pw_iald hC hR e26 dX8_take_89 ?_
    refine pw_ifne hC 94 dX8_take_90 (by decide) (fun hc => ?_) (fun hc => ?_)
    · rw [if_neg hc] at hF
      refine lv_aload_n hC.1 hC.2.1 dX8_take_94 rfl (lv_at hl 1 rfl) ?_
      refine pw_iconst hC dX8_take_95 ?_
      obtain ⟨x27, e27, hF⟩ := bnd hF
      refine pw_iald hC hR e27 dX8_take_96 ?_
      refine lv_istore (lv' := [(4, .int (Int32.ofInt x27)), (0, .ref (ad v0)), (1, .ref (ad v1)), (2, .int (Int32.ofInt v2)), (3, .int (Int32.ofInt ex24))]) hC.1 hC.2.1 dX8_take_97 hl (by decide) rfl (fun ls hl => ?_)
      refine lv_aload_n hC.1 hC.2.1 dX8_take_99 rfl (lv_at hl 2 rfl) ?_
      refine lv_iload_n hC.1 hC.2.1 dX8_take_100 rfl (lv_at hl 3 rfl) ?_
      obtain ⟨x28, e28, hF⟩ := bnd hF
      refine pw_cSi (rest := [.ref (ad v1)]) hC hR lsX8_41 (CX8_core e28) ⟨rfl, rfl⟩ rfl hl.1 rfl ⟨Nat.le_of_ble_eq_true rfl, Nat.le_of_ble_eq_true rfl⟩ (Nat.le_of_ble_eq_true rfl) dX8_take_101 ⟨Nat.zero_le _, Nat.zero_le _⟩ (fun H locs hR => ?_)
      refine pw_iconst hC dX8_take_104 ?_
      refine pw_iadd hC dX8_take_105 ?_
      refine lv_dup2_11 hC.1 hC.2.1 dX8_take_106 rfl rfl ?_
      obtain ⟨x29, e29, hF⟩ := bnd hF
      refine pw_iald hC hR e29 dX8_take_107 ?_
      refine pw_iconst hC dX8_take_108 ?_
      refine pw_iadd hC dX8_take_109 ?_
      obtain ⟨h30, e30, hF⟩ := bnd hF
      refine pw_iast hC hR e30 dX8_take_110 (fun H locs hR => ?_)
      exact BX8_take_111 hC hR (lv_sub hl [1, 2, 3, 4, 0] rfl) hF
    · rw [if_pos hc] at hF
      cases hF
      exact pw_vret hC hR dX8_take_93
abbrev rmX8_cycle : Room := { frames := 5, cells := 0, slots := 0, locals := 109 }
def JX8_cycle_47 (h : PH) (v0 : Nat) (v1 : Nat) (v2 : Int) (v3 : Int) : Option ((Int × PH) ⊕ (PH)) :=
  some (.inl ((v3 + 1), h))
set_option maxHeartbeats 4000000 in
set_option maxRecDepth 100000 in
theorem BX8_cycle_47 {h : PH} {v0 : Nat} {v1 : Nat} {v2 : Int} {v3 : Int} (hC : Cx g p s m args meth c cX8_cycle 4 RX8 (some .int)) (hR : Rl g ad h s.heap H locs) (hl : lv_has ls 4 [(0, .ref (ad v0)), (1, .ref (ad v1)), (2, .int (Int32.ofInt v2)), (3, .int (Int32.ofInt v3))]) {Q : State → Prop} {o : (Int × PH) ⊕ (PH)} (hF : JX8_cycle_47 h v0 v1 v2 v3 = some o) (hK : Sum.elim (fun st : Int × PH => ∀ (H : Heap) (locs : List Loc) (ls : Array Slot), Rl g ad st.2 s.heap H locs → lv_has ls 4 [(0, .ref (ad v0)), (1, .ref (ad v1)), (2, .int (Int32.ofInt v2)), (3, .int (Int32.ofInt st.1))] → W p l e rmX8_cycle s m args below meth c H locs 0 0 Q (F0 m 11 ls [])) (fun ex : PH => ∀ (H : Heap) (locs : List Loc) (ls : Array Slot), Rl g ad ex s.heap H locs → lv_has ls 4 [(1, .ref (ad v1)), (2, .int (Int32.ofInt v2))] → W p l e rmX8_cycle s m args below meth c H locs 0 0 Q (F0 m 53 ls [])) o) : W p l e rmX8_cycle s m args below meth c H locs 0 0 Q (F0 m 47 ls []) := by
  unfold JX8_cycle_47 at hF
  refine pw_iinc (lv' := [(3, .int (Int32.ofInt (v3 + 1))), (0, .ref (ad v0)), (1, .ref (ad v1)), (2, .int (Int32.ofInt v2))]) hC hl 3 dX8_cycle_47 rfl (by decide) rfl (fun ls hl => ?_)
  refine pw_goto hC 11 dX8_cycle_50 (by decide) ?_
  cases hF
  exact hK _ _ _ hR (lv_sub hl [1, 2, 3, 0] rfl)
def LX8_cycle_11 (v0 : Nat) (v1 : Nat) (v2 : Int) (v3 : Int) (h : PH) : Option ((Int × PH) ⊕ (PH)) :=
  (ald 0 h v1 0).bind fun x3 =>
  if w32 v3 < w32 x3 then (
    (FX8_core h v3).bind fun x4 =>
    (ald 0 h v1 (x4 + 3)).bind fun x5 =>
    if w32 x5 = 0 then (
      (FX8_core h v3).bind fun x6 =>
      (ald 0 h v1 (x6 + 0)).bind fun x7 =>
      if w32 x7 = w32 (-1) then (
        (FX8_take h v0 v1 v3).bind fun h8 =>
        JX8_cycle_47 h8 v0 v1 v2 v3
      ) else (
        JX8_cycle_47 h v0 v1 v2 v3
      )
    ) else (
      JX8_cycle_47 h v0 v1 v2 v3
    )
  ) else (
    some (.inr h)
  )
set_option maxHeartbeats 4000000 in
set_option maxRecDepth 100000 in
theorem LRX8_cycle_11 {v0 : Nat} {v1 : Nat} {v2 : Int} {Q : State → Prop} (hC : Cx g p s m args meth c cX8_cycle 4 RX8 (some .int)) : ∀ (n : Nat) (st : Int × PH) (ex : PH), lp (fun st : Int × PH => LX8_cycle_11 v0 v1 v2 st.1 st.2) n st = some ex → (fun ex : PH => ∀ (H : Heap) (locs : List Loc) (ls : Array Slot), Rl g ad ex s.heap H locs → lv_has ls 4 [(1, .ref (ad v1)), (2, .int (Int32.ofInt v2))] → W p l e rmX8_cycle s m args below meth c H locs 0 0 Q (F0 m 53 ls [])) ex → ∀ (H : Heap) (locs : List Loc) (ls : Array Slot), Rl g ad st.2 s.heap H locs → lv_has ls 4 [(0, .ref (ad v0)), (1, .ref (ad v1)), (2, .int (Int32.ofInt v2)), (3, .int (Int32.ofInt st.1))] → W p l e rmX8_cycle s m args below meth c H locs 0 0 Q (F0 m 11 ls []) := by
  refine lp_rule (Ph := (fun st : Int × PH => ∀ (H : Heap) (locs : List Loc) (ls : Array Slot), Rl g ad st.2 s.heap H locs → lv_has ls 4 [(0, .ref (ad v0)), (1, .ref (ad v1)), (2, .int (Int32.ofInt v2)), (3, .int (Int32.ofInt st.1))] → W p l e rmX8_cycle s m args below meth c H locs 0 0 Q (F0 m 11 ls []))) (Px := (fun ex : PH => ∀ (H : Heap) (locs : List Loc) (ls : Array Slot), Rl g ad ex s.heap H locs → lv_has ls 4 [(1, .ref (ad v1)), (2, .int (Int32.ofInt v2))] → W p l e rmX8_cycle s m args below meth c H locs 0 0 Q (F0 m 53 ls []))) ?_
  rintro ⟨v3, h⟩ o hF hK H locs ls hR hl
  have hR : Rl g ad h s.heap H locs := hR
  have hl : lv_has ls 4 [(0, .ref (ad v0)), (1, .ref (ad v1)), (2, .int (Int32.ofInt v2)), (3, .int (Int32.ofInt v3))] := hl
  have hF : LX8_cycle_11 v0 v1 v2 v3 h = some o := hF
  unfold LX8_cycle_11 at hF
  refine lv_iload_n hC.1 hC.2.1 dX8_cycle_11 rfl (lv_at hl 3 rfl) ?_
  refine lv_aload_n hC.1 hC.2.1 dX8_cycle_12 rfl (lv_at hl 1 rfl) ?_
  refine pw_iconst hC dX8_cycle_13 ?_
  obtain ⟨x3, e3, hF⟩ := bnd hF
  refine pw_iald hC hR e3 dX8_cycle_14 ?_
  refine pw_icmpge hC 53 dX8_cycle_15 (by decide) (fun hc => ?_) (fun hc => ?_)
  · rw [if_neg hc] at hF
    cases hF
    exact hK _ _ _ hR (lv_sub hl [1, 2] rfl)
  · rw [if_pos hc] at hF
    refine lv_aload_n hC.1 hC.2.1 dX8_cycle_18 rfl (lv_at hl 1 rfl) ?_
    refine lv_iload_n hC.1 hC.2.1 dX8_cycle_19 rfl (lv_at hl 3 rfl) ?_
    obtain ⟨x4, e4, hF⟩ := bnd hF
    refine pw_cSi (rest := [.ref (ad v1)]) hC hR lsX8_41 (CX8_core e4) ⟨rfl, rfl⟩ rfl hl.1 rfl ⟨Nat.le_of_ble_eq_true rfl, Nat.le_of_ble_eq_true rfl⟩ (Nat.le_of_ble_eq_true rfl) dX8_cycle_20 ⟨Nat.zero_le _, Nat.zero_le _⟩ (fun H locs hR => ?_)
    refine pw_iconst hC dX8_cycle_23 ?_
    refine pw_iadd hC dX8_cycle_24 ?_
    obtain ⟨x5, e5, hF⟩ := bnd hF
    refine pw_iald hC hR e5 dX8_cycle_25 ?_
    refine pw_ifne hC 47 dX8_cycle_26 (by decide) (fun hc => ?_) (fun hc => ?_)
    · rw [if_neg hc] at hF
      exact BX8_cycle_47 hC hR (lv_sub hl [0, 1, 2, 3] rfl) hF hK
    · rw [if_pos hc] at hF
      refine lv_aload_n hC.1 hC.2.1 dX8_cycle_29 rfl (lv_at hl 1 rfl) ?_
      refine lv_iload_n hC.1 hC.2.1 dX8_cycle_30 rfl (lv_at hl 3 rfl) ?_
      obtain ⟨x6, e6, hF⟩ := bnd hF
      refine pw_cSi (rest := [.ref (ad v1)]) hC hR lsX8_41 (CX8_core e6) ⟨rfl, rfl⟩ rfl hl.1 rfl ⟨Nat.le_of_ble_eq_true rfl, Nat.le_of_ble_eq_true rfl⟩ (Nat.le_of_ble_eq_true rfl) dX8_cycle_31 ⟨Nat.zero_le _, Nat.zero_le _⟩ (fun H locs hR => ?_)
      refine pw_iconst hC dX8_cycle_34 ?_
      refine pw_iadd hC dX8_cycle_35 ?_
      obtain ⟨x7, e7, hF⟩ := bnd hF
      refine pw_iald hC hR e7 dX8_cycle_36 ?_
      refine pw_iconst hC dX8_cycle_37 ?_
      refine pw_icmpne hC 47 dX8_cycle_38 (by decide) (fun hc => ?_) (fun hc => ?_)
      · rw [if_neg hc] at hF
        exact BX8_cycle_47 hC hR (lv_sub hl [0, 1, 2, 3] rfl) hF hK
      · rw [if_pos hc] at hF
        refine lv_aload_n hC.1 hC.2.1 dX8_cycle_41 rfl (lv_at hl 0 rfl) ?_
        refine lv_aload_n hC.1 hC.2.1 dX8_cycle_42 rfl (lv_at hl 1 rfl) ?_
        refine lv_iload_n hC.1 hC.2.1 dX8_cycle_43 rfl (lv_at hl 3 rfl) ?_
        obtain ⟨h8, e8, hF⟩ := bnd hF
        obtain ⟨fs8, ho8⟩ := OX8_take e8
        refine pw_cVv (rest := []) hC hR lvX8_224 ho8 (CX8_take e8) ⟨rfl, rfl⟩ rfl hl.1 rfl ⟨Nat.le_of_ble_eq_true rfl, Nat.le_of_ble_eq_true rfl⟩ (Nat.le_of_ble_eq_true rfl) dX8_cycle_44 ⟨Nat.zero_le _, Nat.zero_le _⟩ (fun H locs hR => ?_)
        exact BX8_cycle_47 hC hR (lv_sub hl [0, 1, 2, 3] rfl) hF hK
def JX8_cycle_88 (h : PH) (v1 : Nat) (v2 : Int) (v3 : Int) (s0 : Int) (s1 : Int) (s2 : Int) (s3 : Nat) : Option ((Int × PH) ⊕ (PH)) :=
  (ast 0 h s3 s2 (s1 + s0)).bind fun h15 =>
  some (.inl ((v3 + 1), h15))
set_option maxHeartbeats 4000000 in
set_option maxRecDepth 100000 in
theorem BX8_cycle_88 {h : PH} {v1 : Nat} {v2 : Int} {v3 : Int} {s0 : Int} {s1 : Int} {s2 : Int} {s3 : Nat} (hC : Cx g p s m args meth c cX8_cycle 4 RX8 (some .int)) (hR : Rl g ad h s.heap H locs) (hl : lv_has ls 4 [(1, .ref (ad v1)), (2, .int (Int32.ofInt v2)), (3, .int (Int32.ofInt v3))]) {Q : State → Prop} {o : (Int × PH) ⊕ (PH)} (hF : JX8_cycle_88 h v1 v2 v3 s0 s1 s2 s3 = some o) (hK : Sum.elim (fun st : Int × PH => ∀ (H : Heap) (locs : List Loc) (ls : Array Slot), Rl g ad st.2 s.heap H locs → lv_has ls 4 [(1, .ref (ad v1)), (2, .int (Int32.ofInt v2)), (3, .int (Int32.ofInt st.1))] → W p l e rmX8_cycle s m args below meth c H locs 0 0 Q (F0 m 55 ls [])) (fun ex : PH => ∀ (H : Heap) (locs : List Loc) (ls : Array Slot), Rl g ad ex s.heap H locs → lv_has ls 4 [(1, .ref (ad v1)), (2, .int (Int32.ofInt v2))] → W p l e rmX8_cycle s m args below meth c H locs 0 0 Q (F0 m 96 ls [])) o) : W p l e rmX8_cycle s m args below meth c H locs 0 0 Q (F0 m 88 ls [.int (Int32.ofInt s0), .int (Int32.ofInt s1), .int (Int32.ofInt s2), .ref (ad s3)]) := by
  unfold JX8_cycle_88 at hF
  refine pw_iadd hC dX8_cycle_88 ?_
  obtain ⟨h15, e15, hF⟩ := bnd hF
  refine pw_iast hC hR e15 dX8_cycle_89 (fun H locs hR => ?_)
  refine pw_iinc (lv' := [(3, .int (Int32.ofInt (v3 + 1))), (1, .ref (ad v1)), (2, .int (Int32.ofInt v2))]) hC hl 2 dX8_cycle_90 rfl (by decide) rfl (fun ls hl => ?_)
  refine pw_goto hC 55 dX8_cycle_93 (by decide) ?_
  cases hF
  exact hK _ _ _ hR (lv_sub hl [1, 2, 0] rfl)
def LX8_cycle_55 (v1 : Nat) (v2 : Int) (v3 : Int) (h : PH) : Option ((Int × PH) ⊕ (PH)) :=
  (ald 0 h v1 0).bind fun x10 =>
  if w32 v3 < w32 x10 then (
    (FX8_core h v3).bind fun x11 =>
    (ald 0 h v1 (x11 + 1)).bind fun x12 =>
    (FX8_core h v3).bind fun x13 =>
    (ald 0 h v1 (x13 + 0)).bind fun x14 =>
    if w32 x14 = w32 (-1) then (
      JX8_cycle_88 h v1 v2 v3 0 x12 (x11 + 1) v1
    ) else (
      JX8_cycle_88 h v1 v2 v3 1 x12 (x11 + 1) v1
    )
  ) else (
    some (.inr h)
  )
set_option maxHeartbeats 4000000 in
set_option maxRecDepth 100000 in
theorem LRX8_cycle_55 {v1 : Nat} {v2 : Int} {Q : State → Prop} (hC : Cx g p s m args meth c cX8_cycle 4 RX8 (some .int)) : ∀ (n : Nat) (st : Int × PH) (ex : PH), lp (fun st : Int × PH => LX8_cycle_55 v1 v2 st.1 st.2) n st = some ex → (fun ex : PH => ∀ (H : Heap) (locs : List Loc) (ls : Array Slot), Rl g ad ex s.heap H locs → lv_has ls 4 [(1, .ref (ad v1)), (2, .int (Int32.ofInt v2))] → W p l e rmX8_cycle s m args below meth c H locs 0 0 Q (F0 m 96 ls [])) ex → ∀ (H : Heap) (locs : List Loc) (ls : Array Slot), Rl g ad st.2 s.heap H locs → lv_has ls 4 [(1, .ref (ad v1)), (2, .int (Int32.ofInt v2)), (3, .int (Int32.ofInt st.1))] → W p l e rmX8_cycle s m args below meth c H locs 0 0 Q (F0 m 55 ls []) := by
  refine lp_rule (Ph := (fun st : Int × PH => ∀ (H : Heap) (locs : List Loc) (ls : Array Slot), Rl g ad st.2 s.heap H locs → lv_has ls 4 [(1, .ref (ad v1)), (2, .int (Int32.ofInt v2)), (3, .int (Int32.ofInt st.1))] → W p l e rmX8_cycle s m args below meth c H locs 0 0 Q (F0 m 55 ls []))) (Px := (fun ex : PH => ∀ (H : Heap) (locs : List Loc) (ls : Array Slot), Rl g ad ex s.heap H locs → lv_has ls 4 [(1, .ref (ad v1)), (2, .int (Int32.ofInt v2))] → W p l e rmX8_cycle s m args below meth c H locs 0 0 Q (F0 m 96 ls []))) ?_
  rintro ⟨v3, h⟩ o hF hK H locs ls hR hl
  have hR : Rl g ad h s.heap H locs := hR
  have hl : lv_has ls 4 [(1, .ref (ad v1)), (2, .int (Int32.ofInt v2)), (3, .int (Int32.ofInt v3))] := hl
  have hF : LX8_cycle_55 v1 v2 v3 h = some o := hF
  unfold LX8_cycle_55 at hF
  refine lv_iload_n hC.1 hC.2.1 dX8_cycle_55 rfl (lv_at hl 2 rfl) ?_
  refine lv_aload_n hC.1 hC.2.1 dX8_cycle_56 rfl (lv_at hl 0 rfl) ?_
  refine pw_iconst hC dX8_cycle_57 ?_
  obtain ⟨x10, e10, hF⟩ := bnd hF
  refine pw_iald hC hR e10 dX8_cycle_58 ?_
  refine pw_icmpge hC 96 dX8_cycle_59 (by decide) (fun hc => ?_) (fun hc => ?_)
  · rw [if_neg hc] at hF
    cases hF
    exact hK _ _ _ hR (lv_sub hl [0, 1] rfl)
  · rw [if_pos hc] at hF
    refine lv_aload_n hC.1 hC.2.1 dX8_cycle_62 rfl (lv_at hl 0 rfl) ?_
    refine lv_iload_n hC.1 hC.2.1 dX8_cycle_63 rfl (lv_at hl 2 rfl) ?_
    obtain ⟨x11, e11, hF⟩ := bnd hF
    refine pw_cSi (rest := [.ref (ad v1)]) hC hR lsX8_41 (CX8_core e11) ⟨rfl, rfl⟩ rfl hl.1 rfl ⟨Nat.le_of_ble_eq_true rfl, Nat.le_of_ble_eq_true rfl⟩ (Nat.le_of_ble_eq_true rfl) dX8_cycle_64 ⟨Nat.zero_le _, Nat.zero_le _⟩ (fun H locs hR => ?_)
    refine pw_iconst hC dX8_cycle_67 ?_
    refine pw_iadd hC dX8_cycle_68 ?_
    refine lv_dup2_11 hC.1 hC.2.1 dX8_cycle_69 rfl rfl ?_
    obtain ⟨x12, e12, hF⟩ := bnd hF
    refine pw_iald hC hR e12 dX8_cycle_70 ?_
    refine lv_aload_n hC.1 hC.2.1 dX8_cycle_71 rfl (lv_at hl 0 rfl) ?_
    refine lv_iload_n hC.1 hC.2.1 dX8_cycle_72 rfl (lv_at hl 2 rfl) ?_
    obtain ⟨x13, e13, hF⟩ := bnd hF
    refine pw_cSi (rest := [.ref (ad v1), .int (Int32.ofInt x12), .int (Int32.ofInt (x11 + 1)), .ref (ad v1)]) hC hR lsX8_41 (CX8_core e13) ⟨rfl, rfl⟩ rfl hl.1 rfl ⟨Nat.le_of_ble_eq_true rfl, Nat.le_of_ble_eq_true rfl⟩ (Nat.le_of_ble_eq_true rfl) dX8_cycle_73 ⟨Nat.zero_le _, Nat.zero_le _⟩ (fun H locs hR => ?_)
    refine pw_iconst hC dX8_cycle_76 ?_
    refine pw_iadd hC dX8_cycle_77 ?_
    obtain ⟨x14, e14, hF⟩ := bnd hF
    refine pw_iald hC hR e14 dX8_cycle_78 ?_
    refine pw_iconst hC dX8_cycle_79 ?_
    refine pw_icmpne hC 87 dX8_cycle_80 (by decide) (fun hc => ?_) (fun hc => ?_)
    · rw [if_neg hc] at hF
      refine pw_iconst hC dX8_cycle_87 ?_
      exact BX8_cycle_88 hC hR (lv_sub hl [0, 1, 2] rfl) hF hK
    · rw [if_pos hc] at hF
      refine pw_iconst hC dX8_cycle_83 ?_
      refine pw_goto hC 88 dX8_cycle_84 (by decide) ?_
      exact BX8_cycle_88 hC hR (lv_sub hl [0, 1, 2] rfl) hF hK
def FX8_cycle (h : PH) (v0 : Nat) (v1 : Nat) : Option (Int × PH) :=
  (isO h 8 v0).bind fun _ =>
  (FX8_goOn h v1).bind fun q1 =>
  (FX8_queueReady q1.2 v1).bind fun h2 =>
  (lp (fun st : Int × PH => LX8_cycle_11 v0 v1 q1.1 st.1 st.2) FU (0, h2)).bind fun ex9 =>
  (lp (fun st : Int × PH => LX8_cycle_55 v1 q1.1 st.1 st.2) FU (0, ex9)).bind fun ex16 =>
  (ald 0 ex16 v1 5).bind fun x17 =>
  (ast 0 ex16 v1 5 (x17 + 1)).bind fun h18 =>
  some (q1.1, h18)
theorem OX8_cycle {h : PH} {v0 : Nat} {v1 : Nat} {q : Int × PH} (hF : FX8_cycle h v0 v1 = some q) : ∃ fs : List PV, h[v0]? = some (.inr (8, fs)) := by
  unfold FX8_cycle at hF
  obtain ⟨u0, e0, -⟩ := bnd hF
  exact isO_spec e0
set_option maxHeartbeats 4000000 in
set_option maxRecDepth 100000 in
theorem CX8_cycle {g : GP} {l : Launch} {ad : Nat → Nat} {h : PH} {v0 : Nat} {v1 : Nat} {q : Int × PH} (hF : FX8_cycle h v0 v1 = some q) : CN g l yX8_cycle cX8_cycle 4 (some .int) rmX8_cycle ad h [.ref (ad v0), .ref (ad v1)] (some (.int (Int32.ofInt q.1))) q.2 := by
  refine pw_met (by decide) (Nat.le_of_ble_eq_true rfl) ?_
  intro p e s m args below meth c ls hC hN hR hl
  have hl : lv_has ls 4 [(0, .ref (ad v0)), (1, .ref (ad v1))] := hl
  unfold FX8_cycle at hF
  obtain ⟨u0, e0, hF⟩ := bnd hF
  refine lv_aload_n hC.1 hC.2.1 dX8_cycle_0 rfl (lv_at hl 1 rfl) ?_
  obtain ⟨q1, e1, hF⟩ := bnd hF
  refine pw_cSi (rest := []) hC hR lsX8_217 (CX8_goOn e1) ⟨rfl, rfl⟩ rfl hl.1 rfl ⟨Nat.le_of_ble_eq_true rfl, Nat.le_of_ble_eq_true rfl⟩ (Nat.le_of_ble_eq_true rfl) dX8_cycle_1 ⟨Nat.zero_le _, Nat.zero_le _⟩ (fun H locs hR => ?_)
  refine lv_istore_n (lv' := [(2, .int (Int32.ofInt q1.1)), (0, .ref (ad v0)), (1, .ref (ad v1))]) hC.1 hC.2.1 dX8_cycle_4 rfl hl (by decide) rfl (fun ls hl => ?_)
  refine lv_aload_n hC.1 hC.2.1 dX8_cycle_5 rfl (lv_at hl 2 rfl) ?_
  obtain ⟨h2, e2, hF⟩ := bnd hF
  refine pw_cSv (rest := []) hC hR lsX8_221 (CX8_queueReady e2) ⟨rfl, rfl⟩ rfl hl.1 rfl ⟨Nat.le_of_ble_eq_true rfl, Nat.le_of_ble_eq_true rfl⟩ (Nat.le_of_ble_eq_true rfl) dX8_cycle_6 ⟨Nat.zero_le _, Nat.zero_le _⟩ (fun H locs hR => ?_)
  refine pw_iconst hC dX8_cycle_9 ?_
  refine lv_istore_n (lv' := [(3, .int (Int32.ofInt 0)), (2, .int (Int32.ofInt q1.1)), (0, .ref (ad v0)), (1, .ref (ad v1))]) hC.1 hC.2.1 dX8_cycle_10 rfl hl (by decide) rfl (fun ls hl => ?_)
  obtain ⟨ex9, e9, hF⟩ := bnd hF
  refine LRX8_cycle_11 hC FU _ ex9 e9 ?_ _ _ _ hR (lv_sub hl [2, 3, 1, 0] rfl)
  intro H locs ls hR hl
  refine pw_iconst hC dX8_cycle_53 ?_
  refine lv_istore_n (lv' := [(3, .int (Int32.ofInt 0)), (1, .ref (ad v1)), (2, .int (Int32.ofInt q1.1))]) hC.1 hC.2.1 dX8_cycle_54 rfl hl (by decide) rfl (fun ls hl => ?_)
  obtain ⟨ex16, e16, hF⟩ := bnd hF
  refine LRX8_cycle_55 hC FU _ ex16 e16 ?_ _ _ _ hR (lv_sub hl [1, 2, 0] rfl)
  intro H locs ls hR hl
  refine lv_aload_n hC.1 hC.2.1 dX8_cycle_96 rfl (lv_at hl 0 rfl) ?_
  refine pw_iconst hC dX8_cycle_97 ?_
  refine lv_dup2_11 hC.1 hC.2.1 dX8_cycle_98 rfl rfl ?_
  obtain ⟨x17, e17, hF⟩ := bnd hF
  refine pw_iald hC hR e17 dX8_cycle_99 ?_
  refine pw_iconst hC dX8_cycle_100 ?_
  refine pw_iadd hC dX8_cycle_101 ?_
  obtain ⟨h18, e18, hF⟩ := bnd hF
  refine pw_iast hC hR e18 dX8_cycle_102 (fun H locs hR => ?_)
  refine lv_iload_n hC.1 hC.2.1 dX8_cycle_103 rfl (lv_at hl 1 rfl) ?_
  cases hF
  exact pw_iret hC hR dX8_cycle_104
abbrev rmX8_noTask : Room := { frames := 1, cells := 0, slots := 0, locals := 22 }
def JX8_noTask_22 (h : PH) (s0 : Int) (s1 : Nat) : Option (Int × PH) :=
  (FX8_fails h s1 s0 1).bind fun q4 =>
  if q4.1 = 0 ∨ q4.1 = 1 then some (q4.1, q4.2) else none
set_option maxHeartbeats 4000000 in
set_option maxRecDepth 100000 in
theorem BX8_noTask_22 {h : PH} {s0 : Int} {s1 : Nat} (hC : Cx g p s m args meth c cX8_noTask 2 RX8 (some .boolean)) (hR : Rl g ad h s.heap H locs) (hl : lv_has ls 2 []) {q : Int × PH} (hF : JX8_noTask_22 h s0 s1 = some q) : W p l e rmX8_noTask s m args below meth c H locs 0 0 (MQ below (QcN g ad q.2 (some (.int (Int32.ofInt q.1)))) args s 0 0 (gA g)) (F0 m 22 ls [.int (Int32.ofInt s0), .ref (ad s1)]) := by
  unfold JX8_noTask_22 at hF
  refine pw_iconst hC dX8_noTask_22 ?_
  obtain ⟨q4, e4, hF⟩ := bnd hF
  obtain ⟨fs4, ho4⟩ := OX8_fails e4
  refine pw_cVi (rest := []) hC hR lvX8_162 ho4 (CX8_fails e4) ⟨rfl, rfl⟩ rfl hl.1 rfl ⟨Nat.le_of_ble_eq_true rfl, Nat.le_of_ble_eq_true rfl⟩ (Nat.le_of_ble_eq_true rfl) dX8_noTask_23 ⟨Nat.zero_le _, Nat.zero_le _⟩ (fun H locs hR => ?_)
  by_cases hb5 : q4.1 = 0 ∨ q4.1 = 1
  · rw [if_pos hb5] at hF
    cases hF
    exact pw_zret hC hR hb5 dX8_noTask_26
  · rw [if_neg hb5] at hF; cases hF
def FX8_noTask (h : PH) (v0 : Nat) (v1 : Int) : Option (Int × PH) :=
  (isO h 8 v0).bind fun _ =>
  (gfr h 8 v0 8).bind fun x1 =>
  (ald 0 h x1 3).bind fun x2 =>
  (FX8_in h v1 0 (x2 - 1)).bind fun x3 =>
  if w32 x3 = 0 then (
    JX8_noTask_22 h 1 v0
  ) else (
    JX8_noTask_22 h 0 v0
  )
theorem OX8_noTask {h : PH} {v0 : Nat} {v1 : Int} {q : Int × PH} (hF : FX8_noTask h v0 v1 = some q) : ∃ fs : List PV, h[v0]? = some (.inr (8, fs)) := by
  unfold FX8_noTask at hF
  obtain ⟨u0, e0, -⟩ := bnd hF
  exact isO_spec e0
set_option maxHeartbeats 4000000 in
set_option maxRecDepth 100000 in
theorem CX8_noTask {g : GP} {l : Launch} {ad : Nat → Nat} {h : PH} {v0 : Nat} {v1 : Int} {q : Int × PH} (hF : FX8_noTask h v0 v1 = some q) : CN g l yX8_noTask cX8_noTask 2 (some .boolean) rmX8_noTask ad h [.ref (ad v0), .int (Int32.ofInt v1)] (some (.int (Int32.ofInt q.1))) q.2 := by
  refine pw_met (by decide) (Nat.le_of_ble_eq_true rfl) ?_
  intro p e s m args below meth c ls hC hN hR hl
  have hl : lv_has ls 2 [(0, .ref (ad v0)), (1, .int (Int32.ofInt v1))] := hl
  unfold FX8_noTask at hF
  obtain ⟨u0, e0, hF⟩ := bnd hF
  refine lv_aload_n hC.1 hC.2.1 dX8_noTask_0 rfl (lv_at hl 0 rfl) ?_
  refine lv_iload_n hC.1 hC.2.1 dX8_noTask_1 rfl (lv_at hl 1 rfl) ?_
  refine pw_iconst hC dX8_noTask_2 ?_
  refine lv_aload_n hC.1 hC.2.1 dX8_noTask_3 rfl (lv_at hl 0 rfl) ?_
  obtain ⟨x1, e1, hF⟩ := bnd hF
  refine pw_gfr hC hR e1 flX8_17 dX8_noTask_4 ?_
  refine pw_iconst hC dX8_noTask_7 ?_
  obtain ⟨x2, e2, hF⟩ := bnd hF
  refine pw_iald hC hR e2 dX8_noTask_8 ?_
  refine pw_iconst hC dX8_noTask_9 ?_
  refine pw_isub hC dX8_noTask_10 ?_
  obtain ⟨x3, e3, hF⟩ := bnd hF
  refine pw_cSi (rest := [.ref (ad v0)]) hC hR lsX8_63 (CX8_in e3) ⟨rfl, rfl⟩ rfl hl.1 rfl ⟨Nat.le_of_ble_eq_true rfl, Nat.le_of_ble_eq_true rfl⟩ (Nat.le_of_ble_eq_true rfl) dX8_noTask_11 ⟨Nat.zero_le _, Nat.zero_le _⟩ (fun H locs hR => ?_)
  refine pw_ifne hC 21 dX8_noTask_14 (by decide) (fun hc => ?_) (fun hc => ?_)
  · rw [if_neg hc] at hF
    refine pw_iconst hC dX8_noTask_21 ?_
    exact BX8_noTask_22 hC hR (lv_sub hl [] rfl) hF
  · rw [if_pos hc] at hF
    refine pw_iconst hC dX8_noTask_17 ?_
    refine pw_goto hC 22 dX8_noTask_18 (by decide) ?_
    exact BX8_noTask_22 hC hR (lv_sub hl [] rfl) hF
abbrev rmX8_noCore : Room := { frames := 1, cells := 0, slots := 0, locals := 22 }
def JX8_noCore_22 (h : PH) (s0 : Int) (s1 : Nat) : Option (Int × PH) :=
  (FX8_fails h s1 s0 1).bind fun q4 =>
  if q4.1 = 0 ∨ q4.1 = 1 then some (q4.1, q4.2) else none
set_option maxHeartbeats 4000000 in
set_option maxRecDepth 100000 in
theorem BX8_noCore_22 {h : PH} {s0 : Int} {s1 : Nat} (hC : Cx g p s m args meth c cX8_noCore 2 RX8 (some .boolean)) (hR : Rl g ad h s.heap H locs) (hl : lv_has ls 2 []) {q : Int × PH} (hF : JX8_noCore_22 h s0 s1 = some q) : W p l e rmX8_noCore s m args below meth c H locs 0 0 (MQ below (QcN g ad q.2 (some (.int (Int32.ofInt q.1)))) args s 0 0 (gA g)) (F0 m 22 ls [.int (Int32.ofInt s0), .ref (ad s1)]) := by
  unfold JX8_noCore_22 at hF
  refine pw_iconst hC dX8_noCore_22 ?_
  obtain ⟨q4, e4, hF⟩ := bnd hF
  obtain ⟨fs4, ho4⟩ := OX8_fails e4
  refine pw_cVi (rest := []) hC hR lvX8_162 ho4 (CX8_fails e4) ⟨rfl, rfl⟩ rfl hl.1 rfl ⟨Nat.le_of_ble_eq_true rfl, Nat.le_of_ble_eq_true rfl⟩ (Nat.le_of_ble_eq_true rfl) dX8_noCore_23 ⟨Nat.zero_le _, Nat.zero_le _⟩ (fun H locs hR => ?_)
  by_cases hb5 : q4.1 = 0 ∨ q4.1 = 1
  · rw [if_pos hb5] at hF
    cases hF
    exact pw_zret hC hR hb5 dX8_noCore_26
  · rw [if_neg hb5] at hF; cases hF
def FX8_noCore (h : PH) (v0 : Nat) (v1 : Int) : Option (Int × PH) :=
  (isO h 8 v0).bind fun _ =>
  (gfr h 8 v0 8).bind fun x1 =>
  (ald 0 h x1 0).bind fun x2 =>
  (FX8_in h v1 0 (x2 - 1)).bind fun x3 =>
  if w32 x3 = 0 then (
    JX8_noCore_22 h 1 v0
  ) else (
    JX8_noCore_22 h 0 v0
  )
theorem OX8_noCore {h : PH} {v0 : Nat} {v1 : Int} {q : Int × PH} (hF : FX8_noCore h v0 v1 = some q) : ∃ fs : List PV, h[v0]? = some (.inr (8, fs)) := by
  unfold FX8_noCore at hF
  obtain ⟨u0, e0, -⟩ := bnd hF
  exact isO_spec e0
set_option maxHeartbeats 4000000 in
set_option maxRecDepth 100000 in
theorem CX8_noCore {g : GP} {l : Launch} {ad : Nat → Nat} {h : PH} {v0 : Nat} {v1 : Int} {q : Int × PH} (hF : FX8_noCore h v0 v1 = some q) : CN g l yX8_noCore cX8_noCore 2 (some .boolean) rmX8_noCore ad h [.ref (ad v0), .int (Int32.ofInt v1)] (some (.int (Int32.ofInt q.1))) q.2 := by
  refine pw_met (by decide) (Nat.le_of_ble_eq_true rfl) ?_
  intro p e s m args below meth c ls hC hN hR hl
  have hl : lv_has ls 2 [(0, .ref (ad v0)), (1, .int (Int32.ofInt v1))] := hl
  unfold FX8_noCore at hF
  obtain ⟨u0, e0, hF⟩ := bnd hF
  refine lv_aload_n hC.1 hC.2.1 dX8_noCore_0 rfl (lv_at hl 0 rfl) ?_
  refine lv_iload_n hC.1 hC.2.1 dX8_noCore_1 rfl (lv_at hl 1 rfl) ?_
  refine pw_iconst hC dX8_noCore_2 ?_
  refine lv_aload_n hC.1 hC.2.1 dX8_noCore_3 rfl (lv_at hl 0 rfl) ?_
  obtain ⟨x1, e1, hF⟩ := bnd hF
  refine pw_gfr hC hR e1 flX8_17 dX8_noCore_4 ?_
  refine pw_iconst hC dX8_noCore_7 ?_
  obtain ⟨x2, e2, hF⟩ := bnd hF
  refine pw_iald hC hR e2 dX8_noCore_8 ?_
  refine pw_iconst hC dX8_noCore_9 ?_
  refine pw_isub hC dX8_noCore_10 ?_
  obtain ⟨x3, e3, hF⟩ := bnd hF
  refine pw_cSi (rest := [.ref (ad v0)]) hC hR lsX8_63 (CX8_in e3) ⟨rfl, rfl⟩ rfl hl.1 rfl ⟨Nat.le_of_ble_eq_true rfl, Nat.le_of_ble_eq_true rfl⟩ (Nat.le_of_ble_eq_true rfl) dX8_noCore_11 ⟨Nat.zero_le _, Nat.zero_le _⟩ (fun H locs hR => ?_)
  refine pw_ifne hC 21 dX8_noCore_14 (by decide) (fun hc => ?_) (fun hc => ?_)
  · rw [if_neg hc] at hF
    refine pw_iconst hC dX8_noCore_21 ?_
    exact BX8_noCore_22 hC hR (lv_sub hl [] rfl) hF
  · rw [if_pos hc] at hF
    refine pw_iconst hC dX8_noCore_17 ?_
    refine pw_goto hC 22 dX8_noCore_18 (by decide) ?_
    exact BX8_noCore_22 hC hR (lv_sub hl [] rfl) hF
abbrev rmX8_coreCount : Room := { frames := 0, cells := 0, slots := 0, locals := 0 }
def FX8_coreCount (h : PH) (v0 : Nat) : Option (Int × PH) :=
  (isO h 8 v0).bind fun _ =>
  (pfi h 8 v0 0 0).bind fun h1 =>
  (gfr h1 8 v0 8).bind fun x2 =>
  (ald 0 h1 x2 0).bind fun x3 =>
  some (x3, h1)
theorem OX8_coreCount {h : PH} {v0 : Nat} {q : Int × PH} (hF : FX8_coreCount h v0 = some q) : ∃ fs : List PV, h[v0]? = some (.inr (8, fs)) := by
  unfold FX8_coreCount at hF
  obtain ⟨u0, e0, -⟩ := bnd hF
  exact isO_spec e0
set_option maxHeartbeats 4000000 in
set_option maxRecDepth 100000 in
theorem CX8_coreCount {g : GP} {l : Launch} {ad : Nat → Nat} {h : PH} {v0 : Nat} {q : Int × PH} (hF : FX8_coreCount h v0 = some q) : CN g l yX8_coreCount cX8_coreCount 1 (some .int) rmX8_coreCount ad h [.ref (ad v0)] (some (.int (Int32.ofInt q.1))) q.2 := by
  refine pw_met (by decide) (Nat.le_of_ble_eq_true rfl) ?_
  intro p e s m args below meth c ls hC hN hR hl
  have hl : lv_has ls 1 [(0, .ref (ad v0))] := hl
  unfold FX8_coreCount at hF
  obtain ⟨u0, e0, hF⟩ := bnd hF
  refine lv_aload_n hC.1 hC.2.1 dX8_coreCount_0 rfl (lv_at hl 0 rfl) ?_
  refine pw_iconst hC dX8_coreCount_1 ?_
  obtain ⟨h1, e1, hF⟩ := bnd hF
  refine pw_pfi hC hR e1 fpX8_38 (Or.inl rfl) dX8_coreCount_2 (fun H locs hR => ?_)
  refine lv_aload_n hC.1 hC.2.1 dX8_coreCount_5 rfl (lv_at hl 0 rfl) ?_
  obtain ⟨x2, e2, hF⟩ := bnd hF
  refine pw_gfr hC hR e2 flX8_17 dX8_coreCount_6 ?_
  refine pw_iconst hC dX8_coreCount_9 ?_
  obtain ⟨x3, e3, hF⟩ := bnd hF
  refine pw_iald hC hR e3 dX8_coreCount_10 ?_
  cases hF
  exact pw_iret hC hR dX8_coreCount_11
abbrev rmX8_taskCount : Room := { frames := 0, cells := 0, slots := 0, locals := 0 }
def FX8_taskCount (h : PH) (v0 : Nat) : Option (Int × PH) :=
  (isO h 8 v0).bind fun _ =>
  (pfi h 8 v0 0 0).bind fun h1 =>
  (gfr h1 8 v0 8).bind fun x2 =>
  (ald 0 h1 x2 3).bind fun x3 =>
  some (x3, h1)
theorem OX8_taskCount {h : PH} {v0 : Nat} {q : Int × PH} (hF : FX8_taskCount h v0 = some q) : ∃ fs : List PV, h[v0]? = some (.inr (8, fs)) := by
  unfold FX8_taskCount at hF
  obtain ⟨u0, e0, -⟩ := bnd hF
  exact isO_spec e0
set_option maxHeartbeats 4000000 in
set_option maxRecDepth 100000 in
theorem CX8_taskCount {g : GP} {l : Launch} {ad : Nat → Nat} {h : PH} {v0 : Nat} {q : Int × PH} (hF : FX8_taskCount h v0 = some q) : CN g l yX8_taskCount cX8_taskCount 1 (some .int) rmX8_taskCount ad h [.ref (ad v0)] (some (.int (Int32.ofInt q.1))) q.2 := by
  refine pw_met (by decide) (Nat.le_of_ble_eq_true rfl) ?_
  intro p e s m args below meth c ls hC hN hR hl
  have hl : lv_has ls 1 [(0, .ref (ad v0))] := hl
  unfold FX8_taskCount at hF
  obtain ⟨u0, e0, hF⟩ := bnd hF
  refine lv_aload_n hC.1 hC.2.1 dX8_taskCount_0 rfl (lv_at hl 0 rfl) ?_
  refine pw_iconst hC dX8_taskCount_1 ?_
  obtain ⟨h1, e1, hF⟩ := bnd hF
  refine pw_pfi hC hR e1 fpX8_38 (Or.inl rfl) dX8_taskCount_2 (fun H locs hR => ?_)
  refine lv_aload_n hC.1 hC.2.1 dX8_taskCount_5 rfl (lv_at hl 0 rfl) ?_
  obtain ⟨x2, e2, hF⟩ := bnd hF
  refine pw_gfr hC hR e2 flX8_17 dX8_taskCount_6 ?_
  refine pw_iconst hC dX8_taskCount_9 ?_
  obtain ⟨x3, e3, hF⟩ := bnd hF
  refine pw_iald hC hR e3 dX8_taskCount_10 ?_
  cases hF
  exact pw_iret hC hR dX8_taskCount_11
abbrev rmX8_fenceCount : Room := { frames := 0, cells := 0, slots := 0, locals := 0 }
def FX8_fenceCount (h : PH) (v0 : Nat) : Option (Int × PH) :=
  (isO h 8 v0).bind fun _ =>
  (pfi h 8 v0 0 0).bind fun h1 =>
  (gfr h1 8 v0 8).bind fun x2 =>
  (ald 0 h1 x2 4).bind fun x3 =>
  some (x3, h1)
theorem OX8_fenceCount {h : PH} {v0 : Nat} {q : Int × PH} (hF : FX8_fenceCount h v0 = some q) : ∃ fs : List PV, h[v0]? = some (.inr (8, fs)) := by
  unfold FX8_fenceCount at hF
  obtain ⟨u0, e0, -⟩ := bnd hF
  exact isO_spec e0
set_option maxHeartbeats 4000000 in
set_option maxRecDepth 100000 in
theorem CX8_fenceCount {g : GP} {l : Launch} {ad : Nat → Nat} {h : PH} {v0 : Nat} {q : Int × PH} (hF : FX8_fenceCount h v0 = some q) : CN g l yX8_fenceCount cX8_fenceCount 1 (some .int) rmX8_fenceCount ad h [.ref (ad v0)] (some (.int (Int32.ofInt q.1))) q.2 := by
  refine pw_met (by decide) (Nat.le_of_ble_eq_true rfl) ?_
  intro p e s m args below meth c ls hC hN hR hl
  have hl : lv_has ls 1 [(0, .ref (ad v0))] := hl
  unfold FX8_fenceCount at hF
  obtain ⟨u0, e0, hF⟩ := bnd hF
  refine lv_aload_n hC.1 hC.2.1 dX8_fenceCount_0 rfl (lv_at hl 0 rfl) ?_
  refine pw_iconst hC dX8_fenceCount_1 ?_
  obtain ⟨h1, e1, hF⟩ := bnd hF
  refine pw_pfi hC hR e1 fpX8_38 (Or.inl rfl) dX8_fenceCount_2 (fun H locs hR => ?_)
  refine lv_aload_n hC.1 hC.2.1 dX8_fenceCount_5 rfl (lv_at hl 0 rfl) ?_
  obtain ⟨x2, e2, hF⟩ := bnd hF
  refine pw_gfr hC hR e2 flX8_17 dX8_fenceCount_6 ?_
  refine pw_iconst hC dX8_fenceCount_9 ?_
  obtain ⟨x3, e3, hF⟩ := bnd hF
  refine pw_iald hC hR e3 dX8_fenceCount_10 ?_
  cases hF
  exact pw_iret hC hR dX8_fenceCount_11
abbrev rmX8_clock : Room := { frames := 0, cells := 0, slots := 0, locals := 0 }
def FX8_clock (h : PH) (v0 : Nat) : Option (Int × PH) :=
  (isO h 8 v0).bind fun _ =>
  (pfi h 8 v0 0 0).bind fun h1 =>
  (gfr h1 8 v0 8).bind fun x2 =>
  (ald 0 h1 x2 5).bind fun x3 =>
  some (x3, h1)
theorem OX8_clock {h : PH} {v0 : Nat} {q : Int × PH} (hF : FX8_clock h v0 = some q) : ∃ fs : List PV, h[v0]? = some (.inr (8, fs)) := by
  unfold FX8_clock at hF
  obtain ⟨u0, e0, -⟩ := bnd hF
  exact isO_spec e0
set_option maxHeartbeats 4000000 in
set_option maxRecDepth 100000 in
theorem CX8_clock {g : GP} {l : Launch} {ad : Nat → Nat} {h : PH} {v0 : Nat} {q : Int × PH} (hF : FX8_clock h v0 = some q) : CN g l yX8_clock cX8_clock 1 (some .int) rmX8_clock ad h [.ref (ad v0)] (some (.int (Int32.ofInt q.1))) q.2 := by
  refine pw_met (by decide) (Nat.le_of_ble_eq_true rfl) ?_
  intro p e s m args below meth c ls hC hN hR hl
  have hl : lv_has ls 1 [(0, .ref (ad v0))] := hl
  unfold FX8_clock at hF
  obtain ⟨u0, e0, hF⟩ := bnd hF
  refine lv_aload_n hC.1 hC.2.1 dX8_clock_0 rfl (lv_at hl 0 rfl) ?_
  refine pw_iconst hC dX8_clock_1 ?_
  obtain ⟨h1, e1, hF⟩ := bnd hF
  refine pw_pfi hC hR e1 fpX8_38 (Or.inl rfl) dX8_clock_2 (fun H locs hR => ?_)
  refine lv_aload_n hC.1 hC.2.1 dX8_clock_5 rfl (lv_at hl 0 rfl) ?_
  obtain ⟨x2, e2, hF⟩ := bnd hF
  refine pw_gfr hC hR e2 flX8_17 dX8_clock_6 ?_
  refine pw_iconst hC dX8_clock_9 ?_
  obtain ⟨x3, e3, hF⟩ := bnd hF
  refine pw_iald hC hR e3 dX8_clock_10 ?_
  cases hF
  exact pw_iret hC hR dX8_clock_11
end
