section
variable {p : Program} {l : Launch} {e : Env} {s : State} {m : MethodId} {args : Array Value} {below : List Frame} {meth : Method} {c : Code} {H : Heap} {locs : List Loc} {ls : Array Slot} {g : GP} {ad : Nat → Nat}
abbrev rmX0_copyFrom : Room := { frames := 1, cells := 0, slots := 0, locals := 64 }
def LX0_copyFrom_41 (v0 : Nat) (v1 : Nat) (v2 : Int) (h : PH) : Option ((Int × PH) ⊕ (PH)) :=
  if w32 v2 < w32 4 then (
    (gfr h 0 v0 4).bind fun x10 =>
    (gfr h 0 v1 4).bind fun x11 =>
    (ald 0 h x11 v2).bind fun x12 =>
    (ast 0 h x10 v2 x12).bind fun h13 =>
    (gfr h13 0 v0 5).bind fun x14 =>
    (gfr h13 0 v1 5).bind fun x15 =>
    (ald 0 h13 x15 v2).bind fun x16 =>
    (ast 0 h13 x14 v2 x16).bind fun h17 =>
    (gfr h17 0 v0 6).bind fun x18 =>
    (gfr h17 0 v1 6).bind fun x19 =>
    (ald 0 h17 x19 v2).bind fun x20 =>
    (ast 0 h17 x18 v2 x20).bind fun h21 =>
    (gfr h21 0 v0 7).bind fun x22 =>
    (gfr h21 0 v1 7).bind fun x23 =>
    (ald 0 h21 x23 v2).bind fun x24 =>
    (ast 0 h21 x22 v2 x24).bind fun h25 =>
    (gfr h25 0 v0 8).bind fun x26 =>
    (gfr h25 0 v1 8).bind fun x27 =>
    (ald 0 h25 x27 v2).bind fun x28 =>
    (ast 0 h25 x26 v2 x28).bind fun h29 =>
    (gfr h29 0 v0 9).bind fun x30 =>
    (gfr h29 0 v1 9).bind fun x31 =>
    (ald 2 h29 x31 v2).bind fun x32 =>
    (ast 2 h29 x30 v2 x32).bind fun h33 =>
    some (.inl ((v2 + 1), h33))
  ) else (
    some (.inr h)
  )
set_option maxHeartbeats 4000000 in
set_option maxRecDepth 100000 in
theorem LRX0_copyFrom_41 {v0 : Nat} {v1 : Nat} {Q : State → Prop} (hC : Cx g p s m args meth c cX0_copyFrom 3 RX0 none) : ∀ (n : Nat) (st : Int × PH) (ex : PH), lp (fun st : Int × PH => LX0_copyFrom_41 v0 v1 st.1 st.2) n st = some ex → (fun ex : PH => ∀ (H : Heap) (locs : List Loc) (ls : Array Slot), Rl g ad ex s.heap H locs → lv_has ls 3 [] → W p l e rmX0_copyFrom s m args below meth c H locs 0 0 Q (F0 m 124 ls [])) ex → ∀ (H : Heap) (locs : List Loc) (ls : Array Slot), Rl g ad st.2 s.heap H locs → lv_has ls 3 [(0, .ref (ad v0)), (1, .ref (ad v1)), (2, .int (Int32.ofInt st.1))] → W p l e rmX0_copyFrom s m args below meth c H locs 0 0 Q (F0 m 41 ls []) := by
  refine lp_rule (Ph := (fun st : Int × PH => ∀ (H : Heap) (locs : List Loc) (ls : Array Slot), Rl g ad st.2 s.heap H locs → lv_has ls 3 [(0, .ref (ad v0)), (1, .ref (ad v1)), (2, .int (Int32.ofInt st.1))] → W p l e rmX0_copyFrom s m args below meth c H locs 0 0 Q (F0 m 41 ls []))) (Px := (fun ex : PH => ∀ (H : Heap) (locs : List Loc) (ls : Array Slot), Rl g ad ex s.heap H locs → lv_has ls 3 [] → W p l e rmX0_copyFrom s m args below meth c H locs 0 0 Q (F0 m 124 ls []))) ?_
  rintro ⟨v2, h⟩ o hF hK H locs ls hR hl
  have hR : Rl g ad h s.heap H locs := hR
  have hl : lv_has ls 3 [(0, .ref (ad v0)), (1, .ref (ad v1)), (2, .int (Int32.ofInt v2))] := hl
  have hF : LX0_copyFrom_41 v0 v1 v2 h = some o := hF
  unfold LX0_copyFrom_41 at hF
  refine lv_iload_n hC.1 hC.2.1 dX0_copyFrom_41 rfl (lv_at hl 2 rfl) ?_
  refine pw_iconst hC dX0_copyFrom_42 ?_
  refine pw_icmpge hC 124 dX0_copyFrom_43 (by decide) (fun hc => ?_) (fun hc => ?_)
  · rw [if_neg hc] at hF
    cases hF
    exact hK _ _ _ hR (lv_sub hl [] rfl)
  · rw [if_pos hc] at hF
    refine lv_aload_n hC.1 hC.2.1 dX0_copyFrom_46 rfl (lv_at hl 0 rfl) ?_
    obtain ⟨x10, e10, hF⟩ := bnd hF
    refine pw_gfr hC hR e10 flX0_25 dX0_copyFrom_47 ?_
    refine lv_iload_n hC.1 hC.2.1 dX0_copyFrom_50 rfl (lv_at hl 2 rfl) ?_
    refine lv_aload_n hC.1 hC.2.1 dX0_copyFrom_51 rfl (lv_at hl 1 rfl) ?_
    obtain ⟨x11, e11, hF⟩ := bnd hF
    refine pw_gfr hC hR e11 flX0_25 dX0_copyFrom_52 ?_
    refine lv_iload_n hC.1 hC.2.1 dX0_copyFrom_55 rfl (lv_at hl 2 rfl) ?_
    obtain ⟨x12, e12, hF⟩ := bnd hF
    refine pw_iald hC hR e12 dX0_copyFrom_56 ?_
    obtain ⟨h13, e13, hF⟩ := bnd hF
    refine pw_iast hC hR e13 dX0_copyFrom_57 (fun H locs hR => ?_)
    refine lv_aload_n hC.1 hC.2.1 dX0_copyFrom_58 rfl (lv_at hl 0 rfl) ?_
    obtain ⟨x14, e14, hF⟩ := bnd hF
    refine pw_gfr hC hR e14 flX0_28 dX0_copyFrom_59 ?_
    refine lv_iload_n hC.1 hC.2.1 dX0_copyFrom_62 rfl (lv_at hl 2 rfl) ?_
    refine lv_aload_n hC.1 hC.2.1 dX0_copyFrom_63 rfl (lv_at hl 1 rfl) ?_
    obtain ⟨x15, e15, hF⟩ := bnd hF
    refine pw_gfr hC hR e15 flX0_28 dX0_copyFrom_64 ?_
    refine lv_iload_n hC.1 hC.2.1 dX0_copyFrom_67 rfl (lv_at hl 2 rfl) ?_
    obtain ⟨x16, e16, hF⟩ := bnd hF
    refine pw_iald hC hR e16 dX0_copyFrom_68 ?_
    obtain ⟨h17, e17, hF⟩ := bnd hF
    refine pw_iast hC hR e17 dX0_copyFrom_69 (fun H locs hR => ?_)
    refine lv_aload_n hC.1 hC.2.1 dX0_copyFrom_70 rfl (lv_at hl 0 rfl) ?_
    obtain ⟨x18, e18, hF⟩ := bnd hF
    refine pw_gfr hC hR e18 flX0_31 dX0_copyFrom_71 ?_
    refine lv_iload_n hC.1 hC.2.1 dX0_copyFrom_74 rfl (lv_at hl 2 rfl) ?_
    refine lv_aload_n hC.1 hC.2.1 dX0_copyFrom_75 rfl (lv_at hl 1 rfl) ?_
    obtain ⟨x19, e19, hF⟩ := bnd hF
    refine pw_gfr hC hR e19 flX0_31 dX0_copyFrom_76 ?_
    refine lv_iload_n hC.1 hC.2.1 dX0_copyFrom_79 rfl (lv_at hl 2 rfl) ?_
    obtain ⟨x20, e20, hF⟩ := bnd hF
    refine pw_iald hC hR e20 dX0_copyFrom_80 ?_
    obtain ⟨h21, e21, hF⟩ := bnd hF
    refine pw_iast hC hR e21 dX0_copyFrom_81 (fun H locs hR => ?_)
    refine lv_aload_n hC.1 hC.2.1 dX0_copyFrom_82 rfl (lv_at hl 0 rfl) ?_
    obtain ⟨x22, e22, hF⟩ := bnd hF
    refine pw_gfr hC hR e22 flX0_34 dX0_copyFrom_83 ?_
    refine lv_iload_n hC.1 hC.2.1 dX0_copyFrom_86 rfl (lv_at hl 2 rfl) ?_
    refine lv_aload_n hC.1 hC.2.1 dX0_copyFrom_87 rfl (lv_at hl 1 rfl) ?_
    obtain ⟨x23, e23, hF⟩ := bnd hF
    refine pw_gfr hC hR e23 flX0_34 dX0_copyFrom_88 ?_
    refine lv_iload_n hC.1 hC.2.1 dX0_copyFrom_91 rfl (lv_at hl 2 rfl) ?_
    obtain ⟨x24, e24, hF⟩ := bnd hF
    refine pw_iald hC hR e24 dX0_copyFrom_92 ?_
    obtain ⟨h25, e25, hF⟩ := bnd hF
    refine pw_iast hC hR e25 dX0_copyFrom_93 (fun H locs hR => ?_)
    refine lv_aload_n hC.1 hC.2.1 dX0_copyFrom_94 rfl (lv_at hl 0 rfl) ?_
    obtain ⟨x26, e26, hF⟩ := bnd hF
    refine pw_gfr hC hR e26 flX0_37 dX0_copyFrom_95 ?_
    refine lv_iload_n hC.1 hC.2.1 dX0_copyFrom_98 rfl (lv_at hl 2 rfl) ?_
    refine lv_aload_n hC.1 hC.2.1 dX0_copyFrom_99 rfl (lv_at hl 1 rfl) ?_
    obtain ⟨x27, e27, hF⟩ := bnd hF
    refine pw_gfr hC hR e27 flX0_37 dX0_copyFrom_100 ?_
    refine lv_iload_n hC.1 hC.2.1 dX0_copyFrom_103 rfl (lv_at hl 2 rfl) ?_
    obtain ⟨x28, e28, hF⟩ := bnd hF
    refine pw_iald hC hR e28 dX0_copyFrom_104 ?_
    obtain ⟨h29, e29, hF⟩ := bnd hF
    refine pw_iast hC hR e29 dX0_copyFrom_105 (fun H locs hR => ?_)
    refine lv_aload_n hC.1 hC.2.1 dX0_copyFrom_106 rfl (lv_at hl 0 rfl) ?_
    obtain ⟨x30, e30, hF⟩ := bnd hF
    refine pw_gfr hC hR e30 flX0_40 dX0_copyFrom_107 ?_
    refine lv_iload_n hC.1 hC.2.1 dX0_copyFrom_110 rfl (lv_at hl 2 rfl) ?_
    refine lv_aload_n hC.1 hC.2.1 dX0_copyFrom_111 rfl (lv_at hl 1 rfl) ?_
    obtain ⟨x31, e31, hF⟩ := bnd hF
    refine pw_gfr hC hR e31 flX0_40 dX0_copyFrom_112 ?_
    refine lv_iload_n hC.1 hC.2.1 dX0_copyFrom_115 rfl (lv_at hl 2 rfl) ?_
    obtain ⟨x32, e32, hF⟩ := bnd hF
    refine pw_zald hC hR e32 dX0_copyFrom_116 ?_
    obtain ⟨h33, e33, hF⟩ := bnd hF
    refine pw_zast hC hR e33 dX0_copyFrom_117 (fun H locs hR => ?_)
    refine pw_iinc (lv' := [(2, .int (Int32.ofInt (v2 + 1))), (0, .ref (ad v0)), (1, .ref (ad v1))]) hC hl 2 dX0_copyFrom_118 rfl (by decide) rfl (fun ls hl => ?_)
    refine pw_goto hC 41 dX0_copyFrom_121 (by decide) ?_
    cases hF
    exact hK _ _ _ hR (lv_sub hl [1, 2, 0] rfl)
def FX0_copyFrom (h : PH) (v0 : Nat) (v1 : Nat) : Option (PH) :=
  (isO h 0 v0).bind fun _ =>
  (gfi h 0 v1 0).bind fun x1 =>
  (pfi h 0 v0 0 x1).bind fun h2 =>
  (gfi h2 0 v1 1).bind fun x3 =>
  (pfi h2 0 v0 1 x3).bind fun h4 =>
  (gfi h4 0 v1 2).bind fun x5 =>
  (pfi h4 0 v0 2 x5).bind fun h6 =>
  (gfr h6 0 v1 3).bind fun x7 =>
  (gfr h6 0 v0 3).bind fun x8 =>
  (acpy h6 x7 0 x8 0 32).bind fun h9 =>
  (lp (fun st : Int × PH => LX0_copyFrom_41 v0 v1 st.1 st.2) FU (0, h9)).bind fun ex34 =>
  some ex34
theorem OX0_copyFrom {h : PH} {v0 : Nat} {v1 : Nat} {q : PH} (hF : FX0_copyFrom h v0 v1 = some q) : ∃ fs : List PV, h[v0]? = some (.inr (0, fs)) := by
  unfold FX0_copyFrom at hF
  obtain ⟨u0, e0, -⟩ := bnd hF
  exact isO_spec e0
set_option maxHeartbeats 4000000 in
set_option maxRecDepth 100000 in
theorem CX0_copyFrom {g : GP} {l : Launch} {ad : Nat → Nat} {h : PH} {v0 : Nat} {v1 : Nat} {q : PH} (hF : FX0_copyFrom h v0 v1 = some q) : CN g l yX0_copyFrom cX0_copyFrom 3 none rmX0_copyFrom ad h [.ref (ad v0), .ref (ad v1)] none q := by
  refine pw_met (by decide) (Nat.le_of_ble_eq_true rfl) ?_
  intro p e s m args below meth c ls hC hN hR hl
  have hl : lv_has ls 3 [(0, .ref (ad v0)), (1, .ref (ad v1))] := hl
  unfold FX0_copyFrom at hF
  obtain ⟨u0, e0, hF⟩ := bnd hF
  refine lv_aload_n hC.1 hC.2.1 dX0_copyFrom_0 rfl (lv_at hl 0 rfl) ?_
  refine lv_aload_n hC.1 hC.2.1 dX0_copyFrom_1 rfl (lv_at hl 1 rfl) ?_
  obtain ⟨x1, e1, hF⟩ := bnd hF
  refine pw_gfi hC hR e1 flX0_9 dX0_copyFrom_2 ?_
  obtain ⟨h2, e2, hF⟩ := bnd hF
  refine pw_pfi hC hR e2 fpX0_9 (Or.inl rfl) dX0_copyFrom_5 (fun H locs hR => ?_)
  refine lv_aload_n hC.1 hC.2.1 dX0_copyFrom_8 rfl (lv_at hl 0 rfl) ?_
  refine lv_aload_n hC.1 hC.2.1 dX0_copyFrom_9 rfl (lv_at hl 1 rfl) ?_
  obtain ⟨x3, e3, hF⟩ := bnd hF
  refine pw_gfi hC hR e3 flX0_15 dX0_copyFrom_10 ?_
  obtain ⟨h4, e4, hF⟩ := bnd hF
  refine pw_pfi hC hR e4 fpX0_15 (Or.inl rfl) dX0_copyFrom_13 (fun H locs hR => ?_)
  refine lv_aload_n hC.1 hC.2.1 dX0_copyFrom_16 rfl (lv_at hl 0 rfl) ?_
  refine lv_aload_n hC.1 hC.2.1 dX0_copyFrom_17 rfl (lv_at hl 1 rfl) ?_
  obtain ⟨x5, e5, hF⟩ := bnd hF
  refine pw_gfi hC hR e5 flX0_18 dX0_copyFrom_18 ?_
  obtain ⟨h6, e6, hF⟩ := bnd hF
  refine pw_pfi hC hR e6 fpX0_18 (Or.inl rfl) dX0_copyFrom_21 (fun H locs hR => ?_)
  refine lv_aload_n hC.1 hC.2.1 dX0_copyFrom_24 rfl (lv_at hl 1 rfl) ?_
  obtain ⟨x7, e7, hF⟩ := bnd hF
  refine pw_gfr hC hR e7 flX0_21 dX0_copyFrom_25 ?_
  refine pw_iconst hC dX0_copyFrom_28 ?_
  refine lv_aload_n hC.1 hC.2.1 dX0_copyFrom_29 rfl (lv_at hl 0 rfl) ?_
  obtain ⟨x8, e8, hF⟩ := bnd hF
  refine pw_gfr hC hR e8 flX0_21 dX0_copyFrom_30 ?_
  refine pw_iconst hC dX0_copyFrom_33 ?_
  refine pw_bipush hC dX0_copyFrom_34 rfl ?_
  obtain ⟨h9, e9, hF⟩ := bnd hF
  refine pw_acpy hC hl.1 hR e9 kmX0_44 (Nat.le_of_ble_eq_true rfl) (Nat.le_of_ble_eq_true rfl) dX0_copyFrom_36 (fun H locs hR => ?_)
  refine pw_iconst hC dX0_copyFrom_39 ?_
  refine lv_istore_n (lv' := [(2, .int (Int32.ofInt 0)), (0, .ref (ad v0)), (1, .ref (ad v1))]) hC.1 hC.2.1 dX0_copyFrom_40 rfl hl (by decide) rfl (fun ls hl => ?_)
  obtain ⟨ex34, e34, hF⟩ := bnd hF
  refine LRX0_copyFrom_41 hC FU _ ex34 e34 ?_ _ _ _ hR (lv_sub hl [1, 2, 0] rfl)
  intro H locs ls hR hl
  cases hF
  exact pw_vret hC hR dX0_copyFrom_124
abbrev rmX0_startAgainOn : Room := { frames := 1, cells := 0, slots := 0, locals := 24 }
def LX0_startAgainOn_11 (v0 : Nat) (v2 : Int) (h : PH) : Option ((Int × PH) ⊕ (PH)) :=
  if w32 v2 < w32 4 then (
    (gfr h 0 v0 4).bind fun x2 =>
    (ast 0 h x2 v2 0).bind fun h3 =>
    (gfr h3 0 v0 5).bind fun x4 =>
    (ast 0 h3 x4 v2 (-1)).bind fun h5 =>
    (gfr h5 0 v0 6).bind fun x6 =>
    (ast 0 h5 x6 v2 0).bind fun h7 =>
    (gfr h7 0 v0 7).bind fun x8 =>
    (ast 0 h7 x8 v2 0).bind fun h9 =>
    (gfr h9 0 v0 8).bind fun x10 =>
    (ast 0 h9 x10 v2 0).bind fun h11 =>
    (gfr h11 0 v0 9).bind fun x12 =>
    (ast 2 h11 x12 v2 0).bind fun h13 =>
    some (.inl ((v2 + 1), h13))
  ) else (
    some (.inr h)
  )
set_option maxHeartbeats 4000000 in
set_option maxRecDepth 100000 in
theorem LRX0_startAgainOn_11 {v0 : Nat} {Q : State → Prop} (hC : Cx g p s m args meth c cX0_startAgainOn 3 RX0 none) : ∀ (n : Nat) (st : Int × PH) (ex : PH), lp (fun st : Int × PH => LX0_startAgainOn_11 v0 st.1 st.2) n st = some ex → (fun ex : PH => ∀ (H : Heap) (locs : List Loc) (ls : Array Slot), Rl g ad ex s.heap H locs → lv_has ls 3 [] → W p l e rmX0_startAgainOn s m args below meth c H locs 0 0 Q (F0 m 64 ls [])) ex → ∀ (H : Heap) (locs : List Loc) (ls : Array Slot), Rl g ad st.2 s.heap H locs → lv_has ls 3 [(0, .ref (ad v0)), (2, .int (Int32.ofInt st.1))] → W p l e rmX0_startAgainOn s m args below meth c H locs 0 0 Q (F0 m 11 ls []) := by
  refine lp_rule (Ph := (fun st : Int × PH => ∀ (H : Heap) (locs : List Loc) (ls : Array Slot), Rl g ad st.2 s.heap H locs → lv_has ls 3 [(0, .ref (ad v0)), (2, .int (Int32.ofInt st.1))] → W p l e rmX0_startAgainOn s m args below meth c H locs 0 0 Q (F0 m 11 ls []))) (Px := (fun ex : PH => ∀ (H : Heap) (locs : List Loc) (ls : Array Slot), Rl g ad ex s.heap H locs → lv_has ls 3 [] → W p l e rmX0_startAgainOn s m args below meth c H locs 0 0 Q (F0 m 64 ls []))) ?_
  rintro ⟨v2, h⟩ o hF hK H locs ls hR hl
  have hR : Rl g ad h s.heap H locs := hR
  have hl : lv_has ls 3 [(0, .ref (ad v0)), (2, .int (Int32.ofInt v2))] := hl
  have hF : LX0_startAgainOn_11 v0 v2 h = some o := hF
  unfold LX0_startAgainOn_11 at hF
  refine lv_iload_n hC.1 hC.2.1 dX0_startAgainOn_11 rfl (lv_at hl 1 rfl) ?_
  refine pw_iconst hC dX0_startAgainOn_12 ?_
  refine pw_icmpge hC 64 dX0_startAgainOn_13 (by decide) (fun hc => ?_) (fun hc => ?_)
  · rw [if_neg hc] at hF
    cases hF
    exact hK _ _ _ hR (lv_sub hl [] rfl)
  · rw [if_pos hc] at hF
    refine lv_aload_n hC.1 hC.2.1 dX0_startAgainOn_16 rfl (lv_at hl 0 rfl) ?_
    obtain ⟨x2, e2, hF⟩ := bnd hF
    refine pw_gfr hC hR e2 flX0_25 dX0_startAgainOn_17 ?_
    refine lv_iload_n hC.1 hC.2.1 dX0_startAgainOn_20 rfl (lv_at hl 1 rfl) ?_
    refine pw_iconst hC dX0_startAgainOn_21 ?_
    obtain ⟨h3, e3, hF⟩ := bnd hF
    refine pw_iast hC hR e3 dX0_startAgainOn_22 (fun H locs hR => ?_)
    refine lv_aload_n hC.1 hC.2.1 dX0_startAgainOn_23 rfl (lv_at hl 0 rfl) ?_
    obtain ⟨x4, e4, hF⟩ := bnd hF
    refine pw_gfr hC hR e4 flX0_28 dX0_startAgainOn_24 ?_
    refine lv_iload_n hC.1 hC.2.1 dX0_startAgainOn_27 rfl (lv_at hl 1 rfl) ?_
    refine pw_iconst hC dX0_startAgainOn_28 ?_
    obtain ⟨h5, e5, hF⟩ := bnd hF
    refine pw_iast hC hR e5 dX0_startAgainOn_29 (fun H locs hR => ?_)
    refine lv_aload_n hC.1 hC.2.1 dX0_startAgainOn_30 rfl (lv_at hl 0 rfl) ?_
    obtain ⟨x6, e6, hF⟩ := bnd hF
    refine pw_gfr hC hR e6 flX0_31 dX0_startAgainOn_31 ?_
    refine lv_iload_n hC.1 hC.2.1 dX0_startAgainOn_34 rfl (lv_at hl 1 rfl) ?_
    refine pw_iconst hC dX0_startAgainOn_35 ?_
    obtain ⟨h7, e7, hF⟩ := bnd hF
    refine pw_iast hC hR e7 dX0_startAgainOn_36 (fun H locs hR => ?_)
    refine lv_aload_n hC.1 hC.2.1 dX0_startAgainOn_37 rfl (lv_at hl 0 rfl) ?_
    obtain ⟨x8, e8, hF⟩ := bnd hF
    refine pw_gfr hC hR e8 flX0_34 dX0_startAgainOn_38 ?_
    refine lv_iload_n hC.1 hC.2.1 dX0_startAgainOn_41 rfl (lv_at hl 1 rfl) ?_
    refine pw_iconst hC dX0_startAgainOn_42 ?_
    obtain ⟨h9, e9, hF⟩ := bnd hF
    refine pw_iast hC hR e9 dX0_startAgainOn_43 (fun H locs hR => ?_)
    refine lv_aload_n hC.1 hC.2.1 dX0_startAgainOn_44 rfl (lv_at hl 0 rfl) ?_
    obtain ⟨x10, e10, hF⟩ := bnd hF
    refine pw_gfr hC hR e10 flX0_37 dX0_startAgainOn_45 ?_
    refine lv_iload_n hC.1 hC.2.1 dX0_startAgainOn_48 rfl (lv_at hl 1 rfl) ?_
    refine pw_iconst hC dX0_startAgainOn_49 ?_
    obtain ⟨h11, e11, hF⟩ := bnd hF
    refine pw_iast hC hR e11 dX0_startAgainOn_50 (fun H locs hR => ?_)
    refine lv_aload_n hC.1 hC.2.1 dX0_startAgainOn_51 rfl (lv_at hl 0 rfl) ?_
    obtain ⟨x12, e12, hF⟩ := bnd hF
    refine pw_gfr hC hR e12 flX0_40 dX0_startAgainOn_52 ?_
    refine lv_iload_n hC.1 hC.2.1 dX0_startAgainOn_55 rfl (lv_at hl 1 rfl) ?_
    refine pw_iconst hC dX0_startAgainOn_56 ?_
    obtain ⟨h13, e13, hF⟩ := bnd hF
    refine pw_zast hC hR e13 dX0_startAgainOn_57 (fun H locs hR => ?_)
    refine pw_iinc (lv' := [(2, .int (Int32.ofInt (v2 + 1))), (0, .ref (ad v0))]) hC hl 1 dX0_startAgainOn_58 rfl (by decide) rfl (fun ls hl => ?_)
    refine pw_goto hC 11 dX0_startAgainOn_61 (by decide) ?_
    cases hF
    exact hK _ _ _ hR (lv_sub hl [1, 0] rfl)
def FX0_startAgainOn (h : PH) (v0 : Nat) (v1 : Int) : Option (PH) :=
  (isO h 0 v0).bind fun _ =>
  (pfi h 0 v0 0 (minI v1 4)).bind fun h1 =>
  (lp (fun st : Int × PH => LX0_startAgainOn_11 v0 st.1 st.2) FU (0, h1)).bind fun ex14 =>
  some ex14
theorem OX0_startAgainOn {h : PH} {v0 : Nat} {v1 : Int} {q : PH} (hF : FX0_startAgainOn h v0 v1 = some q) : ∃ fs : List PV, h[v0]? = some (.inr (0, fs)) := by
  unfold FX0_startAgainOn at hF
  obtain ⟨u0, e0, -⟩ := bnd hF
  exact isO_spec e0
set_option maxHeartbeats 4000000 in
set_option maxRecDepth 100000 in
theorem CX0_startAgainOn {g : GP} {l : Launch} {ad : Nat → Nat} {h : PH} {v0 : Nat} {v1 : Int} {q : PH} (hF : FX0_startAgainOn h v0 v1 = some q) : CN g l yX0_startAgainOn cX0_startAgainOn 3 none rmX0_startAgainOn ad h [.ref (ad v0), .int (Int32.ofInt v1)] none q := by
  refine pw_met (by decide) (Nat.le_of_ble_eq_true rfl) ?_
  intro p e s m args below meth c ls hC hN hR hl
  have hl : lv_has ls 3 [(0, .ref (ad v0)), (1, .int (Int32.ofInt v1))] := hl
  unfold FX0_startAgainOn at hF
  obtain ⟨u0, e0, hF⟩ := bnd hF
  refine lv_aload_n hC.1 hC.2.1 dX0_startAgainOn_0 rfl (lv_at hl 0 rfl) ?_
  refine lv_iload_n hC.1 hC.2.1 dX0_startAgainOn_1 rfl (lv_at hl 1 rfl) ?_
  refine pw_iconst hC dX0_startAgainOn_2 ?_
  refine pw_minI hC hl.1 kmX0_50 (Nat.le_of_ble_eq_true rfl) (Nat.le_of_ble_eq_true rfl) dX0_startAgainOn_3 ⟨Nat.zero_le _, Nat.zero_le _⟩ ?_
  obtain ⟨h1, e1, hF⟩ := bnd hF
  refine pw_pfi hC hR e1 fpX0_9 (Or.inl rfl) dX0_startAgainOn_6 (fun H locs hR => ?_)
  refine pw_iconst hC dX0_startAgainOn_9 ?_
  refine lv_istore_n (lv' := [(2, .int (Int32.ofInt 0)), (0, .ref (ad v0)), (1, .int (Int32.ofInt v1))]) hC.1 hC.2.1 dX0_startAgainOn_10 rfl hl (by decide) rfl (fun ls hl => ?_)
  obtain ⟨ex14, e14, hF⟩ := bnd hF
  refine LRX0_startAgainOn_11 hC FU _ ex14 e14 ?_ _ _ _ hR (lv_sub hl [1, 0] rfl)
  intro H locs ls hR hl
  cases hF
  exact pw_vret hC hR dX0_startAgainOn_64
abbrev rmX0_queueFor : Room := { frames := 0, cells := 0, slots := 0, locals := 0 }
def JX0_queueFor_73 (h : PH) (v0 : Nat) (v2 : Int) (v3 : Int) : Option ((Int × Int) ⊕ (Int)) :=
  some (.inl (v2, (v3 + 1)))
set_option maxHeartbeats 4000000 in
set_option maxRecDepth 100000 in
theorem BX0_queueFor_73 {h : PH} {v0 : Nat} {v2 : Int} {v3 : Int} (hC : Cx g p s m args meth c cX0_queueFor 4 RX0 (some .int)) (hR : Rl g ad h s.heap H locs) (hl : lv_has ls 4 [(0, .ref (ad v0)), (2, .int (Int32.ofInt v2)), (3, .int (Int32.ofInt v3))]) {Q : State → Prop} {o : (Int × Int) ⊕ (Int)} (hF : JX0_queueFor_73 h v0 v2 v3 = some o) (hK : Sum.elim (fun st : Int × Int => ∀ (H : Heap) (locs : List Loc) (ls : Array Slot), Rl g ad h s.heap H locs → lv_has ls 4 [(0, .ref (ad v0)), (2, .int (Int32.ofInt st.1)), (3, .int (Int32.ofInt st.2))] → W p l e rmX0_queueFor s m args below meth c H locs 0 0 Q (F0 m 31 ls [])) (fun ex : Int => ∀ (H : Heap) (locs : List Loc) (ls : Array Slot), Rl g ad h s.heap H locs → lv_has ls 4 [(2, .int (Int32.ofInt ex))] → W p l e rmX0_queueFor s m args below meth c H locs 0 0 Q (F0 m 79 ls [])) o) : W p l e rmX0_queueFor s m args below meth c H locs 0 0 Q (F0 m 73 ls []) := by
  unfold JX0_queueFor_73 at hF
  refine pw_iinc (lv' := [(3, .int (Int32.ofInt (v3 + 1))), (0, .ref (ad v0)), (2, .int (Int32.ofInt v2))]) hC hl 2 dX0_queueFor_73 rfl (by decide) rfl (fun ls hl => ?_)
  refine pw_goto hC 31 dX0_queueFor_76 (by decide) ?_
  cases hF
  exact hK _ _ _ hR (lv_sub hl [1, 2, 0] rfl)
def JX0_queueFor_71 (h : PH) (v0 : Nat) (v3 : Int) : Option ((Int × Int) ⊕ (Int)) :=
  JX0_queueFor_73 h v0 v3 v3
set_option maxHeartbeats 4000000 in
set_option maxRecDepth 100000 in
theorem BX0_queueFor_71 {h : PH} {v0 : Nat} {v3 : Int} (hC : Cx g p s m args meth c cX0_queueFor 4 RX0 (some .int)) (hR : Rl g ad h s.heap H locs) (hl : lv_has ls 4 [(0, .ref (ad v0)), (3, .int (Int32.ofInt v3))]) {Q : State → Prop} {o : (Int × Int) ⊕ (Int)} (hF : JX0_queueFor_71 h v0 v3 = some o) (hK : Sum.elim (fun st : Int × Int => ∀ (H : Heap) (locs : List Loc) (ls : Array Slot), Rl g ad h s.heap H locs → lv_has ls 4 [(0, .ref (ad v0)), (2, .int (Int32.ofInt st.1)), (3, .int (Int32.ofInt st.2))] → W p l e rmX0_queueFor s m args below meth c H locs 0 0 Q (F0 m 31 ls [])) (fun ex : Int => ∀ (H : Heap) (locs : List Loc) (ls : Array Slot), Rl g ad h s.heap H locs → lv_has ls 4 [(2, .int (Int32.ofInt ex))] → W p l e rmX0_queueFor s m args below meth c H locs 0 0 Q (F0 m 79 ls [])) o) : W p l e rmX0_queueFor s m args below meth c H locs 0 0 Q (F0 m 71 ls []) := by
  unfold JX0_queueFor_71 at hF
  refine lv_iload_n hC.1 hC.2.1 dX0_queueFor_71 rfl (lv_at hl 1 rfl) ?_
  refine lv_istore_n (lv' := [(2, .int (Int32.ofInt v3)), (0, .ref (ad v0)), (3, .int (Int32.ofInt v3))]) hC.1 hC.2.1 dX0_queueFor_72 rfl hl (by decide) rfl (fun ls hl => ?_)
  exact BX0_queueFor_73 hC hR (lv_sub hl [1, 0, 2] rfl) hF hK
def LX0_queueFor_31 (h : PH) (v0 : Nat) (v2 : Int) (v3 : Int) : Option ((Int × Int) ⊕ (Int)) :=
  (gfi h 0 v0 0).bind fun x1 =>
  if w32 v3 < w32 x1 then (
    (gfr h 0 v0 4).bind fun x2 =>
    (ald 0 h x2 v3).bind fun x3 =>
    (gfi h 0 v0 1).bind fun x4 =>
    if w32 x3 < w32 x4 then (
      if w32 v2 < 0 then (
        JX0_queueFor_71 h v0 v3
      ) else (
        (gfr h 0 v0 4).bind fun x5 =>
        (ald 0 h x5 v3).bind fun x6 =>
        (gfr h 0 v0 4).bind fun x7 =>
        (ald 0 h x7 v2).bind fun x8 =>
        if w32 x6 < w32 x8 then (
          JX0_queueFor_71 h v0 v3
        ) else (
          JX0_queueFor_73 h v0 v2 v3
        )
      )
    ) else (
      JX0_queueFor_73 h v0 v2 v3
    )
  ) else (
    some (.inr v2)
  )
set_option maxHeartbeats 4000000 in
set_option maxRecDepth 100000 in
theorem LRX0_queueFor_31 {h : PH} {v0 : Nat} {Q : State → Prop} (hC : Cx g p s m args meth c cX0_queueFor 4 RX0 (some .int)) : ∀ (n : Nat) (st : Int × Int) (ex : Int), lp (fun st : Int × Int => LX0_queueFor_31 h v0 st.1 st.2) n st = some ex → (fun ex : Int => ∀ (H : Heap) (locs : List Loc) (ls : Array Slot), Rl g ad h s.heap H locs → lv_has ls 4 [(2, .int (Int32.ofInt ex))] → W p l e rmX0_queueFor s m args below meth c H locs 0 0 Q (F0 m 79 ls [])) ex → ∀ (H : Heap) (locs : List Loc) (ls : Array Slot), Rl g ad h s.heap H locs → lv_has ls 4 [(0, .ref (ad v0)), (2, .int (Int32.ofInt st.1)), (3, .int (Int32.ofInt st.2))] → W p l e rmX0_queueFor s m args below meth c H locs 0 0 Q (F0 m 31 ls []) := by
  refine lp_rule (Ph := (fun st : Int × Int => ∀ (H : Heap) (locs : List Loc) (ls : Array Slot), Rl g ad h s.heap H locs → lv_has ls 4 [(0, .ref (ad v0)), (2, .int (Int32.ofInt st.1)), (3, .int (Int32.ofInt st.2))] → W p l e rmX0_queueFor s m args below meth c H locs 0 0 Q (F0 m 31 ls []))) (Px := (fun ex : Int => ∀ (H : Heap) (locs : List Loc) (ls : Array Slot), Rl g ad h s.heap H locs → lv_has ls 4 [(2, .int (Int32.ofInt ex))] → W p l e rmX0_queueFor s m args below meth c H locs 0 0 Q (F0 m 79 ls []))) ?_
  rintro ⟨v2, v3⟩ o hF hK H locs ls hR hl
  have hR : Rl g ad h s.heap H locs := hR
  have hl : lv_has ls 4 [(0, .ref (ad v0)), (2, .int (Int32.ofInt v2)), (3, .int (Int32.ofInt v3))] := hl
  have hF : LX0_queueFor_31 h v0 v2 v3 = some o := hF
  unfold LX0_queueFor_31 at hF
  refine lv_iload_n hC.1 hC.2.1 dX0_queueFor_31 rfl (lv_at hl 2 rfl) ?_
  refine lv_aload_n hC.1 hC.2.1 dX0_queueFor_32 rfl (lv_at hl 0 rfl) ?_
  obtain ⟨x1, e1, hF⟩ := bnd hF
  refine pw_gfi hC hR e1 flX0_9 dX0_queueFor_33 ?_
  refine pw_icmpge hC 79 dX0_queueFor_36 (by decide) (fun hc => ?_) (fun hc => ?_)
  · rw [if_neg hc] at hF
    cases hF
    exact hK _ _ _ hR (lv_sub hl [1] rfl)
  · rw [if_pos hc] at hF
    refine lv_aload_n hC.1 hC.2.1 dX0_queueFor_39 rfl (lv_at hl 0 rfl) ?_
    obtain ⟨x2, e2, hF⟩ := bnd hF
    refine pw_gfr hC hR e2 flX0_25 dX0_queueFor_40 ?_
    refine lv_iload_n hC.1 hC.2.1 dX0_queueFor_43 rfl (lv_at hl 2 rfl) ?_
    obtain ⟨x3, e3, hF⟩ := bnd hF
    refine pw_iald hC hR e3 dX0_queueFor_44 ?_
    refine lv_aload_n hC.1 hC.2.1 dX0_queueFor_45 rfl (lv_at hl 0 rfl) ?_
    obtain ⟨x4, e4, hF⟩ := bnd hF
    refine pw_gfi hC hR e4 flX0_15 dX0_queueFor_46 ?_
    refine pw_icmpge hC 73 dX0_queueFor_49 (by decide) (fun hc => ?_) (fun hc => ?_)
    · rw [if_neg hc] at hF
      exact BX0_queueFor_73 hC hR (lv_sub hl [0, 1, 2] rfl) hF hK
    · rw [if_pos hc] at hF
      refine lv_iload_n hC.1 hC.2.1 dX0_queueFor_52 rfl (lv_at hl 1 rfl) ?_
      refine pw_iflt hC 71 dX0_queueFor_53 (by decide) (fun hc => ?_) (fun hc => ?_)
      · rw [if_pos hc] at hF
        exact BX0_queueFor_71 hC hR (lv_sub hl [0, 2] rfl) hF hK
      · rw [if_neg hc] at hF
        refine lv_aload_n hC.1 hC.2.1 dX0_queueFor_56 rfl (lv_at hl 0 rfl) ?_
        obtain ⟨x5, e5, hF⟩ := bnd hF
        refine pw_gfr hC hR e5 flX0_25 dX0_queueFor_57 ?_
        refine lv_iload_n hC.1 hC.2.1 dX0_queueFor_60 rfl (lv_at hl 2 rfl) ?_
        obtain ⟨x6, e6, hF⟩ := bnd hF
        refine pw_iald hC hR e6 dX0_queueFor_61 ?_
        refine lv_aload_n hC.1 hC.2.1 dX0_queueFor_62 rfl (lv_at hl 0 rfl) ?_
        obtain ⟨x7, e7, hF⟩ := bnd hF
        refine pw_gfr hC hR e7 flX0_25 dX0_queueFor_63 ?_
        refine lv_iload_n hC.1 hC.2.1 dX0_queueFor_66 rfl (lv_at hl 1 rfl) ?_
        obtain ⟨x8, e8, hF⟩ := bnd hF
        refine pw_iald hC hR e8 dX0_queueFor_67 ?_
        refine pw_icmpge hC 73 dX0_queueFor_68 (by decide) (fun hc => ?_) (fun hc => ?_)
        · rw [if_neg hc] at hF
          exact BX0_queueFor_73 hC hR (lv_sub hl [0, 1, 2] rfl) hF hK
        · rw [if_pos hc] at hF
          exact BX0_queueFor_71 hC hR (lv_sub hl [0, 2] rfl) hF hK
def JX0_queueFor_27 (h : PH) (v0 : Nat) : Option (Int) :=
  (lp (fun st : Int × Int => LX0_queueFor_31 h v0 st.1 st.2) FU ((-1), 0)).bind fun ex9 =>
  some ex9
set_option maxHeartbeats 4000000 in
set_option maxRecDepth 100000 in
theorem BX0_queueFor_27 {h : PH} {v0 : Nat} (hC : Cx g p s m args meth c cX0_queueFor 4 RX0 (some .int)) (hR : Rl g ad h s.heap H locs) (hl : lv_has ls 4 [(0, .ref (ad v0))]) {q : Int} (hF : JX0_queueFor_27 h v0 = some q) : W p l e rmX0_queueFor s m args below meth c H locs 0 0 (MQ below (QcN g ad h (some (.int (Int32.ofInt q)))) args s 0 0 (gA g)) (F0 m 27 ls []) := by
  unfold JX0_queueFor_27 at hF
  refine pw_iconst hC dX0_queueFor_27 ?_
  refine lv_istore_n (lv' := [(2, .int (Int32.ofInt (-1))), (0, .ref (ad v0))]) hC.1 hC.2.1 dX0_queueFor_28 rfl hl (by decide) rfl (fun ls hl => ?_)
  refine pw_iconst hC dX0_queueFor_29 ?_
  refine lv_istore_n (lv' := [(3, .int (Int32.ofInt 0)), (2, .int (Int32.ofInt (-1))), (0, .ref (ad v0))]) hC.1 hC.2.1 dX0_queueFor_30 rfl hl (by decide) rfl (fun ls hl => ?_)
  obtain ⟨ex9, e9, hF⟩ := bnd hF
  refine LRX0_queueFor_31 hC FU _ ex9 e9 ?_ _ _ _ hR (lv_sub hl [2, 1, 0] rfl)
  intro H locs ls hR hl
  refine lv_iload_n hC.1 hC.2.1 dX0_queueFor_79 rfl (lv_at hl 0 rfl) ?_
  cases hF
  exact pw_iret hC hR dX0_queueFor_80
def FX0_queueFor (h : PH) (v0 : Nat) (v1 : Int) : Option (Int) :=
  (isO h 0 v0).bind fun _ =>
  if w32 v1 < 0 then (
    JX0_queueFor_27 h v0
  ) else (
    (gfi h 0 v0 0).bind fun x10 =>
    if w32 v1 < w32 x10 then (
      (gfr h 0 v0 4).bind fun x11 =>
      (ald 0 h x11 v1).bind fun x12 =>
      (gfi h 0 v0 1).bind fun x13 =>
      if w32 x12 < w32 x13 then (
        some v1
      ) else (
        JX0_queueFor_27 h v0
      )
    ) else (
      JX0_queueFor_27 h v0
    )
  )
theorem OX0_queueFor {h : PH} {v0 : Nat} {v1 : Int} {q : Int} (hF : FX0_queueFor h v0 v1 = some q) : ∃ fs : List PV, h[v0]? = some (.inr (0, fs)) := by
  unfold FX0_queueFor at hF
  obtain ⟨u0, e0, -⟩ := bnd hF
  exact isO_spec e0
set_option maxHeartbeats 4000000 in
set_option maxRecDepth 100000 in
theorem CX0_queueFor {g : GP} {l : Launch} {ad : Nat → Nat} {h : PH} {v0 : Nat} {v1 : Int} {q : Int} (hF : FX0_queueFor h v0 v1 = some q) : CN g l yX0_queueFor cX0_queueFor 4 (some .int) rmX0_queueFor ad h [.ref (ad v0), .int (Int32.ofInt v1)] (some (.int (Int32.ofInt q))) h := by
  refine pw_met (by decide) (Nat.le_of_ble_eq_true rfl) ?_
  intro p e s m args below meth c ls hC hN hR hl
  have hl : lv_has ls 4 [(0, .ref (ad v0)), (1, .int (Int32.ofInt v1))] := hl
  unfold FX0_queueFor at hF
  obtain ⟨u0, e0, hF⟩ := bnd hF
  refine lv_iload_n hC.1 hC.2.1 dX0_queueFor_0 rfl (lv_at hl 1 rfl) ?_
  refine pw_iflt hC 27 dX0_queueFor_1 (by decide) (fun hc => ?_) (fun hc => ?_)
  · rw [if_pos hc] at hF
    exact BX0_queueFor_27 hC hR (lv_sub hl [0] rfl) hF
  · rw [if_neg hc] at hF
    refine lv_iload_n hC.1 hC.2.1 dX0_queueFor_4 rfl (lv_at hl 1 rfl) ?_
    refine lv_aload_n hC.1 hC.2.1 dX0_queueFor_5 rfl (lv_at hl 0 rfl) ?_
    obtain ⟨x10, e10, hF⟩ := bnd hF
    refine pw_gfi hC hR e10 flX0_9 dX0_queueFor_6 ?_
    refine pw_icmpge hC 27 dX0_queueFor_9 (by decide) (fun hc => ?_) (fun hc => ?_)
    · rw [if_neg hc] at hF
      exact BX0_queueFor_27 hC hR (lv_sub hl [0] rfl) hF
    · rw [if_pos hc] at hF
      refine lv_aload_n hC.1 hC.2.1 dX0_queueFor_12 rfl (lv_at hl 0 rfl) ?_
      obtain ⟨x11, e11, hF⟩ := bnd hF
      refine pw_gfr hC hR e11 flX0_25 dX0_queueFor_13 ?_
      refine lv_iload_n hC.1 hC.2.1 dX0_queueFor_16 rfl (lv_at hl 1 rfl) ?_
      obtain ⟨x12, e12, hF⟩ := bnd hF
      refine pw_iald hC hR e12 dX0_queueFor_17 ?_
      refine lv_aload_n hC.1 hC.2.1 dX0_queueFor_18 rfl (lv_at hl 0 rfl) ?_
      obtain ⟨x13, e13, hF⟩ := bnd hF
      refine pw_gfi hC hR e13 flX0_15 dX0_queueFor_19 ?_
      refine pw_icmpge hC 27 dX0_queueFor_22 (by decide) (fun hc => ?_) (fun hc => ?_)
      · rw [if_neg hc] at hF
        exact BX0_queueFor_27 hC hR (lv_sub hl [0] rfl) hF
      · rw [if_pos hc] at hF
        refine lv_iload_n hC.1 hC.2.1 dX0_queueFor_25 rfl (lv_at hl 1 rfl) ?_
        cases hF
        exact pw_iret hC hR dX0_queueFor_26
abbrev rmX0_putLast : Room := { frames := 0, cells := 0, slots := 0, locals := 0 }
def JX0_putLast_38 (h : PH) : Option (PH) :=
  some h
set_option maxHeartbeats 4000000 in
set_option maxRecDepth 100000 in
theorem BX0_putLast_38 {h : PH} (hC : Cx g p s m args meth c cX0_putLast 3 RX0 none) (hR : Rl g ad h s.heap H locs) (hl : lv_has ls 3 []) {q : PH} (hF : JX0_putLast_38 h  = some q) : W p l e rmX0_putLast s m args below meth c H locs 0 0 (MQ below (QcN g ad q none) args s 0 0 (gA g)) (F0 m 38 ls []) := by
  unfold JX0_putLast_38 at hF
  cases hF
  exact pw_vret hC hR dX0_putLast_38
def FX0_putLast (h : PH) (v0 : Nat) (v1 : Int) (v2 : Int) : Option (PH) :=
  (isO h 0 v0).bind fun _ =>
  (gfr h 0 v0 4).bind fun x1 =>
  (ald 0 h x1 v1).bind fun x2 =>
  if w32 x2 < w32 8 then (
    (gfr h 0 v0 3).bind fun x3 =>
    (gfr h 0 v0 4).bind fun x4 =>
    (ald 0 h x4 v1).bind fun x5 =>
    (ast 0 h x3 ((v1 * 8) + x5) v2).bind fun h6 =>
    (gfr h6 0 v0 4).bind fun x7 =>
    (ald 0 h6 x7 v1).bind fun x8 =>
    (ast 0 h6 x7 v1 (x8 + 1)).bind fun h9 =>
    JX0_putLast_38 h9
  ) else (
    JX0_putLast_38 h
  )
theorem OX0_putLast {h : PH} {v0 : Nat} {v1 : Int} {v2 : Int} {q : PH} (hF : FX0_putLast h v0 v1 v2 = some q) : ∃ fs : List PV, h[v0]? = some (.inr (0, fs)) := by
  unfold FX0_putLast at hF
  obtain ⟨u0, e0, -⟩ := bnd hF
  exact isO_spec e0
set_option maxHeartbeats 4000000 in
set_option maxRecDepth 100000 in
theorem CX0_putLast {g : GP} {l : Launch} {ad : Nat → Nat} {h : PH} {v0 : Nat} {v1 : Int} {v2 : Int} {q : PH} (hF : FX0_putLast h v0 v1 v2 = some q) : CN g l yX0_putLast cX0_putLast 3 none rmX0_putLast ad h [.ref (ad v0), .int (Int32.ofInt v1), .int (Int32.ofInt v2)] none q := by
  refine pw_met (by decide) (Nat.le_of_ble_eq_true rfl) ?_
  intro p e s m args below meth c ls hC hN hR hl
  have hl : lv_has ls 3 [(0, .ref (ad v0)), (1, .int (Int32.ofInt v1)), (2, .int (Int32.ofInt v2))] := hl
  unfold FX0_putLast at hF
  obtain ⟨u0, e0, hF⟩ := bnd hF
  refine lv_aload_n hC.1 hC.2.1 dX0_putLast_0 rfl (lv_at hl 0 rfl) ?_
  obtain ⟨x1, e1, hF⟩ := bnd hF
  refine pw_gfr hC hR e1 flX0_25 dX0_putLast_1 ?_
  refine lv_iload_n hC.1 hC.2.1 dX0_putLast_4 rfl (lv_at hl 1 rfl) ?_
  obtain ⟨x2, e2, hF⟩ := bnd hF
  refine pw_iald hC hR e2 dX0_putLast_5 ?_
  refine pw_bipush hC dX0_putLast_6 rfl ?_
  refine pw_icmpge hC 38 dX0_putLast_8 (by decide) (fun hc => ?_) (fun hc => ?_)
  · rw [if_neg hc] at hF
    exact BX0_putLast_38 hC hR (lv_sub hl [] rfl) hF
  · rw [if_pos hc] at hF
    refine lv_aload_n hC.1 hC.2.1 dX0_putLast_11 rfl (lv_at hl 0 rfl) ?_
    obtain ⟨x3, e3, hF⟩ := bnd hF
    refine pw_gfr hC hR e3 flX0_21 dX0_putLast_12 ?_
    refine lv_iload_n hC.1 hC.2.1 dX0_putLast_15 rfl (lv_at hl 1 rfl) ?_
    refine pw_bipush hC dX0_putLast_16 rfl ?_
    refine pw_imul hC dX0_putLast_18 ?_
    refine lv_aload_n hC.1 hC.2.1 dX0_putLast_19 rfl (lv_at hl 0 rfl) ?_
    obtain ⟨x4, e4, hF⟩ := bnd hF
    refine pw_gfr hC hR e4 flX0_25 dX0_putLast_20 ?_
    refine lv_iload_n hC.1 hC.2.1 dX0_putLast_23 rfl (lv_at hl 1 rfl) ?_
    obtain ⟨x5, e5, hF⟩ := bnd hF
    refine pw_iald hC hR e5 dX0_putLast_24 ?_
    refine pw_iadd hC dX0_putLast_25 ?_
    refine lv_iload_n hC.1 hC.2.1 dX0_putLast_26 rfl (lv_at hl 2 rfl) ?_
    obtain ⟨h6, e6, hF⟩ := bnd hF
    refine pw_iast hC hR e6 dX0_putLast_27 (fun H locs hR => ?_)
    refine lv_aload_n hC.1 hC.2.1 dX0_putLast_28 rfl (lv_at hl 0 rfl) ?_
    obtain ⟨x7, e7, hF⟩ := bnd hF
    refine pw_gfr hC hR e7 flX0_25 dX0_putLast_29 ?_
    refine lv_iload_n hC.1 hC.2.1 dX0_putLast_32 rfl (lv_at hl 1 rfl) ?_
    refine lv_dup2_11 hC.1 hC.2.1 dX0_putLast_33 rfl rfl ?_
    obtain ⟨x8, e8, hF⟩ := bnd hF
    refine pw_iald hC hR e8 dX0_putLast_34 ?_
    refine pw_iconst hC dX0_putLast_35 ?_
    refine pw_iadd hC dX0_putLast_36 ?_
    obtain ⟨h9, e9, hF⟩ := bnd hF
    refine pw_iast hC hR e9 dX0_putLast_37 (fun H locs hR => ?_)
    exact BX0_putLast_38 hC hR (lv_sub hl [] rfl) hF
abbrev rmX0_takeAt : Room := { frames := 0, cells := 0, slots := 0, locals := 0 }
def JX0_takeAt_14 (h : PH) : Option (Int × PH) :=
  some ((-1), h)
set_option maxHeartbeats 4000000 in
set_option maxRecDepth 100000 in
theorem BX0_takeAt_14 {h : PH} (hC : Cx g p s m args meth c cX0_takeAt 6 RX0 (some .int)) (hR : Rl g ad h s.heap H locs) (hl : lv_has ls 6 []) {q : Int × PH} (hF : JX0_takeAt_14 h  = some q) : W p l e rmX0_takeAt s m args below meth c H locs 0 0 (MQ below (QcN g ad q.2 (some (.int (Int32.ofInt q.1)))) args s 0 0 (gA g)) (F0 m 14 ls []) := by
  unfold JX0_takeAt_14 at hF
  refine pw_iconst hC dX0_takeAt_14 ?_
  cases hF
  exact pw_iret hC hR dX0_takeAt_15
def LX0_takeAt_36 (v0 : Nat) (v1 : Int) (v3 : Int) (v4 : Int) (v5 : Int) (h : PH) : Option ((Int × PH) ⊕ (PH)) :=
  (gfr h 0 v0 4).bind fun x5 =>
  (ald 0 h x5 v1).bind fun x6 =>
  if w32 v5 < w32 x6 then (
    (gfr h 0 v0 3).bind fun x7 =>
    (gfr h 0 v0 3).bind fun x8 =>
    (ald 0 h x8 (v3 + v5)).bind fun x9 =>
    (ast 0 h x7 ((v3 + v5) - 1) x9).bind fun h10 =>
    some (.inl ((v5 + 1), h10))
  ) else (
    some (.inr h)
  )
set_option maxHeartbeats 4000000 in
set_option maxRecDepth 100000 in
theorem LRX0_takeAt_36 {v0 : Nat} {v1 : Int} {v3 : Int} {v4 : Int} {Q : State → Prop} (hC : Cx g p s m args meth c cX0_takeAt 6 RX0 (some .int)) : ∀ (n : Nat) (st : Int × PH) (ex : PH), lp (fun st : Int × PH => LX0_takeAt_36 v0 v1 v3 v4 st.1 st.2) n st = some ex → (fun ex : PH => ∀ (H : Heap) (locs : List Loc) (ls : Array Slot), Rl g ad ex s.heap H locs → lv_has ls 6 [(0, .ref (ad v0)), (1, .int (Int32.ofInt v1)), (4, .int (Int32.ofInt v4))] → W p l e rmX0_takeAt s m args below meth c H locs 0 0 Q (F0 m 73 ls [])) ex → ∀ (H : Heap) (locs : List Loc) (ls : Array Slot), Rl g ad st.2 s.heap H locs → lv_has ls 6 [(0, .ref (ad v0)), (1, .int (Int32.ofInt v1)), (3, .int (Int32.ofInt v3)), (4, .int (Int32.ofInt v4)), (5, .int (Int32.ofInt st.1))] → W p l e rmX0_takeAt s m args below meth c H locs 0 0 Q (F0 m 36 ls []) := by
  refine lp_rule (Ph := (fun st : Int × PH => ∀ (H : Heap) (locs : List Loc) (ls : Array Slot), Rl g ad st.2 s.heap H locs → lv_has ls 6 [(0, .ref (ad v0)), (1, .int (Int32.ofInt v1)), (3, .int (Int32.ofInt v3)), (4, .int (Int32.ofInt v4)), (5, .int (Int32.ofInt st.1))] → W p l e rmX0_takeAt s m args below meth c H locs 0 0 Q (F0 m 36 ls []))) (Px := (fun ex : PH => ∀ (H : Heap) (locs : List Loc) (ls : Array Slot), Rl g ad ex s.heap H locs → lv_has ls 6 [(0, .ref (ad v0)), (1, .int (Int32.ofInt v1)), (4, .int (Int32.ofInt v4))] → W p l e rmX0_takeAt s m args below meth c H locs 0 0 Q (F0 m 73 ls []))) ?_
  rintro ⟨v5, h⟩ o hF hK H locs ls hR hl
  have hR : Rl g ad h s.heap H locs := hR
  have hl : lv_has ls 6 [(0, .ref (ad v0)), (1, .int (Int32.ofInt v1)), (3, .int (Int32.ofInt v3)), (4, .int (Int32.ofInt v4)), (5, .int (Int32.ofInt v5))] := hl
  have hF : LX0_takeAt_36 v0 v1 v3 v4 v5 h = some o := hF
  unfold LX0_takeAt_36 at hF
  refine lv_iload hC.1 hC.2.1 dX0_takeAt_36 (lv_at hl 4 rfl) ?_
  refine lv_aload_n hC.1 hC.2.1 dX0_takeAt_38 rfl (lv_at hl 0 rfl) ?_
  obtain ⟨x5, e5, hF⟩ := bnd hF
  refine pw_gfr hC hR e5 flX0_25 dX0_takeAt_39 ?_
  refine lv_iload_n hC.1 hC.2.1 dX0_takeAt_42 rfl (lv_at hl 1 rfl) ?_
  obtain ⟨x6, e6, hF⟩ := bnd hF
  refine pw_iald hC hR e6 dX0_takeAt_43 ?_
  refine pw_icmpge hC 73 dX0_takeAt_44 (by decide) (fun hc => ?_) (fun hc => ?_)
  · rw [if_neg hc] at hF
    cases hF
    exact hK _ _ _ hR (lv_sub hl [0, 1, 3] rfl)
  · rw [if_pos hc] at hF
    refine lv_aload_n hC.1 hC.2.1 dX0_takeAt_47 rfl (lv_at hl 0 rfl) ?_
    obtain ⟨x7, e7, hF⟩ := bnd hF
    refine pw_gfr hC hR e7 flX0_21 dX0_takeAt_48 ?_
    refine lv_iload_n hC.1 hC.2.1 dX0_takeAt_51 rfl (lv_at hl 2 rfl) ?_
    refine lv_iload hC.1 hC.2.1 dX0_takeAt_52 (lv_at hl 4 rfl) ?_
    refine pw_iadd hC dX0_takeAt_54 ?_
    refine pw_iconst hC dX0_takeAt_55 ?_
    refine pw_isub hC dX0_takeAt_56 ?_
    refine lv_aload_n hC.1 hC.2.1 dX0_takeAt_57 rfl (lv_at hl 0 rfl) ?_
    obtain ⟨x8, e8, hF⟩ := bnd hF
    refine pw_gfr hC hR e8 flX0_21 dX0_takeAt_58 ?_
    refine lv_iload_n hC.1 hC.2.1 dX0_takeAt_61 rfl (lv_at hl 2 rfl) ?_
    refine lv_iload hC.1 hC.2.1 dX0_takeAt_62 (lv_at hl 4 rfl) ?_
    refine pw_iadd hC dX0_takeAt_64 ?_
    obtain ⟨x9, e9, hF⟩ := bnd hF
    refine pw_iald hC hR e9 dX0_takeAt_65 ?_
    obtain ⟨h10, e10, hF⟩ := bnd hF
    refine pw_iast hC hR e10 dX0_takeAt_66 (fun H locs hR => ?_)
    refine pw_iinc (lv' := [(5, .int (Int32.ofInt (v5 + 1))), (0, .ref (ad v0)), (1, .int (Int32.ofInt v1)), (3, .int (Int32.ofInt v3)), (4, .int (Int32.ofInt v4))]) hC hl 4 dX0_takeAt_67 rfl (by decide) rfl (fun ls hl => ?_)
    refine pw_goto hC 36 dX0_takeAt_70 (by decide) ?_
    cases hF
    exact hK _ _ _ hR (lv_sub hl [1, 2, 3, 4, 0] rfl)
def FX0_takeAt (h : PH) (v0 : Nat) (v1 : Int) (v2 : Int) : Option (Int × PH) :=
  (isO h 0 v0).bind fun _ =>
  if w32 v2 < 0 then (
    JX0_takeAt_14 h
  ) else (
    (gfr h 0 v0 4).bind fun x1 =>
    (ald 0 h x1 v1).bind fun x2 =>
    if w32 v2 < w32 x2 then (
      (gfr h 0 v0 3).bind fun x3 =>
      (ald 0 h x3 ((v1 * 8) + v2)).bind fun x4 =>
      (lp (fun st : Int × PH => LX0_takeAt_36 v0 v1 (v1 * 8) x4 st.1 st.2) FU ((v2 + 1), h)).bind fun ex11 =>
      (gfr ex11 0 v0 4).bind fun x12 =>
      (ald 0 ex11 x12 v1).bind fun x13 =>
      (ast 0 ex11 x12 v1 (x13 - 1)).bind fun h14 =>
      some (x4, h14)
    ) else (
      JX0_takeAt_14 h
    )
  )
theorem OX0_takeAt {h : PH} {v0 : Nat} {v1 : Int} {v2 : Int} {q : Int × PH} (hF : FX0_takeAt h v0 v1 v2 = some q) : ∃ fs : List PV, h[v0]? = some (.inr (0, fs)) := by
  unfold FX0_takeAt at hF
  obtain ⟨u0, e0, -⟩ := bnd hF
  exact isO_spec e0
set_option maxHeartbeats 4000000 in
set_option maxRecDepth 100000 in
theorem CX0_takeAt {g : GP} {l : Launch} {ad : Nat → Nat} {h : PH} {v0 : Nat} {v1 : Int} {v2 : Int} {q : Int × PH} (hF : FX0_takeAt h v0 v1 v2 = some q) : CN g l yX0_takeAt cX0_takeAt 6 (some .int) rmX0_takeAt ad h [.ref (ad v0), .int (Int32.ofInt v1), .int (Int32.ofInt v2)] (some (.int (Int32.ofInt q.1))) q.2 := by
  refine pw_met (by decide) (Nat.le_of_ble_eq_true rfl) ?_
  intro p e s m args below meth c ls hC hN hR hl
  have hl : lv_has ls 6 [(0, .ref (ad v0)), (1, .int (Int32.ofInt v1)), (2, .int (Int32.ofInt v2))] := hl
  unfold FX0_takeAt at hF
  obtain ⟨u0, e0, hF⟩ := bnd hF
  refine lv_iload_n hC.1 hC.2.1 dX0_takeAt_0 rfl (lv_at hl 2 rfl) ?_
  refine pw_iflt hC 14 dX0_takeAt_1 (by decide) (fun hc => ?_) (fun hc => ?_)
  · rw [if_pos hc] at hF
    exact BX0_takeAt_14 hC hR (lv_sub hl [] rfl) hF
  · rw [if_neg hc] at hF
    refine lv_iload_n hC.1 hC.2.1 dX0_takeAt_4 rfl (lv_at hl 2 rfl) ?_
    refine lv_aload_n hC.1 hC.2.1 dX0_takeAt_5 rfl (lv_at hl 0 rfl) ?_
    obtain ⟨x1, e1, hF⟩ := bnd hF
    refine pw_gfr hC hR e1 flX0_25 dX0_takeAt_6 ?_
    refine lv_iload_n hC.1 hC.2.1 dX0_takeAt_9 rfl (lv_at hl 1 rfl) ?_
    obtain ⟨x2, e2, hF⟩ := bnd hF
    refine pw_iald hC hR e2 dX0_takeAt_10 ?_
    refine pw_icmplt hC 16 dX0_takeAt_11 (by decide) (fun hc => ?_) (fun hc => ?_)
    · rw [if_pos hc] at hF
      refine lv_iload_n hC.1 hC.2.1 dX0_takeAt_16 rfl (lv_at hl 1 rfl) ?_
      refine pw_bipush hC dX0_takeAt_17 rfl ?_
      refine pw_imul hC dX0_takeAt_19 ?_
      refine lv_istore_n (lv' := [(3, .int (Int32.ofInt (v1 * 8))), (0, .ref (ad v0)), (1, .int (Int32.ofInt v1)), (2, .int (Int32.ofInt v2))]) hC.1 hC.2.1 dX0_takeAt_20 rfl hl (by decide) rfl (fun ls hl => ?_)
      refine lv_aload_n hC.1 hC.2.1 dX0_takeAt_21 rfl (lv_at hl 1 rfl) ?_
      obtain ⟨x3, e3, hF⟩ := bnd hF
      refine pw_gfr hC hR e3 flX0_21 dX0_takeAt_22 ?_
      refine lv_iload_n hC.1 hC.2.1 dX0_takeAt_25 rfl (lv_at hl 0 rfl) ?_
      refine lv_iload_n hC.1 hC.2.1 dX0_takeAt_26 rfl (lv_at hl 3 rfl) ?_
      refine pw_iadd hC dX0_takeAt_27 ?_
      obtain ⟨x4, e4, hF⟩ := bnd hF
      refine pw_iald hC hR e4 dX0_takeAt_28 ?_
      refine lv_istore (lv' := [(4, .int (Int32.ofInt x4)), (3, .int (Int32.ofInt (v1 * 8))), (0, .ref (ad v0)), (1, .int (Int32.ofInt v1)), (2, .int (Int32.ofInt v2))]) hC.1 hC.2.1 dX0_takeAt_29 hl (by decide) rfl (fun ls hl => ?_)
      refine lv_iload_n hC.1 hC.2.1 dX0_takeAt_31 rfl (lv_at hl 4 rfl) ?_
      refine pw_iconst hC dX0_takeAt_32 ?_
      refine pw_iadd hC dX0_takeAt_33 ?_
      refine lv_istore (lv' := [(5, .int (Int32.ofInt (v2 + 1))), (4, .int (Int32.ofInt x4)), (3, .int (Int32.ofInt (v1 * 8))), (0, .ref (ad v0)), (1, .int (Int32.ofInt v1)), (2, .int (Int32.ofInt v2))]) hC.1 hC.2.1 dX0_takeAt_34 hl (by decide) rfl (fun ls hl => ?_)
      obtain ⟨ex11, e11, hF⟩ := bnd hF
      refine LRX0_takeAt_36 hC FU _ ex11 e11 ?_ _ _ _ hR (lv_sub hl [3, 4, 2, 1, 0] rfl)
      intro H locs ls hR hl
      refine lv_aload_n hC.1 hC.2.1 dX0_takeAt_73 rfl (lv_at hl 0 rfl) ?_
      obtain ⟨x12, e12, hF⟩ := bnd hF
      refine pw_gfr hC hR e12 flX0_25 dX0_takeAt_74 ?_
      refine lv_iload_n hC.1 hC.2.1 dX0_takeAt_77 rfl (lv_at hl 1 rfl) ?_
      refine lv_dup2_11 hC.1 hC.2.1 dX0_takeAt_78 rfl rfl ?_
      obtain ⟨x13, e13, hF⟩ := bnd hF
      refine pw_iald hC hR e13 dX0_takeAt_79 ?_
      refine pw_iconst hC dX0_takeAt_80 ?_
      refine pw_isub hC dX0_takeAt_81 ?_
      obtain ⟨h14, e14, hF⟩ := bnd hF
      refine pw_iast hC hR e14 dX0_takeAt_82 (fun H locs hR => ?_)
      refine lv_iload hC.1 hC.2.1 dX0_takeAt_83 (lv_at hl 2 rfl) ?_
      cases hF
      exact pw_iret hC hR dX0_takeAt_85
    · rw [if_neg hc] at hF
      exact BX0_takeAt_14 hC hR (lv_sub hl [] rfl) hF
abbrev rmX0_removeFromQueues : Room := { frames := 1, cells := 0, slots := 0, locals := 25 }
def JX0_removeFromQueues_45 (h : PH) (v0 : Nat) (v1 : Int) (v2 : Int) (v3 : Int) : Option ((Int × PH) ⊕ (PH)) :=
  some (.inl ((v3 + -1), h))
set_option maxHeartbeats 4000000 in
set_option maxRecDepth 100000 in
theorem BX0_removeFromQueues_45 {h : PH} {v0 : Nat} {v1 : Int} {v2 : Int} {v3 : Int} (hC : Cx g p s m args meth c cX0_removeFromQueues 4 RX0 none) (hR : Rl g ad h s.heap H locs) (hl : lv_has ls 4 [(0, .ref (ad v0)), (1, .int (Int32.ofInt v1)), (2, .int (Int32.ofInt v2)), (3, .int (Int32.ofInt v3))]) {Q : State → Prop} {o : (Int × PH) ⊕ (PH)} (hF : JX0_removeFromQueues_45 h v0 v1 v2 v3 = some o) (hK : Sum.elim (fun st : Int × PH => ∀ (H : Heap) (locs : List Loc) (ls : Array Slot), Rl g ad st.2 s.heap H locs → lv_has ls 4 [(0, .ref (ad v0)), (1, .int (Int32.ofInt v1)), (2, .int (Int32.ofInt v2)), (3, .int (Int32.ofInt st.1))] → W p l e rmX0_removeFromQueues s m args below meth c H locs 0 0 Q (F0 m 19 ls [])) (fun ex : PH => ∀ (H : Heap) (locs : List Loc) (ls : Array Slot), Rl g ad ex s.heap H locs → lv_has ls 4 [(0, .ref (ad v0)), (1, .int (Int32.ofInt v1)), (2, .int (Int32.ofInt v2))] → W p l e rmX0_removeFromQueues s m args below meth c H locs 0 0 Q (F0 m 51 ls [])) o) : W p l e rmX0_removeFromQueues s m args below meth c H locs 0 0 Q (F0 m 45 ls []) := by
  unfold JX0_removeFromQueues_45 at hF
  refine pw_iinc (lv' := [(3, .int (Int32.ofInt (v3 + -1))), (0, .ref (ad v0)), (1, .int (Int32.ofInt v1)), (2, .int (Int32.ofInt v2))]) hC hl 3 dX0_removeFromQueues_45 rfl (by decide) rfl (fun ls hl => ?_)
  refine pw_goto hC 19 dX0_removeFromQueues_48 (by decide) ?_
  cases hF
  exact hK _ _ _ hR (lv_sub hl [1, 2, 3, 0] rfl)
def LX0_removeFromQueues_19 (v0 : Nat) (v1 : Int) (v2 : Int) (v3 : Int) (h : PH) : Option ((Int × PH) ⊕ (PH)) :=
  if w32 v3 < 0 then (
    some (.inr h)
  ) else (
    (gfr h 0 v0 3).bind fun x4 =>
    (ald 0 h x4 ((v2 * 8) + v3)).bind fun x5 =>
    if w32 x5 = w32 v1 then (
      (FX0_takeAt h v0 v2 v3).bind fun q6 =>
      JX0_removeFromQueues_45 q6.2 v0 v1 v2 v3
    ) else (
      JX0_removeFromQueues_45 h v0 v1 v2 v3
    )
  )
set_option maxHeartbeats 4000000 in
set_option maxRecDepth 100000 in
theorem LRX0_removeFromQueues_19 {v0 : Nat} {v1 : Int} {v2 : Int} {Q : State → Prop} (hC : Cx g p s m args meth c cX0_removeFromQueues 4 RX0 none) : ∀ (n : Nat) (st : Int × PH) (ex : PH), lp (fun st : Int × PH => LX0_removeFromQueues_19 v0 v1 v2 st.1 st.2) n st = some ex → (fun ex : PH => ∀ (H : Heap) (locs : List Loc) (ls : Array Slot), Rl g ad ex s.heap H locs → lv_has ls 4 [(0, .ref (ad v0)), (1, .int (Int32.ofInt v1)), (2, .int (Int32.ofInt v2))] → W p l e rmX0_removeFromQueues s m args below meth c H locs 0 0 Q (F0 m 51 ls [])) ex → ∀ (H : Heap) (locs : List Loc) (ls : Array Slot), Rl g ad st.2 s.heap H locs → lv_has ls 4 [(0, .ref (ad v0)), (1, .int (Int32.ofInt v1)), (2, .int (Int32.ofInt v2)), (3, .int (Int32.ofInt st.1))] → W p l e rmX0_removeFromQueues s m args below meth c H locs 0 0 Q (F0 m 19 ls []) := by
  refine lp_rule (Ph := (fun st : Int × PH => ∀ (H : Heap) (locs : List Loc) (ls : Array Slot), Rl g ad st.2 s.heap H locs → lv_has ls 4 [(0, .ref (ad v0)), (1, .int (Int32.ofInt v1)), (2, .int (Int32.ofInt v2)), (3, .int (Int32.ofInt st.1))] → W p l e rmX0_removeFromQueues s m args below meth c H locs 0 0 Q (F0 m 19 ls []))) (Px := (fun ex : PH => ∀ (H : Heap) (locs : List Loc) (ls : Array Slot), Rl g ad ex s.heap H locs → lv_has ls 4 [(0, .ref (ad v0)), (1, .int (Int32.ofInt v1)), (2, .int (Int32.ofInt v2))] → W p l e rmX0_removeFromQueues s m args below meth c H locs 0 0 Q (F0 m 51 ls []))) ?_
  rintro ⟨v3, h⟩ o hF hK H locs ls hR hl
  have hR : Rl g ad h s.heap H locs := hR
  have hl : lv_has ls 4 [(0, .ref (ad v0)), (1, .int (Int32.ofInt v1)), (2, .int (Int32.ofInt v2)), (3, .int (Int32.ofInt v3))] := hl
  have hF : LX0_removeFromQueues_19 v0 v1 v2 v3 h = some o := hF
  unfold LX0_removeFromQueues_19 at hF
  refine lv_iload_n hC.1 hC.2.1 dX0_removeFromQueues_19 rfl (lv_at hl 3 rfl) ?_
  refine pw_iflt hC 51 dX0_removeFromQueues_20 (by decide) (fun hc => ?_) (fun hc => ?_)
  · rw [if_pos hc] at hF
    cases hF
    exact hK _ _ _ hR (lv_sub hl [0, 1, 2] rfl)
  · rw [if_neg hc] at hF
    refine lv_aload_n hC.1 hC.2.1 dX0_removeFromQueues_23 rfl (lv_at hl 0 rfl) ?_
    obtain ⟨x4, e4, hF⟩ := bnd hF
    refine pw_gfr hC hR e4 flX0_21 dX0_removeFromQueues_24 ?_
    refine lv_iload_n hC.1 hC.2.1 dX0_removeFromQueues_27 rfl (lv_at hl 2 rfl) ?_
    refine pw_bipush hC dX0_removeFromQueues_28 rfl ?_
    refine pw_imul hC dX0_removeFromQueues_30 ?_
    refine lv_iload_n hC.1 hC.2.1 dX0_removeFromQueues_31 rfl (lv_at hl 3 rfl) ?_
    refine pw_iadd hC dX0_removeFromQueues_32 ?_
    obtain ⟨x5, e5, hF⟩ := bnd hF
    refine pw_iald hC hR e5 dX0_removeFromQueues_33 ?_
    refine lv_iload_n hC.1 hC.2.1 dX0_removeFromQueues_34 rfl (lv_at hl 1 rfl) ?_
    refine pw_icmpne hC 45 dX0_removeFromQueues_35 (by decide) (fun hc => ?_) (fun hc => ?_)
    · rw [if_neg hc] at hF
      exact BX0_removeFromQueues_45 hC hR (lv_sub hl [0, 1, 2, 3] rfl) hF hK
    · rw [if_pos hc] at hF
      refine lv_aload_n hC.1 hC.2.1 dX0_removeFromQueues_38 rfl (lv_at hl 0 rfl) ?_
      refine lv_iload_n hC.1 hC.2.1 dX0_removeFromQueues_39 rfl (lv_at hl 2 rfl) ?_
      refine lv_iload_n hC.1 hC.2.1 dX0_removeFromQueues_40 rfl (lv_at hl 3 rfl) ?_
      obtain ⟨q6, e6, hF⟩ := bnd hF
      obtain ⟨fs6, ho6⟩ := OX0_takeAt e6
      refine pw_cVi (rest := []) hC hR lvX0_56 ho6 (CX0_takeAt e6) ⟨rfl, rfl⟩ rfl hl.1 rfl ⟨Nat.le_of_ble_eq_true rfl, Nat.le_of_ble_eq_true rfl⟩ (Nat.le_of_ble_eq_true rfl) dX0_removeFromQueues_41 ⟨Nat.zero_le _, Nat.zero_le _⟩ (fun H locs hR => ?_)
      refine lv_pop hC.1 hC.2.1 dX0_removeFromQueues_44 rfl ?_
      exact BX0_removeFromQueues_45 hC hR (lv_sub hl [0, 1, 2, 3] rfl) hF hK
def LX0_removeFromQueues_2 (v0 : Nat) (v1 : Int) (v2 : Int) (h : PH) : Option ((Int × PH) ⊕ (PH)) :=
  (gfi h 0 v0 0).bind fun x1 =>
  if w32 v2 < w32 x1 then (
    (gfr h 0 v0 4).bind fun x2 =>
    (ald 0 h x2 v2).bind fun x3 =>
    (lp (fun st : Int × PH => LX0_removeFromQueues_19 v0 v1 v2 st.1 st.2) FU ((x3 - 1), h)).bind fun ex7 =>
    some (.inl ((v2 + 1), ex7))
  ) else (
    some (.inr h)
  )
set_option maxHeartbeats 4000000 in
set_option maxRecDepth 100000 in
theorem LRX0_removeFromQueues_2 {v0 : Nat} {v1 : Int} {Q : State → Prop} (hC : Cx g p s m args meth c cX0_removeFromQueues 4 RX0 none) : ∀ (n : Nat) (st : Int × PH) (ex : PH), lp (fun st : Int × PH => LX0_removeFromQueues_2 v0 v1 st.1 st.2) n st = some ex → (fun ex : PH => ∀ (H : Heap) (locs : List Loc) (ls : Array Slot), Rl g ad ex s.heap H locs → lv_has ls 4 [] → W p l e rmX0_removeFromQueues s m args below meth c H locs 0 0 Q (F0 m 57 ls [])) ex → ∀ (H : Heap) (locs : List Loc) (ls : Array Slot), Rl g ad st.2 s.heap H locs → lv_has ls 4 [(0, .ref (ad v0)), (1, .int (Int32.ofInt v1)), (2, .int (Int32.ofInt st.1))] → W p l e rmX0_removeFromQueues s m args below meth c H locs 0 0 Q (F0 m 2 ls []) := by
  refine lp_rule (Ph := (fun st : Int × PH => ∀ (H : Heap) (locs : List Loc) (ls : Array Slot), Rl g ad st.2 s.heap H locs → lv_has ls 4 [(0, .ref (ad v0)), (1, .int (Int32.ofInt v1)), (2, .int (Int32.ofInt st.1))] → W p l e rmX0_removeFromQueues s m args below meth c H locs 0 0 Q (F0 m 2 ls []))) (Px := (fun ex : PH => ∀ (H : Heap) (locs : List Loc) (ls : Array Slot), Rl g ad ex s.heap H locs → lv_has ls 4 [] → W p l e rmX0_removeFromQueues s m args below meth c H locs 0 0 Q (F0 m 57 ls []))) ?_
  rintro ⟨v2, h⟩ o hF hK H locs ls hR hl
  have hR : Rl g ad h s.heap H locs := hR
  have hl : lv_has ls 4 [(0, .ref (ad v0)), (1, .int (Int32.ofInt v1)), (2, .int (Int32.ofInt v2))] := hl
  have hF : LX0_removeFromQueues_2 v0 v1 v2 h = some o := hF
  unfold LX0_removeFromQueues_2 at hF
  refine lv_iload_n hC.1 hC.2.1 dX0_removeFromQueues_2 rfl (lv_at hl 2 rfl) ?_
  refine lv_aload_n hC.1 hC.2.1 dX0_removeFromQueues_3 rfl (lv_at hl 0 rfl) ?_
  obtain ⟨x1, e1, hF⟩ := bnd hF
  refine pw_gfi hC hR e1 flX0_9 dX0_removeFromQueues_4 ?_
  refine pw_icmpge hC 57 dX0_removeFromQueues_7 (by decide) (fun hc => ?_) (fun hc => ?_)
  · rw [if_neg hc] at hF
    cases hF
    exact hK _ _ _ hR (lv_sub hl [] rfl)
  · rw [if_pos hc] at hF
    refine lv_aload_n hC.1 hC.2.1 dX0_removeFromQueues_10 rfl (lv_at hl 0 rfl) ?_
    obtain ⟨x2, e2, hF⟩ := bnd hF
    refine pw_gfr hC hR e2 flX0_25 dX0_removeFromQueues_11 ?_
    refine lv_iload_n hC.1 hC.2.1 dX0_removeFromQueues_14 rfl (lv_at hl 2 rfl) ?_
    obtain ⟨x3, e3, hF⟩ := bnd hF
    refine pw_iald hC hR e3 dX0_removeFromQueues_15 ?_
    refine pw_iconst hC dX0_removeFromQueues_16 ?_
    refine pw_isub hC dX0_removeFromQueues_17 ?_
    refine lv_istore_n (lv' := [(3, .int (Int32.ofInt (x3 - 1))), (0, .ref (ad v0)), (1, .int (Int32.ofInt v1)), (2, .int (Int32.ofInt v2))]) hC.1 hC.2.1 dX0_removeFromQueues_18 rfl hl (by decide) rfl (fun ls hl => ?_)
    obtain ⟨ex7, e7, hF⟩ := bnd hF
    refine LRX0_removeFromQueues_19 hC FU _ ex7 e7 ?_ _ _ _ hR (lv_sub hl [1, 2, 3, 0] rfl)
    intro H locs ls hR hl
    refine pw_iinc (lv' := [(2, .int (Int32.ofInt (v2 + 1))), (0, .ref (ad v0)), (1, .int (Int32.ofInt v1))]) hC hl 2 dX0_removeFromQueues_51 rfl (by decide) rfl (fun ls hl => ?_)
    refine pw_goto hC 2 dX0_removeFromQueues_54 (by decide) ?_
    cases hF
    exact hK _ _ _ hR (lv_sub hl [1, 2, 0] rfl)
def FX0_removeFromQueues (h : PH) (v0 : Nat) (v1 : Int) : Option (PH) :=
  (isO h 0 v0).bind fun _ =>
  (lp (fun st : Int × PH => LX0_removeFromQueues_2 v0 v1 st.1 st.2) FU (0, h)).bind fun ex8 =>
  some ex8
theorem OX0_removeFromQueues {h : PH} {v0 : Nat} {v1 : Int} {q : PH} (hF : FX0_removeFromQueues h v0 v1 = some q) : ∃ fs : List PV, h[v0]? = some (.inr (0, fs)) := by
  unfold FX0_removeFromQueues at hF
  obtain ⟨u0, e0, -⟩ := bnd hF
  exact isO_spec e0
set_option maxHeartbeats 4000000 in
set_option maxRecDepth 100000 in
theorem CX0_removeFromQueues {g : GP} {l : Launch} {ad : Nat → Nat} {h : PH} {v0 : Nat} {v1 : Int} {q : PH} (hF : FX0_removeFromQueues h v0 v1 = some q) : CN g l yX0_removeFromQueues cX0_removeFromQueues 4 none rmX0_removeFromQueues ad h [.ref (ad v0), .int (Int32.ofInt v1)] none q := by
  refine pw_met (by decide) (Nat.le_of_ble_eq_true rfl) ?_
  intro p e s m args below meth c ls hC hN hR hl
  have hl : lv_has ls 4 [(0, .ref (ad v0)), (1, .int (Int32.ofInt v1))] := hl
  unfold FX0_removeFromQueues at hF
  obtain ⟨u0, e0, hF⟩ := bnd hF
  refine pw_iconst hC dX0_removeFromQueues_0 ?_
  refine lv_istore_n (lv' := [(2, .int (Int32.ofInt 0)), (0, .ref (ad v0)), (1, .int (Int32.ofInt v1))]) hC.1 hC.2.1 dX0_removeFromQueues_1 rfl hl (by decide) rfl (fun ls hl => ?_)
  obtain ⟨ex8, e8, hF⟩ := bnd hF
  refine LRX0_removeFromQueues_2 hC FU _ ex8 e8 ?_ _ _ _ hR (lv_sub hl [1, 2, 0] rfl)
  intro H locs ls hR hl
  cases hF
  exact pw_vret hC hR dX0_removeFromQueues_57
abbrev rmX0_longestQueue : Room := { frames := 0, cells := 0, slots := 0, locals := 0 }
def JX0_longestQueue_29 (h : PH) (v0 : Nat) (v1 : Int) (v2 : Int) : Option ((Int × Int) ⊕ (Int)) :=
  some (.inl (v1, (v2 + 1)))
set_option maxHeartbeats 4000000 in
set_option maxRecDepth 100000 in
theorem BX0_longestQueue_29 {h : PH} {v0 : Nat} {v1 : Int} {v2 : Int} (hC : Cx g p s m args meth c cX0_longestQueue 3 RX0 (some .int)) (hR : Rl g ad h s.heap H locs) (hl : lv_has ls 3 [(0, .ref (ad v0)), (1, .int (Int32.ofInt v1)), (2, .int (Int32.ofInt v2))]) {Q : State → Prop} {o : (Int × Int) ⊕ (Int)} (hF : JX0_longestQueue_29 h v0 v1 v2 = some o) (hK : Sum.elim (fun st : Int × Int => ∀ (H : Heap) (locs : List Loc) (ls : Array Slot), Rl g ad h s.heap H locs → lv_has ls 3 [(0, .ref (ad v0)), (1, .int (Int32.ofInt st.1)), (2, .int (Int32.ofInt st.2))] → W p l e rmX0_longestQueue s m args below meth c H locs 0 0 Q (F0 m 4 ls [])) (fun ex : Int => ∀ (H : Heap) (locs : List Loc) (ls : Array Slot), Rl g ad h s.heap H locs → lv_has ls 3 [(1, .int (Int32.ofInt ex))] → W p l e rmX0_longestQueue s m args below meth c H locs 0 0 Q (F0 m 35 ls [])) o) : W p l e rmX0_longestQueue s m args below meth c H locs 0 0 Q (F0 m 29 ls []) := by
  unfold JX0_longestQueue_29 at hF
  refine pw_iinc (lv' := [(2, .int (Int32.ofInt (v2 + 1))), (0, .ref (ad v0)), (1, .int (Int32.ofInt v1))]) hC hl 2 dX0_longestQueue_29 rfl (by decide) rfl (fun ls hl => ?_)
  refine pw_goto hC 4 dX0_longestQueue_32 (by decide) ?_
  cases hF
  exact hK _ _ _ hR (lv_sub hl [1, 2, 0] rfl)
def LX0_longestQueue_4 (h : PH) (v0 : Nat) (v1 : Int) (v2 : Int) : Option ((Int × Int) ⊕ (Int)) :=
  (gfi h 0 v0 0).bind fun x1 =>
  if w32 v2 < w32 x1 then (
    (gfr h 0 v0 4).bind fun x2 =>
    (ald 0 h x2 v2).bind fun x3 =>
    (gfr h 0 v0 4).bind fun x4 =>
    (ald 0 h x4 v1).bind fun x5 =>
    if w32 x5 < w32 x3 then (
      JX0_longestQueue_29 h v0 v2 v2
    ) else (
      JX0_longestQueue_29 h v0 v1 v2
    )
  ) else (
    some (.inr v1)
  )
set_option maxHeartbeats 4000000 in
set_option maxRecDepth 100000 in
theorem LRX0_longestQueue_4 {h : PH} {v0 : Nat} {Q : State → Prop} (hC : Cx g p s m args meth c cX0_longestQueue 3 RX0 (some .int)) : ∀ (n : Nat) (st : Int × Int) (ex : Int), lp (fun st : Int × Int => LX0_longestQueue_4 h v0 st.1 st.2) n st = some ex → (fun ex : Int => ∀ (H : Heap) (locs : List Loc) (ls : Array Slot), Rl g ad h s.heap H locs → lv_has ls 3 [(1, .int (Int32.ofInt ex))] → W p l e rmX0_longestQueue s m args below meth c H locs 0 0 Q (F0 m 35 ls [])) ex → ∀ (H : Heap) (locs : List Loc) (ls : Array Slot), Rl g ad h s.heap H locs → lv_has ls 3 [(0, .ref (ad v0)), (1, .int (Int32.ofInt st.1)), (2, .int (Int32.ofInt st.2))] → W p l e rmX0_longestQueue s m args below meth c H locs 0 0 Q (F0 m 4 ls []) := by
  refine lp_rule (Ph := (fun st : Int × Int => ∀ (H : Heap) (locs : List Loc) (ls : Array Slot), Rl g ad h s.heap H locs → lv_has ls 3 [(0, .ref (ad v0)), (1, .int (Int32.ofInt st.1)), (2, .int (Int32.ofInt st.2))] → W p l e rmX0_longestQueue s m args below meth c H locs 0 0 Q (F0 m 4 ls []))) (Px := (fun ex : Int => ∀ (H : Heap) (locs : List Loc) (ls : Array Slot), Rl g ad h s.heap H locs → lv_has ls 3 [(1, .int (Int32.ofInt ex))] → W p l e rmX0_longestQueue s m args below meth c H locs 0 0 Q (F0 m 35 ls []))) ?_
  rintro ⟨v1, v2⟩ o hF hK H locs ls hR hl
  have hR : Rl g ad h s.heap H locs := hR
  have hl : lv_has ls 3 [(0, .ref (ad v0)), (1, .int (Int32.ofInt v1)), (2, .int (Int32.ofInt v2))] := hl
  have hF : LX0_longestQueue_4 h v0 v1 v2 = some o := hF
  unfold LX0_longestQueue_4 at hF
  refine lv_iload_n hC.1 hC.2.1 dX0_longestQueue_4 rfl (lv_at hl 2 rfl) ?_
  refine lv_aload_n hC.1 hC.2.1 dX0_longestQueue_5 rfl (lv_at hl 0 rfl) ?_
  obtain ⟨x1, e1, hF⟩ := bnd hF
  refine pw_gfi hC hR e1 flX0_9 dX0_longestQueue_6 ?_
  refine pw_icmpge hC 35 dX0_longestQueue_9 (by decide) (fun hc => ?_) (fun hc => ?_)
  · rw [if_neg hc] at hF
    cases hF
    exact hK _ _ _ hR (lv_sub hl [1] rfl)
  · rw [if_pos hc] at hF
    refine lv_aload_n hC.1 hC.2.1 dX0_longestQueue_12 rfl (lv_at hl 0 rfl) ?_
    obtain ⟨x2, e2, hF⟩ := bnd hF
    refine pw_gfr hC hR e2 flX0_25 dX0_longestQueue_13 ?_
    refine lv_iload_n hC.1 hC.2.1 dX0_longestQueue_16 rfl (lv_at hl 2 rfl) ?_
    obtain ⟨x3, e3, hF⟩ := bnd hF
    refine pw_iald hC hR e3 dX0_longestQueue_17 ?_
    refine lv_aload_n hC.1 hC.2.1 dX0_longestQueue_18 rfl (lv_at hl 0 rfl) ?_
    obtain ⟨x4, e4, hF⟩ := bnd hF
    refine pw_gfr hC hR e4 flX0_25 dX0_longestQueue_19 ?_
    refine lv_iload_n hC.1 hC.2.1 dX0_longestQueue_22 rfl (lv_at hl 1 rfl) ?_
    obtain ⟨x5, e5, hF⟩ := bnd hF
    refine pw_iald hC hR e5 dX0_longestQueue_23 ?_
    refine pw_icmple hC 29 dX0_longestQueue_24 (by decide) (fun hc => ?_) (fun hc => ?_)
    · rw [if_neg hc] at hF
      exact BX0_longestQueue_29 hC hR (lv_sub hl [0, 1, 2] rfl) hF hK
    · rw [if_pos hc] at hF
      refine lv_iload_n hC.1 hC.2.1 dX0_longestQueue_27 rfl (lv_at hl 2 rfl) ?_
      refine lv_istore_n (lv' := [(1, .int (Int32.ofInt v2)), (0, .ref (ad v0)), (2, .int (Int32.ofInt v2))]) hC.1 hC.2.1 dX0_longestQueue_28 rfl hl (by decide) rfl (fun ls hl => ?_)
      exact BX0_longestQueue_29 hC hR (lv_sub hl [1, 0, 2] rfl) hF hK
def FX0_longestQueue (h : PH) (v0 : Nat) : Option (Int) :=
  (isO h 0 v0).bind fun _ =>
  (lp (fun st : Int × Int => LX0_longestQueue_4 h v0 st.1 st.2) FU (0, 1)).bind fun ex6 =>
  some ex6
theorem OX0_longestQueue {h : PH} {v0 : Nat} {q : Int} (hF : FX0_longestQueue h v0 = some q) : ∃ fs : List PV, h[v0]? = some (.inr (0, fs)) := by
  unfold FX0_longestQueue at hF
  obtain ⟨u0, e0, -⟩ := bnd hF
  exact isO_spec e0
set_option maxHeartbeats 4000000 in
set_option maxRecDepth 100000 in
theorem CX0_longestQueue {g : GP} {l : Launch} {ad : Nat → Nat} {h : PH} {v0 : Nat} {q : Int} (hF : FX0_longestQueue h v0 = some q) : CN g l yX0_longestQueue cX0_longestQueue 3 (some .int) rmX0_longestQueue ad h [.ref (ad v0)] (some (.int (Int32.ofInt q))) h := by
  refine pw_met (by decide) (Nat.le_of_ble_eq_true rfl) ?_
  intro p e s m args below meth c ls hC hN hR hl
  have hl : lv_has ls 3 [(0, .ref (ad v0))] := hl
  unfold FX0_longestQueue at hF
  obtain ⟨u0, e0, hF⟩ := bnd hF
  refine pw_iconst hC dX0_longestQueue_0 ?_
  refine lv_istore_n (lv' := [(1, .int (Int32.ofInt 0)), (0, .ref (ad v0))]) hC.1 hC.2.1 dX0_longestQueue_1 rfl hl (by decide) rfl (fun ls hl => ?_)
  refine pw_iconst hC dX0_longestQueue_2 ?_
  refine lv_istore_n (lv' := [(2, .int (Int32.ofInt 1)), (1, .int (Int32.ofInt 0)), (0, .ref (ad v0))]) hC.1 hC.2.1 dX0_longestQueue_3 rfl hl (by decide) rfl (fun ls hl => ?_)
  obtain ⟨ex6, e6, hF⟩ := bnd hF
  refine LRX0_longestQueue_4 hC FU _ ex6 e6 ?_ _ _ _ hR (lv_sub hl [2, 1, 0] rfl)
  intro H locs ls hR hl
  refine lv_iload_n hC.1 hC.2.1 dX0_longestQueue_35 rfl (lv_at hl 0 rfl) ?_
  cases hF
  exact pw_iret hC hR dX0_longestQueue_36
abbrev rmX0_countBusy : Room := { frames := 0, cells := 0, slots := 0, locals := 0 }
def JX0_countBusy_29 (h : PH) (v0 : Nat) (v1 : Int) : Option ((Int × PH) ⊕ (PH)) :=
  some (.inl ((v1 + 1), h))
set_option maxHeartbeats 4000000 in
set_option maxRecDepth 100000 in
theorem BX0_countBusy_29 {h : PH} {v0 : Nat} {v1 : Int} (hC : Cx g p s m args meth c cX0_countBusy 2 RX0 none) (hR : Rl g ad h s.heap H locs) (hl : lv_has ls 2 [(0, .ref (ad v0)), (1, .int (Int32.ofInt v1))]) {Q : State → Prop} {o : (Int × PH) ⊕ (PH)} (hF : JX0_countBusy_29 h v0 v1 = some o) (hK : Sum.elim (fun st : Int × PH => ∀ (H : Heap) (locs : List Loc) (ls : Array Slot), Rl g ad st.2 s.heap H locs → lv_has ls 2 [(0, .ref (ad v0)), (1, .int (Int32.ofInt st.1))] → W p l e rmX0_countBusy s m args below meth c H locs 0 0 Q (F0 m 2 ls [])) (fun ex : PH => ∀ (H : Heap) (locs : List Loc) (ls : Array Slot), Rl g ad ex s.heap H locs → lv_has ls 2 [] → W p l e rmX0_countBusy s m args below meth c H locs 0 0 Q (F0 m 35 ls [])) o) : W p l e rmX0_countBusy s m args below meth c H locs 0 0 Q (F0 m 29 ls []) := by
  unfold JX0_countBusy_29 at hF
  refine pw_iinc (lv' := [(1, .int (Int32.ofInt (v1 + 1))), (0, .ref (ad v0))]) hC hl 1 dX0_countBusy_29 rfl (by decide) rfl (fun ls hl => ?_)
  refine pw_goto hC 2 dX0_countBusy_32 (by decide) ?_
  cases hF
  exact hK _ _ _ hR (lv_sub hl [1, 0] rfl)
def LX0_countBusy_2 (v0 : Nat) (v1 : Int) (h : PH) : Option ((Int × PH) ⊕ (PH)) :=
  (gfi h 0 v0 0).bind fun x1 =>
  if w32 v1 < w32 x1 then (
    (gfr h 0 v0 5).bind fun x2 =>
    (ald 0 h x2 v1).bind fun x3 =>
    if w32 x3 < 0 then (
      JX0_countBusy_29 h v0 v1
    ) else (
      (gfr h 0 v0 7).bind fun x4 =>
      (ald 0 h x4 v1).bind fun x5 =>
      (ast 0 h x4 v1 (x5 + 1)).bind fun h6 =>
      JX0_countBusy_29 h6 v0 v1
    )
  ) else (
    some (.inr h)
  )
set_option maxHeartbeats 4000000 in
set_option maxRecDepth 100000 in
theorem LRX0_countBusy_2 {v0 : Nat} {Q : State → Prop} (hC : Cx g p s m args meth c cX0_countBusy 2 RX0 none) : ∀ (n : Nat) (st : Int × PH) (ex : PH), lp (fun st : Int × PH => LX0_countBusy_2 v0 st.1 st.2) n st = some ex → (fun ex : PH => ∀ (H : Heap) (locs : List Loc) (ls : Array Slot), Rl g ad ex s.heap H locs → lv_has ls 2 [] → W p l e rmX0_countBusy s m args below meth c H locs 0 0 Q (F0 m 35 ls [])) ex → ∀ (H : Heap) (locs : List Loc) (ls : Array Slot), Rl g ad st.2 s.heap H locs → lv_has ls 2 [(0, .ref (ad v0)), (1, .int (Int32.ofInt st.1))] → W p l e rmX0_countBusy s m args below meth c H locs 0 0 Q (F0 m 2 ls []) := by
  refine lp_rule (Ph := (fun st : Int × PH => ∀ (H : Heap) (locs : List Loc) (ls : Array Slot), Rl g ad st.2 s.heap H locs → lv_has ls 2 [(0, .ref (ad v0)), (1, .int (Int32.ofInt st.1))] → W p l e rmX0_countBusy s m args below meth c H locs 0 0 Q (F0 m 2 ls []))) (Px := (fun ex : PH => ∀ (H : Heap) (locs : List Loc) (ls : Array Slot), Rl g ad ex s.heap H locs → lv_has ls 2 [] → W p l e rmX0_countBusy s m args below meth c H locs 0 0 Q (F0 m 35 ls []))) ?_
  rintro ⟨v1, h⟩ o hF hK H locs ls hR hl
  have hR : Rl g ad h s.heap H locs := hR
  have hl : lv_has ls 2 [(0, .ref (ad v0)), (1, .int (Int32.ofInt v1))] := hl
  have hF : LX0_countBusy_2 v0 v1 h = some o := hF
  unfold LX0_countBusy_2 at hF
  refine lv_iload_n hC.1 hC.2.1 dX0_countBusy_2 rfl (lv_at hl 1 rfl) ?_
  refine lv_aload_n hC.1 hC.2.1 dX0_countBusy_3 rfl (lv_at hl 0 rfl) ?_
  obtain ⟨x1, e1, hF⟩ := bnd hF
  refine pw_gfi hC hR e1 flX0_9 dX0_countBusy_4 ?_
  refine pw_icmpge hC 35 dX0_countBusy_7 (by decide) (fun hc => ?_) (fun hc => ?_)
  · rw [if_neg hc] at hF
    cases hF
    exact hK _ _ _ hR (lv_sub hl [] rfl)
  · rw [if_pos hc] at hF
    refine lv_aload_n hC.1 hC.2.1 dX0_countBusy_10 rfl (lv_at hl 0 rfl) ?_
    obtain ⟨x2, e2, hF⟩ := bnd hF
    refine pw_gfr hC hR e2 flX0_28 dX0_countBusy_11 ?_
    refine lv_iload_n hC.1 hC.2.1 dX0_countBusy_14 rfl (lv_at hl 1 rfl) ?_
    obtain ⟨x3, e3, hF⟩ := bnd hF
    refine pw_iald hC hR e3 dX0_countBusy_15 ?_
    refine pw_iflt hC 29 dX0_countBusy_16 (by decide) (fun hc => ?_) (fun hc => ?_)
    · rw [if_pos hc] at hF
      exact BX0_countBusy_29 hC hR (lv_sub hl [0, 1] rfl) hF hK
    · rw [if_neg hc] at hF
      refine lv_aload_n hC.1 hC.2.1 dX0_countBusy_19 rfl (lv_at hl 0 rfl) ?_
      obtain ⟨x4, e4, hF⟩ := bnd hF
      refine pw_gfr hC hR e4 flX0_34 dX0_countBusy_20 ?_
      refine lv_iload_n hC.1 hC.2.1 dX0_countBusy_23 rfl (lv_at hl 1 rfl) ?_
      refine lv_dup2_11 hC.1 hC.2.1 dX0_countBusy_24 rfl rfl ?_
      obtain ⟨x5, e5, hF⟩ := bnd hF
      refine pw_iald hC hR e5 dX0_countBusy_25 ?_
      refine pw_iconst hC dX0_countBusy_26 ?_
      refine pw_iadd hC dX0_countBusy_27 ?_
      obtain ⟨h6, e6, hF⟩ := bnd hF
      refine pw_iast hC hR e6 dX0_countBusy_28 (fun H locs hR => ?_)
      exact BX0_countBusy_29 hC hR (lv_sub hl [0, 1] rfl) hF hK
def FX0_countBusy (h : PH) (v0 : Nat) : Option (PH) :=
  (isO h 0 v0).bind fun _ =>
  (lp (fun st : Int × PH => LX0_countBusy_2 v0 st.1 st.2) FU (0, h)).bind fun ex7 =>
  some ex7
theorem OX0_countBusy {h : PH} {v0 : Nat} {q : PH} (hF : FX0_countBusy h v0 = some q) : ∃ fs : List PV, h[v0]? = some (.inr (0, fs)) := by
  unfold FX0_countBusy at hF
  obtain ⟨u0, e0, -⟩ := bnd hF
  exact isO_spec e0
set_option maxHeartbeats 4000000 in
set_option maxRecDepth 100000 in
theorem CX0_countBusy {g : GP} {l : Launch} {ad : Nat → Nat} {h : PH} {v0 : Nat} {q : PH} (hF : FX0_countBusy h v0 = some q) : CN g l yX0_countBusy cX0_countBusy 2 none rmX0_countBusy ad h [.ref (ad v0)] none q := by
  refine pw_met (by decide) (Nat.le_of_ble_eq_true rfl) ?_
  intro p e s m args below meth c ls hC hN hR hl
  have hl : lv_has ls 2 [(0, .ref (ad v0))] := hl
  unfold FX0_countBusy at hF
  obtain ⟨u0, e0, hF⟩ := bnd hF
  refine pw_iconst hC dX0_countBusy_0 ?_
  refine lv_istore_n (lv' := [(1, .int (Int32.ofInt 0)), (0, .ref (ad v0))]) hC.1 hC.2.1 dX0_countBusy_1 rfl hl (by decide) rfl (fun ls hl => ?_)
  obtain ⟨ex7, e7, hF⟩ := bnd hF
  refine LRX0_countBusy_2 hC FU _ ex7 e7 ?_ _ _ _ hR (lv_sub hl [1, 0] rfl)
  intro H locs ls hR hl
  cases hF
  exact pw_vret hC hR dX0_countBusy_35
abbrev rmX1_result : Room := { frames := 1, cells := 0, slots := 0, locals := 24 }
def JX1_result_56 (h : PH) (v5 : Int) : Option (Int) :=
  some (maxL64 (-1000000) (minL64 1000000 v5))
set_option maxHeartbeats 4000000 in
set_option maxRecDepth 100000 in
theorem BX1_result_56 {h : PH} {v5 : Int} (hC : Cx g p s m args meth c cX1_result 7 RX1 (some .int)) (hR : Rl g ad h s.heap H locs) (hl : lv_has ls 7 [(5, .long (Int64.ofInt v5))]) {q : Int} (hF : JX1_result_56 h v5 = some q) : W p l e rmX1_result s m args below meth c H locs 0 0 (MQ below (QcN g ad h (some (.int (Int32.ofInt q)))) args s 0 0 (gA g)) (F0 m 56 ls []) := by
  unfold JX1_result_56 at hF
  refine pw_ldc2 hC (-1000000) kcX1_31 dX1_result_56 ?_
  refine pw_ldc2 hC 1000000 kcX1_33 dX1_result_59 ?_
  refine lv_lload hC.1 hC.2.1 dX1_result_62 (lv_at hl 0 rfl) ?_
  refine pw_minL hC hl.1 kmX1_35 (Nat.le_of_ble_eq_true rfl) (Nat.le_of_ble_eq_true rfl) dX1_result_64 ⟨Nat.zero_le _, Nat.zero_le _⟩ ?_
  refine pw_maxL hC hl.1 kmX1_38 (Nat.le_of_ble_eq_true rfl) (Nat.le_of_ble_eq_true rfl) dX1_result_67 ⟨Nat.zero_le _, Nat.zero_le _⟩ ?_
  refine pw_l2i hC dX1_result_70 ?_
  cases hF
  exact pw_iret hC hR dX1_result_71
def FX1_result (h : PH) (v0 : Int) (v1 : Int) (v3 : Int) : Option (Int) :=
  if w32 v0 = w32 (-5) then (
    JX1_result_56 h (v1 + v3)
  ) else (
    if w32 v0 = w32 (-6) then (
      JX1_result_56 h (v1 - v3)
    ) else (
      if w32 v0 = w32 (-7) then (
        JX1_result_56 h (v1 * v3)
      ) else (
        if w32 (cmpL v3 0) = 0 then (
          JX1_result_56 h 0
        ) else (
          if w64 v3 = 0 then none else
          JX1_result_56 h (divL v1 v3)
        )
      )
    )
  )
set_option maxHeartbeats 4000000 in
set_option maxRecDepth 100000 in
theorem CX1_result {g : GP} {l : Launch} {ad : Nat → Nat} {h : PH} {v0 : Int} {v1 : Int} {v3 : Int} {q : Int} (hF : FX1_result h v0 v1 v3 = some q) : CN g l yX1_result cX1_result 7 (some .int) rmX1_result ad h [.int (Int32.ofInt v0), .long (Int64.ofInt v1), .long (Int64.ofInt v3)] (some (.int (Int32.ofInt q))) h := by
  refine pw_met (by decide) (Nat.le_of_ble_eq_true rfl) ?_
  intro p e s m args below meth c ls hC hN hR hl
  have hl : lv_has ls 7 [(0, .int (Int32.ofInt v0)), (1, .long (Int64.ofInt v1)), (3, .long (Int64.ofInt v3))] := hl
  unfold FX1_result at hF
  refine pw_lconst hC 0 dX1_result_0 rfl ?_
  refine lv_lstore (lv' := [(5, .long (Int64.ofInt 0)), (0, .int (Int32.ofInt v0)), (1, .long (Int64.ofInt v1)), (3, .long (Int64.ofInt v3))]) hC.1 hC.2.1 dX1_result_1 hl (by decide) rfl (fun ls hl => ?_)
  refine lv_iload_n hC.1 hC.2.1 dX1_result_3 rfl (lv_at hl 1 rfl) ?_
  refine pw_bipush hC dX1_result_4 rfl ?_
  refine pw_icmpne hC 17 dX1_result_6 (by decide) (fun hc => ?_) (fun hc => ?_)
  · rw [if_neg hc] at hF
    refine lv_iload_n hC.1 hC.2.1 dX1_result_17 rfl (lv_at hl 1 rfl) ?_
    refine pw_bipush hC dX1_result_18 rfl ?_
    refine pw_icmpne hC 31 dX1_result_20 (by decide) (fun hc => ?_) (fun hc => ?_)
    · rw [if_neg hc] at hF
      refine lv_iload_n hC.1 hC.2.1 dX1_result_31 rfl (lv_at hl 1 rfl) ?_
      refine pw_bipush hC dX1_result_32 rfl ?_
      refine pw_icmpne hC 45 dX1_result_34 (by decide) (fun hc => ?_) (fun hc => ?_)
      · rw [if_neg hc] at hF
        refine lv_lload_n hC.1 hC.2.1 dX1_result_45 rfl (lv_at hl 3 rfl) ?_
        refine pw_lconst hC 0 dX1_result_46 rfl ?_
        refine pw_lcmp hC dX1_result_47 ?_
        refine pw_ifeq hC 56 dX1_result_48 (by decide) (fun hc => ?_) (fun hc => ?_)
        · rw [if_pos hc] at hF
          exact BX1_result_56 hC hR (lv_sub hl [0] rfl) hF
        · rw [if_neg hc] at hF
          refine lv_lload_n hC.1 hC.2.1 dX1_result_51 rfl (lv_at hl 2 rfl) ?_
          refine lv_lload_n hC.1 hC.2.1 dX1_result_52 rfl (lv_at hl 3 rfl) ?_
          by_cases hn1 : w64 v3 = 0
          · rw [if_pos hn1] at hF; cases hF
          rw [if_neg hn1] at hF
          refine pw_ldiv hC hn1 dX1_result_53 ?_
          refine lv_lstore (lv' := [(5, .long (Int64.ofInt (divL v1 v3))), (0, .int (Int32.ofInt v0)), (1, .long (Int64.ofInt v1)), (3, .long (Int64.ofInt v3))]) hC.1 hC.2.1 dX1_result_54 hl (by decide) rfl (fun ls hl => ?_)
          exact BX1_result_56 hC hR (lv_sub hl [0] rfl) hF
      · rw [if_pos hc] at hF
        refine lv_lload_n hC.1 hC.2.1 dX1_result_37 rfl (lv_at hl 2 rfl) ?_
        refine lv_lload_n hC.1 hC.2.1 dX1_result_38 rfl (lv_at hl 3 rfl) ?_
        refine pw_lmul hC dX1_result_39 ?_
        refine lv_lstore (lv' := [(5, .long (Int64.ofInt (v1 * v3))), (0, .int (Int32.ofInt v0)), (1, .long (Int64.ofInt v1)), (3, .long (Int64.ofInt v3))]) hC.1 hC.2.1 dX1_result_40 hl (by decide) rfl (fun ls hl => ?_)
        refine pw_goto hC 56 dX1_result_42 (by decide) ?_
        exact BX1_result_56 hC hR (lv_sub hl [0] rfl) hF
    · rw [if_pos hc] at hF
      refine lv_lload_n hC.1 hC.2.1 dX1_result_23 rfl (lv_at hl 2 rfl) ?_
      refine lv_lload_n hC.1 hC.2.1 dX1_result_24 rfl (lv_at hl 3 rfl) ?_
      refine pw_lsub hC dX1_result_25 ?_
      refine lv_lstore (lv' := [(5, .long (Int64.ofInt (v1 - v3))), (0, .int (Int32.ofInt v0)), (1, .long (Int64.ofInt v1)), (3, .long (Int64.ofInt v3))]) hC.1 hC.2.1 dX1_result_26 hl (by decide) rfl (fun ls hl => ?_)
      refine pw_goto hC 56 dX1_result_28 (by decide) ?_
      exact BX1_result_56 hC hR (lv_sub hl [0] rfl) hF
  · rw [if_pos hc] at hF
    refine lv_lload_n hC.1 hC.2.1 dX1_result_9 rfl (lv_at hl 2 rfl) ?_
    refine lv_lload_n hC.1 hC.2.1 dX1_result_10 rfl (lv_at hl 3 rfl) ?_
    refine pw_ladd hC dX1_result_11 ?_
    refine lv_lstore (lv' := [(5, .long (Int64.ofInt (v1 + v3))), (0, .int (Int32.ofInt v0)), (1, .long (Int64.ofInt v1)), (3, .long (Int64.ofInt v3))]) hC.1 hC.2.1 dX1_result_12 hl (by decide) rfl (fun ls hl => ?_)
    refine pw_goto hC 56 dX1_result_14 (by decide) ?_
    exact BX1_result_56 hC hR (lv_sub hl [0] rfl) hF
abbrev rmX1_lengthFor : Room := { frames := 2, cells := 0, slots := 0, locals := 50 }
def JX1_lengthFor_137 (h : PH) (v0 : Nat) (v1 : Int) (v2 : Int) (v3 : Int) (v4 : Int) (v5 : Int) (v6 : Int) : Option ((Int × Int × PH) ⊕ (PH)) :=
  some (.inl (v5, (v6 + 1), h))
set_option maxHeartbeats 4000000 in
set_option maxRecDepth 100000 in
theorem BX1_lengthFor_137 {h : PH} {v0 : Nat} {v1 : Int} {v2 : Int} {v3 : Int} {v4 : Int} {v5 : Int} {v6 : Int} (hC : Cx g p s m args meth c cX1_lengthFor 8 RX1 (some .int)) (hR : Rl g ad h s.heap H locs) (hl : lv_has ls 8 [(0, .ref (ad v0)), (1, .int (Int32.ofInt v1)), (2, .int (Int32.ofInt v2)), (3, .int (Int32.ofInt v3)), (4, .int (Int32.ofInt v4)), (5, .int (Int32.ofInt v5)), (6, .int (Int32.ofInt v6))]) {Q : State → Prop} {o : (Int × Int × PH) ⊕ (PH)} (hF : JX1_lengthFor_137 h v0 v1 v2 v3 v4 v5 v6 = some o) (hK : Sum.elim (fun st : Int × Int × PH => ∀ (H : Heap) (locs : List Loc) (ls : Array Slot), Rl g ad st.2.2 s.heap H locs → lv_has ls 8 [(0, .ref (ad v0)), (1, .int (Int32.ofInt v1)), (2, .int (Int32.ofInt v2)), (3, .int (Int32.ofInt v3)), (4, .int (Int32.ofInt v4)), (5, .int (Int32.ofInt st.1)), (6, .int (Int32.ofInt st.2.1))] → W p l e rmX1_lengthFor s m args below meth c H locs 0 0 Q (F0 m 6 ls [])) (fun ex : PH => ∀ (H : Heap) (locs : List Loc) (ls : Array Slot), Rl g ad ex s.heap H locs → lv_has ls 8 [(0, .ref (ad v0))] → W p l e rmX1_lengthFor s m args below meth c H locs 0 0 Q (F0 m 143 ls [])) o) : W p l e rmX1_lengthFor s m args below meth c H locs 0 0 Q (F0 m 137 ls []) := by
  unfold JX1_lengthFor_137 at hF
  refine pw_iinc (lv' := [(6, .int (Int32.ofInt (v6 + 1))), (0, .ref (ad v0)), (1, .int (Int32.ofInt v1)), (2, .int (Int32.ofInt v2)), (3, .int (Int32.ofInt v3)), (4, .int (Int32.ofInt v4)), (5, .int (Int32.ofInt v5))]) hC hl 6 dX1_lengthFor_137 rfl (by decide) rfl (fun ls hl => ?_)
  refine pw_goto hC 6 dX1_lengthFor_140 (by decide) ?_
  cases hF
  exact hK _ _ _ hR (lv_sub hl [1, 2, 3, 4, 5, 6, 0] rfl)
def JX1_lengthFor_133 (h : PH) (v0 : Nat) (v1 : Int) (v2 : Int) (v3 : Int) (v4 : Int) (v5 : Int) (v6 : Int) (s0 : Int) (s1 : Int) (s2 : Nat) : Option ((Int × Int × PH) ⊕ (PH)) :=
  (ast 0 h s2 s1 s0).bind fun h6 =>
  JX1_lengthFor_137 h6 v0 v1 v2 v3 v4 (v5 + 1) v6
set_option maxHeartbeats 4000000 in
set_option maxRecDepth 100000 in
theorem BX1_lengthFor_133 {h : PH} {v0 : Nat} {v1 : Int} {v2 : Int} {v3 : Int} {v4 : Int} {v5 : Int} {v6 : Int} {s0 : Int} {s1 : Int} {s2 : Nat} (hC : Cx g p s m args meth c cX1_lengthFor 8 RX1 (some .int)) (hR : Rl g ad h s.heap H locs) (hl : lv_has ls 8 [(0, .ref (ad v0)), (1, .int (Int32.ofInt v1)), (2, .int (Int32.ofInt v2)), (3, .int (Int32.ofInt v3)), (4, .int (Int32.ofInt v4)), (5, .int (Int32.ofInt v5)), (6, .int (Int32.ofInt v6))]) {Q : State → Prop} {o : (Int × Int × PH) ⊕ (PH)} (hF : JX1_lengthFor_133 h v0 v1 v2 v3 v4 v5 v6 s0 s1 s2 = some o) (hK : Sum.elim (fun st : Int × Int × PH => ∀ (H : Heap) (locs : List Loc) (ls : Array Slot), Rl g ad st.2.2 s.heap H locs → lv_has ls 8 [(0, .ref (ad v0)), (1, .int (Int32.ofInt v1)), (2, .int (Int32.ofInt v2)), (3, .int (Int32.ofInt v3)), (4, .int (Int32.ofInt v4)), (5, .int (Int32.ofInt st.1)), (6, .int (Int32.ofInt st.2.1))] → W p l e rmX1_lengthFor s m args below meth c H locs 0 0 Q (F0 m 6 ls [])) (fun ex : PH => ∀ (H : Heap) (locs : List Loc) (ls : Array Slot), Rl g ad ex s.heap H locs → lv_has ls 8 [(0, .ref (ad v0))] → W p l e rmX1_lengthFor s m args below meth c H locs 0 0 Q (F0 m 143 ls [])) o) : W p l e rmX1_lengthFor s m args below meth c H locs 0 0 Q (F0 m 133 ls [.int (Int32.ofInt s0), .int (Int32.ofInt s1), .ref (ad s2)]) := by
  unfold JX1_lengthFor_133 at hF
  obtain ⟨h6, e6, hF⟩ := bnd hF
  refine pw_iast hC hR e6 dX1_lengthFor_133 (fun H locs hR => ?_)
  refine pw_iinc (lv' := [(5, .int (Int32.ofInt (v5 + 1))), (0, .ref (ad v0)), (1, .int (Int32.ofInt v1)), (2, .int (Int32.ofInt v2)), (3, .int (Int32.ofInt v3)), (4, .int (Int32.ofInt v4)), (6, .int (Int32.ofInt v6))]) hC hl 5 dX1_lengthFor_134 rfl (by decide) rfl (fun ls hl => ?_)
  exact BX1_lengthFor_137 hC hR (lv_sub hl [1, 2, 3, 4, 5, 0, 6] rfl) hF hK
def LX1_lengthFor_6 (v0 : Nat) (v1 : Int) (v2 : Int) (v3 : Int) (v4 : Int) (v5 : Int) (v6 : Int) (h : PH) : Option ((Int × Int × PH) ⊕ (PH)) :=
  (gfr h 1 v0 0).bind fun x1 =>
  (alen h x1).bind fun x2 =>
  if w32 v6 < w32 x2 then (
    (gfr h 1 v0 0).bind fun x3 =>
    (ald 0 h x3 v6).bind fun x4 =>
    if w32 (-5) < w32 x4 then (
      if w32 v5 < w32 11 then (
        (gfr h 1 v0 1).bind fun x5 =>
        if w32 x4 < 0 then (
          if w32 x4 = w32 (-1) then (
            JX1_lengthFor_133 h v0 v1 v2 v3 v4 v5 v6 v1 v5 x5
          ) else (
            if w32 x4 = w32 (-2) then (
              JX1_lengthFor_133 h v0 v1 v2 v3 v4 v5 v6 v2 v5 x5
            ) else (
              if w32 x4 = w32 (-3) then (
                JX1_lengthFor_133 h v0 v1 v2 v3 v4 v5 v6 v3 v5 x5
              ) else (
                JX1_lengthFor_133 h v0 v1 v2 v3 v4 v5 v6 v4 v5 x5
              )
            )
          )
        ) else (
          JX1_lengthFor_133 h v0 v1 v2 v3 v4 v5 v6 x4 v5 x5
        )
      ) else (
        JX1_lengthFor_137 h v0 v1 v2 v3 v4 v5 v6
      )
    ) else (
      if w32 v5 < w32 2 then (
        JX1_lengthFor_137 h v0 v1 v2 v3 v4 v5 v6
      ) else (
        (gfr h 1 v0 1).bind fun x7 =>
        (gfr h 1 v0 1).bind fun x8 =>
        (ald 0 h x8 ((v5 + -1) - 1)).bind fun x9 =>
        (gfr h 1 v0 1).bind fun x10 =>
        (ald 0 h x10 (v5 + -1)).bind fun x11 =>
        (FX1_result h x4 (w32 x9) (w32 x11)).bind fun x12 =>
        (ast 0 h x7 ((v5 + -1) - 1) x12).bind fun h13 =>
        JX1_lengthFor_137 h13 v0 v1 v2 v3 v4 (v5 + -1) v6
      )
    )
  ) else (
    some (.inr h)
  )
set_option maxHeartbeats 4000000 in
set_option maxRecDepth 100000 in
theorem LRX1_lengthFor_6 {v0 : Nat} {v1 : Int} {v2 : Int} {v3 : Int} {v4 : Int} {Q : State → Prop} (hC : Cx g p s m args meth c cX1_lengthFor 8 RX1 (some .int)) : ∀ (n : Nat) (st : Int × Int × PH) (ex : PH), lp (fun st : Int × Int × PH => LX1_lengthFor_6 v0 v1 v2 v3 v4 st.1 st.2.1 st.2.2) n st = some ex → (fun ex : PH => ∀ (H : Heap) (locs : List Loc) (ls : Array Slot), Rl g ad ex s.heap H locs → lv_has ls 8 [(0, .ref (ad v0))] → W p l e rmX1_lengthFor s m args below meth c H locs 0 0 Q (F0 m 143 ls [])) ex → ∀ (H : Heap) (locs : List Loc) (ls : Array Slot), Rl g ad st.2.2 s.heap H locs → lv_has ls 8 [(0, .ref (ad v0)), (1, .int (Int32.ofInt v1)), (2, .int (Int32.ofInt v2)), (3, .int (Int32.ofInt v3)), (4, .int (Int32.ofInt v4)), (5, .int (Int32.ofInt st.1)), (6, .int (Int32.ofInt st.2.1))] → W p l e rmX1_lengthFor s m args below meth c H locs 0 0 Q (F0 m 6 ls []) := by
  refine lp_rule (Ph := (fun st : Int × Int × PH => ∀ (H : Heap) (locs : List Loc) (ls : Array Slot), Rl g ad st.2.2 s.heap H locs → lv_has ls 8 [(0, .ref (ad v0)), (1, .int (Int32.ofInt v1)), (2, .int (Int32.ofInt v2)), (3, .int (Int32.ofInt v3)), (4, .int (Int32.ofInt v4)), (5, .int (Int32.ofInt st.1)), (6, .int (Int32.ofInt st.2.1))] → W p l e rmX1_lengthFor s m args below meth c H locs 0 0 Q (F0 m 6 ls []))) (Px := (fun ex : PH => ∀ (H : Heap) (locs : List Loc) (ls : Array Slot), Rl g ad ex s.heap H locs → lv_has ls 8 [(0, .ref (ad v0))] → W p l e rmX1_lengthFor s m args below meth c H locs 0 0 Q (F0 m 143 ls []))) ?_
  rintro ⟨v5, v6, h⟩ o hF hK H locs ls hR hl
  have hR : Rl g ad h s.heap H locs := hR
  have hl : lv_has ls 8 [(0, .ref (ad v0)), (1, .int (Int32.ofInt v1)), (2, .int (Int32.ofInt v2)), (3, .int (Int32.ofInt v3)), (4, .int (Int32.ofInt v4)), (5, .int (Int32.ofInt v5)), (6, .int (Int32.ofInt v6))] := hl
  have hF : LX1_lengthFor_6 v0 v1 v2 v3 v4 v5 v6 h = some o := hF
  unfold LX1_lengthFor_6 at hF
  refine lv_iload hC.1 hC.2.1 dX1_lengthFor_6 (lv_at hl 6 rfl) ?_
  refine lv_aload_n hC.1 hC.2.1 dX1_lengthFor_8 rfl (lv_at hl 0 rfl) ?_
  obtain ⟨x1, e1, hF⟩ := bnd hF
  refine pw_gfr hC hR e1 flX1_15 dX1_lengthFor_9 ?_
  obtain ⟨x2, e2, hF⟩ := bnd hF
  refine pw_alen hC hR e2 dX1_lengthFor_12 ?_
  refine pw_icmpge hC 143 dX1_lengthFor_13 (by decide) (fun hc => ?_) (fun hc => ?_)
  · rw [if_neg hc] at hF
    cases hF
    exact hK _ _ _ hR (lv_sub hl [0] rfl)
  · rw [if_pos hc] at hF
    refine lv_aload_n hC.1 hC.2.1 dX1_lengthFor_16 rfl (lv_at hl 0 rfl) ?_
    obtain ⟨x3, e3, hF⟩ := bnd hF
    refine pw_gfr hC hR e3 flX1_15 dX1_lengthFor_17 ?_
    refine lv_iload hC.1 hC.2.1 dX1_lengthFor_20 (lv_at hl 6 rfl) ?_
    obtain ⟨x4, e4, hF⟩ := bnd hF
    refine pw_iald hC hR e4 dX1_lengthFor_22 ?_
    refine lv_istore (lv' := [(7, .int (Int32.ofInt x4)), (0, .ref (ad v0)), (1, .int (Int32.ofInt v1)), (2, .int (Int32.ofInt v2)), (3, .int (Int32.ofInt v3)), (4, .int (Int32.ofInt v4)), (5, .int (Int32.ofInt v5)), (6, .int (Int32.ofInt v6))]) hC.1 hC.2.1 dX1_lengthFor_23 hl (by decide) rfl (fun ls hl => ?_)
    refine lv_iload hC.1 hC.2.1 dX1_lengthFor_25 (lv_at hl 0 rfl) ?_
    refine pw_bipush hC dX1_lengthFor_27 rfl ?_
    refine pw_icmpgt hC 76 dX1_lengthFor_29 (by decide) (fun hc => ?_) (fun hc => ?_)
    · rw [if_pos hc] at hF
      refine lv_iload hC.1 hC.2.1 dX1_lengthFor_76 (lv_at hl 6 rfl) ?_
      refine pw_bipush hC dX1_lengthFor_78 rfl ?_
      refine pw_icmpge hC 137 dX1_lengthFor_80 (by decide) (fun hc => ?_) (fun hc => ?_)
      · rw [if_neg hc] at hF
        exact BX1_lengthFor_137 hC hR (lv_sub hl [1, 2, 3, 4, 5, 6, 7] rfl) hF hK
      · rw [if_pos hc] at hF
        refine lv_aload_n hC.1 hC.2.1 dX1_lengthFor_83 rfl (lv_at hl 1 rfl) ?_
        obtain ⟨x5, e5, hF⟩ := bnd hF
        refine pw_gfr hC hR e5 flX1_11 dX1_lengthFor_84 ?_
        refine lv_iload hC.1 hC.2.1 dX1_lengthFor_87 (lv_at hl 6 rfl) ?_
        refine lv_iload hC.1 hC.2.1 dX1_lengthFor_89 (lv_at hl 0 rfl) ?_
        refine pw_iflt hC 99 dX1_lengthFor_91 (by decide) (fun hc => ?_) (fun hc => ?_)
        · rw [if_pos hc] at hF
          refine lv_iload hC.1 hC.2.1 dX1_lengthFor_99 (lv_at hl 0 rfl) ?_
          refine pw_iconst hC dX1_lengthFor_101 ?_
          refine pw_icmpne hC 109 dX1_lengthFor_102 (by decide) (fun hc => ?_) (fun hc => ?_)
          · rw [if_neg hc] at hF
            refine lv_iload hC.1 hC.2.1 dX1_lengthFor_109 (lv_at hl 0 rfl) ?_
            refine pw_bipush hC dX1_lengthFor_111 rfl ?_
            refine pw_icmpne hC 120 dX1_lengthFor_113 (by decide) (fun hc => ?_) (fun hc => ?_)
            · rw [if_neg hc] at hF
              refine lv_iload hC.1 hC.2.1 dX1_lengthFor_120 (lv_at hl 0 rfl) ?_
              refine pw_bipush hC dX1_lengthFor_122 rfl ?_
              refine pw_icmpne hC 131 dX1_lengthFor_124 (by decide) (fun hc => ?_) (fun hc => ?_)
              · rw [if_neg hc] at hF
                refine lv_iload hC.1 hC.2.1 dX1_lengthFor_131 (lv_at hl 5 rfl) ?_
                exact BX1_lengthFor_133 hC hR (lv_sub hl [1, 2, 3, 4, 5, 6, 7] rfl) hF hK
              · rw [if_pos hc] at hF
                refine lv_iload_n hC.1 hC.2.1 dX1_lengthFor_127 rfl (lv_at hl 4 rfl) ?_
                refine pw_goto hC 133 dX1_lengthFor_128 (by decide) ?_
                exact BX1_lengthFor_133 hC hR (lv_sub hl [1, 2, 3, 4, 5, 6, 7] rfl) hF hK
            · rw [if_pos hc] at hF
              refine lv_iload_n hC.1 hC.2.1 dX1_lengthFor_116 rfl (lv_at hl 3 rfl) ?_
              refine pw_goto hC 133 dX1_lengthFor_117 (by decide) ?_
              exact BX1_lengthFor_133 hC hR (lv_sub hl [1, 2, 3, 4, 5, 6, 7] rfl) hF hK
          · rw [if_pos hc] at hF
            refine lv_iload_n hC.1 hC.2.1 dX1_lengthFor_105 rfl (lv_at hl 2 rfl) ?_
            refine pw_goto hC 133 dX1_lengthFor_106 (by decide) ?_
            exact BX1_lengthFor_133 hC hR (lv_sub hl [1, 2, 3, 4, 5, 6, 7] rfl) hF hK
        · rw [if_neg hc] at hF
          refine lv_iload hC.1 hC.2.1 dX1_lengthFor_94 (lv_at hl 0 rfl) ?_
          refine pw_goto hC 133 dX1_lengthFor_96 (by decide) ?_
          exact BX1_lengthFor_133 hC hR (lv_sub hl [1, 2, 3, 4, 5, 6, 7] rfl) hF hK
    · rw [if_neg hc] at hF
      refine lv_iload hC.1 hC.2.1 dX1_lengthFor_32 (lv_at hl 6 rfl) ?_
      refine pw_iconst hC dX1_lengthFor_34 ?_
      refine pw_icmplt hC 137 dX1_lengthFor_35 (by decide) (fun hc => ?_) (fun hc => ?_)
      · rw [if_pos hc] at hF
        exact BX1_lengthFor_137 hC hR (lv_sub hl [1, 2, 3, 4, 5, 6, 7] rfl) hF hK
      · rw [if_neg hc] at hF
        refine pw_iinc (lv' := [(5, .int (Int32.ofInt (v5 + -1))), (7, .int (Int32.ofInt x4)), (0, .ref (ad v0)), (1, .int (Int32.ofInt v1)), (2, .int (Int32.ofInt v2)), (3, .int (Int32.ofInt v3)), (4, .int (Int32.ofInt v4)), (6, .int (Int32.ofInt v6))]) hC hl 6 dX1_lengthFor_38 rfl (by decide) rfl (fun ls hl => ?_)
        refine lv_aload_n hC.1 hC.2.1 dX1_lengthFor_41 rfl (lv_at hl 2 rfl) ?_
        obtain ⟨x7, e7, hF⟩ := bnd hF
        refine pw_gfr hC hR e7 flX1_11 dX1_lengthFor_42 ?_
        refine lv_iload hC.1 hC.2.1 dX1_lengthFor_45 (lv_at hl 0 rfl) ?_
        refine pw_iconst hC dX1_lengthFor_47 ?_
        refine pw_isub hC dX1_lengthFor_48 ?_
        refine lv_iload hC.1 hC.2.1 dX1_lengthFor_49 (lv_at hl 1 rfl) ?_
        refine lv_aload_n hC.1 hC.2.1 dX1_lengthFor_51 rfl (lv_at hl 2 rfl) ?_
        obtain ⟨x8, e8, hF⟩ := bnd hF
        refine pw_gfr hC hR e8 flX1_11 dX1_lengthFor_52 ?_
        refine lv_iload hC.1 hC.2.1 dX1_lengthFor_55 (lv_at hl 0 rfl) ?_
        refine pw_iconst hC dX1_lengthFor_57 ?_
        refine pw_isub hC dX1_lengthFor_58 ?_
        obtain ⟨x9, e9, hF⟩ := bnd hF
        refine pw_iald hC hR e9 dX1_lengthFor_59 ?_
        refine pw_i2l hC dX1_lengthFor_60 ?_
        refine lv_aload_n hC.1 hC.2.1 dX1_lengthFor_61 rfl (lv_at hl 2 rfl) ?_
        obtain ⟨x10, e10, hF⟩ := bnd hF
        refine pw_gfr hC hR e10 flX1_11 dX1_lengthFor_62 ?_
        refine lv_iload hC.1 hC.2.1 dX1_lengthFor_65 (lv_at hl 0 rfl) ?_
        obtain ⟨x11, e11, hF⟩ := bnd hF
        refine pw_iald hC hR e11 dX1_lengthFor_67 ?_
        refine pw_i2l hC dX1_lengthFor_68 ?_
        obtain ⟨x12, e12, hF⟩ := bnd hF
        refine pw_cSi (rest := [.int (Int32.ofInt ((v5 + -1) - 1)), .ref (ad x7)]) hC hR lsX1_18 (CX1_result e12) ⟨rfl, rfl⟩ rfl hl.1 rfl ⟨Nat.le_of_ble_eq_true rfl, Nat.le_of_ble_eq_true rfl⟩ (Nat.le_of_ble_eq_true rfl) dX1_lengthFor_69 ⟨Nat.zero_le _, Nat.zero_le _⟩ (fun H locs hR => ?_)
        obtain ⟨h13, e13, hF⟩ := bnd hF
        refine pw_iast hC hR e13 dX1_lengthFor_72 (fun H locs hR => ?_)
        refine pw_goto hC 137 dX1_lengthFor_73 (by decide) ?_
        exact BX1_lengthFor_137 hC hR (lv_sub hl [2, 3, 4, 5, 6, 0, 7] rfl) hF hK
def FX1_lengthFor (h : PH) (v0 : Nat) (v1 : Int) (v2 : Int) (v3 : Int) (v4 : Int) : Option (Int × PH) :=
  (isO h 1 v0).bind fun _ =>
  (lp (fun st : Int × Int × PH => LX1_lengthFor_6 v0 v1 v2 v3 v4 st.1 st.2.1 st.2.2) FU (0, 0, h)).bind fun ex14 =>
  (gfr ex14 1 v0 1).bind fun x15 =>
  (ald 0 ex14 x15 0).bind fun x16 =>
  some ((maxI 1 (minI 999 x16)), ex14)
theorem OX1_lengthFor {h : PH} {v0 : Nat} {v1 : Int} {v2 : Int} {v3 : Int} {v4 : Int} {q : Int × PH} (hF : FX1_lengthFor h v0 v1 v2 v3 v4 = some q) : ∃ fs : List PV, h[v0]? = some (.inr (1, fs)) := by
  unfold FX1_lengthFor at hF
  obtain ⟨u0, e0, -⟩ := bnd hF
  exact isO_spec e0
set_option maxHeartbeats 4000000 in
set_option maxRecDepth 100000 in
theorem CX1_lengthFor {g : GP} {l : Launch} {ad : Nat → Nat} {h : PH} {v0 : Nat} {v1 : Int} {v2 : Int} {v3 : Int} {v4 : Int} {q : Int × PH} (hF : FX1_lengthFor h v0 v1 v2 v3 v4 = some q) : CN g l yX1_lengthFor cX1_lengthFor 8 (some .int) rmX1_lengthFor ad h [.ref (ad v0), .int (Int32.ofInt v1), .int (Int32.ofInt v2), .int (Int32.ofInt v3), .int (Int32.ofInt v4)] (some (.int (Int32.ofInt q.1))) q.2 := by
  refine pw_met (by decide) (Nat.le_of_ble_eq_true rfl) ?_
  intro p e s m args below meth c ls hC hN hR hl
  have hl : lv_has ls 8 [(0, .ref (ad v0)), (1, .int (Int32.ofInt v1)), (2, .int (Int32.ofInt v2)), (3, .int (Int32.ofInt v3)), (4, .int (Int32.ofInt v4))] := hl
  unfold FX1_lengthFor at hF
  obtain ⟨u0, e0, hF⟩ := bnd hF
  refine pw_iconst hC dX1_lengthFor_0 ?_
  refine lv_istore (lv' := [(5, .int (Int32.ofInt 0)), (0, .ref (ad v0)), (1, .int (Int32.ofInt v1)), (2, .int (Int32.ofInt v2)), (3, .int (Int32.ofInt v3)), (4, .int (Int32.ofInt v4))]) hC.1 hC.2.1 dX1_lengthFor_1 hl (by decide) rfl (fun ls hl => ?_)
  refine pw_iconst hC dX1_lengthFor_3 ?_
  refine lv_istore (lv' := [(6, .int (Int32.ofInt 0)), (5, .int (Int32.ofInt 0)), (0, .ref (ad v0)), (1, .int (Int32.ofInt v1)), (2, .int (Int32.ofInt v2)), (3, .int (Int32.ofInt v3)), (4, .int (Int32.ofInt v4))]) hC.1 hC.2.1 dX1_lengthFor_4 hl (by decide) rfl (fun ls hl => ?_)
  obtain ⟨ex14, e14, hF⟩ := bnd hF
  refine LRX1_lengthFor_6 hC FU _ ex14 e14 ?_ _ _ _ hR (lv_sub hl [2, 3, 4, 5, 6, 1, 0] rfl)
  intro H locs ls hR hl
  refine pw_iconst hC dX1_lengthFor_143 ?_
  refine pw_sipush hC dX1_lengthFor_144 rfl ?_
  refine lv_aload_n hC.1 hC.2.1 dX1_lengthFor_147 rfl (lv_at hl 0 rfl) ?_
  obtain ⟨x15, e15, hF⟩ := bnd hF
  refine pw_gfr hC hR e15 flX1_11 dX1_lengthFor_148 ?_
  refine pw_iconst hC dX1_lengthFor_151 ?_
  obtain ⟨x16, e16, hF⟩ := bnd hF
  refine pw_iald hC hR e16 dX1_lengthFor_152 ?_
  refine pw_minI hC hl.1 kmX1_22 (Nat.le_of_ble_eq_true rfl) (Nat.le_of_ble_eq_true rfl) dX1_lengthFor_153 ⟨Nat.zero_le _, Nat.zero_le _⟩ ?_
  refine pw_maxI hC hl.1 kmX1_28 (Nat.le_of_ble_eq_true rfl) (Nat.le_of_ble_eq_true rfl) dX1_lengthFor_156 ⟨Nat.zero_le _, Nat.zero_le _⟩ ?_
  cases hF
  exact pw_iret hC hR dX1_lengthFor_159
abbrev rmX6_copyFrom : Room := { frames := 1, cells := 0, slots := 0, locals := 64 }
def FX6_copyFrom (h : PH) (v0 : Nat) (v1 : Nat) : Option (PH) :=
  (isO h 6 v0).bind fun _ =>
  (gfi h 6 v1 0).bind fun x1 =>
  (pfi h 6 v0 0 x1).bind fun h2 =>
  (gfi h2 6 v1 1).bind fun x3 =>
  (pfi h2 6 v0 1 x3).bind fun h4 =>
  (gfr h4 6 v1 2).bind fun x5 =>
  (gfr h4 6 v0 2).bind fun x6 =>
  (acpy h4 x5 0 x6 0 32).bind fun h7 =>
  (gfr h7 6 v1 3).bind fun x8 =>
  (gfr h7 6 v0 3).bind fun x9 =>
  (acpy h7 x8 0 x9 0 32).bind fun h10 =>
  (gfr h10 6 v1 4).bind fun x11 =>
  (gfr h10 6 v0 4).bind fun x12 =>
  (acpy h10 x11 0 x12 0 32).bind fun h13 =>
  (gfr h13 6 v1 5).bind fun x14 =>
  (gfr h13 6 v0 5).bind fun x15 =>
  (acpy h13 x14 0 x15 0 32).bind fun h16 =>
  (gfr h16 6 v1 6).bind fun x17 =>
  (gfr h16 6 v0 6).bind fun x18 =>
  (acpy h16 x17 0 x18 0 32).bind fun h19 =>
  (gfr h19 6 v1 7).bind fun x20 =>
  (gfr h19 6 v0 7).bind fun x21 =>
  (acpy h19 x20 0 x21 0 32).bind fun h22 =>
  (gfr h22 6 v1 8).bind fun x23 =>
  (gfr h22 6 v0 8).bind fun x24 =>
  (acpy h22 x23 0 x24 0 32).bind fun h25 =>
  (gfr h25 6 v1 9).bind fun x26 =>
  (gfr h25 6 v0 9).bind fun x27 =>
  (acpy h25 x26 0 x27 0 8).bind fun h28 =>
  some h28
theorem OX6_copyFrom {h : PH} {v0 : Nat} {v1 : Nat} {q : PH} (hF : FX6_copyFrom h v0 v1 = some q) : ∃ fs : List PV, h[v0]? = some (.inr (6, fs)) := by
  unfold FX6_copyFrom at hF
  obtain ⟨u0, e0, -⟩ := bnd hF
  exact isO_spec e0
set_option maxHeartbeats 4000000 in
set_option maxRecDepth 100000 in
theorem CX6_copyFrom {g : GP} {l : Launch} {ad : Nat → Nat} {h : PH} {v0 : Nat} {v1 : Nat} {q : PH} (hF : FX6_copyFrom h v0 v1 = some q) : CN g l yX6_copyFrom cX6_copyFrom 2 none rmX6_copyFrom ad h [.ref (ad v0), .ref (ad v1)] none q := by
  refine pw_met (by decide) (Nat.le_of_ble_eq_true rfl) ?_
  intro p e s m args below meth c ls hC hN hR hl
  have hl : lv_has ls 2 [(0, .ref (ad v0)), (1, .ref (ad v1))] := hl
  unfold FX6_copyFrom at hF
  obtain ⟨u0, e0, hF⟩ := bnd hF
  refine lv_aload_n hC.1 hC.2.1 dX6_copyFrom_0 rfl (lv_at hl 0 rfl) ?_
  refine lv_aload_n hC.1 hC.2.1 dX6_copyFrom_1 rfl (lv_at hl 1 rfl) ?_
  obtain ⟨x1, e1, hF⟩ := bnd hF
  refine pw_gfi hC hR e1 flX6_9 dX6_copyFrom_2 ?_
  obtain ⟨h2, e2, hF⟩ := bnd hF
  refine pw_pfi hC hR e2 fpX6_9 (Or.inl rfl) dX6_copyFrom_5 (fun H locs hR => ?_)
  refine lv_aload_n hC.1 hC.2.1 dX6_copyFrom_8 rfl (lv_at hl 0 rfl) ?_
  refine lv_aload_n hC.1 hC.2.1 dX6_copyFrom_9 rfl (lv_at hl 1 rfl) ?_
  obtain ⟨x3, e3, hF⟩ := bnd hF
  refine pw_gfi hC hR e3 flX6_15 dX6_copyFrom_10 ?_
  obtain ⟨h4, e4, hF⟩ := bnd hF
  refine pw_pfi hC hR e4 fpX6_15 (Or.inl rfl) dX6_copyFrom_13 (fun H locs hR => ?_)
  refine lv_aload_n hC.1 hC.2.1 dX6_copyFrom_16 rfl (lv_at hl 1 rfl) ?_
  obtain ⟨x5, e5, hF⟩ := bnd hF
  refine pw_gfr hC hR e5 flX6_18 dX6_copyFrom_17 ?_
  refine pw_iconst hC dX6_copyFrom_20 ?_
  refine lv_aload_n hC.1 hC.2.1 dX6_copyFrom_21 rfl (lv_at hl 0 rfl) ?_
  obtain ⟨x6, e6, hF⟩ := bnd hF
  refine pw_gfr hC hR e6 flX6_18 dX6_copyFrom_22 ?_
  refine pw_iconst hC dX6_copyFrom_25 ?_
  refine pw_bipush hC dX6_copyFrom_26 rfl ?_
  obtain ⟨h7, e7, hF⟩ := bnd hF
  refine pw_acpy hC hl.1 hR e7 kmX6_46 (Nat.le_of_ble_eq_true rfl) (Nat.le_of_ble_eq_true rfl) dX6_copyFrom_28 (fun H locs hR => ?_)
  refine lv_aload_n hC.1 hC.2.1 dX6_copyFrom_31 rfl (lv_at hl 1 rfl) ?_
  obtain ⟨x8, e8, hF⟩ := bnd hF
  refine pw_gfr hC hR e8 flX6_22 dX6_copyFrom_32 ?_
  refine pw_iconst hC dX6_copyFrom_35 ?_
  refine lv_aload_n hC.1 hC.2.1 dX6_copyFrom_36 rfl (lv_at hl 0 rfl) ?_
  obtain ⟨x9, e9, hF⟩ := bnd hF
  refine pw_gfr hC hR e9 flX6_22 dX6_copyFrom_37 ?_
  refine pw_iconst hC dX6_copyFrom_40 ?_
  refine pw_bipush hC dX6_copyFrom_41 rfl ?_
  obtain ⟨h10, e10, hF⟩ := bnd hF
  refine pw_acpy hC hl.1 hR e10 kmX6_46 (Nat.le_of_ble_eq_true rfl) (Nat.le_of_ble_eq_true rfl) dX6_copyFrom_43 (fun H locs hR => ?_)
  refine lv_aload_n hC.1 hC.2.1 dX6_copyFrom_46 rfl (lv_at hl 1 rfl) ?_
  obtain ⟨x11, e11, hF⟩ := bnd hF
  refine pw_gfr hC hR e11 flX6_25 dX6_copyFrom_47 ?_
  refine pw_iconst hC dX6_copyFrom_50 ?_
  refine lv_aload_n hC.1 hC.2.1 dX6_copyFrom_51 rfl (lv_at hl 0 rfl) ?_
  obtain ⟨x12, e12, hF⟩ := bnd hF
  refine pw_gfr hC hR e12 flX6_25 dX6_copyFrom_52 ?_
  refine pw_iconst hC dX6_copyFrom_55 ?_
  refine pw_bipush hC dX6_copyFrom_56 rfl ?_
  obtain ⟨h13, e13, hF⟩ := bnd hF
  refine pw_acpy hC hl.1 hR e13 kmX6_46 (Nat.le_of_ble_eq_true rfl) (Nat.le_of_ble_eq_true rfl) dX6_copyFrom_58 (fun H locs hR => ?_)
  refine lv_aload_n hC.1 hC.2.1 dX6_copyFrom_61 rfl (lv_at hl 1 rfl) ?_
  obtain ⟨x14, e14, hF⟩ := bnd hF
  refine pw_gfr hC hR e14 flX6_28 dX6_copyFrom_62 ?_
  refine pw_iconst hC dX6_copyFrom_65 ?_
  refine lv_aload_n hC.1 hC.2.1 dX6_copyFrom_66 rfl (lv_at hl 0 rfl) ?_
  obtain ⟨x15, e15, hF⟩ := bnd hF
  refine pw_gfr hC hR e15 flX6_28 dX6_copyFrom_67 ?_
  refine pw_iconst hC dX6_copyFrom_70 ?_
  refine pw_bipush hC dX6_copyFrom_71 rfl ?_
  obtain ⟨h16, e16, hF⟩ := bnd hF
  refine pw_acpy hC hl.1 hR e16 kmX6_46 (Nat.le_of_ble_eq_true rfl) (Nat.le_of_ble_eq_true rfl) dX6_copyFrom_73 (fun H locs hR => ?_)
  refine lv_aload_n hC.1 hC.2.1 dX6_copyFrom_76 rfl (lv_at hl 1 rfl) ?_
  obtain ⟨x17, e17, hF⟩ := bnd hF
  refine pw_gfr hC hR e17 flX6_31 dX6_copyFrom_77 ?_
  refine pw_iconst hC dX6_copyFrom_80 ?_
  refine lv_aload_n hC.1 hC.2.1 dX6_copyFrom_81 rfl (lv_at hl 0 rfl) ?_
  obtain ⟨x18, e18, hF⟩ := bnd hF
  refine pw_gfr hC hR e18 flX6_31 dX6_copyFrom_82 ?_
  refine pw_iconst hC dX6_copyFrom_85 ?_
  refine pw_bipush hC dX6_copyFrom_86 rfl ?_
  obtain ⟨h19, e19, hF⟩ := bnd hF
  refine pw_acpy hC hl.1 hR e19 kmX6_46 (Nat.le_of_ble_eq_true rfl) (Nat.le_of_ble_eq_true rfl) dX6_copyFrom_88 (fun H locs hR => ?_)
  refine lv_aload_n hC.1 hC.2.1 dX6_copyFrom_91 rfl (lv_at hl 1 rfl) ?_
  obtain ⟨x20, e20, hF⟩ := bnd hF
  refine pw_gfr hC hR e20 flX6_34 dX6_copyFrom_92 ?_
  refine pw_iconst hC dX6_copyFrom_95 ?_
  refine lv_aload_n hC.1 hC.2.1 dX6_copyFrom_96 rfl (lv_at hl 0 rfl) ?_
  obtain ⟨x21, e21, hF⟩ := bnd hF
  refine pw_gfr hC hR e21 flX6_34 dX6_copyFrom_97 ?_
  refine pw_iconst hC dX6_copyFrom_100 ?_
  refine pw_bipush hC dX6_copyFrom_101 rfl ?_
  obtain ⟨h22, e22, hF⟩ := bnd hF
  refine pw_acpy hC hl.1 hR e22 kmX6_46 (Nat.le_of_ble_eq_true rfl) (Nat.le_of_ble_eq_true rfl) dX6_copyFrom_103 (fun H locs hR => ?_)
  refine lv_aload_n hC.1 hC.2.1 dX6_copyFrom_106 rfl (lv_at hl 1 rfl) ?_
  obtain ⟨x23, e23, hF⟩ := bnd hF
  refine pw_gfr hC hR e23 flX6_37 dX6_copyFrom_107 ?_
  refine pw_iconst hC dX6_copyFrom_110 ?_
  refine lv_aload_n hC.1 hC.2.1 dX6_copyFrom_111 rfl (lv_at hl 0 rfl) ?_
  obtain ⟨x24, e24, hF⟩ := bnd hF
  refine pw_gfr hC hR e24 flX6_37 dX6_copyFrom_112 ?_
  refine pw_iconst hC dX6_copyFrom_115 ?_
  refine pw_bipush hC dX6_copyFrom_116 rfl ?_
  obtain ⟨h25, e25, hF⟩ := bnd hF
  refine pw_acpy hC hl.1 hR e25 kmX6_46 (Nat.le_of_ble_eq_true rfl) (Nat.le_of_ble_eq_true rfl) dX6_copyFrom_118 (fun H locs hR => ?_)
  refine lv_aload_n hC.1 hC.2.1 dX6_copyFrom_121 rfl (lv_at hl 1 rfl) ?_
  obtain ⟨x26, e26, hF⟩ := bnd hF
  refine pw_gfr hC hR e26 flX6_40 dX6_copyFrom_122 ?_
  refine pw_iconst hC dX6_copyFrom_125 ?_
  refine lv_aload_n hC.1 hC.2.1 dX6_copyFrom_126 rfl (lv_at hl 0 rfl) ?_
  obtain ⟨x27, e27, hF⟩ := bnd hF
  refine pw_gfr hC hR e27 flX6_40 dX6_copyFrom_127 ?_
  refine pw_iconst hC dX6_copyFrom_130 ?_
  refine pw_bipush hC dX6_copyFrom_131 rfl ?_
  obtain ⟨h28, e28, hF⟩ := bnd hF
  refine pw_acpy hC hl.1 hR e28 kmX6_46 (Nat.le_of_ble_eq_true rfl) (Nat.le_of_ble_eq_true rfl) dX6_copyFrom_133 (fun H locs hR => ?_)
  cases hF
  exact pw_vret hC hR dX6_copyFrom_136
abbrev rmX3_copyFrom : Room := { frames := 2, cells := 0, slots := 0, locals := 86 }
def FX3_copyFrom (h : PH) (v0 : Nat) (v1 : Nat) : Option (PH) :=
  (isO h 3 v0).bind fun _ =>
  (gfr h 3 v0 0).bind fun x1 =>
  (gfr h 3 v1 0).bind fun x2 =>
  (FX6_copyFrom h x1 x2).bind fun h3 =>
  (gfr h3 3 v0 1).bind fun x4 =>
  (gfr h3 3 v1 1).bind fun x5 =>
  (FX0_copyFrom h3 x4 x5).bind fun h6 =>
  (gfr h6 3 v1 2).bind fun x7 =>
  (pfr h6 3 v0 2 x7).bind fun h8 =>
  (gfi h8 3 v1 3).bind fun x9 =>
  (pfi h8 3 v0 3 x9).bind fun h10 =>
  some h10
theorem OX3_copyFrom {h : PH} {v0 : Nat} {v1 : Nat} {q : PH} (hF : FX3_copyFrom h v0 v1 = some q) : ∃ fs : List PV, h[v0]? = some (.inr (3, fs)) := by
  unfold FX3_copyFrom at hF
  obtain ⟨u0, e0, -⟩ := bnd hF
  exact isO_spec e0
set_option maxHeartbeats 4000000 in
set_option maxRecDepth 100000 in
theorem CX3_copyFrom {g : GP} {l : Launch} {ad : Nat → Nat} {h : PH} {v0 : Nat} {v1 : Nat} {q : PH} (hF : FX3_copyFrom h v0 v1 = some q) : CN g l yX3_copyFrom cX3_copyFrom 2 none rmX3_copyFrom ad h [.ref (ad v0), .ref (ad v1)] none q := by
  refine pw_met (by decide) (Nat.le_of_ble_eq_true rfl) ?_
  intro p e s m args below meth c ls hC hN hR hl
  have hl : lv_has ls 2 [(0, .ref (ad v0)), (1, .ref (ad v1))] := hl
  unfold FX3_copyFrom at hF
  obtain ⟨u0, e0, hF⟩ := bnd hF
  refine lv_aload_n hC.1 hC.2.1 dX3_copyFrom_0 rfl (lv_at hl 0 rfl) ?_
  obtain ⟨x1, e1, hF⟩ := bnd hF
  refine pw_gfr hC hR e1 flX3_12 dX3_copyFrom_1 ?_
  refine lv_aload_n hC.1 hC.2.1 dX3_copyFrom_4 rfl (lv_at hl 1 rfl) ?_
  obtain ⟨x2, e2, hF⟩ := bnd hF
  refine pw_gfr hC hR e2 flX3_12 dX3_copyFrom_5 ?_
  obtain ⟨h3, e3, hF⟩ := bnd hF
  obtain ⟨fs3, ho3⟩ := OX6_copyFrom e3
  refine pw_cVv (rest := []) hC hR lvX3_38 ho3 (CX6_copyFrom e3) ⟨rfl, rfl⟩ rfl hl.1 rfl ⟨Nat.le_of_ble_eq_true rfl, Nat.le_of_ble_eq_true rfl⟩ (Nat.le_of_ble_eq_true rfl) dX3_copyFrom_8 ⟨Nat.zero_le _, Nat.zero_le _⟩ (fun H locs hR => ?_)
  refine lv_aload_n hC.1 hC.2.1 dX3_copyFrom_11 rfl (lv_at hl 0 rfl) ?_
  obtain ⟨x4, e4, hF⟩ := bnd hF
  refine pw_gfr hC hR e4 flX3_21 dX3_copyFrom_12 ?_
  refine lv_aload_n hC.1 hC.2.1 dX3_copyFrom_15 rfl (lv_at hl 1 rfl) ?_
  obtain ⟨x5, e5, hF⟩ := bnd hF
  refine pw_gfr hC hR e5 flX3_21 dX3_copyFrom_16 ?_
  obtain ⟨h6, e6, hF⟩ := bnd hF
  obtain ⟨fs6, ho6⟩ := OX0_copyFrom e6
  refine pw_cVv (rest := []) hC hR lvX3_42 ho6 (CX0_copyFrom e6) ⟨rfl, rfl⟩ rfl hl.1 rfl ⟨Nat.le_of_ble_eq_true rfl, Nat.le_of_ble_eq_true rfl⟩ (Nat.le_of_ble_eq_true rfl) dX3_copyFrom_19 ⟨Nat.zero_le _, Nat.zero_le _⟩ (fun H locs hR => ?_)
  refine lv_aload_n hC.1 hC.2.1 dX3_copyFrom_22 rfl (lv_at hl 0 rfl) ?_
  refine lv_aload_n hC.1 hC.2.1 dX3_copyFrom_23 rfl (lv_at hl 1 rfl) ?_
  obtain ⟨x7, e7, hF⟩ := bnd hF
  refine pw_gfr hC hR e7 flX3_30 dX3_copyFrom_24 ?_
  obtain ⟨h8, e8, hF⟩ := bnd hF
  refine pw_pfr hC hR e8 fpX3_30 rfl (Or.inl rfl) dX3_copyFrom_27 (fun H locs hR => ?_)
  refine lv_aload_n hC.1 hC.2.1 dX3_copyFrom_30 rfl (lv_at hl 0 rfl) ?_
  refine lv_aload_n hC.1 hC.2.1 dX3_copyFrom_31 rfl (lv_at hl 1 rfl) ?_
  obtain ⟨x9, e9, hF⟩ := bnd hF
  refine pw_gfi hC hR e9 flX3_34 dX3_copyFrom_32 ?_
  obtain ⟨h10, e10, hF⟩ := bnd hF
  refine pw_pfi hC hR e10 fpX3_34 (Or.inl rfl) dX3_copyFrom_35 (fun H locs hR => ?_)
  cases hF
  exact pw_vret hC hR dX3_copyFrom_38
end
