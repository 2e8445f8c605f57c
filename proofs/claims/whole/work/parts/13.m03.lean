section
variable {p : Program} {l : Launch} {e : Env} {s : State} {m : MethodId} {args : Array Value} {below : List Frame} {meth : Method} {c : Code} {H : Heap} {locs : List Loc} {ls : Array Slot} {g : GP} {ad : Nat → Nat}
abbrev rmX4_takePredecessors : Room := { frames := 2, cells := 0, slots := 0, locals := 44 }
def JX4_takePredecessors_59 (h : PH) (v0 : Nat) (v1 : Int) (v2 : Int) (v3 : Int) : Option ((Int × Int × PH) ⊕ (((PH) ⊕ ((PH) ⊕ (Int × PH))))) :=
  (FX4_takeNumber h v0 0 (v1 - 1)).bind fun q3 =>
  if w32 q3.1 < 0 then (
    some (.inr (.inr (.inl q3.2)))
  ) else (
    some (.inl ((orI v2 (shlI 1 q3.1)), (v3 + 1), q3.2))
  )
set_option maxHeartbeats 4000000 in
set_option maxRecDepth 100000 in
theorem BX4_takePredecessors_59 {h : PH} {v0 : Nat} {v1 : Int} {v2 : Int} {v3 : Int} (hC : Cx g p s m args meth c cX4_takePredecessors 5 RX4 (some .int)) (hR : Rl g ad h s.heap H locs) (hl : lv_has ls 5 [(0, .ref (ad v0)), (1, .int (Int32.ofInt v1)), (2, .int (Int32.ofInt v2)), (3, .int (Int32.ofInt v3))]) {Q : State → Prop} {o : (Int × Int × PH) ⊕ (((PH) ⊕ ((PH) ⊕ (Int × PH))))} (hF : JX4_takePredecessors_59 h v0 v1 v2 v3 = some o) (hK : Sum.elim (fun st : Int × Int × PH => ∀ (H : Heap) (locs : List Loc) (ls : Array Slot), Rl g ad st.2.2 s.heap H locs → lv_has ls 5 [(0, .ref (ad v0)), (1, .int (Int32.ofInt v1)), (2, .int (Int32.ofInt st.1)), (3, .int (Int32.ofInt st.2.1))] → W p l e rmX4_takePredecessors s m args below meth c H locs 0 0 Q (F0 m 4 ls [])) (Sum.elim (fun ex : PH => ∀ (H : Heap) (locs : List Loc) (ls : Array Slot), Rl g ad ex s.heap H locs → lv_has ls 5 [(0, .ref (ad v0))] → W p l e rmX4_takePredecessors s m args below meth c H locs 0 0 Q (F0 m 50 ls [])) (Sum.elim (fun ex : PH => ∀ (H : Heap) (locs : List Loc) (ls : Array Slot), Rl g ad ex s.heap H locs → lv_has ls 5 [] → W p l e rmX4_takePredecessors s m args below meth c H locs 0 0 Q (F0 m 74 ls [])) (fun ex : Int × PH => ∀ (H : Heap) (locs : List Loc) (ls : Array Slot), Rl g ad ex.2 s.heap H locs → lv_has ls 5 [(2, .int (Int32.ofInt ex.1))] → W p l e rmX4_takePredecessors s m args below meth c H locs 0 0 Q (F0 m 89 ls [])))) o) : W p l e rmX4_takePredecessors s m args below meth c H locs 0 0 Q (F0 m 59 ls []) := by
  unfold JX4_takePredecessors_59 at hF
  refine lv_aload_n hC.1 hC.2.1 dX4_takePredecessors_59 rfl (lv_at hl 0 rfl) ?_
  refine pw_iconst hC dX4_takePredecessors_60 ?_
  refine lv_iload_n hC.1 hC.2.1 dX4_takePredecessors_61 rfl (lv_at hl 1 rfl) ?_
  refine pw_iconst hC dX4_takePredecessors_62 ?_
  refine pw_isub hC dX4_takePredecessors_63 ?_
  obtain ⟨q3, e3, hF⟩ := bnd hF
  obtain ⟨fs3, ho3⟩ := OX4_takeNumber e3
  refine pw_cVi (rest := []) hC hR lvX4_87 ho3 (CX4_takeNumber e3) ⟨rfl, rfl⟩ rfl hl.1 rfl ⟨Nat.le_of_ble_eq_true rfl, Nat.le_of_ble_eq_true rfl⟩ (Nat.le_of_ble_eq_true rfl) dX4_takePredecessors_64 ⟨Nat.zero_le _, Nat.zero_le _⟩ (fun H locs hR => ?_)
  refine lv_istore (lv' := [(4, .int (Int32.ofInt q3.1)), (0, .ref (ad v0)), (1, .int (Int32.ofInt v1)), (2, .int (Int32.ofInt v2)), (3, .int (Int32.ofInt v3))]) hC.1 hC.2.1 dX4_takePredecessors_67 hl (by decide) rfl (fun ls hl => ?_)
  refine lv_iload hC.1 hC.2.1 dX4_takePredecessors_69 (lv_at hl 0 rfl) ?_
  refine pw_ifge hC 76 dX4_takePredecessors_71 (by decide) (fun hc => ?_) (fun hc => ?_)
  · rw [if_neg hc] at hF
    refine lv_iload_n hC.1 hC.2.1 dX4_takePredecessors_76 rfl (lv_at hl 3 rfl) ?_
    refine pw_iconst hC dX4_takePredecessors_77 ?_
    refine lv_iload hC.1 hC.2.1 dX4_takePredecessors_78 (lv_at hl 0 rfl) ?_
    refine pw_ishl hC dX4_takePredecessors_80 ?_
    refine pw_ior hC dX4_takePredecessors_81 ?_
    refine lv_istore_n (lv' := [(2, .int (Int32.ofInt (orI v2 (shlI 1 q3.1)))), (4, .int (Int32.ofInt q3.1)), (0, .ref (ad v0)), (1, .int (Int32.ofInt v1)), (3, .int (Int32.ofInt v3))]) hC.1 hC.2.1 dX4_takePredecessors_82 rfl hl (by decide) rfl (fun ls hl => ?_)
    refine pw_iinc (lv' := [(3, .int (Int32.ofInt (v3 + 1))), (2, .int (Int32.ofInt (orI v2 (shlI 1 q3.1)))), (4, .int (Int32.ofInt q3.1)), (0, .ref (ad v0)), (1, .int (Int32.ofInt v1))]) hC hl 4 dX4_takePredecessors_83 rfl (by decide) rfl (fun ls hl => ?_)
    refine pw_goto hC 4 dX4_takePredecessors_86 (by decide) ?_
    cases hF
    exact hK _ _ _ hR (lv_sub hl [3, 4, 1, 0] rfl)
  · rw [if_pos hc] at hF
    cases hF
    exact hK _ _ _ hR (lv_sub hl [] rfl)
def JX4_takePredecessors_25 (h : PH) (v0 : Nat) (v1 : Int) (v2 : Int) (v3 : Int) : Option ((Int × Int × PH) ⊕ (((PH) ⊕ ((PH) ⊕ (Int × PH))))) :=
  (gfr h 4 v0 0).bind fun x1 =>
  (gfi h 5 x1 3).bind fun x2 =>
  if w32 x2 = w32 1 then (
    (gfr h 4 v0 0).bind fun x4 =>
    (gfi h 5 x4 6).bind fun x5 =>
    (FX7_hasBit h v2 x5).bind fun x6 =>
    if w32 x6 = 0 then (
      JX4_takePredecessors_59 h v0 v1 v2 v3
    ) else (
      some (.inr (.inl h))
    )
  ) else (
    JX4_takePredecessors_59 h v0 v1 v2 v3
  )
set_option maxHeartbeats 4000000 in
set_option maxRecDepth 100000 in
theorem BX4_takePredecessors_25 {h : PH} {v0 : Nat} {v1 : Int} {v2 : Int} {v3 : Int} (hC : Cx g p s m args meth c cX4_takePredecessors 5 RX4 (some .int)) (hR : Rl g ad h s.heap H locs) (hl : lv_has ls 5 [(0, .ref (ad v0)), (1, .int (Int32.ofInt v1)), (2, .int (Int32.ofInt v2)), (3, .int (Int32.ofInt v3))]) {Q : State → Prop} {o : (Int × Int × PH) ⊕ (((PH) ⊕ ((PH) ⊕ (Int × PH))))} (hF : JX4_takePredecessors_25 h v0 v1 v2 v3 = some o) (hK : Sum.elim (fun st : Int × Int × PH => ∀ (H : Heap) (locs : List Loc) (ls : Array Slot), Rl g ad st.2.2 s.heap H locs → lv_has ls 5 [(0, .ref (ad v0)), (1, .int (Int32.ofInt v1)), (2, .int (Int32.ofInt st.1)), (3, .int (Int32.ofInt st.2.1))] → W p l e rmX4_takePredecessors s m args below meth c H locs 0 0 Q (F0 m 4 ls [])) (Sum.elim (fun ex : PH => ∀ (H : Heap) (locs : List Loc) (ls : Array Slot), Rl g ad ex s.heap H locs → lv_has ls 5 [(0, .ref (ad v0))] → W p l e rmX4_takePredecessors s m args below meth c H locs 0 0 Q (F0 m 50 ls [])) (Sum.elim (fun ex : PH => ∀ (H : Heap) (locs : List Loc) (ls : Array Slot), Rl g ad ex s.heap H locs → lv_has ls 5 [] → W p l e rmX4_takePredecessors s m args below meth c H locs 0 0 Q (F0 m 74 ls [])) (fun ex : Int × PH => ∀ (H : Heap) (locs : List Loc) (ls : Array Slot), Rl g ad ex.2 s.heap H locs → lv_has ls 5 [(2, .int (Int32.ofInt ex.1))] → W p l e rmX4_takePredecessors s m args below meth c H locs 0 0 Q (F0 m 89 ls [])))) o) : W p l e rmX4_takePredecessors s m args below meth c H locs 0 0 Q (F0 m 25 ls []) := by
  unfold JX4_takePredecessors_25 at hF
  refine lv_aload_n hC.1 hC.2.1 dX4_takePredecessors_25 rfl (lv_at hl 0 rfl) ?_
  obtain ⟨x1, e1, hF⟩ := bnd hF
  refine pw_gfr hC hR e1 flX4_12 dX4_takePredecessors_26 ?_
  obtain ⟨x2, e2, hF⟩ := bnd hF
  refine pw_gfi hC hR e2 flX4_49 dX4_takePredecessors_29 ?_
  refine pw_iconst hC dX4_takePredecessors_32 ?_
  refine pw_icmpne hC 59 dX4_takePredecessors_33 (by decide) (fun hc => ?_) (fun hc => ?_)
  · rw [if_neg hc] at hF
    exact BX4_takePredecessors_59 hC hR (lv_sub hl [0, 1, 2, 3] rfl) hF hK
  · rw [if_pos hc] at hF
    refine lv_iload_n hC.1 hC.2.1 dX4_takePredecessors_36 rfl (lv_at hl 2 rfl) ?_
    refine lv_aload_n hC.1 hC.2.1 dX4_takePredecessors_37 rfl (lv_at hl 0 rfl) ?_
    obtain ⟨x4, e4, hF⟩ := bnd hF
    refine pw_gfr hC hR e4 flX4_12 dX4_takePredecessors_38 ?_
    obtain ⟨x5, e5, hF⟩ := bnd hF
    refine pw_gfi hC hR e5 flX4_147 dX4_takePredecessors_41 ?_
    obtain ⟨x6, e6, hF⟩ := bnd hF
    refine pw_cNi (rest := []) hC hR (by decide) lnX4_150 (CX7_hasBit e6) ⟨rfl, rfl⟩ rfl hl.1 rfl ⟨Nat.le_of_ble_eq_true rfl, Nat.le_of_ble_eq_true rfl⟩ (Nat.le_of_ble_eq_true rfl) dX4_takePredecessors_44 ⟨Nat.zero_le _, Nat.zero_le _⟩ (fun H locs hR => ?_)
    refine pw_ifeq hC 59 dX4_takePredecessors_47 (by decide) (fun hc => ?_) (fun hc => ?_)
    · rw [if_pos hc] at hF
      exact BX4_takePredecessors_59 hC hR (lv_sub hl [0, 1, 2, 3] rfl) hF hK
    · rw [if_neg hc] at hF
      cases hF
      exact hK _ _ _ hR (lv_sub hl [0] rfl)
def LX4_takePredecessors_4 (v0 : Nat) (v1 : Int) (v2 : Int) (v3 : Int) (h : PH) : Option ((Int × Int × PH) ⊕ (((PH) ⊕ ((PH) ⊕ (Int × PH))))) :=
  if w32 v3 = 0 then (
    JX4_takePredecessors_25 h v0 v1 v2 v3
  ) else (
    if w32 v3 < w32 32 then (
      (gfr h 4 v0 0).bind fun x7 =>
      (gfi h 5 x7 3).bind fun x8 =>
      if w32 x8 = w32 1 then (
        JX4_takePredecessors_25 h v0 v1 v2 v3
      ) else (
        some (.inr (.inr (.inr (v2, h))))
      )
    ) else (
      some (.inr (.inr (.inr (v2, h))))
    )
  )
set_option maxHeartbeats 4000000 in
set_option maxRecDepth 100000 in
theorem LRX4_takePredecessors_4 {v0 : Nat} {v1 : Int} {Q : State → Prop} (hC : Cx g p s m args meth c cX4_takePredecessors 5 RX4 (some .int)) : ∀ (n : Nat) (st : Int × Int × PH) (ex : ((PH) ⊕ ((PH) ⊕ (Int × PH)))), lp (fun st : Int × Int × PH => LX4_takePredecessors_4 v0 v1 st.1 st.2.1 st.2.2) n st = some ex → (Sum.elim (fun ex : PH => ∀ (H : Heap) (locs : List Loc) (ls : Array Slot), Rl g ad ex s.heap H locs → lv_has ls 5 [(0, .ref (ad v0))] → W p l e rmX4_takePredecessors s m args below meth c H locs 0 0 Q (F0 m 50 ls [])) (Sum.elim (fun ex : PH => ∀ (H : Heap) (locs : List Loc) (ls : Array Slot), Rl g ad ex s.heap H locs → lv_has ls 5 [] → W p l e rmX4_takePredecessors s m args below meth c H locs 0 0 Q (F0 m 74 ls [])) (fun ex : Int × PH => ∀ (H : Heap) (locs : List Loc) (ls : Array Slot), Rl g ad ex.2 s.heap H locs → lv_has ls 5 [(2, .int (Int32.ofInt ex.1))] → W p l e rmX4_takePredecessors s m args below meth c H locs 0 0 Q (F0 m 89 ls [])))) ex → ∀ (H : Heap) (locs : List Loc) (ls : Array Slot), Rl g ad st.2.2 s.heap H locs → lv_has ls 5 [(0, .ref (ad v0)), (1, .int (Int32.ofInt v1)), (2, .int (Int32.ofInt st.1)), (3, .int (Int32.ofInt st.2.1))] → W p l e rmX4_takePredecessors s m args below meth c H locs 0 0 Q (F0 m 4 ls []) := by
  refine lp_rule (Ph := (fun st : Int × Int × PH => ∀ (H : Heap) (locs : List Loc) (ls : Array Slot), Rl g ad st.2.2 s.heap H locs → lv_has ls 5 [(0, .ref (ad v0)), (1, .int (Int32.ofInt v1)), (2, .int (Int32.ofInt st.1)), (3, .int (Int32.ofInt st.2.1))] → W p l e rmX4_takePredecessors s m args below meth c H locs 0 0 Q (F0 m 4 ls []))) (Px := (Sum.elim (fun ex : PH => ∀ (H : Heap) (locs : List Loc) (ls : Array Slot), Rl g ad ex s.heap H locs → lv_has ls 5 [(0, .ref (ad v0))] → W p l e rmX4_takePredecessors s m args below meth c H locs 0 0 Q (F0 m 50 ls [])) (Sum.elim (fun ex : PH => ∀ (H : Heap) (locs : List Loc) (ls : Array Slot), Rl g ad ex s.heap H locs → lv_has ls 5 [] → W p l e rmX4_takePredecessors s m args below meth c H locs 0 0 Q (F0 m 74 ls [])) (fun ex : Int × PH => ∀ (H : Heap) (locs : List Loc) (ls : Array Slot), Rl g ad ex.2 s.heap H locs → lv_has ls 5 [(2, .int (Int32.ofInt ex.1))] → W p l e rmX4_takePredecessors s m args below meth c H locs 0 0 Q (F0 m 89 ls []))))) ?_
  rintro ⟨v2, v3, h⟩ o hF hK H locs ls hR hl
  have hR : Rl g ad h s.heap H locs := hR
  have hl : lv_has ls 5 [(0, .ref (ad v0)), (1, .int (Int32.ofInt v1)), (2, .int (Int32.ofInt v2)), (3, .int (Int32.ofInt v3))] := hl
  have hF : LX4_takePredecessors_4 v0 v1 v2 v3 h = some o := hF
  unfold LX4_takePredecessors_4 at hF
  refine lv_iload_n hC.1 hC.2.1 dX4_takePredecessors_4 rfl (lv_at hl 3 rfl) ?_
  refine pw_ifeq hC 25 dX4_takePredecessors_5 (by decide) (fun hc => ?_) (fun hc => ?_)
  · rw [if_pos hc] at hF
    exact BX4_takePredecessors_25 hC hR (lv_sub hl [0, 1, 2, 3] rfl) hF hK
  · rw [if_neg hc] at hF
    refine lv_iload_n hC.1 hC.2.1 dX4_takePredecessors_8 rfl (lv_at hl 3 rfl) ?_
    refine pw_bipush hC dX4_takePredecessors_9 rfl ?_
    refine pw_icmpge hC 89 dX4_takePredecessors_11 (by decide) (fun hc => ?_) (fun hc => ?_)
    · rw [if_neg hc] at hF
      cases hF
      exact hK _ _ _ hR (lv_sub hl [2] rfl)
    · rw [if_pos hc] at hF
      refine lv_aload_n hC.1 hC.2.1 dX4_takePredecessors_14 rfl (lv_at hl 0 rfl) ?_
      obtain ⟨x7, e7, hF⟩ := bnd hF
      refine pw_gfr hC hR e7 flX4_12 dX4_takePredecessors_15 ?_
      obtain ⟨x8, e8, hF⟩ := bnd hF
      refine pw_gfi hC hR e8 flX4_49 dX4_takePredecessors_18 ?_
      refine pw_iconst hC dX4_takePredecessors_21 ?_
      refine pw_icmpne hC 89 dX4_takePredecessors_22 (by decide) (fun hc => ?_) (fun hc => ?_)
      · rw [if_neg hc] at hF
        cases hF
        exact hK _ _ _ hR (lv_sub hl [2] rfl)
      · rw [if_pos hc] at hF
        exact BX4_takePredecessors_25 hC hR (lv_sub hl [0, 1, 2, 3] rfl) hF hK
def JX4_takePredecessors_89 (h : PH) (v2 : Int) : Option (Int × PH) :=
  some (v2, h)
set_option maxHeartbeats 4000000 in
set_option maxRecDepth 100000 in
theorem BX4_takePredecessors_89 {h : PH} {v2 : Int} (hC : Cx g p s m args meth c cX4_takePredecessors 5 RX4 (some .int)) (hR : Rl g ad h s.heap H locs) (hl : lv_has ls 5 [(2, .int (Int32.ofInt v2))]) {q : Int × PH} (hF : JX4_takePredecessors_89 h v2 = some q) : W p l e rmX4_takePredecessors s m args below meth c H locs 0 0 (MQ below (QcN g ad q.2 (some (.int (Int32.ofInt q.1)))) args s 0 0 (gA g)) (F0 m 89 ls []) := by
  unfold JX4_takePredecessors_89 at hF
  refine lv_iload_n hC.1 hC.2.1 dX4_takePredecessors_89 rfl (lv_at hl 0 rfl) ?_
  cases hF
  exact pw_iret hC hR dX4_takePredecessors_90
def FX4_takePredecessors (h : PH) (v0 : Nat) (v1 : Int) : Option (Int × PH) :=
  (isO h 4 v0).bind fun _ =>
  (lp (fun st : Int × Int × PH => LX4_takePredecessors_4 v0 v1 st.1 st.2.1 st.2.2) FU (0, 0, h)).bind fun ex9 =>
  Sum.elim (fun ex9 => (
    (FX4_fail ex9 v0 (-3)).bind fun q10 =>
    some ((-1), q10.2)
  )) (fun ex9 => (
    Sum.elim (fun ex9 => (
      some ((-1), ex9)
    )) (fun ex9 => (
      JX4_takePredecessors_89 ex9.2 ex9.1
    )) ex9
  )) ex9
theorem OX4_takePredecessors {h : PH} {v0 : Nat} {v1 : Int} {q : Int × PH} (hF : FX4_takePredecessors h v0 v1 = some q) : ∃ fs : List PV, h[v0]? = some (.inr (4, fs)) := by
  unfold FX4_takePredecessors at hF
  obtain ⟨u0, e0, -⟩ := bnd hF
  exact isO_spec e0
set_option maxHeartbeats 4000000 in
set_option maxRecDepth 100000 in
theorem CX4_takePredecessors {g : GP} {l : Launch} {ad : Nat → Nat} {h : PH} {v0 : Nat} {v1 : Int} {q : Int × PH} (hF : FX4_takePredecessors h v0 v1 = some q) : CN g l yX4_takePredecessors cX4_takePredecessors 5 (some .int) rmX4_takePredecessors ad h [.ref (ad v0), .int (Int32.ofInt v1)] (some (.int (Int32.ofInt q.1))) q.2 := by
  refine pw_met (by decide) (Nat.le_of_ble_eq_true rfl) ?_
  intro p e s m args below meth c ls hC hN hR hl
  have hl : lv_has ls 5 [(0, .ref (ad v0)), (1, .int (Int32.ofInt v1))] := hl
  unfold FX4_takePredecessors at hF
  obtain ⟨u0, e0, hF⟩ := bnd hF
  refine pw_iconst hC dX4_takePredecessors_0 ?_
  refine lv_istore_n (lv' := [(2, .int (Int32.ofInt 0)), (0, .ref (ad v0)), (1, .int (Int32.ofInt v1))]) hC.1 hC.2.1 dX4_takePredecessors_1 rfl hl (by decide) rfl (fun ls hl => ?_)
  refine pw_iconst hC dX4_takePredecessors_2 ?_
  refine lv_istore_n (lv' := [(3, .int (Int32.ofInt 0)), (2, .int (Int32.ofInt 0)), (0, .ref (ad v0)), (1, .int (Int32.ofInt v1))]) hC.1 hC.2.1 dX4_takePredecessors_3 rfl hl (by decide) rfl (fun ls hl => ?_)
  obtain ⟨ex9, e9, hF⟩ := bnd hF
  refine LRX4_takePredecessors_4 hC FU _ ex9 e9 ?_ _ _ _ hR (lv_sub hl [2, 3, 1, 0] rfl)
  rcases ex9 with ex9 | ex9
  · dsimp only [Sum.elim_inl, Sum.elim_inr] at hF
    intro H locs ls hR hl
    refine lv_aload_n hC.1 hC.2.1 dX4_takePredecessors_50 rfl (lv_at hl 0 rfl) ?_
    refine pw_bipush hC dX4_takePredecessors_51 rfl ?_
    obtain ⟨q10, e10, hF⟩ := bnd hF
    obtain ⟨fs10, ho10⟩ := OX4_fail e10
    refine pw_cVi (rest := []) hC hR lvX4_80 ho10 (CX4_fail e10) ⟨rfl, rfl⟩ rfl hl.1 rfl ⟨Nat.le_of_ble_eq_true rfl, Nat.le_of_ble_eq_true rfl⟩ (Nat.le_of_ble_eq_true rfl) dX4_takePredecessors_53 ⟨Nat.zero_le _, Nat.zero_le _⟩ (fun H locs hR => ?_)
    refine lv_pop hC.1 hC.2.1 dX4_takePredecessors_56 rfl ?_
    refine pw_iconst hC dX4_takePredecessors_57 ?_
    cases hF
    exact pw_iret hC hR dX4_takePredecessors_58
  · dsimp only [Sum.elim_inl, Sum.elim_inr] at hF
    rcases ex9 with ex9 | ex9
    · dsimp only [Sum.elim_inl, Sum.elim_inr] at hF
      intro H locs ls hR hl
      refine pw_iconst hC dX4_takePredecessors_74 ?_
      cases hF
      exact pw_iret hC hR dX4_takePredecessors_75
    · dsimp only [Sum.elim_inl, Sum.elim_inr] at hF
      intro H locs ls hR hl
      exact BX4_takePredecessors_89 hC hR (lv_sub hl [0] rfl) hF
abbrev rmX6_add : Room := { frames := 0, cells := 0, slots := 0, locals := 0 }
def FX6_add (h : PH) (v0 : Nat) (v1 : Int) (v2 : Int) (v3 : Int) (v4 : Int) : Option (PH) :=
  (isO h 6 v0).bind fun _ =>
  (gfi h 6 v0 0).bind fun x1 =>
  if w32 x1 < w32 32 then (
    (gfr h 6 v0 2).bind fun x2 =>
    (gfi h 6 v0 0).bind fun x3 =>
    (ast 0 h x2 x3 0).bind fun h4 =>
    (gfr h4 6 v0 3).bind fun x5 =>
    (gfi h4 6 v0 0).bind fun x6 =>
    (ast 0 h4 x5 x6 v1).bind fun h7 =>
    (gfr h7 6 v0 4).bind fun x8 =>
    (gfi h7 6 v0 0).bind fun x9 =>
    (ast 0 h7 x8 x9 v2).bind fun h10 =>
    (gfr h10 6 v0 5).bind fun x11 =>
    (gfi h10 6 v0 0).bind fun x12 =>
    (ast 0 h10 x11 x12 v3).bind fun h13 =>
    (gfr h13 6 v0 6).bind fun x14 =>
    (gfi h13 6 v0 0).bind fun x15 =>
    (ast 0 h13 x14 x15 v4).bind fun h16 =>
    (gfr h16 6 v0 7).bind fun x17 =>
    (gfi h16 6 v0 0).bind fun x18 =>
    (ast 0 h16 x17 x18 (-1)).bind fun h19 =>
    (gfr h19 6 v0 8).bind fun x20 =>
    (gfi h19 6 v0 0).bind fun x21 =>
    (ast 0 h19 x20 x21 (-1)).bind fun h22 =>
    (gfi h22 6 v0 0).bind fun x23 =>
    (pfi h22 6 v0 0 (x23 + 1)).bind fun h24 =>
    some h24
  ) else (
    some h
  )
theorem OX6_add {h : PH} {v0 : Nat} {v1 : Int} {v2 : Int} {v3 : Int} {v4 : Int} {q : PH} (hF : FX6_add h v0 v1 v2 v3 v4 = some q) : ∃ fs : List PV, h[v0]? = some (.inr (6, fs)) := by
  unfold FX6_add at hF
  obtain ⟨u0, e0, -⟩ := bnd hF
  exact isO_spec e0
set_option maxHeartbeats 4000000 in
set_option maxRecDepth 100000 in
theorem CX6_add {g : GP} {l : Launch} {ad : Nat → Nat} {h : PH} {v0 : Nat} {v1 : Int} {v2 : Int} {v3 : Int} {v4 : Int} {q : PH} (hF : FX6_add h v0 v1 v2 v3 v4 = some q) : CN g l yX6_add cX6_add 5 none rmX6_add ad h [.ref (ad v0), .int (Int32.ofInt v1), .int (Int32.ofInt v2), .int (Int32.ofInt v3), .int (Int32.ofInt v4)] none q := by
  refine pw_met (by decide) (Nat.le_of_ble_eq_true rfl) ?_
  intro p e s m args below meth c ls hC hN hR hl
  have hl : lv_has ls 5 [(0, .ref (ad v0)), (1, .int (Int32.ofInt v1)), (2, .int (Int32.ofInt v2)), (3, .int (Int32.ofInt v3)), (4, .int (Int32.ofInt v4))] := hl
  unfold FX6_add at hF
  obtain ⟨u0, e0, hF⟩ := bnd hF
  refine lv_aload_n hC.1 hC.2.1 dX6_add_0 rfl (lv_at hl 0 rfl) ?_
  obtain ⟨x1, e1, hF⟩ := bnd hF
  refine pw_gfi hC hR e1 flX6_9 dX6_add_1 ?_
  refine pw_bipush hC dX6_add_4 rfl ?_
  refine pw_icmplt hC 10 dX6_add_6 (by decide) (fun hc => ?_) (fun hc => ?_)
  · rw [if_pos hc] at hF
    refine lv_aload_n hC.1 hC.2.1 dX6_add_10 rfl (lv_at hl 0 rfl) ?_
    obtain ⟨x2, e2, hF⟩ := bnd hF
    refine pw_gfr hC hR e2 flX6_18 dX6_add_11 ?_
    refine lv_aload_n hC.1 hC.2.1 dX6_add_14 rfl (lv_at hl 0 rfl) ?_
    obtain ⟨x3, e3, hF⟩ := bnd hF
    refine pw_gfi hC hR e3 flX6_9 dX6_add_15 ?_
    refine pw_iconst hC dX6_add_18 ?_
    obtain ⟨h4, e4, hF⟩ := bnd hF
    refine pw_iast hC hR e4 dX6_add_19 (fun H locs hR => ?_)
    refine lv_aload_n hC.1 hC.2.1 dX6_add_20 rfl (lv_at hl 0 rfl) ?_
    obtain ⟨x5, e5, hF⟩ := bnd hF
    refine pw_gfr hC hR e5 flX6_22 dX6_add_21 ?_
    refine lv_aload_n hC.1 hC.2.1 dX6_add_24 rfl (lv_at hl 0 rfl) ?_
    obtain ⟨x6, e6, hF⟩ := bnd hF
    refine pw_gfi hC hR e6 flX6_9 dX6_add_25 ?_
    refine lv_iload_n hC.1 hC.2.1 dX6_add_28 rfl (lv_at hl 1 rfl) ?_
    obtain ⟨h7, e7, hF⟩ := bnd hF
    refine pw_iast hC hR e7 dX6_add_29 (fun H locs hR => ?_)
    refine lv_aload_n hC.1 hC.2.1 dX6_add_30 rfl (lv_at hl 0 rfl) ?_
    obtain ⟨x8, e8, hF⟩ := bnd hF
    refine pw_gfr hC hR e8 flX6_25 dX6_add_31 ?_
    refine lv_aload_n hC.1 hC.2.1 dX6_add_34 rfl (lv_at hl 0 rfl) ?_
    obtain ⟨x9, e9, hF⟩ := bnd hF
    refine pw_gfi hC hR e9 flX6_9 dX6_add_35 ?_
    refine lv_iload_n hC.1 hC.2.1 dX6_add_38 rfl (lv_at hl 2 rfl) ?_
    obtain ⟨h10, e10, hF⟩ := bnd hF
    refine pw_iast hC hR e10 dX6_add_39 (fun H locs hR => ?_)
    refine lv_aload_n hC.1 hC.2.1 dX6_add_40 rfl (lv_at hl 0 rfl) ?_
    obtain ⟨x11, e11, hF⟩ := bnd hF
    refine pw_gfr hC hR e11 flX6_28 dX6_add_41 ?_
    refine lv_aload_n hC.1 hC.2.1 dX6_add_44 rfl (lv_at hl 0 rfl) ?_
    obtain ⟨x12, e12, hF⟩ := bnd hF
    refine pw_gfi hC hR e12 flX6_9 dX6_add_45 ?_
    refine lv_iload_n hC.1 hC.2.1 dX6_add_48 rfl (lv_at hl 3 rfl) ?_
    obtain ⟨h13, e13, hF⟩ := bnd hF
    refine pw_iast hC hR e13 dX6_add_49 (fun H locs hR => ?_)
    refine lv_aload_n hC.1 hC.2.1 dX6_add_50 rfl (lv_at hl 0 rfl) ?_
    obtain ⟨x14, e14, hF⟩ := bnd hF
    refine pw_gfr hC hR e14 flX6_31 dX6_add_51 ?_
    refine lv_aload_n hC.1 hC.2.1 dX6_add_54 rfl (lv_at hl 0 rfl) ?_
    obtain ⟨x15, e15, hF⟩ := bnd hF
    refine pw_gfi hC hR e15 flX6_9 dX6_add_55 ?_
    refine lv_iload hC.1 hC.2.1 dX6_add_58 (lv_at hl 4 rfl) ?_
    obtain ⟨h16, e16, hF⟩ := bnd hF
    refine pw_iast hC hR e16 dX6_add_60 (fun H locs hR => ?_)
    refine lv_aload_n hC.1 hC.2.1 dX6_add_61 rfl (lv_at hl 0 rfl) ?_
    obtain ⟨x17, e17, hF⟩ := bnd hF
    refine pw_gfr hC hR e17 flX6_34 dX6_add_62 ?_
    refine lv_aload_n hC.1 hC.2.1 dX6_add_65 rfl (lv_at hl 0 rfl) ?_
    obtain ⟨x18, e18, hF⟩ := bnd hF
    refine pw_gfi hC hR e18 flX6_9 dX6_add_66 ?_
    refine pw_iconst hC dX6_add_69 ?_
    obtain ⟨h19, e19, hF⟩ := bnd hF
    refine pw_iast hC hR e19 dX6_add_70 (fun H locs hR => ?_)
    refine lv_aload_n hC.1 hC.2.1 dX6_add_71 rfl (lv_at hl 0 rfl) ?_
    obtain ⟨x20, e20, hF⟩ := bnd hF
    refine pw_gfr hC hR e20 flX6_37 dX6_add_72 ?_
    refine lv_aload_n hC.1 hC.2.1 dX6_add_75 rfl (lv_at hl 0 rfl) ?_
    obtain ⟨x21, e21, hF⟩ := bnd hF
    refine pw_gfi hC hR e21 flX6_9 dX6_add_76 ?_
    refine pw_iconst hC dX6_add_79 ?_
    obtain ⟨h22, e22, hF⟩ := bnd hF
    refine pw_iast hC hR e22 dX6_add_80 (fun H locs hR => ?_)
    refine lv_aload_n hC.1 hC.2.1 dX6_add_81 rfl (lv_at hl 0 rfl) ?_
    refine lv_dup hC.1 hC.2.1 dX6_add_82 rfl ?_
    obtain ⟨x23, e23, hF⟩ := bnd hF
    refine pw_gfi hC hR e23 flX6_9 dX6_add_83 ?_
    refine pw_iconst hC dX6_add_86 ?_
    refine pw_iadd hC dX6_add_87 ?_
    obtain ⟨h24, e24, hF⟩ := bnd hF
    refine pw_pfi hC hR e24 fpX6_9 (Or.inl rfl) dX6_add_88 (fun H locs hR => ?_)
    cases hF
    exact pw_vret hC hR dX6_add_91
  · rw [if_neg hc] at hF
    cases hF
    exact pw_vret hC hR dX6_add_9
abbrev rmX6_addFence : Room := { frames := 0, cells := 0, slots := 0, locals := 0 }
def JX6_addFence_32 (h : PH) : Option (PH) :=
  some h
set_option maxHeartbeats 4000000 in
set_option maxRecDepth 100000 in
theorem BX6_addFence_32 {h : PH} (hC : Cx g p s m args meth c cX6_addFence 1 RX6 none) (hR : Rl g ad h s.heap H locs) (hl : lv_has ls 1 []) {q : PH} (hF : JX6_addFence_32 h  = some q) : W p l e rmX6_addFence s m args below meth c H locs 0 0 (MQ below (QcN g ad q none) args s 0 0 (gA g)) (F0 m 32 ls []) := by
  unfold JX6_addFence_32 at hF
  cases hF
  exact pw_vret hC hR dX6_addFence_32
def FX6_addFence (h : PH) (v0 : Nat) : Option (PH) :=
  (isO h 6 v0).bind fun _ =>
  (gfi h 6 v0 1).bind fun x1 =>
  if w32 x1 < w32 8 then (
    (gfr h 6 v0 9).bind fun x2 =>
    (gfi h 6 v0 1).bind fun x3 =>
    (gfi h 6 v0 0).bind fun x4 =>
    (ast 0 h x2 x3 x4).bind fun h5 =>
    (gfi h5 6 v0 1).bind fun x6 =>
    (pfi h5 6 v0 1 (x6 + 1)).bind fun h7 =>
    JX6_addFence_32 h7
  ) else (
    JX6_addFence_32 h
  )
theorem OX6_addFence {h : PH} {v0 : Nat} {q : PH} (hF : FX6_addFence h v0 = some q) : ∃ fs : List PV, h[v0]? = some (.inr (6, fs)) := by
  unfold FX6_addFence at hF
  obtain ⟨u0, e0, -⟩ := bnd hF
  exact isO_spec e0
set_option maxHeartbeats 4000000 in
set_option maxRecDepth 100000 in
theorem CX6_addFence {g : GP} {l : Launch} {ad : Nat → Nat} {h : PH} {v0 : Nat} {q : PH} (hF : FX6_addFence h v0 = some q) : CN g l yX6_addFence cX6_addFence 1 none rmX6_addFence ad h [.ref (ad v0)] none q := by
  refine pw_met (by decide) (Nat.le_of_ble_eq_true rfl) ?_
  intro p e s m args below meth c ls hC hN hR hl
  have hl : lv_has ls 1 [(0, .ref (ad v0))] := hl
  unfold FX6_addFence at hF
  obtain ⟨u0, e0, hF⟩ := bnd hF
  refine lv_aload_n hC.1 hC.2.1 dX6_addFence_0 rfl (lv_at hl 0 rfl) ?_
  obtain ⟨x1, e1, hF⟩ := bnd hF
  refine pw_gfi hC hR e1 flX6_15 dX6_addFence_1 ?_
  refine pw_bipush hC dX6_addFence_4 rfl ?_
  refine pw_icmpge hC 32 dX6_addFence_6 (by decide) (fun hc => ?_) (fun hc => ?_)
  · rw [if_neg hc] at hF
    exact BX6_addFence_32 hC hR (lv_sub hl [] rfl) hF
  · rw [if_pos hc] at hF
    refine lv_aload_n hC.1 hC.2.1 dX6_addFence_9 rfl (lv_at hl 0 rfl) ?_
    obtain ⟨x2, e2, hF⟩ := bnd hF
    refine pw_gfr hC hR e2 flX6_40 dX6_addFence_10 ?_
    refine lv_aload_n hC.1 hC.2.1 dX6_addFence_13 rfl (lv_at hl 0 rfl) ?_
    obtain ⟨x3, e3, hF⟩ := bnd hF
    refine pw_gfi hC hR e3 flX6_15 dX6_addFence_14 ?_
    refine lv_aload_n hC.1 hC.2.1 dX6_addFence_17 rfl (lv_at hl 0 rfl) ?_
    obtain ⟨x4, e4, hF⟩ := bnd hF
    refine pw_gfi hC hR e4 flX6_9 dX6_addFence_18 ?_
    obtain ⟨h5, e5, hF⟩ := bnd hF
    refine pw_iast hC hR e5 dX6_addFence_21 (fun H locs hR => ?_)
    refine lv_aload_n hC.1 hC.2.1 dX6_addFence_22 rfl (lv_at hl 0 rfl) ?_
    refine lv_dup hC.1 hC.2.1 dX6_addFence_23 rfl ?_
    obtain ⟨x6, e6, hF⟩ := bnd hF
    refine pw_gfi hC hR e6 flX6_15 dX6_addFence_24 ?_
    refine pw_iconst hC dX6_addFence_27 ?_
    refine pw_iadd hC dX6_addFence_28 ?_
    obtain ⟨h7, e7, hF⟩ := bnd hF
    refine pw_pfi hC hR e7 fpX6_15 (Or.inl rfl) dX6_addFence_29 (fun H locs hR => ?_)
    exact BX6_addFence_32 hC hR (lv_sub hl [] rfl) hF
abbrev rmX5_addWord : Room := { frames := 0, cells := 0, slots := 0, locals := 0 }
def JX5_addWord_40 (h : PH) (v0 : Nat) (v1 : Int) (v2 : Int) : Option ((Int × PH) ⊕ (PH)) :=
  some (.inl ((v2 + -8), h))
set_option maxHeartbeats 4000000 in
set_option maxRecDepth 100000 in
theorem BX5_addWord_40 {h : PH} {v0 : Nat} {v1 : Int} {v2 : Int} (hC : Cx g p s m args meth c cX5_addWord 3 RX5 none) (hR : Rl g ad h s.heap H locs) (hl : lv_has ls 3 [(0, .ref (ad v0)), (1, .int (Int32.ofInt v1)), (2, .int (Int32.ofInt v2))]) {Q : State → Prop} {o : (Int × PH) ⊕ (PH)} (hF : JX5_addWord_40 h v0 v1 v2 = some o) (hK : Sum.elim (fun st : Int × PH => ∀ (H : Heap) (locs : List Loc) (ls : Array Slot), Rl g ad st.2 s.heap H locs → lv_has ls 3 [(0, .ref (ad v0)), (1, .int (Int32.ofInt v1)), (2, .int (Int32.ofInt st.1))] → W p l e rmX5_addWord s m args below meth c H locs 0 0 Q (F0 m 3 ls [])) (fun ex : PH => ∀ (H : Heap) (locs : List Loc) (ls : Array Slot), Rl g ad ex s.heap H locs → lv_has ls 3 [] → W p l e rmX5_addWord s m args below meth c H locs 0 0 Q (F0 m 46 ls [])) o) : W p l e rmX5_addWord s m args below meth c H locs 0 0 Q (F0 m 40 ls []) := by
  unfold JX5_addWord_40 at hF
  refine pw_iinc (lv' := [(2, .int (Int32.ofInt (v2 + -8))), (0, .ref (ad v0)), (1, .int (Int32.ofInt v1))]) hC hl 2 dX5_addWord_40 rfl (by decide) rfl (fun ls hl => ?_)
  refine pw_goto hC 3 dX5_addWord_43 (by decide) ?_
  cases hF
  exact hK _ _ _ hR (lv_sub hl [1, 2, 0] rfl)
def LX5_addWord_3 (v0 : Nat) (v1 : Int) (v2 : Int) (h : PH) : Option ((Int × PH) ⊕ (PH)) :=
  if w32 v2 < 0 then (
    some (.inr h)
  ) else (
    (gfi h 5 v0 1).bind fun x1 =>
    if w32 x1 < w32 900 then (
      (gfr h 5 v0 0).bind fun x2 =>
      (gfi h 5 v0 1).bind fun x3 =>
      (ast 1 h x2 x3 (sbI (ushrI v1 v2))).bind fun h4 =>
      (gfi h4 5 v0 1).bind fun x5 =>
      (pfi h4 5 v0 1 (x5 + 1)).bind fun h6 =>
      JX5_addWord_40 h6 v0 v1 v2
    ) else (
      JX5_addWord_40 h v0 v1 v2
    )
  )
set_option maxHeartbeats 4000000 in
set_option maxRecDepth 100000 in
theorem LRX5_addWord_3 {v0 : Nat} {v1 : Int} {Q : State → Prop} (hC : Cx g p s m args meth c cX5_addWord 3 RX5 none) : ∀ (n : Nat) (st : Int × PH) (ex : PH), lp (fun st : Int × PH => LX5_addWord_3 v0 v1 st.1 st.2) n st = some ex → (fun ex : PH => ∀ (H : Heap) (locs : List Loc) (ls : Array Slot), Rl g ad ex s.heap H locs → lv_has ls 3 [] → W p l e rmX5_addWord s m args below meth c H locs 0 0 Q (F0 m 46 ls [])) ex → ∀ (H : Heap) (locs : List Loc) (ls : Array Slot), Rl g ad st.2 s.heap H locs → lv_has ls 3 [(0, .ref (ad v0)), (1, .int (Int32.ofInt v1)), (2, .int (Int32.ofInt st.1))] → W p l e rmX5_addWord s m args below meth c H locs 0 0 Q (F0 m 3 ls []) := by
  refine lp_rule (Ph := (fun st : Int × PH => ∀ (H : Heap) (locs : List Loc) (ls : Array Slot), Rl g ad st.2 s.heap H locs → lv_has ls 3 [(0, .ref (ad v0)), (1, .int (Int32.ofInt v1)), (2, .int (Int32.ofInt st.1))] → W p l e rmX5_addWord s m args below meth c H locs 0 0 Q (F0 m 3 ls []))) (Px := (fun ex : PH => ∀ (H : Heap) (locs : List Loc) (ls : Array Slot), Rl g ad ex s.heap H locs → lv_has ls 3 [] → W p l e rmX5_addWord s m args below meth c H locs 0 0 Q (F0 m 46 ls []))) ?_
  rintro ⟨v2, h⟩ o hF hK H locs ls hR hl
  have hR : Rl g ad h s.heap H locs := hR
  have hl : lv_has ls 3 [(0, .ref (ad v0)), (1, .int (Int32.ofInt v1)), (2, .int (Int32.ofInt v2))] := hl
  have hF : LX5_addWord_3 v0 v1 v2 h = some o := hF
  unfold LX5_addWord_3 at hF
  refine lv_iload_n hC.1 hC.2.1 dX5_addWord_3 rfl (lv_at hl 2 rfl) ?_
  refine pw_iflt hC 46 dX5_addWord_4 (by decide) (fun hc => ?_) (fun hc => ?_)
  · rw [if_pos hc] at hF
    cases hF
    exact hK _ _ _ hR (lv_sub hl [] rfl)
  · rw [if_neg hc] at hF
    refine lv_aload_n hC.1 hC.2.1 dX5_addWord_7 rfl (lv_at hl 0 rfl) ?_
    obtain ⟨x1, e1, hF⟩ := bnd hF
    refine pw_gfi hC hR e1 flX5_15 dX5_addWord_8 ?_
    refine pw_sipush hC dX5_addWord_11 rfl ?_
    refine pw_icmpge hC 40 dX5_addWord_14 (by decide) (fun hc => ?_) (fun hc => ?_)
    · rw [if_neg hc] at hF
      exact BX5_addWord_40 hC hR (lv_sub hl [0, 1, 2] rfl) hF hK
    · rw [if_pos hc] at hF
      refine lv_aload_n hC.1 hC.2.1 dX5_addWord_17 rfl (lv_at hl 0 rfl) ?_
      obtain ⟨x2, e2, hF⟩ := bnd hF
      refine pw_gfr hC hR e2 flX5_9 dX5_addWord_18 ?_
      refine lv_aload_n hC.1 hC.2.1 dX5_addWord_21 rfl (lv_at hl 0 rfl) ?_
      obtain ⟨x3, e3, hF⟩ := bnd hF
      refine pw_gfi hC hR e3 flX5_15 dX5_addWord_22 ?_
      refine lv_iload_n hC.1 hC.2.1 dX5_addWord_25 rfl (lv_at hl 1 rfl) ?_
      refine lv_iload_n hC.1 hC.2.1 dX5_addWord_26 rfl (lv_at hl 2 rfl) ?_
      refine pw_iushr hC dX5_addWord_27 ?_
      refine pw_i2b hC dX5_addWord_28 ?_
      obtain ⟨h4, e4, hF⟩ := bnd hF
      refine pw_bast hC hR e4 dX5_addWord_29 (fun H locs hR => ?_)
      refine lv_aload_n hC.1 hC.2.1 dX5_addWord_30 rfl (lv_at hl 0 rfl) ?_
      refine lv_dup hC.1 hC.2.1 dX5_addWord_31 rfl ?_
      obtain ⟨x5, e5, hF⟩ := bnd hF
      refine pw_gfi hC hR e5 flX5_15 dX5_addWord_32 ?_
      refine pw_iconst hC dX5_addWord_35 ?_
      refine pw_iadd hC dX5_addWord_36 ?_
      obtain ⟨h6, e6, hF⟩ := bnd hF
      refine pw_pfi hC hR e6 fpX5_15 (Or.inl rfl) dX5_addWord_37 (fun H locs hR => ?_)
      exact BX5_addWord_40 hC hR (lv_sub hl [0, 1, 2] rfl) hF hK
def FX5_addWord (h : PH) (v0 : Nat) (v1 : Int) : Option (PH) :=
  (isO h 5 v0).bind fun _ =>
  (lp (fun st : Int × PH => LX5_addWord_3 v0 v1 st.1 st.2) FU (24, h)).bind fun ex7 =>
  some ex7
theorem OX5_addWord {h : PH} {v0 : Nat} {v1 : Int} {q : PH} (hF : FX5_addWord h v0 v1 = some q) : ∃ fs : List PV, h[v0]? = some (.inr (5, fs)) := by
  unfold FX5_addWord at hF
  obtain ⟨u0, e0, -⟩ := bnd hF
  exact isO_spec e0
set_option maxHeartbeats 4000000 in
set_option maxRecDepth 100000 in
theorem CX5_addWord {g : GP} {l : Launch} {ad : Nat → Nat} {h : PH} {v0 : Nat} {v1 : Int} {q : PH} (hF : FX5_addWord h v0 v1 = some q) : CN g l yX5_addWord cX5_addWord 3 none rmX5_addWord ad h [.ref (ad v0), .int (Int32.ofInt v1)] none q := by
  refine pw_met (by decide) (Nat.le_of_ble_eq_true rfl) ?_
  intro p e s m args below meth c ls hC hN hR hl
  have hl : lv_has ls 3 [(0, .ref (ad v0)), (1, .int (Int32.ofInt v1))] := hl
  unfold FX5_addWord at hF
  obtain ⟨u0, e0, hF⟩ := bnd hF
  refine pw_bipush hC dX5_addWord_0 rfl ?_
  refine lv_istore_n (lv' := [(2, .int (Int32.ofInt 24)), (0, .ref (ad v0)), (1, .int (Int32.ofInt v1))]) hC.1 hC.2.1 dX5_addWord_2 rfl hl (by decide) rfl (fun ls hl => ?_)
  obtain ⟨ex7, e7, hF⟩ := bnd hF
  refine LRX5_addWord_3 hC FU _ ex7 e7 ?_ _ _ _ hR (lv_sub hl [1, 2, 0] rfl)
  intro H locs ls hR hl
  cases hF
  exact pw_vret hC hR dX5_addWord_46
abbrev rmX6_finishedTotal : Room := { frames := 1, cells := 0, slots := 0, locals := 22 }
def FX6_finishedTotal (h : PH) (v0 : Nat) : Option (Int) :=
  (isO h 6 v0).bind fun _ =>
  (gfi h 6 v0 0).bind fun x1 =>
  (FX6_unfinishedBits h v0).bind fun x2 =>
  (FJ6_bitCount_0f7a4 h x2).bind fun x3 =>
  some (x1 - x3)
theorem OX6_finishedTotal {h : PH} {v0 : Nat} {q : Int} (hF : FX6_finishedTotal h v0 = some q) : ∃ fs : List PV, h[v0]? = some (.inr (6, fs)) := by
  unfold FX6_finishedTotal at hF
  obtain ⟨u0, e0, -⟩ := bnd hF
  exact isO_spec e0
set_option maxHeartbeats 4000000 in
set_option maxRecDepth 100000 in
theorem CX6_finishedTotal {g : GP} {l : Launch} {ad : Nat → Nat} {h : PH} {v0 : Nat} {q : Int} (hF : FX6_finishedTotal h v0 = some q) : CN g l yX6_finishedTotal cX6_finishedTotal 1 (some .int) rmX6_finishedTotal ad h [.ref (ad v0)] (some (.int (Int32.ofInt q))) h := by
  refine pw_met (by decide) (Nat.le_of_ble_eq_true rfl) ?_
  intro p e s m args below meth c ls hC hN hR hl
  have hl : lv_has ls 1 [(0, .ref (ad v0))] := hl
  unfold FX6_finishedTotal at hF
  obtain ⟨u0, e0, hF⟩ := bnd hF
  refine lv_aload_n hC.1 hC.2.1 dX6_finishedTotal_0 rfl (lv_at hl 0 rfl) ?_
  obtain ⟨x1, e1, hF⟩ := bnd hF
  refine pw_gfi hC hR e1 flX6_9 dX6_finishedTotal_1 ?_
  refine lv_aload_n hC.1 hC.2.1 dX6_finishedTotal_4 rfl (lv_at hl 0 rfl) ?_
  obtain ⟨x2, e2, hF⟩ := bnd hF
  obtain ⟨fs2, ho2⟩ := OX6_unfinishedBits e2
  refine pw_cVi (rest := [.int (Int32.ofInt x1)]) hC hR lvX6_52 ho2 (CX6_unfinishedBits e2) ⟨rfl, rfl⟩ rfl hl.1 rfl ⟨Nat.le_of_ble_eq_true rfl, Nat.le_of_ble_eq_true rfl⟩ (Nat.le_of_ble_eq_true rfl) dX6_finishedTotal_5 ⟨Nat.zero_le _, Nat.zero_le _⟩ (fun H locs hR => ?_)
  obtain ⟨x3, e3, hF⟩ := bnd hF
  refine pw_cSi (rest := [.int (Int32.ofInt x1)]) hC hR lsX6_56 (CJ6_bitCount_0f7a4 e3) ⟨rfl, rfl⟩ rfl hl.1 rfl ⟨Nat.le_of_ble_eq_true rfl, Nat.le_of_ble_eq_true rfl⟩ (Nat.le_of_ble_eq_true rfl) dX6_finishedTotal_8 ⟨Nat.zero_le _, Nat.zero_le _⟩ (fun H locs hR => ?_)
  refine pw_isub hC dX6_finishedTotal_11 ?_
  cases hF
  exact pw_iret hC hR dX6_finishedTotal_12
abbrev rmX6_longestChainBefore : Room := { frames := 1, cells := 0, slots := 0, locals := 24 }
def JX6_longestChainBefore_29 (h : PH) (v0 : Nat) (v1 : Int) (v2 : Int) (v3 : Int) : Option ((Int × Int) ⊕ (Int)) :=
  some (.inl (v2, (v3 + 1)))
set_option maxHeartbeats 4000000 in
set_option maxRecDepth 100000 in
theorem BX6_longestChainBefore_29 {h : PH} {v0 : Nat} {v1 : Int} {v2 : Int} {v3 : Int} (hC : Cx g p s m args meth c cX6_longestChainBefore 5 RX6 (some .int)) (hR : Rl g ad h s.heap H locs) (hl : lv_has ls 5 [(0, .ref (ad v0)), (1, .int (Int32.ofInt v1)), (2, .int (Int32.ofInt v2)), (3, .int (Int32.ofInt v3))]) {Q : State → Prop} {o : (Int × Int) ⊕ (Int)} (hF : JX6_longestChainBefore_29 h v0 v1 v2 v3 = some o) (hK : Sum.elim (fun st : Int × Int => ∀ (H : Heap) (locs : List Loc) (ls : Array Slot), Rl g ad h s.heap H locs → lv_has ls 5 [(0, .ref (ad v0)), (1, .int (Int32.ofInt v1)), (2, .int (Int32.ofInt st.1)), (3, .int (Int32.ofInt st.2))] → W p l e rmX6_longestChainBefore s m args below meth c H locs 0 0 Q (F0 m 4 ls [])) (fun ex : Int => ∀ (H : Heap) (locs : List Loc) (ls : Array Slot), Rl g ad h s.heap H locs → lv_has ls 5 [(0, .ref (ad v0)), (1, .int (Int32.ofInt v1)), (2, .int (Int32.ofInt ex))] → W p l e rmX6_longestChainBefore s m args below meth c H locs 0 0 Q (F0 m 35 ls [])) o) : W p l e rmX6_longestChainBefore s m args below meth c H locs 0 0 Q (F0 m 29 ls []) := by
  unfold JX6_longestChainBefore_29 at hF
  refine pw_iinc (lv' := [(3, .int (Int32.ofInt (v3 + 1))), (0, .ref (ad v0)), (1, .int (Int32.ofInt v1)), (2, .int (Int32.ofInt v2))]) hC hl 3 dX6_longestChainBefore_29 rfl (by decide) rfl (fun ls hl => ?_)
  refine pw_goto hC 4 dX6_longestChainBefore_32 (by decide) ?_
  cases hF
  exact hK _ _ _ hR (lv_sub hl [1, 2, 3, 0] rfl)
def LX6_longestChainBefore_4 (h : PH) (v0 : Nat) (v1 : Int) (v2 : Int) (v3 : Int) : Option ((Int × Int) ⊕ (Int)) :=
  (gfi h 6 v0 1).bind fun x1 =>
  if w32 v3 < w32 x1 then (
    (gfr h 6 v0 9).bind fun x2 =>
    (ald 0 h x2 v3).bind fun x3 =>
    if w32 v1 < w32 x3 then (
      JX6_longestChainBefore_29 h v0 v1 v2 v3
    ) else (
      (gfr h 6 v0 9).bind fun x4 =>
      (ald 0 h x4 v3).bind fun x5 =>
      JX6_longestChainBefore_29 h v0 v1 x5 v3
    )
  ) else (
    some (.inr v2)
  )
set_option maxHeartbeats 4000000 in
set_option maxRecDepth 100000 in
theorem LRX6_longestChainBefore_4 {h : PH} {v0 : Nat} {v1 : Int} {Q : State → Prop} (hC : Cx g p s m args meth c cX6_longestChainBefore 5 RX6 (some .int)) : ∀ (n : Nat) (st : Int × Int) (ex : Int), lp (fun st : Int × Int => LX6_longestChainBefore_4 h v0 v1 st.1 st.2) n st = some ex → (fun ex : Int => ∀ (H : Heap) (locs : List Loc) (ls : Array Slot), Rl g ad h s.heap H locs → lv_has ls 5 [(0, .ref (ad v0)), (1, .int (Int32.ofInt v1)), (2, .int (Int32.ofInt ex))] → W p l e rmX6_longestChainBefore s m args below meth c H locs 0 0 Q (F0 m 35 ls [])) ex → ∀ (H : Heap) (locs : List Loc) (ls : Array Slot), Rl g ad h s.heap H locs → lv_has ls 5 [(0, .ref (ad v0)), (1, .int (Int32.ofInt v1)), (2, .int (Int32.ofInt st.1)), (3, .int (Int32.ofInt st.2))] → W p l e rmX6_longestChainBefore s m args below meth c H locs 0 0 Q (F0 m 4 ls []) := by
  refine lp_rule (Ph := (fun st : Int × Int => ∀ (H : Heap) (locs : List Loc) (ls : Array Slot), Rl g ad h s.heap H locs → lv_has ls 5 [(0, .ref (ad v0)), (1, .int (Int32.ofInt v1)), (2, .int (Int32.ofInt st.1)), (3, .int (Int32.ofInt st.2))] → W p l e rmX6_longestChainBefore s m args below meth c H locs 0 0 Q (F0 m 4 ls []))) (Px := (fun ex : Int => ∀ (H : Heap) (locs : List Loc) (ls : Array Slot), Rl g ad h s.heap H locs → lv_has ls 5 [(0, .ref (ad v0)), (1, .int (Int32.ofInt v1)), (2, .int (Int32.ofInt ex))] → W p l e rmX6_longestChainBefore s m args below meth c H locs 0 0 Q (F0 m 35 ls []))) ?_
  rintro ⟨v2, v3⟩ o hF hK H locs ls hR hl
  have hR : Rl g ad h s.heap H locs := hR
  have hl : lv_has ls 5 [(0, .ref (ad v0)), (1, .int (Int32.ofInt v1)), (2, .int (Int32.ofInt v2)), (3, .int (Int32.ofInt v3))] := hl
  have hF : LX6_longestChainBefore_4 h v0 v1 v2 v3 = some o := hF
  unfold LX6_longestChainBefore_4 at hF
  refine lv_iload_n hC.1 hC.2.1 dX6_longestChainBefore_4 rfl (lv_at hl 3 rfl) ?_
  refine lv_aload_n hC.1 hC.2.1 dX6_longestChainBefore_5 rfl (lv_at hl 0 rfl) ?_
  obtain ⟨x1, e1, hF⟩ := bnd hF
  refine pw_gfi hC hR e1 flX6_15 dX6_longestChainBefore_6 ?_
  refine pw_icmpge hC 35 dX6_longestChainBefore_9 (by decide) (fun hc => ?_) (fun hc => ?_)
  · rw [if_neg hc] at hF
    cases hF
    exact hK _ _ _ hR (lv_sub hl [0, 1, 2] rfl)
  · rw [if_pos hc] at hF
    refine lv_aload_n hC.1 hC.2.1 dX6_longestChainBefore_12 rfl (lv_at hl 0 rfl) ?_
    obtain ⟨x2, e2, hF⟩ := bnd hF
    refine pw_gfr hC hR e2 flX6_40 dX6_longestChainBefore_13 ?_
    refine lv_iload_n hC.1 hC.2.1 dX6_longestChainBefore_16 rfl (lv_at hl 3 rfl) ?_
    obtain ⟨x3, e3, hF⟩ := bnd hF
    refine pw_iald hC hR e3 dX6_longestChainBefore_17 ?_
    refine lv_iload_n hC.1 hC.2.1 dX6_longestChainBefore_18 rfl (lv_at hl 1 rfl) ?_
    refine pw_icmpgt hC 29 dX6_longestChainBefore_19 (by decide) (fun hc => ?_) (fun hc => ?_)
    · rw [if_pos hc] at hF
      exact BX6_longestChainBefore_29 hC hR (lv_sub hl [0, 1, 2, 3] rfl) hF hK
    · rw [if_neg hc] at hF
      refine lv_aload_n hC.1 hC.2.1 dX6_longestChainBefore_22 rfl (lv_at hl 0 rfl) ?_
      obtain ⟨x4, e4, hF⟩ := bnd hF
      refine pw_gfr hC hR e4 flX6_40 dX6_longestChainBefore_23 ?_
      refine lv_iload_n hC.1 hC.2.1 dX6_longestChainBefore_26 rfl (lv_at hl 3 rfl) ?_
      obtain ⟨x5, e5, hF⟩ := bnd hF
      refine pw_iald hC hR e5 dX6_longestChainBefore_27 ?_
      refine lv_istore_n (lv' := [(2, .int (Int32.ofInt x5)), (0, .ref (ad v0)), (1, .int (Int32.ofInt v1)), (3, .int (Int32.ofInt v3))]) hC.1 hC.2.1 dX6_longestChainBefore_28 rfl hl (by decide) rfl (fun ls hl => ?_)
      exact BX6_longestChainBefore_29 hC hR (lv_sub hl [1, 2, 0, 3] rfl) hF hK
def JX6_longestChainBefore_78 (h : PH) (v0 : Nat) (v1 : Int) (v2 : Int) (v3 : Int) (v4 : Int) : Option ((Int × Int) ⊕ (Int)) :=
  some (.inl (v3, (v4 + 1)))
set_option maxHeartbeats 4000000 in
set_option maxRecDepth 100000 in
theorem BX6_longestChainBefore_78 {h : PH} {v0 : Nat} {v1 : Int} {v2 : Int} {v3 : Int} {v4 : Int} (hC : Cx g p s m args meth c cX6_longestChainBefore 5 RX6 (some .int)) (hR : Rl g ad h s.heap H locs) (hl : lv_has ls 5 [(0, .ref (ad v0)), (1, .int (Int32.ofInt v1)), (2, .int (Int32.ofInt v2)), (3, .int (Int32.ofInt v3)), (4, .int (Int32.ofInt v4))]) {Q : State → Prop} {o : (Int × Int) ⊕ (Int)} (hF : JX6_longestChainBefore_78 h v0 v1 v2 v3 v4 = some o) (hK : Sum.elim (fun st : Int × Int => ∀ (H : Heap) (locs : List Loc) (ls : Array Slot), Rl g ad h s.heap H locs → lv_has ls 5 [(0, .ref (ad v0)), (1, .int (Int32.ofInt v1)), (2, .int (Int32.ofInt v2)), (3, .int (Int32.ofInt st.1)), (4, .int (Int32.ofInt st.2))] → W p l e rmX6_longestChainBefore s m args below meth c H locs 0 0 Q (F0 m 40 ls [])) (fun ex : Int => ∀ (H : Heap) (locs : List Loc) (ls : Array Slot), Rl g ad h s.heap H locs → lv_has ls 5 [(3, .int (Int32.ofInt ex))] → W p l e rmX6_longestChainBefore s m args below meth c H locs 0 0 Q (F0 m 84 ls [])) o) : W p l e rmX6_longestChainBefore s m args below meth c H locs 0 0 Q (F0 m 78 ls []) := by
  unfold JX6_longestChainBefore_78 at hF
  refine pw_iinc (lv' := [(4, .int (Int32.ofInt (v4 + 1))), (0, .ref (ad v0)), (1, .int (Int32.ofInt v1)), (2, .int (Int32.ofInt v2)), (3, .int (Int32.ofInt v3))]) hC hl 4 dX6_longestChainBefore_78 rfl (by decide) rfl (fun ls hl => ?_)
  refine pw_goto hC 40 dX6_longestChainBefore_81 (by decide) ?_
  cases hF
  exact hK _ _ _ hR (lv_sub hl [1, 2, 3, 4, 0] rfl)
def JX6_longestChainBefore_66 (h : PH) (v0 : Nat) (v1 : Int) (v2 : Int) (v3 : Int) (v4 : Int) : Option ((Int × Int) ⊕ (Int)) :=
  (gfr h 6 v0 10).bind fun x7 =>
  (ald 0 h x7 v4).bind fun x8 =>
  JX6_longestChainBefore_78 h v0 v1 v2 (maxI v3 x8) v4
set_option maxHeartbeats 4000000 in
set_option maxRecDepth 100000 in
theorem BX6_longestChainBefore_66 {h : PH} {v0 : Nat} {v1 : Int} {v2 : Int} {v3 : Int} {v4 : Int} (hC : Cx g p s m args meth c cX6_longestChainBefore 5 RX6 (some .int)) (hR : Rl g ad h s.heap H locs) (hl : lv_has ls 5 [(0, .ref (ad v0)), (1, .int (Int32.ofInt v1)), (2, .int (Int32.ofInt v2)), (3, .int (Int32.ofInt v3)), (4, .int (Int32.ofInt v4))]) {Q : State → Prop} {o : (Int × Int) ⊕ (Int)} (hF : JX6_longestChainBefore_66 h v0 v1 v2 v3 v4 = some o) (hK : Sum.elim (fun st : Int × Int => ∀ (H : Heap) (locs : List Loc) (ls : Array Slot), Rl g ad h s.heap H locs → lv_has ls 5 [(0, .ref (ad v0)), (1, .int (Int32.ofInt v1)), (2, .int (Int32.ofInt v2)), (3, .int (Int32.ofInt st.1)), (4, .int (Int32.ofInt st.2))] → W p l e rmX6_longestChainBefore s m args below meth c H locs 0 0 Q (F0 m 40 ls [])) (fun ex : Int => ∀ (H : Heap) (locs : List Loc) (ls : Array Slot), Rl g ad h s.heap H locs → lv_has ls 5 [(3, .int (Int32.ofInt ex))] → W p l e rmX6_longestChainBefore s m args below meth c H locs 0 0 Q (F0 m 84 ls [])) o) : W p l e rmX6_longestChainBefore s m args below meth c H locs 0 0 Q (F0 m 66 ls []) := by
  unfold JX6_longestChainBefore_66 at hF
  refine lv_iload_n hC.1 hC.2.1 dX6_longestChainBefore_66 rfl (lv_at hl 3 rfl) ?_
  refine lv_aload_n hC.1 hC.2.1 dX6_longestChainBefore_67 rfl (lv_at hl 0 rfl) ?_
  obtain ⟨x7, e7, hF⟩ := bnd hF
  refine pw_gfr hC hR e7 flX6_43 dX6_longestChainBefore_68 ?_
  refine lv_iload hC.1 hC.2.1 dX6_longestChainBefore_71 (lv_at hl 4 rfl) ?_
  obtain ⟨x8, e8, hF⟩ := bnd hF
  refine pw_iald hC hR e8 dX6_longestChainBefore_73 ?_
  refine pw_maxI hC hl.1 kmX6_72 (Nat.le_of_ble_eq_true rfl) (Nat.le_of_ble_eq_true rfl) dX6_longestChainBefore_74 ⟨Nat.zero_le _, Nat.zero_le _⟩ ?_
  refine lv_istore_n (lv' := [(3, .int (Int32.ofInt (maxI v3 x8))), (0, .ref (ad v0)), (1, .int (Int32.ofInt v1)), (2, .int (Int32.ofInt v2)), (4, .int (Int32.ofInt v4))]) hC.1 hC.2.1 dX6_longestChainBefore_77 rfl hl (by decide) rfl (fun ls hl => ?_)
  exact BX6_longestChainBefore_78 hC hR (lv_sub hl [1, 2, 3, 0, 4] rfl) hF hK
def LX6_longestChainBefore_40 (h : PH) (v0 : Nat) (v1 : Int) (v2 : Int) (v3 : Int) (v4 : Int) : Option ((Int × Int) ⊕ (Int)) :=
  if w32 v4 < w32 v1 then (
    if w32 v4 < w32 v2 then (
      JX6_longestChainBefore_66 h v0 v1 v2 v3 v4
    ) else (
      (gfr h 6 v0 6).bind fun x9 =>
      (ald 0 h x9 v1).bind fun x10 =>
      (FX7_hasBit h x10 v4).bind fun x11 =>
      if w32 x11 = 0 then (
        JX6_longestChainBefore_78 h v0 v1 v2 v3 v4
      ) else (
        JX6_longestChainBefore_66 h v0 v1 v2 v3 v4
      )
    )
  ) else (
    some (.inr v3)
  )
set_option maxHeartbeats 4000000 in
set_option maxRecDepth 100000 in
theorem LRX6_longestChainBefore_40 {h : PH} {v0 : Nat} {v1 : Int} {v2 : Int} {Q : State → Prop} (hC : Cx g p s m args meth c cX6_longestChainBefore 5 RX6 (some .int)) : ∀ (n : Nat) (st : Int × Int) (ex : Int), lp (fun st : Int × Int => LX6_longestChainBefore_40 h v0 v1 v2 st.1 st.2) n st = some ex → (fun ex : Int => ∀ (H : Heap) (locs : List Loc) (ls : Array Slot), Rl g ad h s.heap H locs → lv_has ls 5 [(3, .int (Int32.ofInt ex))] → W p l e rmX6_longestChainBefore s m args below meth c H locs 0 0 Q (F0 m 84 ls [])) ex → ∀ (H : Heap) (locs : List Loc) (ls : Array Slot), Rl g ad h s.heap H locs → lv_has ls 5 [(0, .ref (ad v0)), (1, .int (Int32.ofInt v1)), (2, .int (Int32.ofInt v2)), (3, .int (Int32.ofInt st.1)), (4, .int (Int32.ofInt st.2))] → W p l e rmX6_longestChainBefore s m args below meth c H locs 0 0 Q (F0 m 40 ls []) := by
  refine lp_rule (Ph := (fun st : Int × Int => ∀ (H : Heap) (locs : List Loc) (ls : Array Slot), Rl g ad h s.heap H locs → lv_has ls 5 [(0, .ref (ad v0)), (1, .int (Int32.ofInt v1)), (2, .int (Int32.ofInt v2)), (3, .int (Int32.ofInt st.1)), (4, .int (Int32.ofInt st.2))] → W p l e rmX6_longestChainBefore s m args below meth c H locs 0 0 Q (F0 m 40 ls []))) (Px := (fun ex : Int => ∀ (H : Heap) (locs : List Loc) (ls : Array Slot), Rl g ad h s.heap H locs → lv_has ls 5 [(3, .int (Int32.ofInt ex))] → W p l e rmX6_longestChainBefore s m args below meth c H locs 0 0 Q (F0 m 84 ls []))) ?_
  rintro ⟨v3, v4⟩ o hF hK H locs ls hR hl
  have hR : Rl g ad h s.heap H locs := hR
  have hl : lv_has ls 5 [(0, .ref (ad v0)), (1, .int (Int32.ofInt v1)), (2, .int (Int32.ofInt v2)), (3, .int (Int32.ofInt v3)), (4, .int (Int32.ofInt v4))] := hl
  have hF : LX6_longestChainBefore_40 h v0 v1 v2 v3 v4 = some o := hF
  unfold LX6_longestChainBefore_40 at hF
  refine lv_iload hC.1 hC.2.1 dX6_longestChainBefore_40 (lv_at hl 4 rfl) ?_
  refine lv_iload_n hC.1 hC.2.1 dX6_longestChainBefore_42 rfl (lv_at hl 1 rfl) ?_
  refine pw_icmpge hC 84 dX6_longestChainBefore_43 (by decide) (fun hc => ?_) (fun hc => ?_)
  · rw [if_neg hc] at hF
    cases hF
    exact hK _ _ _ hR (lv_sub hl [3] rfl)
  · rw [if_pos hc] at hF
    refine lv_iload hC.1 hC.2.1 dX6_longestChainBefore_46 (lv_at hl 4 rfl) ?_
    refine lv_iload_n hC.1 hC.2.1 dX6_longestChainBefore_48 rfl (lv_at hl 2 rfl) ?_
    refine pw_icmplt hC 66 dX6_longestChainBefore_49 (by decide) (fun hc => ?_) (fun hc => ?_)
    · rw [if_pos hc] at hF
      exact BX6_longestChainBefore_66 hC hR (lv_sub hl [0, 1, 2, 3, 4] rfl) hF hK
    · rw [if_neg hc] at hF
      refine lv_aload_n hC.1 hC.2.1 dX6_longestChainBefore_52 rfl (lv_at hl 0 rfl) ?_
      obtain ⟨x9, e9, hF⟩ := bnd hF
      refine pw_gfr hC hR e9 flX6_31 dX6_longestChainBefore_53 ?_
      refine lv_iload_n hC.1 hC.2.1 dX6_longestChainBefore_56 rfl (lv_at hl 1 rfl) ?_
      obtain ⟨x10, e10, hF⟩ := bnd hF
      refine pw_iald hC hR e10 dX6_longestChainBefore_57 ?_
      refine lv_iload hC.1 hC.2.1 dX6_longestChainBefore_58 (lv_at hl 4 rfl) ?_
      obtain ⟨x11, e11, hF⟩ := bnd hF
      refine pw_cNi (rest := []) hC hR (by decide) lnX6_66 (CX7_hasBit e11) ⟨rfl, rfl⟩ rfl hl.1 rfl ⟨Nat.le_of_ble_eq_true rfl, Nat.le_of_ble_eq_true rfl⟩ (Nat.le_of_ble_eq_true rfl) dX6_longestChainBefore_60 ⟨Nat.zero_le _, Nat.zero_le _⟩ (fun H locs hR => ?_)
      refine pw_ifeq hC 78 dX6_longestChainBefore_63 (by decide) (fun hc => ?_) (fun hc => ?_)
      · rw [if_pos hc] at hF
        exact BX6_longestChainBefore_78 hC hR (lv_sub hl [0, 1, 2, 3, 4] rfl) hF hK
      · rw [if_neg hc] at hF
        exact BX6_longestChainBefore_66 hC hR (lv_sub hl [0, 1, 2, 3, 4] rfl) hF hK
def FX6_longestChainBefore (h : PH) (v0 : Nat) (v1 : Int) : Option (Int) :=
  (isO h 6 v0).bind fun _ =>
  (lp (fun st : Int × Int => LX6_longestChainBefore_4 h v0 v1 st.1 st.2) FU (0, 0)).bind fun ex6 =>
  (lp (fun st : Int × Int => LX6_longestChainBefore_40 h v0 v1 ex6 st.1 st.2) FU (0, 0)).bind fun ex12 =>
  some ex12
theorem OX6_longestChainBefore {h : PH} {v0 : Nat} {v1 : Int} {q : Int} (hF : FX6_longestChainBefore h v0 v1 = some q) : ∃ fs : List PV, h[v0]? = some (.inr (6, fs)) := by
  unfold FX6_longestChainBefore at hF
  obtain ⟨u0, e0, -⟩ := bnd hF
  exact isO_spec e0
set_option maxHeartbeats 4000000 in
set_option maxRecDepth 100000 in
theorem CX6_longestChainBefore {g : GP} {l : Launch} {ad : Nat → Nat} {h : PH} {v0 : Nat} {v1 : Int} {q : Int} (hF : FX6_longestChainBefore h v0 v1 = some q) : CN g l yX6_longestChainBefore cX6_longestChainBefore 5 (some .int) rmX6_longestChainBefore ad h [.ref (ad v0), .int (Int32.ofInt v1)] (some (.int (Int32.ofInt q))) h := by
  refine pw_met (by decide) (Nat.le_of_ble_eq_true rfl) ?_
  intro p e s m args below meth c ls hC hN hR hl
  have hl : lv_has ls 5 [(0, .ref (ad v0)), (1, .int (Int32.ofInt v1))] := hl
  unfold FX6_longestChainBefore at hF
  obtain ⟨u0, e0, hF⟩ := bnd hF
  refine pw_iconst hC dX6_longestChainBefore_0 ?_
  refine lv_istore_n (lv' := [(2, .int (Int32.ofInt 0)), (0, .ref (ad v0)), (1, .int (Int32.ofInt v1))]) hC.1 hC.2.1 dX6_longestChainBefore_1 rfl hl (by decide) rfl (fun ls hl => ?_)
  refine pw_iconst hC dX6_longestChainBefore_2 ?_
  refine lv_istore_n (lv' := [(3, .int (Int32.ofInt 0)), (2, .int (Int32.ofInt 0)), (0, .ref (ad v0)), (1, .int (Int32.ofInt v1))]) hC.1 hC.2.1 dX6_longestChainBefore_3 rfl hl (by decide) rfl (fun ls hl => ?_)
  obtain ⟨ex6, e6, hF⟩ := bnd hF
  refine LRX6_longestChainBefore_4 hC FU _ ex6 e6 ?_ _ _ _ hR (lv_sub hl [2, 3, 1, 0] rfl)
  intro H locs ls hR hl
  refine pw_iconst hC dX6_longestChainBefore_35 ?_
  refine lv_istore_n (lv' := [(3, .int (Int32.ofInt 0)), (0, .ref (ad v0)), (1, .int (Int32.ofInt v1)), (2, .int (Int32.ofInt ex6))]) hC.1 hC.2.1 dX6_longestChainBefore_36 rfl hl (by decide) rfl (fun ls hl => ?_)
  refine pw_iconst hC dX6_longestChainBefore_37 ?_
  refine lv_istore (lv' := [(4, .int (Int32.ofInt 0)), (3, .int (Int32.ofInt 0)), (0, .ref (ad v0)), (1, .int (Int32.ofInt v1)), (2, .int (Int32.ofInt ex6))]) hC.1 hC.2.1 dX6_longestChainBefore_38 hl (by decide) rfl (fun ls hl => ?_)
  obtain ⟨ex12, e12, hF⟩ := bnd hF
  refine LRX6_longestChainBefore_40 hC FU _ ex12 e12 ?_ _ _ _ hR (lv_sub hl [2, 3, 4, 1, 0] rfl)
  intro H locs ls hR hl
  refine lv_iload_n hC.1 hC.2.1 dX6_longestChainBefore_84 rfl (lv_at hl 0 rfl) ?_
  cases hF
  exact pw_iret hC hR dX6_longestChainBefore_85
abbrev rmX6_longestChain : Room := { frames := 2, cells := 0, slots := 0, locals := 48 }
def JX6_longestChain_61 (h : PH) (v0 : Nat) (v1 : Int) (v2 : Int) (v3 : Int) : Option ((Int × Int × PH) ⊕ (Int × PH)) :=
  some (.inl (v2, (v3 + 1), h))
set_option maxHeartbeats 4000000 in
set_option maxRecDepth 100000 in
theorem BX6_longestChain_61 {h : PH} {v0 : Nat} {v1 : Int} {v2 : Int} {v3 : Int} (hC : Cx g p s m args meth c cX6_longestChain 4 RX6 (some .int)) (hR : Rl g ad h s.heap H locs) (hl : lv_has ls 4 [(0, .ref (ad v0)), (1, .int (Int32.ofInt v1)), (2, .int (Int32.ofInt v2)), (3, .int (Int32.ofInt v3))]) {Q : State → Prop} {o : (Int × Int × PH) ⊕ (Int × PH)} (hF : JX6_longestChain_61 h v0 v1 v2 v3 = some o) (hK : Sum.elim (fun st : Int × Int × PH => ∀ (H : Heap) (locs : List Loc) (ls : Array Slot), Rl g ad st.2.2 s.heap H locs → lv_has ls 4 [(0, .ref (ad v0)), (1, .int (Int32.ofInt v1)), (2, .int (Int32.ofInt st.1)), (3, .int (Int32.ofInt st.2.1))] → W p l e rmX6_longestChain s m args below meth c H locs 0 0 Q (F0 m 9 ls [])) (fun ex : Int × PH => ∀ (H : Heap) (locs : List Loc) (ls : Array Slot), Rl g ad ex.2 s.heap H locs → lv_has ls 4 [(2, .int (Int32.ofInt ex.1))] → W p l e rmX6_longestChain s m args below meth c H locs 0 0 Q (F0 m 67 ls [])) o) : W p l e rmX6_longestChain s m args below meth c H locs 0 0 Q (F0 m 61 ls []) := by
  unfold JX6_longestChain_61 at hF
  refine pw_iinc (lv' := [(3, .int (Int32.ofInt (v3 + 1))), (0, .ref (ad v0)), (1, .int (Int32.ofInt v1)), (2, .int (Int32.ofInt v2))]) hC hl 3 dX6_longestChain_61 rfl (by decide) rfl (fun ls hl => ?_)
  refine pw_goto hC 9 dX6_longestChain_64 (by decide) ?_
  cases hF
  exact hK _ _ _ hR (lv_sub hl [1, 2, 3, 0] rfl)
def LX6_longestChain_9 (v0 : Nat) (v1 : Int) (v2 : Int) (v3 : Int) (h : PH) : Option ((Int × Int × PH) ⊕ (Int × PH)) :=
  (gfi h 6 v0 0).bind fun x2 =>
  if w32 v3 < w32 x2 then (
    (gfr h 6 v0 10).bind fun x3 =>
    (ast 0 h x3 v3 0).bind fun h4 =>
    (FX7_hasBit h4 v1 v3).bind fun x5 =>
    if w32 x5 = 0 then (
      JX6_longestChain_61 h4 v0 v1 v2 v3
    ) else (
      (gfr h4 6 v0 10).bind fun x6 =>
      (gfr h4 6 v0 3).bind fun x7 =>
      (ald 0 h4 x7 v3).bind fun x8 =>
      (FX6_longestChainBefore h4 v0 v3).bind fun x9 =>
      (ast 0 h4 x6 v3 (x8 + x9)).bind fun h10 =>
      (gfr h10 6 v0 10).bind fun x11 =>
      (ald 0 h10 x11 v3).bind fun x12 =>
      JX6_longestChain_61 h10 v0 v1 (maxI v2 x12) v3
    )
  ) else (
    some (.inr (v2, h))
  )
set_option maxHeartbeats 4000000 in
set_option maxRecDepth 100000 in
theorem LRX6_longestChain_9 {v0 : Nat} {v1 : Int} {Q : State → Prop} (hC : Cx g p s m args meth c cX6_longestChain 4 RX6 (some .int)) : ∀ (n : Nat) (st : Int × Int × PH) (ex : Int × PH), lp (fun st : Int × Int × PH => LX6_longestChain_9 v0 v1 st.1 st.2.1 st.2.2) n st = some ex → (fun ex : Int × PH => ∀ (H : Heap) (locs : List Loc) (ls : Array Slot), Rl g ad ex.2 s.heap H locs → lv_has ls 4 [(2, .int (Int32.ofInt ex.1))] → W p l e rmX6_longestChain s m args below meth c H locs 0 0 Q (F0 m 67 ls [])) ex → ∀ (H : Heap) (locs : List Loc) (ls : Array Slot), Rl g ad st.2.2 s.heap H locs → lv_has ls 4 [(0, .ref (ad v0)), (1, .int (Int32.ofInt v1)), (2, .int (Int32.ofInt st.1)), (3, .int (Int32.ofInt st.2.1))] → W p l e rmX6_longestChain s m args below meth c H locs 0 0 Q (F0 m 9 ls []) := by
  refine lp_rule (Ph := (fun st : Int × Int × PH => ∀ (H : Heap) (locs : List Loc) (ls : Array Slot), Rl g ad st.2.2 s.heap H locs → lv_has ls 4 [(0, .ref (ad v0)), (1, .int (Int32.ofInt v1)), (2, .int (Int32.ofInt st.1)), (3, .int (Int32.ofInt st.2.1))] → W p l e rmX6_longestChain s m args below meth c H locs 0 0 Q (F0 m 9 ls []))) (Px := (fun ex : Int × PH => ∀ (H : Heap) (locs : List Loc) (ls : Array Slot), Rl g ad ex.2 s.heap H locs → lv_has ls 4 [(2, .int (Int32.ofInt ex.1))] → W p l e rmX6_longestChain s m args below meth c H locs 0 0 Q (F0 m 67 ls []))) ?_
  rintro ⟨v2, v3, h⟩ o hF hK H locs ls hR hl
  have hR : Rl g ad h s.heap H locs := hR
  have hl : lv_has ls 4 [(0, .ref (ad v0)), (1, .int (Int32.ofInt v1)), (2, .int (Int32.ofInt v2)), (3, .int (Int32.ofInt v3))] := hl
  have hF : LX6_longestChain_9 v0 v1 v2 v3 h = some o := hF
  unfold LX6_longestChain_9 at hF
  refine lv_iload_n hC.1 hC.2.1 dX6_longestChain_9 rfl (lv_at hl 3 rfl) ?_
  refine lv_aload_n hC.1 hC.2.1 dX6_longestChain_10 rfl (lv_at hl 0 rfl) ?_
  obtain ⟨x2, e2, hF⟩ := bnd hF
  refine pw_gfi hC hR e2 flX6_9 dX6_longestChain_11 ?_
  refine pw_icmpge hC 67 dX6_longestChain_14 (by decide) (fun hc => ?_) (fun hc => ?_)
  · rw [if_neg hc] at hF
    cases hF
    exact hK _ _ _ hR (lv_sub hl [2] rfl)
  · rw [if_pos hc] at hF
    refine lv_aload_n hC.1 hC.2.1 dX6_longestChain_17 rfl (lv_at hl 0 rfl) ?_
    obtain ⟨x3, e3, hF⟩ := bnd hF
    refine pw_gfr hC hR e3 flX6_43 dX6_longestChain_18 ?_
    refine lv_iload_n hC.1 hC.2.1 dX6_longestChain_21 rfl (lv_at hl 3 rfl) ?_
    refine pw_iconst hC dX6_longestChain_22 ?_
    obtain ⟨h4, e4, hF⟩ := bnd hF
    refine pw_iast hC hR e4 dX6_longestChain_23 (fun H locs hR => ?_)
    refine lv_iload_n hC.1 hC.2.1 dX6_longestChain_24 rfl (lv_at hl 1 rfl) ?_
    refine lv_iload_n hC.1 hC.2.1 dX6_longestChain_25 rfl (lv_at hl 3 rfl) ?_
    obtain ⟨x5, e5, hF⟩ := bnd hF
    refine pw_cNi (rest := []) hC hR (by decide) lnX6_66 (CX7_hasBit e5) ⟨rfl, rfl⟩ rfl hl.1 rfl ⟨Nat.le_of_ble_eq_true rfl, Nat.le_of_ble_eq_true rfl⟩ (Nat.le_of_ble_eq_true rfl) dX6_longestChain_26 ⟨Nat.zero_le _, Nat.zero_le _⟩ (fun H locs hR => ?_)
    refine pw_ifeq hC 61 dX6_longestChain_29 (by decide) (fun hc => ?_) (fun hc => ?_)
    · rw [if_pos hc] at hF
      exact BX6_longestChain_61 hC hR (lv_sub hl [0, 1, 2, 3] rfl) hF hK
    · rw [if_neg hc] at hF
      refine lv_aload_n hC.1 hC.2.1 dX6_longestChain_32 rfl (lv_at hl 0 rfl) ?_
      obtain ⟨x6, e6, hF⟩ := bnd hF
      refine pw_gfr hC hR e6 flX6_43 dX6_longestChain_33 ?_
      refine lv_iload_n hC.1 hC.2.1 dX6_longestChain_36 rfl (lv_at hl 3 rfl) ?_
      refine lv_aload_n hC.1 hC.2.1 dX6_longestChain_37 rfl (lv_at hl 0 rfl) ?_
      obtain ⟨x7, e7, hF⟩ := bnd hF
      refine pw_gfr hC hR e7 flX6_22 dX6_longestChain_38 ?_
      refine lv_iload_n hC.1 hC.2.1 dX6_longestChain_41 rfl (lv_at hl 3 rfl) ?_
      obtain ⟨x8, e8, hF⟩ := bnd hF
      refine pw_iald hC hR e8 dX6_longestChain_42 ?_
      refine lv_aload_n hC.1 hC.2.1 dX6_longestChain_43 rfl (lv_at hl 0 rfl) ?_
      refine lv_iload_n hC.1 hC.2.1 dX6_longestChain_44 rfl (lv_at hl 3 rfl) ?_
      obtain ⟨x9, e9, hF⟩ := bnd hF
      obtain ⟨fs9, ho9⟩ := OX6_longestChainBefore e9
      refine pw_cVi (rest := [.int (Int32.ofInt x8), .int (Int32.ofInt v3), .ref (ad x6)]) hC hR lvX6_69 ho9 (CX6_longestChainBefore e9) ⟨rfl, rfl⟩ rfl hl.1 rfl ⟨Nat.le_of_ble_eq_true rfl, Nat.le_of_ble_eq_true rfl⟩ (Nat.le_of_ble_eq_true rfl) dX6_longestChain_45 ⟨Nat.zero_le _, Nat.zero_le _⟩ (fun H locs hR => ?_)
      refine pw_iadd hC dX6_longestChain_48 ?_
      obtain ⟨h10, e10, hF⟩ := bnd hF
      refine pw_iast hC hR e10 dX6_longestChain_49 (fun H locs hR => ?_)
      refine lv_iload_n hC.1 hC.2.1 dX6_longestChain_50 rfl (lv_at hl 2 rfl) ?_
      refine lv_aload_n hC.1 hC.2.1 dX6_longestChain_51 rfl (lv_at hl 0 rfl) ?_
      obtain ⟨x11, e11, hF⟩ := bnd hF
      refine pw_gfr hC hR e11 flX6_43 dX6_longestChain_52 ?_
      refine lv_iload_n hC.1 hC.2.1 dX6_longestChain_55 rfl (lv_at hl 3 rfl) ?_
      obtain ⟨x12, e12, hF⟩ := bnd hF
      refine pw_iald hC hR e12 dX6_longestChain_56 ?_
      refine pw_maxI hC hl.1 kmX6_72 (Nat.le_of_ble_eq_true rfl) (Nat.le_of_ble_eq_true rfl) dX6_longestChain_57 ⟨Nat.zero_le _, Nat.zero_le _⟩ ?_
      refine lv_istore_n (lv' := [(2, .int (Int32.ofInt (maxI v2 x12))), (0, .ref (ad v0)), (1, .int (Int32.ofInt v1)), (3, .int (Int32.ofInt v3))]) hC.1 hC.2.1 dX6_longestChain_60 rfl hl (by decide) rfl (fun ls hl => ?_)
      exact BX6_longestChain_61 hC hR (lv_sub hl [1, 2, 0, 3] rfl) hF hK
def FX6_longestChain (h : PH) (v0 : Nat) : Option (Int × PH) :=
  (isO h 6 v0).bind fun _ =>
  (FX6_unfinishedBits h v0).bind fun x1 =>
  (lp (fun st : Int × Int × PH => LX6_longestChain_9 v0 x1 st.1 st.2.1 st.2.2) FU (0, 0, h)).bind fun ex13 =>
  some (ex13.1, ex13.2)
theorem OX6_longestChain {h : PH} {v0 : Nat} {q : Int × PH} (hF : FX6_longestChain h v0 = some q) : ∃ fs : List PV, h[v0]? = some (.inr (6, fs)) := by
  unfold FX6_longestChain at hF
  obtain ⟨u0, e0, -⟩ := bnd hF
  exact isO_spec e0
set_option maxHeartbeats 4000000 in
set_option maxRecDepth 100000 in
theorem CX6_longestChain {g : GP} {l : Launch} {ad : Nat → Nat} {h : PH} {v0 : Nat} {q : Int × PH} (hF : FX6_longestChain h v0 = some q) : CN g l yX6_longestChain cX6_longestChain 4 (some .int) rmX6_longestChain ad h [.ref (ad v0)] (some (.int (Int32.ofInt q.1))) q.2 := by
  refine pw_met (by decide) (Nat.le_of_ble_eq_true rfl) ?_
  intro p e s m args below meth c ls hC hN hR hl
  have hl : lv_has ls 4 [(0, .ref (ad v0))] := hl
  unfold FX6_longestChain at hF
  obtain ⟨u0, e0, hF⟩ := bnd hF
  refine lv_aload_n hC.1 hC.2.1 dX6_longestChain_0 rfl (lv_at hl 0 rfl) ?_
  obtain ⟨x1, e1, hF⟩ := bnd hF
  obtain ⟨fs1, ho1⟩ := OX6_unfinishedBits e1
  refine pw_cVi (rest := []) hC hR lvX6_52 ho1 (CX6_unfinishedBits e1) ⟨rfl, rfl⟩ rfl hl.1 rfl ⟨Nat.le_of_ble_eq_true rfl, Nat.le_of_ble_eq_true rfl⟩ (Nat.le_of_ble_eq_true rfl) dX6_longestChain_1 ⟨Nat.zero_le _, Nat.zero_le _⟩ (fun H locs hR => ?_)
  refine lv_istore_n (lv' := [(1, .int (Int32.ofInt x1)), (0, .ref (ad v0))]) hC.1 hC.2.1 dX6_longestChain_4 rfl hl (by decide) rfl (fun ls hl => ?_)
  refine pw_iconst hC dX6_longestChain_5 ?_
  refine lv_istore_n (lv' := [(2, .int (Int32.ofInt 0)), (1, .int (Int32.ofInt x1)), (0, .ref (ad v0))]) hC.1 hC.2.1 dX6_longestChain_6 rfl hl (by decide) rfl (fun ls hl => ?_)
  refine pw_iconst hC dX6_longestChain_7 ?_
  refine lv_istore_n (lv' := [(3, .int (Int32.ofInt 0)), (2, .int (Int32.ofInt 0)), (1, .int (Int32.ofInt x1)), (0, .ref (ad v0))]) hC.1 hC.2.1 dX6_longestChain_8 rfl hl (by decide) rfl (fun ls hl => ?_)
  obtain ⟨ex13, e13, hF⟩ := bnd hF
  refine LRX6_longestChain_9 hC FU _ ex13 e13 ?_ _ _ _ hR (lv_sub hl [3, 2, 1, 0] rfl)
  intro H locs ls hR hl
  refine lv_iload_n hC.1 hC.2.1 dX6_longestChain_67 rfl (lv_at hl 0 rfl) ?_
  cases hF
  exact pw_iret hC hR dX6_longestChain_68
abbrev rmX7_append : Room := { frames := 1, cells := 0, slots := 0, locals := 22 }
def FX7_append (h : PH) (v0 : Nat) (v1 : Int) (v2 : Int) (v3 : Int) (v4 : Int) (v5 : Int) : Option (Int × PH) :=
  (isO h 7 v0).bind fun _ =>
  (gfr h 7 v0 0).bind fun x1 =>
  (gfr h 4 x1 0).bind fun x2 =>
  (gfi h 5 x2 1).bind fun x3 =>
  if w32 880 < w32 x3 then (
    some ((-1), h)
  ) else (
    (FX5_addWord h x2 v1).bind fun h4 =>
    (FX5_addWord h4 x2 v2).bind fun h5 =>
    (FX5_addWord h5 x2 v3).bind fun h6 =>
    (FX5_addWord h6 x2 v4).bind fun h7 =>
    (FX5_addWord h7 x2 v5).bind fun h8 =>
    (gfi h8 5 x2 1).bind fun x9 =>
    some (x9, h8)
  )
theorem OX7_append {h : PH} {v0 : Nat} {v1 : Int} {v2 : Int} {v3 : Int} {v4 : Int} {v5 : Int} {q : Int × PH} (hF : FX7_append h v0 v1 v2 v3 v4 v5 = some q) : ∃ fs : List PV, h[v0]? = some (.inr (7, fs)) := by
  unfold FX7_append at hF
  obtain ⟨u0, e0, -⟩ := bnd hF
  exact isO_spec e0
set_option maxHeartbeats 4000000 in
set_option maxRecDepth 100000 in
theorem CX7_append {g : GP} {l : Launch} {ad : Nat → Nat} {h : PH} {v0 : Nat} {v1 : Int} {v2 : Int} {v3 : Int} {v4 : Int} {v5 : Int} {q : Int × PH} (hF : FX7_append h v0 v1 v2 v3 v4 v5 = some q) : CN g l yX7_append cX7_append 7 (some .int) rmX7_append ad h [.ref (ad v0), .int (Int32.ofInt v1), .int (Int32.ofInt v2), .int (Int32.ofInt v3), .int (Int32.ofInt v4), .int (Int32.ofInt v5)] (some (.int (Int32.ofInt q.1))) q.2 := by
  refine pw_met (by decide) (Nat.le_of_ble_eq_true rfl) ?_
  intro p e s m args below meth c ls hC hN hR hl
  have hl : lv_has ls 7 [(0, .ref (ad v0)), (1, .int (Int32.ofInt v1)), (2, .int (Int32.ofInt v2)), (3, .int (Int32.ofInt v3)), (4, .int (Int32.ofInt v4)), (5, .int (Int32.ofInt v5))] := hl
  unfold FX7_append at hF
  obtain ⟨u0, e0, hF⟩ := bnd hF
  refine lv_aload_n hC.1 hC.2.1 dX7_append_0 rfl (lv_at hl 0 rfl) ?_
  obtain ⟨x1, e1, hF⟩ := bnd hF
  refine pw_gfr hC hR e1 flX7_10 dX7_append_1 ?_
  obtain ⟨x2, e2, hF⟩ := bnd hF
  refine pw_gfr hC hR e2 flX7_37 dX7_append_4 ?_
  refine lv_astore (lv' := [(6, .ref (ad x2)), (0, .ref (ad v0)), (1, .int (Int32.ofInt v1)), (2, .int (Int32.ofInt v2)), (3, .int (Int32.ofInt v3)), (4, .int (Int32.ofInt v4)), (5, .int (Int32.ofInt v5))]) hC.1 hC.2.1 dX7_append_7 hl (by decide) rfl (fun ls hl => ?_)
  refine lv_aload hC.1 hC.2.1 dX7_append_9 (lv_at hl 0 rfl) ?_
  obtain ⟨x3, e3, hF⟩ := bnd hF
  refine pw_gfi hC hR e3 flX7_41 dX7_append_11 ?_
  refine pw_sipush hC dX7_append_14 rfl ?_
  refine pw_icmple hC 22 dX7_append_17 (by decide) (fun hc => ?_) (fun hc => ?_)
  · rw [if_neg hc] at hF
    refine lv_aload hC.1 hC.2.1 dX7_append_22 (lv_at hl 0 rfl) ?_
    refine lv_iload_n hC.1 hC.2.1 dX7_append_24 rfl (lv_at hl 2 rfl) ?_
    obtain ⟨h4, e4, hF⟩ := bnd hF
    obtain ⟨fs4, ho4⟩ := OX5_addWord e4
    refine pw_cVv (rest := []) hC hR lvX7_46 ho4 (CX5_addWord e4) ⟨rfl, rfl⟩ rfl hl.1 rfl ⟨Nat.le_of_ble_eq_true rfl, Nat.le_of_ble_eq_true rfl⟩ (Nat.le_of_ble_eq_true rfl) dX7_append_25 ⟨Nat.zero_le _, Nat.zero_le _⟩ (fun H locs hR => ?_)
    refine lv_aload hC.1 hC.2.1 dX7_append_28 (lv_at hl 0 rfl) ?_
    refine lv_iload_n hC.1 hC.2.1 dX7_append_30 rfl (lv_at hl 3 rfl) ?_
    obtain ⟨h5, e5, hF⟩ := bnd hF
    obtain ⟨fs5, ho5⟩ := OX5_addWord e5
    refine pw_cVv (rest := []) hC hR lvX7_46 ho5 (CX5_addWord e5) ⟨rfl, rfl⟩ rfl hl.1 rfl ⟨Nat.le_of_ble_eq_true rfl, Nat.le_of_ble_eq_true rfl⟩ (Nat.le_of_ble_eq_true rfl) dX7_append_31 ⟨Nat.zero_le _, Nat.zero_le _⟩ (fun H locs hR => ?_)
    refine lv_aload hC.1 hC.2.1 dX7_append_34 (lv_at hl 0 rfl) ?_
    refine lv_iload_n hC.1 hC.2.1 dX7_append_36 rfl (lv_at hl 4 rfl) ?_
    obtain ⟨h6, e6, hF⟩ := bnd hF
    obtain ⟨fs6, ho6⟩ := OX5_addWord e6
    refine pw_cVv (rest := []) hC hR lvX7_46 ho6 (CX5_addWord e6) ⟨rfl, rfl⟩ rfl hl.1 rfl ⟨Nat.le_of_ble_eq_true rfl, Nat.le_of_ble_eq_true rfl⟩ (Nat.le_of_ble_eq_true rfl) dX7_append_37 ⟨Nat.zero_le _, Nat.zero_le _⟩ (fun H locs hR => ?_)
    refine lv_aload hC.1 hC.2.1 dX7_append_40 (lv_at hl 0 rfl) ?_
    refine lv_iload hC.1 hC.2.1 dX7_append_42 (lv_at hl 5 rfl) ?_
    obtain ⟨h7, e7, hF⟩ := bnd hF
    obtain ⟨fs7, ho7⟩ := OX5_addWord e7
    refine pw_cVv (rest := []) hC hR lvX7_46 ho7 (CX5_addWord e7) ⟨rfl, rfl⟩ rfl hl.1 rfl ⟨Nat.le_of_ble_eq_true rfl, Nat.le_of_ble_eq_true rfl⟩ (Nat.le_of_ble_eq_true rfl) dX7_append_44 ⟨Nat.zero_le _, Nat.zero_le _⟩ (fun H locs hR => ?_)
    refine lv_aload hC.1 hC.2.1 dX7_append_47 (lv_at hl 0 rfl) ?_
    refine lv_iload hC.1 hC.2.1 dX7_append_49 (lv_at hl 6 rfl) ?_
    obtain ⟨h8, e8, hF⟩ := bnd hF
    obtain ⟨fs8, ho8⟩ := OX5_addWord e8
    refine pw_cVv (rest := []) hC hR lvX7_46 ho8 (CX5_addWord e8) ⟨rfl, rfl⟩ rfl hl.1 rfl ⟨Nat.le_of_ble_eq_true rfl, Nat.le_of_ble_eq_true rfl⟩ (Nat.le_of_ble_eq_true rfl) dX7_append_51 ⟨Nat.zero_le _, Nat.zero_le _⟩ (fun H locs hR => ?_)
    refine lv_aload hC.1 hC.2.1 dX7_append_54 (lv_at hl 0 rfl) ?_
    obtain ⟨x9, e9, hF⟩ := bnd hF
    refine pw_gfi hC hR e9 flX7_41 dX7_append_56 ?_
    cases hF
    exact pw_iret hC hR dX7_append_59
  · rw [if_pos hc] at hF
    refine pw_iconst hC dX7_append_20 ?_
    cases hF
    exact pw_iret hC hR dX7_append_21
abbrev rmX7_errorOffset : Room := { frames := 0, cells := 0, slots := 0, locals := 0 }
def FX7_errorOffset (h : PH) (v0 : Nat) : Option (Int) :=
  (isO h 7 v0).bind fun _ =>
  (gfi h 7 v0 4).bind fun x1 =>
  some x1
theorem OX7_errorOffset {h : PH} {v0 : Nat} {q : Int} (hF : FX7_errorOffset h v0 = some q) : ∃ fs : List PV, h[v0]? = some (.inr (7, fs)) := by
  unfold FX7_errorOffset at hF
  obtain ⟨u0, e0, -⟩ := bnd hF
  exact isO_spec e0
set_option maxHeartbeats 4000000 in
set_option maxRecDepth 100000 in
theorem CX7_errorOffset {g : GP} {l : Launch} {ad : Nat → Nat} {h : PH} {v0 : Nat} {q : Int} (hF : FX7_errorOffset h v0 = some q) : CN g l yX7_errorOffset cX7_errorOffset 1 (some .int) rmX7_errorOffset ad h [.ref (ad v0)] (some (.int (Int32.ofInt q))) h := by
  refine pw_met (by decide) (Nat.le_of_ble_eq_true rfl) ?_
  intro p e s m args below meth c ls hC hN hR hl
  have hl : lv_has ls 1 [(0, .ref (ad v0))] := hl
  unfold FX7_errorOffset at hF
  obtain ⟨u0, e0, hF⟩ := bnd hF
  refine lv_aload_n hC.1 hC.2.1 dX7_errorOffset_0 rfl (lv_at hl 0 rfl) ?_
  obtain ⟨x1, e1, hF⟩ := bnd hF
  refine pw_gfi hC hR e1 flX7_33 dX7_errorOffset_1 ?_
  cases hF
  exact pw_iret hC hR dX7_errorOffset_4
abbrev rmX7_coreCount : Room := { frames := 0, cells := 0, slots := 0, locals := 0 }
def FX7_coreCount (h : PH) (v0 : Nat) : Option (Int) :=
  (isO h 7 v0).bind fun _ =>
  (gfr h 7 v0 1).bind fun x1 =>
  (gfr h 3 x1 1).bind fun x2 =>
  (gfi h 0 x2 0).bind fun x3 =>
  some x3
theorem OX7_coreCount {h : PH} {v0 : Nat} {q : Int} (hF : FX7_coreCount h v0 = some q) : ∃ fs : List PV, h[v0]? = some (.inr (7, fs)) := by
  unfold FX7_coreCount at hF
  obtain ⟨u0, e0, -⟩ := bnd hF
  exact isO_spec e0
set_option maxHeartbeats 4000000 in
set_option maxRecDepth 100000 in
theorem CX7_coreCount {g : GP} {l : Launch} {ad : Nat → Nat} {h : PH} {v0 : Nat} {q : Int} (hF : FX7_coreCount h v0 = some q) : CN g l yX7_coreCount cX7_coreCount 1 (some .int) rmX7_coreCount ad h [.ref (ad v0)] (some (.int (Int32.ofInt q))) h := by
  refine pw_met (by decide) (Nat.le_of_ble_eq_true rfl) ?_
  intro p e s m args below meth c ls hC hN hR hl
  have hl : lv_has ls 1 [(0, .ref (ad v0))] := hl
  unfold FX7_coreCount at hF
  obtain ⟨u0, e0, hF⟩ := bnd hF
  refine lv_aload_n hC.1 hC.2.1 dX7_coreCount_0 rfl (lv_at hl 0 rfl) ?_
  obtain ⟨x1, e1, hF⟩ := bnd hF
  refine pw_gfr hC hR e1 flX7_19 dX7_coreCount_1 ?_
  obtain ⟨x2, e2, hF⟩ := bnd hF
  refine pw_gfr hC hR e2 flX7_83 dX7_coreCount_4 ?_
  obtain ⟨x3, e3, hF⟩ := bnd hF
  refine pw_gfi hC hR e3 flX7_87 dX7_coreCount_7 ?_
  cases hF
  exact pw_iret hC hR dX7_coreCount_10
abbrev rmX7_taskCount : Room := { frames := 0, cells := 0, slots := 0, locals := 0 }
def FX7_taskCount (h : PH) (v0 : Nat) : Option (Int) :=
  (isO h 7 v0).bind fun _ =>
  (gfr h 7 v0 1).bind fun x1 =>
  (gfr h 3 x1 0).bind fun x2 =>
  (gfi h 6 x2 0).bind fun x3 =>
  some x3
theorem OX7_taskCount {h : PH} {v0 : Nat} {q : Int} (hF : FX7_taskCount h v0 = some q) : ∃ fs : List PV, h[v0]? = some (.inr (7, fs)) := by
  unfold FX7_taskCount at hF
  obtain ⟨u0, e0, -⟩ := bnd hF
  exact isO_spec e0
set_option maxHeartbeats 4000000 in
set_option maxRecDepth 100000 in
theorem CX7_taskCount {g : GP} {l : Launch} {ad : Nat → Nat} {h : PH} {v0 : Nat} {q : Int} (hF : FX7_taskCount h v0 = some q) : CN g l yX7_taskCount cX7_taskCount 1 (some .int) rmX7_taskCount ad h [.ref (ad v0)] (some (.int (Int32.ofInt q))) h := by
  refine pw_met (by decide) (Nat.le_of_ble_eq_true rfl) ?_
  intro p e s m args below meth c ls hC hN hR hl
  have hl : lv_has ls 1 [(0, .ref (ad v0))] := hl
  unfold FX7_taskCount at hF
  obtain ⟨u0, e0, hF⟩ := bnd hF
  refine lv_aload_n hC.1 hC.2.1 dX7_taskCount_0 rfl (lv_at hl 0 rfl) ?_
  obtain ⟨x1, e1, hF⟩ := bnd hF
  refine pw_gfr hC hR e1 flX7_19 dX7_taskCount_1 ?_
  obtain ⟨x2, e2, hF⟩ := bnd hF
  refine pw_gfr hC hR e2 flX7_74 dX7_taskCount_4 ?_
  obtain ⟨x3, e3, hF⟩ := bnd hF
  refine pw_gfi hC hR e3 flX7_78 dX7_taskCount_7 ?_
  cases hF
  exact pw_iret hC hR dX7_taskCount_10
abbrev rmX7_fenceCount : Room := { frames := 0, cells := 0, slots := 0, locals := 0 }
def FX7_fenceCount (h : PH) (v0 : Nat) : Option (Int) :=
  (isO h 7 v0).bind fun _ =>
  (gfr h 7 v0 1).bind fun x1 =>
  (gfr h 3 x1 0).bind fun x2 =>
  (gfi h 6 x2 1).bind fun x3 =>
  some x3
theorem OX7_fenceCount {h : PH} {v0 : Nat} {q : Int} (hF : FX7_fenceCount h v0 = some q) : ∃ fs : List PV, h[v0]? = some (.inr (7, fs)) := by
  unfold FX7_fenceCount at hF
  obtain ⟨u0, e0, -⟩ := bnd hF
  exact isO_spec e0
set_option maxHeartbeats 4000000 in
set_option maxRecDepth 100000 in
theorem CX7_fenceCount {g : GP} {l : Launch} {ad : Nat → Nat} {h : PH} {v0 : Nat} {q : Int} (hF : FX7_fenceCount h v0 = some q) : CN g l yX7_fenceCount cX7_fenceCount 1 (some .int) rmX7_fenceCount ad h [.ref (ad v0)] (some (.int (Int32.ofInt q))) h := by
  refine pw_met (by decide) (Nat.le_of_ble_eq_true rfl) ?_
  intro p e s m args below meth c ls hC hN hR hl
  have hl : lv_has ls 1 [(0, .ref (ad v0))] := hl
  unfold FX7_fenceCount at hF
  obtain ⟨u0, e0, hF⟩ := bnd hF
  refine lv_aload_n hC.1 hC.2.1 dX7_fenceCount_0 rfl (lv_at hl 0 rfl) ?_
  obtain ⟨x1, e1, hF⟩ := bnd hF
  refine pw_gfr hC hR e1 flX7_19 dX7_fenceCount_1 ?_
  obtain ⟨x2, e2, hF⟩ := bnd hF
  refine pw_gfr hC hR e2 flX7_74 dX7_fenceCount_4 ?_
  obtain ⟨x3, e3, hF⟩ := bnd hF
  refine pw_gfi hC hR e3 flX7_90 dX7_fenceCount_7 ?_
  cases hF
  exact pw_iret hC hR dX7_fenceCount_10
end
