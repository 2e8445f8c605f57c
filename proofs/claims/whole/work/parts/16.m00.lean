section
variable {p : Program} {l : Launch} {e : Env} {s : State} {m : MethodId} {args : Array Value} {below : List Frame} {meth : Method} {c : Code} {H : Heap} {locs : List Loc} {ls : Array Slot} {g : GP} {ad : Nat → Nat}
abbrev rmX5_isWord : Room := { frames := 8, cells := 0, slots := 0, locals := 200 }
def JX5_isWord_24 (h : PH) : Option (Int) :=
  some 0
set_option maxHeartbeats 4000000 in
set_option maxRecDepth 100000 in
theorem BX5_isWord_24 {h : PH} (hC : Cx g p s m args meth c cX5_isWord 3 RX5 (some .boolean)) (hR : Rl g ad h s.heap H locs) (hl : lv_has ls 3 []) {q : Int} (hF : JX5_isWord_24 h  = some q) : W p l e rmX5_isWord s m args below meth c H locs 0 0 (MQ below (QcN g ad h (some (.int (Int32.ofInt q)))) args s 0 0 (gA g)) (F0 m 24 ls []) := by
  unfold JX5_isWord_24 at hF
  refine pw_iconst hC dX5_isWord_24 ?_
  cases hF
  exact pw_zret hC hR (Or.inl rfl) dX5_isWord_25
def LX5_isWord_28 (h : PH) (v0 : Nat) (v1 : Nat) (v2 : Int) : Option ((Int) ⊕ (((Unit) ⊕ (Unit)))) :=
  (sln v1).bind fun x5 =>
  if w32 v2 < w32 x5 then (
    (gfr h 5 v0 0).bind fun x6 =>
    (gfi h 5 v0 4).bind fun x7 =>
    (ald 1 h x6 (x7 + v2)).bind fun x8 =>
    (schr v1 v2).bind fun x9 =>
    if w32 x8 = w32 x9 then (
      some (.inl (v2 + 1))
    ) else (
      some (.inr (.inl ()))
    )
  ) else (
    some (.inr (.inr ()))
  )
set_option maxHeartbeats 4000000 in
set_option maxRecDepth 100000 in
theorem LRX5_isWord_28 {h : PH} {v0 : Nat} {v1 : Nat} {Q : State → Prop} (hC : Cx g p s m args meth c cX5_isWord 3 RX5 (some .boolean)) : ∀ (n : Nat) (st : Int) (ex : ((Unit) ⊕ (Unit))), lp (fun st : Int => LX5_isWord_28 h v0 v1 st) n st = some ex → (Sum.elim (fun ex : Unit => ∀ (H : Heap) (locs : List Loc) (ls : Array Slot), Rl g ad h s.heap H locs → lv_has ls 3 [] → W p l e rmX5_isWord s m args below meth c H locs 0 0 Q (F0 m 55 ls [])) (fun ex : Unit => ∀ (H : Heap) (locs : List Loc) (ls : Array Slot), Rl g ad h s.heap H locs → lv_has ls 3 [] → W p l e rmX5_isWord s m args below meth c H locs 0 0 Q (F0 m 63 ls []))) ex → ∀ (H : Heap) (locs : List Loc) (ls : Array Slot), Rl g ad h s.heap H locs → lv_has ls 3 [(0, .ref (ad v0)), (1, .ref (g.2.2.2.1 v1)), (2, .int (Int32.ofInt st))] → W p l e rmX5_isWord s m args below meth c H locs 0 0 Q (F0 m 28 ls []) := by
  refine lp_rule (Ph := (fun st : Int => ∀ (H : Heap) (locs : List Loc) (ls : Array Slot), Rl g ad h s.heap H locs → lv_has ls 3 [(0, .ref (ad v0)), (1, .ref (g.2.2.2.1 v1)), (2, .int (Int32.ofInt st))] → W p l e rmX5_isWord s m args below meth c H locs 0 0 Q (F0 m 28 ls []))) (Px := (Sum.elim (fun ex : Unit => ∀ (H : Heap) (locs : List Loc) (ls : Array Slot), Rl g ad h s.heap H locs → lv_has ls 3 [] → W p l e rmX5_isWord s m args below meth c H locs 0 0 Q (F0 m 55 ls [])) (fun ex : Unit => ∀ (H : Heap) (locs : List Loc) (ls : Array Slot), Rl g ad h s.heap H locs → lv_has ls 3 [] → W p l e rmX5_isWord s m args below meth c H locs 0 0 Q (F0 m 63 ls [])))) ?_
  rintro v2 o hF hK H locs ls hR hl
  have hR : Rl g ad h s.heap H locs := hR
  have hl : lv_has ls 3 [(0, .ref (ad v0)), (1, .ref (g.2.2.2.1 v1)), (2, .int (Int32.ofInt v2))] := hl
  have hF : LX5_isWord_28 h v0 v1 v2 = some o := hF
  unfold LX5_isWord_28 at hF
  refine lv_iload_n hC.1 hC.2.1 dX5_isWord_28 rfl (lv_at hl 2 rfl) ?_
  refine lv_aload_n hC.1 hC.2.1 dX5_isWord_29 rfl (lv_at hl 1 rfl) ?_
  obtain ⟨x5, e5, hF⟩ := bnd hF
  refine pw_slen (rest := [.int (Int32.ofInt v2)]) hC hR e5 lyX5_44 hl.1 ⟨Nat.le_of_ble_eq_true rfl, Nat.le_of_ble_eq_true rfl⟩ (Nat.le_of_ble_eq_true rfl) dX5_isWord_30 ⟨Nat.zero_le _, Nat.zero_le _⟩ (fun H locs hR => ?_)
  refine pw_icmpge hC 63 dX5_isWord_33 (by decide) (fun hc => ?_) (fun hc => ?_)
  · rw [if_neg hc] at hF
    cases hF
    exact hK _ _ _ hR (lv_sub hl [] rfl)
  · rw [if_pos hc] at hF
    refine lv_aload_n hC.1 hC.2.1 dX5_isWord_36 rfl (lv_at hl 0 rfl) ?_
    obtain ⟨x6, e6, hF⟩ := bnd hF
    refine pw_gfr hC hR e6 flX5_9 dX5_isWord_37 ?_
    refine lv_aload_n hC.1 hC.2.1 dX5_isWord_40 rfl (lv_at hl 0 rfl) ?_
    obtain ⟨x7, e7, hF⟩ := bnd hF
    refine pw_gfi hC hR e7 flX5_25 dX5_isWord_41 ?_
    refine lv_iload_n hC.1 hC.2.1 dX5_isWord_44 rfl (lv_at hl 2 rfl) ?_
    refine pw_iadd hC dX5_isWord_45 ?_
    obtain ⟨x8, e8, hF⟩ := bnd hF
    refine pw_bald hC hR e8 dX5_isWord_46 ?_
    refine lv_aload_n hC.1 hC.2.1 dX5_isWord_47 rfl (lv_at hl 1 rfl) ?_
    refine lv_iload_n hC.1 hC.2.1 dX5_isWord_48 rfl (lv_at hl 2 rfl) ?_
    obtain ⟨x9, e9, hF⟩ := bnd hF
    refine pw_schr (rest := [.int (Int32.ofInt x8)]) hC hR e9 lyX5_50 hl.1 ⟨Nat.le_of_ble_eq_true rfl, Nat.le_of_ble_eq_true rfl⟩ (Nat.le_of_ble_eq_true rfl) dX5_isWord_49 ⟨Nat.zero_le _, Nat.zero_le _⟩ (fun H locs hR => ?_)
    refine pw_icmpeq hC 57 dX5_isWord_52 (by decide) (fun hc => ?_) (fun hc => ?_)
    · rw [if_pos hc] at hF
      refine pw_iinc (lv' := [(2, .int (Int32.ofInt (v2 + 1))), (0, .ref (ad v0)), (1, .ref (g.2.2.2.1 v1))]) hC hl 2 dX5_isWord_57 rfl (by decide) rfl (fun ls hl => ?_)
      refine pw_goto hC 28 dX5_isWord_60 (by decide) ?_
      cases hF
      exact hK _ _ _ hR (lv_sub hl [1, 2, 0] rfl)
    · rw [if_neg hc] at hF
      cases hF
      exact hK _ _ _ hR (lv_sub hl [] rfl)
def FX5_isWord (h : PH) (v0 : Nat) (v1 : Nat) : Option (Int) :=
  (isO h 5 v0).bind fun _ =>
  (gfi h 5 v0 3).bind fun x1 =>
  if w32 x1 = w32 2 then (
    (gfi h 5 v0 5).bind fun x2 =>
    (gfi h 5 v0 4).bind fun x3 =>
    (sln v1).bind fun x4 =>
    if w32 (x2 - x3) = w32 x4 then (
      (lp (fun st : Int => LX5_isWord_28 h v0 v1 st) FU 0).bind fun ex10 =>
      Sum.elim (fun ex10 => (
        some 0
      )) (fun ex10 => (
        some 1
      )) ex10
    ) else (
      JX5_isWord_24 h
    )
  ) else (
    JX5_isWord_24 h
  )
theorem OX5_isWord {h : PH} {v0 : Nat} {v1 : Nat} {q : Int} (hF : FX5_isWord h v0 v1 = some q) : ∃ fs : List PV, h[v0]? = some (.inr (5, fs)) := by
  unfold FX5_isWord at hF
  obtain ⟨u0, e0, -⟩ := bnd hF
  exact isO_spec e0
set_option maxHeartbeats 4000000 in
set_option maxRecDepth 100000 in
theorem CX5_isWord {g : GP} {l : Launch} {ad : Nat → Nat} {h : PH} {v0 : Nat} {v1 : Nat} {q : Int} (hF : FX5_isWord h v0 v1 = some q) : CN g l yX5_isWord cX5_isWord 3 (some .boolean) rmX5_isWord ad h [.ref (ad v0), .ref (g.2.2.2.1 v1)] (some (.int (Int32.ofInt q))) h := by
  refine pw_met (by decide) (Nat.le_of_ble_eq_true rfl) ?_
  intro p e s m args below meth c ls hC hN hR hl
  have hl : lv_has ls 3 [(0, .ref (ad v0)), (1, .ref (g.2.2.2.1 v1))] := hl
  unfold FX5_isWord at hF
  obtain ⟨u0, e0, hF⟩ := bnd hF
  refine lv_aload_n hC.1 hC.2.1 dX5_isWord_0 rfl (lv_at hl 0 rfl) ?_
  obtain ⟨x1, e1, hF⟩ := bnd hF
  refine pw_gfi hC hR e1 flX5_22 dX5_isWord_1 ?_
  refine pw_iconst hC dX5_isWord_4 ?_
  refine pw_icmpne hC 24 dX5_isWord_5 (by decide) (fun hc => ?_) (fun hc => ?_)
  · rw [if_neg hc] at hF
    exact BX5_isWord_24 hC hR (lv_sub hl [] rfl) hF
  · rw [if_pos hc] at hF
    refine lv_aload_n hC.1 hC.2.1 dX5_isWord_8 rfl (lv_at hl 0 rfl) ?_
    obtain ⟨x2, e2, hF⟩ := bnd hF
    refine pw_gfi hC hR e2 flX5_28 dX5_isWord_9 ?_
    refine lv_aload_n hC.1 hC.2.1 dX5_isWord_12 rfl (lv_at hl 0 rfl) ?_
    obtain ⟨x3, e3, hF⟩ := bnd hF
    refine pw_gfi hC hR e3 flX5_25 dX5_isWord_13 ?_
    refine pw_isub hC dX5_isWord_16 ?_
    refine lv_aload_n hC.1 hC.2.1 dX5_isWord_17 rfl (lv_at hl 1 rfl) ?_
    obtain ⟨x4, e4, hF⟩ := bnd hF
    refine pw_slen (rest := [.int (Int32.ofInt (x2 - x3))]) hC hR e4 lyX5_44 hl.1 ⟨Nat.le_of_ble_eq_true rfl, Nat.le_of_ble_eq_true rfl⟩ (Nat.le_of_ble_eq_true rfl) dX5_isWord_18 ⟨Nat.zero_le _, Nat.zero_le _⟩ (fun H locs hR => ?_)
    refine pw_icmpeq hC 26 dX5_isWord_21 (by decide) (fun hc => ?_) (fun hc => ?_)
    · rw [if_pos hc] at hF
      refine pw_iconst hC dX5_isWord_26 ?_
      refine lv_istore_n (lv' := [(2, .int (Int32.ofInt 0)), (0, .ref (ad v0)), (1, .ref (g.2.2.2.1 v1))]) hC.1 hC.2.1 dX5_isWord_27 rfl hl (by decide) rfl (fun ls hl => ?_)
      obtain ⟨ex10, e10, hF⟩ := bnd hF
      refine LRX5_isWord_28 hC FU _ ex10 e10 ?_ _ _ _ hR (lv_sub hl [1, 2, 0] rfl)
      rcases ex10 with ex10 | ex10
      · dsimp only [Sum.elim_inl, Sum.elim_inr] at hF
        intro H locs ls hR hl
        refine pw_iconst hC dX5_isWord_55 ?_
        cases hF
        exact pw_zret hC hR (Or.inl rfl) dX5_isWord_56
      · dsimp only [Sum.elim_inl, Sum.elim_inr] at hF
        intro H locs ls hR hl
        refine pw_iconst hC dX5_isWord_63 ?_
        cases hF
        exact pw_zret hC hR (Or.inr rfl) dX5_isWord_64
    · rw [if_neg hc] at hF
      exact BX5_isWord_24 hC hR (lv_sub hl [] rfl) hF
abbrev rmX4_readQueue : Room := { frames := 9, cells := 0, slots := 0, locals := 222 }
def JX4_readQueue_80 (h : PH) : Option (Int × PH) :=
  some (0, h)
set_option maxHeartbeats 4000000 in
set_option maxRecDepth 100000 in
theorem BX4_readQueue_80 {h : PH} (hC : Cx g p s m args meth c cX4_readQueue 5 RX4 (some .boolean)) (hR : Rl g ad h s.heap H locs) (hl : lv_has ls 5 []) {q : Int × PH} (hF : JX4_readQueue_80 h  = some q) : W p l e rmX4_readQueue s m args below meth c H locs 0 0 (MQ below (QcN g ad q.2 (some (.int (Int32.ofInt q.1)))) args s 0 0 (gA g)) (F0 m 80 ls []) := by
  unfold JX4_readQueue_80 at hF
  refine pw_iconst hC dX4_readQueue_80 ?_
  cases hF
  exact pw_zret hC hR (Or.inl rfl) dX4_readQueue_81
def JX4_readQueue_64 (h : PH) (v0 : Nat) (v1 : Nat) (v2 : Int) (v3 : Int) (s0 : Int) : Option (Int × PH) :=
  if w32 s0 < 0 then (
    JX4_readQueue_80 h
  ) else (
    (FX4_takeMark h v0 59).bind fun q8 =>
    if w32 q8.1 = 0 then (
      JX4_readQueue_80 q8.2
    ) else (
      (gfr q8.2 3 v1 0).bind fun x9 =>
      (pfi q8.2 6 x9 0 0).bind fun h10 =>
      (gfr h10 3 v1 0).bind fun x11 =>
      (pfi h10 6 x11 1 0).bind fun h12 =>
      (FX3_startAgainOn h12 v1 v2).bind fun h13 =>
      (gfr h13 3 v1 1).bind fun x14 =>
      (pfi h13 0 x14 1 v3).bind fun h15 =>
      (gfr h15 3 v1 1).bind fun x16 =>
      (pfi h15 0 x16 2 s0).bind fun h17 =>
      some (1, h17)
    )
  )
set_option maxHeartbeats 4000000 in
set_option maxRecDepth 100000 in
theorem BX4_readQueue_64 {h : PH} {v0 : Nat} {v1 : Nat} {v2 : Int} {v3 : Int} {s0 : Int} (hC : Cx g p s m args meth c cX4_readQueue 5 RX4 (some .boolean)) (hR : Rl g ad h s.heap H locs) (hl : lv_has ls 5 [(0, .ref (ad v0)), (1, .ref (ad v1)), (2, .int (Int32.ofInt v2)), (3, .int (Int32.ofInt v3))]) {q : Int × PH} (hF : JX4_readQueue_64 h v0 v1 v2 v3 s0 = some q) : W p l e rmX4_readQueue s m args below meth c H locs 0 0 (MQ below (QcN g ad q.2 (some (.int (Int32.ofInt q.1)))) args s 0 0 (gA g)) (F0 m 64 ls [.int (Int32.ofInt s0)]) := by
  unfold JX4_readQueue_64 at hF
  refine lv_istore (lv' := [(4, .int (Int32.ofInt s0)), (0, .ref (ad v0)), (1, .ref (ad v1)), (2, .int (Int32.ofInt v2)), (3, .int (Int32.ofInt v3))]) hC.1 hC.2.1 dX4_readQueue_64 hl (by decide) rfl (fun ls hl => ?_)
  refine lv_iload hC.1 hC.2.1 dX4_readQueue_66 (lv_at hl 0 rfl) ?_
  refine pw_iflt hC 80 dX4_readQueue_68 (by decide) (fun hc => ?_) (fun hc => ?_)
  · rw [if_pos hc] at hF
    exact BX4_readQueue_80 hC hR (lv_sub hl [] rfl) hF
  · rw [if_neg hc] at hF
    refine lv_aload_n hC.1 hC.2.1 dX4_readQueue_71 rfl (lv_at hl 1 rfl) ?_
    refine pw_bipush hC dX4_readQueue_72 rfl ?_
    obtain ⟨q8, e8, hF⟩ := bnd hF
    obtain ⟨fs8, ho8⟩ := OX4_takeMark e8
    refine pw_cVi (rest := []) hC hR lvX4_55 ho8 (CX4_takeMark e8) ⟨rfl, rfl⟩ rfl hl.1 rfl ⟨Nat.le_of_ble_eq_true rfl, Nat.le_of_ble_eq_true rfl⟩ (Nat.le_of_ble_eq_true rfl) dX4_readQueue_74 ⟨Nat.zero_le _, Nat.zero_le _⟩ (fun H locs hR => ?_)
    refine pw_ifne hC 82 dX4_readQueue_77 (by decide) (fun hc => ?_) (fun hc => ?_)
    · rw [if_neg hc] at hF
      refine lv_aload_n hC.1 hC.2.1 dX4_readQueue_82 rfl (lv_at hl 2 rfl) ?_
      obtain ⟨x9, e9, hF⟩ := bnd hF
      refine pw_gfr hC hR e9 flX4_91 dX4_readQueue_83 ?_
      refine pw_iconst hC dX4_readQueue_86 ?_
      obtain ⟨h10, e10, hF⟩ := bnd hF
      refine pw_pfi hC hR e10 fpX4_95 (Or.inl rfl) dX4_readQueue_87 (fun H locs hR => ?_)
      refine lv_aload_n hC.1 hC.2.1 dX4_readQueue_90 rfl (lv_at hl 2 rfl) ?_
      obtain ⟨x11, e11, hF⟩ := bnd hF
      refine pw_gfr hC hR e11 flX4_91 dX4_readQueue_91 ?_
      refine pw_iconst hC dX4_readQueue_94 ?_
      obtain ⟨h12, e12, hF⟩ := bnd hF
      refine pw_pfi hC hR e12 fpX4_100 (Or.inl rfl) dX4_readQueue_95 (fun H locs hR => ?_)
      refine lv_aload_n hC.1 hC.2.1 dX4_readQueue_98 rfl (lv_at hl 2 rfl) ?_
      refine lv_iload_n hC.1 hC.2.1 dX4_readQueue_99 rfl (lv_at hl 3 rfl) ?_
      obtain ⟨h13, e13, hF⟩ := bnd hF
      obtain ⟨fs13, ho13⟩ := OX3_startAgainOn e13
      refine pw_cVv (rest := []) hC hR lvX4_103 ho13 (CX3_startAgainOn e13) ⟨rfl, rfl⟩ rfl hl.1 rfl ⟨Nat.le_of_ble_eq_true rfl, Nat.le_of_ble_eq_true rfl⟩ (Nat.le_of_ble_eq_true rfl) dX4_readQueue_100 ⟨Nat.zero_le _, Nat.zero_le _⟩ (fun H locs hR => ?_)
      refine lv_aload_n hC.1 hC.2.1 dX4_readQueue_103 rfl (lv_at hl 2 rfl) ?_
      obtain ⟨x14, e14, hF⟩ := bnd hF
      refine pw_gfr hC hR e14 flX4_106 dX4_readQueue_104 ?_
      refine lv_iload_n hC.1 hC.2.1 dX4_readQueue_107 rfl (lv_at hl 4 rfl) ?_
      obtain ⟨h15, e15, hF⟩ := bnd hF
      refine pw_pfi hC hR e15 fpX4_110 (Or.inl rfl) dX4_readQueue_108 (fun H locs hR => ?_)
      refine lv_aload_n hC.1 hC.2.1 dX4_readQueue_111 rfl (lv_at hl 2 rfl) ?_
      obtain ⟨x16, e16, hF⟩ := bnd hF
      refine pw_gfr hC hR e16 flX4_106 dX4_readQueue_112 ?_
      refine lv_iload hC.1 hC.2.1 dX4_readQueue_115 (lv_at hl 0 rfl) ?_
      obtain ⟨h17, e17, hF⟩ := bnd hF
      refine pw_pfi hC hR e17 fpX4_115 (Or.inl rfl) dX4_readQueue_117 (fun H locs hR => ?_)
      refine pw_iconst hC dX4_readQueue_120 ?_
      cases hF
      exact pw_zret hC hR (Or.inr rfl) dX4_readQueue_121
    · rw [if_pos hc] at hF
      exact BX4_readQueue_80 hC hR (lv_sub hl [] rfl) hF
def JX4_readQueue_48 (h : PH) (v0 : Nat) (v1 : Nat) (v2 : Int) (s0 : Int) : Option (Int × PH) :=
  if w32 s0 < 0 then (
    JX4_readQueue_64 h v0 v1 v2 s0 (-1)
  ) else (
    (FX4_takeNumber h v0 0 20).bind fun q7 =>
    JX4_readQueue_64 q7.2 v0 v1 v2 s0 q7.1
  )
set_option maxHeartbeats 4000000 in
set_option maxRecDepth 100000 in
theorem BX4_readQueue_48 {h : PH} {v0 : Nat} {v1 : Nat} {v2 : Int} {s0 : Int} (hC : Cx g p s m args meth c cX4_readQueue 5 RX4 (some .boolean)) (hR : Rl g ad h s.heap H locs) (hl : lv_has ls 5 [(0, .ref (ad v0)), (1, .ref (ad v1)), (2, .int (Int32.ofInt v2))]) {q : Int × PH} (hF : JX4_readQueue_48 h v0 v1 v2 s0 = some q) : W p l e rmX4_readQueue s m args below meth c H locs 0 0 (MQ below (QcN g ad q.2 (some (.int (Int32.ofInt q.1)))) args s 0 0 (gA g)) (F0 m 48 ls [.int (Int32.ofInt s0)]) := by
  unfold JX4_readQueue_48 at hF
  refine lv_istore_n (lv' := [(3, .int (Int32.ofInt s0)), (0, .ref (ad v0)), (1, .ref (ad v1)), (2, .int (Int32.ofInt v2))]) hC.1 hC.2.1 dX4_readQueue_48 rfl hl (by decide) rfl (fun ls hl => ?_)
  refine lv_iload_n hC.1 hC.2.1 dX4_readQueue_49 rfl (lv_at hl 0 rfl) ?_
  refine pw_ifge hC 57 dX4_readQueue_50 (by decide) (fun hc => ?_) (fun hc => ?_)
  · rw [if_neg hc] at hF
    refine lv_aload_n hC.1 hC.2.1 dX4_readQueue_57 rfl (lv_at hl 1 rfl) ?_
    refine pw_iconst hC dX4_readQueue_58 ?_
    refine pw_bipush hC dX4_readQueue_59 rfl ?_
    obtain ⟨q7, e7, hF⟩ := bnd hF
    obtain ⟨fs7, ho7⟩ := OX4_takeNumber e7
    refine pw_cVi (rest := []) hC hR lvX4_87 ho7 (CX4_takeNumber e7) ⟨rfl, rfl⟩ rfl hl.1 rfl ⟨Nat.le_of_ble_eq_true rfl, Nat.le_of_ble_eq_true rfl⟩ (Nat.le_of_ble_eq_true rfl) dX4_readQueue_61 ⟨Nat.zero_le _, Nat.zero_le _⟩ (fun H locs hR => ?_)
    exact BX4_readQueue_64 hC hR (lv_sub hl [1, 2, 3, 0] rfl) hF
  · rw [if_pos hc] at hF
    refine pw_iconst hC dX4_readQueue_53 ?_
    refine pw_goto hC 64 dX4_readQueue_54 (by decide) ?_
    exact BX4_readQueue_64 hC hR (lv_sub hl [1, 2, 3, 0] rfl) hF
def FX4_readQueue (h : PH) (v0 : Nat) (v1 : Nat) : Option (Int × PH) :=
  (isO h 4 v0).bind fun _ =>
  (gfr h 4 v0 0).bind fun x1 =>
  (FX5_isWord h x1 0).bind fun x2 =>
  if w32 x2 = 0 then (
    (FX4_fail h v0 (-2)).bind fun q18 =>
    if q18.1 = 0 ∨ q18.1 = 1 then some (q18.1, q18.2) else none
  ) else (
    (gfr h 4 v0 0).bind fun x3 =>
    (FX5_advance h x3).bind fun h4 =>
    (FX4_takeNumber h4 v0 1 4).bind fun q5 =>
    if w32 q5.1 < 0 then (
      JX4_readQueue_48 q5.2 v0 v1 q5.1 (-1)
    ) else (
      (FX4_takeNumber q5.2 v0 1 8).bind fun q6 =>
      JX4_readQueue_48 q6.2 v0 v1 q5.1 q6.1
    )
  )
theorem OX4_readQueue {h : PH} {v0 : Nat} {v1 : Nat} {q : Int × PH} (hF : FX4_readQueue h v0 v1 = some q) : ∃ fs : List PV, h[v0]? = some (.inr (4, fs)) := by
  unfold FX4_readQueue at hF
  obtain ⟨u0, e0, -⟩ := bnd hF
  exact isO_spec e0
set_option maxHeartbeats 4000000 in
set_option maxRecDepth 100000 in
theorem CX4_readQueue {g : GP} {l : Launch} {ad : Nat → Nat} {h : PH} {v0 : Nat} {v1 : Nat} {q : Int × PH} (hF : FX4_readQueue h v0 v1 = some q) : CN g l yX4_readQueue cX4_readQueue 5 (some .boolean) rmX4_readQueue ad h [.ref (ad v0), .ref (ad v1)] (some (.int (Int32.ofInt q.1))) q.2 := by
  refine pw_met (by decide) (Nat.le_of_ble_eq_true rfl) ?_
  intro p e s m args below meth c ls hC hN hR hl
  have hl : lv_has ls 5 [(0, .ref (ad v0)), (1, .ref (ad v1))] := hl
  unfold FX4_readQueue at hF
  obtain ⟨u0, e0, hF⟩ := bnd hF
  refine lv_aload_n hC.1 hC.2.1 dX4_readQueue_0 rfl (lv_at hl 0 rfl) ?_
  obtain ⟨x1, e1, hF⟩ := bnd hF
  refine pw_gfr hC hR e1 flX4_12 dX4_readQueue_1 ?_
  refine pw_ldcs hC 0 (tx := "queue") (by decide +kernel) dX4_readQueue_4 ?_
  obtain ⟨x2, e2, hF⟩ := bnd hF
  obtain ⟨fs2, ho2⟩ := OX5_isWord e2
  refine pw_cVi (rest := []) hC hR lvX4_76 ho2 (CX5_isWord e2) ⟨rfl, rfl⟩ rfl hl.1 rfl ⟨Nat.le_of_ble_eq_true rfl, Nat.le_of_ble_eq_true rfl⟩ (Nat.le_of_ble_eq_true rfl) dX4_readQueue_6 ⟨Nat.zero_le _, Nat.zero_le _⟩ (fun H locs hR => ?_)
  refine pw_ifne hC 19 dX4_readQueue_9 (by decide) (fun hc => ?_) (fun hc => ?_)
  · rw [if_neg hc] at hF
    refine lv_aload_n hC.1 hC.2.1 dX4_readQueue_19 rfl (lv_at hl 0 rfl) ?_
    obtain ⟨x3, e3, hF⟩ := bnd hF
    refine pw_gfr hC hR e3 flX4_12 dX4_readQueue_20 ?_
    obtain ⟨h4, e4, hF⟩ := bnd hF
    obtain ⟨fs4, ho4⟩ := OX5_advance e4
    refine pw_cVv (rest := []) hC hR lvX4_84 ho4 (CX5_advance e4) ⟨rfl, rfl⟩ rfl hl.1 rfl ⟨Nat.le_of_ble_eq_true rfl, Nat.le_of_ble_eq_true rfl⟩ (Nat.le_of_ble_eq_true rfl) dX4_readQueue_23 ⟨Nat.zero_le _, Nat.zero_le _⟩ (fun H locs hR => ?_)
    refine lv_aload_n hC.1 hC.2.1 dX4_readQueue_26 rfl (lv_at hl 0 rfl) ?_
    refine pw_iconst hC dX4_readQueue_27 ?_
    refine pw_iconst hC dX4_readQueue_28 ?_
    obtain ⟨q5, e5, hF⟩ := bnd hF
    obtain ⟨fs5, ho5⟩ := OX4_takeNumber e5
    refine pw_cVi (rest := []) hC hR lvX4_87 ho5 (CX4_takeNumber e5) ⟨rfl, rfl⟩ rfl hl.1 rfl ⟨Nat.le_of_ble_eq_true rfl, Nat.le_of_ble_eq_true rfl⟩ (Nat.le_of_ble_eq_true rfl) dX4_readQueue_29 ⟨Nat.zero_le _, Nat.zero_le _⟩ (fun H locs hR => ?_)
    refine lv_istore_n (lv' := [(2, .int (Int32.ofInt q5.1)), (0, .ref (ad v0)), (1, .ref (ad v1))]) hC.1 hC.2.1 dX4_readQueue_32 rfl hl (by decide) rfl (fun ls hl => ?_)
    refine lv_iload_n hC.1 hC.2.1 dX4_readQueue_33 rfl (lv_at hl 0 rfl) ?_
    refine pw_ifge hC 41 dX4_readQueue_34 (by decide) (fun hc => ?_) (fun hc => ?_)
    · rw [if_neg hc] at hF
      refine lv_aload_n hC.1 hC.2.1 dX4_readQueue_41 rfl (lv_at hl 1 rfl) ?_
      refine pw_iconst hC dX4_readQueue_42 ?_
      refine pw_bipush hC dX4_readQueue_43 rfl ?_
      obtain ⟨q6, e6, hF⟩ := bnd hF
      obtain ⟨fs6, ho6⟩ := OX4_takeNumber e6
      refine pw_cVi (rest := []) hC hR lvX4_87 ho6 (CX4_takeNumber e6) ⟨rfl, rfl⟩ rfl hl.1 rfl ⟨Nat.le_of_ble_eq_true rfl, Nat.le_of_ble_eq_true rfl⟩ (Nat.le_of_ble_eq_true rfl) dX4_readQueue_45 ⟨Nat.zero_le _, Nat.zero_le _⟩ (fun H locs hR => ?_)
      exact BX4_readQueue_48 hC hR (lv_sub hl [1, 2, 0] rfl) hF
    · rw [if_pos hc] at hF
      refine pw_iconst hC dX4_readQueue_37 ?_
      refine pw_goto hC 48 dX4_readQueue_38 (by decide) ?_
      exact BX4_readQueue_48 hC hR (lv_sub hl [1, 2, 0] rfl) hF
  · rw [if_pos hc] at hF
    refine lv_aload_n hC.1 hC.2.1 dX4_readQueue_12 rfl (lv_at hl 0 rfl) ?_
    refine pw_bipush hC dX4_readQueue_13 rfl ?_
    obtain ⟨q18, e18, hF⟩ := bnd hF
    obtain ⟨fs18, ho18⟩ := OX4_fail e18
    refine pw_cVi (rest := []) hC hR lvX4_80 ho18 (CX4_fail e18) ⟨rfl, rfl⟩ rfl hl.1 rfl ⟨Nat.le_of_ble_eq_true rfl, Nat.le_of_ble_eq_true rfl⟩ (Nat.le_of_ble_eq_true rfl) dX4_readQueue_15 ⟨Nat.zero_le _, Nat.zero_le _⟩ (fun H locs hR => ?_)
    by_cases hb19 : q18.1 = 0 ∨ q18.1 = 1
    · rw [if_pos hb19] at hF
      cases hF
      exact pw_zret hC hR hb19 dX4_readQueue_18
    · rw [if_neg hb19] at hF; cases hF
abbrev rmX4_readTask : Room := { frames := 9, cells := 0, slots := 0, locals := 222 }
def JX4_readTask_147 (h : PH) : Option (Int × PH) :=
  some (0, h)
set_option maxHeartbeats 4000000 in
set_option maxRecDepth 100000 in
theorem BX4_readTask_147 {h : PH} (hC : Cx g p s m args meth c cX4_readTask 7 RX4 (some .boolean)) (hR : Rl g ad h s.heap H locs) (hl : lv_has ls 7 []) {q : Int × PH} (hF : JX4_readTask_147 h  = some q) : W p l e rmX4_readTask s m args below meth c H locs 0 0 (MQ below (QcN g ad q.2 (some (.int (Int32.ofInt q.1)))) args s 0 0 (gA g)) (F0 m 147 ls []) := by
  unfold JX4_readTask_147 at hF
  refine pw_iconst hC dX4_readTask_147 ?_
  cases hF
  exact pw_zret hC hR (Or.inl rfl) dX4_readTask_148
def JX4_readTask_137 (h : PH) (v1 : Nat) (v3 : Int) (v4 : Int) (v5 : Int) (v6 : Int) : Option (Int × PH) :=
  if w32 v5 < 0 then (
    JX4_readTask_147 h
  ) else (
    if w32 v6 < 0 then (
      JX4_readTask_147 h
    ) else (
      (FX6_add h v1 v3 v4 v5 v6).bind fun h8 =>
      some (1, h8)
    )
  )
set_option maxHeartbeats 4000000 in
set_option maxRecDepth 100000 in
theorem BX4_readTask_137 {h : PH} {v1 : Nat} {v3 : Int} {v4 : Int} {v5 : Int} {v6 : Int} (hC : Cx g p s m args meth c cX4_readTask 7 RX4 (some .boolean)) (hR : Rl g ad h s.heap H locs) (hl : lv_has ls 7 [(1, .ref (ad v1)), (3, .int (Int32.ofInt v3)), (4, .int (Int32.ofInt v4)), (5, .int (Int32.ofInt v5)), (6, .int (Int32.ofInt v6))]) {q : Int × PH} (hF : JX4_readTask_137 h v1 v3 v4 v5 v6 = some q) : W p l e rmX4_readTask s m args below meth c H locs 0 0 (MQ below (QcN g ad q.2 (some (.int (Int32.ofInt q.1)))) args s 0 0 (gA g)) (F0 m 137 ls []) := by
  unfold JX4_readTask_137 at hF
  refine lv_iload hC.1 hC.2.1 dX4_readTask_137 (lv_at hl 3 rfl) ?_
  refine pw_iflt hC 147 dX4_readTask_139 (by decide) (fun hc => ?_) (fun hc => ?_)
  · rw [if_pos hc] at hF
    exact BX4_readTask_147 hC hR (lv_sub hl [] rfl) hF
  · rw [if_neg hc] at hF
    refine lv_iload hC.1 hC.2.1 dX4_readTask_142 (lv_at hl 4 rfl) ?_
    refine pw_ifge hC 149 dX4_readTask_144 (by decide) (fun hc => ?_) (fun hc => ?_)
    · rw [if_neg hc] at hF
      refine lv_aload_n hC.1 hC.2.1 dX4_readTask_149 rfl (lv_at hl 0 rfl) ?_
      refine lv_iload_n hC.1 hC.2.1 dX4_readTask_150 rfl (lv_at hl 1 rfl) ?_
      refine lv_iload hC.1 hC.2.1 dX4_readTask_151 (lv_at hl 2 rfl) ?_
      refine lv_iload hC.1 hC.2.1 dX4_readTask_153 (lv_at hl 3 rfl) ?_
      refine lv_iload hC.1 hC.2.1 dX4_readTask_155 (lv_at hl 4 rfl) ?_
      obtain ⟨h8, e8, hF⟩ := bnd hF
      obtain ⟨fs8, ho8⟩ := OX6_add e8
      refine pw_cVv (rest := []) hC hR lvX4_143 ho8 (CX6_add e8) ⟨rfl, rfl⟩ rfl hl.1 rfl ⟨Nat.le_of_ble_eq_true rfl, Nat.le_of_ble_eq_true rfl⟩ (Nat.le_of_ble_eq_true rfl) dX4_readTask_157 ⟨Nat.zero_le _, Nat.zero_le _⟩ (fun H locs hR => ?_)
      refine pw_iconst hC dX4_readTask_160 ?_
      cases hF
      exact pw_zret hC hR (Or.inr rfl) dX4_readTask_161
    · rw [if_pos hc] at hF
      exact BX4_readTask_147 hC hR (lv_sub hl [] rfl) hF
def JX4_readTask_100 (h : PH) (v0 : Nat) (v1 : Nat) (v3 : Int) (v4 : Int) (v5 : Int) : Option (Int × PH) :=
  if w32 v5 < 0 then (
    JX4_readTask_137 h v1 v3 v4 v5 0
  ) else (
    (gfr h 4 v0 0).bind fun x9 =>
    (FX5_isWord h x9 3).bind fun x10 =>
    if w32 x10 = 0 then (
      JX4_readTask_137 h v1 v3 v4 v5 0
    ) else (
      (gfr h 4 v0 0).bind fun x11 =>
      (FX5_advance h x11).bind fun h12 =>
      (gfi h12 6 v1 0).bind fun x13 =>
      (FX4_takePredecessors h12 v0 x13).bind fun q14 =>
      JX4_readTask_137 q14.2 v1 v3 v4 v5 q14.1
    )
  )
set_option maxHeartbeats 4000000 in
set_option maxRecDepth 100000 in
theorem BX4_readTask_100 {h : PH} {v0 : Nat} {v1 : Nat} {v3 : Int} {v4 : Int} {v5 : Int} (hC : Cx g p s m args meth c cX4_readTask 7 RX4 (some .boolean)) (hR : Rl g ad h s.heap H locs) (hl : lv_has ls 7 [(0, .ref (ad v0)), (1, .ref (ad v1)), (3, .int (Int32.ofInt v3)), (4, .int (Int32.ofInt v4)), (5, .int (Int32.ofInt v5))]) {q : Int × PH} (hF : JX4_readTask_100 h v0 v1 v3 v4 v5 = some q) : W p l e rmX4_readTask s m args below meth c H locs 0 0 (MQ below (QcN g ad q.2 (some (.int (Int32.ofInt q.1)))) args s 0 0 (gA g)) (F0 m 100 ls []) := by
  unfold JX4_readTask_100 at hF
  refine pw_iconst hC dX4_readTask_100 ?_
  refine lv_istore (lv' := [(6, .int (Int32.ofInt 0)), (0, .ref (ad v0)), (1, .ref (ad v1)), (3, .int (Int32.ofInt v3)), (4, .int (Int32.ofInt v4)), (5, .int (Int32.ofInt v5))]) hC.1 hC.2.1 dX4_readTask_101 hl (by decide) rfl (fun ls hl => ?_)
  refine lv_iload hC.1 hC.2.1 dX4_readTask_103 (lv_at hl 5 rfl) ?_
  refine pw_iflt hC 137 dX4_readTask_105 (by decide) (fun hc => ?_) (fun hc => ?_)
  · rw [if_pos hc] at hF
    exact BX4_readTask_137 hC hR (lv_sub hl [2, 3, 4, 5, 0] rfl) hF
  · rw [if_neg hc] at hF
    refine lv_aload_n hC.1 hC.2.1 dX4_readTask_108 rfl (lv_at hl 1 rfl) ?_
    obtain ⟨x9, e9, hF⟩ := bnd hF
    refine pw_gfr hC hR e9 flX4_12 dX4_readTask_109 ?_
    refine pw_ldcs hC 3 (tx := "after") (by decide +kernel) dX4_readTask_112 ?_
    obtain ⟨x10, e10, hF⟩ := bnd hF
    obtain ⟨fs10, ho10⟩ := OX5_isWord e10
    refine pw_cVi (rest := []) hC hR lvX4_76 ho10 (CX5_isWord e10) ⟨rfl, rfl⟩ rfl hl.1 rfl ⟨Nat.le_of_ble_eq_true rfl, Nat.le_of_ble_eq_true rfl⟩ (Nat.le_of_ble_eq_true rfl) dX4_readTask_114 ⟨Nat.zero_le _, Nat.zero_le _⟩ (fun H locs hR => ?_)
    refine pw_ifeq hC 137 dX4_readTask_117 (by decide) (fun hc => ?_) (fun hc => ?_)
    · rw [if_pos hc] at hF
      exact BX4_readTask_137 hC hR (lv_sub hl [2, 3, 4, 5, 0] rfl) hF
    · rw [if_neg hc] at hF
      refine lv_aload_n hC.1 hC.2.1 dX4_readTask_120 rfl (lv_at hl 1 rfl) ?_
      obtain ⟨x11, e11, hF⟩ := bnd hF
      refine pw_gfr hC hR e11 flX4_12 dX4_readTask_121 ?_
      obtain ⟨h12, e12, hF⟩ := bnd hF
      obtain ⟨fs12, ho12⟩ := OX5_advance e12
      refine pw_cVv (rest := []) hC hR lvX4_84 ho12 (CX5_advance e12) ⟨rfl, rfl⟩ rfl hl.1 rfl ⟨Nat.le_of_ble_eq_true rfl, Nat.le_of_ble_eq_true rfl⟩ (Nat.le_of_ble_eq_true rfl) dX4_readTask_124 ⟨Nat.zero_le _, Nat.zero_le _⟩ (fun H locs hR => ?_)
      refine lv_aload_n hC.1 hC.2.1 dX4_readTask_127 rfl (lv_at hl 1 rfl) ?_
      refine lv_aload_n hC.1 hC.2.1 dX4_readTask_128 rfl (lv_at hl 2 rfl) ?_
      obtain ⟨x13, e13, hF⟩ := bnd hF
      refine pw_gfi hC hR e13 flX4_95 dX4_readTask_129 ?_
      obtain ⟨q14, e14, hF⟩ := bnd hF
      obtain ⟨fs14, ho14⟩ := OX4_takePredecessors e14
      refine pw_cVi (rest := []) hC hR lvX4_139 ho14 (CX4_takePredecessors e14) ⟨rfl, rfl⟩ rfl hl.1 rfl ⟨Nat.le_of_ble_eq_true rfl, Nat.le_of_ble_eq_true rfl⟩ (Nat.le_of_ble_eq_true rfl) dX4_readTask_132 ⟨Nat.zero_le _, Nat.zero_le _⟩ (fun H locs hR => ?_)
      refine lv_istore (lv' := [(6, .int (Int32.ofInt q14.1)), (0, .ref (ad v0)), (1, .ref (ad v1)), (3, .int (Int32.ofInt v3)), (4, .int (Int32.ofInt v4)), (5, .int (Int32.ofInt v5))]) hC.1 hC.2.1 dX4_readTask_135 hl (by decide) rfl (fun ls hl => ?_)
      exact BX4_readTask_137 hC hR (lv_sub hl [2, 3, 4, 5, 0] rfl) hF
def JX4_readTask_69 (h : PH) (v0 : Nat) (v1 : Nat) (v2 : Int) (v3 : Int) (v4 : Int) (s0 : Int) : Option (Int × PH) :=
  (gfr h 4 v0 0).bind fun x6 =>
  (FX5_isWord h x6 2).bind fun x7 =>
  if w32 x7 = 0 then (
    JX4_readTask_100 h v0 v1 v3 v4 s0
  ) else (
    (gfr h 4 v0 0).bind fun x15 =>
    (FX5_advance h x15).bind fun h16 =>
    (FX4_takeNumber h16 v0 0 (v2 - 1)).bind fun q17 =>
    JX4_readTask_100 q17.2 v0 v1 v3 v4 q17.1
  )
set_option maxHeartbeats 4000000 in
set_option maxRecDepth 100000 in
theorem BX4_readTask_69 {h : PH} {v0 : Nat} {v1 : Nat} {v2 : Int} {v3 : Int} {v4 : Int} {s0 : Int} (hC : Cx g p s m args meth c cX4_readTask 7 RX4 (some .boolean)) (hR : Rl g ad h s.heap H locs) (hl : lv_has ls 7 [(0, .ref (ad v0)), (1, .ref (ad v1)), (2, .int (Int32.ofInt v2)), (3, .int (Int32.ofInt v3)), (4, .int (Int32.ofInt v4))]) {q : Int × PH} (hF : JX4_readTask_69 h v0 v1 v2 v3 v4 s0 = some q) : W p l e rmX4_readTask s m args below meth c H locs 0 0 (MQ below (QcN g ad q.2 (some (.int (Int32.ofInt q.1)))) args s 0 0 (gA g)) (F0 m 69 ls [.int (Int32.ofInt s0)]) := by
  unfold JX4_readTask_69 at hF
  refine lv_istore (lv' := [(5, .int (Int32.ofInt s0)), (0, .ref (ad v0)), (1, .ref (ad v1)), (2, .int (Int32.ofInt v2)), (3, .int (Int32.ofInt v3)), (4, .int (Int32.ofInt v4))]) hC.1 hC.2.1 dX4_readTask_69 hl (by decide) rfl (fun ls hl => ?_)
  refine lv_aload_n hC.1 hC.2.1 dX4_readTask_71 rfl (lv_at hl 1 rfl) ?_
  obtain ⟨x6, e6, hF⟩ := bnd hF
  refine pw_gfr hC hR e6 flX4_12 dX4_readTask_72 ?_
  refine pw_ldcs hC 2 (tx := "core") (by decide +kernel) dX4_readTask_75 ?_
  obtain ⟨x7, e7, hF⟩ := bnd hF
  obtain ⟨fs7, ho7⟩ := OX5_isWord e7
  refine pw_cVi (rest := []) hC hR lvX4_76 ho7 (CX5_isWord e7) ⟨rfl, rfl⟩ rfl hl.1 rfl ⟨Nat.le_of_ble_eq_true rfl, Nat.le_of_ble_eq_true rfl⟩ (Nat.le_of_ble_eq_true rfl) dX4_readTask_77 ⟨Nat.zero_le _, Nat.zero_le _⟩ (fun H locs hR => ?_)
  refine pw_ifeq hC 100 dX4_readTask_80 (by decide) (fun hc => ?_) (fun hc => ?_)
  · rw [if_pos hc] at hF
    exact BX4_readTask_100 hC hR (lv_sub hl [1, 2, 4, 5, 0] rfl) hF
  · rw [if_neg hc] at hF
    refine lv_aload_n hC.1 hC.2.1 dX4_readTask_83 rfl (lv_at hl 1 rfl) ?_
    obtain ⟨x15, e15, hF⟩ := bnd hF
    refine pw_gfr hC hR e15 flX4_12 dX4_readTask_84 ?_
    obtain ⟨h16, e16, hF⟩ := bnd hF
    obtain ⟨fs16, ho16⟩ := OX5_advance e16
    refine pw_cVv (rest := []) hC hR lvX4_84 ho16 (CX5_advance e16) ⟨rfl, rfl⟩ rfl hl.1 rfl ⟨Nat.le_of_ble_eq_true rfl, Nat.le_of_ble_eq_true rfl⟩ (Nat.le_of_ble_eq_true rfl) dX4_readTask_87 ⟨Nat.zero_le _, Nat.zero_le _⟩ (fun H locs hR => ?_)
    refine lv_aload_n hC.1 hC.2.1 dX4_readTask_90 rfl (lv_at hl 1 rfl) ?_
    refine pw_iconst hC dX4_readTask_91 ?_
    refine lv_iload_n hC.1 hC.2.1 dX4_readTask_92 rfl (lv_at hl 3 rfl) ?_
    refine pw_iconst hC dX4_readTask_93 ?_
    refine pw_isub hC dX4_readTask_94 ?_
    obtain ⟨q17, e17, hF⟩ := bnd hF
    obtain ⟨fs17, ho17⟩ := OX4_takeNumber e17
    refine pw_cVi (rest := []) hC hR lvX4_87 ho17 (CX4_takeNumber e17) ⟨rfl, rfl⟩ rfl hl.1 rfl ⟨Nat.le_of_ble_eq_true rfl, Nat.le_of_ble_eq_true rfl⟩ (Nat.le_of_ble_eq_true rfl) dX4_readTask_95 ⟨Nat.zero_le _, Nat.zero_le _⟩ (fun H locs hR => ?_)
    refine lv_istore (lv' := [(5, .int (Int32.ofInt q17.1)), (0, .ref (ad v0)), (1, .ref (ad v1)), (2, .int (Int32.ofInt v2)), (3, .int (Int32.ofInt v3)), (4, .int (Int32.ofInt v4))]) hC.1 hC.2.1 dX4_readTask_98 hl (by decide) rfl (fun ls hl => ?_)
    exact BX4_readTask_100 hC hR (lv_sub hl [1, 2, 4, 5, 0] rfl) hF
def JX4_readTask_46 (h : PH) (v0 : Nat) (v1 : Nat) (v2 : Int) (v3 : Int) (s0 : Int) : Option (Int × PH) :=
  if w32 s0 < 0 then (
    some (0, h)
  ) else (
    if 0 < w32 v2 then (
      (gfi h 6 v1 0).bind fun x18 =>
      if w32 v2 = 0 then none else
      JX4_readTask_69 h v0 v1 v2 v3 s0 (remI x18 v2)
    ) else (
      JX4_readTask_69 h v0 v1 v2 v3 s0 0
    )
  )
set_option maxHeartbeats 4000000 in
set_option maxRecDepth 100000 in
theorem BX4_readTask_46 {h : PH} {v0 : Nat} {v1 : Nat} {v2 : Int} {v3 : Int} {s0 : Int} (hC : Cx g p s m args meth c cX4_readTask 7 RX4 (some .boolean)) (hR : Rl g ad h s.heap H locs) (hl : lv_has ls 7 [(0, .ref (ad v0)), (1, .ref (ad v1)), (2, .int (Int32.ofInt v2)), (3, .int (Int32.ofInt v3))]) {q : Int × PH} (hF : JX4_readTask_46 h v0 v1 v2 v3 s0 = some q) : W p l e rmX4_readTask s m args below meth c H locs 0 0 (MQ below (QcN g ad q.2 (some (.int (Int32.ofInt q.1)))) args s 0 0 (gA g)) (F0 m 46 ls [.int (Int32.ofInt s0)]) := by
  unfold JX4_readTask_46 at hF
  refine lv_istore (lv' := [(4, .int (Int32.ofInt s0)), (0, .ref (ad v0)), (1, .ref (ad v1)), (2, .int (Int32.ofInt v2)), (3, .int (Int32.ofInt v3))]) hC.1 hC.2.1 dX4_readTask_46 hl (by decide) rfl (fun ls hl => ?_)
  refine lv_iload hC.1 hC.2.1 dX4_readTask_48 (lv_at hl 0 rfl) ?_
  refine pw_ifge hC 55 dX4_readTask_50 (by decide) (fun hc => ?_) (fun hc => ?_)
  · rw [if_neg hc] at hF
    refine lv_iload_n hC.1 hC.2.1 dX4_readTask_55 rfl (lv_at hl 3 rfl) ?_
    refine pw_ifle hC 68 dX4_readTask_56 (by decide) (fun hc => ?_) (fun hc => ?_)
    · rw [if_neg hc] at hF
      refine pw_iconst hC dX4_readTask_68 ?_
      exact BX4_readTask_69 hC hR (lv_sub hl [1, 2, 3, 4, 0] rfl) hF
    · rw [if_pos hc] at hF
      refine lv_aload_n hC.1 hC.2.1 dX4_readTask_59 rfl (lv_at hl 2 rfl) ?_
      obtain ⟨x18, e18, hF⟩ := bnd hF
      refine pw_gfi hC hR e18 flX4_95 dX4_readTask_60 ?_
      refine lv_iload_n hC.1 hC.2.1 dX4_readTask_63 rfl (lv_at hl 3 rfl) ?_
      by_cases hn19 : w32 v2 = 0
      · rw [if_pos hn19] at hF; cases hF
      rw [if_neg hn19] at hF
      refine pw_irem hC hn19 dX4_readTask_64 ?_
      refine pw_goto hC 69 dX4_readTask_65 (by decide) ?_
      exact BX4_readTask_69 hC hR (lv_sub hl [1, 2, 3, 4, 0] rfl) hF
  · rw [if_pos hc] at hF
    refine pw_iconst hC dX4_readTask_53 ?_
    cases hF
    exact pw_zret hC hR (Or.inl rfl) dX4_readTask_54
def FX4_readTask (h : PH) (v0 : Nat) (v1 : Nat) (v2 : Int) : Option (Int × PH) :=
  (isO h 4 v0).bind fun _ =>
  (gfi h 6 v1 0).bind fun x1 =>
  if w32 x1 < w32 32 then (
    (gfr h 4 v0 0).bind fun x2 =>
    (FX5_advance h x2).bind fun h3 =>
    (FX4_takeNumber h3 v0 1 99).bind fun q4 =>
    if w32 q4.1 < 0 then (
      JX4_readTask_46 q4.2 v0 v1 v2 q4.1 (-1)
    ) else (
      (FX4_takeNumber q4.2 v0 0 9).bind fun q5 =>
      JX4_readTask_46 q5.2 v0 v1 v2 q4.1 q5.1
    )
  ) else (
    (FX4_fail h v0 (-4)).bind fun q20 =>
    if q20.1 = 0 ∨ q20.1 = 1 then some (q20.1, q20.2) else none
  )
theorem OX4_readTask {h : PH} {v0 : Nat} {v1 : Nat} {v2 : Int} {q : Int × PH} (hF : FX4_readTask h v0 v1 v2 = some q) : ∃ fs : List PV, h[v0]? = some (.inr (4, fs)) := by
  unfold FX4_readTask at hF
  obtain ⟨u0, e0, -⟩ := bnd hF
  exact isO_spec e0
set_option maxHeartbeats 4000000 in
set_option maxRecDepth 100000 in
theorem CX4_readTask {g : GP} {l : Launch} {ad : Nat → Nat} {h : PH} {v0 : Nat} {v1 : Nat} {v2 : Int} {q : Int × PH} (hF : FX4_readTask h v0 v1 v2 = some q) : CN g l yX4_readTask cX4_readTask 7 (some .boolean) rmX4_readTask ad h [.ref (ad v0), .ref (ad v1), .int (Int32.ofInt v2)] (some (.int (Int32.ofInt q.1))) q.2 := by
  refine pw_met (by decide) (Nat.le_of_ble_eq_true rfl) ?_
  intro p e s m args below meth c ls hC hN hR hl
  have hl : lv_has ls 7 [(0, .ref (ad v0)), (1, .ref (ad v1)), (2, .int (Int32.ofInt v2))] := hl
  unfold FX4_readTask at hF
  obtain ⟨u0, e0, hF⟩ := bnd hF
  refine lv_aload_n hC.1 hC.2.1 dX4_readTask_0 rfl (lv_at hl 1 rfl) ?_
  obtain ⟨x1, e1, hF⟩ := bnd hF
  refine pw_gfi hC hR e1 flX4_95 dX4_readTask_1 ?_
  refine pw_bipush hC dX4_readTask_4 rfl ?_
  refine pw_icmplt hC 16 dX4_readTask_6 (by decide) (fun hc => ?_) (fun hc => ?_)
  · rw [if_pos hc] at hF
    refine lv_aload_n hC.1 hC.2.1 dX4_readTask_16 rfl (lv_at hl 0 rfl) ?_
    obtain ⟨x2, e2, hF⟩ := bnd hF
    refine pw_gfr hC hR e2 flX4_12 dX4_readTask_17 ?_
    obtain ⟨h3, e3, hF⟩ := bnd hF
    obtain ⟨fs3, ho3⟩ := OX5_advance e3
    refine pw_cVv (rest := []) hC hR lvX4_84 ho3 (CX5_advance e3) ⟨rfl, rfl⟩ rfl hl.1 rfl ⟨Nat.le_of_ble_eq_true rfl, Nat.le_of_ble_eq_true rfl⟩ (Nat.le_of_ble_eq_true rfl) dX4_readTask_20 ⟨Nat.zero_le _, Nat.zero_le _⟩ (fun H locs hR => ?_)
    refine lv_aload_n hC.1 hC.2.1 dX4_readTask_23 rfl (lv_at hl 0 rfl) ?_
    refine pw_iconst hC dX4_readTask_24 ?_
    refine pw_bipush hC dX4_readTask_25 rfl ?_
    obtain ⟨q4, e4, hF⟩ := bnd hF
    obtain ⟨fs4, ho4⟩ := OX4_takeNumber e4
    refine pw_cVi (rest := []) hC hR lvX4_87 ho4 (CX4_takeNumber e4) ⟨rfl, rfl⟩ rfl hl.1 rfl ⟨Nat.le_of_ble_eq_true rfl, Nat.le_of_ble_eq_true rfl⟩ (Nat.le_of_ble_eq_true rfl) dX4_readTask_27 ⟨Nat.zero_le _, Nat.zero_le _⟩ (fun H locs hR => ?_)
    refine lv_istore_n (lv' := [(3, .int (Int32.ofInt q4.1)), (0, .ref (ad v0)), (1, .ref (ad v1)), (2, .int (Int32.ofInt v2))]) hC.1 hC.2.1 dX4_readTask_30 rfl hl (by decide) rfl (fun ls hl => ?_)
    refine lv_iload_n hC.1 hC.2.1 dX4_readTask_31 rfl (lv_at hl 0 rfl) ?_
    refine pw_ifge hC 39 dX4_readTask_32 (by decide) (fun hc => ?_) (fun hc => ?_)
    · rw [if_neg hc] at hF
      refine lv_aload_n hC.1 hC.2.1 dX4_readTask_39 rfl (lv_at hl 1 rfl) ?_
      refine pw_iconst hC dX4_readTask_40 ?_
      refine pw_bipush hC dX4_readTask_41 rfl ?_
      obtain ⟨q5, e5, hF⟩ := bnd hF
      obtain ⟨fs5, ho5⟩ := OX4_takeNumber e5
      refine pw_cVi (rest := []) hC hR lvX4_87 ho5 (CX4_takeNumber e5) ⟨rfl, rfl⟩ rfl hl.1 rfl ⟨Nat.le_of_ble_eq_true rfl, Nat.le_of_ble_eq_true rfl⟩ (Nat.le_of_ble_eq_true rfl) dX4_readTask_43 ⟨Nat.zero_le _, Nat.zero_le _⟩ (fun H locs hR => ?_)
      exact BX4_readTask_46 hC hR (lv_sub hl [1, 2, 3, 0] rfl) hF
    · rw [if_pos hc] at hF
      refine pw_iconst hC dX4_readTask_35 ?_
      refine pw_goto hC 46 dX4_readTask_36 (by decide) ?_
      exact BX4_readTask_46 hC hR (lv_sub hl [1, 2, 3, 0] rfl) hF
  · rw [if_neg hc] at hF
    refine lv_aload_n hC.1 hC.2.1 dX4_readTask_9 rfl (lv_at hl 0 rfl) ?_
    refine pw_bipush hC dX4_readTask_10 rfl ?_
    obtain ⟨q20, e20, hF⟩ := bnd hF
    obtain ⟨fs20, ho20⟩ := OX4_fail e20
    refine pw_cVi (rest := []) hC hR lvX4_80 ho20 (CX4_fail e20) ⟨rfl, rfl⟩ rfl hl.1 rfl ⟨Nat.le_of_ble_eq_true rfl, Nat.le_of_ble_eq_true rfl⟩ (Nat.le_of_ble_eq_true rfl) dX4_readTask_12 ⟨Nat.zero_le _, Nat.zero_le _⟩ (fun H locs hR => ?_)
    by_cases hb21 : q20.1 = 0 ∨ q20.1 = 1
    · rw [if_pos hb21] at hF
      cases hF
      exact pw_zret hC hR hb21 dX4_readTask_15
    · rw [if_neg hb21] at hF; cases hF
abbrev rmX8_takeWord : Room := { frames := 8, cells := 0, slots := 0, locals := 200 }
def LX8_takeWord_16 (h : PH) (v0 : Nat) (v1 : Nat) (v2 : Int) : Option ((Int) ⊕ (Int)) :=
  (sln v1).bind fun x3 =>
  if w32 v2 < w32 x3 then (
    (gfi h 8 v0 4).bind fun x4 =>
    (FX8_byteAt h v0 (x4 + v2)).bind fun x5 =>
    (schr v1 v2).bind fun x6 =>
    if w32 x5 = w32 x6 then (
      some (.inl (v2 + 1))
    ) else (
      some (.inr v2)
    )
  ) else (
    some (.inr v2)
  )
set_option maxHeartbeats 4000000 in
set_option maxRecDepth 100000 in
theorem LRX8_takeWord_16 {h : PH} {v0 : Nat} {v1 : Nat} {Q : State → Prop} (hC : Cx g p s m args meth c cX8_takeWord 3 RX8 (some .boolean)) : ∀ (n : Nat) (st : Int) (ex : Int), lp (fun st : Int => LX8_takeWord_16 h v0 v1 st) n st = some ex → (fun ex : Int => ∀ (H : Heap) (locs : List Loc) (ls : Array Slot), Rl g ad h s.heap H locs → lv_has ls 3 [(0, .ref (ad v0)), (1, .ref (g.2.2.2.1 v1)), (2, .int (Int32.ofInt ex))] → W p l e rmX8_takeWord s m args below meth c H locs 0 0 Q (F0 m 48 ls [])) ex → ∀ (H : Heap) (locs : List Loc) (ls : Array Slot), Rl g ad h s.heap H locs → lv_has ls 3 [(0, .ref (ad v0)), (1, .ref (g.2.2.2.1 v1)), (2, .int (Int32.ofInt st))] → W p l e rmX8_takeWord s m args below meth c H locs 0 0 Q (F0 m 16 ls []) := by
  refine lp_rule (Ph := (fun st : Int => ∀ (H : Heap) (locs : List Loc) (ls : Array Slot), Rl g ad h s.heap H locs → lv_has ls 3 [(0, .ref (ad v0)), (1, .ref (g.2.2.2.1 v1)), (2, .int (Int32.ofInt st))] → W p l e rmX8_takeWord s m args below meth c H locs 0 0 Q (F0 m 16 ls []))) (Px := (fun ex : Int => ∀ (H : Heap) (locs : List Loc) (ls : Array Slot), Rl g ad h s.heap H locs → lv_has ls 3 [(0, .ref (ad v0)), (1, .ref (g.2.2.2.1 v1)), (2, .int (Int32.ofInt ex))] → W p l e rmX8_takeWord s m args below meth c H locs 0 0 Q (F0 m 48 ls []))) ?_
  rintro v2 o hF hK H locs ls hR hl
  have hR : Rl g ad h s.heap H locs := hR
  have hl : lv_has ls 3 [(0, .ref (ad v0)), (1, .ref (g.2.2.2.1 v1)), (2, .int (Int32.ofInt v2))] := hl
  have hF : LX8_takeWord_16 h v0 v1 v2 = some o := hF
  unfold LX8_takeWord_16 at hF
  refine lv_iload_n hC.1 hC.2.1 dX8_takeWord_16 rfl (lv_at hl 2 rfl) ?_
  refine lv_aload_n hC.1 hC.2.1 dX8_takeWord_17 rfl (lv_at hl 1 rfl) ?_
  obtain ⟨x3, e3, hF⟩ := bnd hF
  refine pw_slen (rest := [.int (Int32.ofInt v2)]) hC hR e3 lyX8_75 hl.1 ⟨Nat.le_of_ble_eq_true rfl, Nat.le_of_ble_eq_true rfl⟩ (Nat.le_of_ble_eq_true rfl) dX8_takeWord_18 ⟨Nat.zero_le _, Nat.zero_le _⟩ (fun H locs hR => ?_)
  refine pw_icmpge hC 48 dX8_takeWord_21 (by decide) (fun hc => ?_) (fun hc => ?_)
  · rw [if_neg hc] at hF
    cases hF
    exact hK _ _ _ hR (lv_sub hl [0, 1, 2] rfl)
  · rw [if_pos hc] at hF
    refine lv_aload_n hC.1 hC.2.1 dX8_takeWord_24 rfl (lv_at hl 0 rfl) ?_
    refine lv_aload_n hC.1 hC.2.1 dX8_takeWord_25 rfl (lv_at hl 0 rfl) ?_
    obtain ⟨x4, e4, hF⟩ := bnd hF
    refine pw_gfi hC hR e4 flX8_51 dX8_takeWord_26 ?_
    refine lv_iload_n hC.1 hC.2.1 dX8_takeWord_29 rfl (lv_at hl 2 rfl) ?_
    refine pw_iadd hC dX8_takeWord_30 ?_
    obtain ⟨x5, e5, hF⟩ := bnd hF
    obtain ⟨fs5, ho5⟩ := OX8_byteAt e5
    refine pw_cVi (rest := []) hC hR lvX8_54 ho5 (CX8_byteAt e5) ⟨rfl, rfl⟩ rfl hl.1 rfl ⟨Nat.le_of_ble_eq_true rfl, Nat.le_of_ble_eq_true rfl⟩ (Nat.le_of_ble_eq_true rfl) dX8_takeWord_31 ⟨Nat.zero_le _, Nat.zero_le _⟩ (fun H locs hR => ?_)
    refine lv_aload_n hC.1 hC.2.1 dX8_takeWord_34 rfl (lv_at hl 1 rfl) ?_
    refine lv_iload_n hC.1 hC.2.1 dX8_takeWord_35 rfl (lv_at hl 2 rfl) ?_
    obtain ⟨x6, e6, hF⟩ := bnd hF
    refine pw_schr (rest := [.int (Int32.ofInt x5)]) hC hR e6 lyX8_80 hl.1 ⟨Nat.le_of_ble_eq_true rfl, Nat.le_of_ble_eq_true rfl⟩ (Nat.le_of_ble_eq_true rfl) dX8_takeWord_36 ⟨Nat.zero_le _, Nat.zero_le _⟩ (fun H locs hR => ?_)
    refine pw_icmpne hC 48 dX8_takeWord_39 (by decide) (fun hc => ?_) (fun hc => ?_)
    · rw [if_neg hc] at hF
      cases hF
      exact hK _ _ _ hR (lv_sub hl [0, 1, 2] rfl)
    · rw [if_pos hc] at hF
      refine pw_iinc (lv' := [(2, .int (Int32.ofInt (v2 + 1))), (0, .ref (ad v0)), (1, .ref (g.2.2.2.1 v1))]) hC hl 2 dX8_takeWord_42 rfl (by decide) rfl (fun ls hl => ?_)
      refine pw_goto hC 16 dX8_takeWord_45 (by decide) ?_
      cases hF
      exact hK _ _ _ hR (lv_sub hl [1, 2, 0] rfl)
def JX8_takeWord_76 (h : PH) : Option (Int × PH) :=
  some (0, h)
set_option maxHeartbeats 4000000 in
set_option maxRecDepth 100000 in
theorem BX8_takeWord_76 {h : PH} (hC : Cx g p s m args meth c cX8_takeWord 3 RX8 (some .boolean)) (hR : Rl g ad h s.heap H locs) (hl : lv_has ls 3 []) {q : Int × PH} (hF : JX8_takeWord_76 h  = some q) : W p l e rmX8_takeWord s m args below meth c H locs 0 0 (MQ below (QcN g ad q.2 (some (.int (Int32.ofInt q.1)))) args s 0 0 (gA g)) (F0 m 76 ls []) := by
  unfold JX8_takeWord_76 at hF
  refine pw_iconst hC dX8_takeWord_76 ?_
  cases hF
  exact pw_zret hC hR (Or.inl rfl) dX8_takeWord_77
def JX8_takeWord_48 (h : PH) (v0 : Nat) (v1 : Nat) (v2 : Int) : Option (Int × PH) :=
  (sln v1).bind fun x8 =>
  if w32 v2 < w32 x8 then (
    JX8_takeWord_76 h
  ) else (
    (gfi h 8 v0 4).bind fun x9 =>
    (FX8_byteAt h v0 (x9 + v2)).bind fun x10 =>
    (FX8_in h x10 97 122).bind fun x11 =>
    if w32 x11 = 0 then (
      (gfi h 8 v0 4).bind fun x12 =>
      (pfi h 8 v0 4 (x12 + v2)).bind fun h13 =>
      some (1, h13)
    ) else (
      JX8_takeWord_76 h
    )
  )
set_option maxHeartbeats 4000000 in
set_option maxRecDepth 100000 in
theorem BX8_takeWord_48 {h : PH} {v0 : Nat} {v1 : Nat} {v2 : Int} (hC : Cx g p s m args meth c cX8_takeWord 3 RX8 (some .boolean)) (hR : Rl g ad h s.heap H locs) (hl : lv_has ls 3 [(0, .ref (ad v0)), (1, .ref (g.2.2.2.1 v1)), (2, .int (Int32.ofInt v2))]) {q : Int × PH} (hF : JX8_takeWord_48 h v0 v1 v2 = some q) : W p l e rmX8_takeWord s m args below meth c H locs 0 0 (MQ below (QcN g ad q.2 (some (.int (Int32.ofInt q.1)))) args s 0 0 (gA g)) (F0 m 48 ls []) := by
  unfold JX8_takeWord_48 at hF
  refine lv_iload_n hC.1 hC.2.1 dX8_takeWord_48 rfl (lv_at hl 2 rfl) ?_
  refine lv_aload_n hC.1 hC.2.1 dX8_takeWord_49 rfl (lv_at hl 1 rfl) ?_
  obtain ⟨x8, e8, hF⟩ := bnd hF
  refine pw_slen (rest := [.int (Int32.ofInt v2)]) hC hR e8 lyX8_75 hl.1 ⟨Nat.le_of_ble_eq_true rfl, Nat.le_of_ble_eq_true rfl⟩ (Nat.le_of_ble_eq_true rfl) dX8_takeWord_50 ⟨Nat.zero_le _, Nat.zero_le _⟩ (fun H locs hR => ?_)
  refine pw_icmplt hC 76 dX8_takeWord_53 (by decide) (fun hc => ?_) (fun hc => ?_)
  · rw [if_pos hc] at hF
    exact BX8_takeWord_76 hC hR (lv_sub hl [] rfl) hF
  · rw [if_neg hc] at hF
    refine lv_aload_n hC.1 hC.2.1 dX8_takeWord_56 rfl (lv_at hl 0 rfl) ?_
    refine lv_aload_n hC.1 hC.2.1 dX8_takeWord_57 rfl (lv_at hl 0 rfl) ?_
    obtain ⟨x9, e9, hF⟩ := bnd hF
    refine pw_gfi hC hR e9 flX8_51 dX8_takeWord_58 ?_
    refine lv_iload_n hC.1 hC.2.1 dX8_takeWord_61 rfl (lv_at hl 2 rfl) ?_
    refine pw_iadd hC dX8_takeWord_62 ?_
    obtain ⟨x10, e10, hF⟩ := bnd hF
    obtain ⟨fs10, ho10⟩ := OX8_byteAt e10
    refine pw_cVi (rest := []) hC hR lvX8_54 ho10 (CX8_byteAt e10) ⟨rfl, rfl⟩ rfl hl.1 rfl ⟨Nat.le_of_ble_eq_true rfl, Nat.le_of_ble_eq_true rfl⟩ (Nat.le_of_ble_eq_true rfl) dX8_takeWord_63 ⟨Nat.zero_le _, Nat.zero_le _⟩ (fun H locs hR => ?_)
    refine pw_bipush hC dX8_takeWord_66 rfl ?_
    refine pw_bipush hC dX8_takeWord_68 rfl ?_
    obtain ⟨x11, e11, hF⟩ := bnd hF
    refine pw_cSi (rest := []) hC hR lsX8_63 (CX8_in e11) ⟨rfl, rfl⟩ rfl hl.1 rfl ⟨Nat.le_of_ble_eq_true rfl, Nat.le_of_ble_eq_true rfl⟩ (Nat.le_of_ble_eq_true rfl) dX8_takeWord_70 ⟨Nat.zero_le _, Nat.zero_le _⟩ (fun H locs hR => ?_)
    refine pw_ifeq hC 78 dX8_takeWord_73 (by decide) (fun hc => ?_) (fun hc => ?_)
    · rw [if_pos hc] at hF
      refine lv_aload_n hC.1 hC.2.1 dX8_takeWord_78 rfl (lv_at hl 0 rfl) ?_
      refine lv_dup hC.1 hC.2.1 dX8_takeWord_79 rfl ?_
      obtain ⟨x12, e12, hF⟩ := bnd hF
      refine pw_gfi hC hR e12 flX8_51 dX8_takeWord_80 ?_
      refine lv_iload_n hC.1 hC.2.1 dX8_takeWord_83 rfl (lv_at hl 2 rfl) ?_
      refine pw_iadd hC dX8_takeWord_84 ?_
      obtain ⟨h13, e13, hF⟩ := bnd hF
      refine pw_pfi hC hR e13 fpX8_51 (Or.inl rfl) dX8_takeWord_85 (fun H locs hR => ?_)
      refine pw_iconst hC dX8_takeWord_88 ?_
      cases hF
      exact pw_zret hC hR (Or.inr rfl) dX8_takeWord_89
    · rw [if_neg hc] at hF
      exact BX8_takeWord_76 hC hR (lv_sub hl [] rfl) hF
def FX8_takeWord (h : PH) (v0 : Nat) (v1 : Nat) : Option (Int × PH) :=
  (isO h 8 v0).bind fun _ =>
  (FX8_isGood h v0).bind fun x1 =>
  if w32 x1 = 0 then (
    some (0, h)
  ) else (
    (FX8_next h v0).bind fun q2 =>
    (lp (fun st : Int => LX8_takeWord_16 q2.2 v0 v1 st) FU 0).bind fun ex7 =>
    JX8_takeWord_48 q2.2 v0 v1 ex7
  )
theorem OX8_takeWord {h : PH} {v0 : Nat} {v1 : Nat} {q : Int × PH} (hF : FX8_takeWord h v0 v1 = some q) : ∃ fs : List PV, h[v0]? = some (.inr (8, fs)) := by
  unfold FX8_takeWord at hF
  obtain ⟨u0, e0, -⟩ := bnd hF
  exact isO_spec e0
set_option maxHeartbeats 4000000 in
set_option maxRecDepth 100000 in
theorem CX8_takeWord {g : GP} {l : Launch} {ad : Nat → Nat} {h : PH} {v0 : Nat} {v1 : Nat} {q : Int × PH} (hF : FX8_takeWord h v0 v1 = some q) : CN g l yX8_takeWord cX8_takeWord 3 (some .boolean) rmX8_takeWord ad h [.ref (ad v0), .ref (g.2.2.2.1 v1)] (some (.int (Int32.ofInt q.1))) q.2 := by
  refine pw_met (by decide) (Nat.le_of_ble_eq_true rfl) ?_
  intro p e s m args below meth c ls hC hN hR hl
  have hl : lv_has ls 3 [(0, .ref (ad v0)), (1, .ref (g.2.2.2.1 v1))] := hl
  unfold FX8_takeWord at hF
  obtain ⟨u0, e0, hF⟩ := bnd hF
  refine lv_aload_n hC.1 hC.2.1 dX8_takeWord_0 rfl (lv_at hl 0 rfl) ?_
  obtain ⟨x1, e1, hF⟩ := bnd hF
  obtain ⟨fs1, ho1⟩ := OX8_isGood e1
  refine pw_cVi (rest := []) hC hR lvX8_67 ho1 (CX8_isGood e1) ⟨rfl, rfl⟩ rfl hl.1 rfl ⟨Nat.le_of_ble_eq_true rfl, Nat.le_of_ble_eq_true rfl⟩ (Nat.le_of_ble_eq_true rfl) dX8_takeWord_1 ⟨Nat.zero_le _, Nat.zero_le _⟩ (fun H locs hR => ?_)
  refine pw_ifne hC 9 dX8_takeWord_4 (by decide) (fun hc => ?_) (fun hc => ?_)
  · rw [if_neg hc] at hF
    refine lv_aload_n hC.1 hC.2.1 dX8_takeWord_9 rfl (lv_at hl 0 rfl) ?_
    obtain ⟨q2, e2, hF⟩ := bnd hF
    obtain ⟨fs2, ho2⟩ := OX8_next e2
    refine pw_cVi (rest := []) hC hR lvX8_71 ho2 (CX8_next e2) ⟨rfl, rfl⟩ rfl hl.1 rfl ⟨Nat.le_of_ble_eq_true rfl, Nat.le_of_ble_eq_true rfl⟩ (Nat.le_of_ble_eq_true rfl) dX8_takeWord_10 ⟨Nat.zero_le _, Nat.zero_le _⟩ (fun H locs hR => ?_)
    refine lv_pop hC.1 hC.2.1 dX8_takeWord_13 rfl ?_
    refine pw_iconst hC dX8_takeWord_14 ?_
    refine lv_istore_n (lv' := [(2, .int (Int32.ofInt 0)), (0, .ref (ad v0)), (1, .ref (g.2.2.2.1 v1))]) hC.1 hC.2.1 dX8_takeWord_15 rfl hl (by decide) rfl (fun ls hl => ?_)
    obtain ⟨ex7, e7, hF⟩ := bnd hF
    refine LRX8_takeWord_16 hC FU _ ex7 e7 ?_ _ _ _ hR (lv_sub hl [1, 2, 0] rfl)
    intro H locs ls hR hl
    exact BX8_takeWord_48 hC hR (lv_sub hl [0, 1, 2] rfl) hF
  · rw [if_pos hc] at hF
    refine pw_iconst hC dX8_takeWord_7 ?_
    cases hF
    exact pw_zret hC hR (Or.inl rfl) dX8_takeWord_8
abbrev rmX8_readTask : Room := { frames := 9, cells := 0, slots := 0, locals := 222 }
def JX8_readTask_166 (h : PH) (v0 : Nat) (v2 : Int) (v3 : Int) (v4 : Int) (v5 : Int) : Option (PH) :=
  (FX8_isGood h v0).bind fun x8 =>
  if w32 x8 = 0 then (
    some h
  ) else (
    (gfr h 8 v0 9).bind fun x9 =>
    (gfr h 8 v0 9).bind fun x10 =>
    (FX8_addTask h x10 v2 v3 v4).bind fun q11 =>
    (FX8_task q11.2 q11.1).bind fun x12 =>
    (ast 0 q11.2 x9 (x12 + 3) v5).bind fun h13 =>
    some h13
  )
set_option maxHeartbeats 4000000 in
set_option maxRecDepth 100000 in
theorem BX8_readTask_166 {h : PH} {v0 : Nat} {v2 : Int} {v3 : Int} {v4 : Int} {v5 : Int} (hC : Cx g p s m args meth c cX8_readTask 7 RX8 none) (hR : Rl g ad h s.heap H locs) (hl : lv_has ls 7 [(0, .ref (ad v0)), (2, .int (Int32.ofInt v2)), (3, .int (Int32.ofInt v3)), (4, .int (Int32.ofInt v4)), (5, .int (Int32.ofInt v5))]) {q : PH} (hF : JX8_readTask_166 h v0 v2 v3 v4 v5 = some q) : W p l e rmX8_readTask s m args below meth c H locs 0 0 (MQ below (QcN g ad q none) args s 0 0 (gA g)) (F0 m 166 ls []) := by
  unfold JX8_readTask_166 at hF
  refine lv_aload_n hC.1 hC.2.1 dX8_readTask_166 rfl (lv_at hl 0 rfl) ?_
  obtain ⟨x8, e8, hF⟩ := bnd hF
  obtain ⟨fs8, ho8⟩ := OX8_isGood e8
  refine pw_cVi (rest := []) hC hR lvX8_67 ho8 (CX8_isGood e8) ⟨rfl, rfl⟩ rfl hl.1 rfl ⟨Nat.le_of_ble_eq_true rfl, Nat.le_of_ble_eq_true rfl⟩ (Nat.le_of_ble_eq_true rfl) dX8_readTask_167 ⟨Nat.zero_le _, Nat.zero_le _⟩ (fun H locs hR => ?_)
  refine pw_ifne hC 174 dX8_readTask_170 (by decide) (fun hc => ?_) (fun hc => ?_)
  · rw [if_neg hc] at hF
    refine lv_aload_n hC.1 hC.2.1 dX8_readTask_174 rfl (lv_at hl 0 rfl) ?_
    obtain ⟨x9, e9, hF⟩ := bnd hF
    refine pw_gfr hC hR e9 flX8_20 dX8_readTask_175 ?_
    refine lv_aload_n hC.1 hC.2.1 dX8_readTask_178 rfl (lv_at hl 0 rfl) ?_
    obtain ⟨x10, e10, hF⟩ := bnd hF
    refine pw_gfr hC hR e10 flX8_20 dX8_readTask_179 ?_
    refine lv_iload_n hC.1 hC.2.1 dX8_readTask_182 rfl (lv_at hl 1 rfl) ?_
    refine lv_iload_n hC.1 hC.2.1 dX8_readTask_183 rfl (lv_at hl 2 rfl) ?_
    refine lv_iload hC.1 hC.2.1 dX8_readTask_184 (lv_at hl 3 rfl) ?_
    obtain ⟨q11, e11, hF⟩ := bnd hF
    refine pw_cSi (rest := [.ref (ad x9)]) hC hR lsX8_145 (CX8_addTask e11) ⟨rfl, rfl⟩ rfl hl.1 rfl ⟨Nat.le_of_ble_eq_true rfl, Nat.le_of_ble_eq_true rfl⟩ (Nat.le_of_ble_eq_true rfl) dX8_readTask_186 ⟨Nat.zero_le _, Nat.zero_le _⟩ (fun H locs hR => ?_)
    obtain ⟨x12, e12, hF⟩ := bnd hF
    refine pw_cSi (rest := [.ref (ad x9)]) hC hR lsX8_136 (CX8_task e12) ⟨rfl, rfl⟩ rfl hl.1 rfl ⟨Nat.le_of_ble_eq_true rfl, Nat.le_of_ble_eq_true rfl⟩ (Nat.le_of_ble_eq_true rfl) dX8_readTask_189 ⟨Nat.zero_le _, Nat.zero_le _⟩ (fun H locs hR => ?_)
    refine pw_iconst hC dX8_readTask_192 ?_
    refine pw_iadd hC dX8_readTask_193 ?_
    refine lv_iload hC.1 hC.2.1 dX8_readTask_194 (lv_at hl 4 rfl) ?_
    obtain ⟨h13, e13, hF⟩ := bnd hF
    refine pw_iast hC hR e13 dX8_readTask_196 (fun H locs hR => ?_)
    cases hF
    exact pw_vret hC hR dX8_readTask_197
  · rw [if_pos hc] at hF
    cases hF
    exact pw_vret hC hR dX8_readTask_173
def JX8_readTask_139 (h : PH) (v0 : Nat) (v2 : Int) (v3 : Int) (v4 : Int) (v5 : Int) (v6 : Int) : Option ((Int × PH) ⊕ (((PH) ⊕ (Int × PH)))) :=
  (FX8_isGood h v0).bind fun x18 =>
  if w32 x18 = 0 then (
    some (.inr (.inl h))
  ) else (
    (FX8_next h v0).bind fun q19 =>
    (FX8_isDigit q19.2 q19.1).bind fun x20 =>
    if w32 x20 = 0 then (
      some (.inr (.inr ((orI v5 (shlI 1 v6)), q19.2)))
    ) else (
      some (.inl ((orI v5 (shlI 1 v6)), q19.2))
    )
  )
set_option maxHeartbeats 4000000 in
set_option maxRecDepth 100000 in
theorem BX8_readTask_139 {h : PH} {v0 : Nat} {v2 : Int} {v3 : Int} {v4 : Int} {v5 : Int} {v6 : Int} (hC : Cx g p s m args meth c cX8_readTask 7 RX8 none) (hR : Rl g ad h s.heap H locs) (hl : lv_has ls 7 [(0, .ref (ad v0)), (2, .int (Int32.ofInt v2)), (3, .int (Int32.ofInt v3)), (4, .int (Int32.ofInt v4)), (5, .int (Int32.ofInt v5)), (6, .int (Int32.ofInt v6))]) {Q : State → Prop} {o : (Int × PH) ⊕ (((PH) ⊕ (Int × PH)))} (hF : JX8_readTask_139 h v0 v2 v3 v4 v5 v6 = some o) (hK : Sum.elim (fun st : Int × PH => ∀ (H : Heap) (locs : List Loc) (ls : Array Slot), Rl g ad st.2 s.heap H locs → lv_has ls 7 [(0, .ref (ad v0)), (2, .int (Int32.ofInt v2)), (3, .int (Int32.ofInt v3)), (4, .int (Int32.ofInt v4)), (5, .int (Int32.ofInt st.1))] → W p l e rmX8_readTask s m args below meth c H locs 0 0 Q (F0 m 96 ls [])) (Sum.elim (fun ex : PH => ∀ (H : Heap) (locs : List Loc) (ls : Array Slot), Rl g ad ex s.heap H locs → lv_has ls 7 [] → W p l e rmX8_readTask s m args below meth c H locs 0 0 Q (F0 m 146 ls [])) (fun ex : Int × PH => ∀ (H : Heap) (locs : List Loc) (ls : Array Slot), Rl g ad ex.2 s.heap H locs → lv_has ls 7 [(0, .ref (ad v0)), (2, .int (Int32.ofInt v2)), (3, .int (Int32.ofInt v3)), (4, .int (Int32.ofInt v4)), (5, .int (Int32.ofInt ex.1))] → W p l e rmX8_readTask s m args below meth c H locs 0 0 Q (F0 m 166 ls []))) o) : W p l e rmX8_readTask s m args below meth c H locs 0 0 Q (F0 m 139 ls []) := by
  unfold JX8_readTask_139 at hF
  refine lv_aload_n hC.1 hC.2.1 dX8_readTask_139 rfl (lv_at hl 0 rfl) ?_
  obtain ⟨x18, e18, hF⟩ := bnd hF
  obtain ⟨fs18, ho18⟩ := OX8_isGood e18
  refine pw_cVi (rest := []) hC hR lvX8_67 ho18 (CX8_isGood e18) ⟨rfl, rfl⟩ rfl hl.1 rfl ⟨Nat.le_of_ble_eq_true rfl, Nat.le_of_ble_eq_true rfl⟩ (Nat.le_of_ble_eq_true rfl) dX8_readTask_140 ⟨Nat.zero_le _, Nat.zero_le _⟩ (fun H locs hR => ?_)
  refine pw_ifne hC 147 dX8_readTask_143 (by decide) (fun hc => ?_) (fun hc => ?_)
  · rw [if_neg hc] at hF
    refine lv_iload hC.1 hC.2.1 dX8_readTask_147 (lv_at hl 4 rfl) ?_
    refine pw_iconst hC dX8_readTask_149 ?_
    refine lv_iload hC.1 hC.2.1 dX8_readTask_150 (lv_at hl 5 rfl) ?_
    refine pw_ishl hC dX8_readTask_152 ?_
    refine pw_ior hC dX8_readTask_153 ?_
    refine lv_istore (lv' := [(5, .int (Int32.ofInt (orI v5 (shlI 1 v6)))), (0, .ref (ad v0)), (2, .int (Int32.ofInt v2)), (3, .int (Int32.ofInt v3)), (4, .int (Int32.ofInt v4)), (6, .int (Int32.ofInt v6))]) hC.1 hC.2.1 dX8_readTask_154 hl (by decide) rfl (fun ls hl => ?_)
    refine lv_aload_n hC.1 hC.2.1 dX8_readTask_156 rfl (lv_at hl 1 rfl) ?_
    obtain ⟨q19, e19, hF⟩ := bnd hF
    obtain ⟨fs19, ho19⟩ := OX8_next e19
    refine pw_cVi (rest := []) hC hR lvX8_71 ho19 (CX8_next e19) ⟨rfl, rfl⟩ rfl hl.1 rfl ⟨Nat.le_of_ble_eq_true rfl, Nat.le_of_ble_eq_true rfl⟩ (Nat.le_of_ble_eq_true rfl) dX8_readTask_157 ⟨Nat.zero_le _, Nat.zero_le _⟩ (fun H locs hR => ?_)
    obtain ⟨x20, e20, hF⟩ := bnd hF
    refine pw_cSi (rest := []) hC hR lsX8_88 (CX8_isDigit e20) ⟨rfl, rfl⟩ rfl hl.1 rfl ⟨Nat.le_of_ble_eq_true rfl, Nat.le_of_ble_eq_true rfl⟩ (Nat.le_of_ble_eq_true rfl) dX8_readTask_160 ⟨Nat.zero_le _, Nat.zero_le _⟩ (fun H locs hR => ?_)
    refine pw_ifne hC 96 dX8_readTask_163 (by decide) (fun hc => ?_) (fun hc => ?_)
    · rw [if_neg hc] at hF
      cases hF
      exact hK _ _ _ hR (lv_sub hl [1, 2, 3, 4, 0] rfl)
    · rw [if_pos hc] at hF
      cases hF
      exact hK _ _ _ hR (lv_sub hl [1, 2, 3, 4, 0] rfl)
  · rw [if_pos hc] at hF
    cases hF
    exact hK _ _ _ hR (lv_sub hl [] rfl)
def LX8_readTask_96 (v0 : Nat) (v2 : Int) (v3 : Int) (v4 : Int) (v5 : Int) (h : PH) : Option ((Int × PH) ⊕ (((PH) ⊕ (Int × PH)))) :=
  (gfr h 8 v0 9).bind fun x14 =>
  (ald 0 h x14 3).bind fun x15 =>
  (FX8_number h v0 0 (x15 - 1)).bind fun q16 =>
  (FX8_isGood q16.2 v0).bind fun x17 =>
  if w32 x17 = 0 then (
    JX8_readTask_139 q16.2 v0 v2 v3 v4 v5 q16.1
  ) else (
    if w32 (andI (shrI v5 q16.1) 1) = w32 1 then (
      (gfi q16.2 8 v0 13).bind fun x21 =>
      (FX8_report q16.2 v0 (-3) x21).bind fun h22 =>
      JX8_readTask_139 h22 v0 v2 v3 v4 v5 q16.1
    ) else (
      JX8_readTask_139 q16.2 v0 v2 v3 v4 v5 q16.1
    )
  )
set_option maxHeartbeats 4000000 in
set_option maxRecDepth 100000 in
theorem LRX8_readTask_96 {v0 : Nat} {v2 : Int} {v3 : Int} {v4 : Int} {Q : State → Prop} (hC : Cx g p s m args meth c cX8_readTask 7 RX8 none) : ∀ (n : Nat) (st : Int × PH) (ex : ((PH) ⊕ (Int × PH))), lp (fun st : Int × PH => LX8_readTask_96 v0 v2 v3 v4 st.1 st.2) n st = some ex → (Sum.elim (fun ex : PH => ∀ (H : Heap) (locs : List Loc) (ls : Array Slot), Rl g ad ex s.heap H locs → lv_has ls 7 [] → W p l e rmX8_readTask s m args below meth c H locs 0 0 Q (F0 m 146 ls [])) (fun ex : Int × PH => ∀ (H : Heap) (locs : List Loc) (ls : Array Slot), Rl g ad ex.2 s.heap H locs → lv_has ls 7 [(0, .ref (ad v0)), (2, .int (Int32.ofInt v2)), (3, .int (Int32.ofInt v3)), (4, .int (Int32.ofInt v4)), (5, .int (Int32.ofInt ex.1))] → W p l e rmX8_readTask s m args below meth c H locs 0 0 Q (F0 m 166 ls []))) ex → ∀ (H : Heap) (locs : List Loc) (ls : Array Slot), Rl g ad st.2 s.heap H locs → lv_has ls 7 [(0, .ref (ad v0)), (2, .int (Int32.ofInt v2)), (3, .int (Int32.ofInt v3)), (4, .int (Int32.ofInt v4)), (5, .int (Int32.ofInt st.1))] → W p l e rmX8_readTask s m args below meth c H locs 0 0 Q (F0 m 96 ls []) := by
  refine lp_rule (Ph := (fun st : Int × PH => ∀ (H : Heap) (locs : List Loc) (ls : Array Slot), Rl g ad st.2 s.heap H locs → lv_has ls 7 [(0, .ref (ad v0)), (2, .int (Int32.ofInt v2)), (3, .int (Int32.ofInt v3)), (4, .int (Int32.ofInt v4)), (5, .int (Int32.ofInt st.1))] → W p l e rmX8_readTask s m args below meth c H locs 0 0 Q (F0 m 96 ls []))) (Px := (Sum.elim (fun ex : PH => ∀ (H : Heap) (locs : List Loc) (ls : Array Slot), Rl g ad ex s.heap H locs → lv_has ls 7 [] → W p l e rmX8_readTask s m args below meth c H locs 0 0 Q (F0 m 146 ls [])) (fun ex : Int × PH => ∀ (H : Heap) (locs : List Loc) (ls : Array Slot), Rl g ad ex.2 s.heap H locs → lv_has ls 7 [(0, .ref (ad v0)), (2, .int (Int32.ofInt v2)), (3, .int (Int32.ofInt v3)), (4, .int (Int32.ofInt v4)), (5, .int (Int32.ofInt ex.1))] → W p l e rmX8_readTask s m args below meth c H locs 0 0 Q (F0 m 166 ls [])))) ?_
  rintro ⟨v5, h⟩ o hF hK H locs ls hR hl
  have hR : Rl g ad h s.heap H locs := hR
  have hl : lv_has ls 7 [(0, .ref (ad v0)), (2, .int (Int32.ofInt v2)), (3, .int (Int32.ofInt v3)), (4, .int (Int32.ofInt v4)), (5, .int (Int32.ofInt v5))] := hl
  have hF : LX8_readTask_96 v0 v2 v3 v4 v5 h = some o := hF
  unfold LX8_readTask_96 at hF
  refine lv_aload_n hC.1 hC.2.1 dX8_readTask_96 rfl (lv_at hl 0 rfl) ?_
  refine pw_iconst hC dX8_readTask_97 ?_
  refine lv_aload_n hC.1 hC.2.1 dX8_readTask_98 rfl (lv_at hl 0 rfl) ?_
  obtain ⟨x14, e14, hF⟩ := bnd hF
  refine pw_gfr hC hR e14 flX8_20 dX8_readTask_99 ?_
  refine pw_iconst hC dX8_readTask_102 ?_
  obtain ⟨x15, e15, hF⟩ := bnd hF
  refine pw_iald hC hR e15 dX8_readTask_103 ?_
  refine pw_iconst hC dX8_readTask_104 ?_
  refine pw_isub hC dX8_readTask_105 ?_
  obtain ⟨q16, e16, hF⟩ := bnd hF
  obtain ⟨fs16, ho16⟩ := OX8_number e16
  refine pw_cVi (rest := []) hC hR lvX8_121 ho16 (CX8_number e16) ⟨rfl, rfl⟩ rfl hl.1 rfl ⟨Nat.le_of_ble_eq_true rfl, Nat.le_of_ble_eq_true rfl⟩ (Nat.le_of_ble_eq_true rfl) dX8_readTask_106 ⟨Nat.zero_le _, Nat.zero_le _⟩ (fun H locs hR => ?_)
  refine lv_istore (lv' := [(6, .int (Int32.ofInt q16.1)), (0, .ref (ad v0)), (2, .int (Int32.ofInt v2)), (3, .int (Int32.ofInt v3)), (4, .int (Int32.ofInt v4)), (5, .int (Int32.ofInt v5))]) hC.1 hC.2.1 dX8_readTask_109 hl (by decide) rfl (fun ls hl => ?_)
  refine lv_aload_n hC.1 hC.2.1 dX8_readTask_111 rfl (lv_at hl 1 rfl) ?_
  obtain ⟨x17, e17, hF⟩ := bnd hF
  obtain ⟨fs17, ho17⟩ := OX8_isGood e17
  refine pw_cVi (rest := []) hC hR lvX8_67 ho17 (CX8_isGood e17) ⟨rfl, rfl⟩ rfl hl.1 rfl ⟨Nat.le_of_ble_eq_true rfl, Nat.le_of_ble_eq_true rfl⟩ (Nat.le_of_ble_eq_true rfl) dX8_readTask_112 ⟨Nat.zero_le _, Nat.zero_le _⟩ (fun H locs hR => ?_)
  refine pw_ifeq hC 139 dX8_readTask_115 (by decide) (fun hc => ?_) (fun hc => ?_)
  · rw [if_pos hc] at hF
    exact BX8_readTask_139 hC hR (lv_sub hl [1, 2, 3, 4, 5, 0] rfl) hF hK
  · rw [if_neg hc] at hF
    refine lv_iload hC.1 hC.2.1 dX8_readTask_118 (lv_at hl 5 rfl) ?_
    refine lv_iload hC.1 hC.2.1 dX8_readTask_120 (lv_at hl 0 rfl) ?_
    refine pw_ishr hC dX8_readTask_122 ?_
    refine pw_iconst hC dX8_readTask_123 ?_
    refine pw_iand hC dX8_readTask_124 ?_
    refine pw_iconst hC dX8_readTask_125 ?_
    refine pw_icmpne hC 139 dX8_readTask_126 (by decide) (fun hc => ?_) (fun hc => ?_)
    · rw [if_neg hc] at hF
      exact BX8_readTask_139 hC hR (lv_sub hl [1, 2, 3, 4, 5, 0] rfl) hF hK
    · rw [if_pos hc] at hF
      refine lv_aload_n hC.1 hC.2.1 dX8_readTask_129 rfl (lv_at hl 1 rfl) ?_
      refine pw_bipush hC dX8_readTask_130 rfl ?_
      refine lv_aload_n hC.1 hC.2.1 dX8_readTask_132 rfl (lv_at hl 1 rfl) ?_
      obtain ⟨x21, e21, hF⟩ := bnd hF
      refine pw_gfi hC hR e21 flX8_92 dX8_readTask_133 ?_
      obtain ⟨h22, e22, hF⟩ := bnd hF
      obtain ⟨fs22, ho22⟩ := OX8_report e22
      refine pw_cVv (rest := []) hC hR lvX8_84 ho22 (CX8_report e22) ⟨rfl, rfl⟩ rfl hl.1 rfl ⟨Nat.le_of_ble_eq_true rfl, Nat.le_of_ble_eq_true rfl⟩ (Nat.le_of_ble_eq_true rfl) dX8_readTask_136 ⟨Nat.zero_le _, Nat.zero_le _⟩ (fun H locs hR => ?_)
      exact BX8_readTask_139 hC hR (lv_sub hl [1, 2, 3, 4, 5, 0] rfl) hF hK
def JX8_readTask_87 (h : PH) (v0 : Nat) (v2 : Int) (v3 : Int) (v4 : Int) (v5 : Int) : Option (PH) :=
  (FX8_takeWord h v0 3).bind fun q7 =>
  if w32 q7.1 = 0 then (
    JX8_readTask_166 q7.2 v0 v2 v3 v4 v5
  ) else (
    (lp (fun st : Int × PH => LX8_readTask_96 v0 v2 v3 v4 st.1 st.2) FU (v5, q7.2)).bind fun ex23 =>
    Sum.elim (fun ex23 => (
      some ex23
    )) (fun ex23 => (
      JX8_readTask_166 ex23.2 v0 v2 v3 v4 ex23.1
    )) ex23
  )
set_option maxHeartbeats 4000000 in
set_option maxRecDepth 100000 in
theorem BX8_readTask_87 {h : PH} {v0 : Nat} {v2 : Int} {v3 : Int} {v4 : Int} {v5 : Int} (hC : Cx g p s m args meth c cX8_readTask 7 RX8 none) (hR : Rl g ad h s.heap H locs) (hl : lv_has ls 7 [(0, .ref (ad v0)), (2, .int (Int32.ofInt v2)), (3, .int (Int32.ofInt v3)), (4, .int (Int32.ofInt v4)), (5, .int (Int32.ofInt v5))]) {q : PH} (hF : JX8_readTask_87 h v0 v2 v3 v4 v5 = some q) : W p l e rmX8_readTask s m args below meth c H locs 0 0 (MQ below (QcN g ad q none) args s 0 0 (gA g)) (F0 m 87 ls []) := by
  unfold JX8_readTask_87 at hF
  refine lv_aload_n hC.1 hC.2.1 dX8_readTask_87 rfl (lv_at hl 0 rfl) ?_
  refine pw_ldcs hC 3 (tx := "after") (by decide +kernel) dX8_readTask_88 ?_
  obtain ⟨q7, e7, hF⟩ := bnd hF
  obtain ⟨fs7, ho7⟩ := OX8_takeWord e7
  refine pw_cVi (rest := []) hC hR lvX8_112 ho7 (CX8_takeWord e7) ⟨rfl, rfl⟩ rfl hl.1 rfl ⟨Nat.le_of_ble_eq_true rfl, Nat.le_of_ble_eq_true rfl⟩ (Nat.le_of_ble_eq_true rfl) dX8_readTask_90 ⟨Nat.zero_le _, Nat.zero_le _⟩ (fun H locs hR => ?_)
  refine pw_ifeq hC 166 dX8_readTask_93 (by decide) (fun hc => ?_) (fun hc => ?_)
  · rw [if_pos hc] at hF
    exact BX8_readTask_166 hC hR (lv_sub hl [0, 1, 2, 3, 4] rfl) hF
  · rw [if_neg hc] at hF
    obtain ⟨ex23, e23, hF⟩ := bnd hF
    refine LRX8_readTask_96 hC FU _ ex23 e23 ?_ _ _ _ hR (lv_sub hl [0, 1, 2, 3, 4] rfl)
    rcases ex23 with ex23 | ex23
    · dsimp only [Sum.elim_inl, Sum.elim_inr] at hF
      intro H locs ls hR hl
      cases hF
      exact pw_vret hC hR dX8_readTask_146
    · dsimp only [Sum.elim_inl, Sum.elim_inr] at hF
      intro H locs ls hR hl
      exact BX8_readTask_166 hC hR (lv_sub hl [0, 1, 2, 3, 4] rfl) hF
def JX8_readTask_58 (h : PH) (v0 : Nat) (v2 : Int) (v3 : Int) (s0 : Int) : Option (PH) :=
  (FX8_takeWord h v0 2).bind fun q6 =>
  if w32 q6.1 = 0 then (
    JX8_readTask_87 q6.2 v0 v2 v3 s0 0
  ) else (
    (gfr q6.2 8 v0 9).bind fun x24 =>
    (ald 0 q6.2 x24 0).bind fun x25 =>
    (FX8_number q6.2 v0 0 (x25 - 1)).bind fun q26 =>
    JX8_readTask_87 q26.2 v0 v2 v3 q26.1 0
  )
set_option maxHeartbeats 4000000 in
set_option maxRecDepth 100000 in
theorem BX8_readTask_58 {h : PH} {v0 : Nat} {v2 : Int} {v3 : Int} {s0 : Int} (hC : Cx g p s m args meth c cX8_readTask 7 RX8 none) (hR : Rl g ad h s.heap H locs) (hl : lv_has ls 7 [(0, .ref (ad v0)), (2, .int (Int32.ofInt v2)), (3, .int (Int32.ofInt v3))]) {q : PH} (hF : JX8_readTask_58 h v0 v2 v3 s0 = some q) : W p l e rmX8_readTask s m args below meth c H locs 0 0 (MQ below (QcN g ad q none) args s 0 0 (gA g)) (F0 m 58 ls [.int (Int32.ofInt s0)]) := by
  unfold JX8_readTask_58 at hF
  refine lv_istore (lv' := [(4, .int (Int32.ofInt s0)), (0, .ref (ad v0)), (2, .int (Int32.ofInt v2)), (3, .int (Int32.ofInt v3))]) hC.1 hC.2.1 dX8_readTask_58 hl (by decide) rfl (fun ls hl => ?_)
  refine pw_iconst hC dX8_readTask_60 ?_
  refine lv_istore (lv' := [(5, .int (Int32.ofInt 0)), (4, .int (Int32.ofInt s0)), (0, .ref (ad v0)), (2, .int (Int32.ofInt v2)), (3, .int (Int32.ofInt v3))]) hC.1 hC.2.1 dX8_readTask_61 hl (by decide) rfl (fun ls hl => ?_)
  refine lv_aload_n hC.1 hC.2.1 dX8_readTask_63 rfl (lv_at hl 2 rfl) ?_
  refine pw_ldcs hC 2 (tx := "core") (by decide +kernel) dX8_readTask_64 ?_
  obtain ⟨q6, e6, hF⟩ := bnd hF
  obtain ⟨fs6, ho6⟩ := OX8_takeWord e6
  refine pw_cVi (rest := []) hC hR lvX8_112 ho6 (CX8_takeWord e6) ⟨rfl, rfl⟩ rfl hl.1 rfl ⟨Nat.le_of_ble_eq_true rfl, Nat.le_of_ble_eq_true rfl⟩ (Nat.le_of_ble_eq_true rfl) dX8_readTask_66 ⟨Nat.zero_le _, Nat.zero_le _⟩ (fun H locs hR => ?_)
  refine pw_ifeq hC 87 dX8_readTask_69 (by decide) (fun hc => ?_) (fun hc => ?_)
  · rw [if_pos hc] at hF
    exact BX8_readTask_87 hC hR (lv_sub hl [2, 3, 4, 1, 0] rfl) hF
  · rw [if_neg hc] at hF
    refine lv_aload_n hC.1 hC.2.1 dX8_readTask_72 rfl (lv_at hl 2 rfl) ?_
    refine pw_iconst hC dX8_readTask_73 ?_
    refine lv_aload_n hC.1 hC.2.1 dX8_readTask_74 rfl (lv_at hl 2 rfl) ?_
    obtain ⟨x24, e24, hF⟩ := bnd hF
    refine pw_gfr hC hR e24 flX8_20 dX8_readTask_75 ?_
    refine pw_iconst hC dX8_readTask_78 ?_
    obtain ⟨x25, e25, hF⟩ := bnd hF
    refine pw_iald hC hR e25 dX8_readTask_79 ?_
    refine pw_iconst hC dX8_readTask_80 ?_
    refine pw_isub hC dX8_readTask_81 ?_
    obtain ⟨q26, e26, hF⟩ := bnd hF
    obtain ⟨fs26, ho26⟩ := OX8_number e26
    refine pw_cVi (rest := []) hC hR lvX8_121 ho26 (CX8_number e26) ⟨rfl, rfl⟩ rfl hl.1 rfl ⟨Nat.le_of_ble_eq_true rfl, Nat.le_of_ble_eq_true rfl⟩ (Nat.le_of_ble_eq_true rfl) dX8_readTask_82 ⟨Nat.zero_le _, Nat.zero_le _⟩ (fun H locs hR => ?_)
    refine lv_istore (lv' := [(4, .int (Int32.ofInt q26.1)), (5, .int (Int32.ofInt 0)), (0, .ref (ad v0)), (2, .int (Int32.ofInt v2)), (3, .int (Int32.ofInt v3))]) hC.1 hC.2.1 dX8_readTask_85 hl (by decide) rfl (fun ls hl => ?_)
    exact BX8_readTask_87 hC hR (lv_sub hl [2, 3, 4, 0, 1] rfl) hF
def JX8_readTask_18 (h : PH) (v0 : Nat) : Option (PH) :=
  (FX8_number h v0 1 99).bind fun q3 =>
  (FX8_number q3.2 v0 0 9).bind fun q4 =>
  (FX8_isGood q4.2 v0).bind fun x5 =>
  if w32 x5 = 0 then (
    JX8_readTask_58 q4.2 v0 q3.1 q4.1 0
  ) else (
    (gfr q4.2 8 v0 9).bind fun x27 =>
    (ald 0 q4.2 x27 3).bind fun x28 =>
    (gfr q4.2 8 v0 9).bind fun x29 =>
    (ald 0 q4.2 x29 0).bind fun x30 =>
    if w32 x30 = 0 then none else
    JX8_readTask_58 q4.2 v0 q3.1 q4.1 (remI x28 x30)
  )
set_option maxHeartbeats 4000000 in
set_option maxRecDepth 100000 in
theorem BX8_readTask_18 {h : PH} {v0 : Nat} (hC : Cx g p s m args meth c cX8_readTask 7 RX8 none) (hR : Rl g ad h s.heap H locs) (hl : lv_has ls 7 [(0, .ref (ad v0))]) {q : PH} (hF : JX8_readTask_18 h v0 = some q) : W p l e rmX8_readTask s m args below meth c H locs 0 0 (MQ below (QcN g ad q none) args s 0 0 (gA g)) (F0 m 18 ls []) := by
  unfold JX8_readTask_18 at hF
  refine lv_aload_n hC.1 hC.2.1 dX8_readTask_18 rfl (lv_at hl 0 rfl) ?_
  refine pw_iconst hC dX8_readTask_19 ?_
  refine pw_bipush hC dX8_readTask_20 rfl ?_
  obtain ⟨q3, e3, hF⟩ := bnd hF
  obtain ⟨fs3, ho3⟩ := OX8_number e3
  refine pw_cVi (rest := []) hC hR lvX8_121 ho3 (CX8_number e3) ⟨rfl, rfl⟩ rfl hl.1 rfl ⟨Nat.le_of_ble_eq_true rfl, Nat.le_of_ble_eq_true rfl⟩ (Nat.le_of_ble_eq_true rfl) dX8_readTask_22 ⟨Nat.zero_le _, Nat.zero_le _⟩ (fun H locs hR => ?_)
  refine lv_istore_n (lv' := [(2, .int (Int32.ofInt q3.1)), (0, .ref (ad v0))]) hC.1 hC.2.1 dX8_readTask_25 rfl hl (by decide) rfl (fun ls hl => ?_)
  refine lv_aload_n hC.1 hC.2.1 dX8_readTask_26 rfl (lv_at hl 1 rfl) ?_
  refine pw_iconst hC dX8_readTask_27 ?_
  refine pw_bipush hC dX8_readTask_28 rfl ?_
  obtain ⟨q4, e4, hF⟩ := bnd hF
  obtain ⟨fs4, ho4⟩ := OX8_number e4
  refine pw_cVi (rest := []) hC hR lvX8_121 ho4 (CX8_number e4) ⟨rfl, rfl⟩ rfl hl.1 rfl ⟨Nat.le_of_ble_eq_true rfl, Nat.le_of_ble_eq_true rfl⟩ (Nat.le_of_ble_eq_true rfl) dX8_readTask_30 ⟨Nat.zero_le _, Nat.zero_le _⟩ (fun H locs hR => ?_)
  refine lv_istore_n (lv' := [(3, .int (Int32.ofInt q4.1)), (2, .int (Int32.ofInt q3.1)), (0, .ref (ad v0))]) hC.1 hC.2.1 dX8_readTask_33 rfl hl (by decide) rfl (fun ls hl => ?_)
  refine lv_aload_n hC.1 hC.2.1 dX8_readTask_34 rfl (lv_at hl 2 rfl) ?_
  obtain ⟨x5, e5, hF⟩ := bnd hF
  obtain ⟨fs5, ho5⟩ := OX8_isGood e5
  refine pw_cVi (rest := []) hC hR lvX8_67 ho5 (CX8_isGood e5) ⟨rfl, rfl⟩ rfl hl.1 rfl ⟨Nat.le_of_ble_eq_true rfl, Nat.le_of_ble_eq_true rfl⟩ (Nat.le_of_ble_eq_true rfl) dX8_readTask_35 ⟨Nat.zero_le _, Nat.zero_le _⟩ (fun H locs hR => ?_)
  refine pw_ifeq hC 57 dX8_readTask_38 (by decide) (fun hc => ?_) (fun hc => ?_)
  · rw [if_pos hc] at hF
    refine pw_iconst hC dX8_readTask_57 ?_
    exact BX8_readTask_58 hC hR (lv_sub hl [2, 1, 0] rfl) hF
  · rw [if_neg hc] at hF
    refine lv_aload_n hC.1 hC.2.1 dX8_readTask_41 rfl (lv_at hl 2 rfl) ?_
    obtain ⟨x27, e27, hF⟩ := bnd hF
    refine pw_gfr hC hR e27 flX8_20 dX8_readTask_42 ?_
    refine pw_iconst hC dX8_readTask_45 ?_
    obtain ⟨x28, e28, hF⟩ := bnd hF
    refine pw_iald hC hR e28 dX8_readTask_46 ?_
    refine lv_aload_n hC.1 hC.2.1 dX8_readTask_47 rfl (lv_at hl 2 rfl) ?_
    obtain ⟨x29, e29, hF⟩ := bnd hF
    refine pw_gfr hC hR e29 flX8_20 dX8_readTask_48 ?_
    refine pw_iconst hC dX8_readTask_51 ?_
    obtain ⟨x30, e30, hF⟩ := bnd hF
    refine pw_iald hC hR e30 dX8_readTask_52 ?_
    by_cases hn31 : w32 x30 = 0
    · rw [if_pos hn31] at hF; cases hF
    rw [if_neg hn31] at hF
    refine pw_irem hC hn31 dX8_readTask_53 ?_
    refine pw_goto hC 58 dX8_readTask_54 (by decide) ?_
    exact BX8_readTask_58 hC hR (lv_sub hl [2, 1, 0] rfl) hF
def FX8_readTask (h : PH) (v0 : Nat) (v1 : Int) : Option (PH) :=
  (isO h 8 v0).bind fun _ =>
  (gfr h 8 v0 9).bind fun x1 =>
  (ald 0 h x1 3).bind fun x2 =>
  if w32 x2 = w32 32 then (
    (FX8_report h v0 (-4) v1).bind fun h32 =>
    JX8_readTask_18 h32 v0
  ) else (
    JX8_readTask_18 h v0
  )
theorem OX8_readTask {h : PH} {v0 : Nat} {v1 : Int} {q : PH} (hF : FX8_readTask h v0 v1 = some q) : ∃ fs : List PV, h[v0]? = some (.inr (8, fs)) := by
  unfold FX8_readTask at hF
  obtain ⟨u0, e0, -⟩ := bnd hF
  exact isO_spec e0
set_option maxHeartbeats 4000000 in
set_option maxRecDepth 100000 in
theorem CX8_readTask {g : GP} {l : Launch} {ad : Nat → Nat} {h : PH} {v0 : Nat} {v1 : Int} {q : PH} (hF : FX8_readTask h v0 v1 = some q) : CN g l yX8_readTask cX8_readTask 7 none rmX8_readTask ad h [.ref (ad v0), .int (Int32.ofInt v1)] none q := by
  refine pw_met (by decide) (Nat.le_of_ble_eq_true rfl) ?_
  intro p e s m args below meth c ls hC hN hR hl
  have hl : lv_has ls 7 [(0, .ref (ad v0)), (1, .int (Int32.ofInt v1))] := hl
  unfold FX8_readTask at hF
  obtain ⟨u0, e0, hF⟩ := bnd hF
  refine lv_aload_n hC.1 hC.2.1 dX8_readTask_0 rfl (lv_at hl 0 rfl) ?_
  obtain ⟨x1, e1, hF⟩ := bnd hF
  refine pw_gfr hC hR e1 flX8_20 dX8_readTask_1 ?_
  refine pw_iconst hC dX8_readTask_4 ?_
  obtain ⟨x2, e2, hF⟩ := bnd hF
  refine pw_iald hC hR e2 dX8_readTask_5 ?_
  refine pw_bipush hC dX8_readTask_6 rfl ?_
  refine pw_icmpne hC 18 dX8_readTask_8 (by decide) (fun hc => ?_) (fun hc => ?_)
  · rw [if_neg hc] at hF
    exact BX8_readTask_18 hC hR (lv_sub hl [0] rfl) hF
  · rw [if_pos hc] at hF
    refine lv_aload_n hC.1 hC.2.1 dX8_readTask_11 rfl (lv_at hl 0 rfl) ?_
    refine pw_bipush hC dX8_readTask_12 rfl ?_
    refine lv_iload_n hC.1 hC.2.1 dX8_readTask_14 rfl (lv_at hl 1 rfl) ?_
    obtain ⟨h32, e32, hF⟩ := bnd hF
    obtain ⟨fs32, ho32⟩ := OX8_report e32
    refine pw_cVv (rest := []) hC hR lvX8_84 ho32 (CX8_report e32) ⟨rfl, rfl⟩ rfl hl.1 rfl ⟨Nat.le_of_ble_eq_true rfl, Nat.le_of_ble_eq_true rfl⟩ (Nat.le_of_ble_eq_true rfl) dX8_readTask_15 ⟨Nat.zero_le _, Nat.zero_le _⟩ (fun H locs hR => ?_)
    exact BX8_readTask_18 hC hR (lv_sub hl [0] rfl) hF
/-- the room of a recursion n levels deep -/
abbrev rmG (n : Nat) : Room := { frames := 12 + n, cells := 0, slots := 0, locals := 300 + 40 * n }
theorem rg_f {x n : Nat} (h : x ≤ 12) : x ≤ (rmG n).frames := Nat.le_trans h (Nat.le_add_right _ _)
theorem rg_l {x n : Nat} (h : x ≤ 300) : x ≤ (rmG n).locals := Nat.le_trans h (Nat.le_add_right _ _)
theorem rg_s {m n : Nat} (h : m ≤ 20) : (rmG n).frames + 1 ≤ (rmG (n + 1)).frames ∧ 8 + (m + 11) + (rmG n).locals ≤ (rmG (n + 1)).locals := ⟨by show 12 + n + 1 ≤ 12 + (n + 1); omega, by show 8 + (m + 11) + (300 + 40 * n) ≤ 300 + 40 * (n + 1); omega⟩
def RecM (g : GP) (l : Launch) (N : Nat) (rec : Nat → PH → Nat → Option PH) : Prop := (∀ (h : PH) (v0 : Nat) (q : PH), rec 0 h v0 = some q → (∃ fs : List PV, h[v0]? = some (.inr (8, fs))) ∧ ∀ ad : Nat → Nat, CN g l yX8_sum cX8_sum 2 none (rmG N) ad h [.ref (ad v0)] none q) ∧ (∀ (h : PH) (v0 : Nat) (q : PH), rec 1 h v0 = some q → (∃ fs : List PV, h[v0]? = some (.inr (8, fs))) ∧ ∀ ad : Nat → Nat, CN g l yX8_term cX8_term 2 none (rmG N) ad h [.ref (ad v0)] none q) ∧ (∀ (h : PH) (v0 : Nat) (q : PH), rec 2 h v0 = some q → (∃ fs : List PV, h[v0]? = some (.inr (8, fs))) ∧ ∀ ad : Nat → Nat, CN g l yX8_factor cX8_factor 4 none (rmG N) ad h [.ref (ad v0)] none q)
theorem RecM_c0 {g : GP} {l : Launch} {N : Nat} {rec : Nat → PH → Nat → Option PH} (H : RecM g l N rec) {ad : Nat → Nat} {h : PH} {v0 : Nat} {q : PH} (e : rec 0 h v0 = some q) : CN g l yX8_sum cX8_sum 2 none (rmG N) ad h [.ref (ad v0)] none q := (H.1 h v0 q e).2 ad
theorem RecM_o0 {g : GP} {l : Launch} {N : Nat} {rec : Nat → PH → Nat → Option PH} (H : RecM g l N rec) {h : PH} {v0 : Nat} {q : PH} (e : rec 0 h v0 = some q) : ∃ fs : List PV, h[v0]? = some (.inr (8, fs)) := (H.1 h v0 q e).1
theorem RecM_c1 {g : GP} {l : Launch} {N : Nat} {rec : Nat → PH → Nat → Option PH} (H : RecM g l N rec) {ad : Nat → Nat} {h : PH} {v0 : Nat} {q : PH} (e : rec 1 h v0 = some q) : CN g l yX8_term cX8_term 2 none (rmG N) ad h [.ref (ad v0)] none q := (H.2.1 h v0 q e).2 ad
theorem RecM_o1 {g : GP} {l : Launch} {N : Nat} {rec : Nat → PH → Nat → Option PH} (H : RecM g l N rec) {h : PH} {v0 : Nat} {q : PH} (e : rec 1 h v0 = some q) : ∃ fs : List PV, h[v0]? = some (.inr (8, fs)) := (H.2.1 h v0 q e).1
theorem RecM_c2 {g : GP} {l : Launch} {N : Nat} {rec : Nat → PH → Nat → Option PH} (H : RecM g l N rec) {ad : Nat → Nat} {h : PH} {v0 : Nat} {q : PH} (e : rec 2 h v0 = some q) : CN g l yX8_factor cX8_factor 4 none (rmG N) ad h [.ref (ad v0)] none q := (H.2.2 h v0 q e).2 ad
theorem RecM_o2 {g : GP} {l : Launch} {N : Nat} {rec : Nat → PH → Nat → Option PH} (H : RecM g l N rec) {h : PH} {v0 : Nat} {q : PH} (e : rec 2 h v0 = some q) : ∃ fs : List PV, h[v0]? = some (.inr (8, fs)) := (H.2.2 h v0 q e).1
def JX8_sum_68 (rec : Nat → PH → Nat → Option PH) (h : PH) (v0 : Nat) (s0 : Int) (s1 : Nat) : Option ((PH) ⊕ (PH)) :=
  (FX8_emit h s1 s0).bind fun h8 =>
  some (.inl h8)
set_option maxHeartbeats 4000000 in
set_option maxRecDepth 100000 in
theorem BX8_sum_68 {rec : Nat → PH → Nat → Option PH} {N : Nat} (hrec : RecM g l N rec) {h : PH} {v0 : Nat} {s0 : Int} {s1 : Nat} (hC : Cx g p s m args meth c cX8_sum 2 RX8 none) (hR : Rl g ad h s.heap H locs) (hl : lv_has ls 2 [(0, .ref (ad v0))]) {Q : State → Prop} {o : (PH) ⊕ (PH)} (hF : JX8_sum_68 rec h v0 s0 s1 = some o) (hK : Sum.elim (fun st : PH => ∀ (H : Heap) (locs : List Loc) (ls : Array Slot), Rl g ad st s.heap H locs → lv_has ls 2 [(0, .ref (ad v0))] → W p l e (rmG (N + 1)) s m args below meth c H locs 0 0 Q (F0 m 4 ls [])) (fun ex : PH => ∀ (H : Heap) (locs : List Loc) (ls : Array Slot), Rl g ad ex s.heap H locs → lv_has ls 2 [] → W p l e (rmG (N + 1)) s m args below meth c H locs 0 0 Q (F0 m 74 ls [])) o) : W p l e (rmG (N + 1)) s m args below meth c H locs 0 0 Q (F0 m 68 ls [.int (Int32.ofInt s0), .ref (ad s1)]) := by
  unfold JX8_sum_68 at hF
  obtain ⟨h8, e8, hF⟩ := bnd hF
  obtain ⟨fs8, ho8⟩ := OX8_emit e8
  refine pw_cVv (rest := []) hC hR lvX8_124 ho8 (CX8_emit e8) ⟨rfl, rfl⟩ rfl hl.1 rfl ⟨rg_f (Nat.le_of_ble_eq_true rfl), rg_l (Nat.le_of_ble_eq_true rfl)⟩ (Nat.le_of_ble_eq_true rfl) dX8_sum_68 ⟨Nat.zero_le _, Nat.zero_le _⟩ (fun H locs hR => ?_)
  refine pw_goto hC 4 dX8_sum_71 (by decide) ?_
  cases hF
  exact hK _ _ _ hR (lv_sub hl [0] rfl)
def JX8_sum_43 (rec : Nat → PH → Nat → Option PH) (h : PH) (v0 : Nat) (s0 : Int) : Option ((PH) ⊕ (PH)) :=
  (gfi h 8 v0 4).bind fun x5 =>
  (pfi h 8 v0 4 (x5 + 1)).bind fun h6 =>
  (rec 1 h6 v0).bind fun h7 =>
  if w32 s0 = 0 then (
    JX8_sum_68 rec h7 v0 3 v0
  ) else (
    JX8_sum_68 rec h7 v0 2 v0
  )
set_option maxHeartbeats 4000000 in
set_option maxRecDepth 100000 in
theorem BX8_sum_43 {rec : Nat → PH → Nat → Option PH} {N : Nat} (hrec : RecM g l N rec) {h : PH} {v0 : Nat} {s0 : Int} (hC : Cx g p s m args meth c cX8_sum 2 RX8 none) (hR : Rl g ad h s.heap H locs) (hl : lv_has ls 2 [(0, .ref (ad v0))]) {Q : State → Prop} {o : (PH) ⊕ (PH)} (hF : JX8_sum_43 rec h v0 s0 = some o) (hK : Sum.elim (fun st : PH => ∀ (H : Heap) (locs : List Loc) (ls : Array Slot), Rl g ad st s.heap H locs → lv_has ls 2 [(0, .ref (ad v0))] → W p l e (rmG (N + 1)) s m args below meth c H locs 0 0 Q (F0 m 4 ls [])) (fun ex : PH => ∀ (H : Heap) (locs : List Loc) (ls : Array Slot), Rl g ad ex s.heap H locs → lv_has ls 2 [] → W p l e (rmG (N + 1)) s m args below meth c H locs 0 0 Q (F0 m 74 ls [])) o) : W p l e (rmG (N + 1)) s m args below meth c H locs 0 0 Q (F0 m 43 ls [.int (Int32.ofInt s0)]) := by
  unfold JX8_sum_43 at hF
  refine lv_istore_n (lv' := [(1, .int (Int32.ofInt s0)), (0, .ref (ad v0))]) hC.1 hC.2.1 dX8_sum_43 rfl hl (by decide) rfl (fun ls hl => ?_)
  refine lv_aload_n hC.1 hC.2.1 dX8_sum_44 rfl (lv_at hl 1 rfl) ?_
  refine lv_dup hC.1 hC.2.1 dX8_sum_45 rfl ?_
  obtain ⟨x5, e5, hF⟩ := bnd hF
  refine pw_gfi hC hR e5 flX8_51 dX8_sum_46 ?_
  refine pw_iconst hC dX8_sum_49 ?_
  refine pw_iadd hC dX8_sum_50 ?_
  obtain ⟨h6, e6, hF⟩ := bnd hF
  refine pw_pfi hC hR e6 fpX8_51 (Or.inl rfl) dX8_sum_51 (fun H locs hR => ?_)
  refine lv_aload_n hC.1 hC.2.1 dX8_sum_54 rfl (lv_at hl 1 rfl) ?_
  obtain ⟨h7, e7, hF⟩ := bnd hF
  obtain ⟨fs7, ho7⟩ := RecM_o1 hrec e7
  refine pw_cVv (rest := []) hC hR lvX8_130 ho7 (RecM_c1 hrec e7) ⟨rfl, rfl⟩ rfl hl.1 rfl (rg_s (by decide)) (Nat.le_of_ble_eq_true rfl) dX8_sum_55 ⟨Nat.zero_le _, Nat.zero_le _⟩ (fun H locs hR => ?_)
  refine lv_aload_n hC.1 hC.2.1 dX8_sum_58 rfl (lv_at hl 1 rfl) ?_
  refine lv_iload_n hC.1 hC.2.1 dX8_sum_59 rfl (lv_at hl 0 rfl) ?_
  refine pw_ifeq hC 67 dX8_sum_60 (by decide) (fun hc => ?_) (fun hc => ?_)
  · rw [if_pos hc] at hF
    refine pw_iconst hC dX8_sum_67 ?_
    exact BX8_sum_68 hrec hC hR (lv_sub hl [1] rfl) hF hK
  · rw [if_neg hc] at hF
    refine pw_iconst hC dX8_sum_63 ?_
    refine pw_goto hC 68 dX8_sum_64 (by decide) ?_
    exact BX8_sum_68 hrec hC hR (lv_sub hl [1] rfl) hF hK
def JX8_sum_29 (rec : Nat → PH → Nat → Option PH) (h : PH) (v0 : Nat) : Option ((PH) ⊕ (PH)) :=
  (FX8_next h v0).bind fun q4 =>
  if w32 q4.1 = w32 43 then (
    JX8_sum_43 rec q4.2 v0 1
  ) else (
    JX8_sum_43 rec q4.2 v0 0
  )
set_option maxHeartbeats 4000000 in
set_option maxRecDepth 100000 in
theorem BX8_sum_29 {rec : Nat → PH → Nat → Option PH} {N : Nat} (hrec : RecM g l N rec) {h : PH} {v0 : Nat} (hC : Cx g p s m args meth c cX8_sum 2 RX8 none) (hR : Rl g ad h s.heap H locs) (hl : lv_has ls 2 [(0, .ref (ad v0))]) {Q : State → Prop} {o : (PH) ⊕ (PH)} (hF : JX8_sum_29 rec h v0 = some o) (hK : Sum.elim (fun st : PH => ∀ (H : Heap) (locs : List Loc) (ls : Array Slot), Rl g ad st s.heap H locs → lv_has ls 2 [(0, .ref (ad v0))] → W p l e (rmG (N + 1)) s m args below meth c H locs 0 0 Q (F0 m 4 ls [])) (fun ex : PH => ∀ (H : Heap) (locs : List Loc) (ls : Array Slot), Rl g ad ex s.heap H locs → lv_has ls 2 [] → W p l e (rmG (N + 1)) s m args below meth c H locs 0 0 Q (F0 m 74 ls [])) o) : W p l e (rmG (N + 1)) s m args below meth c H locs 0 0 Q (F0 m 29 ls []) := by
  unfold JX8_sum_29 at hF
  refine lv_aload_n hC.1 hC.2.1 dX8_sum_29 rfl (lv_at hl 0 rfl) ?_
  obtain ⟨q4, e4, hF⟩ := bnd hF
  obtain ⟨fs4, ho4⟩ := OX8_next e4
  refine pw_cVi (rest := []) hC hR lvX8_71 ho4 (CX8_next e4) ⟨rfl, rfl⟩ rfl hl.1 rfl ⟨rg_f (Nat.le_of_ble_eq_true rfl), rg_l (Nat.le_of_ble_eq_true rfl)⟩ (Nat.le_of_ble_eq_true rfl) dX8_sum_30 ⟨Nat.zero_le _, Nat.zero_le _⟩ (fun H locs hR => ?_)
  refine pw_bipush hC dX8_sum_33 rfl ?_
  refine pw_icmpne hC 42 dX8_sum_35 (by decide) (fun hc => ?_) (fun hc => ?_)
  · rw [if_neg hc] at hF
    refine pw_iconst hC dX8_sum_42 ?_
    exact BX8_sum_43 hrec hC hR (lv_sub hl [0] rfl) hF hK
  · rw [if_pos hc] at hF
    refine pw_iconst hC dX8_sum_38 ?_
    refine pw_goto hC 43 dX8_sum_39 (by decide) ?_
    exact BX8_sum_43 hrec hC hR (lv_sub hl [0] rfl) hF hK
def LX8_sum_4 (rec : Nat → PH → Nat → Option PH) (v0 : Nat) (h : PH) : Option ((PH) ⊕ (PH)) :=
  (FX8_isGood h v0).bind fun x2 =>
  if w32 x2 = 0 then (
    some (.inr h)
  ) else (
    (FX8_next h v0).bind fun q3 =>
    if w32 q3.1 = w32 43 then (
      JX8_sum_29 rec q3.2 v0
    ) else (
      (FX8_next q3.2 v0).bind fun q9 =>
      if w32 q9.1 = w32 45 then (
        JX8_sum_29 rec q9.2 v0
      ) else (
        some (.inr q9.2)
      )
    )
  )
set_option maxHeartbeats 4000000 in
set_option maxRecDepth 100000 in
theorem LRX8_sum_4 {rec : Nat → PH → Nat → Option PH} {N : Nat} (hrec : RecM g l N rec) {v0 : Nat} {Q : State → Prop} (hC : Cx g p s m args meth c cX8_sum 2 RX8 none) : ∀ (n : Nat) (st : PH) (ex : PH), lp (fun st : PH => LX8_sum_4 rec v0 st) n st = some ex → (fun ex : PH => ∀ (H : Heap) (locs : List Loc) (ls : Array Slot), Rl g ad ex s.heap H locs → lv_has ls 2 [] → W p l e (rmG (N + 1)) s m args below meth c H locs 0 0 Q (F0 m 74 ls [])) ex → ∀ (H : Heap) (locs : List Loc) (ls : Array Slot), Rl g ad st s.heap H locs → lv_has ls 2 [(0, .ref (ad v0))] → W p l e (rmG (N + 1)) s m args below meth c H locs 0 0 Q (F0 m 4 ls []) := by
  refine lp_rule (Ph := (fun st : PH => ∀ (H : Heap) (locs : List Loc) (ls : Array Slot), Rl g ad st s.heap H locs → lv_has ls 2 [(0, .ref (ad v0))] → W p l e (rmG (N + 1)) s m args below meth c H locs 0 0 Q (F0 m 4 ls []))) (Px := (fun ex : PH => ∀ (H : Heap) (locs : List Loc) (ls : Array Slot), Rl g ad ex s.heap H locs → lv_has ls 2 [] → W p l e (rmG (N + 1)) s m args below meth c H locs 0 0 Q (F0 m 74 ls []))) ?_
  rintro h o hF hK H locs ls hR hl
  have hR : Rl g ad h s.heap H locs := hR
  have hl : lv_has ls 2 [(0, .ref (ad v0))] := hl
  have hF : LX8_sum_4 rec v0 h = some o := hF
  unfold LX8_sum_4 at hF
  refine lv_aload_n hC.1 hC.2.1 dX8_sum_4 rfl (lv_at hl 0 rfl) ?_
  obtain ⟨x2, e2, hF⟩ := bnd hF
  obtain ⟨fs2, ho2⟩ := OX8_isGood e2
  refine pw_cVi (rest := []) hC hR lvX8_67 ho2 (CX8_isGood e2) ⟨rfl, rfl⟩ rfl hl.1 rfl ⟨rg_f (Nat.le_of_ble_eq_true rfl), rg_l (Nat.le_of_ble_eq_true rfl)⟩ (Nat.le_of_ble_eq_true rfl) dX8_sum_5 ⟨Nat.zero_le _, Nat.zero_le _⟩ (fun H locs hR => ?_)
  refine pw_ifeq hC 74 dX8_sum_8 (by decide) (fun hc => ?_) (fun hc => ?_)
  · rw [if_pos hc] at hF
    cases hF
    exact hK _ _ _ hR (lv_sub hl [] rfl)
  · rw [if_neg hc] at hF
    refine lv_aload_n hC.1 hC.2.1 dX8_sum_11 rfl (lv_at hl 0 rfl) ?_
    obtain ⟨q3, e3, hF⟩ := bnd hF
    obtain ⟨fs3, ho3⟩ := OX8_next e3
    refine pw_cVi (rest := []) hC hR lvX8_71 ho3 (CX8_next e3) ⟨rfl, rfl⟩ rfl hl.1 rfl ⟨rg_f (Nat.le_of_ble_eq_true rfl), rg_l (Nat.le_of_ble_eq_true rfl)⟩ (Nat.le_of_ble_eq_true rfl) dX8_sum_12 ⟨Nat.zero_le _, Nat.zero_le _⟩ (fun H locs hR => ?_)
    refine pw_bipush hC dX8_sum_15 rfl ?_
    refine pw_icmpeq hC 29 dX8_sum_17 (by decide) (fun hc => ?_) (fun hc => ?_)
    · rw [if_pos hc] at hF
      exact BX8_sum_29 hrec hC hR (lv_sub hl [0] rfl) hF hK
    · rw [if_neg hc] at hF
      refine lv_aload_n hC.1 hC.2.1 dX8_sum_20 rfl (lv_at hl 0 rfl) ?_
      obtain ⟨q9, e9, hF⟩ := bnd hF
      obtain ⟨fs9, ho9⟩ := OX8_next e9
      refine pw_cVi (rest := []) hC hR lvX8_71 ho9 (CX8_next e9) ⟨rfl, rfl⟩ rfl hl.1 rfl ⟨rg_f (Nat.le_of_ble_eq_true rfl), rg_l (Nat.le_of_ble_eq_true rfl)⟩ (Nat.le_of_ble_eq_true rfl) dX8_sum_21 ⟨Nat.zero_le _, Nat.zero_le _⟩ (fun H locs hR => ?_)
      refine pw_bipush hC dX8_sum_24 rfl ?_
      refine pw_icmpne hC 74 dX8_sum_26 (by decide) (fun hc => ?_) (fun hc => ?_)
      · rw [if_neg hc] at hF
        cases hF
        exact hK _ _ _ hR (lv_sub hl [] rfl)
      · rw [if_pos hc] at hF
        exact BX8_sum_29 hrec hC hR (lv_sub hl [0] rfl) hF hK
def JX8_sum_74 (rec : Nat → PH → Nat → Option PH) (h : PH) : Option (PH) :=
  some h
set_option maxHeartbeats 4000000 in
set_option maxRecDepth 100000 in
theorem BX8_sum_74 {rec : Nat → PH → Nat → Option PH} {N : Nat} (hrec : RecM g l N rec) {h : PH} (hC : Cx g p s m args meth c cX8_sum 2 RX8 none) (hR : Rl g ad h s.heap H locs) (hl : lv_has ls 2 []) {q : PH} (hF : JX8_sum_74 rec h  = some q) : W p l e (rmG (N + 1)) s m args below meth c H locs 0 0 (MQ below (QcN g ad q none) args s 0 0 (gA g)) (F0 m 74 ls []) := by
  unfold JX8_sum_74 at hF
  cases hF
  exact pw_vret hC hR dX8_sum_74
def FX8_sum (rec : Nat → PH → Nat → Option PH) (h : PH) (v0 : Nat) : Option (PH) :=
  (isO h 8 v0).bind fun _ =>
  (rec 1 h v0).bind fun h1 =>
  (lp (fun st : PH => LX8_sum_4 rec v0 st) FU h1).bind fun ex10 =>
  JX8_sum_74 rec ex10
theorem OX8_sum {rec : Nat → PH → Nat → Option PH} {h : PH} {v0 : Nat} {q : PH} (hF : FX8_sum rec h v0 = some q) : ∃ fs : List PV, h[v0]? = some (.inr (8, fs)) := by
  unfold FX8_sum at hF
  obtain ⟨u0, e0, -⟩ := bnd hF
  exact isO_spec e0
set_option maxHeartbeats 4000000 in
set_option maxRecDepth 100000 in
theorem CX8_sum {rec : Nat → PH → Nat → Option PH} {N : Nat} {g : GP} {l : Launch} (hrec : RecM g l N rec) {ad : Nat → Nat} {h : PH} {v0 : Nat} {q : PH} (hF : FX8_sum rec h v0 = some q) : CN g l yX8_sum cX8_sum 2 none (rmG (N + 1)) ad h [.ref (ad v0)] none q := by
  refine pw_met (by decide) (Nat.le_of_ble_eq_true rfl) ?_
  intro p e s m args below meth c ls hC hN hR hl
  have hl : lv_has ls 2 [(0, .ref (ad v0))] := hl
  unfold FX8_sum at hF
  obtain ⟨u0, e0, hF⟩ := bnd hF
  refine lv_aload_n hC.1 hC.2.1 dX8_sum_0 rfl (lv_at hl 0 rfl) ?_
  obtain ⟨h1, e1, hF⟩ := bnd hF
  obtain ⟨fs1, ho1⟩ := RecM_o1 hrec e1
  refine pw_cVv (rest := []) hC hR lvX8_130 ho1 (RecM_c1 hrec e1) ⟨rfl, rfl⟩ rfl hl.1 rfl (rg_s (by decide)) (Nat.le_of_ble_eq_true rfl) dX8_sum_1 ⟨Nat.zero_le _, Nat.zero_le _⟩ (fun H locs hR => ?_)
  obtain ⟨ex10, e10, hF⟩ := bnd hF
  refine LRX8_sum_4 hrec hC FU _ ex10 e10 ?_ _ _ _ hR (lv_sub hl [0] rfl)
  intro H locs ls hR hl
  exact BX8_sum_74 hrec hC hR (lv_sub hl [] rfl) hF
end
