section
variable {p : Program} {l : Launch} {e : Env} {s : State} {m : MethodId} {args : Array Value} {below : List Frame} {meth : Method} {c : Code} {H : Heap} {locs : List Loc} {ls : Array Slot} {g : GP} {ad : Nat → Nat}
abbrev rmX4_readStatement : Room := { frames := 53, cells := 0, slots := 0, locals := 1924 }
def JX4_readStatement_94 (h : PH) (v0 : Nat) : Option (Int × PH) :=
  (FX4_fail h v0 (-2)).bind fun q7 =>
  if q7.1 = 0 ∨ q7.1 = 1 then some (q7.1, q7.2) else none
set_option maxHeartbeats 4000000 in
set_option maxRecDepth 100000 in
theorem BX4_readStatement_94 {h : PH} {v0 : Nat} (hC : Cx g p s m args meth c cX4_readStatement 2 RX4 (some .boolean)) (hR : Rl g ad h s.heap H locs) (hl : lv_has ls 2 [(0, .ref (ad v0))]) {q : Int × PH} (hF : JX4_readStatement_94 h v0 = some q) : W p l e rmX4_readStatement s m args below meth c H locs 0 0 (MQ below (QcN g ad q.2 (some (.int (Int32.ofInt q.1)))) args s 0 0 (gA g)) (F0 m 94 ls []) := by
  unfold JX4_readStatement_94 at hF
  refine lv_aload_n hC.1 hC.2.1 dX4_readStatement_94 rfl (lv_at hl 0 rfl) ?_
  refine pw_bipush hC dX4_readStatement_95 rfl ?_
  obtain ⟨q7, e7, hF⟩ := bnd hF
  obtain ⟨fs7, ho7⟩ := OX4_fail e7
  refine pw_cVi (rest := []) hC hR lvX4_80 ho7 (CX4_fail e7) ⟨rfl, rfl⟩ rfl hl.1 rfl ⟨Nat.le_of_ble_eq_true rfl, Nat.le_of_ble_eq_true rfl⟩ (Nat.le_of_ble_eq_true rfl) dX4_readStatement_97 ⟨Nat.zero_le _, Nat.zero_le _⟩ (fun H locs hR => ?_)
  by_cases hb8 : q7.1 = 0 ∨ q7.1 = 1
  · rw [if_pos hb8] at hF
    cases hF
    exact pw_zret hC hR hb8 dX4_readStatement_100
  · rw [if_neg hb8] at hF; cases hF
def FX4_readStatement (h : PH) (v0 : Nat) (v1 : Nat) : Option (Int × PH) :=
  (isO h 4 v0).bind fun _ =>
  (gfr h 4 v0 0).bind fun x1 =>
  (FX5_isWord h x1 1).bind fun x2 =>
  if w32 x2 = 0 then (
    (gfr h 4 v0 0).bind fun x3 =>
    (FX5_isWord h x3 4).bind fun x4 =>
    if w32 x4 = 0 then (
      (gfr h 4 v0 0).bind fun x5 =>
      (FX5_isWord h x5 5).bind fun x6 =>
      if w32 x6 = 0 then (
        JX4_readStatement_94 h v0
      ) else (
        (gfi h 4 v0 5).bind fun x9 =>
        if w32 x9 = 0 then (
          (gfr h 4 v0 0).bind fun x10 =>
          (FX5_advance h x10).bind fun h11 =>
          (pfi h11 4 v0 5 1).bind fun h12 =>
          (pfi h12 4 v0 4 0).bind fun h13 =>
          (FRRecS 40 0 h13 v0 0).bind fun q14 =>
          if q14.1 = 0 ∨ q14.1 = 1 then some (q14.1, q14.2) else none
        ) else (
          JX4_readStatement_94 h v0
        )
      )
    ) else (
      (gfr h 3 v1 0).bind fun x16 =>
      (gfi h 6 x16 1).bind fun x17 =>
      if w32 x17 < w32 8 then (
        (gfr h 4 v0 0).bind fun x18 =>
        (FX5_advance h x18).bind fun h19 =>
        (gfr h19 3 v1 0).bind fun x20 =>
        (FX6_addFence h19 x20).bind fun h21 =>
        some (1, h21)
      ) else (
        (FX4_fail h v0 (-4)).bind fun q22 =>
        if q22.1 = 0 ∨ q22.1 = 1 then some (q22.1, q22.2) else none
      )
    )
  ) else (
    (gfr h 3 v1 0).bind fun x24 =>
    (gfr h 3 v1 1).bind fun x25 =>
    (gfi h 0 x25 0).bind fun x26 =>
    (FX4_readTask h v0 x24 x26).bind fun q27 =>
    if q27.1 = 0 ∨ q27.1 = 1 then some (q27.1, q27.2) else none
  )
theorem OX4_readStatement {h : PH} {v0 : Nat} {v1 : Nat} {q : Int × PH} (hF : FX4_readStatement h v0 v1 = some q) : ∃ fs : List PV, h[v0]? = some (.inr (4, fs)) := by
  unfold FX4_readStatement at hF
  obtain ⟨u0, e0, -⟩ := bnd hF
  exact isO_spec e0
set_option maxHeartbeats 4000000 in
set_option maxRecDepth 100000 in
theorem CX4_readStatement {g : GP} {l : Launch} {ad : Nat → Nat} {h : PH} {v0 : Nat} {v1 : Nat} {q : Int × PH} (hF : FX4_readStatement h v0 v1 = some q) : CN g l yX4_readStatement cX4_readStatement 2 (some .boolean) rmX4_readStatement ad h [.ref (ad v0), .ref (ad v1)] (some (.int (Int32.ofInt q.1))) q.2 := by
  refine pw_met (by decide) (Nat.le_of_ble_eq_true rfl) ?_
  intro p e s m args below meth c ls hC hN hR hl
  have hl : lv_has ls 2 [(0, .ref (ad v0)), (1, .ref (ad v1))] := hl
  unfold FX4_readStatement at hF
  obtain ⟨u0, e0, hF⟩ := bnd hF
  refine lv_aload_n hC.1 hC.2.1 dX4_readStatement_0 rfl (lv_at hl 0 rfl) ?_
  obtain ⟨x1, e1, hF⟩ := bnd hF
  refine pw_gfr hC hR e1 flX4_12 dX4_readStatement_1 ?_
  refine pw_ldcs hC 1 (tx := "task") (by decide +kernel) dX4_readStatement_4 ?_
  obtain ⟨x2, e2, hF⟩ := bnd hF
  obtain ⟨fs2, ho2⟩ := OX5_isWord e2
  refine pw_cVi (rest := []) hC hR lvX4_76 ho2 (CX5_isWord e2) ⟨rfl, rfl⟩ rfl hl.1 rfl ⟨Nat.le_of_ble_eq_true rfl, Nat.le_of_ble_eq_true rfl⟩ (Nat.le_of_ble_eq_true rfl) dX4_readStatement_6 ⟨Nat.zero_le _, Nat.zero_le _⟩ (fun H locs hR => ?_)
  refine pw_ifeq hC 28 dX4_readStatement_9 (by decide) (fun hc => ?_) (fun hc => ?_)
  · rw [if_pos hc] at hF
    refine lv_aload_n hC.1 hC.2.1 dX4_readStatement_28 rfl (lv_at hl 0 rfl) ?_
    obtain ⟨x3, e3, hF⟩ := bnd hF
    refine pw_gfr hC hR e3 flX4_12 dX4_readStatement_29 ?_
    refine pw_ldcs hC 4 (tx := "fence") (by decide +kernel) dX4_readStatement_32 ?_
    obtain ⟨x4, e4, hF⟩ := bnd hF
    obtain ⟨fs4, ho4⟩ := OX5_isWord e4
    refine pw_cVi (rest := []) hC hR lvX4_76 ho4 (CX5_isWord e4) ⟨rfl, rfl⟩ rfl hl.1 rfl ⟨Nat.le_of_ble_eq_true rfl, Nat.le_of_ble_eq_true rfl⟩ (Nat.le_of_ble_eq_true rfl) dX4_readStatement_34 ⟨Nat.zero_le _, Nat.zero_le _⟩ (fun H locs hR => ?_)
    refine pw_ifeq hC 75 dX4_readStatement_37 (by decide) (fun hc => ?_) (fun hc => ?_)
    · rw [if_pos hc] at hF
      refine lv_aload_n hC.1 hC.2.1 dX4_readStatement_75 rfl (lv_at hl 0 rfl) ?_
      obtain ⟨x5, e5, hF⟩ := bnd hF
      refine pw_gfr hC hR e5 flX4_12 dX4_readStatement_76 ?_
      refine pw_ldcs hC 5 (tx := "length") (by decide +kernel) dX4_readStatement_79 ?_
      obtain ⟨x6, e6, hF⟩ := bnd hF
      obtain ⟨fs6, ho6⟩ := OX5_isWord e6
      refine pw_cVi (rest := []) hC hR lvX4_76 ho6 (CX5_isWord e6) ⟨rfl, rfl⟩ rfl hl.1 rfl ⟨Nat.le_of_ble_eq_true rfl, Nat.le_of_ble_eq_true rfl⟩ (Nat.le_of_ble_eq_true rfl) dX4_readStatement_81 ⟨Nat.zero_le _, Nat.zero_le _⟩ (fun H locs hR => ?_)
      refine pw_ifeq hC 94 dX4_readStatement_84 (by decide) (fun hc => ?_) (fun hc => ?_)
      · rw [if_pos hc] at hF
        exact BX4_readStatement_94 hC hR (lv_sub hl [0] rfl) hF
      · rw [if_neg hc] at hF
        refine lv_aload_n hC.1 hC.2.1 dX4_readStatement_87 rfl (lv_at hl 0 rfl) ?_
        obtain ⟨x9, e9, hF⟩ := bnd hF
        refine pw_gfi hC hR e9 flX4_32 dX4_readStatement_88 ?_
        refine pw_ifeq hC 101 dX4_readStatement_91 (by decide) (fun hc => ?_) (fun hc => ?_)
        · rw [if_pos hc] at hF
          refine lv_aload_n hC.1 hC.2.1 dX4_readStatement_101 rfl (lv_at hl 0 rfl) ?_
          obtain ⟨x10, e10, hF⟩ := bnd hF
          refine pw_gfr hC hR e10 flX4_12 dX4_readStatement_102 ?_
          obtain ⟨h11, e11, hF⟩ := bnd hF
          obtain ⟨fs11, ho11⟩ := OX5_advance e11
          refine pw_cVv (rest := []) hC hR lvX4_84 ho11 (CX5_advance e11) ⟨rfl, rfl⟩ rfl hl.1 rfl ⟨Nat.le_of_ble_eq_true rfl, Nat.le_of_ble_eq_true rfl⟩ (Nat.le_of_ble_eq_true rfl) dX4_readStatement_105 ⟨Nat.zero_le _, Nat.zero_le _⟩ (fun H locs hR => ?_)
          refine lv_aload_n hC.1 hC.2.1 dX4_readStatement_108 rfl (lv_at hl 0 rfl) ?_
          refine pw_iconst hC dX4_readStatement_109 ?_
          obtain ⟨h12, e12, hF⟩ := bnd hF
          refine pw_pfz hC hR e12 (Or.inr rfl) fpX4_32 (Or.inl rfl) dX4_readStatement_110 (fun H locs hR => ?_)
          refine lv_aload_n hC.1 hC.2.1 dX4_readStatement_113 rfl (lv_at hl 0 rfl) ?_
          refine pw_iconst hC dX4_readStatement_114 ?_
          obtain ⟨h13, e13, hF⟩ := bnd hF
          refine pw_pfi hC hR e13 fpX4_29 (Or.inl rfl) dX4_readStatement_115 (fun H locs hR => ?_)
          refine lv_aload_n hC.1 hC.2.1 dX4_readStatement_118 rfl (lv_at hl 0 rfl) ?_
          refine pw_iconst hC dX4_readStatement_119 ?_
          obtain ⟨q14, e14, hF⟩ := bnd hF
          obtain ⟨fs14, ho14⟩ := OX4_readSumR e14
          refine pw_cVi (rest := []) hC hR lvX4_132 ho14 (CX4_readSumR e14) ⟨rfl, rfl⟩ rfl hl.1 rfl ⟨Nat.le_of_ble_eq_true rfl, Nat.le_of_ble_eq_true rfl⟩ (Nat.le_of_ble_eq_true rfl) dX4_readStatement_120 ⟨Nat.zero_le _, Nat.zero_le _⟩ (fun H locs hR => ?_)
          by_cases hb15 : q14.1 = 0 ∨ q14.1 = 1
          · rw [if_pos hb15] at hF
            cases hF
            exact pw_zret hC hR hb15 dX4_readStatement_123
          · rw [if_neg hb15] at hF; cases hF
        · rw [if_neg hc] at hF
          exact BX4_readStatement_94 hC hR (lv_sub hl [0] rfl) hF
    · rw [if_neg hc] at hF
      refine lv_aload_n hC.1 hC.2.1 dX4_readStatement_40 rfl (lv_at hl 1 rfl) ?_
      obtain ⟨x16, e16, hF⟩ := bnd hF
      refine pw_gfr hC hR e16 flX4_91 dX4_readStatement_41 ?_
      obtain ⟨x17, e17, hF⟩ := bnd hF
      refine pw_gfi hC hR e17 flX4_100 dX4_readStatement_44 ?_
      refine pw_bipush hC dX4_readStatement_47 rfl ?_
      refine pw_icmplt hC 59 dX4_readStatement_49 (by decide) (fun hc => ?_) (fun hc => ?_)
      · rw [if_pos hc] at hF
        refine lv_aload_n hC.1 hC.2.1 dX4_readStatement_59 rfl (lv_at hl 0 rfl) ?_
        obtain ⟨x18, e18, hF⟩ := bnd hF
        refine pw_gfr hC hR e18 flX4_12 dX4_readStatement_60 ?_
        obtain ⟨h19, e19, hF⟩ := bnd hF
        obtain ⟨fs19, ho19⟩ := OX5_advance e19
        refine pw_cVv (rest := []) hC hR lvX4_84 ho19 (CX5_advance e19) ⟨rfl, rfl⟩ rfl hl.1 rfl ⟨Nat.le_of_ble_eq_true rfl, Nat.le_of_ble_eq_true rfl⟩ (Nat.le_of_ble_eq_true rfl) dX4_readStatement_63 ⟨Nat.zero_le _, Nat.zero_le _⟩ (fun H locs hR => ?_)
        refine lv_aload_n hC.1 hC.2.1 dX4_readStatement_66 rfl (lv_at hl 1 rfl) ?_
        obtain ⟨x20, e20, hF⟩ := bnd hF
        refine pw_gfr hC hR e20 flX4_91 dX4_readStatement_67 ?_
        obtain ⟨h21, e21, hF⟩ := bnd hF
        obtain ⟨fs21, ho21⟩ := OX6_addFence e21
        refine pw_cVv (rest := []) hC hR lvX4_127 ho21 (CX6_addFence e21) ⟨rfl, rfl⟩ rfl hl.1 rfl ⟨Nat.le_of_ble_eq_true rfl, Nat.le_of_ble_eq_true rfl⟩ (Nat.le_of_ble_eq_true rfl) dX4_readStatement_70 ⟨Nat.zero_le _, Nat.zero_le _⟩ (fun H locs hR => ?_)
        refine pw_iconst hC dX4_readStatement_73 ?_
        cases hF
        exact pw_zret hC hR (Or.inr rfl) dX4_readStatement_74
      · rw [if_neg hc] at hF
        refine lv_aload_n hC.1 hC.2.1 dX4_readStatement_52 rfl (lv_at hl 0 rfl) ?_
        refine pw_bipush hC dX4_readStatement_53 rfl ?_
        obtain ⟨q22, e22, hF⟩ := bnd hF
        obtain ⟨fs22, ho22⟩ := OX4_fail e22
        refine pw_cVi (rest := []) hC hR lvX4_80 ho22 (CX4_fail e22) ⟨rfl, rfl⟩ rfl hl.1 rfl ⟨Nat.le_of_ble_eq_true rfl, Nat.le_of_ble_eq_true rfl⟩ (Nat.le_of_ble_eq_true rfl) dX4_readStatement_55 ⟨Nat.zero_le _, Nat.zero_le _⟩ (fun H locs hR => ?_)
        by_cases hb23 : q22.1 = 0 ∨ q22.1 = 1
        · rw [if_pos hb23] at hF
          cases hF
          exact pw_zret hC hR hb23 dX4_readStatement_58
        · rw [if_neg hb23] at hF; cases hF
  · rw [if_neg hc] at hF
    refine lv_aload_n hC.1 hC.2.1 dX4_readStatement_12 rfl (lv_at hl 0 rfl) ?_
    refine lv_aload_n hC.1 hC.2.1 dX4_readStatement_13 rfl (lv_at hl 1 rfl) ?_
    obtain ⟨x24, e24, hF⟩ := bnd hF
    refine pw_gfr hC hR e24 flX4_91 dX4_readStatement_14 ?_
    refine lv_aload_n hC.1 hC.2.1 dX4_readStatement_17 rfl (lv_at hl 1 rfl) ?_
    obtain ⟨x25, e25, hF⟩ := bnd hF
    refine pw_gfr hC hR e25 flX4_106 dX4_readStatement_18 ?_
    obtain ⟨x26, e26, hF⟩ := bnd hF
    refine pw_gfi hC hR e26 flX4_120 dX4_readStatement_21 ?_
    obtain ⟨q27, e27, hF⟩ := bnd hF
    obtain ⟨fs27, ho27⟩ := OX4_readTask e27
    refine pw_cVi (rest := []) hC hR lvX4_121 ho27 (CX4_readTask e27) ⟨rfl, rfl⟩ rfl hl.1 rfl ⟨Nat.le_of_ble_eq_true rfl, Nat.le_of_ble_eq_true rfl⟩ (Nat.le_of_ble_eq_true rfl) dX4_readStatement_24 ⟨Nat.zero_le _, Nat.zero_le _⟩ (fun H locs hR => ?_)
    by_cases hb28 : q27.1 = 0 ∨ q27.1 = 1
    · rw [if_pos hb28] at hF
      cases hF
      exact pw_zret hC hR hb28 dX4_readStatement_27
    · rw [if_neg hb28] at hF; cases hF
abbrev rmX8_statement : Room := { frames := 53, cells := 0, slots := 0, locals := 1921 }
def JX8_statement_81 (h : PH) (v0 : Nat) : Option (PH) :=
  (FX8_expect h v0 59).bind fun h7 =>
  some h7
set_option maxHeartbeats 4000000 in
set_option maxRecDepth 100000 in
theorem BX8_statement_81 {h : PH} {v0 : Nat} (hC : Cx g p s m args meth c cX8_statement 2 RX8 none) (hR : Rl g ad h s.heap H locs) (hl : lv_has ls 2 [(0, .ref (ad v0))]) {q : PH} (hF : JX8_statement_81 h v0 = some q) : W p l e rmX8_statement s m args below meth c H locs 0 0 (MQ below (QcN g ad q none) args s 0 0 (gA g)) (F0 m 81 ls []) := by
  unfold JX8_statement_81 at hF
  refine lv_aload_n hC.1 hC.2.1 dX8_statement_81 rfl (lv_at hl 0 rfl) ?_
  refine pw_bipush hC dX8_statement_82 rfl ?_
  obtain ⟨h7, e7, hF⟩ := bnd hF
  obtain ⟨fs7, ho7⟩ := OX8_expect e7
  refine pw_cVv (rest := []) hC hR lvX8_106 ho7 (CX8_expect e7) ⟨rfl, rfl⟩ rfl hl.1 rfl ⟨Nat.le_of_ble_eq_true rfl, Nat.le_of_ble_eq_true rfl⟩ (Nat.le_of_ble_eq_true rfl) dX8_statement_84 ⟨Nat.zero_le _, Nat.zero_le _⟩ (fun H locs hR => ?_)
  cases hF
  exact pw_vret hC hR dX8_statement_87
def FX8_statement (h : PH) (v0 : Nat) : Option (PH) :=
  (isO h 8 v0).bind fun _ =>
  (FX8_next h v0).bind fun q1 =>
  (gfi q1.2 8 v0 4).bind fun x2 =>
  (FX8_takeWord q1.2 v0 1).bind fun q3 =>
  if w32 q3.1 = 0 then (
    (FX8_takeWord q3.2 v0 4).bind fun q4 =>
    if w32 q4.1 = 0 then (
      (FX8_takeWord q4.2 v0 5).bind fun q5 =>
      if w32 q5.1 = 0 then (
        (FX8_report q5.2 v0 (-2) x2).bind fun h6 =>
        JX8_statement_81 h6 v0
      ) else (
        (FX8_once q5.2 v0 0 x2).bind fun h8 =>
        (gfr h8 8 v0 9).bind fun x9 =>
        (ast 0 h8 x9 6 1).bind fun h10 =>
        (FRRecM 40 0 h10 v0).bind fun h11 =>
        JX8_statement_81 h11 v0
      )
    ) else (
      (FX8_readFence q4.2 v0 x2).bind fun h12 =>
      JX8_statement_81 h12 v0
    )
  ) else (
    (FX8_readTask q3.2 v0 x2).bind fun h13 =>
    JX8_statement_81 h13 v0
  )
theorem OX8_statement {h : PH} {v0 : Nat} {q : PH} (hF : FX8_statement h v0 = some q) : ∃ fs : List PV, h[v0]? = some (.inr (8, fs)) := by
  unfold FX8_statement at hF
  obtain ⟨u0, e0, -⟩ := bnd hF
  exact isO_spec e0
set_option maxHeartbeats 4000000 in
set_option maxRecDepth 100000 in
theorem CX8_statement {g : GP} {l : Launch} {ad : Nat → Nat} {h : PH} {v0 : Nat} {q : PH} (hF : FX8_statement h v0 = some q) : CN g l yX8_statement cX8_statement 2 none rmX8_statement ad h [.ref (ad v0)] none q := by
  refine pw_met (by decide) (Nat.le_of_ble_eq_true rfl) ?_
  intro p e s m args below meth c ls hC hN hR hl
  have hl : lv_has ls 2 [(0, .ref (ad v0))] := hl
  unfold FX8_statement at hF
  obtain ⟨u0, e0, hF⟩ := bnd hF
  refine lv_aload_n hC.1 hC.2.1 dX8_statement_0 rfl (lv_at hl 0 rfl) ?_
  obtain ⟨q1, e1, hF⟩ := bnd hF
  obtain ⟨fs1, ho1⟩ := OX8_next e1
  refine pw_cVi (rest := []) hC hR lvX8_71 ho1 (CX8_next e1) ⟨rfl, rfl⟩ rfl hl.1 rfl ⟨Nat.le_of_ble_eq_true rfl, Nat.le_of_ble_eq_true rfl⟩ (Nat.le_of_ble_eq_true rfl) dX8_statement_1 ⟨Nat.zero_le _, Nat.zero_le _⟩ (fun H locs hR => ?_)
  refine lv_pop hC.1 hC.2.1 dX8_statement_4 rfl ?_
  refine lv_aload_n hC.1 hC.2.1 dX8_statement_5 rfl (lv_at hl 0 rfl) ?_
  obtain ⟨x2, e2, hF⟩ := bnd hF
  refine pw_gfi hC hR e2 flX8_51 dX8_statement_6 ?_
  refine lv_istore_n (lv' := [(1, .int (Int32.ofInt x2)), (0, .ref (ad v0))]) hC.1 hC.2.1 dX8_statement_9 rfl hl (by decide) rfl (fun ls hl => ?_)
  refine lv_aload_n hC.1 hC.2.1 dX8_statement_10 rfl (lv_at hl 1 rfl) ?_
  refine pw_ldcs hC 1 (tx := "task") (by decide +kernel) dX8_statement_11 ?_
  obtain ⟨q3, e3, hF⟩ := bnd hF
  obtain ⟨fs3, ho3⟩ := OX8_takeWord e3
  refine pw_cVi (rest := []) hC hR lvX8_112 ho3 (CX8_takeWord e3) ⟨rfl, rfl⟩ rfl hl.1 rfl ⟨Nat.le_of_ble_eq_true rfl, Nat.le_of_ble_eq_true rfl⟩ (Nat.le_of_ble_eq_true rfl) dX8_statement_13 ⟨Nat.zero_le _, Nat.zero_le _⟩ (fun H locs hR => ?_)
  refine pw_ifeq hC 27 dX8_statement_16 (by decide) (fun hc => ?_) (fun hc => ?_)
  · rw [if_pos hc] at hF
    refine lv_aload_n hC.1 hC.2.1 dX8_statement_27 rfl (lv_at hl 1 rfl) ?_
    refine pw_ldcs hC 4 (tx := "fence") (by decide +kernel) dX8_statement_28 ?_
    obtain ⟨q4, e4, hF⟩ := bnd hF
    obtain ⟨fs4, ho4⟩ := OX8_takeWord e4
    refine pw_cVi (rest := []) hC hR lvX8_112 ho4 (CX8_takeWord e4) ⟨rfl, rfl⟩ rfl hl.1 rfl ⟨Nat.le_of_ble_eq_true rfl, Nat.le_of_ble_eq_true rfl⟩ (Nat.le_of_ble_eq_true rfl) dX8_statement_30 ⟨Nat.zero_le _, Nat.zero_le _⟩ (fun H locs hR => ?_)
    refine pw_ifeq hC 44 dX8_statement_33 (by decide) (fun hc => ?_) (fun hc => ?_)
    · rw [if_pos hc] at hF
      refine lv_aload_n hC.1 hC.2.1 dX8_statement_44 rfl (lv_at hl 1 rfl) ?_
      refine pw_ldcs hC 5 (tx := "length") (by decide +kernel) dX8_statement_45 ?_
      obtain ⟨q5, e5, hF⟩ := bnd hF
      obtain ⟨fs5, ho5⟩ := OX8_takeWord e5
      refine pw_cVi (rest := []) hC hR lvX8_112 ho5 (CX8_takeWord e5) ⟨rfl, rfl⟩ rfl hl.1 rfl ⟨Nat.le_of_ble_eq_true rfl, Nat.le_of_ble_eq_true rfl⟩ (Nat.le_of_ble_eq_true rfl) dX8_statement_47 ⟨Nat.zero_le _, Nat.zero_le _⟩ (fun H locs hR => ?_)
      refine pw_ifeq hC 74 dX8_statement_50 (by decide) (fun hc => ?_) (fun hc => ?_)
      · rw [if_pos hc] at hF
        refine lv_aload_n hC.1 hC.2.1 dX8_statement_74 rfl (lv_at hl 1 rfl) ?_
        refine pw_bipush hC dX8_statement_75 rfl ?_
        refine lv_iload_n hC.1 hC.2.1 dX8_statement_77 rfl (lv_at hl 0 rfl) ?_
        obtain ⟨h6, e6, hF⟩ := bnd hF
        obtain ⟨fs6, ho6⟩ := OX8_report e6
        refine pw_cVv (rest := []) hC hR lvX8_84 ho6 (CX8_report e6) ⟨rfl, rfl⟩ rfl hl.1 rfl ⟨Nat.le_of_ble_eq_true rfl, Nat.le_of_ble_eq_true rfl⟩ (Nat.le_of_ble_eq_true rfl) dX8_statement_78 ⟨Nat.zero_le _, Nat.zero_le _⟩ (fun H locs hR => ?_)
        exact BX8_statement_81 hC hR (lv_sub hl [1] rfl) hF
      · rw [if_neg hc] at hF
        refine lv_aload_n hC.1 hC.2.1 dX8_statement_53 rfl (lv_at hl 1 rfl) ?_
        refine pw_iconst hC dX8_statement_54 ?_
        refine lv_iload_n hC.1 hC.2.1 dX8_statement_55 rfl (lv_at hl 0 rfl) ?_
        obtain ⟨h8, e8, hF⟩ := bnd hF
        obtain ⟨fs8, ho8⟩ := OX8_once e8
        refine pw_cVv (rest := []) hC hR lvX8_159 ho8 (CX8_once e8) ⟨rfl, rfl⟩ rfl hl.1 rfl ⟨Nat.le_of_ble_eq_true rfl, Nat.le_of_ble_eq_true rfl⟩ (Nat.le_of_ble_eq_true rfl) dX8_statement_56 ⟨Nat.zero_le _, Nat.zero_le _⟩ (fun H locs hR => ?_)
        refine lv_aload_n hC.1 hC.2.1 dX8_statement_59 rfl (lv_at hl 1 rfl) ?_
        obtain ⟨x9, e9, hF⟩ := bnd hF
        refine pw_gfr hC hR e9 flX8_20 dX8_statement_60 ?_
        refine pw_bipush hC dX8_statement_63 rfl ?_
        refine pw_iconst hC dX8_statement_65 ?_
        obtain ⟨h10, e10, hF⟩ := bnd hF
        refine pw_iast hC hR e10 dX8_statement_66 (fun H locs hR => ?_)
        refine lv_aload_n hC.1 hC.2.1 dX8_statement_67 rfl (lv_at hl 1 rfl) ?_
        obtain ⟨h11, e11, hF⟩ := bnd hF
        obtain ⟨fs11, ho11⟩ := OX8_sumR e11
        refine pw_cVv (rest := []) hC hR lvX8_103 ho11 (CX8_sumR e11) ⟨rfl, rfl⟩ rfl hl.1 rfl ⟨Nat.le_of_ble_eq_true rfl, Nat.le_of_ble_eq_true rfl⟩ (Nat.le_of_ble_eq_true rfl) dX8_statement_68 ⟨Nat.zero_le _, Nat.zero_le _⟩ (fun H locs hR => ?_)
        refine pw_goto hC 81 dX8_statement_71 (by decide) ?_
        exact BX8_statement_81 hC hR (lv_sub hl [1] rfl) hF
    · rw [if_neg hc] at hF
      refine lv_aload_n hC.1 hC.2.1 dX8_statement_36 rfl (lv_at hl 1 rfl) ?_
      refine lv_iload_n hC.1 hC.2.1 dX8_statement_37 rfl (lv_at hl 0 rfl) ?_
      obtain ⟨h12, e12, hF⟩ := bnd hF
      obtain ⟨fs12, ho12⟩ := OX8_readFence e12
      refine pw_cVv (rest := []) hC hR lvX8_155 ho12 (CX8_readFence e12) ⟨rfl, rfl⟩ rfl hl.1 rfl ⟨Nat.le_of_ble_eq_true rfl, Nat.le_of_ble_eq_true rfl⟩ (Nat.le_of_ble_eq_true rfl) dX8_statement_38 ⟨Nat.zero_le _, Nat.zero_le _⟩ (fun H locs hR => ?_)
      refine pw_goto hC 81 dX8_statement_41 (by decide) ?_
      exact BX8_statement_81 hC hR (lv_sub hl [1] rfl) hF
  · rw [if_neg hc] at hF
    refine lv_aload_n hC.1 hC.2.1 dX8_statement_19 rfl (lv_at hl 1 rfl) ?_
    refine lv_iload_n hC.1 hC.2.1 dX8_statement_20 rfl (lv_at hl 0 rfl) ?_
    obtain ⟨h13, e13, hF⟩ := bnd hF
    obtain ⟨fs13, ho13⟩ := OX8_readTask e13
    refine pw_cVv (rest := []) hC hR lvX8_150 ho13 (CX8_readTask e13) ⟨rfl, rfl⟩ rfl hl.1 rfl ⟨Nat.le_of_ble_eq_true rfl, Nat.le_of_ble_eq_true rfl⟩ (Nat.le_of_ble_eq_true rfl) dX8_statement_21 ⟨Nat.zero_le _, Nat.zero_le _⟩ (fun H locs hR => ?_)
    refine pw_goto hC 81 dX8_statement_24 (by decide) ?_
    exact BX8_statement_81 hC hR (lv_sub hl [1] rfl) hF
abbrev rmX8_load : Room := { frames := 54, cells := 0, slots := 0, locals := 1942 }
def LX8_load_69 (v0 : Nat) (v2 : Int) (h : PH) : Option ((Int × PH) ⊕ (PH)) :=
  if w32 v2 < w32 1824 then (
    (gfr h 8 v0 9).bind fun x12 =>
    (ast 0 h x12 v2 0).bind fun h13 =>
    some (.inl ((v2 + 1), h13))
  ) else (
    some (.inr h)
  )
set_option maxHeartbeats 4000000 in
set_option maxRecDepth 100000 in
theorem LRX8_load_69 {v0 : Nat} {Q : State → Prop} (hC : Cx g p s m args meth c cX8_load 3 RX8 (some .int)) : ∀ (n : Nat) (st : Int × PH) (ex : PH), lp (fun st : Int × PH => LX8_load_69 v0 st.1 st.2) n st = some ex → (fun ex : PH => ∀ (H : Heap) (locs : List Loc) (ls : Array Slot), Rl g ad ex s.heap H locs → lv_has ls 3 [(0, .ref (ad v0))] → W p l e rmX8_load s m args below meth c H locs 0 0 Q (F0 m 89 ls [])) ex → ∀ (H : Heap) (locs : List Loc) (ls : Array Slot), Rl g ad st.2 s.heap H locs → lv_has ls 3 [(0, .ref (ad v0)), (2, .int (Int32.ofInt st.1))] → W p l e rmX8_load s m args below meth c H locs 0 0 Q (F0 m 69 ls []) := by
  refine lp_rule (Ph := (fun st : Int × PH => ∀ (H : Heap) (locs : List Loc) (ls : Array Slot), Rl g ad st.2 s.heap H locs → lv_has ls 3 [(0, .ref (ad v0)), (2, .int (Int32.ofInt st.1))] → W p l e rmX8_load s m args below meth c H locs 0 0 Q (F0 m 69 ls []))) (Px := (fun ex : PH => ∀ (H : Heap) (locs : List Loc) (ls : Array Slot), Rl g ad ex s.heap H locs → lv_has ls 3 [(0, .ref (ad v0))] → W p l e rmX8_load s m args below meth c H locs 0 0 Q (F0 m 89 ls []))) ?_
  rintro ⟨v2, h⟩ o hF hK H locs ls hR hl
  have hR : Rl g ad h s.heap H locs := hR
  have hl : lv_has ls 3 [(0, .ref (ad v0)), (2, .int (Int32.ofInt v2))] := hl
  have hF : LX8_load_69 v0 v2 h = some o := hF
  unfold LX8_load_69 at hF
  refine lv_iload_n hC.1 hC.2.1 dX8_load_69 rfl (lv_at hl 1 rfl) ?_
  refine pw_sipush hC dX8_load_70 rfl ?_
  refine pw_icmpge hC 89 dX8_load_73 (by decide) (fun hc => ?_) (fun hc => ?_)
  · rw [if_neg hc] at hF
    cases hF
    exact hK _ _ _ hR (lv_sub hl [0] rfl)
  · rw [if_pos hc] at hF
    refine lv_aload_n hC.1 hC.2.1 dX8_load_76 rfl (lv_at hl 0 rfl) ?_
    obtain ⟨x12, e12, hF⟩ := bnd hF
    refine pw_gfr hC hR e12 flX8_20 dX8_load_77 ?_
    refine lv_iload_n hC.1 hC.2.1 dX8_load_80 rfl (lv_at hl 1 rfl) ?_
    refine pw_iconst hC dX8_load_81 ?_
    obtain ⟨h13, e13, hF⟩ := bnd hF
    refine pw_iast hC hR e13 dX8_load_82 (fun H locs hR => ?_)
    refine pw_iinc (lv' := [(2, .int (Int32.ofInt (v2 + 1))), (0, .ref (ad v0))]) hC hl 1 dX8_load_83 rfl (by decide) rfl (fun ls hl => ?_)
    refine pw_goto hC 69 dX8_load_86 (by decide) ?_
    cases hF
    exact hK _ _ _ hR (lv_sub hl [1, 0] rfl)
def LX8_load_159 (v0 : Nat) (h : PH) : Option ((PH) ⊕ (PH)) :=
  (FX8_isGood h v0).bind fun x28 =>
  if w32 x28 = 0 then (
    some (.inr h)
  ) else (
    (FX8_next h v0).bind fun q29 =>
    if w32 q29.1 = w32 (-1) then (
      some (.inr q29.2)
    ) else (
      (FX8_statement q29.2 v0).bind fun h30 =>
      some (.inl h30)
    )
  )
set_option maxHeartbeats 4000000 in
set_option maxRecDepth 100000 in
theorem LRX8_load_159 {v0 : Nat} {Q : State → Prop} (hC : Cx g p s m args meth c cX8_load 3 RX8 (some .int)) : ∀ (n : Nat) (st : PH) (ex : PH), lp (fun st : PH => LX8_load_159 v0 st) n st = some ex → (fun ex : PH => ∀ (H : Heap) (locs : List Loc) (ls : Array Slot), Rl g ad ex s.heap H locs → lv_has ls 3 [(0, .ref (ad v0))] → W p l e rmX8_load s m args below meth c H locs 0 0 Q (F0 m 181 ls [])) ex → ∀ (H : Heap) (locs : List Loc) (ls : Array Slot), Rl g ad st s.heap H locs → lv_has ls 3 [(0, .ref (ad v0))] → W p l e rmX8_load s m args below meth c H locs 0 0 Q (F0 m 159 ls []) := by
  refine lp_rule (Ph := (fun st : PH => ∀ (H : Heap) (locs : List Loc) (ls : Array Slot), Rl g ad st s.heap H locs → lv_has ls 3 [(0, .ref (ad v0))] → W p l e rmX8_load s m args below meth c H locs 0 0 Q (F0 m 159 ls []))) (Px := (fun ex : PH => ∀ (H : Heap) (locs : List Loc) (ls : Array Slot), Rl g ad ex s.heap H locs → lv_has ls 3 [(0, .ref (ad v0))] → W p l e rmX8_load s m args below meth c H locs 0 0 Q (F0 m 181 ls []))) ?_
  rintro h o hF hK H locs ls hR hl
  have hR : Rl g ad h s.heap H locs := hR
  have hl : lv_has ls 3 [(0, .ref (ad v0))] := hl
  have hF : LX8_load_159 v0 h = some o := hF
  unfold LX8_load_159 at hF
  refine lv_aload_n hC.1 hC.2.1 dX8_load_159 rfl (lv_at hl 0 rfl) ?_
  obtain ⟨x28, e28, hF⟩ := bnd hF
  obtain ⟨fs28, ho28⟩ := OX8_isGood e28
  refine pw_cVi (rest := []) hC hR lvX8_67 ho28 (CX8_isGood e28) ⟨rfl, rfl⟩ rfl hl.1 rfl ⟨Nat.le_of_ble_eq_true rfl, Nat.le_of_ble_eq_true rfl⟩ (Nat.le_of_ble_eq_true rfl) dX8_load_160 ⟨Nat.zero_le _, Nat.zero_le _⟩ (fun H locs hR => ?_)
  refine pw_ifeq hC 181 dX8_load_163 (by decide) (fun hc => ?_) (fun hc => ?_)
  · rw [if_pos hc] at hF
    cases hF
    exact hK _ _ _ hR (lv_sub hl [0] rfl)
  · rw [if_neg hc] at hF
    refine lv_aload_n hC.1 hC.2.1 dX8_load_166 rfl (lv_at hl 0 rfl) ?_
    obtain ⟨q29, e29, hF⟩ := bnd hF
    obtain ⟨fs29, ho29⟩ := OX8_next e29
    refine pw_cVi (rest := []) hC hR lvX8_71 ho29 (CX8_next e29) ⟨rfl, rfl⟩ rfl hl.1 rfl ⟨Nat.le_of_ble_eq_true rfl, Nat.le_of_ble_eq_true rfl⟩ (Nat.le_of_ble_eq_true rfl) dX8_load_167 ⟨Nat.zero_le _, Nat.zero_le _⟩ (fun H locs hR => ?_)
    refine pw_iconst hC dX8_load_170 ?_
    refine pw_icmpeq hC 181 dX8_load_171 (by decide) (fun hc => ?_) (fun hc => ?_)
    · rw [if_pos hc] at hF
      cases hF
      exact hK _ _ _ hR (lv_sub hl [0] rfl)
    · rw [if_neg hc] at hF
      refine lv_aload_n hC.1 hC.2.1 dX8_load_174 rfl (lv_at hl 0 rfl) ?_
      obtain ⟨h30, e30, hF⟩ := bnd hF
      obtain ⟨fs30, ho30⟩ := OX8_statement e30
      refine pw_cVv (rest := []) hC hR lvX8_172 ho30 (CX8_statement e30) ⟨rfl, rfl⟩ rfl hl.1 rfl ⟨Nat.le_of_ble_eq_true rfl, Nat.le_of_ble_eq_true rfl⟩ (Nat.le_of_ble_eq_true rfl) dX8_load_175 ⟨Nat.zero_le _, Nat.zero_le _⟩ (fun H locs hR => ?_)
      refine pw_goto hC 159 dX8_load_178 (by decide) ?_
      cases hF
      exact hK _ _ _ hR (lv_sub hl [0] rfl)
def JX8_load_181 (h : PH) (v0 : Nat) : Option (Int × PH) :=
  (gfi h 8 v0 6).bind fun x32 =>
  (pfi h 8 v0 7 x32).bind fun h33 =>
  (FX8_isGood h33 v0).bind fun x34 =>
  if w32 x34 = 0 then (
    (gfi h33 8 v0 5).bind fun x41 =>
    some (x41, h33)
  ) else (
    (FX8_remember h33 v0).bind fun h35 =>
    (gfr h35 8 v0 9).bind fun x36 =>
    (gfr h35 8 v0 8).bind fun x37 =>
    (FX8_copy h35 x36 x37).bind fun h38 =>
    (gfr h38 8 v0 8).bind fun x39 =>
    (ald 0 h38 x39 3).bind fun x40 =>
    some (x40, h38)
  )
set_option maxHeartbeats 4000000 in
set_option maxRecDepth 100000 in
theorem BX8_load_181 {h : PH} {v0 : Nat} (hC : Cx g p s m args meth c cX8_load 3 RX8 (some .int)) (hR : Rl g ad h s.heap H locs) (hl : lv_has ls 3 [(0, .ref (ad v0))]) {q : Int × PH} (hF : JX8_load_181 h v0 = some q) : W p l e rmX8_load s m args below meth c H locs 0 0 (MQ below (QcN g ad q.2 (some (.int (Int32.ofInt q.1)))) args s 0 0 (gA g)) (F0 m 181 ls []) := by
  unfold JX8_load_181 at hF
  refine lv_aload_n hC.1 hC.2.1 dX8_load_181 rfl (lv_at hl 0 rfl) ?_
  refine lv_aload_n hC.1 hC.2.1 dX8_load_182 rfl (lv_at hl 0 rfl) ?_
  obtain ⟨x32, e32, hF⟩ := bnd hF
  refine pw_gfi hC hR e32 flX8_60 dX8_load_183 ?_
  obtain ⟨h33, e33, hF⟩ := bnd hF
  refine pw_pfi hC hR e33 fpX8_13 (Or.inl rfl) dX8_load_186 (fun H locs hR => ?_)
  refine lv_aload_n hC.1 hC.2.1 dX8_load_189 rfl (lv_at hl 0 rfl) ?_
  obtain ⟨x34, e34, hF⟩ := bnd hF
  obtain ⟨fs34, ho34⟩ := OX8_isGood e34
  refine pw_cVi (rest := []) hC hR lvX8_67 ho34 (CX8_isGood e34) ⟨rfl, rfl⟩ rfl hl.1 rfl ⟨Nat.le_of_ble_eq_true rfl, Nat.le_of_ble_eq_true rfl⟩ (Nat.le_of_ble_eq_true rfl) dX8_load_190 ⟨Nat.zero_le _, Nat.zero_le _⟩ (fun H locs hR => ?_)
  refine pw_ifne hC 201 dX8_load_193 (by decide) (fun hc => ?_) (fun hc => ?_)
  · rw [if_neg hc] at hF
    refine lv_aload_n hC.1 hC.2.1 dX8_load_201 rfl (lv_at hl 0 rfl) ?_
    obtain ⟨h35, e35, hF⟩ := bnd hF
    obtain ⟨fs35, ho35⟩ := OX8_remember e35
    refine pw_cVv (rest := []) hC hR lvX8_175 ho35 (CX8_remember e35) ⟨rfl, rfl⟩ rfl hl.1 rfl ⟨Nat.le_of_ble_eq_true rfl, Nat.le_of_ble_eq_true rfl⟩ (Nat.le_of_ble_eq_true rfl) dX8_load_202 ⟨Nat.zero_le _, Nat.zero_le _⟩ (fun H locs hR => ?_)
    refine lv_aload_n hC.1 hC.2.1 dX8_load_205 rfl (lv_at hl 0 rfl) ?_
    obtain ⟨x36, e36, hF⟩ := bnd hF
    refine pw_gfr hC hR e36 flX8_20 dX8_load_206 ?_
    refine lv_aload_n hC.1 hC.2.1 dX8_load_209 rfl (lv_at hl 0 rfl) ?_
    obtain ⟨x37, e37, hF⟩ := bnd hF
    refine pw_gfr hC hR e37 flX8_17 dX8_load_210 ?_
    obtain ⟨h38, e38, hF⟩ := bnd hF
    refine pw_cSv (rest := []) hC hR lsX8_178 (CX8_copy e38) ⟨rfl, rfl⟩ rfl hl.1 rfl ⟨Nat.le_of_ble_eq_true rfl, Nat.le_of_ble_eq_true rfl⟩ (Nat.le_of_ble_eq_true rfl) dX8_load_213 ⟨Nat.zero_le _, Nat.zero_le _⟩ (fun H locs hR => ?_)
    refine lv_aload_n hC.1 hC.2.1 dX8_load_216 rfl (lv_at hl 0 rfl) ?_
    obtain ⟨x39, e39, hF⟩ := bnd hF
    refine pw_gfr hC hR e39 flX8_17 dX8_load_217 ?_
    refine pw_iconst hC dX8_load_220 ?_
    obtain ⟨x40, e40, hF⟩ := bnd hF
    refine pw_iald hC hR e40 dX8_load_221 ?_
    cases hF
    exact pw_iret hC hR dX8_load_222
  · rw [if_pos hc] at hF
    refine lv_aload_n hC.1 hC.2.1 dX8_load_196 rfl (lv_at hl 0 rfl) ?_
    obtain ⟨x41, e41, hF⟩ := bnd hF
    refine pw_gfi hC hR e41 flX8_57 dX8_load_197 ?_
    cases hF
    exact pw_iret hC hR dX8_load_200
def JX8_load_115 (h : PH) (v0 : Nat) : Option (Int × PH) :=
  (gfr h 8 v0 9).bind fun x18 =>
  (FX8_number h v0 1 4).bind fun q19 =>
  (ast 0 q19.2 x18 0 q19.1).bind fun h20 =>
  (gfr h20 8 v0 9).bind fun x21 =>
  (FX8_number h20 v0 1 8).bind fun q22 =>
  (ast 0 q22.2 x21 1 q22.1).bind fun h23 =>
  (gfr h23 8 v0 9).bind fun x24 =>
  (FX8_number h23 v0 0 20).bind fun q25 =>
  (ast 0 q25.2 x24 2 q25.1).bind fun h26 =>
  (FX8_expect h26 v0 59).bind fun h27 =>
  (lp (fun st : PH => LX8_load_159 v0 st) FU h27).bind fun ex31 =>
  JX8_load_181 ex31 v0
set_option maxHeartbeats 4000000 in
set_option maxRecDepth 100000 in
theorem BX8_load_115 {h : PH} {v0 : Nat} (hC : Cx g p s m args meth c cX8_load 3 RX8 (some .int)) (hR : Rl g ad h s.heap H locs) (hl : lv_has ls 3 [(0, .ref (ad v0))]) {q : Int × PH} (hF : JX8_load_115 h v0 = some q) : W p l e rmX8_load s m args below meth c H locs 0 0 (MQ below (QcN g ad q.2 (some (.int (Int32.ofInt q.1)))) args s 0 0 (gA g)) (F0 m 115 ls []) := by
  unfold JX8_load_115 at hF
  refine lv_aload_n hC.1 hC.2.1 dX8_load_115 rfl (lv_at hl 0 rfl) ?_
  obtain ⟨x18, e18, hF⟩ := bnd hF
  refine pw_gfr hC hR e18 flX8_20 dX8_load_116 ?_
  refine pw_iconst hC dX8_load_119 ?_
  refine lv_aload_n hC.1 hC.2.1 dX8_load_120 rfl (lv_at hl 0 rfl) ?_
  refine pw_iconst hC dX8_load_121 ?_
  refine pw_iconst hC dX8_load_122 ?_
  obtain ⟨q19, e19, hF⟩ := bnd hF
  obtain ⟨fs19, ho19⟩ := OX8_number e19
  refine pw_cVi (rest := [.int (Int32.ofInt 0), .ref (ad x18)]) hC hR lvX8_121 ho19 (CX8_number e19) ⟨rfl, rfl⟩ rfl hl.1 rfl ⟨Nat.le_of_ble_eq_true rfl, Nat.le_of_ble_eq_true rfl⟩ (Nat.le_of_ble_eq_true rfl) dX8_load_123 ⟨Nat.zero_le _, Nat.zero_le _⟩ (fun H locs hR => ?_)
  obtain ⟨h20, e20, hF⟩ := bnd hF
  refine pw_iast hC hR e20 dX8_load_126 (fun H locs hR => ?_)
  refine lv_aload_n hC.1 hC.2.1 dX8_load_127 rfl (lv_at hl 0 rfl) ?_
  obtain ⟨x21, e21, hF⟩ := bnd hF
  refine pw_gfr hC hR e21 flX8_20 dX8_load_128 ?_
  refine pw_iconst hC dX8_load_131 ?_
  refine lv_aload_n hC.1 hC.2.1 dX8_load_132 rfl (lv_at hl 0 rfl) ?_
  refine pw_iconst hC dX8_load_133 ?_
  refine pw_bipush hC dX8_load_134 rfl ?_
  obtain ⟨q22, e22, hF⟩ := bnd hF
  obtain ⟨fs22, ho22⟩ := OX8_number e22
  refine pw_cVi (rest := [.int (Int32.ofInt 1), .ref (ad x21)]) hC hR lvX8_121 ho22 (CX8_number e22) ⟨rfl, rfl⟩ rfl hl.1 rfl ⟨Nat.le_of_ble_eq_true rfl, Nat.le_of_ble_eq_true rfl⟩ (Nat.le_of_ble_eq_true rfl) dX8_load_136 ⟨Nat.zero_le _, Nat.zero_le _⟩ (fun H locs hR => ?_)
  obtain ⟨h23, e23, hF⟩ := bnd hF
  refine pw_iast hC hR e23 dX8_load_139 (fun H locs hR => ?_)
  refine lv_aload_n hC.1 hC.2.1 dX8_load_140 rfl (lv_at hl 0 rfl) ?_
  obtain ⟨x24, e24, hF⟩ := bnd hF
  refine pw_gfr hC hR e24 flX8_20 dX8_load_141 ?_
  refine pw_iconst hC dX8_load_144 ?_
  refine lv_aload_n hC.1 hC.2.1 dX8_load_145 rfl (lv_at hl 0 rfl) ?_
  refine pw_iconst hC dX8_load_146 ?_
  refine pw_bipush hC dX8_load_147 rfl ?_
  obtain ⟨q25, e25, hF⟩ := bnd hF
  obtain ⟨fs25, ho25⟩ := OX8_number e25
  refine pw_cVi (rest := [.int (Int32.ofInt 2), .ref (ad x24)]) hC hR lvX8_121 ho25 (CX8_number e25) ⟨rfl, rfl⟩ rfl hl.1 rfl ⟨Nat.le_of_ble_eq_true rfl, Nat.le_of_ble_eq_true rfl⟩ (Nat.le_of_ble_eq_true rfl) dX8_load_149 ⟨Nat.zero_le _, Nat.zero_le _⟩ (fun H locs hR => ?_)
  obtain ⟨h26, e26, hF⟩ := bnd hF
  refine pw_iast hC hR e26 dX8_load_152 (fun H locs hR => ?_)
  refine lv_aload_n hC.1 hC.2.1 dX8_load_153 rfl (lv_at hl 0 rfl) ?_
  refine pw_bipush hC dX8_load_154 rfl ?_
  obtain ⟨h27, e27, hF⟩ := bnd hF
  obtain ⟨fs27, ho27⟩ := OX8_expect e27
  refine pw_cVv (rest := []) hC hR lvX8_106 ho27 (CX8_expect e27) ⟨rfl, rfl⟩ rfl hl.1 rfl ⟨Nat.le_of_ble_eq_true rfl, Nat.le_of_ble_eq_true rfl⟩ (Nat.le_of_ble_eq_true rfl) dX8_load_156 ⟨Nat.zero_le _, Nat.zero_le _⟩ (fun H locs hR => ?_)
  obtain ⟨ex31, e31, hF⟩ := bnd hF
  refine LRX8_load_159 hC FU _ ex31 e31 ?_ _ _ _ hR (lv_sub hl [0] rfl)
  intro H locs ls hR hl
  exact BX8_load_181 hC hR (lv_sub hl [0] rfl) hF
def JX8_load_23 (h : PH) (v0 : Nat) (v1 : Int) (s0 : Int) (s1 : Nat) : Option (Int × PH) :=
  (FX8_fails h s1 s0 1).bind fun q4 =>
  if w32 q4.1 = 0 then (
    (pfi q4.2 8 v0 2 0).bind fun h5 =>
    (pfi h5 8 v0 3 v1).bind fun h6 =>
    (pfi h6 8 v0 4 0).bind fun h7 =>
    (pfi h7 8 v0 5 0).bind fun h8 =>
    (pfi h8 8 v0 6 (-1)).bind fun h9 =>
    (pfi h9 8 v0 14 0).bind fun h10 =>
    (pfi h10 8 v0 15 0).bind fun h11 =>
    (lp (fun st : Int × PH => LX8_load_69 v0 st.1 st.2) FU (0, h11)).bind fun ex14 =>
    (gfr ex14 8 v0 9).bind fun x15 =>
    (FX8_clearCores ex14 x15).bind fun h16 =>
    (FX8_takeWord h16 v0 0).bind fun q17 =>
    if w32 q17.1 = 0 then (
      (gfi q17.2 8 v0 4).bind fun x42 =>
      (FX8_report q17.2 v0 (-2) x42).bind fun h43 =>
      JX8_load_115 h43 v0
    ) else (
      JX8_load_115 q17.2 v0
    )
  ) else (
    some (0, q4.2)
  )
set_option maxHeartbeats 4000000 in
set_option maxRecDepth 100000 in
theorem BX8_load_23 {h : PH} {v0 : Nat} {v1 : Int} {s0 : Int} {s1 : Nat} (hC : Cx g p s m args meth c cX8_load 3 RX8 (some .int)) (hR : Rl g ad h s.heap H locs) (hl : lv_has ls 3 [(0, .ref (ad v0)), (1, .int (Int32.ofInt v1))]) {q : Int × PH} (hF : JX8_load_23 h v0 v1 s0 s1 = some q) : W p l e rmX8_load s m args below meth c H locs 0 0 (MQ below (QcN g ad q.2 (some (.int (Int32.ofInt q.1)))) args s 0 0 (gA g)) (F0 m 23 ls [.int (Int32.ofInt s0), .ref (ad s1)]) := by
  unfold JX8_load_23 at hF
  refine pw_iconst hC dX8_load_23 ?_
  obtain ⟨q4, e4, hF⟩ := bnd hF
  obtain ⟨fs4, ho4⟩ := OX8_fails e4
  refine pw_cVi (rest := []) hC hR lvX8_162 ho4 (CX8_fails e4) ⟨rfl, rfl⟩ rfl hl.1 rfl ⟨Nat.le_of_ble_eq_true rfl, Nat.le_of_ble_eq_true rfl⟩ (Nat.le_of_ble_eq_true rfl) dX8_load_24 ⟨Nat.zero_le _, Nat.zero_le _⟩ (fun H locs hR => ?_)
  refine pw_ifeq hC 32 dX8_load_27 (by decide) (fun hc => ?_) (fun hc => ?_)
  · rw [if_pos hc] at hF
    refine lv_aload_n hC.1 hC.2.1 dX8_load_32 rfl (lv_at hl 0 rfl) ?_
    refine pw_iconst hC dX8_load_33 ?_
    obtain ⟨h5, e5, hF⟩ := bnd hF
    refine pw_pfi hC hR e5 fpX8_45 (Or.inl rfl) dX8_load_34 (fun H locs hR => ?_)
    refine lv_aload_n hC.1 hC.2.1 dX8_load_37 rfl (lv_at hl 0 rfl) ?_
    refine lv_iload_n hC.1 hC.2.1 dX8_load_38 rfl (lv_at hl 1 rfl) ?_
    obtain ⟨h6, e6, hF⟩ := bnd hF
    refine pw_pfi hC hR e6 fpX8_48 (Or.inl rfl) dX8_load_39 (fun H locs hR => ?_)
    refine lv_aload_n hC.1 hC.2.1 dX8_load_42 rfl (lv_at hl 0 rfl) ?_
    refine pw_iconst hC dX8_load_43 ?_
    obtain ⟨h7, e7, hF⟩ := bnd hF
    refine pw_pfi hC hR e7 fpX8_51 (Or.inl rfl) dX8_load_44 (fun H locs hR => ?_)
    refine lv_aload_n hC.1 hC.2.1 dX8_load_47 rfl (lv_at hl 0 rfl) ?_
    refine pw_iconst hC dX8_load_48 ?_
    obtain ⟨h8, e8, hF⟩ := bnd hF
    refine pw_pfi hC hR e8 fpX8_57 (Or.inl rfl) dX8_load_49 (fun H locs hR => ?_)
    refine lv_aload_n hC.1 hC.2.1 dX8_load_52 rfl (lv_at hl 0 rfl) ?_
    refine pw_iconst hC dX8_load_53 ?_
    obtain ⟨h9, e9, hF⟩ := bnd hF
    refine pw_pfi hC hR e9 fpX8_60 (Or.inl rfl) dX8_load_54 (fun H locs hR => ?_)
    refine lv_aload_n hC.1 hC.2.1 dX8_load_57 rfl (lv_at hl 0 rfl) ?_
    refine pw_iconst hC dX8_load_58 ?_
    obtain ⟨h10, e10, hF⟩ := bnd hF
    refine pw_pfi hC hR e10 fpX8_100 (Or.inl rfl) dX8_load_59 (fun H locs hR => ?_)
    refine lv_aload_n hC.1 hC.2.1 dX8_load_62 rfl (lv_at hl 0 rfl) ?_
    refine pw_iconst hC dX8_load_63 ?_
    obtain ⟨h11, e11, hF⟩ := bnd hF
    refine pw_pfi hC hR e11 fpX8_133 (Or.inl rfl) dX8_load_64 (fun H locs hR => ?_)
    refine pw_iconst hC dX8_load_67 ?_
    refine lv_istore_n (lv' := [(2, .int (Int32.ofInt 0)), (0, .ref (ad v0)), (1, .int (Int32.ofInt v1))]) hC.1 hC.2.1 dX8_load_68 rfl hl (by decide) rfl (fun ls hl => ?_)
    obtain ⟨ex14, e14, hF⟩ := bnd hF
    refine LRX8_load_69 hC FU _ ex14 e14 ?_ _ _ _ hR (lv_sub hl [1, 0] rfl)
    intro H locs ls hR hl
    refine lv_aload_n hC.1 hC.2.1 dX8_load_89 rfl (lv_at hl 0 rfl) ?_
    obtain ⟨x15, e15, hF⟩ := bnd hF
    refine pw_gfr hC hR e15 flX8_20 dX8_load_90 ?_
    obtain ⟨h16, e16, hF⟩ := bnd hF
    refine pw_cSv (rest := []) hC hR lsX8_166 (CX8_clearCores e16) ⟨rfl, rfl⟩ rfl hl.1 rfl ⟨Nat.le_of_ble_eq_true rfl, Nat.le_of_ble_eq_true rfl⟩ (Nat.le_of_ble_eq_true rfl) dX8_load_93 ⟨Nat.zero_le _, Nat.zero_le _⟩ (fun H locs hR => ?_)
    refine lv_aload_n hC.1 hC.2.1 dX8_load_96 rfl (lv_at hl 0 rfl) ?_
    refine pw_ldcs hC 0 (tx := "queue") (by decide +kernel) dX8_load_97 ?_
    obtain ⟨q17, e17, hF⟩ := bnd hF
    obtain ⟨fs17, ho17⟩ := OX8_takeWord e17
    refine pw_cVi (rest := []) hC hR lvX8_112 ho17 (CX8_takeWord e17) ⟨rfl, rfl⟩ rfl hl.1 rfl ⟨Nat.le_of_ble_eq_true rfl, Nat.le_of_ble_eq_true rfl⟩ (Nat.le_of_ble_eq_true rfl) dX8_load_99 ⟨Nat.zero_le _, Nat.zero_le _⟩ (fun H locs hR => ?_)
    refine pw_ifne hC 115 dX8_load_102 (by decide) (fun hc => ?_) (fun hc => ?_)
    · rw [if_neg hc] at hF
      exact BX8_load_115 hC hR (lv_sub hl [0] rfl) hF
    · rw [if_pos hc] at hF
      refine lv_aload_n hC.1 hC.2.1 dX8_load_105 rfl (lv_at hl 0 rfl) ?_
      refine pw_bipush hC dX8_load_106 rfl ?_
      refine lv_aload_n hC.1 hC.2.1 dX8_load_108 rfl (lv_at hl 0 rfl) ?_
      obtain ⟨x42, e42, hF⟩ := bnd hF
      refine pw_gfi hC hR e42 flX8_51 dX8_load_109 ?_
      obtain ⟨h43, e43, hF⟩ := bnd hF
      obtain ⟨fs43, ho43⟩ := OX8_report e43
      refine pw_cVv (rest := []) hC hR lvX8_84 ho43 (CX8_report e43) ⟨rfl, rfl⟩ rfl hl.1 rfl ⟨Nat.le_of_ble_eq_true rfl, Nat.le_of_ble_eq_true rfl⟩ (Nat.le_of_ble_eq_true rfl) dX8_load_112 ⟨Nat.zero_le _, Nat.zero_le _⟩ (fun H locs hR => ?_)
      exact BX8_load_115 hC hR (lv_sub hl [0] rfl) hF
  · rw [if_neg hc] at hF
    refine pw_iconst hC dX8_load_30 ?_
    cases hF
    exact pw_iret hC hR dX8_load_31
def FX8_load (h : PH) (v0 : Nat) (v1 : Int) : Option (Int × PH) :=
  (isO h 8 v0).bind fun _ =>
  (pfi h 8 v0 0 0).bind fun h1 =>
  (gfi h1 8 v0 2).bind fun x2 =>
  (FX8_in h1 v1 0 x2).bind fun x3 =>
  if w32 x3 = 0 then (
    JX8_load_23 h1 v0 v1 1 v0
  ) else (
    JX8_load_23 h1 v0 v1 0 v0
  )
theorem OX8_load {h : PH} {v0 : Nat} {v1 : Int} {q : Int × PH} (hF : FX8_load h v0 v1 = some q) : ∃ fs : List PV, h[v0]? = some (.inr (8, fs)) := by
  unfold FX8_load at hF
  obtain ⟨u0, e0, -⟩ := bnd hF
  exact isO_spec e0
set_option maxHeartbeats 4000000 in
set_option maxRecDepth 100000 in
theorem CX8_load {g : GP} {l : Launch} {ad : Nat → Nat} {h : PH} {v0 : Nat} {v1 : Int} {q : Int × PH} (hF : FX8_load h v0 v1 = some q) : CN g l yX8_load cX8_load 3 (some .int) rmX8_load ad h [.ref (ad v0), .int (Int32.ofInt v1)] (some (.int (Int32.ofInt q.1))) q.2 := by
  refine pw_met (by decide) (Nat.le_of_ble_eq_true rfl) ?_
  intro p e s m args below meth c ls hC hN hR hl
  have hl : lv_has ls 3 [(0, .ref (ad v0)), (1, .int (Int32.ofInt v1))] := hl
  unfold FX8_load at hF
  obtain ⟨u0, e0, hF⟩ := bnd hF
  refine lv_aload_n hC.1 hC.2.1 dX8_load_0 rfl (lv_at hl 0 rfl) ?_
  refine pw_iconst hC dX8_load_1 ?_
  obtain ⟨h1, e1, hF⟩ := bnd hF
  refine pw_pfi hC hR e1 fpX8_38 (Or.inl rfl) dX8_load_2 (fun H locs hR => ?_)
  refine lv_aload_n hC.1 hC.2.1 dX8_load_5 rfl (lv_at hl 0 rfl) ?_
  refine lv_iload_n hC.1 hC.2.1 dX8_load_6 rfl (lv_at hl 1 rfl) ?_
  refine pw_iconst hC dX8_load_7 ?_
  refine lv_aload_n hC.1 hC.2.1 dX8_load_8 rfl (lv_at hl 0 rfl) ?_
  obtain ⟨x2, e2, hF⟩ := bnd hF
  refine pw_gfi hC hR e2 flX8_45 dX8_load_9 ?_
  obtain ⟨x3, e3, hF⟩ := bnd hF
  refine pw_cSi (rest := [.ref (ad v0)]) hC hR lsX8_63 (CX8_in e3) ⟨rfl, rfl⟩ rfl hl.1 rfl ⟨Nat.le_of_ble_eq_true rfl, Nat.le_of_ble_eq_true rfl⟩ (Nat.le_of_ble_eq_true rfl) dX8_load_12 ⟨Nat.zero_le _, Nat.zero_le _⟩ (fun H locs hR => ?_)
  refine pw_ifne hC 22 dX8_load_15 (by decide) (fun hc => ?_) (fun hc => ?_)
  · rw [if_neg hc] at hF
    refine pw_iconst hC dX8_load_22 ?_
    exact BX8_load_23 hC hR (lv_sub hl [0, 1] rfl) hF
  · rw [if_pos hc] at hF
    refine pw_iconst hC dX8_load_18 ?_
    refine pw_goto hC 23 dX8_load_19 (by decide) ?_
    exact BX8_load_23 hC hR (lv_sub hl [0, 1] rfl) hF
end
