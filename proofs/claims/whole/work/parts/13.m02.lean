section
variable {p : Program} {l : Launch} {e : Env} {s : State} {m : MethodId} {args : Array Value} {below : List Frame} {meth : Method} {c : Code} {H : Heap} {locs : List Loc} {ls : Array Slot} {g : GP} {ad : Nat → Nat}
abbrev rmX3_startTask : Room := { frames := 3, cells := 0, slots := 0, locals := 77 }
def JX3_startTask_188 (h : PH) : Option (PH) :=
  some h
set_option maxHeartbeats 4000000 in
set_option maxRecDepth 100000 in
theorem BX3_startTask_188 {h : PH} (hC : Cx g p s m args meth c cX3_startTask 6 RX3 none) (hR : Rl g ad h s.heap H locs) (hl : lv_has ls 6 []) {q : PH} (hF : JX3_startTask_188 h  = some q) : W p l e rmX3_startTask s m args below meth c H locs 0 0 (MQ below (QcN g ad q none) args s 0 0 (gA g)) (F0 m 188 ls []) := by
  unfold JX3_startTask_188 at hF
  cases hF
  exact pw_vret hC hR dX3_startTask_188
def JX3_startTask_58 (h : PH) (v0 : Nat) (v1 : Int) (v2 : Int) (s0 : Int) (s1 : Int) (s2 : Nat) : Option (PH) :=
  (FX0_takeAt h s2 s1 s0).bind fun q5 =>
  if w32 q5.1 < 0 then (
    some q5.2
  ) else (
    (gfr q5.2 3 v0 2).bind fun x6 =>
    (gfr q5.2 3 v0 0).bind fun x7 =>
    (gfr q5.2 6 x7 3).bind fun x8 =>
    (ald 0 q5.2 x8 q5.1).bind fun x9 =>
    (gfr q5.2 3 v0 0).bind fun x10 =>
    (gfr q5.2 6 x10 4).bind fun x11 =>
    (ald 0 q5.2 x11 q5.1).bind fun x12 =>
    (gfr q5.2 3 v0 1).bind fun x13 =>
    (gfr q5.2 0 x13 4).bind fun x14 =>
    (ald 0 q5.2 x14 v1).bind fun x15 =>
    (FX1_lengthFor q5.2 x6 x9 x12 v1 x15).bind fun q16 =>
    (gfr q16.2 3 v0 0).bind fun x17 =>
    (gfr q16.2 6 x17 2).bind fun x18 =>
    (ast 0 q16.2 x18 q5.1 3).bind fun h19 =>
    (gfr h19 3 v0 0).bind fun x20 =>
    (gfr h19 6 x20 7).bind fun x21 =>
    (ast 0 h19 x21 q5.1 v1).bind fun h22 =>
    (gfr h22 3 v0 1).bind fun x23 =>
    (gfr h22 0 x23 5).bind fun x24 =>
    (ast 0 h22 x24 v1 q5.1).bind fun h25 =>
    (gfr h25 3 v0 1).bind fun x26 =>
    (gfr h25 0 x26 6).bind fun x27 =>
    (ast 0 h25 x27 v1 q16.1).bind fun h28 =>
    if w32 v2 = 0 then (
      JX3_startTask_188 h28
    ) else (
      (gfr h28 3 v0 1).bind fun x29 =>
      (gfr h28 0 x29 6).bind fun x30 =>
      (ald 0 h28 x30 v1).bind fun x31 =>
      (gfr h28 3 v0 1).bind fun x32 =>
      (gfi h28 0 x32 2).bind fun x33 =>
      (ast 0 h28 x30 v1 (x31 + x33)).bind fun h34 =>
      (gfr h34 3 v0 1).bind fun x35 =>
      (gfr h34 0 x35 8).bind fun x36 =>
      (ald 0 h34 x36 v1).bind fun x37 =>
      (ast 0 h34 x36 v1 (x37 + 1)).bind fun h38 =>
      JX3_startTask_188 h38
    )
  )
set_option maxHeartbeats 4000000 in
set_option maxRecDepth 100000 in
theorem BX3_startTask_58 {h : PH} {v0 : Nat} {v1 : Int} {v2 : Int} {s0 : Int} {s1 : Int} {s2 : Nat} (hC : Cx g p s m args meth c cX3_startTask 6 RX3 none) (hR : Rl g ad h s.heap H locs) (hl : lv_has ls 6 [(0, .ref (ad v0)), (1, .int (Int32.ofInt v1)), (2, .int (Int32.ofInt v2))]) {q : PH} (hF : JX3_startTask_58 h v0 v1 v2 s0 s1 s2 = some q) : W p l e rmX3_startTask s m args below meth c H locs 0 0 (MQ below (QcN g ad q none) args s 0 0 (gA g)) (F0 m 58 ls [.int (Int32.ofInt s0), .int (Int32.ofInt s1), .ref (ad s2)]) := by
  unfold JX3_startTask_58 at hF
  obtain ⟨q5, e5, hF⟩ := bnd hF
  obtain ⟨fs5, ho5⟩ := OX0_takeAt e5
  refine pw_cVi (rest := []) hC hR lvX3_115 ho5 (CX0_takeAt e5) ⟨rfl, rfl⟩ rfl hl.1 rfl ⟨Nat.le_of_ble_eq_true rfl, Nat.le_of_ble_eq_true rfl⟩ (Nat.le_of_ble_eq_true rfl) dX3_startTask_58 ⟨Nat.zero_le _, Nat.zero_le _⟩ (fun H locs hR => ?_)
  refine lv_istore (lv' := [(4, .int (Int32.ofInt q5.1)), (0, .ref (ad v0)), (1, .int (Int32.ofInt v1)), (2, .int (Int32.ofInt v2))]) hC.1 hC.2.1 dX3_startTask_61 hl (by decide) rfl (fun ls hl => ?_)
  refine lv_iload hC.1 hC.2.1 dX3_startTask_63 (lv_at hl 0 rfl) ?_
  refine pw_ifge hC 69 dX3_startTask_65 (by decide) (fun hc => ?_) (fun hc => ?_)
  · rw [if_neg hc] at hF
    refine lv_aload_n hC.1 hC.2.1 dX3_startTask_69 rfl (lv_at hl 1 rfl) ?_
    obtain ⟨x6, e6, hF⟩ := bnd hF
    refine pw_gfr hC hR e6 flX3_30 dX3_startTask_70 ?_
    refine lv_aload_n hC.1 hC.2.1 dX3_startTask_73 rfl (lv_at hl 1 rfl) ?_
    obtain ⟨x7, e7, hF⟩ := bnd hF
    refine pw_gfr hC hR e7 flX3_12 dX3_startTask_74 ?_
    obtain ⟨x8, e8, hF⟩ := bnd hF
    refine pw_gfr hC hR e8 flX3_119 dX3_startTask_77 ?_
    refine lv_iload hC.1 hC.2.1 dX3_startTask_80 (lv_at hl 0 rfl) ?_
    obtain ⟨x9, e9, hF⟩ := bnd hF
    refine pw_iald hC hR e9 dX3_startTask_82 ?_
    refine lv_aload_n hC.1 hC.2.1 dX3_startTask_83 rfl (lv_at hl 1 rfl) ?_
    obtain ⟨x10, e10, hF⟩ := bnd hF
    refine pw_gfr hC hR e10 flX3_12 dX3_startTask_84 ?_
    obtain ⟨x11, e11, hF⟩ := bnd hF
    refine pw_gfr hC hR e11 flX3_122 dX3_startTask_87 ?_
    refine lv_iload hC.1 hC.2.1 dX3_startTask_90 (lv_at hl 0 rfl) ?_
    obtain ⟨x12, e12, hF⟩ := bnd hF
    refine pw_iald hC hR e12 dX3_startTask_92 ?_
    refine lv_iload_n hC.1 hC.2.1 dX3_startTask_93 rfl (lv_at hl 2 rfl) ?_
    refine lv_aload_n hC.1 hC.2.1 dX3_startTask_94 rfl (lv_at hl 1 rfl) ?_
    obtain ⟨x13, e13, hF⟩ := bnd hF
    refine pw_gfr hC hR e13 flX3_21 dX3_startTask_95 ?_
    obtain ⟨x14, e14, hF⟩ := bnd hF
    refine pw_gfr hC hR e14 flX3_109 dX3_startTask_98 ?_
    refine lv_iload_n hC.1 hC.2.1 dX3_startTask_101 rfl (lv_at hl 2 rfl) ?_
    obtain ⟨x15, e15, hF⟩ := bnd hF
    refine pw_iald hC hR e15 dX3_startTask_102 ?_
    obtain ⟨q16, e16, hF⟩ := bnd hF
    obtain ⟨fs16, ho16⟩ := OX1_lengthFor e16
    refine pw_cVi (rest := []) hC hR lvX3_125 ho16 (CX1_lengthFor e16) ⟨rfl, rfl⟩ rfl hl.1 rfl ⟨Nat.le_of_ble_eq_true rfl, Nat.le_of_ble_eq_true rfl⟩ (Nat.le_of_ble_eq_true rfl) dX3_startTask_103 ⟨Nat.zero_le _, Nat.zero_le _⟩ (fun H locs hR => ?_)
    refine lv_istore (lv' := [(5, .int (Int32.ofInt q16.1)), (4, .int (Int32.ofInt q5.1)), (0, .ref (ad v0)), (1, .int (Int32.ofInt v1)), (2, .int (Int32.ofInt v2))]) hC.1 hC.2.1 dX3_startTask_106 hl (by decide) rfl (fun ls hl => ?_)
    refine lv_aload_n hC.1 hC.2.1 dX3_startTask_108 rfl (lv_at hl 2 rfl) ?_
    obtain ⟨x17, e17, hF⟩ := bnd hF
    refine pw_gfr hC hR e17 flX3_12 dX3_startTask_109 ?_
    obtain ⟨x18, e18, hF⟩ := bnd hF
    refine pw_gfr hC hR e18 flX3_82 dX3_startTask_112 ?_
    refine lv_iload hC.1 hC.2.1 dX3_startTask_115 (lv_at hl 1 rfl) ?_
    refine pw_iconst hC dX3_startTask_117 ?_
    obtain ⟨h19, e19, hF⟩ := bnd hF
    refine pw_iast hC hR e19 dX3_startTask_118 (fun H locs hR => ?_)
    refine lv_aload_n hC.1 hC.2.1 dX3_startTask_119 rfl (lv_at hl 2 rfl) ?_
    obtain ⟨x20, e20, hF⟩ := bnd hF
    refine pw_gfr hC hR e20 flX3_12 dX3_startTask_120 ?_
    obtain ⟨x21, e21, hF⟩ := bnd hF
    refine pw_gfr hC hR e21 flX3_129 dX3_startTask_123 ?_
    refine lv_iload hC.1 hC.2.1 dX3_startTask_126 (lv_at hl 1 rfl) ?_
    refine lv_iload_n hC.1 hC.2.1 dX3_startTask_128 rfl (lv_at hl 3 rfl) ?_
    obtain ⟨h22, e22, hF⟩ := bnd hF
    refine pw_iast hC hR e22 dX3_startTask_129 (fun H locs hR => ?_)
    refine lv_aload_n hC.1 hC.2.1 dX3_startTask_130 rfl (lv_at hl 2 rfl) ?_
    obtain ⟨x23, e23, hF⟩ := bnd hF
    refine pw_gfr hC hR e23 flX3_21 dX3_startTask_131 ?_
    obtain ⟨x24, e24, hF⟩ := bnd hF
    refine pw_gfr hC hR e24 flX3_75 dX3_startTask_134 ?_
    refine lv_iload_n hC.1 hC.2.1 dX3_startTask_137 rfl (lv_at hl 3 rfl) ?_
    refine lv_iload hC.1 hC.2.1 dX3_startTask_138 (lv_at hl 1 rfl) ?_
    obtain ⟨h25, e25, hF⟩ := bnd hF
    refine pw_iast hC hR e25 dX3_startTask_140 (fun H locs hR => ?_)
    refine lv_aload_n hC.1 hC.2.1 dX3_startTask_141 rfl (lv_at hl 2 rfl) ?_
    obtain ⟨x26, e26, hF⟩ := bnd hF
    refine pw_gfr hC hR e26 flX3_21 dX3_startTask_142 ?_
    obtain ⟨x27, e27, hF⟩ := bnd hF
    refine pw_gfr hC hR e27 flX3_79 dX3_startTask_145 ?_
    refine lv_iload_n hC.1 hC.2.1 dX3_startTask_148 rfl (lv_at hl 3 rfl) ?_
    refine lv_iload hC.1 hC.2.1 dX3_startTask_149 (lv_at hl 0 rfl) ?_
    obtain ⟨h28, e28, hF⟩ := bnd hF
    refine pw_iast hC hR e28 dX3_startTask_151 (fun H locs hR => ?_)
    refine lv_iload_n hC.1 hC.2.1 dX3_startTask_152 rfl (lv_at hl 4 rfl) ?_
    refine pw_ifeq hC 188 dX3_startTask_153 (by decide) (fun hc => ?_) (fun hc => ?_)
    · rw [if_pos hc] at hF
      exact BX3_startTask_188 hC hR (lv_sub hl [] rfl) hF
    · rw [if_neg hc] at hF
      refine lv_aload_n hC.1 hC.2.1 dX3_startTask_156 rfl (lv_at hl 2 rfl) ?_
      obtain ⟨x29, e29, hF⟩ := bnd hF
      refine pw_gfr hC hR e29 flX3_21 dX3_startTask_157 ?_
      obtain ⟨x30, e30, hF⟩ := bnd hF
      refine pw_gfr hC hR e30 flX3_79 dX3_startTask_160 ?_
      refine lv_iload_n hC.1 hC.2.1 dX3_startTask_163 rfl (lv_at hl 3 rfl) ?_
      refine lv_dup2_11 hC.1 hC.2.1 dX3_startTask_164 rfl rfl ?_
      obtain ⟨x31, e31, hF⟩ := bnd hF
      refine pw_iald hC hR e31 dX3_startTask_165 ?_
      refine lv_aload_n hC.1 hC.2.1 dX3_startTask_166 rfl (lv_at hl 2 rfl) ?_
      obtain ⟨x32, e32, hF⟩ := bnd hF
      refine pw_gfr hC hR e32 flX3_21 dX3_startTask_167 ?_
      obtain ⟨x33, e33, hF⟩ := bnd hF
      refine pw_gfi hC hR e33 flX3_132 dX3_startTask_170 ?_
      refine pw_iadd hC dX3_startTask_173 ?_
      obtain ⟨h34, e34, hF⟩ := bnd hF
      refine pw_iast hC hR e34 dX3_startTask_174 (fun H locs hR => ?_)
      refine lv_aload_n hC.1 hC.2.1 dX3_startTask_175 rfl (lv_at hl 2 rfl) ?_
      obtain ⟨x35, e35, hF⟩ := bnd hF
      refine pw_gfr hC hR e35 flX3_21 dX3_startTask_176 ?_
      obtain ⟨x36, e36, hF⟩ := bnd hF
      refine pw_gfr hC hR e36 flX3_135 dX3_startTask_179 ?_
      refine lv_iload_n hC.1 hC.2.1 dX3_startTask_182 rfl (lv_at hl 3 rfl) ?_
      refine lv_dup2_11 hC.1 hC.2.1 dX3_startTask_183 rfl rfl ?_
      obtain ⟨x37, e37, hF⟩ := bnd hF
      refine pw_iald hC hR e37 dX3_startTask_184 ?_
      refine pw_iconst hC dX3_startTask_185 ?_
      refine pw_iadd hC dX3_startTask_186 ?_
      obtain ⟨h38, e38, hF⟩ := bnd hF
      refine pw_iast hC hR e38 dX3_startTask_187 (fun H locs hR => ?_)
      exact BX3_startTask_188 hC hR (lv_sub hl [] rfl) hF
  · rw [if_pos hc] at hF
    cases hF
    exact pw_vret hC hR dX3_startTask_68
def JX3_startTask_33 (h : PH) (v0 : Nat) (v1 : Int) (v2 : Int) (s0 : Int) : Option (PH) :=
  (gfr h 3 v0 1).bind fun x4 =>
  if w32 v2 = 0 then (
    JX3_startTask_58 h v0 v1 v2 0 s0 x4
  ) else (
    (gfr h 3 v0 1).bind fun x39 =>
    (gfr h 0 x39 4).bind fun x40 =>
    (ald 0 h x40 s0).bind fun x41 =>
    JX3_startTask_58 h v0 v1 v2 (x41 - 1) s0 x4
  )
set_option maxHeartbeats 4000000 in
set_option maxRecDepth 100000 in
theorem BX3_startTask_33 {h : PH} {v0 : Nat} {v1 : Int} {v2 : Int} {s0 : Int} (hC : Cx g p s m args meth c cX3_startTask 6 RX3 none) (hR : Rl g ad h s.heap H locs) (hl : lv_has ls 6 [(0, .ref (ad v0)), (1, .int (Int32.ofInt v1)), (2, .int (Int32.ofInt v2))]) {q : PH} (hF : JX3_startTask_33 h v0 v1 v2 s0 = some q) : W p l e rmX3_startTask s m args below meth c H locs 0 0 (MQ below (QcN g ad q none) args s 0 0 (gA g)) (F0 m 33 ls [.int (Int32.ofInt s0)]) := by
  unfold JX3_startTask_33 at hF
  refine lv_istore_n (lv' := [(3, .int (Int32.ofInt s0)), (0, .ref (ad v0)), (1, .int (Int32.ofInt v1)), (2, .int (Int32.ofInt v2))]) hC.1 hC.2.1 dX3_startTask_33 rfl hl (by decide) rfl (fun ls hl => ?_)
  refine lv_aload_n hC.1 hC.2.1 dX3_startTask_34 rfl (lv_at hl 1 rfl) ?_
  obtain ⟨x4, e4, hF⟩ := bnd hF
  refine pw_gfr hC hR e4 flX3_21 dX3_startTask_35 ?_
  refine lv_iload_n hC.1 hC.2.1 dX3_startTask_38 rfl (lv_at hl 0 rfl) ?_
  refine lv_iload_n hC.1 hC.2.1 dX3_startTask_39 rfl (lv_at hl 3 rfl) ?_
  refine pw_ifeq hC 57 dX3_startTask_40 (by decide) (fun hc => ?_) (fun hc => ?_)
  · rw [if_pos hc] at hF
    refine pw_iconst hC dX3_startTask_57 ?_
    exact BX3_startTask_58 hC hR (lv_sub hl [1, 2, 3] rfl) hF
  · rw [if_neg hc] at hF
    refine lv_aload_n hC.1 hC.2.1 dX3_startTask_43 rfl (lv_at hl 1 rfl) ?_
    obtain ⟨x39, e39, hF⟩ := bnd hF
    refine pw_gfr hC hR e39 flX3_21 dX3_startTask_44 ?_
    obtain ⟨x40, e40, hF⟩ := bnd hF
    refine pw_gfr hC hR e40 flX3_109 dX3_startTask_47 ?_
    refine lv_iload_n hC.1 hC.2.1 dX3_startTask_50 rfl (lv_at hl 0 rfl) ?_
    obtain ⟨x41, e41, hF⟩ := bnd hF
    refine pw_iald hC hR e41 dX3_startTask_51 ?_
    refine pw_iconst hC dX3_startTask_52 ?_
    refine pw_isub hC dX3_startTask_53 ?_
    refine pw_goto hC 58 dX3_startTask_54 (by decide) ?_
    exact BX3_startTask_58 hC hR (lv_sub hl [1, 2, 3] rfl) hF
def JX3_startTask_17 (h : PH) (v0 : Nat) (v1 : Int) (s0 : Int) : Option (PH) :=
  if w32 s0 = 0 then (
    JX3_startTask_33 h v0 v1 s0 v1
  ) else (
    (gfr h 3 v0 1).bind fun x42 =>
    (FX0_longestQueue h x42).bind fun x43 =>
    JX3_startTask_33 h v0 v1 s0 x43
  )
set_option maxHeartbeats 4000000 in
set_option maxRecDepth 100000 in
theorem BX3_startTask_17 {h : PH} {v0 : Nat} {v1 : Int} {s0 : Int} (hC : Cx g p s m args meth c cX3_startTask 6 RX3 none) (hR : Rl g ad h s.heap H locs) (hl : lv_has ls 6 [(0, .ref (ad v0)), (1, .int (Int32.ofInt v1))]) {q : PH} (hF : JX3_startTask_17 h v0 v1 s0 = some q) : W p l e rmX3_startTask s m args below meth c H locs 0 0 (MQ below (QcN g ad q none) args s 0 0 (gA g)) (F0 m 17 ls [.int (Int32.ofInt s0)]) := by
  unfold JX3_startTask_17 at hF
  refine lv_istore_n (lv' := [(2, .int (Int32.ofInt s0)), (0, .ref (ad v0)), (1, .int (Int32.ofInt v1))]) hC.1 hC.2.1 dX3_startTask_17 rfl hl (by decide) rfl (fun ls hl => ?_)
  refine lv_iload_n hC.1 hC.2.1 dX3_startTask_18 rfl (lv_at hl 0 rfl) ?_
  refine pw_ifeq hC 32 dX3_startTask_19 (by decide) (fun hc => ?_) (fun hc => ?_)
  · rw [if_pos hc] at hF
    refine lv_iload_n hC.1 hC.2.1 dX3_startTask_32 rfl (lv_at hl 2 rfl) ?_
    exact BX3_startTask_33 hC hR (lv_sub hl [1, 2, 0] rfl) hF
  · rw [if_neg hc] at hF
    refine lv_aload_n hC.1 hC.2.1 dX3_startTask_22 rfl (lv_at hl 1 rfl) ?_
    obtain ⟨x42, e42, hF⟩ := bnd hF
    refine pw_gfr hC hR e42 flX3_21 dX3_startTask_23 ?_
    obtain ⟨x43, e43, hF⟩ := bnd hF
    obtain ⟨fs43, ho43⟩ := OX0_longestQueue e43
    refine pw_cVi (rest := []) hC hR lvX3_112 ho43 (CX0_longestQueue e43) ⟨rfl, rfl⟩ rfl hl.1 rfl ⟨Nat.le_of_ble_eq_true rfl, Nat.le_of_ble_eq_true rfl⟩ (Nat.le_of_ble_eq_true rfl) dX3_startTask_26 ⟨Nat.zero_le _, Nat.zero_le _⟩ (fun H locs hR => ?_)
    refine pw_goto hC 33 dX3_startTask_29 (by decide) ?_
    exact BX3_startTask_33 hC hR (lv_sub hl [1, 2, 0] rfl) hF
def FX3_startTask (h : PH) (v0 : Nat) (v1 : Int) : Option (PH) :=
  (isO h 3 v0).bind fun _ =>
  (gfr h 3 v0 1).bind fun x1 =>
  (gfr h 0 x1 4).bind fun x2 =>
  (ald 0 h x2 v1).bind fun x3 =>
  if w32 x3 = 0 then (
    JX3_startTask_17 h v0 v1 1
  ) else (
    JX3_startTask_17 h v0 v1 0
  )
theorem OX3_startTask {h : PH} {v0 : Nat} {v1 : Int} {q : PH} (hF : FX3_startTask h v0 v1 = some q) : ∃ fs : List PV, h[v0]? = some (.inr (3, fs)) := by
  unfold FX3_startTask at hF
  obtain ⟨u0, e0, -⟩ := bnd hF
  exact isO_spec e0
set_option maxHeartbeats 4000000 in
set_option maxRecDepth 100000 in
theorem CX3_startTask {g : GP} {l : Launch} {ad : Nat → Nat} {h : PH} {v0 : Nat} {v1 : Int} {q : PH} (hF : FX3_startTask h v0 v1 = some q) : CN g l yX3_startTask cX3_startTask 6 none rmX3_startTask ad h [.ref (ad v0), .int (Int32.ofInt v1)] none q := by
  refine pw_met (by decide) (Nat.le_of_ble_eq_true rfl) ?_
  intro p e s m args below meth c ls hC hN hR hl
  have hl : lv_has ls 6 [(0, .ref (ad v0)), (1, .int (Int32.ofInt v1))] := hl
  unfold FX3_startTask at hF
  obtain ⟨u0, e0, hF⟩ := bnd hF
  refine lv_aload_n hC.1 hC.2.1 dX3_startTask_0 rfl (lv_at hl 0 rfl) ?_
  obtain ⟨x1, e1, hF⟩ := bnd hF
  refine pw_gfr hC hR e1 flX3_21 dX3_startTask_1 ?_
  obtain ⟨x2, e2, hF⟩ := bnd hF
  refine pw_gfr hC hR e2 flX3_109 dX3_startTask_4 ?_
  refine lv_iload_n hC.1 hC.2.1 dX3_startTask_7 rfl (lv_at hl 1 rfl) ?_
  obtain ⟨x3, e3, hF⟩ := bnd hF
  refine pw_iald hC hR e3 dX3_startTask_8 ?_
  refine pw_ifne hC 16 dX3_startTask_9 (by decide) (fun hc => ?_) (fun hc => ?_)
  · rw [if_neg hc] at hF
    refine pw_iconst hC dX3_startTask_16 ?_
    exact BX3_startTask_17 hC hR (lv_sub hl [0, 1] rfl) hF
  · rw [if_pos hc] at hF
    refine pw_iconst hC dX3_startTask_12 ?_
    refine pw_goto hC 17 dX3_startTask_13 (by decide) ?_
    exact BX3_startTask_17 hC hR (lv_sub hl [0, 1] rfl) hF
abbrev rmX3_startTasks : Room := { frames := 4, cells := 0, slots := 0, locals := 102 }
def JX3_startTasks_42 (h : PH) (v0 : Nat) (v1 : Int) : Option ((Int × PH) ⊕ (PH)) :=
  some (.inl ((v1 + 1), h))
set_option maxHeartbeats 4000000 in
set_option maxRecDepth 100000 in
theorem BX3_startTasks_42 {h : PH} {v0 : Nat} {v1 : Int} (hC : Cx g p s m args meth c cX3_startTasks 2 RX3 none) (hR : Rl g ad h s.heap H locs) (hl : lv_has ls 2 [(0, .ref (ad v0)), (1, .int (Int32.ofInt v1))]) {Q : State → Prop} {o : (Int × PH) ⊕ (PH)} (hF : JX3_startTasks_42 h v0 v1 = some o) (hK : Sum.elim (fun st : Int × PH => ∀ (H : Heap) (locs : List Loc) (ls : Array Slot), Rl g ad st.2 s.heap H locs → lv_has ls 2 [(0, .ref (ad v0)), (1, .int (Int32.ofInt st.1))] → W p l e rmX3_startTasks s m args below meth c H locs 0 0 Q (F0 m 2 ls [])) (fun ex : PH => ∀ (H : Heap) (locs : List Loc) (ls : Array Slot), Rl g ad ex s.heap H locs → lv_has ls 2 [] → W p l e rmX3_startTasks s m args below meth c H locs 0 0 Q (F0 m 48 ls [])) o) : W p l e rmX3_startTasks s m args below meth c H locs 0 0 Q (F0 m 42 ls []) := by
  unfold JX3_startTasks_42 at hF
  refine pw_iinc (lv' := [(1, .int (Int32.ofInt (v1 + 1))), (0, .ref (ad v0))]) hC hl 1 dX3_startTasks_42 rfl (by decide) rfl (fun ls hl => ?_)
  refine pw_goto hC 2 dX3_startTasks_45 (by decide) ?_
  cases hF
  exact hK _ _ _ hR (lv_sub hl [1, 0] rfl)
def LX3_startTasks_2 (v0 : Nat) (v1 : Int) (h : PH) : Option ((Int × PH) ⊕ (PH)) :=
  (gfr h 3 v0 1).bind fun x1 =>
  (gfi h 0 x1 0).bind fun x2 =>
  if w32 v1 < w32 x2 then (
    (gfr h 3 v0 1).bind fun x3 =>
    (gfr h 0 x3 9).bind fun x4 =>
    (ald 2 h x4 v1).bind fun x5 =>
    if w32 x5 = 0 then (
      (gfr h 3 v0 1).bind fun x6 =>
      (gfr h 0 x6 5).bind fun x7 =>
      (ald 0 h x7 v1).bind fun x8 =>
      if w32 x8 < 0 then (
        (FX3_startTask h v0 v1).bind fun h9 =>
        JX3_startTasks_42 h9 v0 v1
      ) else (
        JX3_startTasks_42 h v0 v1
      )
    ) else (
      JX3_startTasks_42 h v0 v1
    )
  ) else (
    some (.inr h)
  )
set_option maxHeartbeats 4000000 in
set_option maxRecDepth 100000 in
theorem LRX3_startTasks_2 {v0 : Nat} {Q : State → Prop} (hC : Cx g p s m args meth c cX3_startTasks 2 RX3 none) : ∀ (n : Nat) (st : Int × PH) (ex : PH), lp (fun st : Int × PH => LX3_startTasks_2 v0 st.1 st.2) n st = some ex → (fun ex : PH => ∀ (H : Heap) (locs : List Loc) (ls : Array Slot), Rl g ad ex s.heap H locs → lv_has ls 2 [] → W p l e rmX3_startTasks s m args below meth c H locs 0 0 Q (F0 m 48 ls [])) ex → ∀ (H : Heap) (locs : List Loc) (ls : Array Slot), Rl g ad st.2 s.heap H locs → lv_has ls 2 [(0, .ref (ad v0)), (1, .int (Int32.ofInt st.1))] → W p l e rmX3_startTasks s m args below meth c H locs 0 0 Q (F0 m 2 ls []) := by
  refine lp_rule (Ph := (fun st : Int × PH => ∀ (H : Heap) (locs : List Loc) (ls : Array Slot), Rl g ad st.2 s.heap H locs → lv_has ls 2 [(0, .ref (ad v0)), (1, .int (Int32.ofInt st.1))] → W p l e rmX3_startTasks s m args below meth c H locs 0 0 Q (F0 m 2 ls []))) (Px := (fun ex : PH => ∀ (H : Heap) (locs : List Loc) (ls : Array Slot), Rl g ad ex s.heap H locs → lv_has ls 2 [] → W p l e rmX3_startTasks s m args below meth c H locs 0 0 Q (F0 m 48 ls []))) ?_
  rintro ⟨v1, h⟩ o hF hK H locs ls hR hl
  have hR : Rl g ad h s.heap H locs := hR
  have hl : lv_has ls 2 [(0, .ref (ad v0)), (1, .int (Int32.ofInt v1))] := hl
  have hF : LX3_startTasks_2 v0 v1 h = some o := hF
  unfold LX3_startTasks_2 at hF
  refine lv_iload_n hC.1 hC.2.1 dX3_startTasks_2 rfl (lv_at hl 1 rfl) ?_
  refine lv_aload_n hC.1 hC.2.1 dX3_startTasks_3 rfl (lv_at hl 0 rfl) ?_
  obtain ⟨x1, e1, hF⟩ := bnd hF
  refine pw_gfr hC hR e1 flX3_21 dX3_startTasks_4 ?_
  obtain ⟨x2, e2, hF⟩ := bnd hF
  refine pw_gfi hC hR e2 flX3_72 dX3_startTasks_7 ?_
  refine pw_icmpge hC 48 dX3_startTasks_10 (by decide) (fun hc => ?_) (fun hc => ?_)
  · rw [if_neg hc] at hF
    cases hF
    exact hK _ _ _ hR (lv_sub hl [] rfl)
  · rw [if_pos hc] at hF
    refine lv_aload_n hC.1 hC.2.1 dX3_startTasks_13 rfl (lv_at hl 0 rfl) ?_
    obtain ⟨x3, e3, hF⟩ := bnd hF
    refine pw_gfr hC hR e3 flX3_21 dX3_startTasks_14 ?_
    obtain ⟨x4, e4, hF⟩ := bnd hF
    refine pw_gfr hC hR e4 flX3_102 dX3_startTasks_17 ?_
    refine lv_iload_n hC.1 hC.2.1 dX3_startTasks_20 rfl (lv_at hl 1 rfl) ?_
    obtain ⟨x5, e5, hF⟩ := bnd hF
    refine pw_zald hC hR e5 dX3_startTasks_21 ?_
    refine pw_ifne hC 42 dX3_startTasks_22 (by decide) (fun hc => ?_) (fun hc => ?_)
    · rw [if_neg hc] at hF
      exact BX3_startTasks_42 hC hR (lv_sub hl [0, 1] rfl) hF hK
    · rw [if_pos hc] at hF
      refine lv_aload_n hC.1 hC.2.1 dX3_startTasks_25 rfl (lv_at hl 0 rfl) ?_
      obtain ⟨x6, e6, hF⟩ := bnd hF
      refine pw_gfr hC hR e6 flX3_21 dX3_startTasks_26 ?_
      obtain ⟨x7, e7, hF⟩ := bnd hF
      refine pw_gfr hC hR e7 flX3_75 dX3_startTasks_29 ?_
      refine lv_iload_n hC.1 hC.2.1 dX3_startTasks_32 rfl (lv_at hl 1 rfl) ?_
      obtain ⟨x8, e8, hF⟩ := bnd hF
      refine pw_iald hC hR e8 dX3_startTasks_33 ?_
      refine pw_ifge hC 42 dX3_startTasks_34 (by decide) (fun hc => ?_) (fun hc => ?_)
      · rw [if_neg hc] at hF
        exact BX3_startTasks_42 hC hR (lv_sub hl [0, 1] rfl) hF hK
      · rw [if_pos hc] at hF
        refine lv_aload_n hC.1 hC.2.1 dX3_startTasks_37 rfl (lv_at hl 0 rfl) ?_
        refine lv_iload_n hC.1 hC.2.1 dX3_startTasks_38 rfl (lv_at hl 1 rfl) ?_
        obtain ⟨h9, e9, hF⟩ := bnd hF
        obtain ⟨fs9, ho9⟩ := OX3_startTask e9
        refine pw_cVv (rest := []) hC hR lvX3_106 ho9 (CX3_startTask e9) ⟨rfl, rfl⟩ rfl hl.1 rfl ⟨Nat.le_of_ble_eq_true rfl, Nat.le_of_ble_eq_true rfl⟩ (Nat.le_of_ble_eq_true rfl) dX3_startTasks_39 ⟨Nat.zero_le _, Nat.zero_le _⟩ (fun H locs hR => ?_)
        exact BX3_startTasks_42 hC hR (lv_sub hl [0, 1] rfl) hF hK
def FX3_startTasks (h : PH) (v0 : Nat) : Option (PH) :=
  (isO h 3 v0).bind fun _ =>
  (lp (fun st : Int × PH => LX3_startTasks_2 v0 st.1 st.2) FU (0, h)).bind fun ex10 =>
  some ex10
theorem OX3_startTasks {h : PH} {v0 : Nat} {q : PH} (hF : FX3_startTasks h v0 = some q) : ∃ fs : List PV, h[v0]? = some (.inr (3, fs)) := by
  unfold FX3_startTasks at hF
  obtain ⟨u0, e0, -⟩ := bnd hF
  exact isO_spec e0
set_option maxHeartbeats 4000000 in
set_option maxRecDepth 100000 in
theorem CX3_startTasks {g : GP} {l : Launch} {ad : Nat → Nat} {h : PH} {v0 : Nat} {q : PH} (hF : FX3_startTasks h v0 = some q) : CN g l yX3_startTasks cX3_startTasks 2 none rmX3_startTasks ad h [.ref (ad v0)] none q := by
  refine pw_met (by decide) (Nat.le_of_ble_eq_true rfl) ?_
  intro p e s m args below meth c ls hC hN hR hl
  have hl : lv_has ls 2 [(0, .ref (ad v0))] := hl
  unfold FX3_startTasks at hF
  obtain ⟨u0, e0, hF⟩ := bnd hF
  refine pw_iconst hC dX3_startTasks_0 ?_
  refine lv_istore_n (lv' := [(1, .int (Int32.ofInt 0)), (0, .ref (ad v0))]) hC.1 hC.2.1 dX3_startTasks_1 rfl hl (by decide) rfl (fun ls hl => ?_)
  obtain ⟨ex10, e10, hF⟩ := bnd hF
  refine LRX3_startTasks_2 hC FU _ ex10 e10 ?_ _ _ _ hR (lv_sub hl [1, 0] rfl)
  intro H locs ls hR hl
  cases hF
  exact pw_vret hC hR dX3_startTasks_48
abbrev rmX3_cycle : Room := { frames := 5, cells := 0, slots := 0, locals := 123 }
def FX3_cycle (h : PH) (v0 : Nat) : Option (Int × PH) :=
  (isO h 3 v0).bind fun _ =>
  (FX3_finishTasks h v0).bind fun q1 =>
  (gfr q1.2 3 v0 0).bind fun x2 =>
  (FX6_readyAllFree q1.2 x2).bind fun h3 =>
  (FX3_queueTasks h3 v0).bind fun h4 =>
  (FX3_startTasks h4 v0).bind fun h5 =>
  (gfr h5 3 v0 1).bind fun x6 =>
  (FX0_countBusy h5 x6).bind fun h7 =>
  (gfi h7 3 v0 3).bind fun x8 =>
  (pfi h7 3 v0 3 (x8 + 1)).bind fun h9 =>
  some (q1.1, h9)
theorem OX3_cycle {h : PH} {v0 : Nat} {q : Int × PH} (hF : FX3_cycle h v0 = some q) : ∃ fs : List PV, h[v0]? = some (.inr (3, fs)) := by
  unfold FX3_cycle at hF
  obtain ⟨u0, e0, -⟩ := bnd hF
  exact isO_spec e0
set_option maxHeartbeats 4000000 in
set_option maxRecDepth 100000 in
theorem CX3_cycle {g : GP} {l : Launch} {ad : Nat → Nat} {h : PH} {v0 : Nat} {q : Int × PH} (hF : FX3_cycle h v0 = some q) : CN g l yX3_cycle cX3_cycle 2 (some .int) rmX3_cycle ad h [.ref (ad v0)] (some (.int (Int32.ofInt q.1))) q.2 := by
  refine pw_met (by decide) (Nat.le_of_ble_eq_true rfl) ?_
  intro p e s m args below meth c ls hC hN hR hl
  have hl : lv_has ls 2 [(0, .ref (ad v0))] := hl
  unfold FX3_cycle at hF
  obtain ⟨u0, e0, hF⟩ := bnd hF
  refine lv_aload_n hC.1 hC.2.1 dX3_cycle_0 rfl (lv_at hl 0 rfl) ?_
  obtain ⟨q1, e1, hF⟩ := bnd hF
  obtain ⟨fs1, ho1⟩ := OX3_finishTasks e1
  refine pw_cVi (rest := []) hC hR lvX3_57 ho1 (CX3_finishTasks e1) ⟨rfl, rfl⟩ rfl hl.1 rfl ⟨Nat.le_of_ble_eq_true rfl, Nat.le_of_ble_eq_true rfl⟩ (Nat.le_of_ble_eq_true rfl) dX3_cycle_1 ⟨Nat.zero_le _, Nat.zero_le _⟩ (fun H locs hR => ?_)
  refine lv_istore_n (lv' := [(1, .int (Int32.ofInt q1.1)), (0, .ref (ad v0))]) hC.1 hC.2.1 dX3_cycle_4 rfl hl (by decide) rfl (fun ls hl => ?_)
  refine lv_aload_n hC.1 hC.2.1 dX3_cycle_5 rfl (lv_at hl 1 rfl) ?_
  obtain ⟨x2, e2, hF⟩ := bnd hF
  refine pw_gfr hC hR e2 flX3_12 dX3_cycle_6 ?_
  obtain ⟨h3, e3, hF⟩ := bnd hF
  obtain ⟨fs3, ho3⟩ := OX6_readyAllFree e3
  refine pw_cVv (rest := []) hC hR lvX3_60 ho3 (CX6_readyAllFree e3) ⟨rfl, rfl⟩ rfl hl.1 rfl ⟨Nat.le_of_ble_eq_true rfl, Nat.le_of_ble_eq_true rfl⟩ (Nat.le_of_ble_eq_true rfl) dX3_cycle_9 ⟨Nat.zero_le _, Nat.zero_le _⟩ (fun H locs hR => ?_)
  refine lv_aload_n hC.1 hC.2.1 dX3_cycle_12 rfl (lv_at hl 1 rfl) ?_
  obtain ⟨h4, e4, hF⟩ := bnd hF
  obtain ⟨fs4, ho4⟩ := OX3_queueTasks e4
  refine pw_cVv (rest := []) hC hR lvX3_63 ho4 (CX3_queueTasks e4) ⟨rfl, rfl⟩ rfl hl.1 rfl ⟨Nat.le_of_ble_eq_true rfl, Nat.le_of_ble_eq_true rfl⟩ (Nat.le_of_ble_eq_true rfl) dX3_cycle_13 ⟨Nat.zero_le _, Nat.zero_le _⟩ (fun H locs hR => ?_)
  refine lv_aload_n hC.1 hC.2.1 dX3_cycle_16 rfl (lv_at hl 1 rfl) ?_
  obtain ⟨h5, e5, hF⟩ := bnd hF
  obtain ⟨fs5, ho5⟩ := OX3_startTasks e5
  refine pw_cVv (rest := []) hC hR lvX3_66 ho5 (CX3_startTasks e5) ⟨rfl, rfl⟩ rfl hl.1 rfl ⟨Nat.le_of_ble_eq_true rfl, Nat.le_of_ble_eq_true rfl⟩ (Nat.le_of_ble_eq_true rfl) dX3_cycle_17 ⟨Nat.zero_le _, Nat.zero_le _⟩ (fun H locs hR => ?_)
  refine lv_aload_n hC.1 hC.2.1 dX3_cycle_20 rfl (lv_at hl 1 rfl) ?_
  obtain ⟨x6, e6, hF⟩ := bnd hF
  refine pw_gfr hC hR e6 flX3_21 dX3_cycle_21 ?_
  obtain ⟨h7, e7, hF⟩ := bnd hF
  obtain ⟨fs7, ho7⟩ := OX0_countBusy e7
  refine pw_cVv (rest := []) hC hR lvX3_69 ho7 (CX0_countBusy e7) ⟨rfl, rfl⟩ rfl hl.1 rfl ⟨Nat.le_of_ble_eq_true rfl, Nat.le_of_ble_eq_true rfl⟩ (Nat.le_of_ble_eq_true rfl) dX3_cycle_24 ⟨Nat.zero_le _, Nat.zero_le _⟩ (fun H locs hR => ?_)
  refine lv_aload_n hC.1 hC.2.1 dX3_cycle_27 rfl (lv_at hl 1 rfl) ?_
  refine lv_dup hC.1 hC.2.1 dX3_cycle_28 rfl ?_
  obtain ⟨x8, e8, hF⟩ := bnd hF
  refine pw_gfi hC hR e8 flX3_34 dX3_cycle_29 ?_
  refine pw_iconst hC dX3_cycle_32 ?_
  refine pw_iadd hC dX3_cycle_33 ?_
  obtain ⟨h9, e9, hF⟩ := bnd hF
  refine pw_pfi hC hR e9 fpX3_34 (Or.inl rfl) dX3_cycle_34 (fun H locs hR => ?_)
  refine lv_iload_n hC.1 hC.2.1 dX3_cycle_37 rfl (lv_at hl 0 rfl) ?_
  cases hF
  exact pw_iret hC hR dX3_cycle_38
abbrev rmX3_cyclesUntilFinished : Room := { frames := 6, cells := 0, slots := 0, locals := 144 }
def LX3_cyclesUntilFinished_2 (v0 : Nat) (v1 : Int) (v2 : Int) (h : PH) : Option ((Int × PH) ⊕ (((Int × PH) ⊕ (PH)))) :=
  if w32 v1 < w32 v2 then (
    some (.inr (.inr h))
  ) else (
    (gfr h 3 v0 0).bind fun x1 =>
    (FX6_unfinishedBits h x1).bind fun x2 =>
    if w32 x2 = 0 then (
      some (.inr (.inl (v2, h)))
    ) else (
      (FX3_cycle h v0).bind fun q3 =>
      some (.inl ((v2 + 1), q3.2))
    )
  )
set_option maxHeartbeats 4000000 in
set_option maxRecDepth 100000 in
theorem LRX3_cyclesUntilFinished_2 {v0 : Nat} {v1 : Int} {Q : State → Prop} (hC : Cx g p s m args meth c cX3_cyclesUntilFinished 3 RX3 (some .int)) : ∀ (n : Nat) (st : Int × PH) (ex : ((Int × PH) ⊕ (PH))), lp (fun st : Int × PH => LX3_cyclesUntilFinished_2 v0 v1 st.1 st.2) n st = some ex → (Sum.elim (fun ex : Int × PH => ∀ (H : Heap) (locs : List Loc) (ls : Array Slot), Rl g ad ex.2 s.heap H locs → lv_has ls 3 [(2, .int (Int32.ofInt ex.1))] → W p l e rmX3_cyclesUntilFinished s m args below meth c H locs 0 0 Q (F0 m 17 ls [])) (fun ex : PH => ∀ (H : Heap) (locs : List Loc) (ls : Array Slot), Rl g ad ex s.heap H locs → lv_has ls 3 [] → W p l e rmX3_cyclesUntilFinished s m args below meth c H locs 0 0 Q (F0 m 30 ls []))) ex → ∀ (H : Heap) (locs : List Loc) (ls : Array Slot), Rl g ad st.2 s.heap H locs → lv_has ls 3 [(0, .ref (ad v0)), (1, .int (Int32.ofInt v1)), (2, .int (Int32.ofInt st.1))] → W p l e rmX3_cyclesUntilFinished s m args below meth c H locs 0 0 Q (F0 m 2 ls []) := by
  refine lp_rule (Ph := (fun st : Int × PH => ∀ (H : Heap) (locs : List Loc) (ls : Array Slot), Rl g ad st.2 s.heap H locs → lv_has ls 3 [(0, .ref (ad v0)), (1, .int (Int32.ofInt v1)), (2, .int (Int32.ofInt st.1))] → W p l e rmX3_cyclesUntilFinished s m args below meth c H locs 0 0 Q (F0 m 2 ls []))) (Px := (Sum.elim (fun ex : Int × PH => ∀ (H : Heap) (locs : List Loc) (ls : Array Slot), Rl g ad ex.2 s.heap H locs → lv_has ls 3 [(2, .int (Int32.ofInt ex.1))] → W p l e rmX3_cyclesUntilFinished s m args below meth c H locs 0 0 Q (F0 m 17 ls [])) (fun ex : PH => ∀ (H : Heap) (locs : List Loc) (ls : Array Slot), Rl g ad ex s.heap H locs → lv_has ls 3 [] → W p l e rmX3_cyclesUntilFinished s m args below meth c H locs 0 0 Q (F0 m 30 ls [])))) ?_
  rintro ⟨v2, h⟩ o hF hK H locs ls hR hl
  have hR : Rl g ad h s.heap H locs := hR
  have hl : lv_has ls 3 [(0, .ref (ad v0)), (1, .int (Int32.ofInt v1)), (2, .int (Int32.ofInt v2))] := hl
  have hF : LX3_cyclesUntilFinished_2 v0 v1 v2 h = some o := hF
  unfold LX3_cyclesUntilFinished_2 at hF
  refine lv_iload_n hC.1 hC.2.1 dX3_cyclesUntilFinished_2 rfl (lv_at hl 2 rfl) ?_
  refine lv_iload_n hC.1 hC.2.1 dX3_cyclesUntilFinished_3 rfl (lv_at hl 1 rfl) ?_
  refine pw_icmpgt hC 30 dX3_cyclesUntilFinished_4 (by decide) (fun hc => ?_) (fun hc => ?_)
  · rw [if_pos hc] at hF
    cases hF
    exact hK _ _ _ hR (lv_sub hl [] rfl)
  · rw [if_neg hc] at hF
    refine lv_aload_n hC.1 hC.2.1 dX3_cyclesUntilFinished_7 rfl (lv_at hl 0 rfl) ?_
    obtain ⟨x1, e1, hF⟩ := bnd hF
    refine pw_gfr hC hR e1 flX3_12 dX3_cyclesUntilFinished_8 ?_
    obtain ⟨x2, e2, hF⟩ := bnd hF
    obtain ⟨fs2, ho2⟩ := OX6_unfinishedBits e2
    refine pw_cVi (rest := []) hC hR lvX3_50 ho2 (CX6_unfinishedBits e2) ⟨rfl, rfl⟩ rfl hl.1 rfl ⟨Nat.le_of_ble_eq_true rfl, Nat.le_of_ble_eq_true rfl⟩ (Nat.le_of_ble_eq_true rfl) dX3_cyclesUntilFinished_11 ⟨Nat.zero_le _, Nat.zero_le _⟩ (fun H locs hR => ?_)
    refine pw_ifne hC 19 dX3_cyclesUntilFinished_14 (by decide) (fun hc => ?_) (fun hc => ?_)
    · rw [if_neg hc] at hF
      refine lv_aload_n hC.1 hC.2.1 dX3_cyclesUntilFinished_19 rfl (lv_at hl 0 rfl) ?_
      obtain ⟨q3, e3, hF⟩ := bnd hF
      obtain ⟨fs3, ho3⟩ := OX3_cycle e3
      refine pw_cVi (rest := []) hC hR lvX3_54 ho3 (CX3_cycle e3) ⟨rfl, rfl⟩ rfl hl.1 rfl ⟨Nat.le_of_ble_eq_true rfl, Nat.le_of_ble_eq_true rfl⟩ (Nat.le_of_ble_eq_true rfl) dX3_cyclesUntilFinished_20 ⟨Nat.zero_le _, Nat.zero_le _⟩ (fun H locs hR => ?_)
      refine lv_pop hC.1 hC.2.1 dX3_cyclesUntilFinished_23 rfl ?_
      refine pw_iinc (lv' := [(2, .int (Int32.ofInt (v2 + 1))), (0, .ref (ad v0)), (1, .int (Int32.ofInt v1))]) hC hl 2 dX3_cyclesUntilFinished_24 rfl (by decide) rfl (fun ls hl => ?_)
      refine pw_goto hC 2 dX3_cyclesUntilFinished_27 (by decide) ?_
      cases hF
      exact hK _ _ _ hR (lv_sub hl [1, 2, 0] rfl)
    · rw [if_pos hc] at hF
      cases hF
      exact hK _ _ _ hR (lv_sub hl [2] rfl)
def FX3_cyclesUntilFinished (h : PH) (v0 : Nat) (v1 : Int) : Option (Int × PH) :=
  (isO h 3 v0).bind fun _ =>
  (lp (fun st : Int × PH => LX3_cyclesUntilFinished_2 v0 v1 st.1 st.2) FU (0, h)).bind fun ex4 =>
  Sum.elim (fun ex4 => (
    some (ex4.1, ex4.2)
  )) (fun ex4 => (
    some ((-1), ex4)
  )) ex4
theorem OX3_cyclesUntilFinished {h : PH} {v0 : Nat} {v1 : Int} {q : Int × PH} (hF : FX3_cyclesUntilFinished h v0 v1 = some q) : ∃ fs : List PV, h[v0]? = some (.inr (3, fs)) := by
  unfold FX3_cyclesUntilFinished at hF
  obtain ⟨u0, e0, -⟩ := bnd hF
  exact isO_spec e0
set_option maxHeartbeats 4000000 in
set_option maxRecDepth 100000 in
theorem CX3_cyclesUntilFinished {g : GP} {l : Launch} {ad : Nat → Nat} {h : PH} {v0 : Nat} {v1 : Int} {q : Int × PH} (hF : FX3_cyclesUntilFinished h v0 v1 = some q) : CN g l yX3_cyclesUntilFinished cX3_cyclesUntilFinished 3 (some .int) rmX3_cyclesUntilFinished ad h [.ref (ad v0), .int (Int32.ofInt v1)] (some (.int (Int32.ofInt q.1))) q.2 := by
  refine pw_met (by decide) (Nat.le_of_ble_eq_true rfl) ?_
  intro p e s m args below meth c ls hC hN hR hl
  have hl : lv_has ls 3 [(0, .ref (ad v0)), (1, .int (Int32.ofInt v1))] := hl
  unfold FX3_cyclesUntilFinished at hF
  obtain ⟨u0, e0, hF⟩ := bnd hF
  refine pw_iconst hC dX3_cyclesUntilFinished_0 ?_
  refine lv_istore_n (lv' := [(2, .int (Int32.ofInt 0)), (0, .ref (ad v0)), (1, .int (Int32.ofInt v1))]) hC.1 hC.2.1 dX3_cyclesUntilFinished_1 rfl hl (by decide) rfl (fun ls hl => ?_)
  obtain ⟨ex4, e4, hF⟩ := bnd hF
  refine LRX3_cyclesUntilFinished_2 hC FU _ ex4 e4 ?_ _ _ _ hR (lv_sub hl [1, 2, 0] rfl)
  rcases ex4 with ex4 | ex4
  · dsimp only [Sum.elim_inl, Sum.elim_inr] at hF
    intro H locs ls hR hl
    refine lv_iload_n hC.1 hC.2.1 dX3_cyclesUntilFinished_17 rfl (lv_at hl 0 rfl) ?_
    cases hF
    exact pw_iret hC hR dX3_cyclesUntilFinished_18
  · dsimp only [Sum.elim_inl, Sum.elim_inr] at hF
    intro H locs ls hR hl
    refine pw_iconst hC dX3_cyclesUntilFinished_30 ?_
    cases hF
    exact pw_iret hC hR dX3_cyclesUntilFinished_31
abbrev rmX4_addStep : Room := { frames := 0, cells := 0, slots := 0, locals := 0 }
def JX4_addStep_30 (h : PH) : Option (PH) :=
  some h
set_option maxHeartbeats 4000000 in
set_option maxRecDepth 100000 in
theorem BX4_addStep_30 {h : PH} (hC : Cx g p s m args meth c cX4_addStep 2 RX4 none) (hR : Rl g ad h s.heap H locs) (hl : lv_has ls 2 []) {q : PH} (hF : JX4_addStep_30 h  = some q) : W p l e rmX4_addStep s m args below meth c H locs 0 0 (MQ below (QcN g ad q none) args s 0 0 (gA g)) (F0 m 30 ls []) := by
  unfold JX4_addStep_30 at hF
  cases hF
  exact pw_vret hC hR dX4_addStep_30
def FX4_addStep (h : PH) (v0 : Nat) (v1 : Int) : Option (PH) :=
  (isO h 4 v0).bind fun _ =>
  (gfi h 4 v0 4).bind fun x1 =>
  if w32 x1 < w32 900 then (
    (gfr h 4 v0 3).bind fun x2 =>
    (gfi h 4 v0 4).bind fun x3 =>
    (ast 0 h x2 x3 v1).bind fun h4 =>
    (gfi h4 4 v0 4).bind fun x5 =>
    (pfi h4 4 v0 4 (x5 + 1)).bind fun h6 =>
    JX4_addStep_30 h6
  ) else (
    JX4_addStep_30 h
  )
theorem OX4_addStep {h : PH} {v0 : Nat} {v1 : Int} {q : PH} (hF : FX4_addStep h v0 v1 = some q) : ∃ fs : List PV, h[v0]? = some (.inr (4, fs)) := by
  unfold FX4_addStep at hF
  obtain ⟨u0, e0, -⟩ := bnd hF
  exact isO_spec e0
set_option maxHeartbeats 4000000 in
set_option maxRecDepth 100000 in
theorem CX4_addStep {g : GP} {l : Launch} {ad : Nat → Nat} {h : PH} {v0 : Nat} {v1 : Int} {q : PH} (hF : FX4_addStep h v0 v1 = some q) : CN g l yX4_addStep cX4_addStep 2 none rmX4_addStep ad h [.ref (ad v0), .int (Int32.ofInt v1)] none q := by
  refine pw_met (by decide) (Nat.le_of_ble_eq_true rfl) ?_
  intro p e s m args below meth c ls hC hN hR hl
  have hl : lv_has ls 2 [(0, .ref (ad v0)), (1, .int (Int32.ofInt v1))] := hl
  unfold FX4_addStep at hF
  obtain ⟨u0, e0, hF⟩ := bnd hF
  refine lv_aload_n hC.1 hC.2.1 dX4_addStep_0 rfl (lv_at hl 0 rfl) ?_
  obtain ⟨x1, e1, hF⟩ := bnd hF
  refine pw_gfi hC hR e1 flX4_29 dX4_addStep_1 ?_
  refine pw_sipush hC dX4_addStep_4 rfl ?_
  refine pw_icmpge hC 30 dX4_addStep_7 (by decide) (fun hc => ?_) (fun hc => ?_)
  · rw [if_neg hc] at hF
    exact BX4_addStep_30 hC hR (lv_sub hl [] rfl) hF
  · rw [if_pos hc] at hF
    refine lv_aload_n hC.1 hC.2.1 dX4_addStep_10 rfl (lv_at hl 0 rfl) ?_
    obtain ⟨x2, e2, hF⟩ := bnd hF
    refine pw_gfr hC hR e2 flX4_25 dX4_addStep_11 ?_
    refine lv_aload_n hC.1 hC.2.1 dX4_addStep_14 rfl (lv_at hl 0 rfl) ?_
    obtain ⟨x3, e3, hF⟩ := bnd hF
    refine pw_gfi hC hR e3 flX4_29 dX4_addStep_15 ?_
    refine lv_iload_n hC.1 hC.2.1 dX4_addStep_18 rfl (lv_at hl 1 rfl) ?_
    obtain ⟨h4, e4, hF⟩ := bnd hF
    refine pw_iast hC hR e4 dX4_addStep_19 (fun H locs hR => ?_)
    refine lv_aload_n hC.1 hC.2.1 dX4_addStep_20 rfl (lv_at hl 0 rfl) ?_
    refine lv_dup hC.1 hC.2.1 dX4_addStep_21 rfl ?_
    obtain ⟨x5, e5, hF⟩ := bnd hF
    refine pw_gfi hC hR e5 flX4_29 dX4_addStep_22 ?_
    refine pw_iconst hC dX4_addStep_25 ?_
    refine pw_iadd hC dX4_addStep_26 ?_
    obtain ⟨h6, e6, hF⟩ := bnd hF
    refine pw_pfi hC hR e6 fpX4_29 (Or.inl rfl) dX4_addStep_27 (fun H locs hR => ?_)
    exact BX4_addStep_30 hC hR (lv_sub hl [] rfl) hF
abbrev rmX5_advance : Room := { frames := 0, cells := 0, slots := 0, locals := 0 }
def LX5_advance_8 (v0 : Nat) (h : PH) : Option ((PH) ⊕ (PH)) :=
  (gfi h 5 v0 4).bind fun x3 =>
  (gfi h 5 v0 2).bind fun x4 =>
  if w32 x3 < w32 x4 then (
    (gfr h 5 v0 0).bind fun x5 =>
    (gfi h 5 v0 4).bind fun x6 =>
    (ald 1 h x5 x6).bind fun x7 =>
    if w32 x7 = w32 32 then (
      (gfi h 5 v0 4).bind fun x8 =>
      (pfi h 5 v0 4 (x8 + 1)).bind fun h9 =>
      some (.inl h9)
    ) else (
      some (.inr h)
    )
  ) else (
    some (.inr h)
  )
set_option maxHeartbeats 4000000 in
set_option maxRecDepth 100000 in
theorem LRX5_advance_8 {v0 : Nat} {Q : State → Prop} (hC : Cx g p s m args meth c cX5_advance 1 RX5 none) : ∀ (n : Nat) (st : PH) (ex : PH), lp (fun st : PH => LX5_advance_8 v0 st) n st = some ex → (fun ex : PH => ∀ (H : Heap) (locs : List Loc) (ls : Array Slot), Rl g ad ex s.heap H locs → lv_has ls 1 [(0, .ref (ad v0))] → W p l e rmX5_advance s m args below meth c H locs 0 0 Q (F0 m 46 ls [])) ex → ∀ (H : Heap) (locs : List Loc) (ls : Array Slot), Rl g ad st s.heap H locs → lv_has ls 1 [(0, .ref (ad v0))] → W p l e rmX5_advance s m args below meth c H locs 0 0 Q (F0 m 8 ls []) := by
  refine lp_rule (Ph := (fun st : PH => ∀ (H : Heap) (locs : List Loc) (ls : Array Slot), Rl g ad st s.heap H locs → lv_has ls 1 [(0, .ref (ad v0))] → W p l e rmX5_advance s m args below meth c H locs 0 0 Q (F0 m 8 ls []))) (Px := (fun ex : PH => ∀ (H : Heap) (locs : List Loc) (ls : Array Slot), Rl g ad ex s.heap H locs → lv_has ls 1 [(0, .ref (ad v0))] → W p l e rmX5_advance s m args below meth c H locs 0 0 Q (F0 m 46 ls []))) ?_
  rintro h o hF hK H locs ls hR hl
  have hR : Rl g ad h s.heap H locs := hR
  have hl : lv_has ls 1 [(0, .ref (ad v0))] := hl
  have hF : LX5_advance_8 v0 h = some o := hF
  unfold LX5_advance_8 at hF
  refine lv_aload_n hC.1 hC.2.1 dX5_advance_8 rfl (lv_at hl 0 rfl) ?_
  obtain ⟨x3, e3, hF⟩ := bnd hF
  refine pw_gfi hC hR e3 flX5_25 dX5_advance_9 ?_
  refine lv_aload_n hC.1 hC.2.1 dX5_advance_12 rfl (lv_at hl 0 rfl) ?_
  obtain ⟨x4, e4, hF⟩ := bnd hF
  refine pw_gfi hC hR e4 flX5_19 dX5_advance_13 ?_
  refine pw_icmpge hC 46 dX5_advance_16 (by decide) (fun hc => ?_) (fun hc => ?_)
  · rw [if_neg hc] at hF
    cases hF
    exact hK _ _ _ hR (lv_sub hl [0] rfl)
  · rw [if_pos hc] at hF
    refine lv_aload_n hC.1 hC.2.1 dX5_advance_19 rfl (lv_at hl 0 rfl) ?_
    obtain ⟨x5, e5, hF⟩ := bnd hF
    refine pw_gfr hC hR e5 flX5_9 dX5_advance_20 ?_
    refine lv_aload_n hC.1 hC.2.1 dX5_advance_23 rfl (lv_at hl 0 rfl) ?_
    obtain ⟨x6, e6, hF⟩ := bnd hF
    refine pw_gfi hC hR e6 flX5_25 dX5_advance_24 ?_
    obtain ⟨x7, e7, hF⟩ := bnd hF
    refine pw_bald hC hR e7 dX5_advance_27 ?_
    refine pw_bipush hC dX5_advance_28 rfl ?_
    refine pw_icmpne hC 46 dX5_advance_30 (by decide) (fun hc => ?_) (fun hc => ?_)
    · rw [if_neg hc] at hF
      cases hF
      exact hK _ _ _ hR (lv_sub hl [0] rfl)
    · rw [if_pos hc] at hF
      refine lv_aload_n hC.1 hC.2.1 dX5_advance_33 rfl (lv_at hl 0 rfl) ?_
      refine lv_dup hC.1 hC.2.1 dX5_advance_34 rfl ?_
      obtain ⟨x8, e8, hF⟩ := bnd hF
      refine pw_gfi hC hR e8 flX5_25 dX5_advance_35 ?_
      refine pw_iconst hC dX5_advance_38 ?_
      refine pw_iadd hC dX5_advance_39 ?_
      obtain ⟨h9, e9, hF⟩ := bnd hF
      refine pw_pfi hC hR e9 fpX5_25 (Or.inl rfl) dX5_advance_40 (fun H locs hR => ?_)
      refine pw_goto hC 8 dX5_advance_43 (by decide) ?_
      cases hF
      exact hK _ _ _ hR (lv_sub hl [0] rfl)
def JX5_advance_131 (h : PH) (v0 : Nat) : Option ((PH) ⊕ (PH)) :=
  (gfi h 5 v0 5).bind fun x23 =>
  (pfi h 5 v0 5 (x23 + 1)).bind fun h24 =>
  some (.inl h24)
set_option maxHeartbeats 4000000 in
set_option maxRecDepth 100000 in
theorem BX5_advance_131 {h : PH} {v0 : Nat} (hC : Cx g p s m args meth c cX5_advance 1 RX5 none) (hR : Rl g ad h s.heap H locs) (hl : lv_has ls 1 [(0, .ref (ad v0))]) {Q : State → Prop} {o : (PH) ⊕ (PH)} (hF : JX5_advance_131 h v0 = some o) (hK : Sum.elim (fun st : PH => ∀ (H : Heap) (locs : List Loc) (ls : Array Slot), Rl g ad st s.heap H locs → lv_has ls 1 [(0, .ref (ad v0))] → W p l e rmX5_advance s m args below meth c H locs 0 0 Q (F0 m 59 ls [])) (fun ex : PH => ∀ (H : Heap) (locs : List Loc) (ls : Array Slot), Rl g ad ex s.heap H locs → lv_has ls 1 [(0, .ref (ad v0))] → W p l e rmX5_advance s m args below meth c H locs 0 0 Q (F0 m 144 ls [])) o) : W p l e rmX5_advance s m args below meth c H locs 0 0 Q (F0 m 131 ls []) := by
  unfold JX5_advance_131 at hF
  refine lv_aload_n hC.1 hC.2.1 dX5_advance_131 rfl (lv_at hl 0 rfl) ?_
  refine lv_dup hC.1 hC.2.1 dX5_advance_132 rfl ?_
  obtain ⟨x23, e23, hF⟩ := bnd hF
  refine pw_gfi hC hR e23 flX5_28 dX5_advance_133 ?_
  refine pw_iconst hC dX5_advance_136 ?_
  refine pw_iadd hC dX5_advance_137 ?_
  obtain ⟨h24, e24, hF⟩ := bnd hF
  refine pw_pfi hC hR e24 fpX5_28 (Or.inl rfl) dX5_advance_138 (fun H locs hR => ?_)
  refine pw_goto hC 59 dX5_advance_141 (by decide) ?_
  cases hF
  exact hK _ _ _ hR (lv_sub hl [0] rfl)
def LX5_advance_59 (v0 : Nat) (h : PH) : Option ((PH) ⊕ (PH)) :=
  (gfi h 5 v0 5).bind fun x14 =>
  (gfi h 5 v0 2).bind fun x15 =>
  if w32 x14 < w32 x15 then (
    (gfr h 5 v0 0).bind fun x16 =>
    (gfi h 5 v0 5).bind fun x17 =>
    (ald 1 h x16 x17).bind fun x18 =>
    if w32 x18 < w32 48 then (
      some (.inr h)
    ) else (
      (gfr h 5 v0 0).bind fun x19 =>
      (gfi h 5 v0 5).bind fun x20 =>
      (ald 1 h x19 x20).bind fun x21 =>
      if w32 57 < w32 x21 then (
        some (.inr h)
      ) else (
        (gfi h 5 v0 6).bind fun x22 =>
        if w32 x22 < w32 1000000 then (
          (gfi h 5 v0 6).bind fun x25 =>
          (gfr h 5 v0 0).bind fun x26 =>
          (gfi h 5 v0 5).bind fun x27 =>
          (ald 1 h x26 x27).bind fun x28 =>
          (pfi h 5 v0 6 ((10 * x25) + (x28 - 48))).bind fun h29 =>
          JX5_advance_131 h29 v0
        ) else (
          JX5_advance_131 h v0
        )
      )
    )
  ) else (
    some (.inr h)
  )
set_option maxHeartbeats 4000000 in
set_option maxRecDepth 100000 in
theorem LRX5_advance_59 {v0 : Nat} {Q : State → Prop} (hC : Cx g p s m args meth c cX5_advance 1 RX5 none) : ∀ (n : Nat) (st : PH) (ex : PH), lp (fun st : PH => LX5_advance_59 v0 st) n st = some ex → (fun ex : PH => ∀ (H : Heap) (locs : List Loc) (ls : Array Slot), Rl g ad ex s.heap H locs → lv_has ls 1 [(0, .ref (ad v0))] → W p l e rmX5_advance s m args below meth c H locs 0 0 Q (F0 m 144 ls [])) ex → ∀ (H : Heap) (locs : List Loc) (ls : Array Slot), Rl g ad st s.heap H locs → lv_has ls 1 [(0, .ref (ad v0))] → W p l e rmX5_advance s m args below meth c H locs 0 0 Q (F0 m 59 ls []) := by
  refine lp_rule (Ph := (fun st : PH => ∀ (H : Heap) (locs : List Loc) (ls : Array Slot), Rl g ad st s.heap H locs → lv_has ls 1 [(0, .ref (ad v0))] → W p l e rmX5_advance s m args below meth c H locs 0 0 Q (F0 m 59 ls []))) (Px := (fun ex : PH => ∀ (H : Heap) (locs : List Loc) (ls : Array Slot), Rl g ad ex s.heap H locs → lv_has ls 1 [(0, .ref (ad v0))] → W p l e rmX5_advance s m args below meth c H locs 0 0 Q (F0 m 144 ls []))) ?_
  rintro h o hF hK H locs ls hR hl
  have hR : Rl g ad h s.heap H locs := hR
  have hl : lv_has ls 1 [(0, .ref (ad v0))] := hl
  have hF : LX5_advance_59 v0 h = some o := hF
  unfold LX5_advance_59 at hF
  refine lv_aload_n hC.1 hC.2.1 dX5_advance_59 rfl (lv_at hl 0 rfl) ?_
  obtain ⟨x14, e14, hF⟩ := bnd hF
  refine pw_gfi hC hR e14 flX5_28 dX5_advance_60 ?_
  refine lv_aload_n hC.1 hC.2.1 dX5_advance_63 rfl (lv_at hl 0 rfl) ?_
  obtain ⟨x15, e15, hF⟩ := bnd hF
  refine pw_gfi hC hR e15 flX5_19 dX5_advance_64 ?_
  refine pw_icmpge hC 144 dX5_advance_67 (by decide) (fun hc => ?_) (fun hc => ?_)
  · rw [if_neg hc] at hF
    cases hF
    exact hK _ _ _ hR (lv_sub hl [0] rfl)
  · rw [if_pos hc] at hF
    refine lv_aload_n hC.1 hC.2.1 dX5_advance_70 rfl (lv_at hl 0 rfl) ?_
    obtain ⟨x16, e16, hF⟩ := bnd hF
    refine pw_gfr hC hR e16 flX5_9 dX5_advance_71 ?_
    refine lv_aload_n hC.1 hC.2.1 dX5_advance_74 rfl (lv_at hl 0 rfl) ?_
    obtain ⟨x17, e17, hF⟩ := bnd hF
    refine pw_gfi hC hR e17 flX5_28 dX5_advance_75 ?_
    obtain ⟨x18, e18, hF⟩ := bnd hF
    refine pw_bald hC hR e18 dX5_advance_78 ?_
    refine pw_bipush hC dX5_advance_79 rfl ?_
    refine pw_icmplt hC 144 dX5_advance_81 (by decide) (fun hc => ?_) (fun hc => ?_)
    · rw [if_pos hc] at hF
      cases hF
      exact hK _ _ _ hR (lv_sub hl [0] rfl)
    · rw [if_neg hc] at hF
      refine lv_aload_n hC.1 hC.2.1 dX5_advance_84 rfl (lv_at hl 0 rfl) ?_
      obtain ⟨x19, e19, hF⟩ := bnd hF
      refine pw_gfr hC hR e19 flX5_9 dX5_advance_85 ?_
      refine lv_aload_n hC.1 hC.2.1 dX5_advance_88 rfl (lv_at hl 0 rfl) ?_
      obtain ⟨x20, e20, hF⟩ := bnd hF
      refine pw_gfi hC hR e20 flX5_28 dX5_advance_89 ?_
      obtain ⟨x21, e21, hF⟩ := bnd hF
      refine pw_bald hC hR e21 dX5_advance_92 ?_
      refine pw_bipush hC dX5_advance_93 rfl ?_
      refine pw_icmpgt hC 144 dX5_advance_95 (by decide) (fun hc => ?_) (fun hc => ?_)
      · rw [if_pos hc] at hF
        cases hF
        exact hK _ _ _ hR (lv_sub hl [0] rfl)
      · rw [if_neg hc] at hF
        refine lv_aload_n hC.1 hC.2.1 dX5_advance_98 rfl (lv_at hl 0 rfl) ?_
        obtain ⟨x22, e22, hF⟩ := bnd hF
        refine pw_gfi hC hR e22 flX5_31 dX5_advance_99 ?_
        refine pw_ldc hC 1000000 kcX5_43 dX5_advance_102 ?_
        refine pw_icmpge hC 131 dX5_advance_104 (by decide) (fun hc => ?_) (fun hc => ?_)
        · rw [if_neg hc] at hF
          exact BX5_advance_131 hC hR (lv_sub hl [0] rfl) hF hK
        · rw [if_pos hc] at hF
          refine lv_aload_n hC.1 hC.2.1 dX5_advance_107 rfl (lv_at hl 0 rfl) ?_
          refine pw_bipush hC dX5_advance_108 rfl ?_
          refine lv_aload_n hC.1 hC.2.1 dX5_advance_110 rfl (lv_at hl 0 rfl) ?_
          obtain ⟨x25, e25, hF⟩ := bnd hF
          refine pw_gfi hC hR e25 flX5_31 dX5_advance_111 ?_
          refine pw_imul hC dX5_advance_114 ?_
          refine lv_aload_n hC.1 hC.2.1 dX5_advance_115 rfl (lv_at hl 0 rfl) ?_
          obtain ⟨x26, e26, hF⟩ := bnd hF
          refine pw_gfr hC hR e26 flX5_9 dX5_advance_116 ?_
          refine lv_aload_n hC.1 hC.2.1 dX5_advance_119 rfl (lv_at hl 0 rfl) ?_
          obtain ⟨x27, e27, hF⟩ := bnd hF
          refine pw_gfi hC hR e27 flX5_28 dX5_advance_120 ?_
          obtain ⟨x28, e28, hF⟩ := bnd hF
          refine pw_bald hC hR e28 dX5_advance_123 ?_
          refine pw_bipush hC dX5_advance_124 rfl ?_
          refine pw_isub hC dX5_advance_126 ?_
          refine pw_iadd hC dX5_advance_127 ?_
          obtain ⟨h29, e29, hF⟩ := bnd hF
          refine pw_pfi hC hR e29 fpX5_31 (Or.inl rfl) dX5_advance_128 (fun H locs hR => ?_)
          exact BX5_advance_131 hC hR (lv_sub hl [0] rfl) hF hK
def LX5_advance_161 (v0 : Nat) (h : PH) : Option ((PH) ⊕ (PH)) :=
  (gfi h 5 v0 5).bind fun x33 =>
  (gfi h 5 v0 2).bind fun x34 =>
  if w32 x33 < w32 x34 then (
    (gfr h 5 v0 0).bind fun x35 =>
    (gfi h 5 v0 5).bind fun x36 =>
    (ald 1 h x35 x36).bind fun x37 =>
    if w32 x37 < w32 97 then (
      some (.inr h)
    ) else (
      (gfr h 5 v0 0).bind fun x38 =>
      (gfi h 5 v0 5).bind fun x39 =>
      (ald 1 h x38 x39).bind fun x40 =>
      if w32 122 < w32 x40 then (
        some (.inr h)
      ) else (
        (gfi h 5 v0 5).bind fun x41 =>
        (pfi h 5 v0 5 (x41 + 1)).bind fun h42 =>
        some (.inl h42)
      )
    )
  ) else (
    some (.inr h)
  )
set_option maxHeartbeats 4000000 in
set_option maxRecDepth 100000 in
theorem LRX5_advance_161 {v0 : Nat} {Q : State → Prop} (hC : Cx g p s m args meth c cX5_advance 1 RX5 none) : ∀ (n : Nat) (st : PH) (ex : PH), lp (fun st : PH => LX5_advance_161 v0 st) n st = some ex → (fun ex : PH => ∀ (H : Heap) (locs : List Loc) (ls : Array Slot), Rl g ad ex s.heap H locs → lv_has ls 1 [(0, .ref (ad v0))] → W p l e rmX5_advance s m args below meth c H locs 0 0 Q (F0 m 213 ls [])) ex → ∀ (H : Heap) (locs : List Loc) (ls : Array Slot), Rl g ad st s.heap H locs → lv_has ls 1 [(0, .ref (ad v0))] → W p l e rmX5_advance s m args below meth c H locs 0 0 Q (F0 m 161 ls []) := by
  refine lp_rule (Ph := (fun st : PH => ∀ (H : Heap) (locs : List Loc) (ls : Array Slot), Rl g ad st s.heap H locs → lv_has ls 1 [(0, .ref (ad v0))] → W p l e rmX5_advance s m args below meth c H locs 0 0 Q (F0 m 161 ls []))) (Px := (fun ex : PH => ∀ (H : Heap) (locs : List Loc) (ls : Array Slot), Rl g ad ex s.heap H locs → lv_has ls 1 [(0, .ref (ad v0))] → W p l e rmX5_advance s m args below meth c H locs 0 0 Q (F0 m 213 ls []))) ?_
  rintro h o hF hK H locs ls hR hl
  have hR : Rl g ad h s.heap H locs := hR
  have hl : lv_has ls 1 [(0, .ref (ad v0))] := hl
  have hF : LX5_advance_161 v0 h = some o := hF
  unfold LX5_advance_161 at hF
  refine lv_aload_n hC.1 hC.2.1 dX5_advance_161 rfl (lv_at hl 0 rfl) ?_
  obtain ⟨x33, e33, hF⟩ := bnd hF
  refine pw_gfi hC hR e33 flX5_28 dX5_advance_162 ?_
  refine lv_aload_n hC.1 hC.2.1 dX5_advance_165 rfl (lv_at hl 0 rfl) ?_
  obtain ⟨x34, e34, hF⟩ := bnd hF
  refine pw_gfi hC hR e34 flX5_19 dX5_advance_166 ?_
  refine pw_icmpge hC 213 dX5_advance_169 (by decide) (fun hc => ?_) (fun hc => ?_)
  · rw [if_neg hc] at hF
    cases hF
    exact hK _ _ _ hR (lv_sub hl [0] rfl)
  · rw [if_pos hc] at hF
    refine lv_aload_n hC.1 hC.2.1 dX5_advance_172 rfl (lv_at hl 0 rfl) ?_
    obtain ⟨x35, e35, hF⟩ := bnd hF
    refine pw_gfr hC hR e35 flX5_9 dX5_advance_173 ?_
    refine lv_aload_n hC.1 hC.2.1 dX5_advance_176 rfl (lv_at hl 0 rfl) ?_
    obtain ⟨x36, e36, hF⟩ := bnd hF
    refine pw_gfi hC hR e36 flX5_28 dX5_advance_177 ?_
    obtain ⟨x37, e37, hF⟩ := bnd hF
    refine pw_bald hC hR e37 dX5_advance_180 ?_
    refine pw_bipush hC dX5_advance_181 rfl ?_
    refine pw_icmplt hC 213 dX5_advance_183 (by decide) (fun hc => ?_) (fun hc => ?_)
    · rw [if_pos hc] at hF
      cases hF
      exact hK _ _ _ hR (lv_sub hl [0] rfl)
    · rw [if_neg hc] at hF
      refine lv_aload_n hC.1 hC.2.1 dX5_advance_186 rfl (lv_at hl 0 rfl) ?_
      obtain ⟨x38, e38, hF⟩ := bnd hF
      refine pw_gfr hC hR e38 flX5_9 dX5_advance_187 ?_
      refine lv_aload_n hC.1 hC.2.1 dX5_advance_190 rfl (lv_at hl 0 rfl) ?_
      obtain ⟨x39, e39, hF⟩ := bnd hF
      refine pw_gfi hC hR e39 flX5_28 dX5_advance_191 ?_
      obtain ⟨x40, e40, hF⟩ := bnd hF
      refine pw_bald hC hR e40 dX5_advance_194 ?_
      refine pw_bipush hC dX5_advance_195 rfl ?_
      refine pw_icmpgt hC 213 dX5_advance_197 (by decide) (fun hc => ?_) (fun hc => ?_)
      · rw [if_pos hc] at hF
        cases hF
        exact hK _ _ _ hR (lv_sub hl [0] rfl)
      · rw [if_neg hc] at hF
        refine lv_aload_n hC.1 hC.2.1 dX5_advance_200 rfl (lv_at hl 0 rfl) ?_
        refine lv_dup hC.1 hC.2.1 dX5_advance_201 rfl ?_
        obtain ⟨x41, e41, hF⟩ := bnd hF
        refine pw_gfi hC hR e41 flX5_28 dX5_advance_202 ?_
        refine pw_iconst hC dX5_advance_205 ?_
        refine pw_iadd hC dX5_advance_206 ?_
        obtain ⟨h42, e42, hF⟩ := bnd hF
        refine pw_pfi hC hR e42 fpX5_28 (Or.inl rfl) dX5_advance_207 (fun H locs hR => ?_)
        refine pw_goto hC 161 dX5_advance_210 (by decide) ?_
        cases hF
        exact hK _ _ _ hR (lv_sub hl [0] rfl)
def JX5_advance_266 (h : PH) : Option (PH) :=
  some h
set_option maxHeartbeats 4000000 in
set_option maxRecDepth 100000 in
theorem BX5_advance_266 {h : PH} (hC : Cx g p s m args meth c cX5_advance 1 RX5 none) (hR : Rl g ad h s.heap H locs) (hl : lv_has ls 1 []) {q : PH} (hF : JX5_advance_266 h  = some q) : W p l e rmX5_advance s m args below meth c H locs 0 0 (MQ below (QcN g ad q none) args s 0 0 (gA g)) (F0 m 266 ls []) := by
  unfold JX5_advance_266 at hF
  cases hF
  exact pw_vret hC hR dX5_advance_266
def JX5_advance_213 (h : PH) (v0 : Nat) : Option (PH) :=
  (gfi h 5 v0 5).bind fun x44 =>
  (gfi h 5 v0 4).bind fun x45 =>
  if w32 x45 < w32 x44 then (
    (pfi h 5 v0 3 2).bind fun h52 =>
    JX5_advance_266 h52
  ) else (
    (gfi h 5 v0 4).bind fun x46 =>
    (gfi h 5 v0 2).bind fun x47 =>
    if w32 x46 < w32 x47 then (
      (pfi h 5 v0 3 3).bind fun h49 =>
      (gfi h49 5 v0 4).bind fun x50 =>
      (pfi h49 5 v0 5 (x50 + 1)).bind fun h51 =>
      JX5_advance_266 h51
    ) else (
      (pfi h 5 v0 3 0).bind fun h48 =>
      JX5_advance_266 h48
    )
  )
set_option maxHeartbeats 4000000 in
set_option maxRecDepth 100000 in
theorem BX5_advance_213 {h : PH} {v0 : Nat} (hC : Cx g p s m args meth c cX5_advance 1 RX5 none) (hR : Rl g ad h s.heap H locs) (hl : lv_has ls 1 [(0, .ref (ad v0))]) {q : PH} (hF : JX5_advance_213 h v0 = some q) : W p l e rmX5_advance s m args below meth c H locs 0 0 (MQ below (QcN g ad q none) args s 0 0 (gA g)) (F0 m 213 ls []) := by
  unfold JX5_advance_213 at hF
  refine lv_aload_n hC.1 hC.2.1 dX5_advance_213 rfl (lv_at hl 0 rfl) ?_
  obtain ⟨x44, e44, hF⟩ := bnd hF
  refine pw_gfi hC hR e44 flX5_28 dX5_advance_214 ?_
  refine lv_aload_n hC.1 hC.2.1 dX5_advance_217 rfl (lv_at hl 0 rfl) ?_
  obtain ⟨x45, e45, hF⟩ := bnd hF
  refine pw_gfi hC hR e45 flX5_25 dX5_advance_218 ?_
  refine pw_icmple hC 232 dX5_advance_221 (by decide) (fun hc => ?_) (fun hc => ?_)
  · rw [if_neg hc] at hF
    refine lv_aload_n hC.1 hC.2.1 dX5_advance_232 rfl (lv_at hl 0 rfl) ?_
    obtain ⟨x46, e46, hF⟩ := bnd hF
    refine pw_gfi hC hR e46 flX5_25 dX5_advance_233 ?_
    refine lv_aload_n hC.1 hC.2.1 dX5_advance_236 rfl (lv_at hl 0 rfl) ?_
    obtain ⟨x47, e47, hF⟩ := bnd hF
    refine pw_gfi hC hR e47 flX5_19 dX5_advance_237 ?_
    refine pw_icmpge hC 261 dX5_advance_240 (by decide) (fun hc => ?_) (fun hc => ?_)
    · rw [if_neg hc] at hF
      refine lv_aload_n hC.1 hC.2.1 dX5_advance_261 rfl (lv_at hl 0 rfl) ?_
      refine pw_iconst hC dX5_advance_262 ?_
      obtain ⟨h48, e48, hF⟩ := bnd hF
      refine pw_pfi hC hR e48 fpX5_22 (Or.inl rfl) dX5_advance_263 (fun H locs hR => ?_)
      exact BX5_advance_266 hC hR (lv_sub hl [] rfl) hF
    · rw [if_pos hc] at hF
      refine lv_aload_n hC.1 hC.2.1 dX5_advance_243 rfl (lv_at hl 0 rfl) ?_
      refine pw_iconst hC dX5_advance_244 ?_
      obtain ⟨h49, e49, hF⟩ := bnd hF
      refine pw_pfi hC hR e49 fpX5_22 (Or.inl rfl) dX5_advance_245 (fun H locs hR => ?_)
      refine lv_aload_n hC.1 hC.2.1 dX5_advance_248 rfl (lv_at hl 0 rfl) ?_
      refine lv_aload_n hC.1 hC.2.1 dX5_advance_249 rfl (lv_at hl 0 rfl) ?_
      obtain ⟨x50, e50, hF⟩ := bnd hF
      refine pw_gfi hC hR e50 flX5_25 dX5_advance_250 ?_
      refine pw_iconst hC dX5_advance_253 ?_
      refine pw_iadd hC dX5_advance_254 ?_
      obtain ⟨h51, e51, hF⟩ := bnd hF
      refine pw_pfi hC hR e51 fpX5_28 (Or.inl rfl) dX5_advance_255 (fun H locs hR => ?_)
      refine pw_goto hC 266 dX5_advance_258 (by decide) ?_
      exact BX5_advance_266 hC hR (lv_sub hl [] rfl) hF
  · rw [if_pos hc] at hF
    refine lv_aload_n hC.1 hC.2.1 dX5_advance_224 rfl (lv_at hl 0 rfl) ?_
    refine pw_iconst hC dX5_advance_225 ?_
    obtain ⟨h52, e52, hF⟩ := bnd hF
    refine pw_pfi hC hR e52 fpX5_22 (Or.inl rfl) dX5_advance_226 (fun H locs hR => ?_)
    refine pw_goto hC 266 dX5_advance_229 (by decide) ?_
    exact BX5_advance_266 hC hR (lv_sub hl [] rfl) hF
def JX5_advance_144 (h : PH) (v0 : Nat) : Option (PH) :=
  (gfi h 5 v0 5).bind fun x31 =>
  (gfi h 5 v0 4).bind fun x32 =>
  if w32 x32 < w32 x31 then (
    (pfi h 5 v0 3 1).bind fun h53 =>
    some h53
  ) else (
    (lp (fun st : PH => LX5_advance_161 v0 st) FU h).bind fun ex43 =>
    JX5_advance_213 ex43 v0
  )
set_option maxHeartbeats 4000000 in
set_option maxRecDepth 100000 in
theorem BX5_advance_144 {h : PH} {v0 : Nat} (hC : Cx g p s m args meth c cX5_advance 1 RX5 none) (hR : Rl g ad h s.heap H locs) (hl : lv_has ls 1 [(0, .ref (ad v0))]) {q : PH} (hF : JX5_advance_144 h v0 = some q) : W p l e rmX5_advance s m args below meth c H locs 0 0 (MQ below (QcN g ad q none) args s 0 0 (gA g)) (F0 m 144 ls []) := by
  unfold JX5_advance_144 at hF
  refine lv_aload_n hC.1 hC.2.1 dX5_advance_144 rfl (lv_at hl 0 rfl) ?_
  obtain ⟨x31, e31, hF⟩ := bnd hF
  refine pw_gfi hC hR e31 flX5_28 dX5_advance_145 ?_
  refine lv_aload_n hC.1 hC.2.1 dX5_advance_148 rfl (lv_at hl 0 rfl) ?_
  obtain ⟨x32, e32, hF⟩ := bnd hF
  refine pw_gfi hC hR e32 flX5_25 dX5_advance_149 ?_
  refine pw_icmple hC 161 dX5_advance_152 (by decide) (fun hc => ?_) (fun hc => ?_)
  · rw [if_neg hc] at hF
    obtain ⟨ex43, e43, hF⟩ := bnd hF
    refine LRX5_advance_161 hC FU _ ex43 e43 ?_ _ _ _ hR (lv_sub hl [0] rfl)
    intro H locs ls hR hl
    exact BX5_advance_213 hC hR (lv_sub hl [0] rfl) hF
  · rw [if_pos hc] at hF
    refine lv_aload_n hC.1 hC.2.1 dX5_advance_155 rfl (lv_at hl 0 rfl) ?_
    refine pw_iconst hC dX5_advance_156 ?_
    obtain ⟨h53, e53, hF⟩ := bnd hF
    refine pw_pfi hC hR e53 fpX5_22 (Or.inl rfl) dX5_advance_157 (fun H locs hR => ?_)
    cases hF
    exact pw_vret hC hR dX5_advance_160
def JX5_advance_46 (h : PH) (v0 : Nat) : Option (PH) :=
  (gfi h 5 v0 4).bind fun x11 =>
  (pfi h 5 v0 5 x11).bind fun h12 =>
  (pfi h12 5 v0 6 0).bind fun h13 =>
  (lp (fun st : PH => LX5_advance_59 v0 st) FU h13).bind fun ex30 =>
  JX5_advance_144 ex30 v0
set_option maxHeartbeats 4000000 in
set_option maxRecDepth 100000 in
theorem BX5_advance_46 {h : PH} {v0 : Nat} (hC : Cx g p s m args meth c cX5_advance 1 RX5 none) (hR : Rl g ad h s.heap H locs) (hl : lv_has ls 1 [(0, .ref (ad v0))]) {q : PH} (hF : JX5_advance_46 h v0 = some q) : W p l e rmX5_advance s m args below meth c H locs 0 0 (MQ below (QcN g ad q none) args s 0 0 (gA g)) (F0 m 46 ls []) := by
  unfold JX5_advance_46 at hF
  refine lv_aload_n hC.1 hC.2.1 dX5_advance_46 rfl (lv_at hl 0 rfl) ?_
  refine lv_aload_n hC.1 hC.2.1 dX5_advance_47 rfl (lv_at hl 0 rfl) ?_
  obtain ⟨x11, e11, hF⟩ := bnd hF
  refine pw_gfi hC hR e11 flX5_25 dX5_advance_48 ?_
  obtain ⟨h12, e12, hF⟩ := bnd hF
  refine pw_pfi hC hR e12 fpX5_28 (Or.inl rfl) dX5_advance_51 (fun H locs hR => ?_)
  refine lv_aload_n hC.1 hC.2.1 dX5_advance_54 rfl (lv_at hl 0 rfl) ?_
  refine pw_iconst hC dX5_advance_55 ?_
  obtain ⟨h13, e13, hF⟩ := bnd hF
  refine pw_pfi hC hR e13 fpX5_31 (Or.inl rfl) dX5_advance_56 (fun H locs hR => ?_)
  obtain ⟨ex30, e30, hF⟩ := bnd hF
  refine LRX5_advance_59 hC FU _ ex30 e30 ?_ _ _ _ hR (lv_sub hl [0] rfl)
  intro H locs ls hR hl
  exact BX5_advance_144 hC hR (lv_sub hl [0] rfl) hF
def FX5_advance (h : PH) (v0 : Nat) : Option (PH) :=
  (isO h 5 v0).bind fun _ =>
  (gfi h 5 v0 5).bind fun x1 =>
  (pfi h 5 v0 4 x1).bind fun h2 =>
  (lp (fun st : PH => LX5_advance_8 v0 st) FU h2).bind fun ex10 =>
  JX5_advance_46 ex10 v0
theorem OX5_advance {h : PH} {v0 : Nat} {q : PH} (hF : FX5_advance h v0 = some q) : ∃ fs : List PV, h[v0]? = some (.inr (5, fs)) := by
  unfold FX5_advance at hF
  obtain ⟨u0, e0, -⟩ := bnd hF
  exact isO_spec e0
set_option maxHeartbeats 4000000 in
set_option maxRecDepth 100000 in
theorem CX5_advance {g : GP} {l : Launch} {ad : Nat → Nat} {h : PH} {v0 : Nat} {q : PH} (hF : FX5_advance h v0 = some q) : CN g l yX5_advance cX5_advance 1 none rmX5_advance ad h [.ref (ad v0)] none q := by
  refine pw_met (by decide) (Nat.le_of_ble_eq_true rfl) ?_
  intro p e s m args below meth c ls hC hN hR hl
  have hl : lv_has ls 1 [(0, .ref (ad v0))] := hl
  unfold FX5_advance at hF
  obtain ⟨u0, e0, hF⟩ := bnd hF
  refine lv_aload_n hC.1 hC.2.1 dX5_advance_0 rfl (lv_at hl 0 rfl) ?_
  refine lv_aload_n hC.1 hC.2.1 dX5_advance_1 rfl (lv_at hl 0 rfl) ?_
  obtain ⟨x1, e1, hF⟩ := bnd hF
  refine pw_gfi hC hR e1 flX5_28 dX5_advance_2 ?_
  obtain ⟨h2, e2, hF⟩ := bnd hF
  refine pw_pfi hC hR e2 fpX5_25 (Or.inl rfl) dX5_advance_5 (fun H locs hR => ?_)
  obtain ⟨ex10, e10, hF⟩ := bnd hF
  refine LRX5_advance_8 hC FU _ ex10 e10 ?_ _ _ _ hR (lv_sub hl [0] rfl)
  intro H locs ls hR hl
  exact BX5_advance_46 hC hR (lv_sub hl [0] rfl) hF
abbrev rmX5_startReading : Room := { frames := 1, cells := 0, slots := 0, locals := 24 }
def FX5_startReading (h : PH) (v0 : Nat) (v1 : Int) : Option (PH) :=
  (isO h 5 v0).bind fun _ =>
  (pfi h 5 v0 2 (minI v1 900)).bind fun h1 =>
  (pfi h1 5 v0 5 0).bind fun h2 =>
  (FX5_advance h2 v0).bind fun h3 =>
  some h3
theorem OX5_startReading {h : PH} {v0 : Nat} {v1 : Int} {q : PH} (hF : FX5_startReading h v0 v1 = some q) : ∃ fs : List PV, h[v0]? = some (.inr (5, fs)) := by
  unfold FX5_startReading at hF
  obtain ⟨u0, e0, -⟩ := bnd hF
  exact isO_spec e0
set_option maxHeartbeats 4000000 in
set_option maxRecDepth 100000 in
theorem CX5_startReading {g : GP} {l : Launch} {ad : Nat → Nat} {h : PH} {v0 : Nat} {v1 : Int} {q : PH} (hF : FX5_startReading h v0 v1 = some q) : CN g l yX5_startReading cX5_startReading 2 none rmX5_startReading ad h [.ref (ad v0), .int (Int32.ofInt v1)] none q := by
  refine pw_met (by decide) (Nat.le_of_ble_eq_true rfl) ?_
  intro p e s m args below meth c ls hC hN hR hl
  have hl : lv_has ls 2 [(0, .ref (ad v0)), (1, .int (Int32.ofInt v1))] := hl
  unfold FX5_startReading at hF
  obtain ⟨u0, e0, hF⟩ := bnd hF
  refine lv_aload_n hC.1 hC.2.1 dX5_startReading_0 rfl (lv_at hl 0 rfl) ?_
  refine lv_iload_n hC.1 hC.2.1 dX5_startReading_1 rfl (lv_at hl 1 rfl) ?_
  refine pw_sipush hC dX5_startReading_2 rfl ?_
  refine pw_minI hC hl.1 kmX5_34 (Nat.le_of_ble_eq_true rfl) (Nat.le_of_ble_eq_true rfl) dX5_startReading_5 ⟨Nat.zero_le _, Nat.zero_le _⟩ ?_
  obtain ⟨h1, e1, hF⟩ := bnd hF
  refine pw_pfi hC hR e1 fpX5_19 (Or.inl rfl) dX5_startReading_8 (fun H locs hR => ?_)
  refine lv_aload_n hC.1 hC.2.1 dX5_startReading_11 rfl (lv_at hl 0 rfl) ?_
  refine pw_iconst hC dX5_startReading_12 ?_
  obtain ⟨h2, e2, hF⟩ := bnd hF
  refine pw_pfi hC hR e2 fpX5_28 (Or.inl rfl) dX5_startReading_13 (fun H locs hR => ?_)
  refine lv_aload_n hC.1 hC.2.1 dX5_startReading_16 rfl (lv_at hl 0 rfl) ?_
  obtain ⟨h3, e3, hF⟩ := bnd hF
  obtain ⟨fs3, ho3⟩ := OX5_advance e3
  refine pw_cVv (rest := []) hC hR lvX5_40 ho3 (CX5_advance e3) ⟨rfl, rfl⟩ rfl hl.1 rfl ⟨Nat.le_of_ble_eq_true rfl, Nat.le_of_ble_eq_true rfl⟩ (Nat.le_of_ble_eq_true rfl) dX5_startReading_17 ⟨Nat.zero_le _, Nat.zero_le _⟩ (fun H locs hR => ?_)
  cases hF
  exact pw_vret hC hR dX5_startReading_20
abbrev rmX4_fail : Room := { frames := 0, cells := 0, slots := 0, locals := 0 }
def FX4_fail (h : PH) (v0 : Nat) (v1 : Int) : Option (Int × PH) :=
  (isO h 4 v0).bind fun _ =>
  (pfi h 4 v0 1 v1).bind fun h1 =>
  (gfr h1 4 v0 0).bind fun x2 =>
  (gfi h1 5 x2 4).bind fun x3 =>
  (pfi h1 4 v0 2 x3).bind fun h4 =>
  some (0, h4)
theorem OX4_fail {h : PH} {v0 : Nat} {v1 : Int} {q : Int × PH} (hF : FX4_fail h v0 v1 = some q) : ∃ fs : List PV, h[v0]? = some (.inr (4, fs)) := by
  unfold FX4_fail at hF
  obtain ⟨u0, e0, -⟩ := bnd hF
  exact isO_spec e0
set_option maxHeartbeats 4000000 in
set_option maxRecDepth 100000 in
theorem CX4_fail {g : GP} {l : Launch} {ad : Nat → Nat} {h : PH} {v0 : Nat} {v1 : Int} {q : Int × PH} (hF : FX4_fail h v0 v1 = some q) : CN g l yX4_fail cX4_fail 2 (some .boolean) rmX4_fail ad h [.ref (ad v0), .int (Int32.ofInt v1)] (some (.int (Int32.ofInt q.1))) q.2 := by
  refine pw_met (by decide) (Nat.le_of_ble_eq_true rfl) ?_
  intro p e s m args below meth c ls hC hN hR hl
  have hl : lv_has ls 2 [(0, .ref (ad v0)), (1, .int (Int32.ofInt v1))] := hl
  unfold FX4_fail at hF
  obtain ⟨u0, e0, hF⟩ := bnd hF
  refine lv_aload_n hC.1 hC.2.1 dX4_fail_0 rfl (lv_at hl 0 rfl) ?_
  refine lv_iload_n hC.1 hC.2.1 dX4_fail_1 rfl (lv_at hl 1 rfl) ?_
  obtain ⟨h1, e1, hF⟩ := bnd hF
  refine pw_pfi hC hR e1 fpX4_18 (Or.inl rfl) dX4_fail_2 (fun H locs hR => ?_)
  refine lv_aload_n hC.1 hC.2.1 dX4_fail_5 rfl (lv_at hl 0 rfl) ?_
  refine lv_aload_n hC.1 hC.2.1 dX4_fail_6 rfl (lv_at hl 0 rfl) ?_
  obtain ⟨x2, e2, hF⟩ := bnd hF
  refine pw_gfr hC hR e2 flX4_12 dX4_fail_7 ?_
  obtain ⟨x3, e3, hF⟩ := bnd hF
  refine pw_gfi hC hR e3 flX4_169 dX4_fail_10 ?_
  obtain ⟨h4, e4, hF⟩ := bnd hF
  refine pw_pfi hC hR e4 fpX4_22 (Or.inl rfl) dX4_fail_13 (fun H locs hR => ?_)
  refine pw_iconst hC dX4_fail_16 ?_
  cases hF
  exact pw_zret hC hR (Or.inl rfl) dX4_fail_17
abbrev rmX4_takeNumber : Room := { frames := 1, cells := 0, slots := 0, locals := 21 }
def JX4_takeNumber_38 (h : PH) (v0 : Nat) : Option (Int × PH) :=
  (FX4_fail h v0 (-3)).bind fun q5 =>
  some ((-1), q5.2)
set_option maxHeartbeats 4000000 in
set_option maxRecDepth 100000 in
theorem BX4_takeNumber_38 {h : PH} {v0 : Nat} (hC : Cx g p s m args meth c cX4_takeNumber 4 RX4 (some .int)) (hR : Rl g ad h s.heap H locs) (hl : lv_has ls 4 [(0, .ref (ad v0))]) {q : Int × PH} (hF : JX4_takeNumber_38 h v0 = some q) : W p l e rmX4_takeNumber s m args below meth c H locs 0 0 (MQ below (QcN g ad q.2 (some (.int (Int32.ofInt q.1)))) args s 0 0 (gA g)) (F0 m 38 ls []) := by
  unfold JX4_takeNumber_38 at hF
  refine lv_aload_n hC.1 hC.2.1 dX4_takeNumber_38 rfl (lv_at hl 0 rfl) ?_
  refine pw_bipush hC dX4_takeNumber_39 rfl ?_
  obtain ⟨q5, e5, hF⟩ := bnd hF
  obtain ⟨fs5, ho5⟩ := OX4_fail e5
  refine pw_cVi (rest := []) hC hR lvX4_80 ho5 (CX4_fail e5) ⟨rfl, rfl⟩ rfl hl.1 rfl ⟨Nat.le_of_ble_eq_true rfl, Nat.le_of_ble_eq_true rfl⟩ (Nat.le_of_ble_eq_true rfl) dX4_takeNumber_41 ⟨Nat.zero_le _, Nat.zero_le _⟩ (fun H locs hR => ?_)
  refine lv_pop hC.1 hC.2.1 dX4_takeNumber_44 rfl ?_
  refine pw_iconst hC dX4_takeNumber_45 ?_
  cases hF
  exact pw_iret hC hR dX4_takeNumber_46
def FX4_takeNumber (h : PH) (v0 : Nat) (v1 : Int) (v2 : Int) : Option (Int × PH) :=
  (isO h 4 v0).bind fun _ =>
  (gfr h 4 v0 0).bind fun x1 =>
  (gfi h 5 x1 6).bind fun x2 =>
  (gfr h 4 v0 0).bind fun x3 =>
  (gfi h 5 x3 3).bind fun x4 =>
  if w32 x4 = w32 1 then (
    if w32 x2 < w32 v1 then (
      JX4_takeNumber_38 h v0
    ) else (
      if w32 v2 < w32 x2 then (
        JX4_takeNumber_38 h v0
      ) else (
        (gfr h 4 v0 0).bind fun x6 =>
        (FX5_advance h x6).bind fun h7 =>
        some (x2, h7)
      )
    )
  ) else (
    (FX4_fail h v0 (-2)).bind fun q8 =>
    some ((-1), q8.2)
  )
theorem OX4_takeNumber {h : PH} {v0 : Nat} {v1 : Int} {v2 : Int} {q : Int × PH} (hF : FX4_takeNumber h v0 v1 v2 = some q) : ∃ fs : List PV, h[v0]? = some (.inr (4, fs)) := by
  unfold FX4_takeNumber at hF
  obtain ⟨u0, e0, -⟩ := bnd hF
  exact isO_spec e0
set_option maxHeartbeats 4000000 in
set_option maxRecDepth 100000 in
theorem CX4_takeNumber {g : GP} {l : Launch} {ad : Nat → Nat} {h : PH} {v0 : Nat} {v1 : Int} {v2 : Int} {q : Int × PH} (hF : FX4_takeNumber h v0 v1 v2 = some q) : CN g l yX4_takeNumber cX4_takeNumber 4 (some .int) rmX4_takeNumber ad h [.ref (ad v0), .int (Int32.ofInt v1), .int (Int32.ofInt v2)] (some (.int (Int32.ofInt q.1))) q.2 := by
  refine pw_met (by decide) (Nat.le_of_ble_eq_true rfl) ?_
  intro p e s m args below meth c ls hC hN hR hl
  have hl : lv_has ls 4 [(0, .ref (ad v0)), (1, .int (Int32.ofInt v1)), (2, .int (Int32.ofInt v2))] := hl
  unfold FX4_takeNumber at hF
  obtain ⟨u0, e0, hF⟩ := bnd hF
  refine lv_aload_n hC.1 hC.2.1 dX4_takeNumber_0 rfl (lv_at hl 0 rfl) ?_
  obtain ⟨x1, e1, hF⟩ := bnd hF
  refine pw_gfr hC hR e1 flX4_12 dX4_takeNumber_1 ?_
  obtain ⟨x2, e2, hF⟩ := bnd hF
  refine pw_gfi hC hR e2 flX4_147 dX4_takeNumber_4 ?_
  refine lv_istore_n (lv' := [(3, .int (Int32.ofInt x2)), (0, .ref (ad v0)), (1, .int (Int32.ofInt v1)), (2, .int (Int32.ofInt v2))]) hC.1 hC.2.1 dX4_takeNumber_7 rfl hl (by decide) rfl (fun ls hl => ?_)
  refine lv_aload_n hC.1 hC.2.1 dX4_takeNumber_8 rfl (lv_at hl 1 rfl) ?_
  obtain ⟨x3, e3, hF⟩ := bnd hF
  refine pw_gfr hC hR e3 flX4_12 dX4_takeNumber_9 ?_
  obtain ⟨x4, e4, hF⟩ := bnd hF
  refine pw_gfi hC hR e4 flX4_49 dX4_takeNumber_12 ?_
  refine pw_iconst hC dX4_takeNumber_15 ?_
  refine pw_icmpeq hC 28 dX4_takeNumber_16 (by decide) (fun hc => ?_) (fun hc => ?_)
  · rw [if_pos hc] at hF
    refine lv_iload_n hC.1 hC.2.1 dX4_takeNumber_28 rfl (lv_at hl 0 rfl) ?_
    refine lv_iload_n hC.1 hC.2.1 dX4_takeNumber_29 rfl (lv_at hl 2 rfl) ?_
    refine pw_icmplt hC 38 dX4_takeNumber_30 (by decide) (fun hc => ?_) (fun hc => ?_)
    · rw [if_pos hc] at hF
      exact BX4_takeNumber_38 hC hR (lv_sub hl [1] rfl) hF
    · rw [if_neg hc] at hF
      refine lv_iload_n hC.1 hC.2.1 dX4_takeNumber_33 rfl (lv_at hl 0 rfl) ?_
      refine lv_iload_n hC.1 hC.2.1 dX4_takeNumber_34 rfl (lv_at hl 3 rfl) ?_
      refine pw_icmple hC 47 dX4_takeNumber_35 (by decide) (fun hc => ?_) (fun hc => ?_)
      · rw [if_neg hc] at hF
        refine lv_aload_n hC.1 hC.2.1 dX4_takeNumber_47 rfl (lv_at hl 1 rfl) ?_
        obtain ⟨x6, e6, hF⟩ := bnd hF
        refine pw_gfr hC hR e6 flX4_12 dX4_takeNumber_48 ?_
        obtain ⟨h7, e7, hF⟩ := bnd hF
        obtain ⟨fs7, ho7⟩ := OX5_advance e7
        refine pw_cVv (rest := []) hC hR lvX4_84 ho7 (CX5_advance e7) ⟨rfl, rfl⟩ rfl hl.1 rfl ⟨Nat.le_of_ble_eq_true rfl, Nat.le_of_ble_eq_true rfl⟩ (Nat.le_of_ble_eq_true rfl) dX4_takeNumber_51 ⟨Nat.zero_le _, Nat.zero_le _⟩ (fun H locs hR => ?_)
        refine lv_iload_n hC.1 hC.2.1 dX4_takeNumber_54 rfl (lv_at hl 0 rfl) ?_
        cases hF
        exact pw_iret hC hR dX4_takeNumber_55
      · rw [if_pos hc] at hF
        exact BX4_takeNumber_38 hC hR (lv_sub hl [1] rfl) hF
  · rw [if_neg hc] at hF
    refine lv_aload_n hC.1 hC.2.1 dX4_takeNumber_19 rfl (lv_at hl 1 rfl) ?_
    refine pw_bipush hC dX4_takeNumber_20 rfl ?_
    obtain ⟨q8, e8, hF⟩ := bnd hF
    obtain ⟨fs8, ho8⟩ := OX4_fail e8
    refine pw_cVi (rest := []) hC hR lvX4_80 ho8 (CX4_fail e8) ⟨rfl, rfl⟩ rfl hl.1 rfl ⟨Nat.le_of_ble_eq_true rfl, Nat.le_of_ble_eq_true rfl⟩ (Nat.le_of_ble_eq_true rfl) dX4_takeNumber_22 ⟨Nat.zero_le _, Nat.zero_le _⟩ (fun H locs hR => ?_)
    refine lv_pop hC.1 hC.2.1 dX4_takeNumber_25 rfl ?_
    refine pw_iconst hC dX4_takeNumber_26 ?_
    cases hF
    exact pw_iret hC hR dX4_takeNumber_27
abbrev rmX5_isMark : Room := { frames := 0, cells := 0, slots := 0, locals := 0 }
def JX5_isMark_26 (h : PH) (s0 : Int) : Option (Int) :=
  if s0 = 0 ∨ s0 = 1 then some s0 else none
set_option maxHeartbeats 4000000 in
set_option maxRecDepth 100000 in
theorem BX5_isMark_26 {h : PH} {s0 : Int} (hC : Cx g p s m args meth c cX5_isMark 2 RX5 (some .boolean)) (hR : Rl g ad h s.heap H locs) (hl : lv_has ls 2 []) {q : Int} (hF : JX5_isMark_26 h s0 = some q) : W p l e rmX5_isMark s m args below meth c H locs 0 0 (MQ below (QcN g ad h (some (.int (Int32.ofInt q)))) args s 0 0 (gA g)) (F0 m 26 ls [.int (Int32.ofInt s0)]) := by
  unfold JX5_isMark_26 at hF
  by_cases hb2 : s0 = 0 ∨ s0 = 1
  · rw [if_pos hb2] at hF
    cases hF
    exact pw_zret hC hR hb2 dX5_isMark_26
  · rw [if_neg hb2] at hF; cases hF
def JX5_isMark_25 (h : PH) : Option (Int) :=
  JX5_isMark_26 h 0
set_option maxHeartbeats 4000000 in
set_option maxRecDepth 100000 in
theorem BX5_isMark_25 {h : PH} (hC : Cx g p s m args meth c cX5_isMark 2 RX5 (some .boolean)) (hR : Rl g ad h s.heap H locs) (hl : lv_has ls 2 []) {q : Int} (hF : JX5_isMark_25 h  = some q) : W p l e rmX5_isMark s m args below meth c H locs 0 0 (MQ below (QcN g ad h (some (.int (Int32.ofInt q)))) args s 0 0 (gA g)) (F0 m 25 ls []) := by
  unfold JX5_isMark_25 at hF
  refine pw_iconst hC dX5_isMark_25 ?_
  exact BX5_isMark_26 hC hR (lv_sub hl [] rfl) hF
def FX5_isMark (h : PH) (v0 : Nat) (v1 : Int) : Option (Int) :=
  (isO h 5 v0).bind fun _ =>
  (gfi h 5 v0 3).bind fun x1 =>
  if w32 x1 = w32 3 then (
    (gfr h 5 v0 0).bind fun x3 =>
    (gfi h 5 v0 4).bind fun x4 =>
    (ald 1 h x3 x4).bind fun x5 =>
    if w32 x5 = w32 v1 then (
      JX5_isMark_26 h 1
    ) else (
      JX5_isMark_25 h
    )
  ) else (
    JX5_isMark_25 h
  )
theorem OX5_isMark {h : PH} {v0 : Nat} {v1 : Int} {q : Int} (hF : FX5_isMark h v0 v1 = some q) : ∃ fs : List PV, h[v0]? = some (.inr (5, fs)) := by
  unfold FX5_isMark at hF
  obtain ⟨u0, e0, -⟩ := bnd hF
  exact isO_spec e0
set_option maxHeartbeats 4000000 in
set_option maxRecDepth 100000 in
theorem CX5_isMark {g : GP} {l : Launch} {ad : Nat → Nat} {h : PH} {v0 : Nat} {v1 : Int} {q : Int} (hF : FX5_isMark h v0 v1 = some q) : CN g l yX5_isMark cX5_isMark 2 (some .boolean) rmX5_isMark ad h [.ref (ad v0), .int (Int32.ofInt v1)] (some (.int (Int32.ofInt q))) h := by
  refine pw_met (by decide) (Nat.le_of_ble_eq_true rfl) ?_
  intro p e s m args below meth c ls hC hN hR hl
  have hl : lv_has ls 2 [(0, .ref (ad v0)), (1, .int (Int32.ofInt v1))] := hl
  unfold FX5_isMark at hF
  obtain ⟨u0, e0, hF⟩ := bnd hF
  refine lv_aload_n hC.1 hC.2.1 dX5_isMark_0 rfl (lv_at hl 0 rfl) ?_
  obtain ⟨x1, e1, hF⟩ := bnd hF
  refine pw_gfi hC hR e1 flX5_22 dX5_isMark_1 ?_
  refine pw_iconst hC dX5_isMark_4 ?_
  refine pw_icmpne hC 25 dX5_isMark_5 (by decide) (fun hc => ?_) (fun hc => ?_)
  · rw [if_neg hc] at hF
    exact BX5_isMark_25 hC hR (lv_sub hl [] rfl) hF
  · rw [if_pos hc] at hF
    refine lv_aload_n hC.1 hC.2.1 dX5_isMark_8 rfl (lv_at hl 0 rfl) ?_
    obtain ⟨x3, e3, hF⟩ := bnd hF
    refine pw_gfr hC hR e3 flX5_9 dX5_isMark_9 ?_
    refine lv_aload_n hC.1 hC.2.1 dX5_isMark_12 rfl (lv_at hl 0 rfl) ?_
    obtain ⟨x4, e4, hF⟩ := bnd hF
    refine pw_gfi hC hR e4 flX5_25 dX5_isMark_13 ?_
    obtain ⟨x5, e5, hF⟩ := bnd hF
    refine pw_bald hC hR e5 dX5_isMark_16 ?_
    refine lv_iload_n hC.1 hC.2.1 dX5_isMark_17 rfl (lv_at hl 1 rfl) ?_
    refine pw_icmpne hC 25 dX5_isMark_18 (by decide) (fun hc => ?_) (fun hc => ?_)
    · rw [if_neg hc] at hF
      exact BX5_isMark_25 hC hR (lv_sub hl [] rfl) hF
    · rw [if_pos hc] at hF
      refine pw_iconst hC dX5_isMark_21 ?_
      refine pw_goto hC 26 dX5_isMark_22 (by decide) ?_
      exact BX5_isMark_26 hC hR (lv_sub hl [] rfl) hF
abbrev rmX4_takeMark : Room := { frames := 1, cells := 0, slots := 0, locals := 21 }
def FX4_takeMark (h : PH) (v0 : Nat) (v1 : Int) : Option (Int × PH) :=
  (isO h 4 v0).bind fun _ =>
  (gfr h 4 v0 0).bind fun x1 =>
  (FX5_isMark h x1 v1).bind fun x2 =>
  if w32 x2 = 0 then (
    (FX4_fail h v0 (-2)).bind fun q5 =>
    if q5.1 = 0 ∨ q5.1 = 1 then some (q5.1, q5.2) else none
  ) else (
    (gfr h 4 v0 0).bind fun x3 =>
    (FX5_advance h x3).bind fun h4 =>
    some (1, h4)
  )
theorem OX4_takeMark {h : PH} {v0 : Nat} {v1 : Int} {q : Int × PH} (hF : FX4_takeMark h v0 v1 = some q) : ∃ fs : List PV, h[v0]? = some (.inr (4, fs)) := by
  unfold FX4_takeMark at hF
  obtain ⟨u0, e0, -⟩ := bnd hF
  exact isO_spec e0
set_option maxHeartbeats 4000000 in
set_option maxRecDepth 100000 in
theorem CX4_takeMark {g : GP} {l : Launch} {ad : Nat → Nat} {h : PH} {v0 : Nat} {v1 : Int} {q : Int × PH} (hF : FX4_takeMark h v0 v1 = some q) : CN g l yX4_takeMark cX4_takeMark 2 (some .boolean) rmX4_takeMark ad h [.ref (ad v0), .int (Int32.ofInt v1)] (some (.int (Int32.ofInt q.1))) q.2 := by
  refine pw_met (by decide) (Nat.le_of_ble_eq_true rfl) ?_
  intro p e s m args below meth c ls hC hN hR hl
  have hl : lv_has ls 2 [(0, .ref (ad v0)), (1, .int (Int32.ofInt v1))] := hl
  unfold FX4_takeMark at hF
  obtain ⟨u0, e0, hF⟩ := bnd hF
  refine lv_aload_n hC.1 hC.2.1 dX4_takeMark_0 rfl (lv_at hl 0 rfl) ?_
  obtain ⟨x1, e1, hF⟩ := bnd hF
  refine pw_gfr hC hR e1 flX4_12 dX4_takeMark_1 ?_
  refine lv_iload_n hC.1 hC.2.1 dX4_takeMark_4 rfl (lv_at hl 1 rfl) ?_
  obtain ⟨x2, e2, hF⟩ := bnd hF
  obtain ⟨fs2, ho2⟩ := OX5_isMark e2
  refine pw_cVi (rest := []) hC hR lvX4_157 ho2 (CX5_isMark e2) ⟨rfl, rfl⟩ rfl hl.1 rfl ⟨Nat.le_of_ble_eq_true rfl, Nat.le_of_ble_eq_true rfl⟩ (Nat.le_of_ble_eq_true rfl) dX4_takeMark_5 ⟨Nat.zero_le _, Nat.zero_le _⟩ (fun H locs hR => ?_)
  refine pw_ifne hC 18 dX4_takeMark_8 (by decide) (fun hc => ?_) (fun hc => ?_)
  · rw [if_neg hc] at hF
    refine lv_aload_n hC.1 hC.2.1 dX4_takeMark_18 rfl (lv_at hl 0 rfl) ?_
    obtain ⟨x3, e3, hF⟩ := bnd hF
    refine pw_gfr hC hR e3 flX4_12 dX4_takeMark_19 ?_
    obtain ⟨h4, e4, hF⟩ := bnd hF
    obtain ⟨fs4, ho4⟩ := OX5_advance e4
    refine pw_cVv (rest := []) hC hR lvX4_84 ho4 (CX5_advance e4) ⟨rfl, rfl⟩ rfl hl.1 rfl ⟨Nat.le_of_ble_eq_true rfl, Nat.le_of_ble_eq_true rfl⟩ (Nat.le_of_ble_eq_true rfl) dX4_takeMark_22 ⟨Nat.zero_le _, Nat.zero_le _⟩ (fun H locs hR => ?_)
    refine pw_iconst hC dX4_takeMark_25 ?_
    cases hF
    exact pw_zret hC hR (Or.inr rfl) dX4_takeMark_26
  · rw [if_pos hc] at hF
    refine lv_aload_n hC.1 hC.2.1 dX4_takeMark_11 rfl (lv_at hl 0 rfl) ?_
    refine pw_bipush hC dX4_takeMark_12 rfl ?_
    obtain ⟨q5, e5, hF⟩ := bnd hF
    obtain ⟨fs5, ho5⟩ := OX4_fail e5
    refine pw_cVi (rest := []) hC hR lvX4_80 ho5 (CX4_fail e5) ⟨rfl, rfl⟩ rfl hl.1 rfl ⟨Nat.le_of_ble_eq_true rfl, Nat.le_of_ble_eq_true rfl⟩ (Nat.le_of_ble_eq_true rfl) dX4_takeMark_14 ⟨Nat.zero_le _, Nat.zero_le _⟩ (fun H locs hR => ?_)
    by_cases hb6 : q5.1 = 0 ∨ q5.1 = 1
    · rw [if_pos hb6] at hF
      cases hF
      exact pw_zret hC hR hb6 dX4_takeMark_17
    · rw [if_neg hb6] at hF; cases hF
abbrev rmX7_hasBit : Room := { frames := 0, cells := 0, slots := 0, locals := 0 }
def JX7_hasBit_23 (h : PH) (s0 : Int) : Option (Int) :=
  if s0 = 0 ∨ s0 = 1 then some s0 else none
set_option maxHeartbeats 4000000 in
set_option maxRecDepth 100000 in
theorem BX7_hasBit_23 {h : PH} {s0 : Int} (hC : Cx g p s m args meth c cX7_hasBit 2 RX7 (some .boolean)) (hR : Rl g ad h s.heap H locs) (hl : lv_has ls 2 []) {q : Int} (hF : JX7_hasBit_23 h s0 = some q) : W p l e rmX7_hasBit s m args below meth c H locs 0 0 (MQ below (QcN g ad h (some (.int (Int32.ofInt q)))) args s 0 0 (gA g)) (F0 m 23 ls [.int (Int32.ofInt s0)]) := by
  unfold JX7_hasBit_23 at hF
  by_cases hb1 : s0 = 0 ∨ s0 = 1
  · rw [if_pos hb1] at hF
    cases hF
    exact pw_zret hC hR hb1 dX7_hasBit_23
  · rw [if_neg hb1] at hF; cases hF
def JX7_hasBit_22 (h : PH) : Option (Int) :=
  JX7_hasBit_23 h 0
set_option maxHeartbeats 4000000 in
set_option maxRecDepth 100000 in
theorem BX7_hasBit_22 {h : PH} (hC : Cx g p s m args meth c cX7_hasBit 2 RX7 (some .boolean)) (hR : Rl g ad h s.heap H locs) (hl : lv_has ls 2 []) {q : Int} (hF : JX7_hasBit_22 h  = some q) : W p l e rmX7_hasBit s m args below meth c H locs 0 0 (MQ below (QcN g ad h (some (.int (Int32.ofInt q)))) args s 0 0 (gA g)) (F0 m 22 ls []) := by
  unfold JX7_hasBit_22 at hF
  refine pw_iconst hC dX7_hasBit_22 ?_
  exact BX7_hasBit_23 hC hR (lv_sub hl [] rfl) hF
def FX7_hasBit (h : PH) (v0 : Int) (v1 : Int) : Option (Int) :=
  if w32 v1 < 0 then (
    JX7_hasBit_22 h
  ) else (
    if w32 v1 < w32 32 then (
      if w32 (andI (ushrI v0 v1) 1) = 0 then (
        JX7_hasBit_22 h
      ) else (
        JX7_hasBit_23 h 1
      )
    ) else (
      JX7_hasBit_22 h
    )
  )
set_option maxHeartbeats 4000000 in
set_option maxRecDepth 100000 in
theorem CX7_hasBit {g : GP} {l : Launch} {ad : Nat → Nat} {h : PH} {v0 : Int} {v1 : Int} {q : Int} (hF : FX7_hasBit h v0 v1 = some q) : CN g l yX7_hasBit cX7_hasBit 2 (some .boolean) rmX7_hasBit ad h [.int (Int32.ofInt v0), .int (Int32.ofInt v1)] (some (.int (Int32.ofInt q))) h := by
  refine pw_met (by decide) (Nat.le_of_ble_eq_true rfl) ?_
  intro p e s m args below meth c ls hC hN hR hl
  have hl : lv_has ls 2 [(0, .int (Int32.ofInt v0)), (1, .int (Int32.ofInt v1))] := hl
  unfold FX7_hasBit at hF
  refine lv_iload_n hC.1 hC.2.1 dX7_hasBit_0 rfl (lv_at hl 1 rfl) ?_
  refine pw_iflt hC 22 dX7_hasBit_1 (by decide) (fun hc => ?_) (fun hc => ?_)
  · rw [if_pos hc] at hF
    exact BX7_hasBit_22 hC hR (lv_sub hl [] rfl) hF
  · rw [if_neg hc] at hF
    refine lv_iload_n hC.1 hC.2.1 dX7_hasBit_4 rfl (lv_at hl 1 rfl) ?_
    refine pw_bipush hC dX7_hasBit_5 rfl ?_
    refine pw_icmpge hC 22 dX7_hasBit_7 (by decide) (fun hc => ?_) (fun hc => ?_)
    · rw [if_neg hc] at hF
      exact BX7_hasBit_22 hC hR (lv_sub hl [] rfl) hF
    · rw [if_pos hc] at hF
      refine lv_iload_n hC.1 hC.2.1 dX7_hasBit_10 rfl (lv_at hl 0 rfl) ?_
      refine lv_iload_n hC.1 hC.2.1 dX7_hasBit_11 rfl (lv_at hl 1 rfl) ?_
      refine pw_iushr hC dX7_hasBit_12 ?_
      refine pw_iconst hC dX7_hasBit_13 ?_
      refine pw_iand hC dX7_hasBit_14 ?_
      refine pw_ifeq hC 22 dX7_hasBit_15 (by decide) (fun hc => ?_) (fun hc => ?_)
      · rw [if_pos hc] at hF
        exact BX7_hasBit_22 hC hR (lv_sub hl [] rfl) hF
      · rw [if_neg hc] at hF
        refine pw_iconst hC dX7_hasBit_18 ?_
        refine pw_goto hC 23 dX7_hasBit_19 (by decide) ?_
        exact BX7_hasBit_23 hC hR (lv_sub hl [] rfl) hF
end
