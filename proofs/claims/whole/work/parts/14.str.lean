/-! ===== the JDK's String over the nine words ===== -/
theorem ch_ok : ∀ n : Nat, n < 128 → (Int32.ofInt (n : Int) &&& Int32.ofInt 255 = Int32.ofInt (n : Int) ∧ ((Int32.ofInt (n : Int)).toUInt32 % 65536).toInt32 = Int32.ofInt (n : Int) ∧ narrow .char (.int (Int32.ofInt (n : Int))) = .int (Int32.ofInt (n : Int))) := by decide +kernel
theorem strB_ok : ∀ i : Nat, i < 9 → ((strB.getD i []).length < 16 ∧ ∀ x ∈ strB.getD i [], 0 ≤ x ∧ x < 128) := by decide +kernel
def schr (i : Nat) (k : Int) : Option Int := if i < 9 ∧ 0 ≤ k then (strB.getD i [])[k.toNat]? else none
section PW
variable {p : Program} {l : Launch} {e : Env} {R : Room} {s : State} {m : MethodId} {args : Array Value} {below : List Frame} {meth : Method} {c : Code} {H : Heap} {locs : List Loc} {cells slots : Nat} {Q : State → Prop}
variable {cc : ByteArray} {pc : Nat} {ls : Array Slot} {rest : List Value} {g : GP} {ad : Nat → Nat} {h h' : PH} {own : String} {nL : Nat} {ret : Option FieldType}
theorem Cx.stC (C : Cx g p s m args meth c cc nL own ret) : StC g s s.heap := C.2.2.2.2.2.1.2.2.1.2.2
theorem Cx.stB (C : Cx g p s m args meth c cc nL own ret) : StB g s := C.2.2.2.2.2.1.2.2.1.2.1
theorem Cx.stA (C : Cx g p s m args meth c cc nL own ret) : StA s := C.2.2.2.2.2.1.2.2.1.1
/-- a virtual call of a receiver of a known class -/
theorem pw_runW {y : MethodName} {b : ByteArray} {maxL n index : Nat} {r : Option FieldType} {rm : Room} {o : Nat} {Qc : Array Value → State → Outcome → State → Prop} {As st0 : List Value} (C : Cx g p s m args meth c cc nL own ret) (hR : Rl g ad h s.heap H locs)
    (S : Cond.methodLink own index y ∈ TBg ∧ Cond.instanceMethod y ∈ TBg ∧ Cond.selects y.cls y y ∈ TBg ∧ Cond.initialized y.cls ∈ TBg ∧ Cond.code y b maxL r ∈ TBg ∧ y.cls ≠ "java/lang/invoke/MethodHandle" ∧ y.cls ≠ "java/lang/invoke/VarHandle" ∧ (parseMethodDescriptor y.desc).map (fun d => d.parameters.length) = some n)
    (ho : va_O y.cls o (gA g) s s.heap)
    (hM : Met l y (Cond.code y b maxL r :: TBg) rm (PcN g ad h (.ref o :: As)) Qc rm.cells rm.slots (gA g)) (hn : As.length = n) (hsz : ls.size = nL) (hst : st0 = As.reverse ++ .ref o :: rest) (hroom : rm.frames + 1 ≤ R.frames ∧ 8 + (maxL + 11) + rm.locals ≤ R.locals) (hcat : (rest.map fun v => v.category).sum ≤ 8) (hdg : decode cc pc = .ok (.invokevirtual index, 3)) (hf : cells + rm.cells ≤ R.cells ∧ slots + rm.slots ≤ R.slots) :
    va_Run p l e R s m args below meth c H locs cells slots rm.cells rm.slots (F0 m pc ls st0) rest (Qc (Value.ref o :: As).toArray) (gA g) := by
  obtain ⟨s1, s2, s3, s4, s5, s6, s7, s8⟩ := S
  have hp := pw_pre C hR (.ref o :: As)
  obtain ⟨cell, h1, h2, h3, -⟩ := ho.kept hR.2.2.1.2.1
  refine va_runV (C := y.cls) (As := As) (rest := rest) (pw_fix C) hM ⟨callB_of n C.2.2.2.2.1 (TBg_cons s5) rfl rfl rfl (C.2.2.2.2.1 _ s4) (C.2.2.2.2.1 _ s1) ⟨s6, s7, s8⟩ hroom, C.2.2.2.2.1 _ s2, C.2.2.2.2.1 _ s3⟩ ⟨hp.1, ⟨cell, h1, h2, h3⟩, hp.2⟩ rfl hn hsz hst (lv_room hcat) hdg hf
/-- .. that makes nothing and answers an int -/
theorem pw_cWi {y : MethodName} {b : ByteArray} {maxL n index : Nat} {r : Option FieldType} {rm : Room} {o : Nat} {x : Int} {As st0 : List Value} (C : Cx g p s m args meth c cc nL own ret) (hR : Rl g ad h s.heap H locs)
    (S : Cond.methodLink own index y ∈ TBg ∧ Cond.instanceMethod y ∈ TBg ∧ Cond.selects y.cls y y ∈ TBg ∧ Cond.initialized y.cls ∈ TBg ∧ Cond.code y b maxL r ∈ TBg ∧ y.cls ≠ "java/lang/invoke/MethodHandle" ∧ y.cls ≠ "java/lang/invoke/VarHandle" ∧ (parseMethodDescriptor y.desc).map (fun d => d.parameters.length) = some n)
    (ho : va_O y.cls o (gA g) s s.heap) (hM : CN g l y b maxL r rm ad h (.ref o :: As) (some (.int (Int32.ofInt x))) h) (h0 : rm.cells = 0 ∧ rm.slots = 0) (hn : As.length = n) (hsz : ls.size = nL) (hst : st0 = As.reverse ++ .ref o :: rest) (hroom : rm.frames + 1 ≤ R.frames ∧ 8 + (maxL + 11) + rm.locals ≤ R.locals) (hcat : (rest.map fun v => v.category).sum ≤ 8) (hdg : decode cc pc = .ok (.invokevirtual index, 3)) (hf : cells ≤ R.cells ∧ slots ≤ R.slots)
    (kk : ∀ (H1 : Heap) (locs1 : List Loc), Rl g ad h s.heap H1 locs1 → W p l e R s m args below meth c H1 locs1 cells slots Q (F0 m (pc + 3) ls (.int (Int32.ofInt x) :: rest))) : W p l e R s m args below meth c H locs cells slots Q (F0 m pc ls st0) := by
  refine pw_call hR (pw_runW C hR S ho hM hn hsz hst hroom hcat hdg ⟨by rw [h0.1]; exact hf.1, by rw [h0.2]; exact hf.2⟩) ?_
  rw [h0.1, h0.2]
  exact kk
theorem pw_xret {ty : FieldType} (C : Cx g p s m args meth c cc nL own (some ty)) (hR : Rl g ad h s.heap H locs) {x : Int} (hn : narrow ty (.int (Int32.ofInt x)) = .int (Int32.ofInt x)) (hdg : decode cc pc = .ok (.ireturn, 1)) : W p l e R s m args below meth c H locs cells slots (MQ below (QcN g ad h (some (.int (Int32.ofInt x)))) args s cells slots (gA g)) (F0 m pc ls [.int (Int32.ofInt x)]) :=
  W.zret C.1 C.2.1 C.2.2.2.2.2.2.2 hn (pw_q hR) hR.2.2.1.2.2 hdg C.2.2.2.2.2.2.1
end PW
abbrev rmJ0 : Room := { frames := 0, cells := 0, slots := 0, locals := 0 }
abbrev rmJ1 : Room := { frames := 1, cells := 0, slots := 0, locals := 22 }
abbrev rmJ2 : Room := { frames := 2, cells := 0, slots := 0, locals := 44 }
abbrev rmJ3 : Room := { frames := 3, cells := 0, slots := 0, locals := 66 }
abbrev rmJ4 : Room := { frames := 4, cells := 0, slots := 0, locals := 88 }
set_option maxRecDepth 100000 in
theorem kwc : Cond.fieldLink RJ0 38 "java/lang/String" "COMPACT_STRINGS" "Z" ∈ TBg := TBg_3 12 rfl rfl
set_option maxRecDepth 100000 in
theorem kwk : Cond.fieldLink RJ0 15 "java/lang/String" "coder" "B" ∈ TBg := TBg_6 93 rfl rfl
set_option maxRecDepth 100000 in
theorem kwv : Cond.fieldLink RJ0 9 "java/lang/String" "value" "[B" ∈ TBg := TBg_6 92 rfl rfl
set_option maxRecDepth 100000 in
theorem kwf : Cond.fieldLink RJ0 1053 "jdk/internal/util/Preconditions" "SIOOBE_FORMATTER" "Ljava/util/function/BiFunction;" ∈ TBg := TBg_3 28 rfl rfl
set_option maxRecDepth 100000 in
theorem C_coder {g : GP} {l : Launch} {ad : Nat → Nat} {h : PH} {i : Nat} (hi : i < 9) : CN g l yJ0_coder_7d493 cJ0_coder_7d493 1 (some .byte) rmJ0 ad h [.ref (g.2.2.2.1 i)] (some (.int (Int32.ofInt 0))) h := by
  refine pw_met (by decide) (Nat.le_of_ble_eq_true rfl) ?_
  intro p e s m args below meth c ls hC hN hR hl
  have hl : lv_has ls 1 [(0, .ref (g.2.2.2.1 i))] := hl
  refine va_gets hC.1 hC.2.1 hC.stC.2.1.1 hR.2.2.1 hC.2.2.2.1 (hC.2.2.2.2.1 _ kwc) (fun _ q => q) dJ0_coder_7d493_0 ?_
  refine lv_if_eq (tgt := 13) hC.1 hC.2.1 dJ0_coder_7d493_3 (by decide) (fun hc => absurd hc (by decide)) (fun _ => ?_)
  refine lv_aload_n hC.1 hC.2.1 dJ0_coder_7d493_6 rfl (lv_at hl 0 rfl) ?_
  refine vk_getf hC.1 hC.2.1 (hC.stC.1 i hi).2.1 hR.2.2.1 hC.2.2.2.1 (hC.2.2.2.2.1 _ kwk) (fun _ q => q) dJ0_coder_7d493_7 ?_
  refine lv_goto (tgt := 14) hC.1 hC.2.1 dJ0_coder_7d493_10 (by decide) ?_
  exact pw_xret (x := 0) hC hR (by decide) dJ0_coder_7d493_14
set_option maxRecDepth 100000 in
theorem C_isLatin1 {g : GP} {l : Launch} {ad : Nat → Nat} {h : PH} {i : Nat} (hi : i < 9) : CN g l yJ0_isLatin1_aae02 cJ0_isLatin1_aae02 1 (some .boolean) rmJ0 ad h [.ref (g.2.2.2.1 i)] (some (.int (Int32.ofInt 1))) h := by
  refine pw_met (by decide) (Nat.le_of_ble_eq_true rfl) ?_
  intro p e s m args below meth c ls hC hN hR hl
  have hl : lv_has ls 1 [(0, .ref (g.2.2.2.1 i))] := hl
  refine va_gets hC.1 hC.2.1 hC.stC.2.1.1 hR.2.2.1 hC.2.2.2.1 (hC.2.2.2.2.1 _ kwc) (fun _ q => q) dJ0_isLatin1_aae02_0 ?_
  refine lv_if_eq (tgt := 17) hC.1 hC.2.1 dJ0_isLatin1_aae02_3 (by decide) (fun hc => absurd hc (by decide)) (fun _ => ?_)
  refine lv_aload_n hC.1 hC.2.1 dJ0_isLatin1_aae02_6 rfl (lv_at hl 0 rfl) ?_
  refine vk_getf hC.1 hC.2.1 (hC.stC.1 i hi).2.1 hR.2.2.1 hC.2.2.2.1 (hC.2.2.2.2.1 _ kwk) (fun _ q => q) dJ0_isLatin1_aae02_7 ?_
  refine lv_if_ne (tgt := 17) hC.1 hC.2.1 dJ0_isLatin1_aae02_10 (by decide) (fun hc => absurd rfl hc) (fun _ => ?_)
  refine pw_iconst hC dJ0_isLatin1_aae02_13 ?_
  refine lv_goto (tgt := 18) hC.1 hC.2.1 dJ0_isLatin1_aae02_14 (by decide) ?_
  exact pw_zret (x := 1) hC hR (Or.inr rfl) dJ0_isLatin1_aae02_18
set_option maxRecDepth 100000 in
theorem lw_coder : Cond.methodLink RJ0 335 yJ0_coder_7d493 ∈ TBg ∧ Cond.instanceMethod yJ0_coder_7d493 ∈ TBg ∧ Cond.selects yJ0_coder_7d493.cls yJ0_coder_7d493 yJ0_coder_7d493 ∈ TBg ∧ Cond.initialized yJ0_coder_7d493.cls ∈ TBg ∧ Cond.code yJ0_coder_7d493 cJ0_coder_7d493 1 (some .byte) ∈ TBg ∧ yJ0_coder_7d493.cls ≠ "java/lang/invoke/MethodHandle" ∧ yJ0_coder_7d493.cls ≠ "java/lang/invoke/VarHandle" ∧ (parseMethodDescriptor yJ0_coder_7d493.desc).map (fun d => d.parameters.length) = some 0 := ⟨TBg_3 8 rfl rfl, TBg_3 9 rfl rfl, TBg_3 10 rfl rfl, TBg_1 15 rfl rfl, TBg_3 11 rfl rfl, by decide, by decide, by decide +kernel⟩
set_option maxRecDepth 100000 in
theorem lw_isLatin1 : Cond.methodLink RJ0 492 yJ0_isLatin1_aae02 ∈ TBg ∧ Cond.instanceMethod yJ0_isLatin1_aae02 ∈ TBg ∧ Cond.selects yJ0_isLatin1_aae02.cls yJ0_isLatin1_aae02 yJ0_isLatin1_aae02 ∈ TBg ∧ Cond.initialized yJ0_isLatin1_aae02.cls ∈ TBg ∧ Cond.code yJ0_isLatin1_aae02 cJ0_isLatin1_aae02 1 (some .boolean) ∈ TBg ∧ yJ0_isLatin1_aae02.cls ≠ "java/lang/invoke/MethodHandle" ∧ yJ0_isLatin1_aae02.cls ≠ "java/lang/invoke/VarHandle" ∧ (parseMethodDescriptor yJ0_isLatin1_aae02.desc).map (fun d => d.parameters.length) = some 0 := ⟨TBg_3 18 rfl rfl, TBg_3 19 rfl rfl, TBg_3 20 rfl rfl, TBg_1 15 rfl rfl, TBg_3 21 rfl rfl, by decide, by decide, by decide +kernel⟩
theorem shr0 : ∀ n : Nat, n < 16 → Int32.ofInt (n : Int) >>> (Int32.ofInt 0 &&& 31) = Int32.ofInt (n : Int) := by decide +kernel
set_option maxRecDepth 100000 in
set_option maxHeartbeats 4000000 in
theorem C_strlen {g : GP} {l : Launch} {ad : Nat → Nat} {h : PH} {i : Nat} (hi : i < 9) : CN g l yJ0_length_8abf5 cJ0_length_8abf5 1 (some .int) rmJ1 ad h [.ref (g.2.2.2.1 i)] (some (.int (Int32.ofInt (slen i)))) h := by
  refine pw_met (by decide) (Nat.le_of_ble_eq_true rfl) ?_
  intro p e s m args below meth c ls hC hN hR hl
  have hl : lv_has ls 1 [(0, .ref (g.2.2.2.1 i))] := hl
  refine lv_aload_n hC.1 hC.2.1 dJ0_length_8abf5_0 rfl (lv_at hl 0 rfl) ?_
  refine vk_getf hC.1 hC.2.1 (hC.stC.1 i hi).2.2.1 hR.2.2.1 hC.2.2.2.1 (hC.2.2.2.2.1 _ kwv) (fun _ q => q) dJ0_length_8abf5_1 ?_
  refine va_tlen hC.1 hC.2.1 (hC.stC.1 i hi).2.2.2 hR.2.2.1 (v := Int32.ofInt (slen i)) (Int32.ofInt_eq_ofNat).symm dJ0_length_8abf5_4 ?_
  refine lv_aload_n hC.1 hC.2.1 dJ0_length_8abf5_5 rfl (lv_at hl 0 rfl) ?_
  refine pw_cWi (rest := [.int (Int32.ofInt (slen i))]) hC hR lw_coder (hC.stC.1 i hi).1 (C_coder hi) ⟨rfl, rfl⟩ rfl hl.1 rfl ⟨Nat.le_of_ble_eq_true rfl, Nat.le_of_ble_eq_true rfl⟩ (Nat.le_of_ble_eq_true rfl) dJ0_length_8abf5_6 ⟨Nat.zero_le _, Nat.zero_le _⟩ (fun H locs hR => ?_)
  refine lv_ishr hC.1 hC.2.1 dJ0_length_8abf5_9 ?_
  unfold slen
  rw [shr0 _ (strB_ok i hi).1]
  exact pw_iret hC hR dJ0_length_8abf5_10
set_option maxRecDepth 100000 in
set_option maxHeartbeats 4000000 in
theorem C_pchk {g : GP} {l : Launch} {ad : Nat → Nat} {h : PH} {x y : Int} {v : Value} (hv : v = .null ∨ ∃ t, v = .ref t) (h1 : ¬ w32 x < 0) (h2 : w32 x < w32 y) : CN g l yJ3_checkIndex_8e157 cJ3_checkIndex_8e157 3 (some .int) rmJ0 ad h [.int (Int32.ofInt x), .int (Int32.ofInt y), v] (some (.int (Int32.ofInt x))) h := by
  have key : ∀ v : Value, (lg_sl [.int (Int32.ofInt x), .int (Int32.ofInt y), v]).length ≤ 3 → lv_args 0 [.int (Int32.ofInt x), .int (Int32.ofInt y), v] = [(0, .int (Int32.ofInt x)), (1, .int (Int32.ofInt y)), (2, v)] → CN g l yJ3_checkIndex_8e157 cJ3_checkIndex_8e157 3 (some .int) rmJ0 ad h [.int (Int32.ofInt x), .int (Int32.ofInt y), v] (some (.int (Int32.ofInt x))) h := by
    intro v hv1 hv2
    refine pw_met (by decide) hv1 ?_
    intro p e s m args below meth c ls hC hN hR hl
    rw [hv2] at hl
    refine lv_iload_n hC.1 hC.2.1 dJ3_checkIndex_8e157_0 rfl (lv_at hl 0 rfl) ?_
    refine pw_iflt hC 9 dJ3_checkIndex_8e157_1 (by decide) (fun hc => absurd hc h1) (fun _ => ?_)
    refine lv_iload_n hC.1 hC.2.1 dJ3_checkIndex_8e157_4 rfl (lv_at hl 0 rfl) ?_
    refine lv_iload_n hC.1 hC.2.1 dJ3_checkIndex_8e157_5 rfl (lv_at hl 1 rfl) ?_
    refine pw_icmplt hC 16 dJ3_checkIndex_8e157_6 (by decide) (fun _ => ?_) (fun hc => absurd h2 hc)
    refine lv_iload_n hC.1 hC.2.1 dJ3_checkIndex_8e157_16 rfl (lv_at hl 0 rfl) ?_
    exact pw_iret hC hR dJ3_checkIndex_8e157_17
  rcases hv with rfl | ⟨t, rfl⟩
  · exact key _ (Nat.le_of_ble_eq_true rfl) rfl
  · exact key _ (Nat.le_of_ble_eq_true rfl) rfl
set_option maxRecDepth 100000 in
theorem lw_pchk : SlP RJ0 1059 yJ3_checkIndex_8e157 cJ3_checkIndex_8e157 3 (some .int) 3 := ⟨TBg_3 30 rfl rfl, TBg_3 31 rfl rfl, TBg_1 17 rfl rfl, TBg_3 32 rfl rfl, by decide, by decide, by decide +kernel⟩
set_option maxRecDepth 100000 in
theorem lw_schk : SlP RJ1 9 yJ0_checkIndex_df160 cJ0_checkIndex_df160 2 none 2 := ⟨TBg_3 25 rfl rfl, TBg_3 26 rfl rfl, TBg_1 15 rfl rfl, TBg_3 27 rfl rfl, by decide, by decide, by decide +kernel⟩
set_option maxRecDepth 100000 in
theorem lw_lch : SlP RJ0 495 yJ1_charAt_3b067 cJ1_charAt_3b067 2 (some .char) 2 := ⟨TBg_3 22 rfl rfl, TBg_3 23 rfl rfl, TBg_1 16 rfl rfl, TBg_3 24 rfl rfl, by decide, by decide, by decide +kernel⟩
set_option maxRecDepth 100000 in
set_option maxHeartbeats 4000000 in
theorem C_schk {g : GP} {l : Launch} {ad : Nat → Nat} {h : PH} {x y : Int} (h1 : ¬ w32 x < 0) (h2 : w32 x < w32 y) : CN g l yJ0_checkIndex_df160 cJ0_checkIndex_df160 2 none rmJ1 ad h [.int (Int32.ofInt x), .int (Int32.ofInt y)] none h := by
  refine pw_met (by decide) (Nat.le_of_ble_eq_true rfl) ?_
  intro p e s m args below meth c ls hC hN hR hl
  have hl : lv_has ls 2 [(0, .int (Int32.ofInt x)), (1, .int (Int32.ofInt y))] := hl
  refine lv_iload_n hC.1 hC.2.1 dJ0_checkIndex_df160_0 rfl (lv_at hl 0 rfl) ?_
  refine lv_iload_n hC.1 hC.2.1 dJ0_checkIndex_df160_1 rfl (lv_at hl 1 rfl) ?_
  rcases hC.stC.2.1.2 with hz | ⟨t, hz⟩
  · refine va_gets hC.1 hC.2.1 hz hR.2.2.1 hC.2.2.2.1 (hC.2.2.2.2.1 _ kwf) (fun _ q => q) dJ0_checkIndex_df160_2 ?_
    refine pw_cSi (rest := []) hC hR lw_pchk (C_pchk (v := .null) (Or.inl rfl) h1 h2) ⟨rfl, rfl⟩ rfl hl.1 rfl ⟨Nat.le_of_ble_eq_true rfl, Nat.le_of_ble_eq_true rfl⟩ (Nat.le_of_ble_eq_true rfl) dJ0_checkIndex_df160_5 ⟨Nat.zero_le _, Nat.zero_le _⟩ (fun H locs hR => ?_)
    refine lv_pop hC.1 hC.2.1 dJ0_checkIndex_df160_8 rfl ?_
    exact pw_vret hC hR dJ0_checkIndex_df160_9
  · refine va_gets hC.1 hC.2.1 hz hR.2.2.1 hC.2.2.2.1 (hC.2.2.2.2.1 _ kwf) (fun _ q => q) dJ0_checkIndex_df160_2 ?_
    refine pw_cSi (rest := []) hC hR lw_pchk (C_pchk (v := .ref t) (Or.inr ⟨t, rfl⟩) h1 h2) ⟨rfl, rfl⟩ rfl hl.1 rfl ⟨Nat.le_of_ble_eq_true rfl, Nat.le_of_ble_eq_true rfl⟩ (Nat.le_of_ble_eq_true rfl) dJ0_checkIndex_df160_5 ⟨Nat.zero_le _, Nat.zero_le _⟩ (fun H locs hR => ?_)
    refine lv_pop hC.1 hC.2.1 dJ0_checkIndex_df160_8 rfl ?_
    exact pw_vret hC hR dJ0_checkIndex_df160_9
theorem schr_spec {i : Nat} {k x : Int} (e : schr i k = some x) : i < 9 ∧ 0 ≤ k ∧ k < slen i ∧ (strB.getD i [])[k.toNat]? = some x ∧ 0 ≤ x ∧ x < 128 ∧ slen i < 16 := by
  unfold schr at e
  split at e
  · rename_i h0
    have hl := (List.getElem?_eq_some_iff.mp e).1
    have hm := (strB_ok i h0.1).2 x (List.mem_of_getElem? e)
    have h3 := (strB_ok i h0.1).1
    unfold slen
    exact ⟨h0.1, h0.2, by omega, e, hm.1, hm.2, by omega⟩
  · cases e
set_option maxRecDepth 100000 in
set_option maxHeartbeats 4000000 in
theorem C_lch {g : GP} {l : Launch} {ad : Nat → Nat} {h : PH} {i : Nat} {k x : Int} (e : schr i k = some x) : CN g l yJ1_charAt_3b067 cJ1_charAt_3b067 2 (some .char) rmJ2 ad h [.ref (g.2.2.2.2 i), .int (Int32.ofInt k)] (some (.int (Int32.ofInt x))) h := by
  obtain ⟨q1, q2, q3, q4, q5, q6, q7⟩ := schr_spec e
  refine pw_met (by decide) (Nat.le_of_ble_eq_true rfl) ?_
  intro p e s m args below meth c ls hC hN hR hl
  have hl : lv_has ls 2 [(0, .ref (g.2.2.2.2 i)), (1, .int (Int32.ofInt k))] := hl
  refine lv_iload_n hC.1 hC.2.1 dJ1_charAt_3b067_0 rfl (lv_at hl 1 rfl) ?_
  refine lv_aload_n hC.1 hC.2.1 dJ1_charAt_3b067_1 rfl (lv_at hl 0 rfl) ?_
  refine va_tlen hC.1 hC.2.1 (hC.stC.1 i q1).2.2.2 hR.2.2.1 (v := Int32.ofInt (slen i)) (Int32.ofInt_eq_ofNat).symm dJ1_charAt_3b067_2 ?_
  refine pw_cSv (rest := []) hC hR lw_schk (C_schk (x := k) (y := slen i) (by rw [w32_eq (by omega) (by omega)]; omega) (by rw [w32_eq (by omega) (by omega), w32_eq (by omega) (by omega)]; exact q3)) ⟨rfl, rfl⟩ rfl hl.1 rfl ⟨Nat.le_of_ble_eq_true rfl, Nat.le_of_ble_eq_true rfl⟩ (Nat.le_of_ble_eq_true rfl) dJ1_charAt_3b067_3 ⟨Nat.zero_le _, Nat.zero_le _⟩ (fun H locs hR => ?_)
  refine lv_aload_n hC.1 hC.2.1 dJ1_charAt_3b067_6 rfl (lv_at hl 0 rfl) ?_
  refine lv_iload_n hC.1 hC.2.1 dJ1_charAt_3b067_7 rfl (lv_at hl 1 rfl) ?_
  have hlen : k < ((strB.getD i []).length : Int) := q3
  have hn : (strB.getD i []).length < 2147483648 := Nat.lt_trans (strB_ok i q1).1 (by decide)
  refine va_tb hC.1 hC.2.1 (hC.stC.1 i q1).2.2.2 hR.2.2.1 (vp_in_o32 q2 hlen hn) (v := .int (Int32.ofInt x)) (by rw [nat_o32 q2 hlen hn, getD_of q4]) dJ1_charAt_3b067_8 ?_
  refine pw_sipush hC dJ1_charAt_3b067_9 rfl ?_
  refine lv_iand hC.1 hC.2.1 dJ1_charAt_3b067_12 ?_
  have hx := ch_ok x.toNat (by omega)
  rw [show ((x.toNat : Nat) : Int) = x by omega] at hx
  rw [hx.1]
  refine lv_i2c hC.1 hC.2.1 dJ1_charAt_3b067_13 (v := Int32.ofInt x) hx.2.1 ?_
  exact pw_xret hC hR hx.2.2 dJ1_charAt_3b067_14
set_option maxRecDepth 100000 in
set_option maxHeartbeats 4000000 in
theorem C_charAt {g : GP} {l : Launch} {ad : Nat → Nat} {h : PH} {i : Nat} {k x : Int} (e : schr i k = some x) : CN g l yJ0_charAt_5068e cJ0_charAt_5068e 2 (some .char) rmJ3 ad h [.ref (g.2.2.2.1 i), .int (Int32.ofInt k)] (some (.int (Int32.ofInt x))) h := by
  obtain ⟨q1, q2, q3, q4, q5, q6, q7⟩ := schr_spec e
  refine pw_met (by decide) (Nat.le_of_ble_eq_true rfl) ?_
  intro p e0 s m args below meth c ls hC hN hR hl
  have hl : lv_has ls 2 [(0, .ref (g.2.2.2.1 i)), (1, .int (Int32.ofInt k))] := hl
  refine lv_aload_n hC.1 hC.2.1 dJ0_charAt_5068e_0 rfl (lv_at hl 0 rfl) ?_
  refine pw_cWi (rest := []) hC hR lw_isLatin1 (hC.stC.1 i q1).1 (C_isLatin1 q1) ⟨rfl, rfl⟩ rfl hl.1 rfl ⟨Nat.le_of_ble_eq_true rfl, Nat.le_of_ble_eq_true rfl⟩ (Nat.le_of_ble_eq_true rfl) dJ0_charAt_5068e_1 ⟨Nat.zero_le _, Nat.zero_le _⟩ (fun H locs hR => ?_)
  refine lv_if_eq (tgt := 16) hC.1 hC.2.1 dJ0_charAt_5068e_4 (by decide) (fun hc => absurd hc (by decide)) (fun _ => ?_)
  refine lv_aload_n hC.1 hC.2.1 dJ0_charAt_5068e_7 rfl (lv_at hl 0 rfl) ?_
  refine vk_getf hC.1 hC.2.1 (hC.stC.1 i q1).2.2.1 hR.2.2.1 hC.2.2.2.1 (hC.2.2.2.2.1 _ kwv) (fun _ q => q) dJ0_charAt_5068e_8 ?_
  refine lv_iload_n hC.1 hC.2.1 dJ0_charAt_5068e_11 rfl (lv_at hl 1 rfl) ?_
  refine pw_cSi (rest := []) hC hR lw_lch (C_lch e) ⟨rfl, rfl⟩ rfl hl.1 rfl ⟨Nat.le_of_ble_eq_true rfl, Nat.le_of_ble_eq_true rfl⟩ (Nat.le_of_ble_eq_true rfl) dJ0_charAt_5068e_12 ⟨Nat.zero_le _, Nat.zero_le _⟩ (fun H locs hR => ?_)
  have hx := ch_ok x.toNat (by omega)
  rw [show ((x.toNat : Nat) : Int) = x by omega] at hx
  exact pw_xret hC hR hx.2.2 dJ0_charAt_5068e_15
section PW
variable {p : Program} {l : Launch} {e : Env} {R : Room} {s : State} {m : MethodId} {args : Array Value} {below : List Frame} {meth : Method} {c : Code} {H : Heap} {locs : List Loc} {cells slots : Nat} {Q : State → Prop}
variable {cc : ByteArray} {pc : Nat} {ls : Array Slot} {rest : List Value} {g : GP} {ad : Nat → Nat} {h h' : PH} {own : String} {nL : Nat} {ret : Option FieldType}
/-- a literal onto the stack -/
theorem pw_ldcs (C : Cx g p s m args meth c cc nL own ret) (i : Nat) {index : Nat} {tx : String} (hq : (own, index, tx, i) ∈ strT) (hdg : decode cc pc = .ok (.ldc index, 2))
    (kk : W p l e R s m args below meth c H locs cells slots Q (F0 m (pc + 2) ls (.ref (g.2.2.2.1 i) :: rest))) : W p l e R s m args below meth c H locs cells slots Q (F0 m pc ls rest) := va_ldcS C.1 C.2.1 C.2.2.2.1 (C.stB _ hq) hdg kk
def YlP (own : String) (index : Nat) (y : MethodName) (b : ByteArray) (maxL : Nat) (r : Option FieldType) (n : Nat) : Prop := Cond.methodLink own index y ∈ TBg ∧ Cond.instanceMethod y ∈ TBg ∧ Cond.selects y.cls y y ∈ TBg ∧ Cond.initialized y.cls ∈ TBg ∧ Cond.code y b maxL r ∈ TBg ∧ y.cls ≠ "java/lang/invoke/MethodHandle" ∧ y.cls ≠ "java/lang/invoke/VarHandle" ∧ (parseMethodDescriptor y.desc).map (fun d => d.parameters.length) = some n
/-- length() of a literal -/
def sln (i : Nat) : Option Int := if i < 9 then some (slen i) else none
theorem pw_slen (C : Cx g p s m args meth c cc nL own ret) (hR : Rl g ad h s.heap H locs) {i index : Nat} {x : Int} (e1 : sln i = some x) (S : YlP own index yJ0_length_8abf5 cJ0_length_8abf5 1 (some .int) 0) (hsz : ls.size = nL) (hroom : 2 ≤ R.frames ∧ 42 ≤ R.locals) (hcat : (rest.map fun v => v.category).sum ≤ 8) (hdg : decode cc pc = .ok (.invokevirtual index, 3)) (hf : cells ≤ R.cells ∧ slots ≤ R.slots)
    (kk : ∀ (H1 : Heap) (locs1 : List Loc), Rl g ad h s.heap H1 locs1 → W p l e R s m args below meth c H1 locs1 cells slots Q (F0 m (pc + 3) ls (.int (Int32.ofInt x) :: rest))) : W p l e R s m args below meth c H locs cells slots Q (F0 m pc ls (.ref (g.2.2.2.1 i) :: rest)) := by
  unfold sln at e1
  split at e1
  · rename_i hi
    cases e1
    exact pw_cWi (As := []) C hR S (C.stC.1 i hi).1 (C_strlen hi) ⟨rfl, rfl⟩ rfl hsz rfl hroom hcat hdg hf kk
  · cases e1
/-- charAt of a literal -/
theorem pw_schr (C : Cx g p s m args meth c cc nL own ret) (hR : Rl g ad h s.heap H locs) {i index : Nat} {k x : Int} (e1 : schr i k = some x) (S : YlP own index yJ0_charAt_5068e cJ0_charAt_5068e 2 (some .char) 1) (hsz : ls.size = nL) (hroom : 4 ≤ R.frames ∧ 87 ≤ R.locals) (hcat : (rest.map fun v => v.category).sum ≤ 8) (hdg : decode cc pc = .ok (.invokevirtual index, 3)) (hf : cells ≤ R.cells ∧ slots ≤ R.slots)
    (kk : ∀ (H1 : Heap) (locs1 : List Loc), Rl g ad h s.heap H1 locs1 → W p l e R s m args below meth c H1 locs1 cells slots Q (F0 m (pc + 3) ls (.int (Int32.ofInt x) :: rest))) : W p l e R s m args below meth c H locs cells slots Q (F0 m pc ls (.int (Int32.ofInt k) :: .ref (g.2.2.2.1 i) :: rest)) :=
  pw_cWi (As := [.int (Int32.ofInt k)]) C hR S (C.stC.1 i (schr_spec e1).1).1 (C_charAt e1) ⟨rfl, rfl⟩ rfl hsz rfl hroom hcat hdg hf kk
end PW
