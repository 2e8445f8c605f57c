set_option maxRecDepth 100000 in
theorem liL_86 : Cond.methodLink RL 86 yX7_init ∈ TBg ∧ Cond.instanceMethod yX7_init ∈ TBg ∧ Cond.initialized yX7_init.cls ∈ TBg ∧ Cond.code yX7_init cX7_init 1 none ∈ TBg ∧ yX7_init.name = "<init>" ∧ yX7_init.cls ≠ "java/lang/invoke/MethodHandle" ∧ yX7_init.cls ≠ "java/lang/invoke/VarHandle" ∧ (parseMethodDescriptor yX7_init.desc).map (fun d => d.parameters.length) = some 0 := ⟨TBg_1 26 rfl rfl, TBg_1 27 rfl rfl, TBg_1 1 rfl rfl, TBg_1 28 rfl rfl, rfl, by decide, by decide, by decide +kernel⟩
set_option maxRecDepth 100000 in
theorem liL_89 : Cond.methodLink RL 89 yX8_init ∈ TBg ∧ Cond.instanceMethod yX8_init ∈ TBg ∧ Cond.initialized yX8_init.cls ∈ TBg ∧ Cond.code yX8_init cX8_init 1 none ∈ TBg ∧ yX8_init.name = "<init>" ∧ yX8_init.cls ≠ "java/lang/invoke/MethodHandle" ∧ yX8_init.cls ≠ "java/lang/invoke/VarHandle" ∧ (parseMethodDescriptor yX8_init.desc).map (fun d => d.parameters.length) = some 0 := ⟨TBg_4 200 rfl rfl, TBg_4 201 rfl rfl, TBg_1 9 rfl rfl, TBg_4 202 rfl rfl, rfl, by decide, by decide, by decide +kernel⟩
set_option maxRecDepth 100000 in
theorem nwL_8 : NwP RL 8 7 5 := ⟨RX7, TX7, tyX7, rfl, inX7, tyX7_ok, TBg_1 24 rfl rfl, TBg_1 25 rfl rfl, TBg_1 1 rfl rfl, by decide, by decide +kernel⟩
set_option maxRecDepth 100000 in
theorem nwL_87 : NwP RL 87 8 18 := ⟨RX8, TX8, tyX8, rfl, inX8, tyX8_ok, TBg_4 198 rfl rfl, TBg_4 199 rfl rfl, TBg_1 9 rfl rfl, by decide, by decide +kernel⟩
section
variable {p : Program} {l : Launch} {e : Env} {s : State} {m : MethodId} {args : Array Value} {below : List Frame} {meth : Method} {c : Code} {H : Heap} {locs : List Loc} {ls : Array Slot} {g : GP} {ad : Nat → Nat}
def LawStep (xs : Nat → Int) (L : Nat) (v1 v2 v3 : Nat) (v4 : Int) (h : PH) : Option PH :=
  (sld xs L v4).bind fun x => if w32 (andI x 31) = 0 then LC0 xs L v1 v2 v3 v4 h else if w32 (andI x 31) = 1 then LC1 xs L v1 v2 v3 v4 h else if w32 (andI x 31) = 2 then LC2 xs L v1 v2 v3 v4 h else if w32 (andI x 31) = 3 then LC3 xs L v1 v2 v3 v4 h else if w32 (andI x 31) = 4 then LC4 xs L v1 v2 v3 v4 h else if w32 (andI x 31) = 5 then LC5 xs L v1 v2 v3 v4 h else if w32 (andI x 31) = 6 then LC6 xs L v1 v2 v3 v4 h else if w32 (andI x 31) = 7 then LC7 xs L v1 v2 v3 v4 h else if w32 (andI x 31) = 8 then LC8 xs L v1 v2 v3 v4 h else if w32 (andI x 31) = 9 then LC9 xs L v1 v2 v3 v4 h else if w32 (andI x 31) = 10 then LC10 xs L v1 v2 v3 v4 h else if w32 (andI x 31) = 11 then LC11 xs L v1 v2 v3 v4 h else if w32 (andI x 31) = 12 then LC12 xs L v1 v2 v3 v4 h else if w32 (andI x 31) = 13 then LC13 xs L v1 v2 v3 v4 h else if w32 (andI x 31) = 14 then LC14 xs L v1 v2 v3 v4 h else if w32 (andI x 31) = 15 then LC15 xs L v1 v2 v3 v4 h else if w32 (andI x 31) = 16 then LC16 xs L v1 v2 v3 v4 h else if w32 (andI x 31) = 17 then LC17 xs L v1 v2 v3 v4 h else if w32 (andI x 31) = 18 then LC18 xs L v1 v2 v3 v4 h else if w32 (andI x 31) = 19 then LC19 xs L v1 v2 v3 v4 h else if w32 (andI x 31) = 20 then LC20 xs L v1 v2 v3 v4 h else if w32 (andI x 31) = 21 then LC21 xs L v1 v2 v3 v4 h else if w32 (andI x 31) = 22 then LC22 xs L v1 v2 v3 v4 h else if w32 (andI x 31) = 23 then LC23 xs L v1 v2 v3 v4 h else if w32 (andI x 31) = 24 then LC24 xs L v1 v2 v3 v4 h else if w32 (andI x 31) = 25 then LC25 xs L v1 v2 v3 v4 h else if w32 (andI x 31) = 26 then LC26 xs L v1 v2 v3 v4 h else if w32 (andI x 31) = 27 then LC27 xs L v1 v2 v3 v4 h else if w32 (andI x 31) = 28 then LC28 xs L v1 v2 v3 v4 h else if w32 (andI x 31) = 29 then LC29 xs L v1 v2 v3 v4 h else if w32 (andI x 31) = 30 then LC30 xs L v1 v2 v3 v4 h else if w32 (andI x 31) = 31 then LC31 xs L v1 v2 v3 v4 h else none
set_option maxHeartbeats 4000000 in
set_option maxRecDepth 100000 in
theorem TStep (hst : l.stackTraces = false) {v1 v2 v3 : Nat} {v4 : Int} {h h' : PH} {b L : Nat} {xs : Nat → Int} {cl sl : Nat} {Q : State → Prop} (hC : Cx g p s m args meth c cL_law 7 RL ret) (hX : LwX g s b L xs) (hR : Rl g ad h s.heap H locs) (hl : lv_has ls 7 [(0, .ref b), (1, .ref (ad v1)), (2, .ref (ad v2)), (3, .ref (ad v3)), (4, .int (Int32.ofInt v4))]) (hcl : cl + 4 ≤ 601024) (hsl : sl + 919 ≤ 7293034) (hF : LawStep xs L v1 v2 v3 v4 h = some h')
    (kk : ∀ (ad' : Nat → Nat) (H : Heap) (locs : List Loc) (ls : Array Slot), (∀ k, k < h.length → ad' k = ad k) → Rl g ad' h' s.heap H locs → lv_has ls 7 [(0, .ref b), (1, .ref (ad' v1)), (2, .ref (ad' v2)), (3, .ref (ad' v3)), (4, .int (Int32.ofInt v4))] → W p l e room_1 s m args below meth c H locs (cl + 4) (sl + 919) Q (F0 m 1728 ls [])) :
    W p l e room_1 s m args below meth c H locs cl sl Q (F0 m 33 ls []) := by
  unfold LawStep at hF
  obtain ⟨x, e1, hF⟩ := bnd hF
  refine lv_aload_n hC.1 hC.2.1 dL_law_33 rfl (lv_at hl 0 rfl) ?_
  refine lv_iload hC.1 hC.2.1 dL_law_34 (lv_at hl 4 rfl) ?_
  refine pw_sld hC hX hR e1 dL_law_36 ?_
  refine pw_bipush hC dL_law_37 rfl ?_
  refine pw_iand hC dL_law_39 ?_
  by_cases k0 : w32 (andI x 31) = 0
  · rw [if_pos k0] at hF
    have hk : (Int32.ofInt (andI x 31)).toInt = 0 := k0
    refine lv_tableIn (tgt := 184) hC.1 hC.2.1 dL_law_40 (by rw [hk]; decide) (by rw [hk]; decide) (off := 144) (by rw [hk]; rfl) (by decide) ?_
    exact TC0 hst hC hX hR hl hcl hsl hF kk
  rw [if_neg k0] at hF
  by_cases k1 : w32 (andI x 31) = 1
  · rw [if_pos k1] at hF
    have hk : (Int32.ofInt (andI x 31)).toInt = 1 := k1
    refine lv_tableIn (tgt := 257) hC.1 hC.2.1 dL_law_40 (by rw [hk]; decide) (by rw [hk]; decide) (off := 217) (by rw [hk]; rfl) (by decide) ?_
    exact TC1 hst hC hX hR hl hcl hsl hF kk
  rw [if_neg k1] at hF
  by_cases k2 : w32 (andI x 31) = 2
  · rw [if_pos k2] at hF
    have hk : (Int32.ofInt (andI x 31)).toInt = 2 := k2
    refine lv_tableIn (tgt := 313) hC.1 hC.2.1 dL_law_40 (by rw [hk]; decide) (by rw [hk]; decide) (off := 273) (by rw [hk]; rfl) (by decide) ?_
    exact TC2 hst hC hX hR hl hcl hsl hF kk
  rw [if_neg k2] at hF
  by_cases k3 : w32 (andI x 31) = 3
  · rw [if_pos k3] at hF
    have hk : (Int32.ofInt (andI x 31)).toInt = 3 := k3
    refine lv_tableIn (tgt := 326) hC.1 hC.2.1 dL_law_40 (by rw [hk]; decide) (by rw [hk]; decide) (off := 286) (by rw [hk]; rfl) (by decide) ?_
    exact TC3 hst hC hX hR hl hcl hsl hF kk
  rw [if_neg k3] at hF
  by_cases k4 : w32 (andI x 31) = 4
  · rw [if_pos k4] at hF
    have hk : (Int32.ofInt (andI x 31)).toInt = 4 := k4
    refine lv_tableIn (tgt := 339) hC.1 hC.2.1 dL_law_40 (by rw [hk]; decide) (by rw [hk]; decide) (off := 299) (by rw [hk]; rfl) (by decide) ?_
    exact TC4 hst hC hX hR hl hcl hsl hF kk
  rw [if_neg k4] at hF
  by_cases k5 : w32 (andI x 31) = 5
  · rw [if_pos k5] at hF
    have hk : (Int32.ofInt (andI x 31)).toInt = 5 := k5
    refine lv_tableIn (tgt := 352) hC.1 hC.2.1 dL_law_40 (by rw [hk]; decide) (by rw [hk]; decide) (off := 312) (by rw [hk]; rfl) (by decide) ?_
    exact TC5 hst hC hX hR hl hcl hsl hF kk
  rw [if_neg k5] at hF
  by_cases k6 : w32 (andI x 31) = 6
  · rw [if_pos k6] at hF
    have hk : (Int32.ofInt (andI x 31)).toInt = 6 := k6
    refine lv_tableIn (tgt := 365) hC.1 hC.2.1 dL_law_40 (by rw [hk]; decide) (by rw [hk]; decide) (off := 325) (by rw [hk]; rfl) (by decide) ?_
    exact TC6 hst hC hX hR hl hcl hsl hF kk
  rw [if_neg k6] at hF
  by_cases k7 : w32 (andI x 31) = 7
  · rw [if_pos k7] at hF
    have hk : (Int32.ofInt (andI x 31)).toInt = 7 := k7
    refine lv_tableIn (tgt := 378) hC.1 hC.2.1 dL_law_40 (by rw [hk]; decide) (by rw [hk]; decide) (off := 338) (by rw [hk]; rfl) (by decide) ?_
    exact TC7 hst hC hX hR hl hcl hsl hF kk
  rw [if_neg k7] at hF
  by_cases k8 : w32 (andI x 31) = 8
  · rw [if_pos k8] at hF
    have hk : (Int32.ofInt (andI x 31)).toInt = 8 := k8
    refine lv_tableIn (tgt := 434) hC.1 hC.2.1 dL_law_40 (by rw [hk]; decide) (by rw [hk]; decide) (off := 394) (by rw [hk]; rfl) (by decide) ?_
    exact TC8 hst hC hX hR hl hcl hsl hF kk
  rw [if_neg k8] at hF
  by_cases k9 : w32 (andI x 31) = 9
  · rw [if_pos k9] at hF
    have hk : (Int32.ofInt (andI x 31)).toInt = 9 := k9
    refine lv_tableIn (tgt := 490) hC.1 hC.2.1 dL_law_40 (by rw [hk]; decide) (by rw [hk]; decide) (off := 450) (by rw [hk]; rfl) (by decide) ?_
    exact TC9 hst hC hX hR hl hcl hsl hF kk
  rw [if_neg k9] at hF
  by_cases k10 : w32 (andI x 31) = 10
  · rw [if_pos k10] at hF
    have hk : (Int32.ofInt (andI x 31)).toInt = 10 := k10
    refine lv_tableIn (tgt := 546) hC.1 hC.2.1 dL_law_40 (by rw [hk]; decide) (by rw [hk]; decide) (off := 506) (by rw [hk]; rfl) (by decide) ?_
    exact TC10 hst hC hX hR hl hcl hsl hF kk
  rw [if_neg k10] at hF
  by_cases k11 : w32 (andI x 31) = 11
  · rw [if_pos k11] at hF
    have hk : (Int32.ofInt (andI x 31)).toInt = 11 := k11
    refine lv_tableIn (tgt := 602) hC.1 hC.2.1 dL_law_40 (by rw [hk]; decide) (by rw [hk]; decide) (off := 562) (by rw [hk]; rfl) (by decide) ?_
    exact TC11 hst hC hX hR hl hcl hsl hF kk
  rw [if_neg k11] at hF
  by_cases k12 : w32 (andI x 31) = 12
  · rw [if_pos k12] at hF
    have hk : (Int32.ofInt (andI x 31)).toInt = 12 := k12
    refine lv_tableIn (tgt := 658) hC.1 hC.2.1 dL_law_40 (by rw [hk]; decide) (by rw [hk]; decide) (off := 618) (by rw [hk]; rfl) (by decide) ?_
    exact TC12 hst hC hX hR hl hcl hsl hF kk
  rw [if_neg k12] at hF
  by_cases k13 : w32 (andI x 31) = 13
  · rw [if_pos k13] at hF
    have hk : (Int32.ofInt (andI x 31)).toInt = 13 := k13
    refine lv_tableIn (tgt := 721) hC.1 hC.2.1 dL_law_40 (by rw [hk]; decide) (by rw [hk]; decide) (off := 681) (by rw [hk]; rfl) (by decide) ?_
    exact TC13 hst hC hX hR hl hcl hsl hF kk
  rw [if_neg k13] at hF
  by_cases k14 : w32 (andI x 31) = 14
  · rw [if_pos k14] at hF
    have hk : (Int32.ofInt (andI x 31)).toInt = 14 := k14
    refine lv_tableIn (tgt := 777) hC.1 hC.2.1 dL_law_40 (by rw [hk]; decide) (by rw [hk]; decide) (off := 737) (by rw [hk]; rfl) (by decide) ?_
    exact TC14 hst hC hX hR hl hcl hsl hF kk
  rw [if_neg k14] at hF
  by_cases k15 : w32 (andI x 31) = 15
  · rw [if_pos k15] at hF
    have hk : (Int32.ofInt (andI x 31)).toInt = 15 := k15
    refine lv_tableIn (tgt := 845) hC.1 hC.2.1 dL_law_40 (by rw [hk]; decide) (by rw [hk]; decide) (off := 805) (by rw [hk]; rfl) (by decide) ?_
    exact TC15 hst hC hX hR hl hcl hsl hF kk
  rw [if_neg k15] at hF
  by_cases k16 : w32 (andI x 31) = 16
  · rw [if_pos k16] at hF
    have hk : (Int32.ofInt (andI x 31)).toInt = 16 := k16
    refine lv_tableIn (tgt := 901) hC.1 hC.2.1 dL_law_40 (by rw [hk]; decide) (by rw [hk]; decide) (off := 861) (by rw [hk]; rfl) (by decide) ?_
    exact TC16 hst hC hX hR hl hcl hsl hF kk
  rw [if_neg k16] at hF
  by_cases k17 : w32 (andI x 31) = 17
  · rw [if_pos k17] at hF
    have hk : (Int32.ofInt (andI x 31)).toInt = 17 := k17
    refine lv_tableIn (tgt := 957) hC.1 hC.2.1 dL_law_40 (by rw [hk]; decide) (by rw [hk]; decide) (off := 917) (by rw [hk]; rfl) (by decide) ?_
    exact TC17 hst hC hX hR hl hcl hsl hF kk
  rw [if_neg k17] at hF
  by_cases k18 : w32 (andI x 31) = 18
  · rw [if_pos k18] at hF
    have hk : (Int32.ofInt (andI x 31)).toInt = 18 := k18
    refine lv_tableIn (tgt := 1013) hC.1 hC.2.1 dL_law_40 (by rw [hk]; decide) (by rw [hk]; decide) (off := 973) (by rw [hk]; rfl) (by decide) ?_
    exact TC18 hst hC hX hR hl hcl hsl hF kk
  rw [if_neg k18] at hF
  by_cases k19 : w32 (andI x 31) = 19
  · rw [if_pos k19] at hF
    have hk : (Int32.ofInt (andI x 31)).toInt = 19 := k19
    refine lv_tableIn (tgt := 1069) hC.1 hC.2.1 dL_law_40 (by rw [hk]; decide) (by rw [hk]; decide) (off := 1029) (by rw [hk]; rfl) (by decide) ?_
    exact TC19 hst hC hX hR hl hcl hsl hF kk
  rw [if_neg k19] at hF
  by_cases k20 : w32 (andI x 31) = 20
  · rw [if_pos k20] at hF
    have hk : (Int32.ofInt (andI x 31)).toInt = 20 := k20
    refine lv_tableIn (tgt := 1132) hC.1 hC.2.1 dL_law_40 (by rw [hk]; decide) (by rw [hk]; decide) (off := 1092) (by rw [hk]; rfl) (by decide) ?_
    exact TC20 hst hC hX hR hl hcl hsl hF kk
  rw [if_neg k20] at hF
  by_cases k21 : w32 (andI x 31) = 21
  · rw [if_pos k21] at hF
    have hk : (Int32.ofInt (andI x 31)).toInt = 21 := k21
    refine lv_tableIn (tgt := 1145) hC.1 hC.2.1 dL_law_40 (by rw [hk]; decide) (by rw [hk]; decide) (off := 1105) (by rw [hk]; rfl) (by decide) ?_
    exact TC21 hst hC hX hR hl hcl hsl hF kk
  rw [if_neg k21] at hF
  by_cases k22 : w32 (andI x 31) = 22
  · rw [if_pos k22] at hF
    have hk : (Int32.ofInt (andI x 31)).toInt = 22 := k22
    refine lv_tableIn (tgt := 1158) hC.1 hC.2.1 dL_law_40 (by rw [hk]; decide) (by rw [hk]; decide) (off := 1118) (by rw [hk]; rfl) (by decide) ?_
    exact TC22 hst hC hX hR hl hcl hsl hF kk
  rw [if_neg k22] at hF
  by_cases k23 : w32 (andI x 31) = 23
  · rw [if_pos k23] at hF
    have hk : (Int32.ofInt (andI x 31)).toInt = 23 := k23
    refine lv_tableIn (tgt := 1214) hC.1 hC.2.1 dL_law_40 (by rw [hk]; decide) (by rw [hk]; decide) (off := 1174) (by rw [hk]; rfl) (by decide) ?_
    exact TC23 hst hC hX hR hl hcl hsl hF kk
  rw [if_neg k23] at hF
  by_cases k24 : w32 (andI x 31) = 24
  · rw [if_pos k24] at hF
    have hk : (Int32.ofInt (andI x 31)).toInt = 24 := k24
    refine lv_tableIn (tgt := 1282) hC.1 hC.2.1 dL_law_40 (by rw [hk]; decide) (by rw [hk]; decide) (off := 1242) (by rw [hk]; rfl) (by decide) ?_
    exact TC24 hst hC hX hR hl hcl hsl hF kk
  rw [if_neg k24] at hF
  by_cases k25 : w32 (andI x 31) = 25
  · rw [if_pos k25] at hF
    have hk : (Int32.ofInt (andI x 31)).toInt = 25 := k25
    refine lv_tableIn (tgt := 1338) hC.1 hC.2.1 dL_law_40 (by rw [hk]; decide) (by rw [hk]; decide) (off := 1298) (by rw [hk]; rfl) (by decide) ?_
    exact TC25 hst hC hX hR hl hcl hsl hF kk
  rw [if_neg k25] at hF
  by_cases k26 : w32 (andI x 31) = 26
  · rw [if_pos k26] at hF
    have hk : (Int32.ofInt (andI x 31)).toInt = 26 := k26
    refine lv_tableIn (tgt := 1418) hC.1 hC.2.1 dL_law_40 (by rw [hk]; decide) (by rw [hk]; decide) (off := 1378) (by rw [hk]; rfl) (by decide) ?_
    exact TC26 hst hC hX hR hl hcl hsl hF kk
  rw [if_neg k26] at hF
  by_cases k27 : w32 (andI x 31) = 27
  · rw [if_pos k27] at hF
    have hk : (Int32.ofInt (andI x 31)).toInt = 27 := k27
    refine lv_tableIn (tgt := 1486) hC.1 hC.2.1 dL_law_40 (by rw [hk]; decide) (by rw [hk]; decide) (off := 1446) (by rw [hk]; rfl) (by decide) ?_
    exact TC27 hst hC hX hR hl hcl hsl hF kk
  rw [if_neg k27] at hF
  by_cases k28 : w32 (andI x 31) = 28
  · rw [if_pos k28] at hF
    have hk : (Int32.ofInt (andI x 31)).toInt = 28 := k28
    refine lv_tableIn (tgt := 1542) hC.1 hC.2.1 dL_law_40 (by rw [hk]; decide) (by rw [hk]; decide) (off := 1502) (by rw [hk]; rfl) (by decide) ?_
    exact TC28 hst hC hX hR hl hcl hsl hF kk
  rw [if_neg k28] at hF
  by_cases k29 : w32 (andI x 31) = 29
  · rw [if_pos k29] at hF
    have hk : (Int32.ofInt (andI x 31)).toInt = 29 := k29
    refine lv_tableIn (tgt := 1610) hC.1 hC.2.1 dL_law_40 (by rw [hk]; decide) (by rw [hk]; decide) (off := 1570) (by rw [hk]; rfl) (by decide) ?_
    exact TC29 hst hC hX hR hl hcl hsl hF kk
  rw [if_neg k29] at hF
  by_cases k30 : w32 (andI x 31) = 30
  · rw [if_pos k30] at hF
    have hk : (Int32.ofInt (andI x 31)).toInt = 30 := k30
    refine lv_tableIn (tgt := 1701) hC.1 hC.2.1 dL_law_40 (by rw [hk]; decide) (by rw [hk]; decide) (off := 1661) (by rw [hk]; rfl) (by decide) ?_
    exact TC30 hst hC hX hR hl hcl hsl hF kk
  rw [if_neg k30] at hF
  by_cases k31 : w32 (andI x 31) = 31
  · rw [if_pos k31] at hF
    have hk : (Int32.ofInt (andI x 31)).toInt = 31 := k31
    refine lv_tableIn (tgt := 1714) hC.1 hC.2.1 dL_law_40 (by rw [hk]; decide) (by rw [hk]; decide) (off := 1674) (by rw [hk]; rfl) (by decide) ?_
    exact TC31 hst hC hX hR hl hcl hsl hF kk
  rw [if_neg k31] at hF
  cases hF
theorem lp_s {σ ρ : Type} {f : σ → Option (σ ⊕ ρ)} {n : Nat} {s : σ} {r : ρ} (h : lp f (n + 1) s = some r) : (∃ s', f s = some (.inl s') ∧ lp f n s' = some r) ∨ f s = some (.inr r) := by
  rw [lp] at h
  cases hf : f s with
  | none => rw [hf] at h; cases h
  | some q =>
    rw [hf] at h
    cases q with
    | inl s' => exact Or.inl ⟨s', rfl, h⟩
    | inr r' => cases h; exact Or.inr rfl
def LawF (xs : Nat → Int) (L : Nat) (v1 v2 v3 : Nat) (v4 : Int) (h : PH) : Option ((Int × PH) ⊕ Unit) :=
  if w32 ((L : Int) - 6) < w32 v4 then some (.inr ()) else (LawStep xs L v1 v2 v3 v4 h).bind fun h' => some (.inl (v4 + 6, h'))
set_option maxHeartbeats 4000000 in
set_option maxRecDepth 100000 in
theorem TLoop (hst : l.stackTraces = false) {v1 v2 v3 b L : Nat} {xs : Nat → Int} {Q : State → Prop} (hC : Cx g p s m args meth c cL_law 7 RL ret) (hX : LwX g s b L xs)
    (kk : ∀ (ad : Nat → Nat) (h : PH) (H : Heap) (locs : List Loc) (ls : Array Slot) (cl sl : Nat), cl ≤ 601024 → sl ≤ 7293034 → Rl g ad h s.heap H locs → ls.size = 7 → W p l e room_1 s m args below meth c H locs cl sl Q (F0 m 1734 ls [])) :
    ∀ (n : Nat) (st : Int × PH), lp (fun st : Int × PH => LawF xs L v1 v2 v3 st.1 st.2) n st = some () → ∀ (ad : Nat → Nat) (H : Heap) (locs : List Loc) (ls : Array Slot) (cl sl : Nat), cl + 4 * n ≤ 601024 → sl + 919 * n ≤ 7293034 → Rl g ad st.2 s.heap H locs → lv_has ls 7 [(0, .ref b), (1, .ref (ad v1)), (2, .ref (ad v2)), (3, .ref (ad v3)), (4, .int (Int32.ofInt st.1))] → W p l e room_1 s m args below meth c H locs cl sl Q (F0 m 23 ls []) := by
  intro n
  induction n with
  | zero => intro st h; cases h
  | succ n ih =>
    rintro ⟨v4, h⟩ hF ad H locs ls cl sl hcl hsl hR hl
    have hR : Rl g ad h s.heap H locs := hR
    have hl : lv_has ls 7 [(0, .ref b), (1, .ref (ad v1)), (2, .ref (ad v2)), (3, .ref (ad v3)), (4, .int (Int32.ofInt v4))] := hl
    have hF := lp_s hF
    dsimp only at hF
    unfold LawF at hF
    refine lv_iload hC.1 hC.2.1 dL_law_23 (lv_at hl 4 rfl) ?_
    refine lv_aload_n hC.1 hC.2.1 dL_law_25 rfl (lv_at hl 0 rfl) ?_
    refine pw_slenX hC hX hR dL_law_26 ?_
    refine pw_bipush hC dL_law_27 rfl ?_
    refine pw_isub hC dL_law_29 ?_
    refine pw_icmpgt hC 1734 dL_law_30 (by decide) (fun hc => ?_) (fun hc => ?_)
    · exact kk ad h H locs ls cl sl (by omega) (by omega) hR hl.1
    · rw [if_neg hc] at hF
      cases hS : LawStep xs L v1 v2 v3 v4 h with
      | none => rw [hS] at hF; rcases hF with ⟨s', hF, _⟩ | hF <;> cases hF
      | some h2 =>
        rw [hS] at hF
        have hF : lp (fun st : Int × PH => LawF xs L v1 v2 v3 st.1 st.2) n (v4 + 6, h2) = some () := by
          rcases hF with ⟨s', hF, h3⟩ | hF
          · cases hF; exact h3
          · cases hF
        refine TStep hst hC hX hR hl (by omega) (by omega) hS (fun ad2 H locs ls hag hR hl => ?_)
        refine pw_iinc (lv' := [(4, .int (Int32.ofInt (v4 + 6))), (0, .ref b), (1, .ref (ad2 v1)), (2, .ref (ad2 v2)), (3, .ref (ad2 v3))]) hC hl 4 dL_law_1728 rfl (by decide) rfl (fun ls hl => ?_)
        refine pw_goto hC 23 dL_law_1731 (by decide) ?_
        exact ih (v4 + 6, h2) hF ad2 H locs ls (cl + 4) (sl + 919) (by omega) (by omega) hR (lv_sub hl [1, 2, 3, 4, 0] rfl)
def LawPre (h : PH) : Option (Nat × Nat × Nat × PH) :=
  (gdL h h []).bind fun _ =>
  (nwo h 7).bind fun h2 =>
  (gdL h h2 [h.length]).bind fun _ =>
  (FX7_init h2 h.length).bind fun h4 =>
  (gdL h h4 [h.length]).bind fun _ =>
  (nwo h4 8).bind fun h6 =>
  (gdL h h6 [h.length, h4.length]).bind fun _ =>
  (FX8_init h6 h4.length).bind fun h8 =>
  (gdL h h8 [h.length, h4.length]).bind fun _ =>
  (nwa h8 3 1).bind fun h10 =>
  some (h.length, h4.length, h8.length, h10)
set_option maxHeartbeats 4000000 in
set_option maxRecDepth 100000 in
theorem TPre {h : PH} {b : Nat} {q : Nat × Nat × Nat × PH} {Q : State → Prop} (hC : Cx g p s m args meth c cL_law 7 RL ret) (hR : Rl g ad h s.heap H locs) (hl : lv_has ls 7 [(0, .ref b)]) (hF : LawPre h = some q)
    (kk : ∀ (ad : Nat → Nat) (H : Heap) (locs : List Loc) (ls : Array Slot), Rl g ad q.2.2.2 s.heap H locs → lv_has ls 7 [(0, .ref b), (1, .ref (ad q.1)), (2, .ref (ad q.2.1)), (3, .ref (ad q.2.2.1)), (4, .int (Int32.ofInt 0))] → W p l e room_1 s m args below meth c H locs 244 27942 Q (F0 m 23 ls [])) :
    W p l e room_1 s m args below meth c H locs 0 0 Q (F0 m 0 ls []) := by
  have hA : ∀ k, k < h.length → ad k = ad k := fun _ _ => rfl
  unfold LawPre at hF
  obtain ⟨u1, eu1, hF⟩ := bnd hF
  have hg1 := gdL_spec eu1
  have hl : lv_has ls 7 [(0, .ref b)] := lv_sub hl [0] rfl
  obtain ⟨h2, e2, hF⟩ := bnd hF
  refine pw_new hC hR e2 nwL_8 dL_law_0 (Nat.le_of_ble_eq_true rfl) (Nat.le_of_ble_eq_true rfl) (fun ad2 H hag hR => ?_)
  have hA : ∀ k, k < h.length → ad2 k = ad k := fun k hk => (hag k (Nat.lt_of_lt_of_le hk hg1.1)).trans (hA k hk)
  refine lv_dup hC.1 hC.2.1 dL_law_3 rfl ?_
  obtain ⟨u3, eu3, hF⟩ := bnd hF
  have hg3 := gdL_spec eu3
  have hl : lv_has ls 7 [(0, .ref b)] := lv_sub hl [0] rfl
  obtain ⟨h4, e4, hF⟩ := bnd hF
  refine pw_cIA (rest := [.ref (ad2 h.length)]) hC hR liL_86 (CX7_init e4) rfl hl.1 rfl ⟨(Nat.le_of_ble_eq_true rfl), (Nat.le_of_ble_eq_true rfl)⟩ (Nat.le_of_ble_eq_true rfl) dL_law_4 ⟨(Nat.le_of_ble_eq_true rfl), (Nat.le_of_ble_eq_true rfl)⟩ (fun ad4 H locs hag hR => ?_)
  have hA : ∀ k, k < h.length → ad4 k = ad k := fun k hk => (hag k (Nat.lt_of_lt_of_le hk hg3.1)).trans (hA k hk)
  rw [← hag h.length (hg3.2 _ (by simp))]
  refine lv_astore_n (lv' := [(1, .ref (ad4 h.length)), (0, .ref b)]) hC.1 hC.2.1 dL_law_7 rfl hl (by decide) rfl (fun ls hl => ?_)
  obtain ⟨u5, eu5, hF⟩ := bnd hF
  have hg5 := gdL_spec eu5
  have hl : lv_has ls 7 [(1, .ref (ad4 h.length)), (0, .ref b)] := lv_sub hl [0, 1] rfl
  obtain ⟨h6, e6, hF⟩ := bnd hF
  refine pw_new hC hR e6 nwL_87 dL_law_8 (Nat.le_of_ble_eq_true rfl) (Nat.le_of_ble_eq_true rfl) (fun ad6 H hag hR => ?_)
  have hA : ∀ k, k < h.length → ad6 k = ad k := fun k hk => (hag k (Nat.lt_of_lt_of_le hk hg5.1)).trans (hA k hk)
  rw [← hag h.length (hg5.2 _ (by simp))] at hl
  refine lv_dup hC.1 hC.2.1 dL_law_11 rfl ?_
  obtain ⟨u7, eu7, hF⟩ := bnd hF
  have hg7 := gdL_spec eu7
  have hl : lv_has ls 7 [(1, .ref (ad6 h.length)), (0, .ref b)] := lv_sub hl [0, 1] rfl
  obtain ⟨h8, e8, hF⟩ := bnd hF
  refine pw_cIA (rest := [.ref (ad6 h4.length)]) hC hR liL_89 (CX8_init e8) rfl hl.1 rfl ⟨(Nat.le_of_ble_eq_true rfl), (Nat.le_of_ble_eq_true rfl)⟩ (Nat.le_of_ble_eq_true rfl) dL_law_12 ⟨(Nat.le_of_ble_eq_true rfl), (Nat.le_of_ble_eq_true rfl)⟩ (fun ad8 H locs hag hR => ?_)
  have hA : ∀ k, k < h.length → ad8 k = ad k := fun k hk => (hag k (Nat.lt_of_lt_of_le hk hg7.1)).trans (hA k hk)
  rw [← hag h.length (hg7.2 _ (by simp))] at hl
  rw [← hag h4.length (hg7.2 _ (by simp))]
  refine lv_astore_n (lv' := [(2, .ref (ad8 h4.length)), (1, .ref (ad8 h.length)), (0, .ref b)]) hC.1 hC.2.1 dL_law_15 rfl hl (by decide) rfl (fun ls hl => ?_)
  refine pw_iconst hC dL_law_16 ?_
  obtain ⟨u9, eu9, hF⟩ := bnd hF
  have hg9 := gdL_spec eu9
  have hl : lv_has ls 7 [(2, .ref (ad8 h4.length)), (1, .ref (ad8 h.length)), (0, .ref b)] := lv_sub hl [0, 1, 2] rfl
  obtain ⟨h10, e10, hF⟩ := bnd hF
  refine pw_newa hC hR e10 acJ rfl (Or.inr (Or.inr (Or.inr ⟨rfl, rfl, rfl⟩))) dL_law_17 (Nat.le_of_ble_eq_true rfl) (Nat.le_of_ble_eq_true rfl) (fun ad10 H hag hR => ?_)
  have hA : ∀ k, k < h.length → ad10 k = ad k := fun k hk => (hag k (Nat.lt_of_lt_of_le hk hg9.1)).trans (hA k hk)
  rw [← hag h4.length (hg9.2 _ (by simp))] at hl
  rw [← hag h.length (hg9.2 _ (by simp))] at hl
  refine lv_astore_n (lv' := [(3, .ref (ad10 h8.length)), (2, .ref (ad10 h4.length)), (1, .ref (ad10 h.length)), (0, .ref b)]) hC.1 hC.2.1 dL_law_19 rfl hl (by decide) rfl (fun ls hl => ?_)
  refine pw_iconst hC dL_law_20 ?_
  refine lv_istore (lv' := [(4, .int (Int32.ofInt 0)), (3, .ref (ad10 h8.length)), (2, .ref (ad10 h4.length)), (1, .ref (ad10 h.length)), (0, .ref b)]) hC.1 hC.2.1 dL_law_21 hl (by decide) rfl (fun ls hl => ?_)
  cases hF
  exact kk _ _ _ _ hR (lv_sub hl [4, 3, 2, 1, 0] rfl)
end
