set_option maxRecDepth 100000 in
theorem flX4_68 : FlG RX4 68 3 2 (.object "HardwareTaskQueue$Formula") false := ⟨RX3, TX3, 4, tyX3, rfl, inX3, by decide, TBg_1 231 rfl rfl, tyX3_ok, nmX3, rfl, rfl, by decide⟩
set_option maxRecDepth 100000 in
theorem flX7_61 : FlG RX7 61 4 2 .int false := ⟨RX4, TX4, 6, tyX4, rfl, inX4, by decide, TBg_1 76 rfl rfl, tyX4_ok, nmX4, rfl, rfl, by decide⟩
set_option maxRecDepth 100000 in
theorem flX7_64 : FlG RX7 64 4 1 .int false := ⟨RX4, TX4, 6, tyX4, rfl, inX4, by decide, TBg_1 74 rfl rfl, tyX4_ok, nmX4, rfl, rfl, by decide⟩
set_option maxRecDepth 100000 in
theorem fpX0_21 : FlP RX0 21 0 3 (.array .int) true := ⟨flX0_21, fun _ _ _ _ h => by cases h; rfl⟩
set_option maxRecDepth 100000 in
theorem fpX0_25 : FlP RX0 25 0 4 (.array .int) true := ⟨flX0_25, fun _ _ _ _ h => by cases h; rfl⟩
set_option maxRecDepth 100000 in
theorem fpX0_28 : FlP RX0 28 0 5 (.array .int) true := ⟨flX0_28, fun _ _ _ _ h => by cases h; rfl⟩
set_option maxRecDepth 100000 in
theorem fpX0_31 : FlP RX0 31 0 6 (.array .int) true := ⟨flX0_31, fun _ _ _ _ h => by cases h; rfl⟩
set_option maxRecDepth 100000 in
theorem fpX0_34 : FlP RX0 34 0 7 (.array .int) true := ⟨flX0_34, fun _ _ _ _ h => by cases h; rfl⟩
set_option maxRecDepth 100000 in
theorem fpX0_37 : FlP RX0 37 0 8 (.array .int) true := ⟨flX0_37, fun _ _ _ _ h => by cases h; rfl⟩
set_option maxRecDepth 100000 in
theorem fpX0_40 : FlP RX0 40 0 9 (.array .boolean) true := ⟨flX0_40, fun _ _ _ _ h => by cases h; rfl⟩
set_option maxRecDepth 100000 in
theorem fpX1_11 : FlP RX1 11 1 1 (.array .int) true := ⟨flX1_11, fun _ _ _ _ h => by cases h; rfl⟩
set_option maxRecDepth 100000 in
theorem fpX1_15 : FlP RX1 15 1 0 (.array .int) true := ⟨flX1_15, fun _ _ _ _ h => by cases h; rfl⟩
set_option maxRecDepth 100000 in
theorem fpX2_11 : FlP RX2 11 2 0 (.array (.object "HardwareTaskQueue$Machine")) true := ⟨flX2_11, fun _ _ _ _ h => by cases h; rfl⟩
set_option maxRecDepth 100000 in
theorem fpX3_12 : FlP RX3 12 3 0 (.object "HardwareTaskQueue$TaskTable") true := ⟨flX3_12, fun _ _ _ _ h => by cases h; rfl⟩
set_option maxRecDepth 100000 in
theorem fpX3_21 : FlP RX3 21 3 1 (.object "HardwareTaskQueue$CoreTable") true := ⟨flX3_21, fun _ _ _ _ h => by cases h; rfl⟩
set_option maxRecDepth 100000 in
theorem fpX4_12 : FlP RX4 12 4 0 (.object "HardwareTaskQueue$SetupText") true := ⟨flX4_12, fun _ _ _ _ h => by cases h; rfl⟩
set_option maxRecDepth 100000 in
theorem fpX4_25 : FlP RX4 25 4 3 (.array .int) true := ⟨flX4_25, fun _ _ _ _ h => by cases h; rfl⟩
set_option maxRecDepth 100000 in
theorem fpX4_68 : FlP RX4 68 3 2 (.object "HardwareTaskQueue$Formula") false := ⟨flX4_68, fun h => absurd h (by decide)⟩
set_option maxRecDepth 100000 in
theorem fpX5_9 : FlP RX5 9 5 0 (.array .byte) true := ⟨flX5_9, fun _ _ _ _ h => by cases h; rfl⟩
set_option maxRecDepth 100000 in
theorem fpX6_18 : FlP RX6 18 6 2 (.array .int) true := ⟨flX6_18, fun _ _ _ _ h => by cases h; rfl⟩
set_option maxRecDepth 100000 in
theorem fpX6_22 : FlP RX6 22 6 3 (.array .int) true := ⟨flX6_22, fun _ _ _ _ h => by cases h; rfl⟩
set_option maxRecDepth 100000 in
theorem fpX6_25 : FlP RX6 25 6 4 (.array .int) true := ⟨flX6_25, fun _ _ _ _ h => by cases h; rfl⟩
set_option maxRecDepth 100000 in
theorem fpX6_28 : FlP RX6 28 6 5 (.array .int) true := ⟨flX6_28, fun _ _ _ _ h => by cases h; rfl⟩
set_option maxRecDepth 100000 in
theorem fpX6_31 : FlP RX6 31 6 6 (.array .int) true := ⟨flX6_31, fun _ _ _ _ h => by cases h; rfl⟩
set_option maxRecDepth 100000 in
theorem fpX6_34 : FlP RX6 34 6 7 (.array .int) true := ⟨flX6_34, fun _ _ _ _ h => by cases h; rfl⟩
set_option maxRecDepth 100000 in
theorem fpX6_37 : FlP RX6 37 6 8 (.array .int) true := ⟨flX6_37, fun _ _ _ _ h => by cases h; rfl⟩
set_option maxRecDepth 100000 in
theorem fpX6_40 : FlP RX6 40 6 9 (.array .int) true := ⟨flX6_40, fun _ _ _ _ h => by cases h; rfl⟩
set_option maxRecDepth 100000 in
theorem fpX6_43 : FlP RX6 43 6 10 (.array .int) true := ⟨flX6_43, fun _ _ _ _ h => by cases h; rfl⟩
set_option maxRecDepth 100000 in
theorem fpX7_10 : FlP RX7 10 7 0 (.object "HardwareTaskQueue$SetupReader") true := ⟨flX7_10, fun _ _ _ _ h => by cases h; rfl⟩
set_option maxRecDepth 100000 in
theorem fpX7_19 : FlP RX7 19 7 1 (.object "HardwareTaskQueue$Machine") true := ⟨flX7_19, fun _ _ _ _ h => by cases h; rfl⟩
set_option maxRecDepth 100000 in
theorem fpX7_23 : FlP RX7 23 7 2 (.object "HardwareTaskQueue$Machine") true := ⟨flX7_23, fun _ _ _ _ h => by cases h; rfl⟩
set_option maxRecDepth 100000 in
theorem fpX7_29 : FlP RX7 29 7 3 (.object "HardwareTaskQueue$History") true := ⟨flX7_29, fun _ _ _ _ h => by cases h; rfl⟩
set_option maxRecDepth 100000 in
theorem fpX7_33 : FlP RX7 33 7 4 .int false := ⟨flX7_33, fun h => absurd h (by decide)⟩
set_option maxRecDepth 100000 in
theorem fpX7_41 : FlP RX7 41 5 1 .int false := ⟨flX7_41, fun h => absurd h (by decide)⟩
set_option maxRecDepth 100000 in
theorem fpX8_17 : FlP RX8 17 8 8 (.array .int) true := ⟨flX8_17, fun _ _ _ _ h => by cases h; rfl⟩
set_option maxRecDepth 100000 in
theorem fpX8_20 : FlP RX8 20 8 9 (.array .int) true := ⟨flX8_20, fun _ _ _ _ h => by cases h; rfl⟩
set_option maxRecDepth 100000 in
theorem fpX8_23 : FlP RX8 23 8 10 (.array .int) true := ⟨flX8_23, fun _ _ _ _ h => by cases h; rfl⟩
set_option maxRecDepth 100000 in
theorem fpX8_28 : FlP RX8 28 8 11 (.array (.array .int)) true := ⟨flX8_28, fun _ _ _ _ h => by cases h; rfl⟩
set_option maxRecDepth 100000 in
theorem fpX8_31 : FlP RX8 31 8 16 (.array .long) true := ⟨flX8_31, fun _ _ _ _ h => by cases h; rfl⟩
set_option maxRecDepth 100000 in
theorem fpX8_35 : FlP RX8 35 8 17 (.array .int) true := ⟨flX8_35, fun _ _ _ _ h => by cases h; rfl⟩
set_option maxRecDepth 100000 in
theorem fpX8_9 : FlP RX8 9 8 1 (.array .int) true := ⟨flX8_9, fun _ _ _ _ h => by cases h; rfl⟩
set_option maxRecDepth 100000 in
theorem lcX2_9 : Cond.classLink RX2 9 "HardwareTaskQueue$Machine" ∈ TBg := TBg_2 9 rfl rfl
set_option maxRecDepth 100000 in
theorem lcX8_26 : Cond.classLink RX8 26 "[[I" ∈ TBg := TBg_4 204 rfl rfl
set_option maxRecDepth 100000 in
theorem lsX4_59 : SlP RX4 59 yJ7_copyOf_59c91 cJ7_copyOf_59c91 3 (some (.array .int)) 2 := ⟨TBg_3 124 rfl rfl, TBg_3 125 rfl rfl, TBg_1 19 rfl rfl, TBg_3 126 rfl rfl, by decide, by decide, by decide +kernel⟩
set_option maxRecDepth 100000 in
theorem liX2_24 : Cond.instanceMethod yX3_init ∈ TBg ∧ Cond.initialized yX3_init.cls ∈ TBg ∧ Cond.code yX3_init cX3_init 1 none ∈ TBg ∧ yX3_init.name = "<init>" ∧ yX3_init.cls ≠ "java/lang/invoke/MethodHandle" ∧ yX3_init.cls ≠ "java/lang/invoke/VarHandle" ∧ (parseMethodDescriptor yX3_init.desc).map (fun d => d.parameters.length) = some 0 := ⟨TBg_1 97 rfl rfl, TBg_1 4 rfl rfl, TBg_1 98 rfl rfl, rfl, by decide, by decide, by decide +kernel⟩
set_option maxRecDepth 100000 in
theorem liX3_11 : Cond.instanceMethod yX6_init ∈ TBg ∧ Cond.initialized yX6_init.cls ∈ TBg ∧ Cond.code yX6_init cX6_init 1 none ∈ TBg ∧ yX6_init.name = "<init>" ∧ yX6_init.cls ≠ "java/lang/invoke/MethodHandle" ∧ yX6_init.cls ≠ "java/lang/invoke/VarHandle" ∧ (parseMethodDescriptor yX6_init.desc).map (fun d => d.parameters.length) = some 0 := ⟨TBg_1 103 rfl rfl, TBg_1 5 rfl rfl, TBg_1 104 rfl rfl, rfl, by decide, by decide, by decide +kernel⟩
set_option maxRecDepth 100000 in
theorem liX3_20 : Cond.instanceMethod yX0_init ∈ TBg ∧ Cond.initialized yX0_init.cls ∈ TBg ∧ Cond.code yX0_init cX0_init 1 none ∈ TBg ∧ yX0_init.name = "<init>" ∧ yX0_init.cls ≠ "java/lang/invoke/MethodHandle" ∧ yX0_init.cls ≠ "java/lang/invoke/VarHandle" ∧ (parseMethodDescriptor yX0_init.desc).map (fun d => d.parameters.length) = some 0 := ⟨TBg_1 158 rfl rfl, TBg_1 6 rfl rfl, TBg_1 159 rfl rfl, rfl, by decide, by decide, by decide +kernel⟩
set_option maxRecDepth 100000 in
theorem liX3_27 : Cond.methodLink RX3 27 yX1_init ∈ TBg ∧ Cond.instanceMethod yX1_init ∈ TBg ∧ Cond.initialized yX1_init.cls ∈ TBg ∧ Cond.code yX1_init cX1_init 2 none ∈ TBg ∧ yX1_init.name = "<init>" ∧ yX1_init.cls ≠ "java/lang/invoke/MethodHandle" ∧ yX1_init.cls ≠ "java/lang/invoke/VarHandle" ∧ (parseMethodDescriptor yX1_init.desc).map (fun d => d.parameters.length) = some 1 := ⟨TBg_1 213 rfl rfl, TBg_1 214 rfl rfl, TBg_1 7 rfl rfl, TBg_1 215 rfl rfl, rfl, by decide, by decide, by decide +kernel⟩
set_option maxRecDepth 100000 in
theorem liX4_11 : Cond.instanceMethod yX5_init ∈ TBg ∧ Cond.initialized yX5_init.cls ∈ TBg ∧ Cond.code yX5_init cX5_init 1 none ∈ TBg ∧ yX5_init.name = "<init>" ∧ yX5_init.cls ≠ "java/lang/invoke/MethodHandle" ∧ yX5_init.cls ≠ "java/lang/invoke/VarHandle" ∧ (parseMethodDescriptor yX5_init.desc).map (fun d => d.parameters.length) = some 0 := ⟨TBg_1 41 rfl rfl, TBg_1 3 rfl rfl, TBg_1 42 rfl rfl, rfl, by decide, by decide, by decide +kernel⟩
set_option maxRecDepth 100000 in
theorem liX4_65 : Cond.methodLink RX4 65 yX1_init ∈ TBg ∧ Cond.instanceMethod yX1_init ∈ TBg ∧ Cond.initialized yX1_init.cls ∈ TBg ∧ Cond.code yX1_init cX1_init 2 none ∈ TBg ∧ yX1_init.name = "<init>" ∧ yX1_init.cls ≠ "java/lang/invoke/MethodHandle" ∧ yX1_init.cls ≠ "java/lang/invoke/VarHandle" ∧ (parseMethodDescriptor yX1_init.desc).map (fun d => d.parameters.length) = some 1 := ⟨TBg_3 136 rfl rfl, TBg_1 214 rfl rfl, TBg_1 7 rfl rfl, TBg_1 215 rfl rfl, rfl, by decide, by decide, by decide +kernel⟩
set_option maxRecDepth 100000 in
theorem liX7_18 : Cond.instanceMethod yX3_init ∈ TBg ∧ Cond.initialized yX3_init.cls ∈ TBg ∧ Cond.code yX3_init cX3_init 1 none ∈ TBg ∧ yX3_init.name = "<init>" ∧ yX3_init.cls ≠ "java/lang/invoke/MethodHandle" ∧ yX3_init.cls ≠ "java/lang/invoke/VarHandle" ∧ (parseMethodDescriptor yX3_init.desc).map (fun d => d.parameters.length) = some 0 := ⟨TBg_1 97 rfl rfl, TBg_1 4 rfl rfl, TBg_1 98 rfl rfl, rfl, by decide, by decide, by decide +kernel⟩
set_option maxRecDepth 100000 in
theorem liX7_28 : Cond.methodLink RX7 28 yX2_init ∈ TBg ∧ Cond.instanceMethod yX2_init ∈ TBg ∧ Cond.initialized yX2_init.cls ∈ TBg ∧ Cond.code yX2_init cX2_init 2 none ∈ TBg ∧ yX2_init.name = "<init>" ∧ yX2_init.cls ≠ "java/lang/invoke/MethodHandle" ∧ yX2_init.cls ≠ "java/lang/invoke/VarHandle" ∧ (parseMethodDescriptor yX2_init.desc).map (fun d => d.parameters.length) = some 0 := ⟨TBg_2 5 rfl rfl, TBg_2 6 rfl rfl, TBg_1 8 rfl rfl, TBg_2 7 rfl rfl, rfl, by decide, by decide, by decide +kernel⟩
set_option maxRecDepth 100000 in
theorem liX7_9 : Cond.instanceMethod yX4_init ∈ TBg ∧ Cond.initialized yX4_init.cls ∈ TBg ∧ Cond.code yX4_init cX4_init 1 none ∈ TBg ∧ yX4_init.name = "<init>" ∧ yX4_init.cls ≠ "java/lang/invoke/MethodHandle" ∧ yX4_init.cls ≠ "java/lang/invoke/VarHandle" ∧ (parseMethodDescriptor yX4_init.desc).map (fun d => d.parameters.length) = some 0 := ⟨TBg_1 35 rfl rfl, TBg_1 2 rfl rfl, TBg_1 36 rfl rfl, rfl, by decide, by decide, by decide +kernel⟩
set_option maxRecDepth 100000 in
theorem lvX4_42 : VlP RX4 42 yX5_startReading cX5_startReading 2 none 1 5 := ⟨TBg_2 223 rfl rfl, TBg_2 224 rfl rfl, TBg_2 225 rfl rfl, TBg_1 3 rfl rfl, TBg_2 226 rfl rfl, by decide, by decide, by decide +kernel, ⟨_, _, rfl⟩, by decide⟩
set_option maxRecDepth 100000 in
theorem lvX4_45 : VlP RX4 45 yX4_readQueue cX4_readQueue 5 (some .boolean) 1 4 := ⟨TBg_2 235 rfl rfl, TBg_2 237 rfl rfl, TBg_s (n := 6) 3 rfl, TBg_1 2 rfl rfl, TBg_2 238 rfl rfl, by decide, by decide, by decide +kernel, ⟨_, _, rfl⟩, by decide⟩
set_option maxRecDepth 100000 in
theorem lvX4_52 : VlP RX4 52 yX4_readStatement cX4_readStatement 2 (some .boolean) 1 4 := ⟨TBg_3 82 rfl rfl, TBg_3 84 rfl rfl, TBg_s (n := 6) 7 rfl, TBg_1 2 rfl rfl, TBg_3 85 rfl rfl, by decide, by decide, by decide +kernel, ⟨_, _, rfl⟩, by decide⟩
set_option maxRecDepth 100000 in
theorem lvX7_57 : VlP RX7 57 yX4_readSetup cX4_readSetup 4 (some .boolean) 2 4 := ⟨TBg_2 215 rfl rfl, TBg_2 216 rfl rfl, TBg_2 217 rfl rfl, TBg_1 2 rfl rfl, TBg_2 218 rfl rfl, by decide, by decide, by decide +kernel, ⟨_, _, rfl⟩, by decide⟩
set_option maxRecDepth 100000 in
theorem nwX2_9 : NwP RX2 9 3 4 := ⟨RX3, TX3, tyX3, rfl, inX3, tyX3_ok, TBg_2 9 rfl rfl, TBg_1 95 rfl rfl, TBg_1 4 rfl rfl, by decide, by decide +kernel⟩
set_option maxRecDepth 100000 in
theorem nwX3_18 : NwP RX3 18 0 10 := ⟨RX0, TX0, tyX0, rfl, inX0, tyX0_ok, TBg_1 155 rfl rfl, TBg_1 156 rfl rfl, TBg_1 6 rfl rfl, by decide, by decide +kernel⟩
set_option maxRecDepth 100000 in
theorem nwX3_25 : NwP RX3 25 1 2 := ⟨RX1, TX1, tyX1, rfl, inX1, tyX1_ok, TBg_1 211 rfl rfl, TBg_1 212 rfl rfl, TBg_1 7 rfl rfl, by decide, by decide +kernel⟩
set_option maxRecDepth 100000 in
theorem nwX3_9 : NwP RX3 9 6 11 := ⟨RX6, TX6, tyX6, rfl, inX6, tyX6_ok, TBg_1 100 rfl rfl, TBg_1 101 rfl rfl, TBg_1 5 rfl rfl, by decide, by decide +kernel⟩
set_option maxRecDepth 100000 in
theorem nwX4_36 : NwP RX4 36 1 2 := ⟨RX1, TX1, tyX1, rfl, inX1, tyX1_ok, TBg_3 123 rfl rfl, TBg_1 212 rfl rfl, TBg_1 7 rfl rfl, by decide, by decide +kernel⟩
set_option maxRecDepth 100000 in
theorem nwX4_9 : NwP RX4 9 5 7 := ⟨RX5, TX5, tyX5, rfl, inX5, tyX5_ok, TBg_1 38 rfl rfl, TBg_1 39 rfl rfl, TBg_1 3 rfl rfl, by decide, by decide +kernel⟩
set_option maxRecDepth 100000 in
theorem nwX7_16 : NwP RX7 16 3 4 := ⟨RX3, TX3, tyX3, rfl, inX3, tyX3_ok, TBg_1 94 rfl rfl, TBg_1 95 rfl rfl, TBg_1 4 rfl rfl, by decide, by decide +kernel⟩
set_option maxRecDepth 100000 in
theorem nwX7_26 : NwP RX7 26 2 3 := ⟨RX2, TX2, tyX2, rfl, inX2, tyX2_ok, TBg_2 3 rfl rfl, TBg_2 4 rfl rfl, TBg_1 8 rfl rfl, by decide, by decide +kernel⟩
set_option maxRecDepth 100000 in
theorem nwX7_7 : NwP RX7 7 4 6 := ⟨RX4, TX4, tyX4, rfl, inX4, tyX4_ok, TBg_1 32 rfl rfl, TBg_1 33 rfl rfl, TBg_1 2 rfl rfl, by decide, by decide +kernel⟩
set_option maxRecDepth 100000 in
theorem kmX0_3 : Cond.methodLink RX0 3 Lib.objectInit ∈ TBg := TBg_1 160 rfl rfl
set_option maxRecDepth 100000 in
theorem kmX1_3 : Cond.methodLink RX1 3 Lib.objectInit ∈ TBg := TBg_1 216 rfl rfl
set_option maxRecDepth 100000 in
theorem kmX2_3 : Cond.methodLink RX2 3 Lib.objectInit ∈ TBg := TBg_2 8 rfl rfl
set_option maxRecDepth 100000 in
theorem kmX3_3 : Cond.methodLink RX3 3 Lib.objectInit ∈ TBg := TBg_1 99 rfl rfl
set_option maxRecDepth 100000 in
theorem kmX4_3 : Cond.methodLink RX4 3 Lib.objectInit ∈ TBg := TBg_1 37 rfl rfl
set_option maxRecDepth 100000 in
theorem kmX5_3 : Cond.methodLink RX5 3 Lib.objectInit ∈ TBg := TBg_1 43 rfl rfl
set_option maxRecDepth 100000 in
theorem kmX6_3 : Cond.methodLink RX6 3 Lib.objectInit ∈ TBg := TBg_1 105 rfl rfl
set_option maxRecDepth 100000 in
theorem kmX7_1 : Cond.methodLink RX7 1 Lib.objectInit ∈ TBg := TBg_1 29 rfl rfl
set_option maxRecDepth 100000 in
theorem kmX8_3 : Cond.methodLink RX8 3 Lib.objectInit ∈ TBg := TBg_4 203 rfl rfl
