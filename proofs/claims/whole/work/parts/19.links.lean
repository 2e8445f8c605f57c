set_option maxRecDepth 100000 in
theorem flX7_114 : FlG RX7 114 6 7 (.array .int) true := ⟨RX6, TX6, 11, tyX6, rfl, inX6, by decide, TBg_1 126 rfl rfl, tyX6_ok, nmX6, rfl, rfl, by decide⟩
set_option maxRecDepth 100000 in
theorem flX7_117 : FlG RX7 117 6 8 (.array .int) true := ⟨RX6, TX6, 11, tyX6, rfl, inX6, by decide, TBg_1 129 rfl rfl, tyX6_ok, nmX6, rfl, rfl, by decide⟩
set_option maxRecDepth 100000 in
theorem flX7_152 : FlG RX7 152 0 9 (.array .boolean) true := ⟨RX0, TX0, 10, tyX0, rfl, inX0, by decide, TBg_1 188 rfl rfl, tyX0_ok, nmX0, rfl, rfl, by decide⟩
set_option maxRecDepth 100000 in
theorem flX7_201 : FlG RX7 201 6 6 (.array .int) true := ⟨RX6, TX6, 11, tyX6, rfl, inX6, by decide, TBg_1 123 rfl rfl, tyX6_ok, nmX6, rfl, rfl, by decide⟩
set_option maxRecDepth 100000 in
theorem flX7_23 : FlG RX7 23 7 2 (.object "HardwareTaskQueue$Machine") true := ⟨RX7, TX7, 5, tyX7, rfl, inX7, by decide, TBg_2 24 rfl rfl, tyX7_ok, nmX7, rfl, rfl, by decide⟩
set_option maxRecDepth 100000 in
theorem kcX7_179 : Cond.constant RX7 179 (Int32.ofInt (100000)) ∈ TBg := TBg_4 143 rfl rfl
set_option maxRecDepth 100000 in
theorem lsX7_162 : SlP RX7 162 yX7_requireLimit cX7_requireLimit 1 none 1 := ⟨TBg_4 30 rfl rfl, TBg_4 31 rfl rfl, TBg_1 1 rfl rfl, TBg_4 32 rfl rfl, by decide, by decide, by decide +kernel⟩
set_option maxRecDepth 100000 in
theorem lsX7_190 : SlP RX7 190 yX7_requirePriority cX7_requirePriority 1 none 1 := ⟨TBg_4 154 rfl rfl, TBg_4 155 rfl rfl, TBg_1 1 rfl rfl, TBg_4 156 rfl rfl, by decide, by decide, by decide +kernel⟩
set_option maxRecDepth 100000 in
theorem lsX7_204 : SlP RX7 204 yX7_hasBit cX7_hasBit 2 (some .boolean) 2 := ⟨TBg_4 168 rfl rfl, TBg_2 93 rfl rfl, TBg_1 1 rfl rfl, TBg_2 94 rfl rfl, by decide, by decide, by decide +kernel⟩
set_option maxRecDepth 100000 in
theorem lvX7_125 : VlP RX7 125 yX6_opens cX6_opens 5 (some .boolean) 2 6 := ⟨TBg_3 207 rfl rfl, TBg_2 137 rfl rfl, TBg_2 138 rfl rfl, TBg_1 5 rfl rfl, TBg_2 139 rfl rfl, by decide, by decide, by decide +kernel, ⟨_, _, rfl⟩, by decide⟩
set_option maxRecDepth 100000 in
theorem lvX7_129 : VlP RX7 129 yX7_requireCore cX7_requireCore 2 none 1 7 := ⟨TBg_3 215 rfl rfl, TBg_3 217 rfl rfl, TBg_s (n := 5) 14 rfl, TBg_1 1 rfl rfl, TBg_3 218 rfl rfl, by decide, by decide, by decide +kernel, ⟨_, _, rfl⟩, by decide⟩
set_option maxRecDepth 100000 in
theorem lvX7_165 : VlP RX7 165 yX3_cyclesUntilFinished cX3_cyclesUntilFinished 3 (some .int) 1 3 := ⟨TBg_4 34 rfl rfl, TBg_4 35 rfl rfl, TBg_4 36 rfl rfl, TBg_1 4 rfl rfl, TBg_4 37 rfl rfl, by decide, by decide, by decide +kernel, ⟨_, _, rfl⟩, by decide⟩
set_option maxRecDepth 100000 in
theorem lvX7_171 : VlP RX7 171 yX7_requireSetup cX7_requireSetup 1 none 0 7 := ⟨TBg_4 114 rfl rfl, TBg_4 116 rfl rfl, TBg_s (n := 5) 19 rfl, TBg_1 1 rfl rfl, TBg_4 117 rfl rfl, by decide, by decide, by decide +kernel, ⟨_, _, rfl⟩, by decide⟩
set_option maxRecDepth 100000 in
theorem lvX7_174 : VlP RX7 174 yX3_startAgainOn cX3_startAgainOn 2 none 1 3 := ⟨TBg_4 134 rfl rfl, TBg_3 70 rfl rfl, TBg_3 71 rfl rfl, TBg_1 4 rfl rfl, TBg_3 72 rfl rfl, by decide, by decide, by decide +kernel, ⟨_, _, rfl⟩, by decide⟩
set_option maxRecDepth 100000 in
theorem lvX7_185 : VlP RX7 185 yX3_cycle cX3_cycle 2 (some .int) 0 3 := ⟨TBg_4 145 rfl rfl, TBg_4 40 rfl rfl, TBg_4 41 rfl rfl, TBg_1 4 rfl rfl, TBg_4 42 rfl rfl, by decide, by decide, by decide +kernel, ⟨_, _, rfl⟩, by decide⟩
set_option maxRecDepth 100000 in
theorem lvX7_195 : VlP RX7 195 yX6_add cX6_add 5 none 4 6 := ⟨TBg_4 159 rfl rfl, TBg_3 99 rfl rfl, TBg_3 100 rfl rfl, TBg_1 5 rfl rfl, TBg_3 101 rfl rfl, by decide, by decide, by decide +kernel, ⟨_, _, rfl⟩, by decide⟩
set_option maxRecDepth 100000 in
theorem lvX7_213 : VlP RX7 213 yX0_removeFromQueues cX0_removeFromQueues 4 none 1 0 := ⟨TBg_4 179 rfl rfl, TBg_4 180 rfl rfl, TBg_4 181 rfl rfl, TBg_1 6 rfl rfl, TBg_4 182 rfl rfl, by decide, by decide, by decide +kernel, ⟨_, _, rfl⟩, by decide⟩
set_option maxRecDepth 100000 in
theorem lvX7_67 : VlP RX7 67 yX2_remember cX2_remember 2 none 1 2 := ⟨TBg_3 137 rfl rfl, TBg_3 138 rfl rfl, TBg_3 139 rfl rfl, TBg_1 8 rfl rfl, TBg_3 140 rfl rfl, by decide, by decide, by decide +kernel, ⟨_, _, rfl⟩, by decide⟩
set_option maxRecDepth 100000 in
theorem lvX7_71 : VlP RX7 71 yX3_copyFrom cX3_copyFrom 2 none 1 3 := ⟨TBg_3 142 rfl rfl, TBg_2 111 rfl rfl, TBg_2 112 rfl rfl, TBg_1 4 rfl rfl, TBg_2 113 rfl rfl, by decide, by decide, by decide +kernel, ⟨_, _, rfl⟩, by decide⟩
set_option maxRecDepth 100000 in
theorem lvX7_96 : VlP RX7 96 yX7_requireTask cX7_requireTask 2 none 1 7 := ⟨TBg_3 151 rfl rfl, TBg_3 153 rfl rfl, TBg_s (n := 5) 13 rfl, TBg_1 1 rfl rfl, TBg_3 154 rfl rfl, by decide, by decide, by decide +kernel, ⟨_, _, rfl⟩, by decide⟩
