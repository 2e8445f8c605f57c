set_option maxRecDepth 100000 in
theorem flX4_100 : FlG RX4 100 6 1 .int false := ⟨RX6, TX6, 11, tyX6, rfl, inX6, by decide, TBg_1 110 rfl rfl, tyX6_ok, nmX6, rfl, rfl, by decide⟩
set_option maxRecDepth 100000 in
theorem flX4_106 : FlG RX4 106 3 1 (.object "HardwareTaskQueue$CoreTable") true := ⟨RX3, TX3, 4, tyX3, rfl, inX3, by decide, TBg_1 228 rfl rfl, tyX3_ok, nmX3, rfl, rfl, by decide⟩
set_option maxRecDepth 100000 in
theorem flX4_110 : FlG RX4 110 0 1 .int false := ⟨RX0, TX0, 10, tyX0, rfl, inX0, by decide, TBg_1 166 rfl rfl, tyX0_ok, nmX0, rfl, rfl, by decide⟩
set_option maxRecDepth 100000 in
theorem flX4_115 : FlG RX4 115 0 2 .int false := ⟨RX0, TX0, 10, tyX0, rfl, inX0, by decide, TBg_1 168 rfl rfl, tyX0_ok, nmX0, rfl, rfl, by decide⟩
set_option maxRecDepth 100000 in
theorem flX4_120 : FlG RX4 120 0 0 .int false := ⟨RX0, TX0, 10, tyX0, rfl, inX0, by decide, TBg_1 162 rfl rfl, tyX0_ok, nmX0, rfl, rfl, by decide⟩
set_option maxRecDepth 100000 in
theorem flX4_32 : FlG RX4 32 4 5 .boolean false := ⟨RX4, TX4, 6, tyX4, rfl, inX4, by decide, TBg_1 79 rfl rfl, tyX4_ok, nmX4, rfl, rfl, by decide⟩
set_option maxRecDepth 100000 in
theorem flX4_91 : FlG RX4 91 3 0 (.object "HardwareTaskQueue$TaskTable") true := ⟨RX3, TX3, 4, tyX3, rfl, inX3, by decide, TBg_1 225 rfl rfl, tyX3_ok, nmX3, rfl, rfl, by decide⟩
set_option maxRecDepth 100000 in
theorem flX4_95 : FlG RX4 95 6 0 .int false := ⟨RX6, TX6, 11, tyX6, rfl, inX6, by decide, TBg_1 107 rfl rfl, tyX6_ok, nmX6, rfl, rfl, by decide⟩
set_option maxRecDepth 100000 in
theorem flX8_100 : FlG RX8 100 8 14 .int false := ⟨RX8, TX8, 18, tyX8, rfl, inX8, by decide, TBg_4 220 rfl rfl, tyX8_ok, nmX8, rfl, rfl, by decide⟩
set_option maxRecDepth 100000 in
theorem fpX4_100 : FlP RX4 100 6 1 .int false := ⟨flX4_100, fun h => absurd h (by decide)⟩
set_option maxRecDepth 100000 in
theorem fpX4_110 : FlP RX4 110 0 1 .int false := ⟨flX4_110, fun h => absurd h (by decide)⟩
set_option maxRecDepth 100000 in
theorem fpX4_115 : FlP RX4 115 0 2 .int false := ⟨flX4_115, fun h => absurd h (by decide)⟩
set_option maxRecDepth 100000 in
theorem fpX4_32 : FlP RX4 32 4 5 .boolean false := ⟨flX4_32, fun h => absurd h (by decide)⟩
set_option maxRecDepth 100000 in
theorem fpX4_95 : FlP RX4 95 6 0 .int false := ⟨flX4_95, fun h => absurd h (by decide)⟩
set_option maxRecDepth 100000 in
theorem fpX8_100 : FlP RX8 100 8 14 .int false := ⟨flX8_100, fun h => absurd h (by decide)⟩
set_option maxRecDepth 100000 in
theorem fpX8_13 : FlP RX8 13 8 7 .int false := ⟨flX8_13, fun h => absurd h (by decide)⟩
set_option maxRecDepth 100000 in
theorem fpX8_48 : FlP RX8 48 8 3 .int false := ⟨flX8_48, fun h => absurd h (by decide)⟩
set_option maxRecDepth 100000 in
theorem lyX5_44 : YlP RX5 44 yJ0_length_8abf5 cJ0_length_8abf5 1 (some .int) 0 := ⟨TBg_3 4 rfl rfl, TBg_3 5 rfl rfl, TBg_3 6 rfl rfl, TBg_1 15 rfl rfl, TBg_3 7 rfl rfl, by decide, by decide, by decide +kernel⟩
set_option maxRecDepth 100000 in
theorem lyX5_50 : YlP RX5 50 yJ0_charAt_5068e cJ0_charAt_5068e 2 (some .char) 1 := ⟨TBg_3 14 rfl rfl, TBg_3 15 rfl rfl, TBg_3 16 rfl rfl, TBg_1 15 rfl rfl, TBg_3 17 rfl rfl, by decide, by decide, by decide +kernel⟩
set_option maxRecDepth 100000 in
theorem lyX8_75 : YlP RX8 75 yJ0_length_8abf5 cJ0_length_8abf5 1 (some .int) 0 := ⟨TBg_5 64 rfl rfl, TBg_3 5 rfl rfl, TBg_3 6 rfl rfl, TBg_1 15 rfl rfl, TBg_3 7 rfl rfl, by decide, by decide, by decide +kernel⟩
set_option maxRecDepth 100000 in
theorem lyX8_80 : YlP RX8 80 yJ0_charAt_5068e cJ0_charAt_5068e 2 (some .char) 1 := ⟨TBg_5 65 rfl rfl, TBg_3 15 rfl rfl, TBg_3 16 rfl rfl, TBg_1 15 rfl rfl, TBg_3 17 rfl rfl, by decide, by decide, by decide +kernel⟩
set_option maxRecDepth 100000 in
theorem lvX4_103 : VlP RX4 103 yX3_startAgainOn cX3_startAgainOn 2 none 1 3 := ⟨TBg_3 69 rfl rfl, TBg_3 70 rfl rfl, TBg_3 71 rfl rfl, TBg_1 4 rfl rfl, TBg_3 72 rfl rfl, by decide, by decide, by decide +kernel, ⟨_, _, rfl⟩, by decide⟩
set_option maxRecDepth 100000 in
theorem lvX4_121 : VlP RX4 121 yX4_readTask cX4_readTask 7 (some .boolean) 2 4 := ⟨TBg_3 87 rfl rfl, TBg_3 89 rfl rfl, TBg_s (n := 6) 8 rfl, TBg_1 2 rfl rfl, TBg_3 90 rfl rfl, by decide, by decide, by decide +kernel, ⟨_, _, rfl⟩, by decide⟩
set_option maxRecDepth 100000 in
theorem lvX4_127 : VlP RX4 127 yX6_addFence cX6_addFence 1 none 0 6 := ⟨TBg_3 103 rfl rfl, TBg_3 104 rfl rfl, TBg_3 105 rfl rfl, TBg_1 5 rfl rfl, TBg_3 106 rfl rfl, by decide, by decide, by decide +kernel, ⟨_, _, rfl⟩, by decide⟩
set_option maxRecDepth 100000 in
theorem lvX4_132 : VlP RX4 132 yX4_readSum cX4_readSum 5 (some .boolean) 1 4 := ⟨TBg_3 108 rfl rfl, TBg_3 110 rfl rfl, TBg_s (n := 6) 10 rfl, TBg_1 2 rfl rfl, TBg_3 111 rfl rfl, by decide, by decide, by decide +kernel, ⟨_, _, rfl⟩, by decide⟩
set_option maxRecDepth 100000 in
theorem lvX4_139 : VlP RX4 139 yX4_takePredecessors cX4_takePredecessors 5 (some .int) 1 4 := ⟨TBg_3 93 rfl rfl, TBg_3 95 rfl rfl, TBg_s (n := 6) 9 rfl, TBg_1 2 rfl rfl, TBg_3 96 rfl rfl, by decide, by decide, by decide +kernel, ⟨_, _, rfl⟩, by decide⟩
set_option maxRecDepth 100000 in
theorem lvX4_143 : VlP RX4 143 yX6_add cX6_add 5 none 4 6 := ⟨TBg_3 98 rfl rfl, TBg_3 99 rfl rfl, TBg_3 100 rfl rfl, TBg_1 5 rfl rfl, TBg_3 101 rfl rfl, by decide, by decide, by decide +kernel, ⟨_, _, rfl⟩, by decide⟩
set_option maxRecDepth 100000 in
theorem lvX4_154 : VlP RX4 154 yX4_readTerm cX4_readTerm 5 (some .boolean) 1 4 := ⟨TBg_3 112 rfl rfl, TBg_3 114 rfl rfl, TBg_s (n := 6) 11 rfl, TBg_1 2 rfl rfl, TBg_3 115 rfl rfl, by decide, by decide, by decide +kernel, ⟨_, _, rfl⟩, by decide⟩
set_option maxRecDepth 100000 in
theorem lvX4_160 : VlP RX4 160 yX4_readFactor cX4_readFactor 2 (some .boolean) 1 4 := ⟨TBg_3 116 rfl rfl, TBg_3 118 rfl rfl, TBg_s (n := 6) 12 rfl, TBg_1 2 rfl rfl, TBg_3 119 rfl rfl, by decide, by decide, by decide +kernel, ⟨_, _, rfl⟩, by decide⟩
set_option maxRecDepth 100000 in
theorem lvX4_38 : VlP RX4 38 yX4_addStep cX4_addStep 2 none 1 4 := ⟨TBg_2 219 rfl rfl, TBg_2 221 rfl rfl, TBg_s (n := 6) 2 rfl, TBg_1 2 rfl rfl, TBg_2 222 rfl rfl, by decide, by decide, by decide +kernel, ⟨_, _, rfl⟩, by decide⟩
set_option maxRecDepth 100000 in
theorem lvX4_55 : VlP RX4 55 yX4_takeMark cX4_takeMark 2 (some .boolean) 1 4 := ⟨TBg_3 61 rfl rfl, TBg_3 63 rfl rfl, TBg_s (n := 6) 6 rfl, TBg_1 2 rfl rfl, TBg_3 64 rfl rfl, by decide, by decide, by decide +kernel, ⟨_, _, rfl⟩, by decide⟩
set_option maxRecDepth 100000 in
theorem lvX4_76 : VlP RX4 76 yX5_isWord cX5_isWord 3 (some .boolean) 1 5 := ⟨TBg_3 0 rfl rfl, TBg_3 1 rfl rfl, TBg_3 2 rfl rfl, TBg_1 3 rfl rfl, TBg_3 3 rfl rfl, by decide, by decide, by decide +kernel, ⟨_, _, rfl⟩, by decide⟩
set_option maxRecDepth 100000 in
theorem lvX8_103 : VlP RX8 103 yX8_sum cX8_sum 2 none 0 8 := ⟨TBg_5 115 rfl rfl, TBg_5 117 rfl rfl, TBg_s (n := 18) 32 rfl, TBg_1 9 rfl rfl, TBg_5 118 rfl rfl, by decide, by decide, by decide +kernel, ⟨_, _, rfl⟩, by decide⟩
set_option maxRecDepth 100000 in
theorem lvX8_106 : VlP RX8 106 yX8_expect cX8_expect 2 none 1 8 := ⟨TBg_5 81 rfl rfl, TBg_5 83 rfl rfl, TBg_s (n := 18) 27 rfl, TBg_1 9 rfl rfl, TBg_5 84 rfl rfl, by decide, by decide, by decide +kernel, ⟨_, _, rfl⟩, by decide⟩
set_option maxRecDepth 100000 in
theorem lvX8_112 : VlP RX8 112 yX8_takeWord cX8_takeWord 3 (some .boolean) 1 8 := ⟨TBg_5 48 rfl rfl, TBg_5 50 rfl rfl, TBg_s (n := 18) 21 rfl, TBg_1 9 rfl rfl, TBg_5 51 rfl rfl, by decide, by decide, by decide +kernel, ⟨_, _, rfl⟩, by decide⟩
set_option maxRecDepth 100000 in
theorem lvX8_121 : VlP RX8 121 yX8_number cX8_number 4 (some .int) 2 8 := ⟨TBg_5 70 rfl rfl, TBg_5 72 rfl rfl, TBg_s (n := 18) 26 rfl, TBg_1 9 rfl rfl, TBg_5 73 rfl rfl, by decide, by decide, by decide +kernel, ⟨_, _, rfl⟩, by decide⟩
set_option maxRecDepth 100000 in
theorem lvX8_124 : VlP RX8 124 yX8_emit cX8_emit 2 none 1 8 := ⟨TBg_5 130 rfl rfl, TBg_5 132 rfl rfl, TBg_s (n := 18) 35 rfl, TBg_1 9 rfl rfl, TBg_5 133 rfl rfl, by decide, by decide, by decide +kernel, ⟨_, _, rfl⟩, by decide⟩
set_option maxRecDepth 100000 in
theorem lvX8_127 : VlP RX8 127 yX8_factor cX8_factor 4 none 0 8 := ⟨TBg_5 123 rfl rfl, TBg_5 125 rfl rfl, TBg_s (n := 18) 34 rfl, TBg_1 9 rfl rfl, TBg_5 126 rfl rfl, by decide, by decide, by decide +kernel, ⟨_, _, rfl⟩, by decide⟩
set_option maxRecDepth 100000 in
theorem lvX8_130 : VlP RX8 130 yX8_term cX8_term 2 none 0 8 := ⟨TBg_5 119 rfl rfl, TBg_5 121 rfl rfl, TBg_s (n := 18) 33 rfl, TBg_1 9 rfl rfl, TBg_5 122 rfl rfl, by decide, by decide, by decide +kernel, ⟨_, _, rfl⟩, by decide⟩
set_option maxRecDepth 100000 in
theorem lvX8_150 : VlP RX8 150 yX8_readTask cX8_readTask 7 none 1 8 := ⟨TBg_5 90 rfl rfl, TBg_5 92 rfl rfl, TBg_s (n := 18) 29 rfl, TBg_1 9 rfl rfl, TBg_5 93 rfl rfl, by decide, by decide, by decide +kernel, ⟨_, _, rfl⟩, by decide⟩
set_option maxRecDepth 100000 in
theorem lvX8_155 : VlP RX8 155 yX8_readFence cX8_readFence 2 none 1 8 := ⟨TBg_5 106 rfl rfl, TBg_5 108 rfl rfl, TBg_s (n := 18) 30 rfl, TBg_1 9 rfl rfl, TBg_5 109 rfl rfl, by decide, by decide, by decide +kernel, ⟨_, _, rfl⟩, by decide⟩
set_option maxRecDepth 100000 in
theorem lvX8_159 : VlP RX8 159 yX8_once cX8_once 3 none 2 8 := ⟨TBg_5 111 rfl rfl, TBg_5 113 rfl rfl, TBg_s (n := 18) 31 rfl, TBg_1 9 rfl rfl, TBg_5 114 rfl rfl, by decide, by decide, by decide +kernel, ⟨_, _, rfl⟩, by decide⟩
set_option maxRecDepth 100000 in
theorem lvX8_172 : VlP RX8 172 yX8_statement cX8_statement 2 none 0 8 := ⟨TBg_5 85 rfl rfl, TBg_5 87 rfl rfl, TBg_s (n := 18) 28 rfl, TBg_1 9 rfl rfl, TBg_5 88 rfl rfl, by decide, by decide, by decide +kernel, ⟨_, _, rfl⟩, by decide⟩
