set_option maxRecDepth 100000 in
theorem inX0 : ∀ w ∈ u_ws RX0 TX0 10, w ∈ TBg := by
  intro w hw
  obtain ⟨k, hk, rfl⟩ := List.mem_map.mp hw
  have hk : k < 10 := List.mem_range.mp hk
  match k, hk with
  | 0, _ => exact TBg_1 (w := u_lay RX0 TX0 0) 189 rfl rfl
  | 1, _ => exact TBg_1 (w := u_lay RX0 TX0 1) 191 rfl rfl
  | 2, _ => exact TBg_1 (w := u_lay RX0 TX0 2) 193 rfl rfl
  | 3, _ => exact TBg_1 (w := u_lay RX0 TX0 3) 195 rfl rfl
  | 4, _ => exact TBg_1 (w := u_lay RX0 TX0 4) 197 rfl rfl
  | 5, _ => exact TBg_1 (w := u_lay RX0 TX0 5) 199 rfl rfl
  | 6, _ => exact TBg_1 (w := u_lay RX0 TX0 6) 201 rfl rfl
  | 7, _ => exact TBg_1 (w := u_lay RX0 TX0 7) 203 rfl rfl
  | 8, _ => exact TBg_1 (w := u_lay RX0 TX0 8) 205 rfl rfl
  | 9, _ => exact TBg_1 (w := u_lay RX0 TX0 9) 207 rfl rfl
  | n + 10, h => exact absurd h (by omega)

set_option maxRecDepth 100000 in
theorem inX1 : ∀ w ∈ u_ws RX1 TX1 2, w ∈ TBg := by
  intro w hw
  obtain ⟨k, hk, rfl⟩ := List.mem_map.mp hw
  have hk : k < 2 := List.mem_range.mp hk
  match k, hk with
  | 0, _ => exact TBg_1 (w := u_lay RX1 TX1 0) 219 rfl rfl
  | 1, _ => exact TBg_1 (w := u_lay RX1 TX1 1) 221 rfl rfl
  | n + 2, h => exact absurd h (by omega)

set_option maxRecDepth 100000 in
theorem inX2 : ∀ w ∈ u_ws RX2 TX2 3, w ∈ TBg := by
  intro w hw
  obtain ⟨k, hk, rfl⟩ := List.mem_map.mp hw
  have hk : k < 3 := List.mem_range.mp hk
  match k, hk with
  | 0, _ => exact TBg_2 (w := u_lay RX2 TX2 0) 15 rfl rfl
  | 1, _ => exact TBg_2 (w := u_lay RX2 TX2 1) 17 rfl rfl
  | 2, _ => exact TBg_2 (w := u_lay RX2 TX2 2) 19 rfl rfl
  | n + 3, h => exact absurd h (by omega)

set_option maxRecDepth 100000 in
theorem inX3 : ∀ w ∈ u_ws RX3 TX3 4, w ∈ TBg := by
  intro w hw
  obtain ⟨k, hk, rfl⟩ := List.mem_map.mp hw
  have hk : k < 4 := List.mem_range.mp hk
  match k, hk with
  | 0, _ => exact TBg_1 (w := u_lay RX3 TX3 0) 234 rfl rfl
  | 1, _ => exact TBg_1 (w := u_lay RX3 TX3 1) 236 rfl rfl
  | 2, _ => exact TBg_1 (w := u_lay RX3 TX3 2) 238 rfl rfl
  | 3, _ => exact TBg_2 (w := u_lay RX3 TX3 3) 0 rfl rfl
  | n + 4, h => exact absurd h (by omega)

set_option maxRecDepth 100000 in
theorem inX4 : ∀ w ∈ u_ws RX4 TX4 6, w ∈ TBg := by
  intro w hw
  obtain ⟨k, hk, rfl⟩ := List.mem_map.mp hw
  have hk : k < 6 := List.mem_range.mp hk
  match k, hk with
  | 0, _ => exact TBg_1 (w := u_lay RX4 TX4 0) 80 rfl rfl
  | 1, _ => exact TBg_1 (w := u_lay RX4 TX4 1) 82 rfl rfl
  | 2, _ => exact TBg_1 (w := u_lay RX4 TX4 2) 84 rfl rfl
  | 3, _ => exact TBg_1 (w := u_lay RX4 TX4 3) 86 rfl rfl
  | 4, _ => exact TBg_1 (w := u_lay RX4 TX4 4) 88 rfl rfl
  | 5, _ => exact TBg_1 (w := u_lay RX4 TX4 5) 90 rfl rfl
  | n + 6, h => exact absurd h (by omega)

set_option maxRecDepth 100000 in
theorem inX5 : ∀ w ∈ u_ws RX5 TX5 7, w ∈ TBg := by
  intro w hw
  obtain ⟨k, hk, rfl⟩ := List.mem_map.mp hw
  have hk : k < 7 := List.mem_range.mp hk
  match k, hk with
  | 0, _ => exact TBg_1 (w := u_lay RX5 TX5 0) 55 rfl rfl
  | 1, _ => exact TBg_1 (w := u_lay RX5 TX5 1) 57 rfl rfl
  | 2, _ => exact TBg_1 (w := u_lay RX5 TX5 2) 59 rfl rfl
  | 3, _ => exact TBg_1 (w := u_lay RX5 TX5 3) 61 rfl rfl
  | 4, _ => exact TBg_1 (w := u_lay RX5 TX5 4) 63 rfl rfl
  | 5, _ => exact TBg_1 (w := u_lay RX5 TX5 5) 65 rfl rfl
  | 6, _ => exact TBg_1 (w := u_lay RX5 TX5 6) 67 rfl rfl
  | n + 7, h => exact absurd h (by omega)

set_option maxRecDepth 100000 in
theorem inX6 : ∀ w ∈ u_ws RX6 TX6 11, w ∈ TBg := by
  intro w hw
  obtain ⟨k, hk, rfl⟩ := List.mem_map.mp hw
  have hk : k < 11 := List.mem_range.mp hk
  match k, hk with
  | 0, _ => exact TBg_1 (w := u_lay RX6 TX6 0) 132 rfl rfl
  | 1, _ => exact TBg_1 (w := u_lay RX6 TX6 1) 134 rfl rfl
  | 2, _ => exact TBg_1 (w := u_lay RX6 TX6 2) 136 rfl rfl
  | 3, _ => exact TBg_1 (w := u_lay RX6 TX6 3) 138 rfl rfl
  | 4, _ => exact TBg_1 (w := u_lay RX6 TX6 4) 140 rfl rfl
  | 5, _ => exact TBg_1 (w := u_lay RX6 TX6 5) 142 rfl rfl
  | 6, _ => exact TBg_1 (w := u_lay RX6 TX6 6) 144 rfl rfl
  | 7, _ => exact TBg_1 (w := u_lay RX6 TX6 7) 146 rfl rfl
  | 8, _ => exact TBg_1 (w := u_lay RX6 TX6 8) 148 rfl rfl
  | 9, _ => exact TBg_1 (w := u_lay RX6 TX6 9) 150 rfl rfl
  | 10, _ => exact TBg_1 (w := u_lay RX6 TX6 10) 152 rfl rfl
  | n + 11, h => exact absurd h (by omega)

set_option maxRecDepth 100000 in
theorem inX7 : ∀ w ∈ u_ws RX7 TX7 5, w ∈ TBg := by
  intro w hw
  obtain ⟨k, hk, rfl⟩ := List.mem_map.mp hw
  have hk : k < 5 := List.mem_range.mp hk
  match k, hk with
  | 0, _ => exact TBg_2 (w := u_lay RX7 TX7 0) 27 rfl rfl
  | 1, _ => exact TBg_2 (w := u_lay RX7 TX7 1) 29 rfl rfl
  | 2, _ => exact TBg_2 (w := u_lay RX7 TX7 2) 31 rfl rfl
  | 3, _ => exact TBg_2 (w := u_lay RX7 TX7 3) 33 rfl rfl
  | 4, _ => exact TBg_2 (w := u_lay RX7 TX7 4) 35 rfl rfl
  | n + 5, h => exact absurd h (by omega)

set_option maxRecDepth 100000 in
theorem inX8 : ∀ w ∈ u_ws RX8 TX8 18, w ∈ TBg := by
  intro w hw
  obtain ⟨k, hk, rfl⟩ := List.mem_map.mp hw
  have hk : k < 18 := List.mem_range.mp hk
  match k, hk with
  | 0, _ => exact TBg_4 (w := u_lay RX8 TX8 0) 224 rfl rfl
  | 1, _ => exact TBg_4 (w := u_lay RX8 TX8 1) 226 rfl rfl
  | 2, _ => exact TBg_4 (w := u_lay RX8 TX8 2) 228 rfl rfl
  | 3, _ => exact TBg_4 (w := u_lay RX8 TX8 3) 230 rfl rfl
  | 4, _ => exact TBg_4 (w := u_lay RX8 TX8 4) 232 rfl rfl
  | 5, _ => exact TBg_4 (w := u_lay RX8 TX8 5) 234 rfl rfl
  | 6, _ => exact TBg_4 (w := u_lay RX8 TX8 6) 236 rfl rfl
  | 7, _ => exact TBg_4 (w := u_lay RX8 TX8 7) 238 rfl rfl
  | 8, _ => exact TBg_5 (w := u_lay RX8 TX8 8) 0 rfl rfl
  | 9, _ => exact TBg_5 (w := u_lay RX8 TX8 9) 2 rfl rfl
  | 10, _ => exact TBg_5 (w := u_lay RX8 TX8 10) 4 rfl rfl
  | 11, _ => exact TBg_5 (w := u_lay RX8 TX8 11) 6 rfl rfl
  | 12, _ => exact TBg_5 (w := u_lay RX8 TX8 12) 8 rfl rfl
  | 13, _ => exact TBg_5 (w := u_lay RX8 TX8 13) 10 rfl rfl
  | 14, _ => exact TBg_5 (w := u_lay RX8 TX8 14) 12 rfl rfl
  | 15, _ => exact TBg_5 (w := u_lay RX8 TX8 15) 14 rfl rfl
  | 16, _ => exact TBg_5 (w := u_lay RX8 TX8 16) 16 rfl rfl
  | 17, _ => exact TBg_5 (w := u_lay RX8 TX8 17) 18 rfl rfl
  | n + 18, h => exact absurd h (by omega)

set_option maxRecDepth 100000 in
theorem flX0_15 : FlG RX0 15 0 1 .int false := ⟨RX0, TX0, 10, tyX0, rfl, inX0, by decide, TBg_1 165 rfl rfl, tyX0_ok, nmX0, rfl, rfl, by decide⟩
set_option maxRecDepth 100000 in
theorem flX0_18 : FlG RX0 18 0 2 .int false := ⟨RX0, TX0, 10, tyX0, rfl, inX0, by decide, TBg_1 167 rfl rfl, tyX0_ok, nmX0, rfl, rfl, by decide⟩
set_option maxRecDepth 100000 in
theorem flX0_21 : FlG RX0 21 0 3 (.array .int) true := ⟨RX0, TX0, 10, tyX0, rfl, inX0, by decide, TBg_1 170 rfl rfl, tyX0_ok, nmX0, rfl, rfl, by decide⟩
set_option maxRecDepth 100000 in
theorem flX0_25 : FlG RX0 25 0 4 (.array .int) true := ⟨RX0, TX0, 10, tyX0, rfl, inX0, by decide, TBg_1 172 rfl rfl, tyX0_ok, nmX0, rfl, rfl, by decide⟩
set_option maxRecDepth 100000 in
theorem flX0_28 : FlG RX0 28 0 5 (.array .int) true := ⟨RX0, TX0, 10, tyX0, rfl, inX0, by decide, TBg_1 175 rfl rfl, tyX0_ok, nmX0, rfl, rfl, by decide⟩
set_option maxRecDepth 100000 in
theorem flX0_31 : FlG RX0 31 0 6 (.array .int) true := ⟨RX0, TX0, 10, tyX0, rfl, inX0, by decide, TBg_1 178 rfl rfl, tyX0_ok, nmX0, rfl, rfl, by decide⟩
set_option maxRecDepth 100000 in
theorem flX0_34 : FlG RX0 34 0 7 (.array .int) true := ⟨RX0, TX0, 10, tyX0, rfl, inX0, by decide, TBg_1 181 rfl rfl, tyX0_ok, nmX0, rfl, rfl, by decide⟩
set_option maxRecDepth 100000 in
theorem flX0_37 : FlG RX0 37 0 8 (.array .int) true := ⟨RX0, TX0, 10, tyX0, rfl, inX0, by decide, TBg_1 183 rfl rfl, tyX0_ok, nmX0, rfl, rfl, by decide⟩
set_option maxRecDepth 100000 in
theorem flX0_40 : FlG RX0 40 0 9 (.array .boolean) true := ⟨RX0, TX0, 10, tyX0, rfl, inX0, by decide, TBg_1 186 rfl rfl, tyX0_ok, nmX0, rfl, rfl, by decide⟩
set_option maxRecDepth 100000 in
theorem flX0_9 : FlG RX0 9 0 0 .int false := ⟨RX0, TX0, 10, tyX0, rfl, inX0, by decide, TBg_1 161 rfl rfl, tyX0_ok, nmX0, rfl, rfl, by decide⟩
set_option maxRecDepth 100000 in
theorem flX1_11 : FlG RX1 11 1 1 (.array .int) true := ⟨RX1, TX1, 2, tyX1, rfl, inX1, by decide, TBg_1 218 rfl rfl, tyX1_ok, nmX1, rfl, rfl, by decide⟩
set_option maxRecDepth 100000 in
theorem flX1_15 : FlG RX1 15 1 0 (.array .int) true := ⟨RX1, TX1, 2, tyX1, rfl, inX1, by decide, TBg_1 217 rfl rfl, tyX1_ok, nmX1, rfl, rfl, by decide⟩
set_option maxRecDepth 100000 in
theorem flX2_11 : FlG RX2 11 2 0 (.array (.object "HardwareTaskQueue$Machine")) true := ⟨RX2, TX2, 3, tyX2, rfl, inX2, by decide, TBg_2 12 rfl rfl, tyX2_ok, nmX2, rfl, rfl, by decide⟩
set_option maxRecDepth 100000 in
theorem flX2_17 : FlG RX2 17 2 1 .int false := ⟨RX2, TX2, 3, tyX2, rfl, inX2, by decide, TBg_2 13 rfl rfl, tyX2_ok, nmX2, rfl, rfl, by decide⟩
set_option maxRecDepth 100000 in
theorem flX2_21 : FlG RX2 21 2 2 .int false := ⟨RX2, TX2, 3, tyX2, rfl, inX2, by decide, TBg_2 14 rfl rfl, tyX2_ok, nmX2, rfl, rfl, by decide⟩
set_option maxRecDepth 100000 in
theorem flX3_102 : FlG RX3 102 0 9 (.array .boolean) true := ⟨RX0, TX0, 10, tyX0, rfl, inX0, by decide, TBg_1 187 rfl rfl, tyX0_ok, nmX0, rfl, rfl, by decide⟩
set_option maxRecDepth 100000 in
theorem flX3_109 : FlG RX3 109 0 4 (.array .int) true := ⟨RX0, TX0, 10, tyX0, rfl, inX0, by decide, TBg_1 173 rfl rfl, tyX0_ok, nmX0, rfl, rfl, by decide⟩
set_option maxRecDepth 100000 in
theorem flX3_119 : FlG RX3 119 6 3 (.array .int) true := ⟨RX6, TX6, 11, tyX6, rfl, inX6, by decide, TBg_1 116 rfl rfl, tyX6_ok, nmX6, rfl, rfl, by decide⟩
set_option maxRecDepth 100000 in
theorem flX3_12 : FlG RX3 12 3 0 (.object "HardwareTaskQueue$TaskTable") true := ⟨RX3, TX3, 4, tyX3, rfl, inX3, by decide, TBg_1 224 rfl rfl, tyX3_ok, nmX3, rfl, rfl, by decide⟩
set_option maxRecDepth 100000 in
theorem flX3_122 : FlG RX3 122 6 4 (.array .int) true := ⟨RX6, TX6, 11, tyX6, rfl, inX6, by decide, TBg_1 118 rfl rfl, tyX6_ok, nmX6, rfl, rfl, by decide⟩
set_option maxRecDepth 100000 in
theorem flX3_129 : FlG RX3 129 6 7 (.array .int) true := ⟨RX6, TX6, 11, tyX6, rfl, inX6, by decide, TBg_1 125 rfl rfl, tyX6_ok, nmX6, rfl, rfl, by decide⟩
set_option maxRecDepth 100000 in
theorem flX3_132 : FlG RX3 132 0 2 .int false := ⟨RX0, TX0, 10, tyX0, rfl, inX0, by decide, TBg_1 169 rfl rfl, tyX0_ok, nmX0, rfl, rfl, by decide⟩
set_option maxRecDepth 100000 in
theorem flX3_135 : FlG RX3 135 0 8 (.array .int) true := ⟨RX0, TX0, 10, tyX0, rfl, inX0, by decide, TBg_1 184 rfl rfl, tyX0_ok, nmX0, rfl, rfl, by decide⟩
set_option maxRecDepth 100000 in
theorem flX3_21 : FlG RX3 21 3 1 (.object "HardwareTaskQueue$CoreTable") true := ⟨RX3, TX3, 4, tyX3, rfl, inX3, by decide, TBg_1 227 rfl rfl, tyX3_ok, nmX3, rfl, rfl, by decide⟩
set_option maxRecDepth 100000 in
theorem flX3_30 : FlG RX3 30 3 2 (.object "HardwareTaskQueue$Formula") false := ⟨RX3, TX3, 4, tyX3, rfl, inX3, by decide, TBg_1 230 rfl rfl, tyX3_ok, nmX3, rfl, rfl, by decide⟩
set_option maxRecDepth 100000 in
theorem flX3_34 : FlG RX3 34 3 3 .int false := ⟨RX3, TX3, 4, tyX3, rfl, inX3, by decide, TBg_1 232 rfl rfl, tyX3_ok, nmX3, rfl, rfl, by decide⟩
set_option maxRecDepth 100000 in
theorem flX3_72 : FlG RX3 72 0 0 .int false := ⟨RX0, TX0, 10, tyX0, rfl, inX0, by decide, TBg_1 164 rfl rfl, tyX0_ok, nmX0, rfl, rfl, by decide⟩
set_option maxRecDepth 100000 in
theorem flX3_75 : FlG RX3 75 0 5 (.array .int) true := ⟨RX0, TX0, 10, tyX0, rfl, inX0, by decide, TBg_1 176 rfl rfl, tyX0_ok, nmX0, rfl, rfl, by decide⟩
set_option maxRecDepth 100000 in
theorem flX3_79 : FlG RX3 79 0 6 (.array .int) true := ⟨RX0, TX0, 10, tyX0, rfl, inX0, by decide, TBg_1 179 rfl rfl, tyX0_ok, nmX0, rfl, rfl, by decide⟩
set_option maxRecDepth 100000 in
theorem flX3_82 : FlG RX3 82 6 2 (.array .int) true := ⟨RX6, TX6, 11, tyX6, rfl, inX6, by decide, TBg_1 113 rfl rfl, tyX6_ok, nmX6, rfl, rfl, by decide⟩
set_option maxRecDepth 100000 in
theorem flX3_85 : FlG RX3 85 6 8 (.array .int) true := ⟨RX6, TX6, 11, tyX6, rfl, inX6, by decide, TBg_1 128 rfl rfl, tyX6_ok, nmX6, rfl, rfl, by decide⟩
set_option maxRecDepth 100000 in
theorem flX3_91 : FlG RX3 91 6 5 (.array .int) true := ⟨RX6, TX6, 11, tyX6, rfl, inX6, by decide, TBg_1 121 rfl rfl, tyX6_ok, nmX6, rfl, rfl, by decide⟩
set_option maxRecDepth 100000 in
theorem flX4_12 : FlG RX4 12 4 0 (.object "HardwareTaskQueue$SetupText") true := ⟨RX4, TX4, 6, tyX4, rfl, inX4, by decide, TBg_1 71 rfl rfl, tyX4_ok, nmX4, rfl, rfl, by decide⟩
set_option maxRecDepth 100000 in
theorem flX4_147 : FlG RX4 147 5 6 .int false := ⟨RX5, TX5, 7, tyX5, rfl, inX5, by decide, TBg_1 54 rfl rfl, tyX5_ok, nmX5, rfl, rfl, by decide⟩
set_option maxRecDepth 100000 in
theorem flX4_169 : FlG RX4 169 5 4 .int false := ⟨RX5, TX5, 7, tyX5, rfl, inX5, by decide, TBg_1 51 rfl rfl, tyX5_ok, nmX5, rfl, rfl, by decide⟩
set_option maxRecDepth 100000 in
theorem flX4_18 : FlG RX4 18 4 1 .int false := ⟨RX4, TX4, 6, tyX4, rfl, inX4, by decide, TBg_1 73 rfl rfl, tyX4_ok, nmX4, rfl, rfl, by decide⟩
set_option maxRecDepth 100000 in
theorem flX4_22 : FlG RX4 22 4 2 .int false := ⟨RX4, TX4, 6, tyX4, rfl, inX4, by decide, TBg_1 75 rfl rfl, tyX4_ok, nmX4, rfl, rfl, by decide⟩
set_option maxRecDepth 100000 in
theorem flX4_25 : FlG RX4 25 4 3 (.array .int) true := ⟨RX4, TX4, 6, tyX4, rfl, inX4, by decide, TBg_1 77 rfl rfl, tyX4_ok, nmX4, rfl, rfl, by decide⟩
set_option maxRecDepth 100000 in
theorem flX4_29 : FlG RX4 29 4 4 .int false := ⟨RX4, TX4, 6, tyX4, rfl, inX4, by decide, TBg_1 78 rfl rfl, tyX4_ok, nmX4, rfl, rfl, by decide⟩
set_option maxRecDepth 100000 in
theorem flX4_49 : FlG RX4 49 5 3 .int false := ⟨RX5, TX5, 7, tyX5, rfl, inX5, by decide, TBg_1 49 rfl rfl, tyX5_ok, nmX5, rfl, rfl, by decide⟩
set_option maxRecDepth 100000 in
theorem flX5_15 : FlG RX5 15 5 1 .int false := ⟨RX5, TX5, 7, tyX5, rfl, inX5, by decide, TBg_1 45 rfl rfl, tyX5_ok, nmX5, rfl, rfl, by decide⟩
set_option maxRecDepth 100000 in
theorem flX5_19 : FlG RX5 19 5 2 .int false := ⟨RX5, TX5, 7, tyX5, rfl, inX5, by decide, TBg_1 47 rfl rfl, tyX5_ok, nmX5, rfl, rfl, by decide⟩
set_option maxRecDepth 100000 in
theorem flX5_22 : FlG RX5 22 5 3 .int false := ⟨RX5, TX5, 7, tyX5, rfl, inX5, by decide, TBg_1 48 rfl rfl, tyX5_ok, nmX5, rfl, rfl, by decide⟩
set_option maxRecDepth 100000 in
theorem flX5_25 : FlG RX5 25 5 4 .int false := ⟨RX5, TX5, 7, tyX5, rfl, inX5, by decide, TBg_1 50 rfl rfl, tyX5_ok, nmX5, rfl, rfl, by decide⟩
set_option maxRecDepth 100000 in
theorem flX5_28 : FlG RX5 28 5 5 .int false := ⟨RX5, TX5, 7, tyX5, rfl, inX5, by decide, TBg_1 52 rfl rfl, tyX5_ok, nmX5, rfl, rfl, by decide⟩
set_option maxRecDepth 100000 in
theorem flX5_31 : FlG RX5 31 5 6 .int false := ⟨RX5, TX5, 7, tyX5, rfl, inX5, by decide, TBg_1 53 rfl rfl, tyX5_ok, nmX5, rfl, rfl, by decide⟩
set_option maxRecDepth 100000 in
theorem flX5_9 : FlG RX5 9 5 0 (.array .byte) true := ⟨RX5, TX5, 7, tyX5, rfl, inX5, by decide, TBg_1 44 rfl rfl, tyX5_ok, nmX5, rfl, rfl, by decide⟩
set_option maxRecDepth 100000 in
theorem flX6_15 : FlG RX6 15 6 1 .int false := ⟨RX6, TX6, 11, tyX6, rfl, inX6, by decide, TBg_1 109 rfl rfl, tyX6_ok, nmX6, rfl, rfl, by decide⟩
set_option maxRecDepth 100000 in
theorem flX6_18 : FlG RX6 18 6 2 (.array .int) true := ⟨RX6, TX6, 11, tyX6, rfl, inX6, by decide, TBg_1 112 rfl rfl, tyX6_ok, nmX6, rfl, rfl, by decide⟩
set_option maxRecDepth 100000 in
theorem flX6_22 : FlG RX6 22 6 3 (.array .int) true := ⟨RX6, TX6, 11, tyX6, rfl, inX6, by decide, TBg_1 115 rfl rfl, tyX6_ok, nmX6, rfl, rfl, by decide⟩
set_option maxRecDepth 100000 in
theorem flX6_25 : FlG RX6 25 6 4 (.array .int) true := ⟨RX6, TX6, 11, tyX6, rfl, inX6, by decide, TBg_1 117 rfl rfl, tyX6_ok, nmX6, rfl, rfl, by decide⟩
set_option maxRecDepth 100000 in
theorem flX6_28 : FlG RX6 28 6 5 (.array .int) true := ⟨RX6, TX6, 11, tyX6, rfl, inX6, by decide, TBg_1 120 rfl rfl, tyX6_ok, nmX6, rfl, rfl, by decide⟩
set_option maxRecDepth 100000 in
theorem flX6_31 : FlG RX6 31 6 6 (.array .int) true := ⟨RX6, TX6, 11, tyX6, rfl, inX6, by decide, TBg_1 122 rfl rfl, tyX6_ok, nmX6, rfl, rfl, by decide⟩
set_option maxRecDepth 100000 in
theorem flX6_34 : FlG RX6 34 6 7 (.array .int) true := ⟨RX6, TX6, 11, tyX6, rfl, inX6, by decide, TBg_1 124 rfl rfl, tyX6_ok, nmX6, rfl, rfl, by decide⟩
set_option maxRecDepth 100000 in
theorem flX6_37 : FlG RX6 37 6 8 (.array .int) true := ⟨RX6, TX6, 11, tyX6, rfl, inX6, by decide, TBg_1 127 rfl rfl, tyX6_ok, nmX6, rfl, rfl, by decide⟩
set_option maxRecDepth 100000 in
theorem flX6_40 : FlG RX6 40 6 9 (.array .int) true := ⟨RX6, TX6, 11, tyX6, rfl, inX6, by decide, TBg_1 130 rfl rfl, tyX6_ok, nmX6, rfl, rfl, by decide⟩
set_option maxRecDepth 100000 in
theorem flX6_43 : FlG RX6 43 6 10 (.array .int) true := ⟨RX6, TX6, 11, tyX6, rfl, inX6, by decide, TBg_1 131 rfl rfl, tyX6_ok, nmX6, rfl, rfl, by decide⟩
set_option maxRecDepth 100000 in
theorem flX6_9 : FlG RX6 9 6 0 .int false := ⟨RX6, TX6, 11, tyX6, rfl, inX6, by decide, TBg_1 106 rfl rfl, tyX6_ok, nmX6, rfl, rfl, by decide⟩
set_option maxRecDepth 100000 in
theorem flX7_10 : FlG RX7 10 7 0 (.object "HardwareTaskQueue$SetupReader") true := ⟨RX7, TX7, 5, tyX7, rfl, inX7, by decide, TBg_2 22 rfl rfl, tyX7_ok, nmX7, rfl, rfl, by decide⟩
set_option maxRecDepth 100000 in
theorem flX7_111 : FlG RX7 111 6 4 (.array .int) true := ⟨RX6, TX6, 11, tyX6, rfl, inX6, by decide, TBg_1 119 rfl rfl, tyX6_ok, nmX6, rfl, rfl, by decide⟩
set_option maxRecDepth 100000 in
theorem flX7_132 : FlG RX7 132 0 4 (.array .int) true := ⟨RX0, TX0, 10, tyX0, rfl, inX0, by decide, TBg_1 174 rfl rfl, tyX0_ok, nmX0, rfl, rfl, by decide⟩
set_option maxRecDepth 100000 in
theorem flX7_137 : FlG RX7 137 0 3 (.array .int) true := ⟨RX0, TX0, 10, tyX0, rfl, inX0, by decide, TBg_1 171 rfl rfl, tyX0_ok, nmX0, rfl, rfl, by decide⟩
set_option maxRecDepth 100000 in
theorem flX7_140 : FlG RX7 140 0 5 (.array .int) true := ⟨RX0, TX0, 10, tyX0, rfl, inX0, by decide, TBg_1 177 rfl rfl, tyX0_ok, nmX0, rfl, rfl, by decide⟩
set_option maxRecDepth 100000 in
theorem flX7_143 : FlG RX7 143 0 6 (.array .int) true := ⟨RX0, TX0, 10, tyX0, rfl, inX0, by decide, TBg_1 180 rfl rfl, tyX0_ok, nmX0, rfl, rfl, by decide⟩
set_option maxRecDepth 100000 in
theorem flX7_146 : FlG RX7 146 0 7 (.array .int) true := ⟨RX0, TX0, 10, tyX0, rfl, inX0, by decide, TBg_1 182 rfl rfl, tyX0_ok, nmX0, rfl, rfl, by decide⟩
set_option maxRecDepth 100000 in
theorem flX7_149 : FlG RX7 149 0 8 (.array .int) true := ⟨RX0, TX0, 10, tyX0, rfl, inX0, by decide, TBg_1 185 rfl rfl, tyX0_ok, nmX0, rfl, rfl, by decide⟩
set_option maxRecDepth 100000 in
theorem flX7_19 : FlG RX7 19 7 1 (.object "HardwareTaskQueue$Machine") true := ⟨RX7, TX7, 5, tyX7, rfl, inX7, by decide, TBg_2 23 rfl rfl, tyX7_ok, nmX7, rfl, rfl, by decide⟩
set_option maxRecDepth 100000 in
theorem flX7_29 : FlG RX7 29 7 3 (.object "HardwareTaskQueue$History") true := ⟨RX7, TX7, 5, tyX7, rfl, inX7, by decide, TBg_2 25 rfl rfl, tyX7_ok, nmX7, rfl, rfl, by decide⟩
set_option maxRecDepth 100000 in
theorem flX7_33 : FlG RX7 33 7 4 .int false := ⟨RX7, TX7, 5, tyX7, rfl, inX7, by decide, TBg_2 26 rfl rfl, tyX7_ok, nmX7, rfl, rfl, by decide⟩
set_option maxRecDepth 100000 in
theorem flX7_37 : FlG RX7 37 4 0 (.object "HardwareTaskQueue$SetupText") true := ⟨RX4, TX4, 6, tyX4, rfl, inX4, by decide, TBg_1 72 rfl rfl, tyX4_ok, nmX4, rfl, rfl, by decide⟩
set_option maxRecDepth 100000 in
theorem flX7_41 : FlG RX7 41 5 1 .int false := ⟨RX5, TX5, 7, tyX5, rfl, inX5, by decide, TBg_1 46 rfl rfl, tyX5_ok, nmX5, rfl, rfl, by decide⟩
set_option maxRecDepth 100000 in
theorem flX7_74 : FlG RX7 74 3 0 (.object "HardwareTaskQueue$TaskTable") true := ⟨RX3, TX3, 4, tyX3, rfl, inX3, by decide, TBg_1 226 rfl rfl, tyX3_ok, nmX3, rfl, rfl, by decide⟩
set_option maxRecDepth 100000 in
theorem flX7_78 : FlG RX7 78 6 0 .int false := ⟨RX6, TX6, 11, tyX6, rfl, inX6, by decide, TBg_1 108 rfl rfl, tyX6_ok, nmX6, rfl, rfl, by decide⟩
set_option maxRecDepth 100000 in
theorem flX7_83 : FlG RX7 83 3 1 (.object "HardwareTaskQueue$CoreTable") true := ⟨RX3, TX3, 4, tyX3, rfl, inX3, by decide, TBg_1 229 rfl rfl, tyX3_ok, nmX3, rfl, rfl, by decide⟩
set_option maxRecDepth 100000 in
theorem flX7_87 : FlG RX7 87 0 0 .int false := ⟨RX0, TX0, 10, tyX0, rfl, inX0, by decide, TBg_1 163 rfl rfl, tyX0_ok, nmX0, rfl, rfl, by decide⟩
set_option maxRecDepth 100000 in
theorem flX7_90 : FlG RX7 90 6 1 .int false := ⟨RX6, TX6, 11, tyX6, rfl, inX6, by decide, TBg_1 111 rfl rfl, tyX6_ok, nmX6, rfl, rfl, by decide⟩
set_option maxRecDepth 100000 in
theorem flX7_93 : FlG RX7 93 3 3 .int false := ⟨RX3, TX3, 4, tyX3, rfl, inX3, by decide, TBg_1 233 rfl rfl, tyX3_ok, nmX3, rfl, rfl, by decide⟩
set_option maxRecDepth 100000 in
theorem flX7_99 : FlG RX7 99 6 2 (.array .int) true := ⟨RX6, TX6, 11, tyX6, rfl, inX6, by decide, TBg_1 114 rfl rfl, tyX6_ok, nmX6, rfl, rfl, by decide⟩
set_option maxRecDepth 100000 in
theorem flX8_13 : FlG RX8 13 8 7 .int false := ⟨RX8, TX8, 18, tyX8, rfl, inX8, by decide, TBg_4 213 rfl rfl, tyX8_ok, nmX8, rfl, rfl, by decide⟩
set_option maxRecDepth 100000 in
theorem flX8_133 : FlG RX8 133 8 15 .int false := ⟨RX8, TX8, 18, tyX8, rfl, inX8, by decide, TBg_4 221 rfl rfl, tyX8_ok, nmX8, rfl, rfl, by decide⟩
set_option maxRecDepth 100000 in
theorem flX8_17 : FlG RX8 17 8 8 (.array .int) true := ⟨RX8, TX8, 18, tyX8, rfl, inX8, by decide, TBg_4 214 rfl rfl, tyX8_ok, nmX8, rfl, rfl, by decide⟩
set_option maxRecDepth 100000 in
theorem flX8_20 : FlG RX8 20 8 9 (.array .int) true := ⟨RX8, TX8, 18, tyX8, rfl, inX8, by decide, TBg_4 215 rfl rfl, tyX8_ok, nmX8, rfl, rfl, by decide⟩
set_option maxRecDepth 100000 in
theorem flX8_23 : FlG RX8 23 8 10 (.array .int) true := ⟨RX8, TX8, 18, tyX8, rfl, inX8, by decide, TBg_4 216 rfl rfl, tyX8_ok, nmX8, rfl, rfl, by decide⟩
set_option maxRecDepth 100000 in
theorem flX8_252 : FlG RX8 252 8 12 .int false := ⟨RX8, TX8, 18, tyX8, rfl, inX8, by decide, TBg_4 218 rfl rfl, tyX8_ok, nmX8, rfl, rfl, by decide⟩
set_option maxRecDepth 100000 in
theorem flX8_28 : FlG RX8 28 8 11 (.array (.array .int)) true := ⟨RX8, TX8, 18, tyX8, rfl, inX8, by decide, TBg_4 217 rfl rfl, tyX8_ok, nmX8, rfl, rfl, by decide⟩
set_option maxRecDepth 100000 in
theorem flX8_31 : FlG RX8 31 8 16 (.array .long) true := ⟨RX8, TX8, 18, tyX8, rfl, inX8, by decide, TBg_4 222 rfl rfl, tyX8_ok, nmX8, rfl, rfl, by decide⟩
set_option maxRecDepth 100000 in
theorem flX8_35 : FlG RX8 35 8 17 (.array .int) true := ⟨RX8, TX8, 18, tyX8, rfl, inX8, by decide, TBg_4 223 rfl rfl, tyX8_ok, nmX8, rfl, rfl, by decide⟩
set_option maxRecDepth 100000 in
theorem flX8_38 : FlG RX8 38 8 0 .int false := ⟨RX8, TX8, 18, tyX8, rfl, inX8, by decide, TBg_4 206 rfl rfl, tyX8_ok, nmX8, rfl, rfl, by decide⟩
set_option maxRecDepth 100000 in
theorem flX8_45 : FlG RX8 45 8 2 .int false := ⟨RX8, TX8, 18, tyX8, rfl, inX8, by decide, TBg_4 208 rfl rfl, tyX8_ok, nmX8, rfl, rfl, by decide⟩
set_option maxRecDepth 100000 in
theorem flX8_48 : FlG RX8 48 8 3 .int false := ⟨RX8, TX8, 18, tyX8, rfl, inX8, by decide, TBg_4 209 rfl rfl, tyX8_ok, nmX8, rfl, rfl, by decide⟩
set_option maxRecDepth 100000 in
theorem flX8_51 : FlG RX8 51 8 4 .int false := ⟨RX8, TX8, 18, tyX8, rfl, inX8, by decide, TBg_4 210 rfl rfl, tyX8_ok, nmX8, rfl, rfl, by decide⟩
set_option maxRecDepth 100000 in
theorem flX8_57 : FlG RX8 57 8 5 .int false := ⟨RX8, TX8, 18, tyX8, rfl, inX8, by decide, TBg_4 211 rfl rfl, tyX8_ok, nmX8, rfl, rfl, by decide⟩
set_option maxRecDepth 100000 in
theorem flX8_60 : FlG RX8 60 8 6 .int false := ⟨RX8, TX8, 18, tyX8, rfl, inX8, by decide, TBg_4 212 rfl rfl, tyX8_ok, nmX8, rfl, rfl, by decide⟩
set_option maxRecDepth 100000 in
theorem flX8_9 : FlG RX8 9 8 1 (.array .int) true := ⟨RX8, TX8, 18, tyX8, rfl, inX8, by decide, TBg_4 207 rfl rfl, tyX8_ok, nmX8, rfl, rfl, by decide⟩
set_option maxRecDepth 100000 in
theorem flX8_92 : FlG RX8 92 8 13 .int false := ⟨RX8, TX8, 18, tyX8, rfl, inX8, by decide, TBg_4 219 rfl rfl, tyX8_ok, nmX8, rfl, rfl, by decide⟩
set_option maxRecDepth 100000 in
theorem fpX0_15 : FlP RX0 15 0 1 .int false := ⟨flX0_15, fun h => absurd h (by decide)⟩
set_option maxRecDepth 100000 in
theorem fpX0_18 : FlP RX0 18 0 2 .int false := ⟨flX0_18, fun h => absurd h (by decide)⟩
set_option maxRecDepth 100000 in
theorem fpX0_9 : FlP RX0 9 0 0 .int false := ⟨flX0_9, fun h => absurd h (by decide)⟩
set_option maxRecDepth 100000 in
theorem fpX2_17 : FlP RX2 17 2 1 .int false := ⟨flX2_17, fun h => absurd h (by decide)⟩
set_option maxRecDepth 100000 in
theorem fpX2_21 : FlP RX2 21 2 2 .int false := ⟨flX2_21, fun h => absurd h (by decide)⟩
set_option maxRecDepth 100000 in
theorem fpX3_30 : FlP RX3 30 3 2 (.object "HardwareTaskQueue$Formula") false := ⟨flX3_30, fun h => absurd h (by decide)⟩
set_option maxRecDepth 100000 in
theorem fpX3_34 : FlP RX3 34 3 3 .int false := ⟨flX3_34, fun h => absurd h (by decide)⟩
set_option maxRecDepth 100000 in
theorem fpX4_18 : FlP RX4 18 4 1 .int false := ⟨flX4_18, fun h => absurd h (by decide)⟩
set_option maxRecDepth 100000 in
theorem fpX4_22 : FlP RX4 22 4 2 .int false := ⟨flX4_22, fun h => absurd h (by decide)⟩
set_option maxRecDepth 100000 in
theorem fpX4_29 : FlP RX4 29 4 4 .int false := ⟨flX4_29, fun h => absurd h (by decide)⟩
set_option maxRecDepth 100000 in
theorem fpX5_15 : FlP RX5 15 5 1 .int false := ⟨flX5_15, fun h => absurd h (by decide)⟩
set_option maxRecDepth 100000 in
theorem fpX5_19 : FlP RX5 19 5 2 .int false := ⟨flX5_19, fun h => absurd h (by decide)⟩
set_option maxRecDepth 100000 in
theorem fpX5_22 : FlP RX5 22 5 3 .int false := ⟨flX5_22, fun h => absurd h (by decide)⟩
set_option maxRecDepth 100000 in
theorem fpX5_25 : FlP RX5 25 5 4 .int false := ⟨flX5_25, fun h => absurd h (by decide)⟩
set_option maxRecDepth 100000 in
theorem fpX5_28 : FlP RX5 28 5 5 .int false := ⟨flX5_28, fun h => absurd h (by decide)⟩
set_option maxRecDepth 100000 in
theorem fpX5_31 : FlP RX5 31 5 6 .int false := ⟨flX5_31, fun h => absurd h (by decide)⟩
set_option maxRecDepth 100000 in
theorem fpX6_15 : FlP RX6 15 6 1 .int false := ⟨flX6_15, fun h => absurd h (by decide)⟩
set_option maxRecDepth 100000 in
theorem fpX6_9 : FlP RX6 9 6 0 .int false := ⟨flX6_9, fun h => absurd h (by decide)⟩
set_option maxRecDepth 100000 in
theorem fpX8_133 : FlP RX8 133 8 15 .int false := ⟨flX8_133, fun h => absurd h (by decide)⟩
set_option maxRecDepth 100000 in
theorem fpX8_252 : FlP RX8 252 8 12 .int false := ⟨flX8_252, fun h => absurd h (by decide)⟩
set_option maxRecDepth 100000 in
theorem fpX8_38 : FlP RX8 38 8 0 .int false := ⟨flX8_38, fun h => absurd h (by decide)⟩
set_option maxRecDepth 100000 in
theorem fpX8_45 : FlP RX8 45 8 2 .int false := ⟨flX8_45, fun h => absurd h (by decide)⟩
set_option maxRecDepth 100000 in
theorem fpX8_51 : FlP RX8 51 8 4 .int false := ⟨flX8_51, fun h => absurd h (by decide)⟩
set_option maxRecDepth 100000 in
theorem fpX8_57 : FlP RX8 57 8 5 .int false := ⟨flX8_57, fun h => absurd h (by decide)⟩
set_option maxRecDepth 100000 in
theorem fpX8_60 : FlP RX8 60 8 6 .int false := ⟨flX8_60, fun h => absurd h (by decide)⟩
set_option maxRecDepth 100000 in
theorem fpX8_92 : FlP RX8 92 8 13 .int false := ⟨flX8_92, fun h => absurd h (by decide)⟩
set_option maxRecDepth 100000 in
theorem kcX5_43 : Cond.constant RX5 43 (Int32.ofInt (1000000)) ∈ TBg := TBg_2 234 rfl rfl
set_option maxRecDepth 100000 in
theorem kcX8_255 : Cond.constant RX8 255 (Int32.ofInt (100000)) ∈ TBg := TBg_6 61 rfl rfl
set_option maxRecDepth 100000 in
theorem kcX8_95 : Cond.constant RX8 95 (Int32.ofInt (1000000)) ∈ TBg := TBg_5 77 rfl rfl
set_option maxRecDepth 100000 in
theorem kcJ6_265 : Cond.constant RJ6 265 (Int32.ofInt (1431655765)) ∈ TBg := TBg_2 81 rfl rfl
set_option maxRecDepth 100000 in
theorem kcJ6_266 : Cond.constant RJ6 266 (Int32.ofInt (858993459)) ∈ TBg := TBg_2 82 rfl rfl
set_option maxRecDepth 100000 in
theorem kcJ6_267 : Cond.constant RJ6 267 (Int32.ofInt (252645135)) ∈ TBg := TBg_2 83 rfl rfl
set_option maxRecDepth 100000 in
theorem kcX1_31 : Cond.constantLong RX1 31 (Int64.ofInt (-1000000)) ∈ TBg := TBg_4 91 rfl rfl
set_option maxRecDepth 100000 in
theorem kcX1_33 : Cond.constantLong RX1 33 (Int64.ofInt (1000000)) ∈ TBg := TBg_4 92 rfl rfl
set_option maxRecDepth 100000 in
theorem kcX7_220 : Cond.constantLong RX7 220 (Int64.ofInt (31)) ∈ TBg := TBg_2 130 rfl rfl
set_option maxRecDepth 100000 in
theorem kcX8_182 : Cond.constantLong RX8 182 (Int64.ofInt (1000000)) ∈ TBg := TBg_6 50 rfl rfl
set_option maxRecDepth 100000 in
theorem kcX8_184 : Cond.constantLong RX8 184 (Int64.ofInt (-1000000)) ∈ TBg := TBg_6 51 rfl rfl
set_option maxRecDepth 100000 in
theorem kcX8_194 : Cond.constantLong RX8 194 (Int64.ofInt (999)) ∈ TBg := TBg_6 52 rfl rfl
set_option maxRecDepth 100000 in
theorem kcX8_256 : Cond.constantLong RX8 256 (Int64.ofInt (31)) ∈ TBg := TBg_6 90 rfl rfl
set_option maxRecDepth 100000 in
theorem kmX0_44 : AlP RX0 44 := ⟨TBg_2 125 rfl rfl, TBg_2 120 rfl rfl, TBg_2 119 rfl rfl, TBg_1 20 rfl rfl⟩
set_option maxRecDepth 100000 in
theorem kmX6_46 : AlP RX6 46 := ⟨TBg_2 118 rfl rfl, TBg_2 120 rfl rfl, TBg_2 119 rfl rfl, TBg_1 20 rfl rfl⟩
set_option maxRecDepth 100000 in
theorem lsX1_18 : SlP RX1 18 yX1_result cX1_result 7 (some .int) 3 := ⟨TBg_4 88 rfl rfl, TBg_4 89 rfl rfl, TBg_1 7 rfl rfl, TBg_4 90 rfl rfl, by decide, by decide, by decide +kernel⟩
set_option maxRecDepth 100000 in
theorem lnX4_150 : Cond.static yX7_hasBit ∈ TBg ∧ Cond.initialized yX7_hasBit.cls ∈ TBg ∧ Cond.code yX7_hasBit cX7_hasBit 2 (some .boolean) ∈ TBg ∧ yX7_hasBit.cls ≠ "java/lang/invoke/MethodHandle" ∧ yX7_hasBit.cls ≠ "java/lang/invoke/VarHandle" ∧ (parseMethodDescriptor yX7_hasBit.desc).map (fun d => d.parameters.length) = some 2 := ⟨TBg_2 93 rfl rfl, TBg_1 1 rfl rfl, TBg_2 94 rfl rfl, by decide, by decide, by decide +kernel⟩
set_option maxRecDepth 100000 in
theorem lsX6_56 : SlP RX6 56 yJ6_bitCount_0f7a4 cJ6_bitCount_0f7a4 1 (some .int) 1 := ⟨TBg_2 78 rfl rfl, TBg_2 79 rfl rfl, TBg_1 22 rfl rfl, TBg_2 80 rfl rfl, by decide, by decide, by decide +kernel⟩
set_option maxRecDepth 100000 in
theorem lnX6_66 : Cond.static yX7_hasBit ∈ TBg ∧ Cond.initialized yX7_hasBit.cls ∈ TBg ∧ Cond.code yX7_hasBit cX7_hasBit 2 (some .boolean) ∈ TBg ∧ yX7_hasBit.cls ≠ "java/lang/invoke/MethodHandle" ∧ yX7_hasBit.cls ≠ "java/lang/invoke/VarHandle" ∧ (parseMethodDescriptor yX7_hasBit.desc).map (fun d => d.parameters.length) = some 2 := ⟨TBg_2 93 rfl rfl, TBg_1 1 rfl rfl, TBg_2 94 rfl rfl, by decide, by decide, by decide +kernel⟩
set_option maxRecDepth 100000 in
theorem lsX8_136 : SlP RX8 136 yX8_task cX8_task 1 (some .int) 1 := ⟨TBg_5 99 rfl rfl, TBg_5 100 rfl rfl, TBg_1 9 rfl rfl, TBg_5 101 rfl rfl, by decide, by decide, by decide +kernel⟩
set_option maxRecDepth 100000 in
theorem lsX8_139 : SlP RX8 139 yX8_putToWait cX8_putToWait 2 none 2 := ⟨TBg_5 102 rfl rfl, TBg_5 103 rfl rfl, TBg_1 9 rfl rfl, TBg_5 104 rfl rfl, by decide, by decide, by decide +kernel⟩
set_option maxRecDepth 100000 in
theorem lsX8_145 : SlP RX8 145 yX8_addTask cX8_addTask 6 (some .int) 4 := ⟨TBg_5 96 rfl rfl, TBg_5 97 rfl rfl, TBg_1 9 rfl rfl, TBg_5 98 rfl rfl, by decide, by decide, by decide +kernel⟩
set_option maxRecDepth 100000 in
theorem lsX8_166 : SlP RX8 166 yX8_clearCores cX8_clearCores 2 none 1 := ⟨TBg_5 41 rfl rfl, TBg_5 42 rfl rfl, TBg_1 9 rfl rfl, TBg_5 43 rfl rfl, by decide, by decide, by decide +kernel⟩
set_option maxRecDepth 100000 in
theorem lsX8_178 : SlP RX8 178 yX8_copy cX8_copy 3 none 2 := ⟨TBg_5 138 rfl rfl, TBg_5 139 rfl rfl, TBg_1 9 rfl rfl, TBg_5 140 rfl rfl, by decide, by decide, by decide +kernel⟩
set_option maxRecDepth 100000 in
theorem lsX8_186 : SlP RX8 186 yX8_limited cX8_limited 2 (some .long) 1 := ⟨TBg_6 47 rfl rfl, TBg_6 48 rfl rfl, TBg_1 9 rfl rfl, TBg_6 49 rfl rfl, by decide, by decide, by decide +kernel⟩
set_option maxRecDepth 100000 in
theorem lsX8_190 : SlP RX8 190 yX8_operate cX8_operate 5 (some .long) 3 := ⟨TBg_6 44 rfl rfl, TBg_6 45 rfl rfl, TBg_1 9 rfl rfl, TBg_6 46 rfl rfl, by decide, by decide, by decide +kernel⟩
set_option maxRecDepth 100000 in
theorem lsX8_196 : SlP RX8 196 yX8_isFinished cX8_isFinished 2 (some .boolean) 2 := ⟨TBg_5 176 rfl rfl, TBg_5 177 rfl rfl, TBg_1 9 rfl rfl, TBg_5 178 rfl rfl, by decide, by decide, by decide +kernel⟩
set_option maxRecDepth 100000 in
theorem lsX8_200 : SlP RX8 200 yX8_isOpened cX8_isOpened 3 (some .boolean) 2 := ⟨TBg_5 179 rfl rfl, TBg_5 180 rfl rfl, TBg_1 9 rfl rfl, TBg_5 181 rfl rfl, by decide, by decide, by decide +kernel⟩
set_option maxRecDepth 100000 in
theorem lsX8_203 : SlP RX8 203 yX8_counterOf cX8_counterOf 4 (some .int) 2 := ⟨TBg_5 173 rfl rfl, TBg_5 174 rfl rfl, TBg_1 9 rfl rfl, TBg_5 175 rfl rfl, by decide, by decide, by decide +kernel⟩
set_option maxRecDepth 100000 in
theorem lsX8_207 : SlP RX8 207 yX8_coreFor cX8_coreFor 5 (some .int) 2 := ⟨TBg_6 30 rfl rfl, TBg_6 31 rfl rfl, TBg_1 9 rfl rfl, TBg_6 32 rfl rfl, by decide, by decide, by decide +kernel⟩
set_option maxRecDepth 100000 in
theorem lsX8_210 : SlP RX8 210 yX8_takeOut cX8_takeOut 6 (some .int) 3 := ⟨TBg_6 37 rfl rfl, TBg_6 38 rfl rfl, TBg_1 9 rfl rfl, TBg_6 39 rfl rfl, by decide, by decide, by decide +kernel⟩
set_option maxRecDepth 100000 in
theorem lsX8_217 : SlP RX8 217 yX8_goOn cX8_goOn 4 (some .int) 1 := ⟨TBg_6 24 rfl rfl, TBg_6 25 rfl rfl, TBg_1 9 rfl rfl, TBg_6 26 rfl rfl, by decide, by decide, by decide +kernel⟩
set_option maxRecDepth 100000 in
theorem lsX8_221 : SlP RX8 221 yX8_queueReady cX8_queueReady 4 none 1 := ⟨TBg_6 27 rfl rfl, TBg_6 28 rfl rfl, TBg_1 9 rfl rfl, TBg_6 29 rfl rfl, by decide, by decide, by decide +kernel⟩
set_option maxRecDepth 100000 in
theorem lsX8_236 : SlP RX8 236 yX8_finishedOf cX8_finishedOf 3 (some .int) 1 := ⟨TBg_5 238 rfl rfl, TBg_5 239 rfl rfl, TBg_1 9 rfl rfl, TBg_6 0 rfl rfl, by decide, by decide, by decide +kernel⟩
set_option maxRecDepth 100000 in
theorem lsX8_243 : SlP RX8 243 yX8_max cX8_max 2 (some .int) 2 := ⟨TBg_6 9 rfl rfl, TBg_6 10 rfl rfl, TBg_1 9 rfl rfl, TBg_6 11 rfl rfl, by decide, by decide, by decide +kernel⟩
set_option maxRecDepth 100000 in
theorem lsX8_41 : SlP RX8 41 yX8_core cX8_core 1 (some .int) 1 := ⟨TBg_5 44 rfl rfl, TBg_5 45 rfl rfl, TBg_1 9 rfl rfl, TBg_5 46 rfl rfl, by decide, by decide, by decide +kernel⟩
set_option maxRecDepth 100000 in
theorem lsX8_63 : SlP RX8 63 yX8_in cX8_in 3 (some .boolean) 3 := ⟨TBg_5 34 rfl rfl, TBg_5 35 rfl rfl, TBg_1 9 rfl rfl, TBg_5 36 rfl rfl, by decide, by decide, by decide +kernel⟩
set_option maxRecDepth 100000 in
theorem lsX8_88 : SlP RX8 88 yX8_isDigit cX8_isDigit 1 (some .boolean) 1 := ⟨TBg_5 74 rfl rfl, TBg_5 75 rfl rfl, TBg_1 9 rfl rfl, TBg_5 76 rfl rfl, by decide, by decide, by decide +kernel⟩
set_option maxRecDepth 100000 in
theorem lsX8_96 : SlP RX8 96 yX8_min cX8_min 2 (some .int) 2 := ⟨TBg_5 78 rfl rfl, TBg_5 79 rfl rfl, TBg_1 9 rfl rfl, TBg_5 80 rfl rfl, by decide, by decide, by decide +kernel⟩
set_option maxRecDepth 100000 in
theorem lvX0_56 : VlP RX0 56 yX0_takeAt cX0_takeAt 6 (some .int) 2 0 := ⟨TBg_4 183 rfl rfl, TBg_4 81 rfl rfl, TBg_4 82 rfl rfl, TBg_1 6 rfl rfl, TBg_4 83 rfl rfl, by decide, by decide, by decide +kernel, ⟨_, _, rfl⟩, by decide⟩
set_option maxRecDepth 100000 in
theorem lvX2_25 : VlP RX2 25 yX3_copyFrom cX3_copyFrom 2 none 1 3 := ⟨TBg_2 110 rfl rfl, TBg_2 111 rfl rfl, TBg_2 112 rfl rfl, TBg_1 4 rfl rfl, TBg_2 113 rfl rfl, by decide, by decide, by decide +kernel, ⟨_, _, rfl⟩, by decide⟩
set_option maxRecDepth 100000 in
theorem lvX3_106 : VlP RX3 106 yX3_startTask cX3_startTask 6 none 1 3 := ⟨TBg_4 72 rfl rfl, TBg_4 74 rfl rfl, TBg_s (n := 4) 18 rfl, TBg_1 4 rfl rfl, TBg_4 75 rfl rfl, by decide, by decide, by decide +kernel, ⟨_, _, rfl⟩, by decide⟩
set_option maxRecDepth 100000 in
theorem lvX3_112 : VlP RX3 112 yX0_longestQueue cX0_longestQueue 3 (some .int) 0 0 := ⟨TBg_4 76 rfl rfl, TBg_4 77 rfl rfl, TBg_4 78 rfl rfl, TBg_1 6 rfl rfl, TBg_4 79 rfl rfl, by decide, by decide, by decide +kernel, ⟨_, _, rfl⟩, by decide⟩
set_option maxRecDepth 100000 in
theorem lvX3_115 : VlP RX3 115 yX0_takeAt cX0_takeAt 6 (some .int) 2 0 := ⟨TBg_4 80 rfl rfl, TBg_4 81 rfl rfl, TBg_4 82 rfl rfl, TBg_1 6 rfl rfl, TBg_4 83 rfl rfl, by decide, by decide, by decide +kernel, ⟨_, _, rfl⟩, by decide⟩
set_option maxRecDepth 100000 in
theorem lvX3_125 : VlP RX3 125 yX1_lengthFor cX1_lengthFor 8 (some .int) 4 1 := ⟨TBg_4 84 rfl rfl, TBg_4 85 rfl rfl, TBg_4 86 rfl rfl, TBg_1 7 rfl rfl, TBg_4 87 rfl rfl, by decide, by decide, by decide +kernel, ⟨_, _, rfl⟩, by decide⟩
set_option maxRecDepth 100000 in
theorem lvX3_38 : VlP RX3 38 yX6_copyFrom cX6_copyFrom 2 none 1 6 := ⟨TBg_2 114 rfl rfl, TBg_2 115 rfl rfl, TBg_2 116 rfl rfl, TBg_1 5 rfl rfl, TBg_2 117 rfl rfl, by decide, by decide, by decide +kernel, ⟨_, _, rfl⟩, by decide⟩
set_option maxRecDepth 100000 in
theorem lvX3_42 : VlP RX3 42 yX0_copyFrom cX0_copyFrom 3 none 1 0 := ⟨TBg_2 121 rfl rfl, TBg_2 122 rfl rfl, TBg_2 123 rfl rfl, TBg_1 6 rfl rfl, TBg_2 124 rfl rfl, by decide, by decide, by decide +kernel, ⟨_, _, rfl⟩, by decide⟩
set_option maxRecDepth 100000 in
theorem lvX3_45 : VlP RX3 45 yX6_startAgainOn cX6_startAgainOn 3 none 1 6 := ⟨TBg_3 73 rfl rfl, TBg_3 74 rfl rfl, TBg_3 75 rfl rfl, TBg_1 5 rfl rfl, TBg_3 76 rfl rfl, by decide, by decide, by decide +kernel, ⟨_, _, rfl⟩, by decide⟩
set_option maxRecDepth 100000 in
theorem lvX3_49 : VlP RX3 49 yX0_startAgainOn cX0_startAgainOn 3 none 1 0 := ⟨TBg_3 77 rfl rfl, TBg_3 78 rfl rfl, TBg_3 79 rfl rfl, TBg_1 6 rfl rfl, TBg_3 80 rfl rfl, by decide, by decide, by decide +kernel, ⟨_, _, rfl⟩, by decide⟩
set_option maxRecDepth 100000 in
theorem lvX3_50 : VlP RX3 50 yX6_unfinishedBits cX6_unfinishedBits 3 (some .int) 0 6 := ⟨TBg_4 38 rfl rfl, TBg_2 75 rfl rfl, TBg_2 76 rfl rfl, TBg_1 5 rfl rfl, TBg_2 77 rfl rfl, by decide, by decide, by decide +kernel, ⟨_, _, rfl⟩, by decide⟩
set_option maxRecDepth 100000 in
theorem lvX3_54 : VlP RX3 54 yX3_cycle cX3_cycle 2 (some .int) 0 3 := ⟨TBg_4 39 rfl rfl, TBg_4 40 rfl rfl, TBg_4 41 rfl rfl, TBg_1 4 rfl rfl, TBg_4 42 rfl rfl, by decide, by decide, by decide +kernel, ⟨_, _, rfl⟩, by decide⟩
set_option maxRecDepth 100000 in
theorem lvX3_57 : VlP RX3 57 yX3_finishTasks cX3_finishTasks 4 (some .int) 0 3 := ⟨TBg_4 43 rfl rfl, TBg_4 45 rfl rfl, TBg_s (n := 4) 15 rfl, TBg_1 4 rfl rfl, TBg_4 46 rfl rfl, by decide, by decide, by decide +kernel, ⟨_, _, rfl⟩, by decide⟩
set_option maxRecDepth 100000 in
theorem lvX3_60 : VlP RX3 60 yX6_readyAllFree cX6_readyAllFree 3 none 0 6 := ⟨TBg_4 47 rfl rfl, TBg_4 48 rfl rfl, TBg_4 49 rfl rfl, TBg_1 5 rfl rfl, TBg_4 50 rfl rfl, by decide, by decide, by decide +kernel, ⟨_, _, rfl⟩, by decide⟩
set_option maxRecDepth 100000 in
theorem lvX3_63 : VlP RX3 63 yX3_queueTasks cX3_queueTasks 4 none 0 3 := ⟨TBg_4 52 rfl rfl, TBg_4 54 rfl rfl, TBg_s (n := 4) 16 rfl, TBg_1 4 rfl rfl, TBg_4 55 rfl rfl, by decide, by decide, by decide +kernel, ⟨_, _, rfl⟩, by decide⟩
set_option maxRecDepth 100000 in
theorem lvX3_66 : VlP RX3 66 yX3_startTasks cX3_startTasks 2 none 0 3 := ⟨TBg_4 68 rfl rfl, TBg_4 70 rfl rfl, TBg_s (n := 4) 17 rfl, TBg_1 4 rfl rfl, TBg_4 71 rfl rfl, by decide, by decide, by decide +kernel, ⟨_, _, rfl⟩, by decide⟩
set_option maxRecDepth 100000 in
theorem lvX3_69 : VlP RX3 69 yX0_countBusy cX0_countBusy 2 none 0 0 := ⟨TBg_4 101 rfl rfl, TBg_4 102 rfl rfl, TBg_4 103 rfl rfl, TBg_1 6 rfl rfl, TBg_4 104 rfl rfl, by decide, by decide, by decide +kernel, ⟨_, _, rfl⟩, by decide⟩
set_option maxRecDepth 100000 in
theorem lvX3_88 : VlP RX3 88 yX6_firstReady cX6_firstReady 3 (some .int) 0 6 := ⟨TBg_4 56 rfl rfl, TBg_4 57 rfl rfl, TBg_4 58 rfl rfl, TBg_1 5 rfl rfl, TBg_4 59 rfl rfl, by decide, by decide, by decide +kernel, ⟨_, _, rfl⟩, by decide⟩
set_option maxRecDepth 100000 in
theorem lvX3_94 : VlP RX3 94 yX0_queueFor cX0_queueFor 4 (some .int) 1 0 := ⟨TBg_4 60 rfl rfl, TBg_4 61 rfl rfl, TBg_4 62 rfl rfl, TBg_1 6 rfl rfl, TBg_4 63 rfl rfl, by decide, by decide, by decide +kernel, ⟨_, _, rfl⟩, by decide⟩
set_option maxRecDepth 100000 in
theorem lvX3_98 : VlP RX3 98 yX0_putLast cX0_putLast 3 none 2 0 := ⟨TBg_4 64 rfl rfl, TBg_4 65 rfl rfl, TBg_4 66 rfl rfl, TBg_1 6 rfl rfl, TBg_4 67 rfl rfl, by decide, by decide, by decide +kernel, ⟨_, _, rfl⟩, by decide⟩
set_option maxRecDepth 100000 in
theorem lvX4_157 : VlP RX4 157 yX5_isMark cX5_isMark 2 (some .boolean) 1 5 := ⟨TBg_3 65 rfl rfl, TBg_3 66 rfl rfl, TBg_3 67 rfl rfl, TBg_1 3 rfl rfl, TBg_3 68 rfl rfl, by decide, by decide, by decide +kernel, ⟨_, _, rfl⟩, by decide⟩
set_option maxRecDepth 100000 in
theorem lvX4_80 : VlP RX4 80 yX4_fail cX4_fail 2 (some .boolean) 1 4 := ⟨TBg_3 52 rfl rfl, TBg_3 54 rfl rfl, TBg_s (n := 6) 4 rfl, TBg_1 2 rfl rfl, TBg_3 55 rfl rfl, by decide, by decide, by decide +kernel, ⟨_, _, rfl⟩, by decide⟩
set_option maxRecDepth 100000 in
theorem lvX4_84 : VlP RX4 84 yX5_advance cX5_advance 1 none 0 5 := ⟨TBg_3 56 rfl rfl, TBg_2 231 rfl rfl, TBg_2 232 rfl rfl, TBg_1 3 rfl rfl, TBg_2 233 rfl rfl, by decide, by decide, by decide +kernel, ⟨_, _, rfl⟩, by decide⟩
set_option maxRecDepth 100000 in
theorem lvX4_87 : VlP RX4 87 yX4_takeNumber cX4_takeNumber 4 (some .int) 2 4 := ⟨TBg_3 57 rfl rfl, TBg_3 59 rfl rfl, TBg_s (n := 6) 5 rfl, TBg_1 2 rfl rfl, TBg_3 60 rfl rfl, by decide, by decide, by decide +kernel, ⟨_, _, rfl⟩, by decide⟩
set_option maxRecDepth 100000 in
theorem lvX5_40 : VlP RX5 40 yX5_advance cX5_advance 1 none 0 5 := ⟨TBg_2 230 rfl rfl, TBg_2 231 rfl rfl, TBg_2 232 rfl rfl, TBg_1 3 rfl rfl, TBg_2 233 rfl rfl, by decide, by decide, by decide +kernel, ⟨_, _, rfl⟩, by decide⟩
set_option maxRecDepth 100000 in
theorem lvX6_52 : VlP RX6 52 yX6_unfinishedBits cX6_unfinishedBits 3 (some .int) 0 6 := ⟨TBg_2 74 rfl rfl, TBg_2 75 rfl rfl, TBg_2 76 rfl rfl, TBg_1 5 rfl rfl, TBg_2 77 rfl rfl, by decide, by decide, by decide +kernel, ⟨_, _, rfl⟩, by decide⟩
set_option maxRecDepth 100000 in
theorem lvX6_62 : VlP RX6 62 yX6_opens cX6_opens 5 (some .boolean) 2 6 := ⟨TBg_2 136 rfl rfl, TBg_2 137 rfl rfl, TBg_2 138 rfl rfl, TBg_1 5 rfl rfl, TBg_2 139 rfl rfl, by decide, by decide, by decide +kernel, ⟨_, _, rfl⟩, by decide⟩
set_option maxRecDepth 100000 in
theorem lvX6_69 : VlP RX6 69 yX6_longestChainBefore cX6_longestChainBefore 5 (some .int) 1 6 := ⟨TBg_2 95 rfl rfl, TBg_2 97 rfl rfl, TBg_s (n := 11) 0 rfl, TBg_1 5 rfl rfl, TBg_2 98 rfl rfl, by decide, by decide, by decide +kernel, ⟨_, _, rfl⟩, by decide⟩
set_option maxRecDepth 100000 in
theorem lvX6_78 : VlP RX6 78 yX6_counterOf cX6_counterOf 5 (some .int) 2 6 := ⟨TBg_4 51 rfl rfl, TBg_2 133 rfl rfl, TBg_2 134 rfl rfl, TBg_1 5 rfl rfl, TBg_2 135 rfl rfl, by decide, by decide, by decide +kernel, ⟨_, _, rfl⟩, by decide⟩
set_option maxRecDepth 100000 in
theorem lvX7_103 : VlP RX7 103 yX6_unfinishedBits cX6_unfinishedBits 3 (some .int) 0 6 := ⟨TBg_2 131 rfl rfl, TBg_2 75 rfl rfl, TBg_2 76 rfl rfl, TBg_1 5 rfl rfl, TBg_2 77 rfl rfl, by decide, by decide, by decide +kernel, ⟨_, _, rfl⟩, by decide⟩
set_option maxRecDepth 100000 in
theorem lvX7_107 : VlP RX7 107 yX6_counterOf cX6_counterOf 5 (some .int) 2 6 := ⟨TBg_2 132 rfl rfl, TBg_2 133 rfl rfl, TBg_2 134 rfl rfl, TBg_1 5 rfl rfl, TBg_2 135 rfl rfl, by decide, by decide, by decide +kernel, ⟨_, _, rfl⟩, by decide⟩
set_option maxRecDepth 100000 in
theorem lvX7_156 : VlP RX7 156 yX6_finishedTotal cX6_finishedTotal 1 (some .int) 0 6 := ⟨TBg_2 70 rfl rfl, TBg_2 71 rfl rfl, TBg_2 72 rfl rfl, TBg_1 5 rfl rfl, TBg_2 73 rfl rfl, by decide, by decide, by decide +kernel, ⟨_, _, rfl⟩, by decide⟩
set_option maxRecDepth 100000 in
theorem lvX7_159 : VlP RX7 159 yX6_longestChain cX6_longestChain 4 (some .int) 0 6 := ⟨TBg_2 88 rfl rfl, TBg_2 89 rfl rfl, TBg_2 90 rfl rfl, TBg_1 5 rfl rfl, TBg_2 91 rfl rfl, by decide, by decide, by decide +kernel, ⟨_, _, rfl⟩, by decide⟩
set_option maxRecDepth 100000 in
theorem lvX7_216 : VlP RX7 216 yX2_restoreLatest cX2_restoreLatest 2 (some .int) 1 2 := ⟨TBg_2 106 rfl rfl, TBg_2 107 rfl rfl, TBg_2 108 rfl rfl, TBg_1 8 rfl rfl, TBg_2 109 rfl rfl, by decide, by decide, by decide +kernel, ⟨_, _, rfl⟩, by decide⟩
set_option maxRecDepth 100000 in
theorem lvX7_46 : VlP RX7 46 yX5_addWord cX5_addWord 3 none 1 5 := ⟨TBg_2 42 rfl rfl, TBg_2 43 rfl rfl, TBg_2 44 rfl rfl, TBg_1 3 rfl rfl, TBg_2 45 rfl rfl, by decide, by decide, by decide +kernel, ⟨_, _, rfl⟩, by decide⟩
set_option maxRecDepth 100000 in
theorem lvX8_162 : VlP RX8 162 yX8_fails cX8_fails 3 (some .boolean) 2 8 := ⟨TBg_5 37 rfl rfl, TBg_5 39 rfl rfl, TBg_s (n := 18) 20 rfl, TBg_1 9 rfl rfl, TBg_5 40 rfl rfl, by decide, by decide, by decide +kernel, ⟨_, _, rfl⟩, by decide⟩
set_option maxRecDepth 100000 in
theorem lvX8_175 : VlP RX8 175 yX8_remember cX8_remember 2 none 0 8 := ⟨TBg_5 134 rfl rfl, TBg_5 136 rfl rfl, TBg_s (n := 18) 36 rfl, TBg_1 9 rfl rfl, TBg_5 137 rfl rfl, by decide, by decide, by decide +kernel, ⟨_, _, rfl⟩, by decide⟩
set_option maxRecDepth 100000 in
theorem lvX8_214 : VlP RX8 214 yX8_lengthOf cX8_lengthOf 8 (some .int) 3 8 := ⟨TBg_6 40 rfl rfl, TBg_6 42 rfl rfl, TBg_s (n := 18) 44 rfl, TBg_1 9 rfl rfl, TBg_6 43 rfl rfl, by decide, by decide, by decide +kernel, ⟨_, _, rfl⟩, by decide⟩
set_option maxRecDepth 100000 in
theorem lvX8_224 : VlP RX8 224 yX8_take cX8_take 6 none 2 8 := ⟨TBg_6 33 rfl rfl, TBg_6 35 rfl rfl, TBg_s (n := 18) 43 rfl, TBg_1 9 rfl rfl, TBg_6 36 rfl rfl, by decide, by decide, by decide +kernel, ⟨_, _, rfl⟩, by decide⟩
set_option maxRecDepth 100000 in
theorem lvX8_227 : VlP RX8 227 yX8_noTask cX8_noTask 2 (some .boolean) 1 8 := ⟨TBg_5 165 rfl rfl, TBg_5 167 rfl rfl, TBg_s (n := 18) 37 rfl, TBg_1 9 rfl rfl, TBg_5 168 rfl rfl, by decide, by decide, by decide +kernel, ⟨_, _, rfl⟩, by decide⟩
set_option maxRecDepth 100000 in
theorem lvX8_230 : VlP RX8 230 yX8_noCore cX8_noCore 2 (some .boolean) 1 8 := ⟨TBg_5 202 rfl rfl, TBg_5 204 rfl rfl, TBg_s (n := 18) 38 rfl, TBg_1 9 rfl rfl, TBg_5 205 rfl rfl, by decide, by decide, by decide +kernel, ⟨_, _, rfl⟩, by decide⟩
set_option maxRecDepth 100000 in
theorem lvX8_233 : VlP RX8 233 yX8_remainingOf cX8_remainingOf 2 (some .int) 1 8 := ⟨TBg_5 218 rfl rfl, TBg_5 220 rfl rfl, TBg_s (n := 18) 39 rfl, TBg_1 9 rfl rfl, TBg_5 221 rfl rfl, by decide, by decide, by decide +kernel, ⟨_, _, rfl⟩, by decide⟩
set_option maxRecDepth 100000 in
theorem lvX8_239 : VlP RX8 239 yX8_isAhead cX8_isAhead 4 (some .boolean) 2 8 := ⟨TBg_6 5 rfl rfl, TBg_6 7 rfl rfl, TBg_s (n := 18) 40 rfl, TBg_1 9 rfl rfl, TBg_6 8 rfl rfl, by decide, by decide, by decide +kernel, ⟨_, _, rfl⟩, by decide⟩
set_option maxRecDepth 100000 in
theorem lvX8_246 : VlP RX8 246 yX8_cycle cX8_cycle 4 (some .int) 1 8 := ⟨TBg_6 20 rfl rfl, TBg_6 22 rfl rfl, TBg_s (n := 18) 42 rfl, TBg_1 9 rfl rfl, TBg_6 23 rfl rfl, by decide, by decide, by decide +kernel, ⟨_, _, rfl⟩, by decide⟩
set_option maxRecDepth 100000 in
theorem lvX8_249 : VlP RX8 249 yX8_finishFuture cX8_finishFuture 3 (some .int) 1 8 := ⟨TBg_6 16 rfl rfl, TBg_6 18 rfl rfl, TBg_s (n := 18) 41 rfl, TBg_1 9 rfl rfl, TBg_6 19 rfl rfl, by decide, by decide, by decide +kernel, ⟨_, _, rfl⟩, by decide⟩
set_option maxRecDepth 100000 in
theorem lvX8_54 : VlP RX8 54 yX8_byteAt cX8_byteAt 2 (some .int) 1 8 := ⟨TBg_5 60 rfl rfl, TBg_5 62 rfl rfl, TBg_s (n := 18) 24 rfl, TBg_1 9 rfl rfl, TBg_5 63 rfl rfl, by decide, by decide, by decide +kernel, ⟨_, _, rfl⟩, by decide⟩
set_option maxRecDepth 100000 in
theorem lvX8_67 : VlP RX8 67 yX8_isGood cX8_isGood 1 (some .boolean) 0 8 := ⟨TBg_5 52 rfl rfl, TBg_5 54 rfl rfl, TBg_s (n := 18) 22 rfl, TBg_1 9 rfl rfl, TBg_5 55 rfl rfl, by decide, by decide, by decide +kernel, ⟨_, _, rfl⟩, by decide⟩
set_option maxRecDepth 100000 in
theorem lvX8_71 : VlP RX8 71 yX8_next cX8_next 1 (some .int) 0 8 := ⟨TBg_5 56 rfl rfl, TBg_5 58 rfl rfl, TBg_s (n := 18) 23 rfl, TBg_1 9 rfl rfl, TBg_5 59 rfl rfl, by decide, by decide, by decide +kernel, ⟨_, _, rfl⟩, by decide⟩
set_option maxRecDepth 100000 in
theorem lvX8_84 : VlP RX8 84 yX8_report cX8_report 3 none 2 8 := ⟨TBg_5 66 rfl rfl, TBg_5 68 rfl rfl, TBg_s (n := 18) 25 rfl, TBg_1 9 rfl rfl, TBg_5 69 rfl rfl, by decide, by decide, by decide +kernel, ⟨_, _, rfl⟩, by decide⟩
set_option maxRecDepth 100000 in
theorem kmX0_50 : MlP RX0 50 Lib.Math.min.name Lib.Math.min.code 2 .int := ⟨TBg_3 81 rfl rfl, TBg_2 228 rfl rfl, TBg_1 14 rfl rfl, TBg_2 229 rfl rfl⟩
set_option maxRecDepth 100000 in
theorem kmX1_22 : MlP RX1 22 Lib.Math.min.name Lib.Math.min.code 2 .int := ⟨TBg_4 99 rfl rfl, TBg_2 228 rfl rfl, TBg_1 14 rfl rfl, TBg_2 229 rfl rfl⟩
set_option maxRecDepth 100000 in
theorem kmX1_28 : MlP RX1 28 Lib.Math.max.name Lib.Math.max.code 2 .int := ⟨TBg_4 100 rfl rfl, TBg_2 100 rfl rfl, TBg_1 14 rfl rfl, TBg_2 101 rfl rfl⟩
set_option maxRecDepth 100000 in
theorem kmX1_35 : MlP RX1 35 Lib.MathLoose.min_long.x Lib.MathLoose.min_long.code 4 .long := ⟨TBg_4 93 rfl rfl, TBg_4 94 rfl rfl, TBg_1 14 rfl rfl, TBg_4 95 rfl rfl⟩
set_option maxRecDepth 100000 in
theorem kmX1_38 : MlP RX1 38 Lib.MathLoose.max_long.x Lib.MathLoose.max_long.code 4 .long := ⟨TBg_4 96 rfl rfl, TBg_4 97 rfl rfl, TBg_1 14 rfl rfl, TBg_4 98 rfl rfl⟩
set_option maxRecDepth 100000 in
theorem kmX2_29 : MlP RX2 29 Lib.Math.min.name Lib.Math.min.code 2 .int := ⟨TBg_3 141 rfl rfl, TBg_2 228 rfl rfl, TBg_1 14 rfl rfl, TBg_2 229 rfl rfl⟩
set_option maxRecDepth 100000 in
theorem kmX5_34 : MlP RX5 34 Lib.Math.min.name Lib.Math.min.code 2 .int := ⟨TBg_2 227 rfl rfl, TBg_2 228 rfl rfl, TBg_1 14 rfl rfl, TBg_2 229 rfl rfl⟩
set_option maxRecDepth 100000 in
theorem kmX6_72 : MlP RX6 72 Lib.Math.max.name Lib.Math.max.code 2 .int := ⟨TBg_2 99 rfl rfl, TBg_2 100 rfl rfl, TBg_1 14 rfl rfl, TBg_2 101 rfl rfl⟩
