/-! ===== the law's script ===== -/
def LwX (g : GP) (s : State) (b L : Nat) (xs : Nat → Int) : Prop := ∃ ys : Nat → Int32, va_X b L ys s s.heap ∧ b < s.heap.size ∧ ¬ gA g b ∧ L ≤ 3072 ∧ ∀ j, xs j = (ys j).toInt
def sld (xs : Nat → Int) (L : Nat) (i : Int) : Option Int := if 0 ≤ i ∧ i < (L : Int) then some (xs i.toNat) else none
section PW
variable {p : Program} {l : Launch} {e : Env} {R : Room} {s : State} {m : MethodId} {args : Array Value} {below : List Frame} {meth : Method} {c : Code} {H : Heap} {locs : List Loc} {cells slots : Nat} {Q : State → Prop}
variable {cc : ByteArray} {pc : Nat} {ls : Array Slot} {rest : List Value} {g : GP} {ad : Nat → Nat} {h h' : PH} {own : String} {nL : Nat} {ret : Option FieldType}
theorem pw_sld (C : Cx g p s m args meth c cc nL own ret) {b L : Nat} {xs : Nat → Int} (hX : LwX g s b L xs) (hR : Rl g ad h s.heap H locs) {i x : Int} (e1 : sld xs L i = some x) (hdg : decode cc pc = .ok (.iaload, 1))
    (kk : W p l e R s m args below meth c H locs cells slots Q (F0 m (pc + 1) ls (.int (Int32.ofInt x) :: rest))) : W p l e R s m args below meth c H locs cells slots Q (F0 m pc ls (.int (Int32.ofInt i) :: .ref b :: rest)) := by
  obtain ⟨ys, h1, h2, h3, h4, h5⟩ := hX
  unfold sld at e1
  split at e1
  · rename_i hi
    cases e1
    refine va_sld C.1 C.2.1 h1 h2 h3 hR.2.2.1 (vp_in_o32 hi.1 hi.2 (by omega)) hdg ?_
    rw [nat_o32 hi.1 hi.2 (by omega)]
    rw [h5, Int32.ofInt_toInt] at kk
    exact kk
  · cases e1
theorem pw_slenX (C : Cx g p s m args meth c cc nL own ret) {b L : Nat} {xs : Nat → Int} (hX : LwX g s b L xs) (hR : Rl g ad h s.heap H locs) (hdg : decode cc pc = .ok (.arraylength, 1))
    (kk : W p l e R s m args below meth c H locs cells slots Q (F0 m (pc + 1) ls (.int (Int32.ofInt (L : Int)) :: rest))) : W p l e R s m args below meth c H locs cells slots Q (F0 m pc ls (.ref b :: rest)) := by
  obtain ⟨ys, h1, h2, h3, h4, h5⟩ := hX
  refine va_slen C.1 C.2.1 h1 h2 h3 hR.2.2.1 hdg ?_
  rw [Int32.ofInt_eq_ofNat] at kk
  exact kk
end PW
set_option maxRecDepth 100000 in
theorem lwL_125 : SwP RL 125 yL_state cL_state 4 (some .int) [(0, 9, 12, 18)] 3 := ⟨TBg_3 143 rfl rfl, TBg_3 144 rfl rfl, TBg_1 0 rfl rfl, TBg_3 145 rfl rfl, by decide, by decide, by decide +kernel⟩
set_option maxRecDepth 100000 in
theorem lwL_128 : SwP RL 128 yL_counter cL_counter 4 (some .int) [(0, 9, 12, 18)] 3 := ⟨TBg_3 171 rfl rfl, TBg_3 172 rfl rfl, TBg_1 0 rfl rfl, TBg_3 173 rfl rfl, by decide, by decide, by decide +kernel⟩
set_option maxRecDepth 100000 in
theorem lwL_131 : SwP RL 131 yL_priority cL_priority 4 (some .int) [(0, 9, 12, 18)] 3 := ⟨TBg_3 178 rfl rfl, TBg_3 179 rfl rfl, TBg_1 0 rfl rfl, TBg_3 180 rfl rfl, by decide, by decide, by decide +kernel⟩
set_option maxRecDepth 100000 in
theorem lwL_134 : SwP RL 134 yL_coreOf cL_coreOf 4 (some .int) [(0, 9, 12, 18)] 3 := ⟨TBg_3 185 rfl rfl, TBg_3 186 rfl rfl, TBg_1 0 rfl rfl, TBg_3 187 rfl rfl, by decide, by decide, by decide +kernel⟩
set_option maxRecDepth 100000 in
theorem lwL_137 : SwP RL 137 yL_doneAt cL_doneAt 4 (some .int) [(0, 9, 12, 18)] 3 := ⟨TBg_3 192 rfl rfl, TBg_3 193 rfl rfl, TBg_1 0 rfl rfl, TBg_3 194 rfl rfl, by decide, by decide, by decide +kernel⟩
set_option maxRecDepth 100000 in
theorem lwL_140 : SwP RL 140 yL_isOpen cL_isOpen 4 (some .int) [(0, 16, 19, 18)] 3 := ⟨TBg_3 199 rfl rfl, TBg_3 200 rfl rfl, TBg_1 0 rfl rfl, TBg_3 201 rfl rfl, by decide, by decide, by decide +kernel⟩
set_option maxRecDepth 100000 in
theorem lwL_143 : SwP RL 143 yL_queueLength cL_queueLength 4 (some .int) [(0, 9, 12, 18)] 3 := ⟨TBg_3 208 rfl rfl, TBg_3 209 rfl rfl, TBg_1 0 rfl rfl, TBg_3 210 rfl rfl, by decide, by decide, by decide +kernel⟩
set_option maxRecDepth 100000 in
theorem lwL_146 : SwP RL 146 yL_queued cL_queued 5 (some .int) [(0, 10, 13, 18)] 4 := ⟨TBg_3 220 rfl rfl, TBg_3 221 rfl rfl, TBg_1 0 rfl rfl, TBg_3 222 rfl rfl, by decide, by decide, by decide +kernel⟩
set_option maxRecDepth 100000 in
theorem lwL_150 : SwP RL 150 yL_running cL_running 4 (some .int) [(0, 9, 12, 18)] 3 := ⟨TBg_3 228 rfl rfl, TBg_3 229 rfl rfl, TBg_1 0 rfl rfl, TBg_3 230 rfl rfl, by decide, by decide, by decide +kernel⟩
set_option maxRecDepth 100000 in
theorem lwL_153 : SwP RL 153 yL_remaining cL_remaining 4 (some .int) [(0, 9, 12, 18)] 3 := ⟨TBg_3 235 rfl rfl, TBg_3 236 rfl rfl, TBg_1 0 rfl rfl, TBg_3 237 rfl rfl, by decide, by decide, by decide +kernel⟩
set_option maxRecDepth 100000 in
theorem lwL_156 : SwP RL 156 yL_busy cL_busy 4 (some .int) [(0, 9, 12, 18)] 3 := ⟨TBg_4 2 rfl rfl, TBg_4 3 rfl rfl, TBg_1 0 rfl rfl, TBg_4 4 rfl rfl, by decide, by decide, by decide +kernel⟩
set_option maxRecDepth 100000 in
theorem lwL_159 : SwP RL 159 yL_steals cL_steals 4 (some .int) [(0, 9, 12, 18)] 3 := ⟨TBg_4 9 rfl rfl, TBg_4 10 rfl rfl, TBg_1 0 rfl rfl, TBg_4 11 rfl rfl, by decide, by decide, by decide +kernel⟩
set_option maxRecDepth 100000 in
theorem lwL_162 : SwP RL 162 yL_isPaused cL_isPaused 4 (some .int) [(0, 16, 19, 18)] 3 := ⟨TBg_4 16 rfl rfl, TBg_4 17 rfl rfl, TBg_1 0 rfl rfl, TBg_4 18 rfl rfl, by decide, by decide, by decide +kernel⟩
set_option maxRecDepth 100000 in
theorem lwL_173 : SwP RL 173 yL_finishTime cL_finishTime 4 (some .int) [(0, 9, 12, 13)] 3 := ⟨TBg_4 23 rfl rfl, TBg_4 24 rfl rfl, TBg_1 0 rfl rfl, TBg_4 25 rfl rfl, by decide, by decide, by decide +kernel⟩
set_option maxRecDepth 100000 in
theorem lwL_176 : SwP RL 176 yL_timeOn cL_timeOn 5 (some .int) [(0, 10, 13, 13), (0, 10, 17, 64)] 4 := ⟨TBg_4 105 rfl rfl, TBg_4 106 rfl rfl, TBg_1 0 rfl rfl, TBg_4 107 rfl rfl, by decide, by decide, by decide +kernel⟩
set_option maxRecDepth 100000 in
theorem lwL_179 : SwP RL 179 yL_run cL_run 4 (some .int) [(0, 9, 12, 13), (0, 9, 15, 64)] 3 := ⟨TBg_4 135 rfl rfl, TBg_4 136 rfl rfl, TBg_1 0 rfl rfl, TBg_4 137 rfl rfl, by decide, by decide, by decide +kernel⟩
set_option maxRecDepth 100000 in
theorem lwL_182 : SwP RL 182 yL_submit cL_submit 6 (some .int) [(0, 12, 15, 18), (0, 12, 19, 13), (0, 12, 23, 64)] 5 := ⟨TBg_4 146 rfl rfl, TBg_4 147 rfl rfl, TBg_1 0 rfl rfl, TBg_4 148 rfl rfl, by decide, by decide, by decide +kernel⟩
set_option maxRecDepth 100000 in
theorem lwL_186 : SwP RL 186 yL_depend cL_depend 5 (some .int) [(0, 10, 13, 18), (0, 10, 17, 13), (0, 10, 21, 64)] 4 := ⟨TBg_4 160 rfl rfl, TBg_4 161 rfl rfl, TBg_1 0 rfl rfl, TBg_4 162 rfl rfl, by decide, by decide, by decide +kernel⟩
set_option maxRecDepth 100000 in
theorem lwL_189 : SwP RL 189 yL_cancel cL_cancel 4 (some .int) [(0, 9, 12, 18), (0, 9, 15, 64)] 3 := ⟨TBg_4 171 rfl rfl, TBg_4 172 rfl rfl, TBg_1 0 rfl rfl, TBg_4 173 rfl rfl, by decide, by decide, by decide +kernel⟩
set_option maxRecDepth 100000 in
theorem lwL_192 : SwP RL 192 yL_setPriority cL_setPriority 5 (some .int) [(0, 10, 13, 18), (0, 10, 17, 13)] 4 := ⟨TBg_4 184 rfl rfl, TBg_4 185 rfl rfl, TBg_1 0 rfl rfl, TBg_4 186 rfl rfl, by decide, by decide, by decide +kernel⟩
set_option maxRecDepth 100000 in
theorem lwL_195 : SwP RL 195 yL_pause cL_pause 5 (some .int) [(0, 17, 20, 18)] 4 := ⟨TBg_4 191 rfl rfl, TBg_4 192 rfl rfl, TBg_1 0 rfl rfl, TBg_4 193 rfl rfl, by decide, by decide, by decide +kernel⟩
set_option maxRecDepth 100000 in
theorem lwL_95 : SwP RL 95 yL_load cL_load 4 (some .int) [(0, 9, 12, 13)] 3 := ⟨TBg_2 140 rfl rfl, TBg_2 141 rfl rfl, TBg_1 0 rfl rfl, TBg_2 142 rfl rfl, by decide, by decide, by decide +kernel⟩
set_option maxRecDepth 100000 in
theorem lvL_100 : VlP RL 100 yX8_load cX8_load 3 (some .int) 1 8 := ⟨TBg_5 30 rfl rfl, TBg_5 31 rfl rfl, TBg_5 32 rfl rfl, TBg_1 9 rfl rfl, TBg_5 33 rfl rfl, by decide, by decide, by decide +kernel, ⟨_, _, rfl⟩, by decide⟩
set_option maxRecDepth 100000 in
theorem lvL_101 : VlP RL 101 yX8_thrown cX8_thrown 1 (some .int) 0 8 := ⟨TBg_5 22 rfl rfl, TBg_5 23 rfl rfl, TBg_5 24 rfl rfl, TBg_1 9 rfl rfl, TBg_5 25 rfl rfl, by decide, by decide, by decide +kernel, ⟨_, _, rfl⟩, by decide⟩
set_option maxRecDepth 100000 in
theorem lvL_105 : VlP RL 105 yX7_errorOffset cX7_errorOffset 1 (some .int) 0 7 := ⟨TBg_2 46 rfl rfl, TBg_2 47 rfl rfl, TBg_2 48 rfl rfl, TBg_1 1 rfl rfl, TBg_2 49 rfl rfl, by decide, by decide, by decide +kernel, ⟨_, _, rfl⟩, by decide⟩
set_option maxRecDepth 100000 in
theorem lvL_108 : VlP RL 108 yX8_errorOffset cX8_errorOffset 1 (some .int) 0 8 := ⟨TBg_5 141 rfl rfl, TBg_5 142 rfl rfl, TBg_5 143 rfl rfl, TBg_1 9 rfl rfl, TBg_5 144 rfl rfl, by decide, by decide, by decide +kernel, ⟨_, _, rfl⟩, by decide⟩
set_option maxRecDepth 100000 in
theorem lvL_109 : VlP RL 109 yX7_coreCount cX7_coreCount 1 (some .int) 0 7 := ⟨TBg_2 50 rfl rfl, TBg_2 51 rfl rfl, TBg_2 52 rfl rfl, TBg_1 1 rfl rfl, TBg_2 53 rfl rfl, by decide, by decide, by decide +kernel, ⟨_, _, rfl⟩, by decide⟩
set_option maxRecDepth 100000 in
theorem lvL_112 : VlP RL 112 yX8_coreCount cX8_coreCount 1 (some .int) 0 8 := ⟨TBg_5 145 rfl rfl, TBg_5 146 rfl rfl, TBg_5 147 rfl rfl, TBg_1 9 rfl rfl, TBg_5 148 rfl rfl, by decide, by decide, by decide +kernel, ⟨_, _, rfl⟩, by decide⟩
set_option maxRecDepth 100000 in
theorem lvL_113 : VlP RL 113 yX7_taskCount cX7_taskCount 1 (some .int) 0 7 := ⟨TBg_2 54 rfl rfl, TBg_2 55 rfl rfl, TBg_2 56 rfl rfl, TBg_1 1 rfl rfl, TBg_2 57 rfl rfl, by decide, by decide, by decide +kernel, ⟨_, _, rfl⟩, by decide⟩
set_option maxRecDepth 100000 in
theorem lvL_116 : VlP RL 116 yX8_taskCount cX8_taskCount 1 (some .int) 0 8 := ⟨TBg_5 149 rfl rfl, TBg_5 150 rfl rfl, TBg_5 151 rfl rfl, TBg_1 9 rfl rfl, TBg_5 152 rfl rfl, by decide, by decide, by decide +kernel, ⟨_, _, rfl⟩, by decide⟩
set_option maxRecDepth 100000 in
theorem lvL_117 : VlP RL 117 yX7_fenceCount cX7_fenceCount 1 (some .int) 0 7 := ⟨TBg_2 58 rfl rfl, TBg_2 59 rfl rfl, TBg_2 60 rfl rfl, TBg_1 1 rfl rfl, TBg_2 61 rfl rfl, by decide, by decide, by decide +kernel, ⟨_, _, rfl⟩, by decide⟩
set_option maxRecDepth 100000 in
theorem lvL_120 : VlP RL 120 yX8_fenceCount cX8_fenceCount 1 (some .int) 0 8 := ⟨TBg_5 153 rfl rfl, TBg_5 154 rfl rfl, TBg_5 155 rfl rfl, TBg_1 9 rfl rfl, TBg_5 156 rfl rfl, by decide, by decide, by decide +kernel, ⟨_, _, rfl⟩, by decide⟩
set_option maxRecDepth 100000 in
theorem lvL_121 : VlP RL 121 yX7_clock cX7_clock 1 (some .int) 0 7 := ⟨TBg_2 62 rfl rfl, TBg_2 63 rfl rfl, TBg_2 64 rfl rfl, TBg_1 1 rfl rfl, TBg_2 65 rfl rfl, by decide, by decide, by decide +kernel, ⟨_, _, rfl⟩, by decide⟩
set_option maxRecDepth 100000 in
theorem lvL_124 : VlP RL 124 yX8_clock cX8_clock 1 (some .int) 0 8 := ⟨TBg_5 157 rfl rfl, TBg_5 158 rfl rfl, TBg_5 159 rfl rfl, TBg_1 9 rfl rfl, TBg_5 160 rfl rfl, by decide, by decide, by decide +kernel, ⟨_, _, rfl⟩, by decide⟩
set_option maxRecDepth 100000 in
theorem lvL_127 : VlP RL 127 yX8_state cX8_state 2 (some .int) 1 8 := ⟨TBg_5 161 rfl rfl, TBg_5 162 rfl rfl, TBg_5 163 rfl rfl, TBg_1 9 rfl rfl, TBg_5 164 rfl rfl, by decide, by decide, by decide +kernel, ⟨_, _, rfl⟩, by decide⟩
set_option maxRecDepth 100000 in
theorem lvL_130 : VlP RL 130 yX8_counter cX8_counter 2 (some .int) 1 8 := ⟨TBg_5 169 rfl rfl, TBg_5 170 rfl rfl, TBg_5 171 rfl rfl, TBg_1 9 rfl rfl, TBg_5 172 rfl rfl, by decide, by decide, by decide +kernel, ⟨_, _, rfl⟩, by decide⟩
set_option maxRecDepth 100000 in
theorem lvL_133 : VlP RL 133 yX8_priority cX8_priority 2 (some .int) 1 8 := ⟨TBg_5 182 rfl rfl, TBg_5 183 rfl rfl, TBg_5 184 rfl rfl, TBg_1 9 rfl rfl, TBg_5 185 rfl rfl, by decide, by decide, by decide +kernel, ⟨_, _, rfl⟩, by decide⟩
set_option maxRecDepth 100000 in
theorem lvL_136 : VlP RL 136 yX8_coreOf cX8_coreOf 2 (some .int) 1 8 := ⟨TBg_5 186 rfl rfl, TBg_5 187 rfl rfl, TBg_5 188 rfl rfl, TBg_1 9 rfl rfl, TBg_5 189 rfl rfl, by decide, by decide, by decide +kernel, ⟨_, _, rfl⟩, by decide⟩
set_option maxRecDepth 100000 in
theorem lvL_139 : VlP RL 139 yX8_doneAt cX8_doneAt 2 (some .int) 1 8 := ⟨TBg_5 190 rfl rfl, TBg_5 191 rfl rfl, TBg_5 192 rfl rfl, TBg_1 9 rfl rfl, TBg_5 193 rfl rfl, by decide, by decide, by decide +kernel, ⟨_, _, rfl⟩, by decide⟩
set_option maxRecDepth 100000 in
theorem lvL_142 : VlP RL 142 yX8_isOpen cX8_isOpen 2 (some .boolean) 1 8 := ⟨TBg_5 194 rfl rfl, TBg_5 195 rfl rfl, TBg_5 196 rfl rfl, TBg_1 9 rfl rfl, TBg_5 197 rfl rfl, by decide, by decide, by decide +kernel, ⟨_, _, rfl⟩, by decide⟩
set_option maxRecDepth 100000 in
theorem lvL_145 : VlP RL 145 yX8_queueLength cX8_queueLength 2 (some .int) 1 8 := ⟨TBg_5 198 rfl rfl, TBg_5 199 rfl rfl, TBg_5 200 rfl rfl, TBg_1 9 rfl rfl, TBg_5 201 rfl rfl, by decide, by decide, by decide +kernel, ⟨_, _, rfl⟩, by decide⟩
set_option maxRecDepth 100000 in
theorem lvL_149 : VlP RL 149 yX8_queued cX8_queued 3 (some .int) 2 8 := ⟨TBg_5 206 rfl rfl, TBg_5 207 rfl rfl, TBg_5 208 rfl rfl, TBg_1 9 rfl rfl, TBg_5 209 rfl rfl, by decide, by decide, by decide +kernel, ⟨_, _, rfl⟩, by decide⟩
set_option maxRecDepth 100000 in
theorem lvL_152 : VlP RL 152 yX8_running cX8_running 2 (some .int) 1 8 := ⟨TBg_5 210 rfl rfl, TBg_5 211 rfl rfl, TBg_5 212 rfl rfl, TBg_1 9 rfl rfl, TBg_5 213 rfl rfl, by decide, by decide, by decide +kernel, ⟨_, _, rfl⟩, by decide⟩
set_option maxRecDepth 100000 in
theorem lvL_155 : VlP RL 155 yX8_remaining cX8_remaining 2 (some .int) 1 8 := ⟨TBg_5 214 rfl rfl, TBg_5 215 rfl rfl, TBg_5 216 rfl rfl, TBg_1 9 rfl rfl, TBg_5 217 rfl rfl, by decide, by decide, by decide +kernel, ⟨_, _, rfl⟩, by decide⟩
set_option maxRecDepth 100000 in
theorem lvL_158 : VlP RL 158 yX8_busy cX8_busy 2 (some .int) 1 8 := ⟨TBg_5 222 rfl rfl, TBg_5 223 rfl rfl, TBg_5 224 rfl rfl, TBg_1 9 rfl rfl, TBg_5 225 rfl rfl, by decide, by decide, by decide +kernel, ⟨_, _, rfl⟩, by decide⟩
set_option maxRecDepth 100000 in
theorem lvL_161 : VlP RL 161 yX8_steals cX8_steals 2 (some .int) 1 8 := ⟨TBg_5 226 rfl rfl, TBg_5 227 rfl rfl, TBg_5 228 rfl rfl, TBg_1 9 rfl rfl, TBg_5 229 rfl rfl, by decide, by decide, by decide +kernel, ⟨_, _, rfl⟩, by decide⟩
set_option maxRecDepth 100000 in
theorem lvL_164 : VlP RL 164 yX8_isPaused cX8_isPaused 2 (some .boolean) 1 8 := ⟨TBg_5 230 rfl rfl, TBg_5 231 rfl rfl, TBg_5 232 rfl rfl, TBg_1 9 rfl rfl, TBg_5 233 rfl rfl, by decide, by decide, by decide +kernel, ⟨_, _, rfl⟩, by decide⟩
set_option maxRecDepth 100000 in
theorem lvL_165 : VlP RL 165 yX7_finished cX7_finished 1 (some .int) 0 7 := ⟨TBg_2 66 rfl rfl, TBg_2 67 rfl rfl, TBg_2 68 rfl rfl, TBg_1 1 rfl rfl, TBg_2 69 rfl rfl, by decide, by decide, by decide +kernel, ⟨_, _, rfl⟩, by decide⟩
set_option maxRecDepth 100000 in
theorem lvL_168 : VlP RL 168 yX8_finished cX8_finished 1 (some .int) 0 8 := ⟨TBg_5 234 rfl rfl, TBg_5 235 rfl rfl, TBg_5 236 rfl rfl, TBg_1 9 rfl rfl, TBg_5 237 rfl rfl, by decide, by decide, by decide +kernel, ⟨_, _, rfl⟩, by decide⟩
set_option maxRecDepth 100000 in
theorem lvL_169 : VlP RL 169 yX7_criticalPath cX7_criticalPath 1 (some .int) 0 7 := ⟨TBg_2 84 rfl rfl, TBg_2 85 rfl rfl, TBg_2 86 rfl rfl, TBg_1 1 rfl rfl, TBg_2 87 rfl rfl, by decide, by decide, by decide +kernel, ⟨_, _, rfl⟩, by decide⟩
set_option maxRecDepth 100000 in
theorem lvL_172 : VlP RL 172 yX8_criticalPath cX8_criticalPath 4 (some .int) 0 8 := ⟨TBg_6 1 rfl rfl, TBg_6 2 rfl rfl, TBg_6 3 rfl rfl, TBg_1 9 rfl rfl, TBg_6 4 rfl rfl, by decide, by decide, by decide +kernel, ⟨_, _, rfl⟩, by decide⟩
set_option maxRecDepth 100000 in
theorem lvL_175 : VlP RL 175 yX8_finishTime cX8_finishTime 2 (some .int) 1 8 := ⟨TBg_6 12 rfl rfl, TBg_6 13 rfl rfl, TBg_6 14 rfl rfl, TBg_1 9 rfl rfl, TBg_6 15 rfl rfl, by decide, by decide, by decide +kernel, ⟨_, _, rfl⟩, by decide⟩
set_option maxRecDepth 100000 in
theorem lvL_178 : VlP RL 178 yX8_timeOn cX8_timeOn 4 (some .int) 2 8 := ⟨TBg_6 53 rfl rfl, TBg_6 54 rfl rfl, TBg_6 55 rfl rfl, TBg_1 9 rfl rfl, TBg_6 56 rfl rfl, by decide, by decide, by decide +kernel, ⟨_, _, rfl⟩, by decide⟩
set_option maxRecDepth 100000 in
theorem lvL_181 : VlP RL 181 yX8_run cX8_run 4 (some .int) 1 8 := ⟨TBg_6 57 rfl rfl, TBg_6 58 rfl rfl, TBg_6 59 rfl rfl, TBg_1 9 rfl rfl, TBg_6 60 rfl rfl, by decide, by decide, by decide +kernel, ⟨_, _, rfl⟩, by decide⟩
set_option maxRecDepth 100000 in
theorem lvL_185 : VlP RL 185 yX8_submit cX8_submit 4 (some .int) 3 8 := ⟨TBg_6 62 rfl rfl, TBg_6 63 rfl rfl, TBg_6 64 rfl rfl, TBg_1 9 rfl rfl, TBg_6 65 rfl rfl, by decide, by decide, by decide +kernel, ⟨_, _, rfl⟩, by decide⟩
set_option maxRecDepth 100000 in
theorem lvL_188 : VlP RL 188 yX8_depend cX8_depend 4 (some .int) 2 8 := ⟨TBg_6 66 rfl rfl, TBg_6 67 rfl rfl, TBg_6 68 rfl rfl, TBg_1 9 rfl rfl, TBg_6 69 rfl rfl, by decide, by decide, by decide +kernel, ⟨_, _, rfl⟩, by decide⟩
set_option maxRecDepth 100000 in
theorem lvL_191 : VlP RL 191 yX8_cancel cX8_cancel 5 (some .int) 1 8 := ⟨TBg_6 70 rfl rfl, TBg_6 71 rfl rfl, TBg_6 72 rfl rfl, TBg_1 9 rfl rfl, TBg_6 73 rfl rfl, by decide, by decide, by decide +kernel, ⟨_, _, rfl⟩, by decide⟩
set_option maxRecDepth 100000 in
theorem lvL_194 : VlP RL 194 yX8_setPriority cX8_setPriority 4 (some .int) 2 8 := ⟨TBg_6 74 rfl rfl, TBg_6 75 rfl rfl, TBg_6 76 rfl rfl, TBg_1 9 rfl rfl, TBg_6 77 rfl rfl, by decide, by decide, by decide +kernel, ⟨_, _, rfl⟩, by decide⟩
set_option maxRecDepth 100000 in
theorem lvL_198 : VlP RL 198 yX8_pause cX8_pause 4 (some .boolean) 2 8 := ⟨TBg_6 78 rfl rfl, TBg_6 79 rfl rfl, TBg_6 80 rfl rfl, TBg_1 9 rfl rfl, TBg_6 81 rfl rfl, by decide, by decide, by decide +kernel, ⟨_, _, rfl⟩, by decide⟩
set_option maxRecDepth 100000 in
theorem lvL_199 : VlP RL 199 yX7_undo cX7_undo 1 (some .int) 0 7 := ⟨TBg_2 102 rfl rfl, TBg_2 103 rfl rfl, TBg_2 104 rfl rfl, TBg_1 1 rfl rfl, TBg_2 105 rfl rfl, by decide, by decide, by decide +kernel, ⟨_, _, rfl⟩, by decide⟩
set_option maxRecDepth 100000 in
theorem lvL_202 : VlP RL 202 yX8_undo cX8_undo 1 (some .int) 0 8 := ⟨TBg_6 82 rfl rfl, TBg_6 83 rfl rfl, TBg_6 84 rfl rfl, TBg_1 9 rfl rfl, TBg_6 85 rfl rfl, by decide, by decide, by decide +kernel, ⟨_, _, rfl⟩, by decide⟩
set_option maxRecDepth 100000 in
theorem lvL_203 : VlP RL 203 yX7_checksum cX7_checksum 8 (some .long) 0 7 := ⟨TBg_2 126 rfl rfl, TBg_2 127 rfl rfl, TBg_2 128 rfl rfl, TBg_1 1 rfl rfl, TBg_2 129 rfl rfl, by decide, by decide, by decide +kernel, ⟨_, _, rfl⟩, by decide⟩
set_option maxRecDepth 100000 in
theorem lvL_207 : VlP RL 207 yX8_checksum cX8_checksum 5 (some .long) 0 8 := ⟨TBg_6 86 rfl rfl, TBg_6 87 rfl rfl, TBg_6 88 rfl rfl, TBg_1 9 rfl rfl, TBg_6 89 rfl rfl, by decide, by decide, by decide +kernel, ⟨_, _, rfl⟩, by decide⟩
set_option maxRecDepth 100000 in
theorem lvL_90 : VlP RL 90 yX7_append cX7_append 7 (some .int) 5 7 := ⟨TBg_2 38 rfl rfl, TBg_2 39 rfl rfl, TBg_2 40 rfl rfl, TBg_1 1 rfl rfl, TBg_2 41 rfl rfl, by decide, by decide, by decide +kernel, ⟨_, _, rfl⟩, by decide⟩
set_option maxRecDepth 100000 in
theorem lvL_94 : VlP RL 94 yX8_append cX8_append 8 (some .int) 5 8 := ⟨TBg_5 26 rfl rfl, TBg_5 27 rfl rfl, TBg_5 28 rfl rfl, TBg_1 9 rfl rfl, TBg_5 29 rfl rfl, by decide, by decide, by decide +kernel, ⟨_, _, rfl⟩, by decide⟩
