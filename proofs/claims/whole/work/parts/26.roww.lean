/-! ===== methods with a table of their own ===== -/
abbrev CW (g : GP) (l : Launch) (y : MethodName) (cc : ByteArray) (maxL : Nat) (ret : Option FieldType) (hh : List (Nat × Nat × Nat × Nat)) (rm : Room) (ad : Nat → Nat) (h : PH) (av : List Value) (rv : Option Value) (h' : PH) : Prop :=
  Met l y (Cond.codeWith y cc maxL ret hh :: TBg) rm (PcN g ad h av) (QcN g ad h' rv) rm.cells rm.slots (gA g)
abbrev CWA (g : GP) (l : Launch) (y : MethodName) (cc : ByteArray) (maxL : Nat) (ret : Option FieldType) (hh : List (Nat × Nat × Nat × Nat)) (rm : Room) (ad : Nat → Nat) (h : PH) (av : List Value) (rv : Option Value) (h' : PH) : Prop :=
  Met l y (Cond.codeWith y cc maxL ret hh :: TBg) rm (PcN g ad h av) (QcA g ad h h' (fun _ => rv)) rm.cells rm.slots (gA g)
theorem pw_metW {g : GP} {l : Launch} {y : MethodName} {cc : ByteArray} {maxL : Nat} {ret : Option FieldType} {hh : List (Nat × Nat × Nat × Nat)} {rm : Room} {Pa : List Value} {ad : Nat → Nat} {h : PH} {Qc : Array Value → State → Outcome → State → Prop} (hy : plainName y.cls = true) (hlen : (lg_sl Pa).length ≤ maxL)
    (body : ∀ (p : Program) (e : Env) (s : State) (m : MethodId) (args : Array Value) (below : List Frame) (meth : Method) (c : Code) (ls : Array Slot), Cx g p s m args meth c cc maxL y.cls ret → c.exceptionTable.toList = tableOf hh → Rl g ad h s.heap s.heap [] → lv_has ls maxL (lv_args 0 Pa) →
      W p l e rm s m args below meth c s.heap [] 0 0 (MQ below Qc args s rm.cells rm.slots (gA g)) (F0 m 0 ls [])) :
    Met l y (Cond.codeWith y cc maxL ret hh :: TBg) rm (PcN g ad h Pa) Qc rm.cells rm.slots (gA g) := by
  refine va_MetW (cc := cc) (maxL := maxL) (ret := ret) (hh := hh) hy rfl ?_
  intro p e s m args below meth c s₁ B hml hv
  obtain ⟨rfl, hK, hP, hD, hw⟩ := hv
  have hts := atoms_spec (ws := Cond.codeWith y cc maxL ret hh :: TBg) B.pre
  have htab := vx_table (x := y) B (hts _ List.mem_cons_self)
  have hl := lv_entry Pa (n := maxL) hlen
  rw [lg_entry_eq]
  exact body p e s m _ below meth c _ ⟨B.exec, B.bytes, hml, findClass_of_methodNamed B.named, fun w h => hts w (List.mem_cons_of_mem _ h), hK, B.notSynchronized, B.returns⟩ htab ⟨hP, hD, va_S.rf, hw⟩ hl
theorem TBg_consW {y : MethodName} {b : ByteArray} {n : Nat} {r : Option FieldType} {hh : List (Nat × Nat × Nat × Nat)} (h : Cond.codeWith y b n r hh ∈ TBg) : GoodIn TBg (Cond.codeWith y b n r hh :: TBg) := fun w hw => by
  rcases List.mem_cons.mp hw with e | e
  · rw [e]; exact TBg_good _ h
  · exact TBg_good _ e
def SwP (own : String) (index : Nat) (y : MethodName) (b : ByteArray) (maxL : Nat) (ret : Option FieldType) (hh : List (Nat × Nat × Nat × Nat)) (n : Nat) : Prop := Cond.methodLink own index y ∈ TBg ∧ Cond.static y ∈ TBg ∧ Cond.initialized y.cls ∈ TBg ∧ Cond.codeWith y b maxL ret hh ∈ TBg ∧ y.cls ≠ "java/lang/invoke/MethodHandle" ∧ y.cls ≠ "java/lang/invoke/VarHandle" ∧ (parseMethodDescriptor y.desc).map (fun d => d.parameters.length) = some n
section PW
variable {p : Program} {l : Launch} {e : Env} {R : Room} {s : State} {m : MethodId} {args : Array Value} {below : List Frame} {meth : Method} {c : Code} {H : Heap} {locs : List Loc} {cells slots : Nat} {Q : State → Prop}
variable {cc : ByteArray} {pc : Nat} {ls : Array Slot} {rest : List Value} {g : GP} {ad : Nat → Nat} {h h' : PH} {own : String} {nL : Nat} {ret : Option FieldType}
theorem pw_runSW {y : MethodName} {b : ByteArray} {maxL n index : Nat} {r : Option FieldType} {hh : List (Nat × Nat × Nat × Nat)} {rm : Room} {Qc : Array Value → State → Outcome → State → Prop} {As st0 : List Value} (C : Cx g p s m args meth c cc nL own ret) (hR : Rl g ad h s.heap H locs) (S : SwP own index y b maxL r hh n)
    (hM : Met l y (Cond.codeWith y b maxL r hh :: TBg) rm (PcN g ad h As) Qc rm.cells rm.slots (gA g)) (hn : As.length = n) (hsz : ls.size = nL) (hst : st0 = As.reverse ++ rest) (hroom : rm.frames + 1 ≤ R.frames ∧ 8 + (maxL + 11) + rm.locals ≤ R.locals) (hcat : (rest.map fun v => v.category).sum ≤ 8) (hdg : decode cc pc = .ok (.invokestatic index, 3)) (hf : cells + rm.cells ≤ R.cells ∧ slots + rm.slots ≤ R.slots) :
    va_Run p l e R s m args below meth c H locs cells slots rm.cells rm.slots (F0 m pc ls st0) rest (Qc As.toArray) (gA g) := by
  obtain ⟨s1, s2, s3, s4, s5, s6, s7⟩ := S
  refine vx_runSW (As := As) (rest := rest) (pw_fix C) hM ⟨⟨rfl, rfl, hroom.1, hroom.2, pay_in C.2.2.2.2.1 (TBg_consW s4), List.mem_cons_self⟩, C.2.2.2.2.1 _ s4, C.2.2.2.2.1 _ s3, ⟨s5, s6⟩, fun sig h => ?_, C.2.2.2.2.1 _ s1, C.2.2.2.2.1 _ s2⟩ (pw_pre C hR As) rfl hn hsz hst (lv_room hcat) hdg hf
  rw [h] at s7
  exact (Option.some.inj s7).symm
theorem pw_cVTi {y : MethodName} {b : ByteArray} {maxL n index ci o k : Nat} {fs : List PV} {r : Option FieldType} {rm : Room} {x : Int} {As st0 : List Value} (C : Cx g p s m args meth c cc nL own ret) (hR : Rl g ad h s.heap H locs) (S : VlP own index y b maxL r n ci) (ho : h[o]? = some (.inr (ci, fs))) (hM : CT g l y b maxL r rm ad h (.ref (ad o) :: As) k (some (.int (Int32.ofInt x))) h') (hn : As.length = n) (hsz : ls.size = nL) (hst : st0 = As.reverse ++ .ref (ad o) :: rest) (hroom : rm.frames + 1 ≤ R.frames ∧ 8 + (maxL + 11) + rm.locals ≤ R.locals) (hcat : (rest.map fun v => v.category).sum ≤ 8) (hdg : decode cc pc = .ok (.invokevirtual index, 3)) (hf : cells + rm.cells ≤ R.cells ∧ slots + rm.slots ≤ R.slots)
    (kk : k = 0 → ∀ (H1 : Heap) (locs1 : List Loc), Rl g ad h' s.heap H1 locs1 → W p l e R s m args below meth c H1 locs1 (cells + rm.cells) (slots + rm.slots) Q (F0 m (pc + 3) ls (.int (Int32.ofInt x) :: rest)))
    (kx : k ≠ 0 → ∀ (H1 : Heap) (locs1 : List Loc) (q : Addr) (ce : Cell), Rl g ad h' s.heap H1 locs1 → H1[q]? = some ce → ce.vm = .none → s.vm.findClass (exn k) = some ce.cls → vx_W p l e R s m args below meth c H1 locs1 (cells + rm.cells) (slots + rm.slots) Q (F0 m pc ls rest) q) :
    W p l e R s m args below meth c H locs cells slots Q (F0 m pc ls st0) := pw_callT hR (pw_runVT C hR S ho hM hn hsz hst hroom hcat hdg hf) kk kx
theorem pw_cVTAi {y : MethodName} {b : ByteArray} {maxL n index ci o k : Nat} {fs : List PV} {r : Option FieldType} {rm : Room} {x : Int} {As st0 : List Value} (C : Cx g p s m args meth c cc nL own ret) (hR : Rl g ad h s.heap H locs) (S : VlP own index y b maxL r n ci) (ho : h[o]? = some (.inr (ci, fs))) (hM : CTA g l y b maxL r rm ad h (.ref (ad o) :: As) k (some (.int (Int32.ofInt x))) h') (hn : As.length = n) (hsz : ls.size = nL) (hst : st0 = As.reverse ++ .ref (ad o) :: rest) (hroom : rm.frames + 1 ≤ R.frames ∧ 8 + (maxL + 11) + rm.locals ≤ R.locals) (hcat : (rest.map fun v => v.category).sum ≤ 8) (hdg : decode cc pc = .ok (.invokevirtual index, 3)) (hf : cells + rm.cells ≤ R.cells ∧ slots + rm.slots ≤ R.slots)
    (kk : k = 0 → ∀ (ad' : Nat → Nat) (H1 : Heap) (locs1 : List Loc), (∀ j, j < h.length → ad' j = ad j) → Rl g ad' h' s.heap H1 locs1 → W p l e R s m args below meth c H1 locs1 (cells + rm.cells) (slots + rm.slots) Q (F0 m (pc + 3) ls (.int (Int32.ofInt x) :: rest)))
    (kx : k ≠ 0 → ∀ (ad' : Nat → Nat) (H1 : Heap) (locs1 : List Loc) (q : Addr) (ce : Cell), (∀ j, j < h.length → ad' j = ad j) → Rl g ad' h' s.heap H1 locs1 → H1[q]? = some ce → ce.vm = .none → s.vm.findClass (exn k) = some ce.cls → vx_W p l e R s m args below meth c H1 locs1 (cells + rm.cells) (slots + rm.slots) Q (F0 m pc ls rest) q) :
    W p l e R s m args below meth c H locs cells slots Q (F0 m pc ls st0) := by
  have hr := pw_runVT (e := e) (below := below) (meth := meth) (locs := locs) (cells := cells) (slots := slots) (pc := pc) C hR S ho hM hn hsz hst hroom hcat hdg hf
  intro T hT X
  rcases hr T hT X with ⟨v, st₀, t, T', L, h0, X', hL, e1, e2, ⟨hk, ad', hag, hv, ⟨hp, hd, hw⟩, hF⟩, st⟩ | ⟨q, st₀, t, T', L, E, ce, h0, X', hL, e1, e2, ⟨ad', hag, hk, rfl, ⟨hp, hd, hw⟩, hF⟩, hce, hcv, hcl, st⟩
  · cases hv
    obtain ⟨k1, k2, k3⟩ := vx_keep (A0 := gA g) (H0 := s.heap) h0 e1 hR.2.2.1 (fun _ _ z => z) (fun _ z => z) hL hF
    obtain ⟨t2, a1, b1⟩ := kk hk ad' T'.heap (locs ++ L) hag ⟨by rw [e1]; exact hp, hd, k3, hw⟩ T' rfl X'
    exact ⟨t2, st t2 a1, b1⟩
  · obtain ⟨k1, k2, k3⟩ := vx_keep (A0 := gA g) (H0 := s.heap) h0 e1 hR.2.2.1 (fun _ _ z => z) (fun _ z => z) hL hF
    obtain ⟨t2, a1, b1⟩ := kx hk ad' T'.heap (locs ++ L) q ce hag ⟨by rw [e1]; exact hp, hd, k3, hw⟩ (by rw [e1]; exact hce) hcv hcl T' rfl X'
    exact ⟨t2, st.trans a1, b1⟩
theorem pw_iretM {mc ms : Nat} (C : Cx g p s m args meth c cc nL own (some .int)) (hR : Rl g ad h s.heap H locs) {x : Int} (hc : cells ≤ mc) (hs : slots ≤ ms) (hdg : decode cc pc = .ok (.ireturn, 1)) : W p l e R s m args below meth c H locs cells slots (MQ below (QcN g ad h (some (.int (Int32.ofInt x)))) args s mc ms (gA g)) (F0 m pc ls [.int (Int32.ofInt x)]) :=
  W.widen hc hs (pw_iret C hR hdg)
theorem pw_iretMA {ad0 : Nat → Nat} {h0 : PH} {mc ms : Nat} (C : Cx g p s m args meth c cc nL own (some .int)) (hA : ∀ k, k < h0.length → ad k = ad0 k) (hR : Rl g ad h s.heap H locs) {x : Int} (hc : cells ≤ mc) (hs : slots ≤ ms) (hdg : decode cc pc = .ok (.ireturn, 1)) : W p l e R s m args below meth c H locs cells slots (MQ below (QcA g ad0 h0 h (fun _ => some (.int (Int32.ofInt x)))) args s mc ms (gA g)) (F0 m pc ls [.int (Int32.ofInt x)]) :=
  W.widen hc hs (W.iret C.1 C.2.1 C.2.2.2.2.2.2.2 (pw_qA hA hR) hR.2.2.1.2.2 hdg C.2.2.2.2.2.2.1)
end PW
set_option maxRecDepth 100000 in
theorem clL_13 : Cond.classLink RL 13 xI ∈ TBg := TBg_2 143 rfl rfl
set_option maxRecDepth 100000 in
theorem clL_18 : Cond.classLink RL 18 xB ∈ TBg := TBg_3 146 rfl rfl
set_option maxRecDepth 100000 in
theorem clL_64 : Cond.classLink RL 64 xS ∈ TBg := TBg_4 108 rfl rfl
set_option maxRecDepth 100000 in
theorem lvL_15 : VlP RL 15 yX7_state cX7_state 2 (some .int) 1 7 := ⟨TBg_3 147 rfl rfl, TBg_3 148 rfl rfl, TBg_3 149 rfl rfl, TBg_1 1 rfl rfl, TBg_3 150 rfl rfl, by decide, by decide, by decide +kernel, ⟨_, _, rfl⟩, by decide⟩
set_option maxRecDepth 100000 in
theorem lvL_20 : VlP RL 20 yX7_counter cX7_counter 2 (some .int) 1 7 := ⟨TBg_3 174 rfl rfl, TBg_3 175 rfl rfl, TBg_3 176 rfl rfl, TBg_1 1 rfl rfl, TBg_3 177 rfl rfl, by decide, by decide, by decide +kernel, ⟨_, _, rfl⟩, by decide⟩
set_option maxRecDepth 100000 in
theorem lvL_23 : VlP RL 23 yX7_priority cX7_priority 2 (some .int) 1 7 := ⟨TBg_3 181 rfl rfl, TBg_3 182 rfl rfl, TBg_3 183 rfl rfl, TBg_1 1 rfl rfl, TBg_3 184 rfl rfl, by decide, by decide, by decide +kernel, ⟨_, _, rfl⟩, by decide⟩
set_option maxRecDepth 100000 in
theorem lvL_26 : VlP RL 26 yX7_coreOf cX7_coreOf 2 (some .int) 1 7 := ⟨TBg_3 188 rfl rfl, TBg_3 189 rfl rfl, TBg_3 190 rfl rfl, TBg_1 1 rfl rfl, TBg_3 191 rfl rfl, by decide, by decide, by decide +kernel, ⟨_, _, rfl⟩, by decide⟩
set_option maxRecDepth 100000 in
theorem lvL_29 : VlP RL 29 yX7_doneAt cX7_doneAt 2 (some .int) 1 7 := ⟨TBg_3 195 rfl rfl, TBg_3 196 rfl rfl, TBg_3 197 rfl rfl, TBg_1 1 rfl rfl, TBg_3 198 rfl rfl, by decide, by decide, by decide +kernel, ⟨_, _, rfl⟩, by decide⟩
set_option maxRecDepth 100000 in
theorem lvL_32 : VlP RL 32 yX7_isOpen cX7_isOpen 2 (some .boolean) 1 7 := ⟨TBg_3 202 rfl rfl, TBg_3 203 rfl rfl, TBg_3 204 rfl rfl, TBg_1 1 rfl rfl, TBg_3 205 rfl rfl, by decide, by decide, by decide +kernel, ⟨_, _, rfl⟩, by decide⟩
set_option maxRecDepth 100000 in
theorem lvL_36 : VlP RL 36 yX7_queueLength cX7_queueLength 2 (some .int) 1 7 := ⟨TBg_3 211 rfl rfl, TBg_3 212 rfl rfl, TBg_3 213 rfl rfl, TBg_1 1 rfl rfl, TBg_3 214 rfl rfl, by decide, by decide, by decide +kernel, ⟨_, _, rfl⟩, by decide⟩
set_option maxRecDepth 100000 in
theorem lvL_39 : VlP RL 39 yX7_queued cX7_queued 3 (some .int) 2 7 := ⟨TBg_3 223 rfl rfl, TBg_3 224 rfl rfl, TBg_3 225 rfl rfl, TBg_1 1 rfl rfl, TBg_3 226 rfl rfl, by decide, by decide, by decide +kernel, ⟨_, _, rfl⟩, by decide⟩
set_option maxRecDepth 100000 in
theorem lvL_43 : VlP RL 43 yX7_running cX7_running 2 (some .int) 1 7 := ⟨TBg_3 231 rfl rfl, TBg_3 232 rfl rfl, TBg_3 233 rfl rfl, TBg_1 1 rfl rfl, TBg_3 234 rfl rfl, by decide, by decide, by decide +kernel, ⟨_, _, rfl⟩, by decide⟩
set_option maxRecDepth 100000 in
theorem lvL_46 : VlP RL 46 yX7_remaining cX7_remaining 2 (some .int) 1 7 := ⟨TBg_3 238 rfl rfl, TBg_3 239 rfl rfl, TBg_4 0 rfl rfl, TBg_1 1 rfl rfl, TBg_4 1 rfl rfl, by decide, by decide, by decide +kernel, ⟨_, _, rfl⟩, by decide⟩
set_option maxRecDepth 100000 in
theorem lvL_49 : VlP RL 49 yX7_busy cX7_busy 2 (some .int) 1 7 := ⟨TBg_4 5 rfl rfl, TBg_4 6 rfl rfl, TBg_4 7 rfl rfl, TBg_1 1 rfl rfl, TBg_4 8 rfl rfl, by decide, by decide, by decide +kernel, ⟨_, _, rfl⟩, by decide⟩
set_option maxRecDepth 100000 in
theorem lvL_52 : VlP RL 52 yX7_steals cX7_steals 2 (some .int) 1 7 := ⟨TBg_4 12 rfl rfl, TBg_4 13 rfl rfl, TBg_4 14 rfl rfl, TBg_1 1 rfl rfl, TBg_4 15 rfl rfl, by decide, by decide, by decide +kernel, ⟨_, _, rfl⟩, by decide⟩
set_option maxRecDepth 100000 in
theorem lvL_55 : VlP RL 55 yX7_isPaused cX7_isPaused 2 (some .boolean) 1 7 := ⟨TBg_4 19 rfl rfl, TBg_4 20 rfl rfl, TBg_4 21 rfl rfl, TBg_1 1 rfl rfl, TBg_4 22 rfl rfl, by decide, by decide, by decide +kernel, ⟨_, _, rfl⟩, by decide⟩
set_option maxRecDepth 100000 in
theorem lvL_58 : VlP RL 58 yX7_finishTime cX7_finishTime 2 (some .int) 1 7 := ⟨TBg_4 26 rfl rfl, TBg_4 27 rfl rfl, TBg_4 28 rfl rfl, TBg_1 1 rfl rfl, TBg_4 29 rfl rfl, by decide, by decide, by decide +kernel, ⟨_, _, rfl⟩, by decide⟩
set_option maxRecDepth 100000 in
theorem lvL_61 : VlP RL 61 yX7_timeOn cX7_timeOn 3 (some .int) 2 7 := ⟨TBg_4 109 rfl rfl, TBg_4 110 rfl rfl, TBg_4 111 rfl rfl, TBg_1 1 rfl rfl, TBg_4 112 rfl rfl, by decide, by decide, by decide +kernel, ⟨_, _, rfl⟩, by decide⟩
set_option maxRecDepth 100000 in
theorem lvL_66 : VlP RL 66 yX7_run cX7_run 4 (some .int) 1 7 := ⟨TBg_4 138 rfl rfl, TBg_4 139 rfl rfl, TBg_4 140 rfl rfl, TBg_1 1 rfl rfl, TBg_4 141 rfl rfl, by decide, by decide, by decide +kernel, ⟨_, _, rfl⟩, by decide⟩
set_option maxRecDepth 100000 in
theorem lvL_69 : VlP RL 69 yX7_submit cX7_submit 4 (some .int) 3 7 := ⟨TBg_4 149 rfl rfl, TBg_4 150 rfl rfl, TBg_4 151 rfl rfl, TBg_1 1 rfl rfl, TBg_4 152 rfl rfl, by decide, by decide, by decide +kernel, ⟨_, _, rfl⟩, by decide⟩
set_option maxRecDepth 100000 in
theorem lvL_7 : VlP RL 7 yX7_load cX7_load 3 (some .int) 1 7 := ⟨TBg_2 144 rfl rfl, TBg_2 145 rfl rfl, TBg_2 146 rfl rfl, TBg_1 1 rfl rfl, TBg_2 147 rfl rfl, by decide, by decide, by decide +kernel, ⟨_, _, rfl⟩, by decide⟩
set_option maxRecDepth 100000 in
theorem lvL_73 : VlP RL 73 yX7_depend cX7_depend 4 (some .int) 2 7 := ⟨TBg_4 163 rfl rfl, TBg_4 164 rfl rfl, TBg_4 165 rfl rfl, TBg_1 1 rfl rfl, TBg_4 166 rfl rfl, by decide, by decide, by decide +kernel, ⟨_, _, rfl⟩, by decide⟩
set_option maxRecDepth 100000 in
theorem lvL_76 : VlP RL 76 yX7_cancel cX7_cancel 3 (some .int) 1 7 := ⟨TBg_4 174 rfl rfl, TBg_4 175 rfl rfl, TBg_4 176 rfl rfl, TBg_1 1 rfl rfl, TBg_4 177 rfl rfl, by decide, by decide, by decide +kernel, ⟨_, _, rfl⟩, by decide⟩
set_option maxRecDepth 100000 in
theorem lvL_79 : VlP RL 79 yX7_setPriority cX7_setPriority 4 (some .int) 2 7 := ⟨TBg_4 187 rfl rfl, TBg_4 188 rfl rfl, TBg_4 189 rfl rfl, TBg_1 1 rfl rfl, TBg_4 190 rfl rfl, by decide, by decide, by decide +kernel, ⟨_, _, rfl⟩, by decide⟩
set_option maxRecDepth 100000 in
theorem lvL_82 : VlP RL 82 yX7_pause cX7_pause 4 (some .boolean) 2 7 := ⟨TBg_4 194 rfl rfl, TBg_4 195 rfl rfl, TBg_4 196 rfl rfl, TBg_1 1 rfl rfl, TBg_4 197 rfl rfl, by decide, by decide, by decide +kernel, ⟨_, _, rfl⟩, by decide⟩
