section PW
variable {p : Program} {l : Launch} {e : Env} {R : Room} {s : State} {m : MethodId} {args : Array Value} {below : List Frame} {meth : Method} {c : Code} {H : Heap} {locs : List Loc} {cells slots : Nat} {Q : State → Prop}
variable {cc : ByteArray} {pc : Nat} {ls : Array Slot} {rest : List Value} {g : GP} {ad : Nat → Nat} {h h' : PH} {own : String} {nL : Nat} {ret : Option FieldType}
theorem pw_call {mc ms : Nat} {st0 : List Value} {a : Array Value} {rv : Option Value} (hR : Rl g ad h s.heap H locs) (hr : va_Run p l e R s m args below meth c H locs cells slots mc ms (F0 m pc ls st0) rest (QcN g ad h' rv a) (gA g))
    (kk : ∀ (H1 : Heap) (locs1 : List Loc), Rl g ad h' s.heap H1 locs1 → W p l e R s m args below meth c H1 locs1 (cells + mc) (slots + ms) Q (F0 m (pc + 3) ls (rv.toList ++ rest))) : W p l e R s m args below meth c H locs cells slots Q (F0 m pc ls st0) := by
  intro T hT X
  obtain ⟨v, st₀, t, T', L, h0, X', hL, e1, e2, ⟨hv, ⟨hp, hd, hw⟩, hz, hk⟩, st⟩ := hr T hT X
  cases hv
  rw [h0] at hz hk
  obtain ⟨-, -, hS, -⟩ := hR
  obtain ⟨t2, a1, b1⟩ := kk T'.heap (locs ++ L) ⟨by rw [e1]; exact hp, hd, ⟨Nat.le_trans hS.1 (by rw [e1]; exact hz), fun q h1 h2 => by rw [e1, hk q (Nat.lt_of_lt_of_le h1 hS.1) h2]; exact hS.2.1 q h1 h2, fun q hq => by
      rcases List.mem_append.mp hq with h | h
      · exact hS.2.2 q h
      · exact hL q h⟩, hw⟩ T' rfl X'
  exact ⟨t2, st t2 a1, b1⟩
theorem pw_callA {mc ms : Nat} {st0 : List Value} {a : Array Value} {rv : (Nat → Nat) → Option Value} (hR : Rl g ad h s.heap H locs) (hr : va_Run p l e R s m args below meth c H locs cells slots mc ms (F0 m pc ls st0) rest (QcA g ad h h' rv a) (gA g))
    (kk : ∀ (ad' : Nat → Nat) (H1 : Heap) (locs1 : List Loc), (∀ k, k < h.length → ad' k = ad k) → Rl g ad' h' s.heap H1 locs1 → W p l e R s m args below meth c H1 locs1 (cells + mc) (slots + ms) Q (F0 m (pc + 3) ls ((rv ad').toList ++ rest))) : W p l e R s m args below meth c H locs cells slots Q (F0 m pc ls st0) := by
  intro T hT X
  obtain ⟨v, st₀, t, T', L, h0, X', hL, e1, e2, ⟨ad', hag, hv, ⟨hp, hd, hw⟩, hz, hk⟩, st⟩ := hr T hT X
  cases hv
  rw [h0] at hz hk
  obtain ⟨-, -, hS, -⟩ := hR
  obtain ⟨t2, a1, b1⟩ := kk ad' T'.heap (locs ++ L) hag ⟨by rw [e1]; exact hp, hd, ⟨Nat.le_trans hS.1 (by rw [e1]; exact hz), fun q h1 h2 => by rw [e1, hk q (Nat.lt_of_lt_of_le h1 hS.1) h2]; exact hS.2.1 q h1 h2, fun q hq => by
      rcases List.mem_append.mp hq with h | h
      · exact hS.2.2 q h
      · exact hL q h⟩, hw⟩ T' rfl X'
  exact ⟨t2, st t2 a1, b1⟩
theorem pw_pre (C : Cx g p s m args meth c cc nL own ret) (hR : Rl g ad h s.heap H locs) (As : List Value) : PreS s H (PcN g ad h As) As :=
  ⟨PcN_blind, fun U hU hW => ⟨rfl, Kf.go hW (by rw [hU]; exact hR.2.2.1) C.2.2.2.2.2.1, by rw [hU]; exact hR.1, hR.2.1, hR.2.2.2⟩⟩
theorem pw_fix (C : Cx g p s m args meth c cc nL own ret) : CallFix p m c cc nL s args TBg own := ⟨C.1, C.2.1, C.2.2.1, C.2.2.2.1, C.2.2.2.2.1⟩
/-- a static call -/
theorem pw_runS {y : MethodName} {b : ByteArray} {maxL n index : Nat} {r : Option FieldType} {rm : Room} {Qc : Array Value → State → Outcome → State → Prop} {As st0 : List Value} (C : Cx g p s m args meth c cc nL own ret) (hR : Rl g ad h s.heap H locs) (S : SlP own index y b maxL r n)
    (hM : Met l y (Cond.code y b maxL r :: TBg) rm (PcN g ad h As) Qc rm.cells rm.slots (gA g)) (hn : As.length = n) (hsz : ls.size = nL) (hst : st0 = As.reverse ++ rest) (hroom : rm.frames + 1 ≤ R.frames ∧ 8 + (maxL + 11) + rm.locals ≤ R.locals) (hcat : (rest.map fun v => v.category).sum ≤ 8) (hdg : decode cc pc = .ok (.invokestatic index, 3)) (hf : cells + rm.cells ≤ R.cells ∧ slots + rm.slots ≤ R.slots) :
    va_Run p l e R s m args below meth c H locs cells slots rm.cells rm.slots (F0 m pc ls st0) rest (Qc As.toArray) (gA g) := by
  obtain ⟨s1, s2, s3, s4, s5, s6, s7⟩ := S
  refine va_runS (As := As) (rest := rest) (pw_fix C) hM ⟨callB_of n C.2.2.2.2.1 (TBg_cons s4) rfl rfl rfl (C.2.2.2.2.1 _ s3) (C.2.2.2.2.1 _ s1) ⟨s5, s6, s7⟩ hroom, C.2.2.2.2.1 _ s2⟩ (pw_pre C hR As) rfl hn hsz hst (lv_room hcat) hdg hf
/-- a virtual call -/
theorem pw_runV {y : MethodName} {b : ByteArray} {maxL n index ci o : Nat} {fs : List PV} {r : Option FieldType} {rm : Room} {Qc : Array Value → State → Outcome → State → Prop} {As st0 : List Value} (C : Cx g p s m args meth c cc nL own ret) (hR : Rl g ad h s.heap H locs) (S : VlP own index y b maxL r n ci) (ho : h[o]? = some (.inr (ci, fs)))
    (hM : Met l y (Cond.code y b maxL r :: TBg) rm (PcN g ad h (.ref (ad o) :: As)) Qc rm.cells rm.slots (gA g)) (hn : As.length = n) (hsz : ls.size = nL) (hst : st0 = As.reverse ++ .ref (ad o) :: rest) (hroom : rm.frames + 1 ≤ R.frames ∧ 8 + (maxL + 11) + rm.locals ≤ R.locals) (hcat : (rest.map fun v => v.category).sum ≤ 8) (hdg : decode cc pc = .ok (.invokevirtual index, 3)) (hf : cells + rm.cells ≤ R.cells ∧ slots + rm.slots ≤ R.slots) :
    va_Run p l e R s m args below meth c H locs cells slots rm.cells rm.slots (F0 m pc ls st0) rest (Qc (Value.ref (ad o) :: As).toArray) (gA g) := by
  obtain ⟨s1, s2, s3, s4, s5, s6, s7, s8, ⟨T, N, s9⟩, s10⟩ := S
  have hw := wsOf_get (g := g) (ad := ad) ho
  simp only [cv, if_pos s10] at hw
  have hp := pw_pre C hR (.ref (ad o) :: As)
  refine va_runV (C := y.cls) (As := As) (rest := rest) (pw_fix C) hM ⟨callB_of n C.2.2.2.2.1 (TBg_cons s5) rfl rfl rfl (C.2.2.2.2.1 _ s4) (C.2.2.2.2.1 _ s1) ⟨s6, s7, s8⟩ hroom, C.2.2.2.2.1 _ s2, C.2.2.2.2.1 _ s3⟩ ⟨hp.1, va_recv C.2.2.2.2.2.1.1 hR.1 (ci := ci) (q0 := o) s9 hw, hp.2⟩ rfl hn hsz hst (lv_room hcat) hdg hf
/-- a static call of a nest mate's private method -/
theorem pw_runSN {y : MethodName} {b : ByteArray} {maxL n index : Nat} {r : Option FieldType} {rm : Room} {Qc : Array Value → State → Outcome → State → Prop} {As st0 : List Value} (C : Cx g p s m args meth c cc nL own ret) (hR : Rl g ad h s.heap H locs) (hq : (own, index, y) ∈ nstW)
    (S : Cond.static y ∈ TBg ∧ Cond.initialized y.cls ∈ TBg ∧ Cond.code y b maxL r ∈ TBg ∧ y.cls ≠ "java/lang/invoke/MethodHandle" ∧ y.cls ≠ "java/lang/invoke/VarHandle" ∧ (parseMethodDescriptor y.desc).map (fun d => d.parameters.length) = some n)
    (hM : Met l y (Cond.code y b maxL r :: TBg) rm (PcN g ad h As) Qc rm.cells rm.slots (gA g)) (hn : As.length = n) (hsz : ls.size = nL) (hst : st0 = As.reverse ++ rest) (hroom : rm.frames + 1 ≤ R.frames ∧ 8 + (maxL + 11) + rm.locals ≤ R.locals) (hcat : (rest.map fun v => v.category).sum ≤ 8) (hdg : decode cc pc = .ok (.invokestatic index, 3)) (hf : cells + rm.cells ≤ R.cells ∧ slots + rm.slots ≤ R.slots) :
    va_Run p l e R s m args below meth c H locs cells slots rm.cells rm.slots (F0 m pc ls st0) rest (Qc As.toArray) (gA g) := by
  obtain ⟨s2, s3, s4, s5, s6, s7⟩ := S
  refine va_runSN (host := "HardwareTaskQueue") (As := As) (rest := rest) (pw_fix C) hM ⟨va_cnB n C.2.2.2.2.1 (TBg_cons s4) rfl rfl rfl (C.2.2.2.2.2.1.2.1.1 _ hq) (C.2.2.2.2.1 _ s3) ⟨s5, s6, s7⟩ hroom, C.2.2.2.2.1 _ s2, trivial⟩ (pw_pre C hR As) rfl hn hsz hst (lv_room hcat) hdg hf
/-- a constructor -/
theorem pw_runI {y : MethodName} {b : ByteArray} {maxL n index o : Nat} {rm : Room} {Qc : Array Value → State → Outcome → State → Prop} {As st0 : List Value} (C : Cx g p s m args meth c cc nL own ret) (hR : Rl g ad h s.heap H locs)
    (S : Cond.methodLink own index y ∈ TBg ∧ Cond.instanceMethod y ∈ TBg ∧ Cond.initialized y.cls ∈ TBg ∧ Cond.code y b maxL none ∈ TBg ∧ y.name = "<init>" ∧ y.cls ≠ "java/lang/invoke/MethodHandle" ∧ y.cls ≠ "java/lang/invoke/VarHandle" ∧ (parseMethodDescriptor y.desc).map (fun d => d.parameters.length) = some n)
    (hM : Met l y (Cond.code y b maxL none :: TBg) rm (PcN g ad h (.ref (ad o) :: As)) Qc rm.cells rm.slots (gA g)) (hn : As.length = n) (hsz : ls.size = nL) (hst : st0 = As.reverse ++ .ref (ad o) :: rest) (hroom : rm.frames + 1 ≤ R.frames ∧ 8 + (maxL + 11) + rm.locals ≤ R.locals) (hcat : (rest.map fun v => v.category).sum ≤ 8) (hdg : decode cc pc = .ok (.invokespecial index, 3)) (hf : cells + rm.cells ≤ R.cells ∧ slots + rm.slots ≤ R.slots) :
    va_Run p l e R s m args below meth c H locs cells slots rm.cells rm.slots (F0 m pc ls st0) rest (Qc (Value.ref (ad o) :: As).toArray) (gA g) := by
  obtain ⟨s1, s2, s3, s4, s5, s6, s7, s8⟩ := S
  refine va_runI (As := As) (rest := rest) (pw_fix C) hM ⟨callB_of n C.2.2.2.2.1 (TBg_cons s4) rfl rfl rfl (C.2.2.2.2.1 _ s3) (C.2.2.2.2.1 _ s1) ⟨s6, s7, s8⟩ hroom, s5, C.2.2.2.2.1 _ s2⟩ (pw_pre C hR (.ref (ad o) :: As)) rfl hn hsz hst (lv_room hcat) hdg hf
/-- a nest mate's private constructor -/
theorem pw_runIN {y : MethodName} {b : ByteArray} {maxL n index o : Nat} {rm : Room} {Qc : Array Value → State → Outcome → State → Prop} {As st0 : List Value} (C : Cx g p s m args meth c cc nL own ret) (hR : Rl g ad h s.heap H locs) (hq : (own, index, y) ∈ nstW)
    (S : Cond.instanceMethod y ∈ TBg ∧ Cond.initialized y.cls ∈ TBg ∧ Cond.code y b maxL none ∈ TBg ∧ y.name = "<init>" ∧ y.cls ≠ "java/lang/invoke/MethodHandle" ∧ y.cls ≠ "java/lang/invoke/VarHandle" ∧ (parseMethodDescriptor y.desc).map (fun d => d.parameters.length) = some n)
    (hM : Met l y (Cond.code y b maxL none :: TBg) rm (PcN g ad h (.ref (ad o) :: As)) Qc rm.cells rm.slots (gA g)) (hn : As.length = n) (hsz : ls.size = nL) (hst : st0 = As.reverse ++ .ref (ad o) :: rest) (hroom : rm.frames + 1 ≤ R.frames ∧ 8 + (maxL + 11) + rm.locals ≤ R.locals) (hcat : (rest.map fun v => v.category).sum ≤ 8) (hdg : decode cc pc = .ok (.invokespecial index, 3)) (hf : cells + rm.cells ≤ R.cells ∧ slots + rm.slots ≤ R.slots) :
    va_Run p l e R s m args below meth c H locs cells slots rm.cells rm.slots (F0 m pc ls st0) rest (Qc (Value.ref (ad o) :: As).toArray) (gA g) := by
  obtain ⟨s2, s3, s4, s5, s6, s7, s8⟩ := S
  refine va_runIN (host := "HardwareTaskQueue") (As := As) (rest := rest) (pw_fix C) hM ⟨va_cnB n C.2.2.2.2.1 (TBg_cons s4) rfl rfl rfl (C.2.2.2.2.2.1.2.1.1 _ hq) (C.2.2.2.2.1 _ s3) ⟨s6, s7, s8⟩ hroom, s5, C.2.2.2.2.1 _ s2⟩ (pw_pre C hR (.ref (ad o) :: As)) rfl hn hsz hst (lv_room hcat) hdg hf
theorem pw_q (hR : Rl g ad h s.heap H locs) {rv : Option Value} {a : Array Value} : ∀ t : State, t.heap = H → s.WarmedH t.vm → QcN g ad h rv a s (.returned rv) t := fun t ht _ => ⟨rfl, ⟨by rw [ht]; exact hR.1, hR.2.1, hR.2.2.2⟩, hR.2.2.1.F ht⟩
theorem pw_iret (C : Cx g p s m args meth c cc nL own (some .int)) (hR : Rl g ad h s.heap H locs) {x : Int} (hdg : decode cc pc = .ok (.ireturn, 1)) : W p l e R s m args below meth c H locs cells slots (MQ below (QcN g ad h (some (.int (Int32.ofInt x)))) args s cells slots (gA g)) (F0 m pc ls [.int (Int32.ofInt x)]) :=
  W.iret C.1 C.2.1 C.2.2.2.2.2.2.2 (pw_q hR) hR.2.2.1.2.2 hdg C.2.2.2.2.2.2.1
theorem nar_boolv {x : Int} (h : x = 0 ∨ x = 1) : narrow .boolean (.int (Int32.ofInt x)) = .int (Int32.ofInt x) := by rcases h with rfl | rfl <;> rfl
theorem pw_zret (C : Cx g p s m args meth c cc nL own (some .boolean)) (hR : Rl g ad h s.heap H locs) {x : Int} (hx : x = 0 ∨ x = 1) (hdg : decode cc pc = .ok (.ireturn, 1)) : W p l e R s m args below meth c H locs cells slots (MQ below (QcN g ad h (some (.int (Int32.ofInt x)))) args s cells slots (gA g)) (F0 m pc ls [.int (Int32.ofInt x)]) :=
  W.zret C.1 C.2.1 C.2.2.2.2.2.2.2 (nar_boolv hx) (pw_q hR) hR.2.2.1.2.2 hdg C.2.2.2.2.2.2.1
theorem pw_lret (C : Cx g p s m args meth c cc nL own (some .long)) (hR : Rl g ad h s.heap H locs) {x : Int} (hdg : decode cc pc = .ok (.lreturn, 1)) : W p l e R s m args below meth c H locs cells slots (MQ below (QcN g ad h (some (.long (Int64.ofInt x)))) args s cells slots (gA g)) (F0 m pc ls [.long (Int64.ofInt x)]) :=
  W.lret C.1 C.2.1 C.2.2.2.2.2.2.2 (pw_q hR) hR.2.2.1.2.2 hdg C.2.2.2.2.2.2.1
theorem pw_vret (C : Cx g p s m args meth c cc nL own none) (hR : Rl g ad h s.heap H locs) (hdg : decode cc pc = .ok (.return_, 1)) : W p l e R s m args below meth c H locs cells slots (MQ below (QcN g ad h none) args s cells slots (gA g)) (F0 m pc ls []) :=
  W.vret C.1 C.2.1 C.2.2.2.2.2.2.2 (pw_q hR) hR.2.2.1.2.2 hdg C.2.2.2.2.2.2.1
end PW
/-- a contract out of the walk of a body -/
theorem pw_met {g : GP} {l : Launch} {y : MethodName} {cc : ByteArray} {maxL : Nat} {ret : Option FieldType} {rm : Room} {Pa : List Value} {ad : Nat → Nat} {h : PH} {Qc : Array Value → State → Outcome → State → Prop} (hy : plainName y.cls = true) (hlen : (lg_sl Pa).length ≤ maxL)
    (body : ∀ (p : Program) (e : Env) (s : State) (m : MethodId) (args : Array Value) (below : List Frame) (meth : Method) (c : Code) (ls : Array Slot), Cx g p s m args meth c cc maxL y.cls ret → meth.name = y.name → Rl g ad h s.heap s.heap [] → lv_has ls maxL (lv_args 0 Pa) →
      W p l e rm s m args below meth c s.heap [] 0 0 (MQ below Qc args s rm.cells rm.slots (gA g)) (F0 m 0 ls [])) :
    Met l y (Cond.code y cc maxL ret :: TBg) rm (PcN g ad h Pa) Qc rm.cells rm.slots (gA g) := by
  refine Met.ofW (cc := cc) (maxL := maxL) (ret := ret) hy rfl ?_
  intro p e s m args below meth c s₁ B hml hv
  obtain ⟨rfl, hK, hP, hD, hw⟩ := hv
  have hts := atoms_spec (ws := Cond.code y cc maxL ret :: TBg) B.pre
  have hl := lv_entry Pa (n := maxL) hlen
  rw [lg_entry_eq]
  exact body p e s m _ below meth c _ ⟨B.exec, B.bytes, hml, findClass_of_methodNamed B.named, fun w h => hts w (List.mem_cons_of_mem _ h), hK, B.notSynchronized, B.returns⟩ (name_of_methodNamed B.named B.method).1 ⟨hP, hD, va_S.rf, hw⟩ hl
