section PW
variable {p : Program} {l : Launch} {e : Env} {R : Room} {s : State} {m : MethodId} {args : Array Value} {below : List Frame} {meth : Method} {c : Code} {H : Heap} {locs : List Loc} {cells slots : Nat} {Q : State → Prop}
variable {cc : ByteArray} {pc : Nat} {ls : Array Slot} {rest : List Value} {g : GP} {ad : Nat → Nat} {h h' : PH} {own : String} {nL : Nat} {ret : Option FieldType}
theorem atS_of {X : String} {ic : Nat} (C : Cx g p s m args meth c cc nL RX7 ret) (hin : ∀ w ∈ (vx_atS RX7 ic X xNames).filter goodWord, w ∈ tables_1) (hB : ∀ w ∈ (vx_atS RX7 ic X xNames).filter (fun w => !goodWord w), w ∈ [Cond.castable X X, .declares (Bundle.initS "java/lang/RuntimeException"), .declares (Bundle.initS "java/lang/Exception"), .declares (Bundle.initS "java/lang/Throwable")]) (hc : va_Nw (.castable X X) s) : ∀ w ∈ vx_atS RX7 ic X xNames, w.before args s = true :=
  vx_hat (fun w hw => C.2.2.2.2.1 w (TBg_in (List.mem_append_right _ (hin w hw)) (List.mem_filter.mp hw).2)) hB (vx_c (va_Nw.use rfl hc) (vx_c (va_Nw.use rfl C.stA.2.1.1) (vx_c (va_Nw.use rfl C.stA.2.1.2.1) (vx_c (va_Nw.use rfl C.stA.2.1.2.2) vx_n))))
set_option maxRecDepth 100000 in
theorem thB_cl : Cond.classLink RX7 120 xB ∈ TBg := TBg_3 155 rfl rfl
set_option maxRecDepth 100000 in
theorem thB_ini : Cond.initialized xB ∈ TBg := TBg_1 21 rfl rfl
set_option maxRecDepth 100000 in
theorem thB_no : ∀ w ∈ (vx_atS RX7 124 xB xNames).filter (fun w => !goodWord w), w ∈ [Cond.castable xB xB, .declares (Bundle.initS "java/lang/RuntimeException"), .declares (Bundle.initS "java/lang/Exception"), .declares (Bundle.initS "java/lang/Throwable")] := by decide +kernel
set_option maxRecDepth 100000 in
theorem thB_ot : ∀ w ∈ Cond.classLink RX7 120 xB :: Cond.initialized xB :: vx_atS RX7 124 xB xNames, vx_ot w = true := by decide +kernel
/-- throw new xB("..") -/
theorem pw_thB {mc ms i is : Nat} {Qc : Array Value → State → Outcome → State → Prop} {tx : String} (C : Cx g p s m args meth c cc nL RX7 ret) (hR : Rl g ad h s.heap H locs) (hst : l.stackTraces = false) (hout : ∀ x ∈ c.exceptionTable.toList, False) (hq : (RX7, is, tx, i) ∈ strT) (hsz : ls.size = nL)
    (d0 : decode cc pc = .ok (.new 120, 3)) (d3 : decode cc (pc + 3) = .ok (.dup, 1)) (d4 : decode cc (pc + 4) = .ok (.ldc is, 2)) (d6 : decode cc (pc + 6) = .ok (.invokespecial 124, 3)) (d9 : decode cc (pc + 9) = .ok (.athrow, 1))
    (h1 : 5 < R.frames) (h2 : (rest.map fun v => v.category).sum + 82 ≤ R.locals) (h3 : cells + 1 ≤ R.cells) (h4 : slots + 6 ≤ R.slots) (hc : cells + 1 ≤ mc) (hs : slots + 6 ≤ ms) :
    W p l e R s m args below meth c H locs cells slots (vx_MQ below Qc (XcT g ad 1 h) args s mc ms (gA g)) (F0 m pc ls rest) := by
  refine vx_throwS (cls := xB) (names := xNames) (A := gA g) (sa := g.2.2.2.1 i) C.1 C.2.1 hst C.2.2.2.1 (by decide +kernel) (by decide +kernel) (C.2.2.2.2.1 _ thB_cl) (C.2.2.2.2.1 _ thB_ini) (C.stB _ hq) (atS_of C thB_in thB_no C.stA.1.2.2) thB_ot C.stC.2.2.1 C.stC.2.2.2 hR.2.2.1 (hsz.trans C.2.2.1.symm) d0 d3 d4 d6 d9 (fun x hx => (hout x hx).elim) h1 h2 h3 h4 C.2.2.2.2.2.2.1 ?_ hR.2.2.1.2.2 hc hs
  intro t hvm hz hk
  refine ⟨by decide, rfl, ⟨hR.1.kept (fun k q hq => hk _ (hR.1 k q hq).lt), hR.2.1, hR.2.2.2⟩, Nat.le_trans hR.2.2.1.1 hz, fun q h1 h2 => ?_⟩
  rw [hk q (Nat.lt_of_lt_of_le h1 hR.2.2.1.1)]
  exact hR.2.2.1.2.1 q h1 h2
set_option maxRecDepth 100000 in
theorem thI_cl : Cond.classLink RX7 50 xI ∈ TBg := TBg_2 148 rfl rfl
set_option maxRecDepth 100000 in
theorem thI_ini : Cond.initialized xI ∈ TBg := TBg_1 13 rfl rfl
set_option maxRecDepth 100000 in
theorem thI_no : ∀ w ∈ (vx_atS RX7 54 xI xNames).filter (fun w => !goodWord w), w ∈ [Cond.castable xI xI, .declares (Bundle.initS "java/lang/RuntimeException"), .declares (Bundle.initS "java/lang/Exception"), .declares (Bundle.initS "java/lang/Throwable")] := by decide +kernel
set_option maxRecDepth 100000 in
theorem thI_ot : ∀ w ∈ Cond.classLink RX7 50 xI :: Cond.initialized xI :: vx_atS RX7 54 xI xNames, vx_ot w = true := by decide +kernel
/-- throw new xI("..") -/
theorem pw_thI {mc ms i is : Nat} {Qc : Array Value → State → Outcome → State → Prop} {tx : String} (C : Cx g p s m args meth c cc nL RX7 ret) (hR : Rl g ad h s.heap H locs) (hst : l.stackTraces = false) (hout : ∀ x ∈ c.exceptionTable.toList, False) (hq : (RX7, is, tx, i) ∈ strT) (hsz : ls.size = nL)
    (d0 : decode cc pc = .ok (.new 50, 3)) (d3 : decode cc (pc + 3) = .ok (.dup, 1)) (d4 : decode cc (pc + 4) = .ok (.ldc is, 2)) (d6 : decode cc (pc + 6) = .ok (.invokespecial 54, 3)) (d9 : decode cc (pc + 9) = .ok (.athrow, 1))
    (h1 : 5 < R.frames) (h2 : (rest.map fun v => v.category).sum + 82 ≤ R.locals) (h3 : cells + 1 ≤ R.cells) (h4 : slots + 6 ≤ R.slots) (hc : cells + 1 ≤ mc) (hs : slots + 6 ≤ ms) :
    W p l e R s m args below meth c H locs cells slots (vx_MQ below Qc (XcT g ad 2 h) args s mc ms (gA g)) (F0 m pc ls rest) := by
  refine vx_throwS (cls := xI) (names := xNames) (A := gA g) (sa := g.2.2.2.1 i) C.1 C.2.1 hst C.2.2.2.1 (by decide +kernel) (by decide +kernel) (C.2.2.2.2.1 _ thI_cl) (C.2.2.2.2.1 _ thI_ini) (C.stB _ hq) (atS_of C thI_in thI_no C.stA.1.1) thI_ot C.stC.2.2.1 C.stC.2.2.2 hR.2.2.1 (hsz.trans C.2.2.1.symm) d0 d3 d4 d6 d9 (fun x hx => (hout x hx).elim) h1 h2 h3 h4 C.2.2.2.2.2.2.1 ?_ hR.2.2.1.2.2 hc hs
  intro t hvm hz hk
  refine ⟨by decide, rfl, ⟨hR.1.kept (fun k q hq => hk _ (hR.1 k q hq).lt), hR.2.1, hR.2.2.2⟩, Nat.le_trans hR.2.2.1.1 hz, fun q h1 h2 => ?_⟩
  rw [hk q (Nat.lt_of_lt_of_le h1 hR.2.2.1.1)]
  exact hR.2.2.1.2.1 q h1 h2
set_option maxRecDepth 100000 in
theorem thS_cl : Cond.classLink RX7 180 xS ∈ TBg := TBg_4 118 rfl rfl
set_option maxRecDepth 100000 in
theorem thS_ini : Cond.initialized xS ∈ TBg := TBg_1 23 rfl rfl
set_option maxRecDepth 100000 in
theorem thS_no : ∀ w ∈ (vx_atS RX7 184 xS xNames).filter (fun w => !goodWord w), w ∈ [Cond.castable xS xS, .declares (Bundle.initS "java/lang/RuntimeException"), .declares (Bundle.initS "java/lang/Exception"), .declares (Bundle.initS "java/lang/Throwable")] := by decide +kernel
set_option maxRecDepth 100000 in
theorem thS_ot : ∀ w ∈ Cond.classLink RX7 180 xS :: Cond.initialized xS :: vx_atS RX7 184 xS xNames, vx_ot w = true := by decide +kernel
/-- throw new xS("..") -/
theorem pw_thS {mc ms i is : Nat} {Qc : Array Value → State → Outcome → State → Prop} {tx : String} (C : Cx g p s m args meth c cc nL RX7 ret) (hR : Rl g ad h s.heap H locs) (hst : l.stackTraces = false) (hout : ∀ x ∈ c.exceptionTable.toList, False) (hq : (RX7, is, tx, i) ∈ strT) (hsz : ls.size = nL)
    (d0 : decode cc pc = .ok (.new 180, 3)) (d3 : decode cc (pc + 3) = .ok (.dup, 1)) (d4 : decode cc (pc + 4) = .ok (.ldc is, 2)) (d6 : decode cc (pc + 6) = .ok (.invokespecial 184, 3)) (d9 : decode cc (pc + 9) = .ok (.athrow, 1))
    (h1 : 5 < R.frames) (h2 : (rest.map fun v => v.category).sum + 82 ≤ R.locals) (h3 : cells + 1 ≤ R.cells) (h4 : slots + 6 ≤ R.slots) (hc : cells + 1 ≤ mc) (hs : slots + 6 ≤ ms) :
    W p l e R s m args below meth c H locs cells slots (vx_MQ below Qc (XcT g ad 3 h) args s mc ms (gA g)) (F0 m pc ls rest) := by
  refine vx_throwS (cls := xS) (names := xNames) (A := gA g) (sa := g.2.2.2.1 i) C.1 C.2.1 hst C.2.2.2.1 (by decide +kernel) (by decide +kernel) (C.2.2.2.2.1 _ thS_cl) (C.2.2.2.2.1 _ thS_ini) (C.stB _ hq) (atS_of C thS_in thS_no C.stA.1.2.1) thS_ot C.stC.2.2.1 C.stC.2.2.2 hR.2.2.1 (hsz.trans C.2.2.1.symm) d0 d3 d4 d6 d9 (fun x hx => (hout x hx).elim) h1 h2 h3 h4 C.2.2.2.2.2.2.1 ?_ hR.2.2.1.2.2 hc hs
  intro t hvm hz hk
  refine ⟨by decide, rfl, ⟨hR.1.kept (fun k q hq => hk _ (hR.1 k q hq).lt), hR.2.1, hR.2.2.2⟩, Nat.le_trans hR.2.2.1.1 hz, fun q h1 h2 => ?_⟩
  rw [hk q (Nat.lt_of_lt_of_le h1 hR.2.2.1.1)]
  exact hR.2.2.1.2.1 q h1 h2
theorem pw_cST {y : MethodName} {b : ByteArray} {maxL n index k : Nat} {r : Option FieldType} {rm : Room} {As st0 : List Value} (C : Cx g p s m args meth c cc nL own ret) (hR : Rl g ad h s.heap H locs) (S : SlP own index y b maxL r n) (hM : CT g l y b maxL r rm ad h As k none h') (h0 : rm.cells = 1 ∧ rm.slots = 6) (hn : As.length = n) (hsz : ls.size = nL) (hst : st0 = As.reverse ++ rest) (hroom : rm.frames + 1 ≤ R.frames ∧ 8 + (maxL + 11) + rm.locals ≤ R.locals) (hcat : (rest.map fun v => v.category).sum ≤ 8) (hdg : decode cc pc = .ok (.invokestatic index, 3)) (hf : cells + 1 ≤ R.cells ∧ slots + 6 ≤ R.slots)
    (kk : k = 0 → ∀ (H1 : Heap) (locs1 : List Loc), Rl g ad h' s.heap H1 locs1 → W p l e R s m args below meth c H1 locs1 (cells + 1) (slots + 6) Q (F0 m (pc + 3) ls rest))
    (kx : k ≠ 0 → ∀ (H1 : Heap) (locs1 : List Loc) (q : Addr) (ce : Cell), Rl g ad h' s.heap H1 locs1 → H1[q]? = some ce → ce.vm = .none → s.vm.findClass (exn k) = some ce.cls → vx_W p l e R s m args below meth c H1 locs1 (cells + 1) (slots + 6) Q (F0 m pc ls rest) q) : W p l e R s m args below meth c H locs cells slots Q (F0 m pc ls st0) := by
  refine pw_callT hR (pw_runST C hR S hM hn hsz hst hroom hcat hdg ⟨by rw [h0.1]; exact hf.1, by rw [h0.2]; exact hf.2⟩) ?_ ?_
  · rw [h0.1, h0.2]; exact kk
  · rw [h0.1, h0.2]; exact kx
theorem pw_cVT {y : MethodName} {b : ByteArray} {maxL n index ci o k : Nat} {fs : List PV} {r : Option FieldType} {rm : Room} {As st0 : List Value} (C : Cx g p s m args meth c cc nL own ret) (hR : Rl g ad h s.heap H locs) (S : VlP own index y b maxL r n ci) (ho : h[o]? = some (.inr (ci, fs))) (hM : CT g l y b maxL r rm ad h (.ref (ad o) :: As) k none h') (h0 : rm.cells = 1 ∧ rm.slots = 6) (hn : As.length = n) (hsz : ls.size = nL) (hst : st0 = As.reverse ++ .ref (ad o) :: rest) (hroom : rm.frames + 1 ≤ R.frames ∧ 8 + (maxL + 11) + rm.locals ≤ R.locals) (hcat : (rest.map fun v => v.category).sum ≤ 8) (hdg : decode cc pc = .ok (.invokevirtual index, 3)) (hf : cells + 1 ≤ R.cells ∧ slots + 6 ≤ R.slots)
    (kk : k = 0 → ∀ (H1 : Heap) (locs1 : List Loc), Rl g ad h' s.heap H1 locs1 → W p l e R s m args below meth c H1 locs1 (cells + 1) (slots + 6) Q (F0 m (pc + 3) ls rest))
    (kx : k ≠ 0 → ∀ (H1 : Heap) (locs1 : List Loc) (q : Addr) (ce : Cell), Rl g ad h' s.heap H1 locs1 → H1[q]? = some ce → ce.vm = .none → s.vm.findClass (exn k) = some ce.cls → vx_W p l e R s m args below meth c H1 locs1 (cells + 1) (slots + 6) Q (F0 m pc ls rest) q) : W p l e R s m args below meth c H locs cells slots Q (F0 m pc ls st0) := by
  refine pw_callT hR (pw_runVT C hR S ho hM hn hsz hst hroom hcat hdg ⟨by rw [h0.1]; exact hf.1, by rw [h0.2]; exact hf.2⟩) ?_ ?_
  · rw [h0.1, h0.2]; exact kk
  · rw [h0.1, h0.2]; exact kx
end PW
/-- a contract out of the walk of a body that may throw -/
theorem pw_metT {g : GP} {l : Launch} {y : MethodName} {cc : ByteArray} {maxL : Nat} {ret : Option FieldType} {rm : Room} {Pa : List Value} {ad : Nat → Nat} {h : PH} {Qc : Array Value → State → Outcome → State → Prop} {XC : String → State → State → Prop} (hy : plainName y.cls = true) (hlen : (lg_sl Pa).length ≤ maxL)
    (body : ∀ (p : Program) (e : Env) (s : State) (m : MethodId) (args : Array Value) (below : List Frame) (meth : Method) (c : Code) (ls : Array Slot), Cx g p s m args meth c cc maxL y.cls ret → (∀ x ∈ c.exceptionTable.toList, False) → Rl g ad h s.heap s.heap [] → lv_has ls maxL (lv_args 0 Pa) →
      W p l e rm s m args below meth c s.heap [] 0 0 (vx_MQ below Qc XC args s rm.cells rm.slots (gA g)) (F0 m 0 ls [])) :
    vx_Met l y (Cond.code y cc maxL ret :: TBg) rm (PcN g ad h Pa) Qc XC rm.cells rm.slots (gA g) := by
  refine vx_ofW (cc := cc) (maxL := maxL) (ret := ret) hy rfl ?_
  intro p e s m args below meth c s₁ B hml hout hv
  obtain ⟨rfl, hK, hP, hD, hw⟩ := hv
  have hts := atoms_spec (ws := Cond.code y cc maxL ret :: TBg) B.pre
  have hl := lv_entry Pa (n := maxL) hlen
  rw [lg_entry_eq]
  exact body p e s m _ below meth c _ ⟨B.exec, B.bytes, hml, findClass_of_methodNamed B.named, fun w h => hts w (List.mem_cons_of_mem _ h), hK, B.notSynchronized, B.returns⟩ hout ⟨hP, hD, va_S.rf, hw⟩ hl
