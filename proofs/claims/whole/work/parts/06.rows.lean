/-! ===== the tables' words that every method has ===== -/
def TBg : List Cond := lw_tbl.filter goodWord
theorem TBg_in {w : Cond} (h : w ∈ lw_tbl) (hg : goodWord w = true) : w ∈ TBg := List.mem_filter.mpr ⟨h, hg⟩
theorem TBg_t {w : Cond} (i : Nat) (h : tables_1[i]? = some w) (hg : goodWord w = true) : w ∈ TBg := TBg_in (List.mem_append_right _ (List.mem_of_getElem? h)) hg
theorem TBg_1 {w : Cond} (i : Nat) (h : tables_1_1[i]? = some w) (hg : goodWord w = true) : w ∈ TBg := TBg_in (List.mem_append_right _ (List.mem_append_left _ (List.mem_of_getElem? h))) hg
theorem TBg_2 {w : Cond} (i : Nat) (h : tables_1_2[i]? = some w) (hg : goodWord w = true) : w ∈ TBg := TBg_in (List.mem_append_right _ (List.mem_append_right _ (List.mem_append_left _ (List.mem_of_getElem? h)))) hg
theorem TBg_3 {w : Cond} (i : Nat) (h : tables_1_3[i]? = some w) (hg : goodWord w = true) : w ∈ TBg := TBg_in (List.mem_append_right _ (List.mem_append_right _ (List.mem_append_right _ (List.mem_append_left _ (List.mem_of_getElem? h))))) hg
theorem TBg_4 {w : Cond} (i : Nat) (h : tables_1_4[i]? = some w) (hg : goodWord w = true) : w ∈ TBg := TBg_in (List.mem_append_right _ (List.mem_append_right _ (List.mem_append_right _ (List.mem_append_right _ (List.mem_append_left _ (List.mem_of_getElem? h)))))) hg
theorem TBg_5 {w : Cond} (i : Nat) (h : tables_1_5[i]? = some w) (hg : goodWord w = true) : w ∈ TBg := TBg_in (List.mem_append_right _ (List.mem_append_right _ (List.mem_append_right _ (List.mem_append_right _ (List.mem_append_right _ (List.mem_append_left _ (List.mem_of_getElem? h))))))) hg
theorem TBg_6 {w : Cond} (i : Nat) (h : tables_1_6[i]? = some w) (hg : goodWord w = true) : w ∈ TBg := TBg_in (List.mem_append_right _ (List.mem_append_right _ (List.mem_append_right _ (List.mem_append_right _ (List.mem_append_right _ (List.mem_append_right _ (List.mem_of_getElem? h))))))) hg
theorem TBg_s {y : MethodName} {n : Nat} (i : Nat) (h : lw_privs[i]? = some (y, n)) : Cond.selects y.cls y y ∈ TBg := TBg_in (List.mem_append_left _ (List.mem_map.mpr ⟨(y, n), List.mem_of_getElem? h, rfl⟩)) rfl
theorem TBg_good : GoodIn TBg TBg := fun w h => ⟨h, good_of_word (List.mem_filter.mp h).2⟩
theorem TBg_cons {y : MethodName} {b : ByteArray} {n : Nat} {r : Option FieldType} (h : Cond.code y b n r ∈ TBg) : GoodIn TBg (Cond.code y b n r :: TBg) := fun w hw => by
  rcases List.mem_cons.mp hw with e | e
  · rw [e]; exact TBg_good _ h
  · exact TBg_good _ e
/-- links to private constructors and methods of nest mates -/
def nstW : List (String × Nat × MethodName) := [("HardwareTaskQueue", 9, yX4_init), ("HardwareTaskQueue$SetupReader", 11, yX5_init), ("HardwareTaskQueue", 18, yX3_init), ("HardwareTaskQueue$Machine", 11, yX6_init), ("HardwareTaskQueue$Machine", 20, yX0_init), ("HardwareTaskQueue$History", 24, yX3_init), ("HardwareTaskQueue$TaskTable", 66, yX7_hasBit), ("HardwareTaskQueue$SetupReader", 150, yX7_hasBit)]
def Nst (U : State) : Prop := (∀ q ∈ nstW, va_Nw (.methodLinkNest q.1 q.2.1 q.2.2 "HardwareTaskQueue") U) ∧ va_AO "HardwareTaskQueue$Machine" U ∧ va_AOA .int U
theorem Nst.warm {s U : State} (hW : s.WarmedH U.vm) (h : Nst s) : Nst U := ⟨fun q hq => va_Nw.warmM hW (h.1 q hq), va_AO.moved hW.alike h.2.1, va_AOA.moved hW.alike h.2.2⟩
/-- the literals: class, entry, text, its number; the first nine are the words of the setup text -/
def strT : List (String × Nat × String × Nat) := [("HardwareTaskQueue$SetupReader", 118, "task", 1), ("HardwareTaskQueue$SetupReader", 125, "fence", 4), ("HardwareTaskQueue$SetupReader", 130, "length", 5), ("HardwareTaskQueue$SetupReader", 135, "core", 2), ("HardwareTaskQueue$SetupReader", 137, "after", 3), ("HardwareTaskQueue$SetupReader", 163, "duration", 6), ("HardwareTaskQueue$SetupReader", 165, "priority", 7), ("HardwareTaskQueue$SetupReader", 167, "load", 8), ("HardwareTaskQueue$SetupReader", 74, "queue", 0), ("HardwareTaskQueueModel", 110, "duration", 6), ("HardwareTaskQueueModel", 116, "priority", 7), ("HardwareTaskQueueModel", 118, "core", 2), ("HardwareTaskQueueModel", 119, "load", 8), ("HardwareTaskQueueModel", 143, "after", 3), ("HardwareTaskQueueModel", 149, "task", 1), ("HardwareTaskQueueModel", 153, "fence", 4), ("HardwareTaskQueueModel", 158, "length", 5), ("HardwareTaskQueueModel", 170, "queue", 0), ("HardwareTaskQueue", 122, "no such fence", 9), ("HardwareTaskQueue", 135, "no such place in the queue", 10), ("HardwareTaskQueue", 169, "cores is not 1 to 4", 11), ("HardwareTaskQueue", 177, "cycles is not 1 to 200", 12), ("HardwareTaskQueue", 182, "the clock would exceed 100000", 13), ("HardwareTaskQueue", 188, "duration is not 1 to 99", 14), ("HardwareTaskQueue", 193, "there are 32 tasks", 15), ("HardwareTaskQueue", 199, "no such task to depend on", 16), ("HardwareTaskQueue", 207, "not an earlier task, or a predecessor already", 17), ("HardwareTaskQueue", 209, "the task is not WAITING", 18), ("HardwareTaskQueue", 211, "the task is RUNNING, DONE or CANCELLED", 19), ("HardwareTaskQueue", 222, "no such task", 20), ("HardwareTaskQueue", 224, "no such core", 21), ("HardwareTaskQueue", 226, "no setup has been loaded", 22), ("HardwareTaskQueue", 228, "priority is not 0 to 9", 23), ("HardwareTaskQueue", 230, "limit is not 0 to 500", 24), ("HardwareTaskQueue", 52, "length is not within the buffer", 25)]
def strB : List (List Int) := [[113, 117, 101, 117, 101], [116, 97, 115, 107], [99, 111, 114, 101], [97, 102, 116, 101, 114], [102, 101, 110, 99, 101], [108, 101, 110, 103, 116, 104], [100, 117, 114, 97, 116, 105, 111, 110], [112, 114, 105, 111, 114, 105, 116, 121], [108, 111, 97, 100]]
def slen (i : Nat) : Int := ((strB.getD i []).length : Int)
def xI : String := "java/lang/IllegalArgumentException"
def xS : String := "java/lang/IllegalStateException"
def xB : String := "java/lang/IndexOutOfBoundsException"
/-- literals, and what a throw asks of the tables -/
def StA (U : State) : Prop := (va_Nw (.castable xI xI) U ∧ va_Nw (.castable xS xS) U ∧ va_Nw (.castable xB xB) U) ∧ (va_Nw (.declares (Bundle.initS "java/lang/RuntimeException")) U ∧ va_Nw (.declares (Bundle.initS "java/lang/Exception")) U ∧ va_Nw (.declares (Bundle.initS "java/lang/Throwable")) U) ∧ (va_Nc xS xI U ∧ va_Nc xI xB U ∧ va_Nc xS xB U)
def StB (g : GP) (U : State) : Prop := ∀ q ∈ strT, vk_R q.1 q.2.1 q.2.2.1 (g.2.2.2.1 q.2.2.2) U
def StC (g : GP) (U : State) (H : Heap) : Prop := (∀ i : Nat, i < 9 → va_O "java/lang/String" (g.2.2.2.1 i) (gA g) U H ∧ va_OF "java/lang/String" "coder" "B" (.int 0) (g.2.2.2.1 i) (gA g) U H ∧ va_OF "java/lang/String" "value" "[B" (.ref (g.2.2.2.2 i)) (g.2.2.2.1 i) (gA g) U H ∧ va_T .byte (g.2.2.2.2 i) (strB.getD i []).length (fun j => .int (Int32.ofInt ((strB.getD i []).getD j 0))) (gA g) U H) ∧
  (va_Z "java/lang/String" "COMPACT_STRINGS" "Z" (.int 1) (gA g) U H ∧ va_Zq "jdk/internal/util/Preconditions" "SIOOBE_FORMATTER" "Ljava/util/function/BiFunction;" (gA g) U H) ∧ vx_Zq Bundle.tN "UNASSIGNED_STACK" Bundle.steD (gA g) U H ∧ vx_Zq Bundle.tN "SUPPRESSED_SENTINEL" Bundle.listD (gA g) U H
theorem castable_warm {a b : String} {s U : State} (hW : s.WarmedH U.vm) (h : va_Nw (.castable a b) s) : va_Nw (.castable a b) U := va_tabs rfl (rfl : (s.setVm U.vm).vm = U.vm) (by rw [Cond.castable_setVm hW.alike]; exact h)
theorem StA.warm {s U : State} (hW : s.WarmedH U.vm) (h : StA s) : StA U := ⟨⟨castable_warm hW h.1.1, castable_warm hW h.1.2.1, castable_warm hW h.1.2.2⟩, ⟨va_Nw.warmD hW h.2.1.1, va_Nw.warmD hW h.2.1.2.1, va_Nw.warmD hW h.2.1.2.2⟩, ⟨h.2.2.1.moved hW.alike, h.2.2.2.1.moved hW.alike, h.2.2.2.2.moved hW.alike⟩⟩
theorem StC.go {g : GP} {s U : State} {H H1 : Heap} (hvm : s.vm.Alike U.vm) (hq : ∀ a : Nat, a < H.size → ¬ gA g a → H1[a]? = H[a]?) (h : StC g s H) : StC g U H1 :=
  ⟨fun i hi => ⟨((h.1 i hi).1.moved hvm).kept hq, ((h.1 i hi).2.1.moved hvm).kept hq, ((h.1 i hi).2.2.1.moved hvm).kept hq, ((h.1 i hi).2.2.2.moved hvm).kept hq⟩, ⟨(h.2.1.1.moved hvm).kept hq, (h.2.1.2.moved hvm).kept hq⟩, (h.2.2.1.moved hvm).kept hq, (h.2.2.2.moved hvm).kept hq⟩
def Sts (g : GP) (U : State) : Prop := StA U ∧ StB g U ∧ StC g U U.heap
theorem Sts.go {g : GP} {s U : State} {locs : List Loc} (hW : s.WarmedH U.vm) (hS : va_S (gA g) s.heap U.heap locs) (h : Sts g s) : Sts g U := ⟨h.1.warm hW, fun q hq => (h.2.1 q hq).warm hW, h.2.2.go hW.alike hS.2.1⟩
/-- what the tables say at every state of the run -/
def Kf (g : GP) (U : State) : Prop := va_K g.1 vwCl (tysOf g) U ∧ Nst U ∧ Sts g U ∧ g.2.2.1 ≤ U.heap.size
theorem Kf.go {g : GP} {s U : State} {locs : List Loc} (hW : s.WarmedH U.vm) (hS : va_S (gA g) s.heap U.heap locs) (h : Kf g s) : Kf g U :=
  ⟨va_K.moved hW.alike h.1, h.2.1.warm hW, h.2.2.1.go hW hS, Nat.le_trans h.2.2.2 hS.1⟩
/-- the frame of a body: machine, code, words, tables -/
def Cx (g : GP) (p : Program) (s : State) (m : MethodId) (args : Array Value) (meth : Method) (c : Code) (cc : ByteArray) (nL : Nat) (own : String) (ret : Option FieldType) : Prop :=
  p.tables.exec = Jvm.exec ∧ c.code = cc ∧ c.maxLocals = nL ∧ s.vm.findClass own = some m.cls ∧ (∀ w ∈ TBg, w.before args s = true) ∧ Kf g s ∧ meth.locks = false ∧ meth.sig.returnType = ret
/-- a method's start: arguments, tables, the heap h -/
def PcN (g : GP) (ad : Nat → Nat) (h : PH) (av : List Value) : Array Value → State → Prop := fun v U => v = av.toArray ∧ Kf g U ∧ va_P g.1 vwCl (wsOf g ad h) U.heap ∧ va_D (gA g) (wsOf g ad h) ∧ wfH h
/-- its end: the answer, the heap h' -/
def QcN (g : GP) (ad : Nat → Nat) (h' : PH) (rv : Option Value) : Array Value → State → Outcome → State → Prop := fun _ st o t => o = .returned rv ∧ (va_P g.1 vwCl (wsOf g ad h') t.heap ∧ va_D (gA g) (wsOf g ad h') ∧ wfH h') ∧ va_F (gA g) st t
/-- .. where cells are made: the map grows -/
def QcA (g : GP) (ad : Nat → Nat) (h h' : PH) (rv : (Nat → Nat) → Option Value) : Array Value → State → Outcome → State → Prop := fun _ st o t => ∃ ad' : Nat → Nat, (∀ k, k < h.length → ad' k = ad k) ∧ o = .returned (rv ad') ∧ (va_P g.1 vwCl (wsOf g ad' h') t.heap ∧ va_D (gA g) (wsOf g ad' h') ∧ wfH h') ∧ va_F (gA g) st t
theorem PcN_blind {g : GP} {ad : Nat → Nat} {h : PH} {av : List Value} : FrameBlind (PcN g ad h av) := fun a U gg mk q => ⟨q.1, Kf.go (s := U) (U := U.calling gg mk a) (locs := []) (State.WarmedH.refl U) va_S.rf q.2.1, q.2.2⟩
abbrev CN (g : GP) (l : Launch) (y : MethodName) (cc : ByteArray) (maxL : Nat) (ret : Option FieldType) (rm : Room) (ad : Nat → Nat) (h : PH) (av : List Value) (rv : Option Value) (h' : PH) : Prop :=
  Met l y (Cond.code y cc maxL ret :: TBg) rm (PcN g ad h av) (QcN g ad h' rv) rm.cells rm.slots (gA g)
abbrev CA (g : GP) (l : Launch) (y : MethodName) (cc : ByteArray) (maxL : Nat) (ret : Option FieldType) (rm : Room) (ad : Nat → Nat) (h : PH) (av : List Value) (rv : (Nat → Nat) → Option Value) (h' : PH) : Prop :=
  Met l y (Cond.code y cc maxL ret :: TBg) rm (PcN g ad h av) (QcA g ad h h' rv) rm.cells rm.slots (gA g)
/-- a field's link -/
def FlG (own : String) (index ci k : Nat) (ty : FieldType) (fin : Bool) : Prop := ∃ (cn : String) (T : u_T) (N : Nat) (ty0 : Nat → FieldType), vwCl[ci]? = some (cn, T, N) ∧ (∀ w ∈ u_ws cn T N, w ∈ TBg) ∧ k < N ∧ Cond.fieldLink own index (T k).1 (T k).2.1 (T k).2.2.1 ∈ TBg ∧ (∀ k, k < N → parseFieldDescriptor (T k).2.2.1 = some (ty0 k)) ∧ (∀ a, a < N → ∀ b, b < N → a ≠ b → (T a).2.1 ≠ (T b).2.1) ∧ ty0 k = ty ∧ (T k).2.2.2 = fin ∧ ci < 9
/-- .. for a store: a final field is the class's own -/
def FlP (own : String) (index ci k : Nat) (ty : FieldType) (fin : Bool) : Prop := FlG own index ci k ty fin ∧ (fin = true → ∀ (cn : String) (T : u_T) (N : Nat), vwCl[ci]? = some (cn, T, N) → (T k).1 = own)
/-- a static call's link -/
def SlP (own : String) (index : Nat) (y : MethodName) (b : ByteArray) (maxL : Nat) (ret : Option FieldType) (n : Nat) : Prop := Cond.methodLink own index y ∈ TBg ∧ Cond.static y ∈ TBg ∧ Cond.initialized y.cls ∈ TBg ∧ Cond.code y b maxL ret ∈ TBg ∧ y.cls ≠ "java/lang/invoke/MethodHandle" ∧ y.cls ≠ "java/lang/invoke/VarHandle" ∧ (parseMethodDescriptor y.desc).map (fun d => d.parameters.length) = some n
/-- a virtual call's link -/
def VlP (own : String) (index : Nat) (y : MethodName) (b : ByteArray) (maxL : Nat) (ret : Option FieldType) (n ci : Nat) : Prop := Cond.methodLink own index y ∈ TBg ∧ Cond.instanceMethod y ∈ TBg ∧ Cond.selects y.cls y y ∈ TBg ∧ Cond.initialized y.cls ∈ TBg ∧ Cond.code y b maxL ret ∈ TBg ∧ y.cls ≠ "java/lang/invoke/MethodHandle" ∧ y.cls ≠ "java/lang/invoke/VarHandle" ∧ (parseMethodDescriptor y.desc).map (fun d => d.parameters.length) = some n ∧ (∃ T N, vwCl[ci]? = some (y.cls, T, N)) ∧ ci < 9
section PW
variable {p : Program} {l : Launch} {e : Env} {R : Room} {s : State} {m : MethodId} {args : Array Value} {below : List Frame} {meth : Method} {c : Code} {H : Heap} {locs : List Loc} {cells slots : Nat} {Q : State → Prop}
variable {cc : ByteArray} {pc : Nat} {ls : Array Slot} {rest : List Value} {g : GP} {ad : Nat → Nat} {h h' : PH} {own : String} {nL : Nat} {ret : Option FieldType}
theorem Rl.mk1 {H1 : Heap} {locs1 : List Loc} {a : Nat} {c0 : PC} (hR : Rl g ad h s.heap H locs) (e : wfH (h.set a c0)) (h1 : va_P g.1 vwCl ((wsOf g ad h).set a (ad a, cv g ad c0)) H1) (h2 : va_D (gA g) ((wsOf g ad h).set a (ad a, cv g ad c0))) (h3 : va_S (gA g) s.heap H1 locs1) : Rl g ad (h.set a c0) s.heap H1 locs1 := by
  rw [wsOf_set] at h1 h2
  exact ⟨h1, h2, h3, e⟩
theorem pw_hA (C : Cx g p s m args meth c cc nL own ret) : ∀ q, s.heap.size ≤ q → gA g q := fun q hq => Nat.le_trans C.2.2.2.2.2.1.2.2.2 hq
/-- getfield of a number -/
theorem pw_gfi (C : Cx g p s m args meth c cc nL own ret) (hR : Rl g ad h s.heap H locs) {ci k a index : Nat} {x : Int} {ty : FieldType} {fin : Bool} (e1 : gfi h ci a k = some x) (F : FlG own index ci k ty fin) (hdg : decode cc pc = .ok (.getfield index, 3))
    (kk : W p l e R s m args below meth c H locs cells slots Q (F0 m (pc + 3) ls (.int (Int32.ofInt x) :: rest))) : W p l e R s m args below meth c H locs cells slots Q (F0 m pc ls (.ref (ad a) :: rest)) := by
  obtain ⟨fs, g1, g2⟩ := gfi_spec e1
  obtain ⟨cn, T, N, ty0, f1, f2, f3, f4, f5, f6, f7, f8, f10⟩ := F
  have hw := wsOf_get (g := g) (ad := ad) g1
  simp only [cv, if_pos f10] at hw
  exact va_get C.1 C.2.1 C.2.2.2.2.1 f2 C.2.2.2.1 C.2.2.2.2.2.1.1 hR.1 a hw f1 k f3 (C.2.2.2.2.1 _ f4) (fun _ q => q) (v := .int (Int32.ofInt x)) (by rw [List.getElem?_map, g2]; rfl) hdg kk
/-- getfield of a reference -/
theorem pw_gfr (C : Cx g p s m args meth c cc nL own ret) (hR : Rl g ad h s.heap H locs) {ci k a index x : Nat} {ty : FieldType} {fin : Bool} (e1 : gfr h ci a k = some x) (F : FlG own index ci k ty fin) (hdg : decode cc pc = .ok (.getfield index, 3))
    (kk : W p l e R s m args below meth c H locs cells slots Q (F0 m (pc + 3) ls (.ref (ad x) :: rest))) : W p l e R s m args below meth c H locs cells slots Q (F0 m pc ls (.ref (ad a) :: rest)) := by
  obtain ⟨fs, g1, g2⟩ := gfr_spec e1
  obtain ⟨cn, T, N, ty0, f1, f2, f3, f4, f5, f6, f7, f8, f10⟩ := F
  have hw := wsOf_get (g := g) (ad := ad) g1
  simp only [cv, if_pos f10] at hw
  exact va_get C.1 C.2.1 C.2.2.2.2.1 f2 C.2.2.2.1 C.2.2.2.2.2.1.1 hR.1 a hw f1 k f3 (C.2.2.2.2.1 _ f4) (fun _ q => q) (v := .ref (ad x)) (by rw [List.getElem?_map, g2]; rfl) hdg kk
theorem pw_putx (C : Cx g p s m args meth c cc nL own ret) (hR : Rl g ad h s.heap H locs) {ci k a index : Nat} {v : PV} {fs : List PV} {ty : FieldType} {fin : Bool} (g1 : h[a]? = some (.inr (ci, fs))) (hk : k < fs.length) (hv : ∀ x, v = .inr (some x) → x < h.length) (F : FlP own index ci k ty fin) (hfin : fin = false ∨ meth.name = "<init>") (hn : narrow ty (vl ad v) = vl ad v) (hfit : fits ty (vl ad v) = true) (hdg : decode cc pc = .ok (.putfield index, 3))
    (kk : ∀ (H1 : Heap) (locs1 : List Loc), Rl g ad (h.set a (.inr (ci, fs.set k v))) s.heap H1 locs1 → W p l e R s m args below meth c H1 locs1 cells slots Q (F0 m (pc + 3) ls rest)) : W p l e R s m args below meth c H locs cells slots Q (F0 m pc ls (vl ad v :: .ref (ad a) :: rest)) := by
  obtain ⟨⟨cn, T, N, ty0, f1, f2, f3, f4, f5, f6, f7, f8, f10⟩, f9⟩ := F
  have hw := wsOf_get (g := g) (ad := ad) g1
  simp only [cv, if_pos f10] at hw
  have key : ∀ (H1 : Heap) (locs1 : List Loc), va_P g.1 vwCl ((wsOf g ad h).set a (ad a, .inr (ci, (fs.map (vl ad)).set k (vl ad v)))) H1 → va_D (gA g) ((wsOf g ad h).set a (ad a, .inr (ci, (fs.map (vl ad)).set k (vl ad v)))) → va_S (gA g) s.heap H1 locs1 → W p l e R s m args below meth c H1 locs1 cells slots Q (F0 m (pc + 3) ls rest) := by
    intro H1 locs1 h1 h2 h3
    have hc : (.inr (ci, (fs.map (vl ad)).set k (vl ad v)) : va_E) = cv g ad (.inr (ci, fs.set k v)) := by
      simp only [cv, if_pos f10, List.map_set]
    rw [hc] at h1 h2
    exact kk H1 locs1 (hR.mk1 (wfH_set_fld hR.2.2.2 g1 hv) h1 h2 h3)
  have hd : parseFieldDescriptor (T k).2.2.1 = some ty := by rw [f5 k f3, f7]
  cases fin with
  | false => exact va_put C.1 C.2.1 C.2.2.2.2.1 f2 ty0 f5 f6 C.2.2.2.1 C.2.2.2.2.2.1.1 hR.1 hR.2.1 hR.2.2.1 a hw f1 k f3 (C.2.2.2.2.1 _ f4) (fun _ q => q) f8 hd hn hfit (by rw [List.length_map]; exact hk) hdg key
  | true =>
    have hm : meth.name = "<init>" := by rcases hfin with q | q; cases q; exact q
    exact va_putF C.1 C.2.1 C.2.2.2.2.1 f2 ty0 f5 f6 C.2.2.2.1 C.2.2.2.2.2.1.1 hR.1 hR.2.1 hR.2.2.1 a hw f1 k f3 (C.2.2.2.2.1 _ f4) (fun _ q => q) f8 hm (f9 rfl _ _ _ f1) hd hn hfit (by rw [List.length_map]; exact hk) hdg key
/-- putfield of an int -/
theorem pw_pfi (C : Cx g p s m args meth c cc nL own ret) (hR : Rl g ad h s.heap H locs) {ci k a index : Nat} {x : Int} {fin : Bool} (e1 : pfi h ci a k x = some h') (F : FlP own index ci k .int fin) (hfin : fin = false ∨ meth.name = "<init>") (hdg : decode cc pc = .ok (.putfield index, 3))
    (kk : ∀ (H1 : Heap) (locs1 : List Loc), Rl g ad h' s.heap H1 locs1 → W p l e R s m args below meth c H1 locs1 cells slots Q (F0 m (pc + 3) ls rest)) : W p l e R s m args below meth c H locs cells slots Q (F0 m pc ls (.int (Int32.ofInt x) :: .ref (ad a) :: rest)) := by
  obtain ⟨fs, g1, g2, rfl⟩ := pfi_spec e1
  exact pw_putx (v := .inl x) C hR g1 g2 (fun _ q => by cases q) F hfin rfl rfl hdg kk
/-- putfield of a boolean -/
theorem pw_pfz (C : Cx g p s m args meth c cc nL own ret) (hR : Rl g ad h s.heap H locs) {ci k a index : Nat} {x : Int} {fin : Bool} (e1 : pfi h ci a k x = some h') (hx : x = 0 ∨ x = 1) (F : FlP own index ci k .boolean fin) (hfin : fin = false ∨ meth.name = "<init>") (hdg : decode cc pc = .ok (.putfield index, 3))
    (kk : ∀ (H1 : Heap) (locs1 : List Loc), Rl g ad h' s.heap H1 locs1 → W p l e R s m args below meth c H1 locs1 cells slots Q (F0 m (pc + 3) ls rest)) : W p l e R s m args below meth c H locs cells slots Q (F0 m pc ls (.int (Int32.ofInt x) :: .ref (ad a) :: rest)) := by
  obtain ⟨fs, g1, g2, rfl⟩ := pfi_spec e1
  rcases hx with rfl | rfl
  · exact pw_putx (v := .inl 0) C hR g1 g2 (fun _ q => by cases q) F hfin rfl rfl hdg kk
  · exact pw_putx (v := .inl 1) C hR g1 g2 (fun _ q => by cases q) F hfin rfl rfl hdg kk
/-- putfield of a reference -/
theorem pw_pfr (C : Cx g p s m args meth c cc nL own ret) (hR : Rl g ad h s.heap H locs) {ci k a index x : Nat} {ty : FieldType} {fin : Bool} (e1 : pfr h ci a k x = some h') (F : FlP own index ci k ty fin) (hty : ty.isReference = true) (hfin : fin = false ∨ meth.name = "<init>") (hdg : decode cc pc = .ok (.putfield index, 3))
    (kk : ∀ (H1 : Heap) (locs1 : List Loc), Rl g ad h' s.heap H1 locs1 → W p l e R s m args below meth c H1 locs1 cells slots Q (F0 m (pc + 3) ls rest)) : W p l e R s m args below meth c H locs cells slots Q (F0 m pc ls (.ref (ad x) :: .ref (ad a) :: rest)) := by
  obtain ⟨fs, g1, g2, g3, rfl⟩ := pfr_spec e1
  have hn : narrow ty (.ref (ad x)) = .ref (ad x) := by cases ty <;> first | rfl | cases hty
  have hf : fits ty (.ref (ad x)) = true := by cases ty <;> first | rfl | cases hty
  exact pw_putx (v := .inr (some x)) C hR g1 g2 (fun _ q => by cases q; exact g3) F hfin hn hf hdg kk
theorem nat_o32 {i : Int} {n : Nat} (h0 : 0 ≤ i) (h1 : i < (n : Int)) (hn : n < 2147483648) : (Int32.ofInt i).toNatClampNeg = i.toNat := by
  show (Int32.ofInt i).toInt.toNat = i.toNat
  have h : w32 i = i := w32_eq (by omega) (by omega)
  unfold w32 at h
  rw [h]
theorem vp_in_o32 {i : Int} {n : Nat} (h0 : 0 ≤ i) (h1 : i < (n : Int)) (hn : n < 2147483648) : vp_in (Int32.ofInt i) n := by
  have h : w32 i = i := w32_eq (by omega) (by omega)
  intro q
  rcases q with q | q
  · rw [Int32.lt_iff_toInt_lt] at q
    have : w32 i < 0 := q
    omega
  · rw [nat_o32 h0 h1 hn] at q
    omega
end PW
