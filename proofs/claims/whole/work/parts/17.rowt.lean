/-! ===== methods that may throw ===== -/
def exn (k : Nat) : String := if k = 1 then xB else if k = 2 then xI else xS
def QcT (g : GP) (ad : Nat → Nat) (k : Nat) (h' : PH) (rv : Option Value) : Array Value → State → Outcome → State → Prop := fun a st o t => k = 0 ∧ QcN g ad h' rv a st o t
def XcT (g : GP) (ad : Nat → Nat) (k : Nat) (h' : PH) : String → State → State → Prop := fun E st t => k ≠ 0 ∧ E = exn k ∧ (va_P g.1 vwCl (wsOf g ad h') t.heap ∧ va_D (gA g) (wsOf g ad h') ∧ wfH h') ∧ va_F (gA g) st t
abbrev CT (g : GP) (l : Launch) (y : MethodName) (cc : ByteArray) (maxL : Nat) (ret : Option FieldType) (rm : Room) (ad : Nat → Nat) (h : PH) (av : List Value) (k : Nat) (rv : Option Value) (h' : PH) : Prop :=
  vx_Met l y (Cond.code y cc maxL ret :: TBg) rm (PcN g ad h av) (QcT g ad k h' rv) (XcT g ad k h') rm.cells rm.slots (gA g)
section PW
variable {p : Program} {l : Launch} {e : Env} {R : Room} {s : State} {m : MethodId} {args : Array Value} {below : List Frame} {meth : Method} {c : Code} {H : Heap} {locs : List Loc} {cells slots : Nat} {Q : State → Prop}
variable {cc : ByteArray} {pc : Nat} {ls : Array Slot} {rest : List Value} {g : GP} {ad : Nat → Nat} {h h' : PH} {own : String} {nL : Nat} {ret : Option FieldType}
theorem pw_callT {mc ms k : Nat} {st0 : List Value} {a : Array Value} {rv : Option Value} (hR : Rl g ad h s.heap H locs) (hr : vx_Run p l e R s m args below meth c H locs cells slots mc ms (F0 m pc ls st0) rest (QcT g ad k h' rv a) (XcT g ad k h') (gA g))
    (kk : k = 0 → ∀ (H1 : Heap) (locs1 : List Loc), Rl g ad h' s.heap H1 locs1 → W p l e R s m args below meth c H1 locs1 (cells + mc) (slots + ms) Q (F0 m (pc + 3) ls (rv.toList ++ rest)))
    (kx : k ≠ 0 → ∀ (H1 : Heap) (locs1 : List Loc) (q : Addr) (ce : Cell), Rl g ad h' s.heap H1 locs1 → H1[q]? = some ce → ce.vm = .none → s.vm.findClass (exn k) = some ce.cls → vx_W p l e R s m args below meth c H1 locs1 (cells + mc) (slots + ms) Q (F0 m pc ls rest) q) :
    W p l e R s m args below meth c H locs cells slots Q (F0 m pc ls st0) := by
  intro T hT X
  rcases hr T hT X with ⟨v, st₀, t, T', L, h0, X', hL, e1, e2, ⟨hk, hv, ⟨hp, hd, hw⟩, hF⟩, st⟩ | ⟨q, st₀, t, T', L, E, ce, h0, X', hL, e1, e2, ⟨hk, rfl, ⟨hp, hd, hw⟩, hF⟩, hce, hcv, hcl, st⟩
  · cases hv
    obtain ⟨k1, k2, k3⟩ := vx_keep (A0 := gA g) (H0 := s.heap) h0 e1 hR.2.2.1 (fun _ _ z => z) (fun _ z => z) hL hF
    obtain ⟨t2, a1, b1⟩ := kk hk T'.heap (locs ++ L) ⟨by rw [e1]; exact hp, hd, k3, hw⟩ T' rfl X'
    exact ⟨t2, st t2 a1, b1⟩
  · obtain ⟨k1, k2, k3⟩ := vx_keep (A0 := gA g) (H0 := s.heap) h0 e1 hR.2.2.1 (fun _ _ z => z) (fun _ z => z) hL hF
    obtain ⟨t2, a1, b1⟩ := kx hk T'.heap (locs ++ L) q ce ⟨by rw [e1]; exact hp, hd, k3, hw⟩ (by rw [e1]; exact hce) hcv hcl T' rfl X'
    exact ⟨t2, st.trans a1, b1⟩
/-- not caught: it goes on to the caller -/
theorem pw_thru {k mc ms : Nat} {rv : Option Value} {q : Addr} {ce : Cell} (C : Cx g p s m args meth c cc nL own ret) (hR : Rl g ad h s.heap H locs) (hk : k ≠ 0) (hout : ∀ x ∈ c.exceptionTable.toList, False) (h1 : H[q]? = some ce) (h2 : ce.vm = .none) (h3 : s.vm.findClass (exn k) = some ce.cls) (hc : cells ≤ mc) (hs : slots ≤ ms) :
    vx_W p l e R s m args below meth c H locs cells slots (vx_MQ below (QcT g ad k h rv) (XcT g ad k h) args s mc ms (gA g)) (F0 m pc ls rest) q :=
  vx_out (fun x hx => (hout x hx).elim) C.2.2.2.2.2.2.1 h1 h2 h3 (fun t ht _ => ⟨hk, rfl, ⟨by rw [ht]; exact hR.1, hR.2.1, hR.2.2.2⟩, hR.2.2.1.F ht⟩) hR.2.2.1.2.2 hc hs
theorem pw_runVT {y : MethodName} {b : ByteArray} {maxL n index ci o : Nat} {fs : List PV} {r : Option FieldType} {rm : Room} {Qc : Array Value → State → Outcome → State → Prop} {XC : String → State → State → Prop} {As st0 : List Value} (C : Cx g p s m args meth c cc nL own ret) (hR : Rl g ad h s.heap H locs) (S : VlP own index y b maxL r n ci) (ho : h[o]? = some (.inr (ci, fs)))
    (hM : vx_Met l y (Cond.code y b maxL r :: TBg) rm (PcN g ad h (.ref (ad o) :: As)) Qc XC rm.cells rm.slots (gA g)) (hn : As.length = n) (hsz : ls.size = nL) (hst : st0 = As.reverse ++ .ref (ad o) :: rest) (hroom : rm.frames + 1 ≤ R.frames ∧ 8 + (maxL + 11) + rm.locals ≤ R.locals) (hcat : (rest.map fun v => v.category).sum ≤ 8) (hdg : decode cc pc = .ok (.invokevirtual index, 3)) (hf : cells + rm.cells ≤ R.cells ∧ slots + rm.slots ≤ R.slots) :
    vx_Run p l e R s m args below meth c H locs cells slots rm.cells rm.slots (F0 m pc ls st0) rest (Qc (Value.ref (ad o) :: As).toArray) XC (gA g) := by
  obtain ⟨s1, s2, s3, s4, s5, s6, s7, s8, ⟨T, N, s9⟩, s10⟩ := S
  have hw := wsOf_get (g := g) (ad := ad) ho
  simp only [cv, if_pos s10] at hw
  have hp := pw_pre C hR (.ref (ad o) :: As)
  exact vx_runV (C := y.cls) (As := As) (rest := rest) (pw_fix C) hM ⟨callB_of n C.2.2.2.2.1 (TBg_cons s5) rfl rfl rfl (C.2.2.2.2.1 _ s4) (C.2.2.2.2.1 _ s1) ⟨s6, s7, s8⟩ hroom, C.2.2.2.2.1 _ s2, C.2.2.2.2.1 _ s3⟩ ⟨hp.1, va_recv C.2.2.2.2.2.1.1 hR.1 (ci := ci) (q0 := o) s9 hw, hp.2⟩ rfl hn hsz hst (lv_room hcat) hdg hf
theorem pw_runST {y : MethodName} {b : ByteArray} {maxL n index : Nat} {r : Option FieldType} {rm : Room} {Qc : Array Value → State → Outcome → State → Prop} {XC : String → State → State → Prop} {As st0 : List Value} (C : Cx g p s m args meth c cc nL own ret) (hR : Rl g ad h s.heap H locs) (S : SlP own index y b maxL r n)
    (hM : vx_Met l y (Cond.code y b maxL r :: TBg) rm (PcN g ad h As) Qc XC rm.cells rm.slots (gA g)) (hn : As.length = n) (hsz : ls.size = nL) (hst : st0 = As.reverse ++ rest) (hroom : rm.frames + 1 ≤ R.frames ∧ 8 + (maxL + 11) + rm.locals ≤ R.locals) (hcat : (rest.map fun v => v.category).sum ≤ 8) (hdg : decode cc pc = .ok (.invokestatic index, 3)) (hf : cells + rm.cells ≤ R.cells ∧ slots + rm.slots ≤ R.slots) :
    vx_Run p l e R s m args below meth c H locs cells slots rm.cells rm.slots (F0 m pc ls st0) rest (Qc As.toArray) XC (gA g) := by
  obtain ⟨s1, s2, s3, s4, s5, s6, s7⟩ := S
  exact vx_runS (As := As) (rest := rest) (pw_fix C) hM ⟨callB_of n C.2.2.2.2.1 (TBg_cons s4) rfl rfl rfl (C.2.2.2.2.1 _ s3) (C.2.2.2.2.1 _ s1) ⟨s5, s6, s7⟩ hroom, C.2.2.2.2.1 _ s2⟩ (pw_pre C hR As) rfl hn hsz hst (lv_room hcat) hdg hf
theorem pw_qT (hR : Rl g ad h s.heap H locs) {rv : Option Value} {a : Array Value} : ∀ t : State, t.heap = H → s.WarmedH t.vm → QcT g ad 0 h rv a s (.returned rv) t := fun t ht hW => ⟨rfl, pw_q hR t ht hW⟩
theorem pw_iretT {XC : String → State → State → Prop} {mc ms : Nat} (C : Cx g p s m args meth c cc nL own (some .int)) (hR : Rl g ad h s.heap H locs) {x : Int} (hc : cells ≤ mc) (hs : slots ≤ ms) (hdg : decode cc pc = .ok (.ireturn, 1)) : W p l e R s m args below meth c H locs cells slots (vx_MQ below (QcT g ad 0 h (some (.int (Int32.ofInt x)))) XC args s mc ms (gA g)) (F0 m pc ls [.int (Int32.ofInt x)]) :=
  W.widen hc hs (vx_ret (W.iret C.1 C.2.1 C.2.2.2.2.2.2.2 (pw_qT hR) hR.2.2.1.2.2 hdg C.2.2.2.2.2.2.1))
theorem pw_zretT {XC : String → State → State → Prop} {mc ms : Nat} (C : Cx g p s m args meth c cc nL own (some .boolean)) (hR : Rl g ad h s.heap H locs) {x : Int} (hx : x = 0 ∨ x = 1) (hc : cells ≤ mc) (hs : slots ≤ ms) (hdg : decode cc pc = .ok (.ireturn, 1)) : W p l e R s m args below meth c H locs cells slots (vx_MQ below (QcT g ad 0 h (some (.int (Int32.ofInt x)))) XC args s mc ms (gA g)) (F0 m pc ls [.int (Int32.ofInt x)]) :=
  W.widen hc hs (vx_ret (W.zret C.1 C.2.1 C.2.2.2.2.2.2.2 (nar_boolv hx) (pw_qT hR) hR.2.2.1.2.2 hdg C.2.2.2.2.2.2.1))
theorem pw_vretT {XC : String → State → State → Prop} {mc ms : Nat} (C : Cx g p s m args meth c cc nL own none) (hR : Rl g ad h s.heap H locs) (hc : cells ≤ mc) (hs : slots ≤ ms) (hdg : decode cc pc = .ok (.return_, 1)) : W p l e R s m args below meth c H locs cells slots (vx_MQ below (QcT g ad 0 h none) XC args s mc ms (gA g)) (F0 m pc ls []) :=
  W.widen hc hs (vx_ret (W.vret C.1 C.2.1 C.2.2.2.2.2.2.2 (pw_qT hR) hR.2.2.1.2.2 hdg C.2.2.2.2.2.2.1))
end PW
def xNames : List String := ["java/lang/RuntimeException", "java/lang/Exception"]
set_option maxRecDepth 100000 in
set_option maxHeartbeats 4000000 in
theorem thI_in : ∀ w ∈ (vx_atS RX7 54 xI xNames).filter goodWord, w ∈ tables_1 := by decide +kernel
set_option maxRecDepth 100000 in
set_option maxHeartbeats 4000000 in
theorem thB_in : ∀ w ∈ (vx_atS RX7 124 xB xNames).filter goodWord, w ∈ tables_1 := by decide +kernel
set_option maxRecDepth 100000 in
set_option maxHeartbeats 4000000 in
theorem thS_in : ∀ w ∈ (vx_atS RX7 184 xS xNames).filter goodWord, w ∈ tables_1 := by decide +kernel
