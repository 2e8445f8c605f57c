section PW
variable {p : Program} {l : Launch} {e : Env} {R : Room} {s : State} {m : MethodId} {args : Array Value} {below : List Frame} {meth : Method} {c : Code} {H : Heap} {locs : List Loc} {cells slots : Nat} {Q : State → Prop}
variable {cc : ByteArray} {pc : Nat} {ls : Array Slot} {rest : List Value} {g : GP} {ad : Nat → Nat} {h h' : PH} {own : String} {nL : Nat} {ret : Option FieldType}
theorem pw_cSi {y : MethodName} {b : ByteArray} {maxL n index : Nat} {r : Option FieldType} {rm : Room} {x : Int} {As st0 : List Value} (C : Cx g p s m args meth c cc nL own ret) (hR : Rl g ad h s.heap H locs) (S : SlP own index y b maxL r n) (hM : CN g l y b maxL r rm ad h As (some (.int (Int32.ofInt x))) h') (h0 : rm.cells = 0 ∧ rm.slots = 0) (hn : As.length = n) (hsz : ls.size = nL) (hst : st0 = As.reverse ++ rest) (hroom : rm.frames + 1 ≤ R.frames ∧ 8 + (maxL + 11) + rm.locals ≤ R.locals) (hcat : (rest.map fun v => v.category).sum ≤ 8) (hdg : decode cc pc = .ok (.invokestatic index, 3)) (hf : cells ≤ R.cells ∧ slots ≤ R.slots)
    (kk : ∀ (H1 : Heap) (locs1 : List Loc), Rl g ad h' s.heap H1 locs1 → W p l e R s m args below meth c H1 locs1 cells slots Q (F0 m (pc + 3) ls (.int (Int32.ofInt x) :: rest))) : W p l e R s m args below meth c H locs cells slots Q (F0 m pc ls st0) := by
  refine pw_call hR (pw_runS C hR S hM hn hsz hst hroom hcat hdg ⟨by rw [h0.1]; exact hf.1, by rw [h0.2]; exact hf.2⟩) ?_
  rw [h0.1, h0.2]
  exact kk
theorem pw_cVi {y : MethodName} {b : ByteArray} {maxL n index ci o : Nat} {fs : List PV} {r : Option FieldType} {rm : Room} {x : Int} {As st0 : List Value} (C : Cx g p s m args meth c cc nL own ret) (hR : Rl g ad h s.heap H locs) (S : VlP own index y b maxL r n ci) (ho : h[o]? = some (.inr (ci, fs))) (hM : CN g l y b maxL r rm ad h (.ref (ad o) :: As) (some (.int (Int32.ofInt x))) h') (h0 : rm.cells = 0 ∧ rm.slots = 0) (hn : As.length = n) (hsz : ls.size = nL) (hst : st0 = As.reverse ++ .ref (ad o) :: rest) (hroom : rm.frames + 1 ≤ R.frames ∧ 8 + (maxL + 11) + rm.locals ≤ R.locals) (hcat : (rest.map fun v => v.category).sum ≤ 8) (hdg : decode cc pc = .ok (.invokevirtual index, 3)) (hf : cells ≤ R.cells ∧ slots ≤ R.slots)
    (kk : ∀ (H1 : Heap) (locs1 : List Loc), Rl g ad h' s.heap H1 locs1 → W p l e R s m args below meth c H1 locs1 cells slots Q (F0 m (pc + 3) ls (.int (Int32.ofInt x) :: rest))) : W p l e R s m args below meth c H locs cells slots Q (F0 m pc ls st0) := by
  refine pw_call hR (pw_runV C hR S ho hM hn hsz hst hroom hcat hdg ⟨by rw [h0.1]; exact hf.1, by rw [h0.2]; exact hf.2⟩) ?_
  rw [h0.1, h0.2]
  exact kk
theorem pw_cNi {y : MethodName} {b : ByteArray} {maxL n index : Nat} {r : Option FieldType} {rm : Room} {x : Int} {As st0 : List Value} (C : Cx g p s m args meth c cc nL own ret) (hR : Rl g ad h s.heap H locs) (hq : (own, index, y) ∈ nstW) (S : Cond.static y ∈ TBg ∧ Cond.initialized y.cls ∈ TBg ∧ Cond.code y b maxL r ∈ TBg ∧ y.cls ≠ "java/lang/invoke/MethodHandle" ∧ y.cls ≠ "java/lang/invoke/VarHandle" ∧ (parseMethodDescriptor y.desc).map (fun d => d.parameters.length) = some n) (hM : CN g l y b maxL r rm ad h As (some (.int (Int32.ofInt x))) h') (h0 : rm.cells = 0 ∧ rm.slots = 0) (hn : As.length = n) (hsz : ls.size = nL) (hst : st0 = As.reverse ++ rest) (hroom : rm.frames + 1 ≤ R.frames ∧ 8 + (maxL + 11) + rm.locals ≤ R.locals) (hcat : (rest.map fun v => v.category).sum ≤ 8) (hdg : decode cc pc = .ok (.invokestatic index, 3)) (hf : cells ≤ R.cells ∧ slots ≤ R.slots)
    (kk : ∀ (H1 : Heap) (locs1 : List Loc), Rl g ad h' s.heap H1 locs1 → W p l e R s m args below meth c H1 locs1 cells slots Q (F0 m (pc + 3) ls (.int (Int32.ofInt x) :: rest))) : W p l e R s m args below meth c H locs cells slots Q (F0 m pc ls st0) := by
  refine pw_call hR (pw_runSN C hR hq S hM hn hsz hst hroom hcat hdg ⟨by rw [h0.1]; exact hf.1, by rw [h0.2]; exact hf.2⟩) ?_
  rw [h0.1, h0.2]
  exact kk
theorem pw_cSl {y : MethodName} {b : ByteArray} {maxL n index : Nat} {r : Option FieldType} {rm : Room} {x : Int} {As st0 : List Value} (C : Cx g p s m args meth c cc nL own ret) (hR : Rl g ad h s.heap H locs) (S : SlP own index y b maxL r n) (hM : CN g l y b maxL r rm ad h As (some (.long (Int64.ofInt x))) h') (h0 : rm.cells = 0 ∧ rm.slots = 0) (hn : As.length = n) (hsz : ls.size = nL) (hst : st0 = As.reverse ++ rest) (hroom : rm.frames + 1 ≤ R.frames ∧ 8 + (maxL + 11) + rm.locals ≤ R.locals) (hcat : (rest.map fun v => v.category).sum ≤ 8) (hdg : decode cc pc = .ok (.invokestatic index, 3)) (hf : cells ≤ R.cells ∧ slots ≤ R.slots)
    (kk : ∀ (H1 : Heap) (locs1 : List Loc), Rl g ad h' s.heap H1 locs1 → W p l e R s m args below meth c H1 locs1 cells slots Q (F0 m (pc + 3) ls (.long (Int64.ofInt x) :: rest))) : W p l e R s m args below meth c H locs cells slots Q (F0 m pc ls st0) := by
  refine pw_call hR (pw_runS C hR S hM hn hsz hst hroom hcat hdg ⟨by rw [h0.1]; exact hf.1, by rw [h0.2]; exact hf.2⟩) ?_
  rw [h0.1, h0.2]
  exact kk
theorem pw_cVl {y : MethodName} {b : ByteArray} {maxL n index ci o : Nat} {fs : List PV} {r : Option FieldType} {rm : Room} {x : Int} {As st0 : List Value} (C : Cx g p s m args meth c cc nL own ret) (hR : Rl g ad h s.heap H locs) (S : VlP own index y b maxL r n ci) (ho : h[o]? = some (.inr (ci, fs))) (hM : CN g l y b maxL r rm ad h (.ref (ad o) :: As) (some (.long (Int64.ofInt x))) h') (h0 : rm.cells = 0 ∧ rm.slots = 0) (hn : As.length = n) (hsz : ls.size = nL) (hst : st0 = As.reverse ++ .ref (ad o) :: rest) (hroom : rm.frames + 1 ≤ R.frames ∧ 8 + (maxL + 11) + rm.locals ≤ R.locals) (hcat : (rest.map fun v => v.category).sum ≤ 8) (hdg : decode cc pc = .ok (.invokevirtual index, 3)) (hf : cells ≤ R.cells ∧ slots ≤ R.slots)
    (kk : ∀ (H1 : Heap) (locs1 : List Loc), Rl g ad h' s.heap H1 locs1 → W p l e R s m args below meth c H1 locs1 cells slots Q (F0 m (pc + 3) ls (.long (Int64.ofInt x) :: rest))) : W p l e R s m args below meth c H locs cells slots Q (F0 m pc ls st0) := by
  refine pw_call hR (pw_runV C hR S ho hM hn hsz hst hroom hcat hdg ⟨by rw [h0.1]; exact hf.1, by rw [h0.2]; exact hf.2⟩) ?_
  rw [h0.1, h0.2]
  exact kk
theorem pw_cNl {y : MethodName} {b : ByteArray} {maxL n index : Nat} {r : Option FieldType} {rm : Room} {x : Int} {As st0 : List Value} (C : Cx g p s m args meth c cc nL own ret) (hR : Rl g ad h s.heap H locs) (hq : (own, index, y) ∈ nstW) (S : Cond.static y ∈ TBg ∧ Cond.initialized y.cls ∈ TBg ∧ Cond.code y b maxL r ∈ TBg ∧ y.cls ≠ "java/lang/invoke/MethodHandle" ∧ y.cls ≠ "java/lang/invoke/VarHandle" ∧ (parseMethodDescriptor y.desc).map (fun d => d.parameters.length) = some n) (hM : CN g l y b maxL r rm ad h As (some (.long (Int64.ofInt x))) h') (h0 : rm.cells = 0 ∧ rm.slots = 0) (hn : As.length = n) (hsz : ls.size = nL) (hst : st0 = As.reverse ++ rest) (hroom : rm.frames + 1 ≤ R.frames ∧ 8 + (maxL + 11) + rm.locals ≤ R.locals) (hcat : (rest.map fun v => v.category).sum ≤ 8) (hdg : decode cc pc = .ok (.invokestatic index, 3)) (hf : cells ≤ R.cells ∧ slots ≤ R.slots)
    (kk : ∀ (H1 : Heap) (locs1 : List Loc), Rl g ad h' s.heap H1 locs1 → W p l e R s m args below meth c H1 locs1 cells slots Q (F0 m (pc + 3) ls (.long (Int64.ofInt x) :: rest))) : W p l e R s m args below meth c H locs cells slots Q (F0 m pc ls st0) := by
  refine pw_call hR (pw_runSN C hR hq S hM hn hsz hst hroom hcat hdg ⟨by rw [h0.1]; exact hf.1, by rw [h0.2]; exact hf.2⟩) ?_
  rw [h0.1, h0.2]
  exact kk
theorem pw_cSv {y : MethodName} {b : ByteArray} {maxL n index : Nat} {r : Option FieldType} {rm : Room}  {As st0 : List Value} (C : Cx g p s m args meth c cc nL own ret) (hR : Rl g ad h s.heap H locs) (S : SlP own index y b maxL r n) (hM : CN g l y b maxL r rm ad h As none h') (h0 : rm.cells = 0 ∧ rm.slots = 0) (hn : As.length = n) (hsz : ls.size = nL) (hst : st0 = As.reverse ++ rest) (hroom : rm.frames + 1 ≤ R.frames ∧ 8 + (maxL + 11) + rm.locals ≤ R.locals) (hcat : (rest.map fun v => v.category).sum ≤ 8) (hdg : decode cc pc = .ok (.invokestatic index, 3)) (hf : cells ≤ R.cells ∧ slots ≤ R.slots)
    (kk : ∀ (H1 : Heap) (locs1 : List Loc), Rl g ad h' s.heap H1 locs1 → W p l e R s m args below meth c H1 locs1 cells slots Q (F0 m (pc + 3) ls (rest))) : W p l e R s m args below meth c H locs cells slots Q (F0 m pc ls st0) := by
  refine pw_call hR (pw_runS C hR S hM hn hsz hst hroom hcat hdg ⟨by rw [h0.1]; exact hf.1, by rw [h0.2]; exact hf.2⟩) ?_
  rw [h0.1, h0.2]
  exact kk
theorem pw_cVv {y : MethodName} {b : ByteArray} {maxL n index ci o : Nat} {fs : List PV} {r : Option FieldType} {rm : Room}  {As st0 : List Value} (C : Cx g p s m args meth c cc nL own ret) (hR : Rl g ad h s.heap H locs) (S : VlP own index y b maxL r n ci) (ho : h[o]? = some (.inr (ci, fs))) (hM : CN g l y b maxL r rm ad h (.ref (ad o) :: As) none h') (h0 : rm.cells = 0 ∧ rm.slots = 0) (hn : As.length = n) (hsz : ls.size = nL) (hst : st0 = As.reverse ++ .ref (ad o) :: rest) (hroom : rm.frames + 1 ≤ R.frames ∧ 8 + (maxL + 11) + rm.locals ≤ R.locals) (hcat : (rest.map fun v => v.category).sum ≤ 8) (hdg : decode cc pc = .ok (.invokevirtual index, 3)) (hf : cells ≤ R.cells ∧ slots ≤ R.slots)
    (kk : ∀ (H1 : Heap) (locs1 : List Loc), Rl g ad h' s.heap H1 locs1 → W p l e R s m args below meth c H1 locs1 cells slots Q (F0 m (pc + 3) ls (rest))) : W p l e R s m args below meth c H locs cells slots Q (F0 m pc ls st0) := by
  refine pw_call hR (pw_runV C hR S ho hM hn hsz hst hroom hcat hdg ⟨by rw [h0.1]; exact hf.1, by rw [h0.2]; exact hf.2⟩) ?_
  rw [h0.1, h0.2]
  exact kk
theorem pw_cNv {y : MethodName} {b : ByteArray} {maxL n index : Nat} {r : Option FieldType} {rm : Room}  {As st0 : List Value} (C : Cx g p s m args meth c cc nL own ret) (hR : Rl g ad h s.heap H locs) (hq : (own, index, y) ∈ nstW) (S : Cond.static y ∈ TBg ∧ Cond.initialized y.cls ∈ TBg ∧ Cond.code y b maxL r ∈ TBg ∧ y.cls ≠ "java/lang/invoke/MethodHandle" ∧ y.cls ≠ "java/lang/invoke/VarHandle" ∧ (parseMethodDescriptor y.desc).map (fun d => d.parameters.length) = some n) (hM : CN g l y b maxL r rm ad h As none h') (h0 : rm.cells = 0 ∧ rm.slots = 0) (hn : As.length = n) (hsz : ls.size = nL) (hst : st0 = As.reverse ++ rest) (hroom : rm.frames + 1 ≤ R.frames ∧ 8 + (maxL + 11) + rm.locals ≤ R.locals) (hcat : (rest.map fun v => v.category).sum ≤ 8) (hdg : decode cc pc = .ok (.invokestatic index, 3)) (hf : cells ≤ R.cells ∧ slots ≤ R.slots)
    (kk : ∀ (H1 : Heap) (locs1 : List Loc), Rl g ad h' s.heap H1 locs1 → W p l e R s m args below meth c H1 locs1 cells slots Q (F0 m (pc + 3) ls (rest))) : W p l e R s m args below meth c H locs cells slots Q (F0 m pc ls st0) := by
  refine pw_call hR (pw_runSN C hR hq S hM hn hsz hst hroom hcat hdg ⟨by rw [h0.1]; exact hf.1, by rw [h0.2]; exact hf.2⟩) ?_
  rw [h0.1, h0.2]
  exact kk
def isO (h : PH) (c a : Nat) : Option Unit := match h[a]? with
  | some (.inr q) => if q.1 = c then some () else none
  | _ => none
theorem isO_spec {h : PH} {c a : Nat} {u : Unit} (e : isO h c a = some u) : ∃ fs : List PV, h[a]? = some (.inr (c, fs)) := by
  unfold isO at e
  split at e
  · rename_i q hq
    split at e
    · rename_i h0
      obtain ⟨c', fs⟩ := q
      cases h0
      exact ⟨fs, hq⟩
    · cases e
  · cases e
def maxI (x y : Int) : Int := if w32 x < w32 y then y else x
def minI (x y : Int) : Int := if w32 y < w32 x then y else x
def maxL64 (x y : Int) : Int := if w64 y < w64 x then x else y
def minL64 (x y : Int) : Int := if w64 y < w64 x then y else x
/-- System.arraycopy of ints, two arrays -/
def acpy (h : PH) (a : Nat) (sp : Int) (b : Nat) (dp n : Int) : Option PH := match h[a]?, h[b]? with
  | some (.inl q), some (.inl r) => if (q.1 = 0 ∧ r.1 = 0 ∧ a ≠ b) ∧ (0 ≤ sp ∧ 0 ≤ dp ∧ 0 ≤ n) ∧ sp + n ≤ (q.2.length : Int) ∧ dp + n ≤ (r.2.length : Int) then
      some (h.set b (.inl (0, r.2.take dp.toNat ++ (q.2.drop sp.toNat).take n.toNat ++ r.2.drop (dp.toNat + n.toNat)))) else none
  | _, _ => none
def FU : Nat := 5000
end PW
