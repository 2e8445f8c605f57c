section
/-! ===== BEGIN words of one list among another's, by their places ===== -/
theorem goodIn_r {big : List Cond} (ws : List Cond) (ps : List Nat) (hp : ws = ps.filterMap (fun i => big[i]?)) (h : ws.all goodWord = true) : GoodIn big ws := by
  intro w hw
  have h1 := List.all_eq_true.mp h w hw
  rw [hp] at hw
  obtain ⟨i, -, hi⟩ := List.mem_filterMap.mp hw
  have hm : w ∈ big := by first | exact List.mem_of_getElem? hi | exact List.getElem?_mem hi
  exact ⟨hm, good_of_word h1⟩
theorem goodIn_app {big a b : List Cond} (ha : GoodIn big a) (hb : GoodIn big b) : GoodIn big (a ++ b) := fun w h => (List.mem_append.mp h).elim (ha w) (hb w)
theorem goodIn_ca {big a b : List Cond} {c : Cond} (ha : GoodIn big (c :: a)) (hb : GoodIn big b) : GoodIn big (c :: (a ++ b)) := fun w h => (List.mem_cons.mp h).elim (fun e => ha w (List.mem_cons.mpr (Or.inl e))) (fun h => (List.mem_append.mp h).elim (fun h => ha w (List.mem_cons.mpr (Or.inr h))) (hb w))
theorem goodIn_sub {big ws : List Cond} (hm : ∀ w ∈ ws, w ∈ big) (h : ws.all goodWord = true) : GoodIn big ws := fun w hw => ⟨hm w hw, good_of_word (List.all_eq_true.mp h w hw)⟩
/-! ===== END ===== -/

/-- an array over arrays of ty: the twin of va_AO for an array type -/
def va_AOA (ty : FieldType) (U : State) : Prop := (Cond.arrayOver (.array ty)).before #[] U = true
theorem va_AOA.use {ty : FieldType} {A : Array Value} {U : State} (h : va_AOA ty U) : (Cond.arrayOver (.array ty)).before A U = true := h
theorem va_AOA.of {ty : FieldType} {A : Array Value} {U : State} (h : (Cond.arrayOver (.array ty)).before A U = true) : va_AOA ty U := h
theorem va_AOA.moved {ty : FieldType} {u U : State} (hvm : u.vm.Alike U.vm) (h : va_AOA ty u) : va_AOA ty U := by
  have h2 : (Cond.arrayOver (.array ty)).before #[] (u.setVm U.vm) = true := by rw [Cond.arrayOver_setVmC hvm]; exact h
  exact h2
/-! ===== BEGIN new T[n][m]: the outer array a place, the inner ones among the pooled ===== -/
/-- f, but v at every address of l -/
def vr_up {α : Type} (f : Nat → α) (l : List Nat) (v : α) : Nat → α := fun a => if a ∈ l then v else f a
theorem vr_up_in {α : Type} {f : Nat → α} {l : List Nat} {v : α} {a : Nat} (h : a ∈ l) : vr_up f l v a = v := if_pos h
theorem vr_up_ne {α : Type} {f : Nat → α} {l : List Nat} {v : α} {a : Nat} (h : a ∉ l) : vr_up f l v a = f a := if_neg h
theorem vr_rows {L l : List Nat} {f : Nat → va_E} {e : va_E} (h : ∀ a, a ∈ l → a ∉ L) : va_pl L f ++ l.map (fun a => (a, e)) = va_pl (L ++ l) (vr_up f l e) := by
  unfold va_pl
  rw [List.map_append]
  congr 1
  · apply List.map_congr_left
    intro a ha
    rw [vr_up_ne (fun q => h a q ha)]
  · apply List.map_congr_left
    intro a ha
    rw [vr_up_in ha]
theorem vr_lay {X rows : va_W} {x : Nat × va_E} {pl : va_W} {D : va_G} {cl : List vw_C} {H : Heap} (hP : va_P D cl (((X ++ pl) ++ [x]) ++ rows) H) : va_P D cl ((X ++ [x]) ++ (pl ++ rows)) H := by
  rw [List.append_assoc (X ++ pl)] at hP
  have h := va_P.swap hP
  rw [← List.append_assoc X] at h
  have h2 := va_P.swap h
  rw [List.append_assoc (X ++ [x])] at h2
  exact h2
theorem vr_layD {X rows : va_W} {x : Nat × va_E} {pl : va_W} {A : Nat → Prop} (hD : va_D A (((X ++ pl) ++ [x]) ++ rows)) : va_D A ((X ++ [x]) ++ (pl ++ rows)) := by
  rw [List.append_assoc (X ++ pl)] at hD
  have h := va_D.swap hD
  rw [← List.append_assoc X] at h
  have h2 := va_D.swap h
  rw [List.append_assoc (X ++ [x])] at h2
  exact h2
theorem vr_outer (c : ClassId) (N h0 : Nat) : ∀ i : Nat, Jvm.Free.Multi.outerC c N h0 i = arrV c N (fun j => va_rf (if j < i then some (h0 + 1 + j) else none))
  | 0 => by
    show ({ cls := c, slots := Array.replicate N .null, vm := .none } : Cell) = _
    rw [arrV_new]
    refine congrArg (arrV c N) (funext fun j => ?_)
    simp [va_rf]
  | i + 1 => by
    show (Jvm.Free.Multi.outerC c N h0 i).setSlot i (.ref (h0 + 1 + i)) = _
    rw [vr_outer c N h0 i, arrV_store]
    refine congrArg (arrV c N) (funext fun j => ?_)
    by_cases e : j = i
    · subst e
      simp [updV, va_rf]
    · by_cases h : j < i
      · simp [updV, e, h, Nat.lt_succ_of_lt h]
      · simp [updV, e, h, show ¬ j < i + 1 by omega]
section VGM
variable {p : Program} {l : Launch} {e : Env} {R : Room} {s : State} {m : MethodId} {args : Array Value} {below : List Frame} {meth : Method} {c : Code} {H : Heap} {locs : List Loc} {cells slots : Nat} {Q : State → Prop}
variable {cc : ByteArray} {pc : Nat} {ls : Array Slot} {rest : List Value} {D : va_G} {cl : List vw_C} {A : Nat → Prop} {a : Nat} {tys : List (ClassId × FieldType)} {ws : va_W} {H0 : Heap}
theorem va_mna {X : va_W} {L : List Nat} {f : Nat → va_E} {cc : ByteArray} (hexec : p.tables.exec = Jvm.exec) (hb : c.code = cc) {own : String} {index : Nat} {ty : FieldType} {cy : ClassId} (hown : s.vm.findClass own = some m.cls) (hclink : (Cond.classLink own index ("[" ++ (FieldType.array ty).toString)).before args s = true) (hover : va_AOA ty s) (harr : (Cond.arrayClass ty).before args s = true) (hcy : s.vm.findClass (FieldType.array ty).toString = some cy)
    (hK : va_K D cl tys s) (hP : va_P D cl (X ++ va_pl L f) H) (hD : va_D A (X ++ va_pl L f)) (hS : va_S A H0 H locs) (hA : ∀ q, H0.size ≤ q → A q) {n k : Int32} {N' K' : Nat} {z : vp_A} (hn : ¬ n < 0) (hk : ¬ k < 0) (hN : n.toNatClampNeg = N') (hM : k.toNatClampNeg = K')
    (hb1 : N' * 4 ≤ 536870912) (hb2 : K' * componentBytes ty ≤ 536870912) (hb3 : K' ≤ 536870912) (hdf : fits ty (defaultValue ty) = true) (hdd : (defaultValue ty).isDefault = true) (hcells : cells + (1 + N') ≤ R.cells) (hslots : slots + (N' + N' * K') ≤ R.slots) (hz : ∀ c : ClassId, Jvm.Free.Multi.innerC c K' (defaultValue ty) = vp_cell c z) (hdg : decode cc pc = .ok (.multianewarray index 2, 4))
    (kk : ∀ (q : Nat) (r : Nat → Nat) (cA : ClassId) (H1 : Heap), (∀ i j : Nat, i < N' → j < N' → r i = r j → i = j) → (∀ i : Nat, i < N' → r i ∉ L) → va_K D cl (tys ++ [(cA, .array ty)]) s →
      va_P D cl ((X ++ [(q, .inl (cA, N', .inr (.inr (.inr (.inr (fun i => if i < N' then some (r i) else none))))))]) ++ va_pl (L ++ (List.range N').map r) (vr_up f ((List.range N').map r) (.inl (cy, z)))) H1 → va_D A ((X ++ [(q, .inl (cA, N', .inr (.inr (.inr (.inr (fun i => if i < N' then some (r i) else none))))))]) ++ va_pl (L ++ (List.range N').map r) (vr_up f ((List.range N').map r) (.inl (cy, z)))) → va_S A H0 H1 locs →
      W p l e R s m args below meth c H1 locs (cells + 1 + N') (slots + N' + N' * K') Q (F0 m (pc + 4) ls (.ref q :: rest))) : W p l e R s m args below meth c H locs cells slots Q (F0 m pc ls (.int k :: .int n :: rest)) := by
  subst hN
  subst hM
  intro T hT Xs
  obtain ⟨vm₁, cA, comp, -, fA, fC, hO, -, X', step⟩ := Xs.multianewarray2F hexec hown hclink (va_AOA.use hover) harr (g := F0 m pc ls (.int k :: .int n :: rest)) rfl (by rw [hb]; exact hdg) rfl hn hk hb1 hb2 hb3 hdf hdd hcells hslots
  have ec : some cy = some comp := hcy.symm.trans fC
  cases ec
  generalize hF : Jvm.Free.Multi.fill (T.setVm vm₁) cA cy n.toNatClampNeg k.toNatClampNeg (defaultValue ty) n.toNatClampNeg = F at X' step
  have hTh : (T.setVm vm₁).heap = H := hT
  obtain ⟨f1, f2, -, -⟩ := Jvm.Free.Multi.fill_facts (T.setVm vm₁) cA cy n.toNatClampNeg k.toNatClampNeg (defaultValue ty) n.toNatClampNeg
  rw [hF, hTh] at f1 f2
  have hold : ∀ x : Nat, x < H.size → F.heap[x]? = H[x]? := fun x hx => by
    have := Jvm.Free.Multi.fill_old (T.setVm vm₁) cA cy n.toNatClampNeg k.toNatClampNeg (defaultValue ty) (a := x) (by rw [hTh]; exact hx) n.toNatClampNeg
    rw [hF, hTh] at this
    exact this
  have hrow : ∀ j : Nat, j < n.toNatClampNeg → F.heap[H.size + 1 + j]? = some (vp_cell cy z) := fun j hj => by
    have := Jvm.Free.Multi.fill_inner (T.setVm vm₁) cA cy n.toNatClampNeg k.toNatClampNeg (defaultValue ty) n.toNatClampNeg j hj
    rw [hF, hTh, hz] at this
    exact this
  have hout : Jvm.Free.Multi.outerC cA n.toNatClampNeg H.size n.toNatClampNeg = vp_cell cA (n.toNatClampNeg, .inr (.inr (.inr (.inr (fun i => if i < n.toNatClampNeg then some (H.size + 1 + i) else none))))) := by
    rw [vp_cell_q]
    exact vr_outer cA n.toNatClampNeg H.size n.toNatClampNeg
  rw [hout] at f2
  have hlt : ∀ a, a ∈ L → a < H.size := fun a ha => by
    obtain ⟨k9, hk9⟩ := va_pl_get (X := X) (f := f) ha
    exact (hP k9 _ hk9).lt
  have hnl : ∀ i : Nat, i < n.toNatClampNeg → H.size + 1 + i ∉ L := fun i _ h => by
    have := hlt _ h
    omega
  have hnm : ∀ a, a ∈ (List.range n.toNatClampNeg).map (fun i => H.size + 1 + i) → a ∉ L := fun a ha h => by
    obtain ⟨i, -, rfl⟩ := List.mem_map.mp ha
    have := hlt _ h
    omega
  have hP0 : va_P D cl (X ++ va_pl L f) F.heap := hP.kept (fun k9 x hx => hold x.1 ((hP k9 x hx).lt))
  have hP1 : va_P D cl ((X ++ va_pl L f) ++ [(H.size, .inl (cA, n.toNatClampNeg, .inr (.inr (.inr (.inr (fun i => if i < n.toNatClampNeg then some (H.size + 1 + i) else none))))))]) F.heap := hP0.app (fun k9 x hx => by
    have h0 : k9 < 1 := (List.getElem?_eq_some_iff.mp hx).1
    rw [show k9 = 0 by omega] at hx
    cases hx
    exact f2)
  have hP2 : va_P D cl (((X ++ va_pl L f) ++ [(H.size, .inl (cA, n.toNatClampNeg, .inr (.inr (.inr (.inr (fun i => if i < n.toNatClampNeg then some (H.size + 1 + i) else none))))))]) ++ ((List.range n.toNatClampNeg).map (fun i => H.size + 1 + i)).map (fun a => (a, .inl (cy, z)))) F.heap := hP1.app (fun k9 x hx => by
    obtain ⟨a, ha, rfl⟩ := List.mem_map.mp (List.mem_of_getElem? hx)
    obtain ⟨i, hi, rfl⟩ := List.mem_map.mp ha
    exact hrow i (List.mem_range.mp hi))
  have hD2 : va_D A (((X ++ va_pl L f) ++ [(H.size, .inl (cA, n.toNatClampNeg, .inr (.inr (.inr (.inr (fun i => if i < n.toNatClampNeg then some (H.size + 1 + i) else none))))))]) ++ ((List.range n.toNatClampNeg).map (fun i => H.size + 1 + i)).map (fun a => (a, .inl (cy, z)))) := by
    have hD1 := hD.push (e := .inl (cA, n.toNatClampNeg, .inr (.inr (.inr (.inr (fun i => if i < n.toNatClampNeg then some (H.size + 1 + i) else none)))))) hP rfl (hA _ hS.1)
    generalize hW1 : (X ++ va_pl L f) ++ [(H.size, .inl (cA, n.toNatClampNeg, .inr (.inr (.inr (.inr (fun i => if i < n.toNatClampNeg then some (H.size + 1 + i) else none))))))] = W1 at hD1 hP1 ⊢
    have hle : ∀ (k9 : Nat) (x : Nat × va_E), W1[k9]? = some x → x.1 ≤ H.size := fun k9 x hx => by
      rw [← hW1] at hx
      by_cases hl : k9 < (X ++ va_pl L f).length
      · rw [List.getElem?_append_left hl] at hx
        exact Nat.le_of_lt ((hP k9 x hx).lt)
      · rw [List.getElem?_append_right (by omega)] at hx
        have h0 : k9 - (X ++ va_pl L f).length < 1 := (List.getElem?_eq_some_iff.mp hx).1
        rw [show k9 - (X ++ va_pl L f).length = 0 by omega] at hx
        cases hx
        exact Nat.le_refl _
    have hr : ∀ (k9 : Nat) (x : Nat × va_E), (((List.range n.toNatClampNeg).map (fun i => H.size + 1 + i)).map (fun a => ((a, .inl (cy, z)) : Nat × va_E)))[k9]? = some x → x.1 = H.size + 1 + k9 := fun k9 x hx => by
      rw [List.getElem?_map, List.getElem?_map] at hx
      by_cases h9 : k9 < n.toNatClampNeg
      · rw [List.getElem?_range h9] at hx
        cases hx
        rfl
      · have hn0 : (List.range n.toNatClampNeg)[k9]? = none := List.getElem?_eq_none (by rw [List.length_range]; omega)
        rw [hn0] at hx
        cases hx
    refine ⟨fun i j x y hi hj hxy => ?_, fun k9 x hx => ?_⟩
    · by_cases h1 : i < W1.length <;> by_cases h2 : j < W1.length
      · rw [List.getElem?_append_left h1] at hi
        rw [List.getElem?_append_left h2] at hj
        exact hD1.1 i j x y hi hj hxy
      · rw [List.getElem?_append_left h1] at hi
        rw [List.getElem?_append_right (by omega)] at hj
        have := hle _ _ hi
        have := hr _ _ hj
        omega
      · rw [List.getElem?_append_right (by omega)] at hi
        rw [List.getElem?_append_left h2] at hj
        have := hle _ _ hj
        have := hr _ _ hi
        omega
      · rw [List.getElem?_append_right (by omega)] at hi hj
        have := hr _ _ hi
        have := hr _ _ hj
        omega
    · by_cases h1 : k9 < W1.length
      · rw [List.getElem?_append_left h1] at hx
        exact hD1.2 k9 x hx
      · rw [List.getElem?_append_right (by omega)] at hx
        have := hr _ _ hx
        exact hA _ (by have := hS.1; omega)
  have hAr : ArrOfT s cA (.array ty) := fun N9 z9 => by
    obtain ⟨-, k9, hk9, cm9, hkk9⟩ := (hO 0 0 0).1
    exact ⟨(fun q hq => by cases hq), k9, hk9, cm9, hkk9⟩
  have hK2 : va_K D cl (tys ++ [(cA, .array ty)]) s := ⟨hK.1, fun k9 x hx => by
    by_cases hl : k9 < tys.length
    · rw [List.getElem?_append_left hl] at hx
      exact hK.2 k9 x hx
    · rw [List.getElem?_append_right (by omega)] at hx
      have h0 : k9 - tys.length < 1 := (List.getElem?_eq_some_iff.mp hx).1
      rw [show k9 - tys.length = 0 by omega] at hx
      cases hx
      exact ⟨hAr, fA⟩⟩
  obtain ⟨t, a1, b1⟩ := kk H.size (fun i => H.size + 1 + i) cA F.heap (fun i j _ _ h => by have h9 : H.size + 1 + i = H.size + 1 + j := h; omega) hnl hK2 (by rw [← vr_rows hnm]; exact vr_lay hP2) (by rw [← vr_rows hnm]; exact vr_layD hD2) ⟨by rw [f1]; have := hS.1; omega, fun x h1 h2 => (hold x (Nat.lt_of_lt_of_le h1 hS.1)).trans (hS.2.1 x h1 h2), hS.2.2⟩ F rfl X'
  refine ⟨t, step t ?_, b1⟩
  have e : T.heap.size = H.size := by rw [hT]
  rw [e]
  exact a1
end VGM
/-! ===== END ===== -/

/-! ===== BEGIN exceptions that leave a method, and their catching by the caller (launches without stack traces) ===== -/
section VXA
/-! The laws vx_back, vx_callV, vx_callS, vx_callSW, vx_throw0, vx_throwS follow proofs of the library, with one case more: JvmDerived/Free/Laws.lean (Back.of_free), Shelf42/LK1.lean (callV, callS), Shelf/KitTraced.lean (throwNew0V, throwNewS). -/
/-- where a method has thrown q: the class by its name, the cell, what was written, the world -/
def vx_T (XC : String → State → State → Prop) (st : State) (q : Addr) (t : State) (mc ms : Nat) (free : Addr → Prop) : Prop :=
  ∃ (E : String) (ce : Cell) (L : List Loc), XC E st t ∧ t.heap[q]? = some ce ∧ ce.vm = .none ∧ st.vm.findClass E = some ce.cls ∧ st.WarmedH t.vm ∧ st.sameButNew ({ t with vm := st.vm } : State) L mc ms ∧ ∀ z ∈ L, free z.base
def vx_Q (Qc : Array Value → State → Outcome → State → Prop) (XC : String → State → State → Prop) (mc ms : Nat) (free : Addr → Prop) : Array Value → State → Outcome → State → Prop := fun a st o t =>
  (Qc a st o t ∧ ∃ L, FrameEnd st o t L mc ms ∧ ∀ q ∈ L, free q.base) ∨ ∃ q, o = .threw q ∧ vx_T XC st q t mc ms free
/-- a callee that returns or throws -/
def vx_Met (l : Launch) (y : MethodName) (ws : List Cond) (rm : Room) (Pc : Array Value → State → Prop) (Qc : Array Value → State → Outcome → State → Prop) (XC : String → State → State → Prop) (mc ms : Nat) (free : Addr → Prop) : Prop :=
  MetFree l y (headSpec ws rm) Pc (fun _ _ _ _ _ => True) (vx_Q Qc XC mc ms free)
def vx_Post (XC : String → State → State → Prop) (mc ms : Nat) (free : Addr → Prop) : Pt → Array Value → Addr → Pt → Prop := fun A a q B =>
  ∃ (g : JFrame) (mk : MethodId) (t : State) (L : List Loc) (E : String) (ce : Cell), B.U.heap = t.heap ∧ B.U.vm = t.vm ∧ XC E (A.U.calling g mk a) t ∧ t.heap[q]? = some ce ∧ ce.vm = .none ∧ A.U.vm.findClass E = some ce.cls ∧ B.locs = A.locs ++ L ∧ (∀ z ∈ L, free z.base) ∧ B.cells = A.cells + mc ∧ B.slots = A.slots + ms
def vx_Back (l : Launch) (R : Room) (p : Program) (e : Env) (below : List Frame) (s : State) (sargs : Array Value) (y : MethodName) (len W9 : Nat)
    (Pre : Pt → Array Value → Prop) (Post : Pt → Array Value → Option Value → Pt → Prop) (PostX : Pt → Array Value → Addr → Pt → Prop) : Prop :=
  ∀ (m : MethodId) (meth : Method) (c : Code) (A : Pt) (g : JFrame) (ig : Instr) (mk : MethodId) (a : Array Value),
    Stand p l e R s m sargs below meth c A.U A.locs A.cells A.slots → g.method = m → g.locals.size = c.maxLocals → decode c.code g.pc = .ok (ig, len) →
    2 * g.monitorRoom + (g.stack.map fun v => v.category).sum ≤ W9 → A.U.methodNamed? y = some mk → Pre A a →
    (∃ (v : Option Value) (B : Pt), Stand p l e R s m sargs below meth c B.U B.locs B.cells B.slots ∧ Post A a v B ∧
      Steps p.tables e below (doInvoke e (A.U.setTop g) [] mk a).1 (B.U.setTop { g with pc := g.pc + len, stack := v.toList ++ g.stack })) ∨
    (∃ (q : Addr) (B : Pt), Stand p l e R s m sargs below meth c B.U B.locs B.cells B.slots ∧ PostX A a q B ∧
      Steps p.tables e below (doInvoke e (A.U.setTop g) [] mk a).1 ((B.U.setTop g).pushFrame (.throwing q)))
section Payer
variable {l : Launch} {R : Room} {p : Program} {e : Env} {below : List Frame} {s : State} {sargs : Array Value} {y : MethodName} {len W9 : Nat}
theorem vx_back {ws : List Cond} {rm : Room} {Pc : Array Value → State → Prop} {Qc : Array Value → State → Outcome → State → Prop} {XC : String → State → State → Prop} {mc ms : Nat} {free : Addr → Prop} {bytes : ByteArray} {maxL : Nat} {ret : Option FieldType}
    (hM : vx_Met l y ws rm Pc Qc XC mc ms free) (hblind : FrameBlind Pc) (hrc : rm.cells = mc) (hrs : rm.slots = ms)
    (hframes : rm.frames + 1 ≤ R.frames) (hlocals : W9 + (maxL + 11) + rm.locals ≤ R.locals)
    (hws : ∀ w ∈ ws, ∀ a' U, s.WarmedH U.vm → w.before a' U = true) (hcode : Cond.code y bytes maxL ret ∈ ws) (hinit : ∀ a' U, s.WarmedH U.vm → (Cond.initialized y.cls).before a' U = true) :
    vx_Back l R p e below s sargs y len W9 (PreOf R mc ms Pc) (PostOf Qc mc ms free) (vx_Post XC mc ms free) := by
  intro m meth c A g ig mk a X hg hsize hdg hW hn hp
  have h1 : (headSpec ws rm).pre.before a A.U = true := atoms_intro fun w hw => hws w hw _ _ X.warmed
  have h2 : (Cond.code y bytes maxL ret).before a A.U = true := hws _ hcode _ _ X.warmed
  have h3 : (Cond.initialized y.cls).before a A.U = true := hinit _ _ X.warmed
  have h4 : A.cells + (headSpec ws rm).room.cells ≤ R.cells := by rw [show (headSpec ws rm).room.cells = mc from hrc]; exact hp.1
  have h5 : A.slots + (headSpec ws rm).room.slots ≤ R.slots := by rw [show (headSpec ws rm).room.slots = ms from hrs]; exact hp.2.1
  have hPc : Pc a (A.U.calling g mk a) := hblind _ _ _ _ hp.2.2
  obtain ⟨U, Ls, c0, s0⟩ := A
  dsimp only [Pt.U, Pt.locs, Pt.cells, Pt.slots] at h1 h2 h3 h4 h5 X hn hPc ⊢
  obtain ⟨methY, cY, hmY, hcY, -, hlY, -, -, -, -⟩ := Cond.code_spec hn h2
  obtain ⟨kY, hkY, -⟩ := className_of_methodNamed hn
  have hinitY : kY.init = .initialized := Cond.initialized_spec (findClass_of_methodNamed hn) hkY h3
  have h : At U g.method c below := by rw [hg]; exact X.here
  have hlocals9 : W9 + (maxL + 11) + (headSpec ws rm).room.locals ≤ R.locals := hlocals
  have happ : (headSpec ws rm).appliesLoose y e.platform (U.calling g mk a) = true :=
    Spec.appliesLoose_calling (g := g) h hdg hn hkY hinitY
      (X.room_calling (g := g) (R' := (headSpec ws rm).room) hsize hmY hcY hframes (by rw [hlY]; omega) h4 h5) h1
  obtain ⟨mid, hmid⟩ := h.above
  have hfr : (U.setTop g).frames = (.java g :: mid) ++ below := by rw [State.frames_setTop' g h.top, hmid]; rfl
  obtain ⟨o, s₂, hsteps, -, hend, hq⟩ := Steps.callFree hM p X.admits X.cas X.clock (acts := []) hfr happ hPc trivial
  have hq' : vx_Q Qc XC mc ms free a (U.calling g mk a) o s₂ := hq
  rw [State.frames_setTop' g h.top] at hend
  obtain ⟨g₀, hg0⟩ := Option.isSome_iff_exists.mp h.top
  obtain ⟨r, hr⟩ := State.topJava?_eq_some.mp hg0
  have hr' : (({ U with heap := s₂.heap, slotsUsed := s₂.slotsUsed } : State).setVm s₂.vm).frames = .java g₀ :: r := hr
  rcases hq' with ⟨hqc, L, hfe, hL⟩ | ⟨q, rfl, E, ce, L, hx, hce, hcv, hcl, hW₂, hsm, hL⟩
  · obtain ⟨⟨v, rfl⟩, hW₂, e2, q2, q3, q4, q5, q6⟩ := id hfe
    have e3 : s₂ = ({ (U.calling g mk a).setFrames s₂.frames with heap := s₂.heap, slotsUsed := s₂.slotsUsed } : State).setVm s₂.vm := by
      have : s₂ = ({ s₂ with vm := (U.calling g mk a).vm } : State).setVm s₂.vm := rfl
      rw [e2] at this
      exact this
    obtain ⟨c₂, i₂, len₂, hc₂, hd₂, hf₂⟩ := hend
    have hW' : U.WarmedH s₂.vm := hW₂
    have hcc : c₂ = c := by
      have h1 : s₂.code? g.method = U.code? g.method := by
        rw [State.code?_eq, State.code?_eq, hW'.alike.method?]
      exact Option.some.inj (hc₂.symm.trans (h1.trans h.code))
    subst hcc
    have hlen : len₂ = len := by rw [hdg] at hd₂; cases hd₂; rfl
    subst hlen
    have hs₂ : s₂ = (({ U with heap := s₂.heap, slotsUsed := s₂.slotsUsed } : State).setVm s₂.vm).setTop { g with pc := g.pc + len₂, stack := v.toList ++ g.stack } := by
      refine e3.trans ?_
      rw [hf₂, State.calling_eq h.top, State.setFrames_setFrames, State.setTop_of_frames _ hr', hr]
      rfl
    have hsame : U.sameButNew ({ U with heap := s₂.heap, slotsUsed := s₂.slotsUsed } : State) L mc ms := by
      refine ⟨?_, q2, q3, q4, q5, q6⟩
      obtain ⟨t, ht, -⟩ := State.frames_cons hr
      show ({ U with heap := s₂.heap, slotsUsed := s₂.slotsUsed } : State) = { U.setFrames U.frames with heap := s₂.heap, slotsUsed := s₂.slotsUsed }
      rw [State.setFrames_self ht]
    subst hg
    refine Or.inl ⟨v, ⟨(({ U with heap := s₂.heap, slotsUsed := s₂.slotsUsed } : State).setVm s₂.vm), Ls ++ L, c0 + mc, s0 + ms⟩,
      ⟨X.admits, X.cas, X.clock, X.frames, X.room, X.hears, X.method, X.code, (X.here.setHeapUsed s₂.heap s₂.slotsUsed).setVm hW'.alike, X.tail, State.WarmedH.trans X.warmed hW', X.limits, X.bytes, X.same.trans (hsame.setVm s.vm)⟩,
      ⟨g, mk, s₂, L, rfl, rfl, hqc, rfl, hL, rfl, rfl⟩, ?_⟩
    show Steps p.tables e below _ ((({ U with heap := s₂.heap, slotsUsed := s₂.slotsUsed } : State).setVm s₂.vm).setTop { g with pc := g.pc + len₂, stack := v.toList ++ g.stack })
    rw [← hs₂]
    exact hsteps
  · obtain ⟨e2, q2, q3, q4, q5, q6⟩ := id hsm
    have e3 : s₂ = ({ (U.calling g mk a).setFrames s₂.frames with heap := s₂.heap, slotsUsed := s₂.slotsUsed } : State).setVm s₂.vm := by
      have : s₂ = ({ s₂ with vm := (U.calling g mk a).vm } : State).setVm s₂.vm := rfl
      rw [e2] at this
      exact this
    have hf₂ : s₂.frames = .throwing q :: .java g :: U.frames.tail := hend
    have hW' : U.WarmedH s₂.vm := hW₂
    have hs₂ : s₂ = ((({ U with heap := s₂.heap, slotsUsed := s₂.slotsUsed } : State).setVm s₂.vm).setTop g).pushFrame (.throwing q) := by
      refine e3.trans ?_
      rw [hf₂, State.calling_eq h.top, State.setFrames_setFrames, State.pushFrame, State.frames_setTop _ hr', State.setTop_of_frames _ hr', State.setFrames_setFrames, hr]
      rfl
    have hsame : U.sameButNew ({ U with heap := s₂.heap, slotsUsed := s₂.slotsUsed } : State) L mc ms := by
      refine ⟨?_, q2, q3, q4, q5, q6⟩
      obtain ⟨t, ht, -⟩ := State.frames_cons hr
      show ({ U with heap := s₂.heap, slotsUsed := s₂.slotsUsed } : State) = { U.setFrames U.frames with heap := s₂.heap, slotsUsed := s₂.slotsUsed }
      rw [State.setFrames_self ht]
    subst hg
    refine Or.inr ⟨q, ⟨(({ U with heap := s₂.heap, slotsUsed := s₂.slotsUsed } : State).setVm s₂.vm), Ls ++ L, c0 + mc, s0 + ms⟩,
      ⟨X.admits, X.cas, X.clock, X.frames, X.room, X.hears, X.method, X.code, (X.here.setHeapUsed s₂.heap s₂.slotsUsed).setVm hW'.alike, X.tail, State.WarmedH.trans X.warmed hW', X.limits, X.bytes, X.same.trans (hsame.setVm s.vm)⟩,
      ⟨g, mk, s₂, L, E, ce, rfl, rfl, hx, hce, hcv, hcl, rfl, hL, rfl, rfl⟩, ?_⟩
    show Steps p.tables e below _ (((({ U with heap := s₂.heap, slotsUsed := s₂.slotsUsed } : State).setVm s₂.vm).setTop g).pushFrame (.throwing q))
    rw [← hs₂]
    exact hsteps
end Payer
section Calls
variable {p : Program} {l : Launch} {e : Env} {R : Room} {s : State} {m : MethodId} {args : Array Value} {below : List Frame} {meth : Method} {c : Code} {T : State} {locs : List Loc} {cells slots : Nat}
theorem vx_callV (X : Stand p l e R s m args below meth c T locs cells slots) (hexec : p.tables.exec = Jvm.exec) {own C : String} {index : Nat} {y : MethodName} {bytes : ByteArray} {maxL : Nat} {ret : Option FieldType}
    (hown : s.vm.findClass own = some m.cls) (hlink : (Cond.methodLink own index y).before args s = true) (hinst : (Cond.instanceMethod y).before args s = true) (hsel : (Cond.selects C y y).before args s = true)
    (hcode : (Cond.code y bytes maxL ret).before args s = true) (hy : y.cls ≠ "java/lang/invoke/MethodHandle" ∧ y.cls ≠ "java/lang/invoke/VarHandle")
    {W9 : Nat} {Pre : Pt → Array Value → Prop} {Post : Pt → Array Value → Option Value → Pt → Prop} {PostX : Pt → Array Value → Addr → Pt → Prop} (hK : vx_Back l R p e below s args y 3 W9 Pre Post PostX)
    {b : Addr} {cellB : Cell} (hcell : T.heap[b]? = some cellB) (hobj : cellB.vm.isStatics = false) (hcls : s.vm.findClass C = some cellB.cls)
    {g : JFrame} (hg : g.method = m) (hsize : g.locals.size = c.maxLocals) {argsL rest : List Value} (hlen : ∀ sig, parseMethodDescriptor y.desc = some sig → argsL.length = sig.parameters.length)
    (hstack : g.stack = argsL.reverse ++ .ref b :: rest) (hW : 2 * g.monitorRoom + (rest.map fun v => v.category).sum ≤ W9) (hdg : decode c.code g.pc = .ok (.invokevirtual index, 3))
    (hpre : ∀ vm₁, s.WarmedH vm₁ → Pre ⟨T.setVm vm₁, locs, cells, slots⟩ (Value.ref b :: argsL).toArray) :
    (∃ (v : Option Value) (vm₁ : Vm) (B : Pt), s.WarmedH vm₁ ∧ Stand p l e R s m args below meth c B.U B.locs B.cells B.slots ∧ Post ⟨T.setVm vm₁, locs, cells, slots⟩ (Value.ref b :: argsL).toArray v B ∧
      ∀ target, Steps p.tables e below (B.U.setTop { g with pc := g.pc + 3, stack := v.toList ++ rest }) target → Steps p.tables e below (T.setTop g) target) ∨
    (∃ (q : Addr) (vm₁ : Vm) (B : Pt), s.WarmedH vm₁ ∧ Stand p l e R s m args below meth c B.U B.locs B.cells B.slots ∧ PostX ⟨T.setVm vm₁, locs, cells, slots⟩ (Value.ref b :: argsL).toArray q B ∧
      Steps p.tables e below (T.setTop g) ((B.U.setTop { g with stack := rest }).pushFrame (.throwing q))) := by
  obtain ⟨mk, methM, hnamed, hmethM, hstM, habM⟩ := Cond.instanceMethod_spec hinst
  obtain ⟨methM', cM, hmethM', -, -, -, -, -, -, hsigM⟩ := Cond.code_spec hnamed hcode
  cases hmethM.symm.trans hmethM'
  obtain ⟨c2, r2, m2, q1, q2, q3, q4, kP, hkP, hkPi⟩ := Cond.selects_spec hsel
  cases hcls.symm.trans q1
  cases (State.methodFound?_of_named hnamed hy).symm.trans q2
  cases hnamed.symm.trans q3
  have hselP : selectMethod e.platform s.vm cellB.cls mk = .method mk := by rw [Launch.admits_selectMethod X.admits]; exact q4
  obtain ⟨vm₁, X₁, hstep₁⟩ := X.invokevirtual hexec hown hlink hnamed hmethM hstM hkP hkPi hy (a := b) (cell := cellB) hcell
    (fun z h => by rw [h] at hobj; cases hobj) hselP hmethM habM hkP hkPi (g := g) hg (argsL := argsL) (rest := rest) (hlen _ hsigM) hstack hdg
  rcases hK m meth c ⟨T.setVm vm₁, locs, cells, slots⟩ { g with stack := rest } (.invokevirtual index) mk (Value.ref b :: argsL).toArray X₁ hg hsize hdg hW (X₁.named hnamed) (hpre vm₁ X₁.warmed) with ⟨v, B, X', hpost, hsteps⟩ | ⟨q, B, X', hpost, hsteps⟩
  · exact Or.inl ⟨v, vm₁, B, X₁.warmed, X', hpost, fun target h => hstep₁ _ fun acts => by rw [doInvoke_state]; exact hsteps.trans h⟩
  · exact Or.inr ⟨q, vm₁, B, X₁.warmed, X', hpost, hstep₁ _ fun acts => by rw [doInvoke_state]; exact hsteps⟩
theorem vx_callS (X : Stand p l e R s m args below meth c T locs cells slots) (hexec : p.tables.exec = Jvm.exec) {own : String} {index : Nat} {y : MethodName} {bytes : ByteArray} {maxL : Nat} {ret : Option FieldType}
    (hown : s.vm.findClass own = some m.cls) (hlink : (Cond.methodLink own index y).before args s = true) (hstat : (Cond.static y).before args s = true) (hinit : (Cond.initialized y.cls).before args s = true)
    (hcode : (Cond.code y bytes maxL ret).before args s = true) (hy : y.cls ≠ "java/lang/invoke/MethodHandle" ∧ y.cls ≠ "java/lang/invoke/VarHandle")
    {W9 : Nat} {Pre : Pt → Array Value → Prop} {Post : Pt → Array Value → Option Value → Pt → Prop} {PostX : Pt → Array Value → Addr → Pt → Prop} (hK : vx_Back l R p e below s args y 3 W9 Pre Post PostX)
    {g : JFrame} (hg : g.method = m) (hsize : g.locals.size = c.maxLocals) {argsL rest : List Value} (hlen : ∀ sig, parseMethodDescriptor y.desc = some sig → argsL.length = sig.parameters.length)
    (hstack : g.stack = argsL.reverse ++ rest) (hW : 2 * g.monitorRoom + (rest.map fun v => v.category).sum ≤ W9) (hdg : decode c.code g.pc = .ok (.invokestatic index, 3))
    (hpre : ∀ vm₁, s.WarmedH vm₁ → Pre ⟨T.setVm vm₁, locs, cells, slots⟩ argsL.toArray) :
    (∃ (v : Option Value) (vm₁ : Vm) (B : Pt), s.WarmedH vm₁ ∧ Stand p l e R s m args below meth c B.U B.locs B.cells B.slots ∧ Post ⟨T.setVm vm₁, locs, cells, slots⟩ argsL.toArray v B ∧
      ∀ target, Steps p.tables e below (B.U.setTop { g with pc := g.pc + 3, stack := v.toList ++ rest }) target → Steps p.tables e below (T.setTop g) target) ∨
    (∃ (q : Addr) (vm₁ : Vm) (B : Pt), s.WarmedH vm₁ ∧ Stand p l e R s m args below meth c B.U B.locs B.cells B.slots ∧ PostX ⟨T.setVm vm₁, locs, cells, slots⟩ argsL.toArray q B ∧
      Steps p.tables e below (T.setTop g) ((B.U.setTop { g with stack := rest }).pushFrame (.throwing q))) := by
  obtain ⟨mk, hnamed⟩ := Cond.code_named hcode
  obtain ⟨methM, cM, hmethM, -, -, -, -, -, -, hsigM⟩ := Cond.code_spec hnamed hcode
  have hstatic : methM.isStatic = true := Cond.static_spec hnamed hmethM hstat
  obtain ⟨kP, hkP, -⟩ := className_of_methodNamed hnamed
  have hinitP : kP.init = .initialized := Cond.initialized_spec (findClass_of_methodNamed hnamed) hkP hinit
  obtain ⟨vm₁, X₁, hstep₁⟩ := X.invokestatic hexec hown hlink hnamed hmethM hstatic hkP hinitP hy (g := g) hg (argsL := argsL) (rest := rest) (hlen _ hsigM) hstack hdg
  rcases hK m meth c ⟨T.setVm vm₁, locs, cells, slots⟩ { g with stack := rest } (.invokestatic index) mk argsL.toArray X₁ hg hsize hdg hW (X₁.named hnamed) (hpre vm₁ X₁.warmed) with ⟨v, B, X', hpost, hsteps⟩ | ⟨q, B, X', hpost, hsteps⟩
  · exact Or.inl ⟨v, vm₁, B, X₁.warmed, X', hpost, fun target h => hstep₁ _ fun acts => by rw [doInvoke_state]; exact hsteps.trans h⟩
  · exact Or.inr ⟨q, vm₁, B, X₁.warmed, X', hpost, hstep₁ _ fun acts => by rw [doInvoke_state]; exact hsteps⟩
end Calls
theorem vx_cls {s : State} {T : State} {vm₁ : Vm} {E : String} {k : ClassId} (hW : s.WarmedH vm₁) (h : (T.setVm vm₁).vm.findClass E = some k) : s.vm.findClass E = some k := by
  have h1 : vm₁.findClass E = some k := h
  rw [hW.alike.findClass] at h1
  exact h1
/-- the method's frame g, with q thrown over it -/
def vx_W (p : Program) (l : Launch) (e : Env) (R : Room) (s : State) (m : MethodId) (args : Array Value) (below : List Frame) (meth : Method) (c : Code) (H : Heap) (locs : List Loc) (cells slots : Nat) (Q : State → Prop) (g : JFrame) (q : Addr) : Prop :=
  ∀ T : State, T.heap = H → Stand p l e R s m args below meth c T locs cells slots → ∃ t, Steps p.tables e below ((T.setTop g).pushFrame (.throwing q)) t ∧ Q t
def vx_Run (p : Program) (l : Launch) (e : Env) (R : Room) (s : State) (m : MethodId) (args : Array Value) (below : List Frame) (meth : Method) (c : Code) (H : Heap) (locs : List Loc) (cells slots mc ms : Nat) (g : JFrame) (rest : List Value) (Qa : State → Outcome → State → Prop) (XC : String → State → State → Prop) (free : Addr → Prop) : Prop :=
  ∀ T : State, T.heap = H → Stand p l e R s m args below meth c T locs cells slots →
    (∃ (v : Option Value) (st₀ t T' : State) (L : List Loc), st₀.heap = H ∧ Stand p l e R s m args below meth c T' (locs ++ L) (cells + mc) (slots + ms) ∧ (∀ q ∈ L, free q.base) ∧ T'.heap = t.heap ∧ T'.vm = t.vm ∧ Qa st₀ (.returned v) t ∧
      Goes p e below T g T' { g with pc := g.pc + 3, stack := v.toList ++ rest }) ∨
    (∃ (q : Addr) (st₀ t T' : State) (L : List Loc) (E : String) (ce : Cell), st₀.heap = H ∧ Stand p l e R s m args below meth c T' (locs ++ L) (cells + mc) (slots + ms) ∧ (∀ z ∈ L, free z.base) ∧ T'.heap = t.heap ∧ T'.vm = t.vm ∧ XC E st₀ t ∧ t.heap[q]? = some ce ∧ ce.vm = .none ∧ s.vm.findClass E = some ce.cls ∧
      Steps p.tables e below (T.setTop g) ((T'.setTop { g with stack := rest }).pushFrame (.throwing q)))
def vx_X {S : Type} (px : S → Prop) (B : String → S → State → Prop) (A : Nat → Prop) : String → State → State → Prop := fun E st t => ∃ u : S, px u ∧ B E u t ∧ va_F A st t
section Runs
variable {p : Program} {l : Launch} {e : Env} {R : Room} {s : State} {m : MethodId} {args : Array Value} {below : List Frame} {meth : Method} {c : Code} {H : Heap} {locs : List Loc} {cells slots : Nat}
variable {y : MethodName} {bytes cc : ByteArray} {maxL nL mc ms n index : Nat} {ret : Option FieldType} {ws : List Cond} {rm : Room} {Pc : Array Value → State → Prop} {Qc : Array Value → State → Outcome → State → Prop} {XC : String → State → State → Prop} {free : Addr → Prop} {Ts : List Cond} {own C : String} {b : Addr} {As rest : List Value} {g : JFrame}
theorem vx_callBack (cb : CallB R s args own index y bytes maxL ret ws rm mc ms n) (hM : vx_Met l y ws rm Pc Qc XC mc ms free) (hbl : FrameBlind Pc) : vx_Back l R p e below s args y 3 8 (PreOf R mc ms Pc) (PostOf Qc mc ms free) (vx_Post XC mc ms free) := by
  obtain ⟨hrc, hrs, hfr, hlo, hws, hcw, -, hini, -⟩ := cb
  exact vx_back (bytes := bytes) (maxL := maxL) (ret := ret) hM hbl hrc hrs hfr hlo hws hcw (fun a' U hW => word_at hW (Or.inl (by first | rfl | simp [Cond.onTables, Cond.keeps, Cond.steady])) hini)
theorem vx_runV (S : CallFix p m c cc nL s args Ts own) (hM : vx_Met l y ws rm Pc Qc XC mc ms free) (cw : CallW R s args own C index y bytes maxL ret ws rm mc ms n) (hp : PreV s H C b Pc As)
    (hg : g.method = m) (hn : As.length = n) (hsize : g.locals.size = nL) (hstack : g.stack = As.reverse ++ .ref b :: rest) (hW : 2 * g.monitorRoom + (rest.map fun v => v.category).sum ≤ 8) (hdg : decode cc g.pc = .ok (.invokevirtual index, 3)) (hf : cells + mc ≤ R.cells ∧ slots + ms ≤ R.slots) :
    vx_Run p l e R s m args below meth c H locs cells slots mc ms g rest (Qc (Value.ref b :: As).toArray) XC free := by
  have hK : vx_Back l R p e below s args y 3 8 (PreOf R mc ms Pc) (PostOf Qc mc ms free) (vx_Post XC mc ms free) := vx_callBack cw.1 hM hp.1
  obtain ⟨⟨-, -, -, -, -, -, hcode, -, hy, hlen, hl⟩, hin, hse⟩ := cw
  obtain ⟨hx, hb, hml, ho, -⟩ := S
  obtain ⟨-, ⟨cellB, hcB, hoB, hclB⟩, hPc⟩ := hp
  intro T hT X
  rcases vx_callV X hx (C := C) (bytes := bytes) (maxL := maxL) (ret := ret) ho hl hin hse hcode hy hK (by rw [hT]; exact hcB) hoB hclB hg (hsize.trans hml.symm) (argsL := As) (rest := rest) (fun sig h => hn.trans (hlen sig h)) hstack hW (by rw [hb]; exact hdg)
    (fun vm₁ hW₁ => ⟨hf.1, hf.2, hPc (T.setVm vm₁) hT hW₁⟩) with ⟨v, vm₁, ⟨U', l2, c2, s2⟩, hW₁, X', ⟨g', mk, t, L, e1, e2, hq, h1, hL, h2, h3⟩, st⟩ | ⟨q, vm₁, ⟨U', l2, c2, s2⟩, hW₁, X', ⟨g', mk, t, L, E, ce, e1, e2, hq, hce, hcv, hcl, h1, hL, h2, h3⟩, st⟩
  · dsimp only [Pt.U, Pt.locs, Pt.cells, Pt.slots] at X' e1 e2 h1 h2 h3 st
    subst h1; subst h2; subst h3
    exact Or.inl ⟨v, (T.setVm vm₁).calling g' mk (Value.ref b :: As).toArray, t, U', L, hT, X', hL, e1, e2, hq, st⟩
  · dsimp only [Pt.U, Pt.locs, Pt.cells, Pt.slots] at X' e1 e2 h1 h2 h3 st hcl
    subst h1; subst h2; subst h3
    exact Or.inr ⟨q, (T.setVm vm₁).calling g' mk (Value.ref b :: As).toArray, t, U', L, E, ce, hT, X', hL, e1, e2, hq, hce, hcv, vx_cls hW₁ hcl, st⟩
theorem vx_runS (S : CallFix p m c cc nL s args Ts own) (hM : vx_Met l y ws rm Pc Qc XC mc ms free) (cw : CallB R s args own index y bytes maxL ret ws rm mc ms n ∧ (Cond.static y).before args s = true) (hp : PreS s H Pc As)
    (hg : g.method = m) (hn : As.length = n) (hsize : g.locals.size = nL) (hstack : g.stack = As.reverse ++ rest) (hW : 2 * g.monitorRoom + (rest.map fun v => v.category).sum ≤ 8) (hdg : decode cc g.pc = .ok (.invokestatic index, 3)) (hf : cells + mc ≤ R.cells ∧ slots + ms ≤ R.slots) :
    vx_Run p l e R s m args below meth c H locs cells slots mc ms g rest (Qc As.toArray) XC free := by
  have hK : vx_Back l R p e below s args y 3 8 (PreOf R mc ms Pc) (PostOf Qc mc ms free) (vx_Post XC mc ms free) := vx_callBack cw.1 hM hp.1
  obtain ⟨⟨-, -, -, -, -, -, hcode, hini, hy, hlen, hl⟩, hstt⟩ := cw
  obtain ⟨hx, hb, hml, ho, -⟩ := S
  intro T hT X
  rcases vx_callS X hx (bytes := bytes) (maxL := maxL) (ret := ret) ho hl hstt hini hcode hy hK hg (hsize.trans hml.symm) (argsL := As) (rest := rest) (fun sig h => hn.trans (hlen sig h)) hstack hW (by rw [hb]; exact hdg)
    (fun vm₁ hW₁ => ⟨hf.1, hf.2, hp.2 (T.setVm vm₁) hT hW₁⟩) with ⟨v, vm₁, ⟨U', l2, c2, s2⟩, hW₁, X', ⟨g', mk, t, L, e1, e2, hq, h1, hL, h2, h3⟩, st⟩ | ⟨q, vm₁, ⟨U', l2, c2, s2⟩, hW₁, X', ⟨g', mk, t, L, E, ce, e1, e2, hq, hce, hcv, hcl, h1, hL, h2, h3⟩, st⟩
  · dsimp only [Pt.U, Pt.locs, Pt.cells, Pt.slots] at X' e1 e2 h1 h2 h3 st
    subst h1; subst h2; subst h3
    exact Or.inl ⟨v, (T.setVm vm₁).calling g' mk As.toArray, t, U', L, hT, X', hL, e1, e2, hq, st⟩
  · dsimp only [Pt.U, Pt.locs, Pt.cells, Pt.slots] at X' e1 e2 h1 h2 h3 st hcl
    subst h1; subst h2; subst h3
    exact Or.inr ⟨q, (T.setVm vm₁).calling g' mk As.toArray, t, U', L, E, ce, hT, X', hL, e1, e2, hq, hce, hcv, vx_cls hW₁ hcl, st⟩
end Runs
section Rows
variable {p : Program} {l : Launch} {e : Env} {R : Room} {s : State} {m : MethodId} {args : Array Value} {below : List Frame} {meth : Method} {c : Code} {H : Heap} {locs : List Loc} {cells slots : Nat} {Q : State → Prop}
variable {mc ms : Nat} {free : Addr → Prop} {A0 A1 : Nat → Prop} {H0 : Heap} {a : Array Value} {pc : Nat} {ls : Array Slot} {st0 rest : List Value}
theorem vx_keep {st₀ t T' : State} {L : List Loc} (h0 : st₀.heap = H) (e1 : T'.heap = t.heap) (hS : va_S A0 H0 H locs) (hA : ∀ q, q < H.size → A1 q → A0 q) (hf : ∀ q, free q → A0 q) (hL : ∀ q ∈ L, free q.base) (hF : va_F A1 st₀ t) :
    H.size ≤ T'.heap.size ∧ (∀ q : Nat, q < H.size → ¬ A1 q → T'.heap[q]? = H[q]?) ∧ va_S A0 H0 T'.heap (locs ++ L) := by
  obtain ⟨hz, hk⟩ := hF
  rw [h0] at hz hk
  exact ⟨by rw [e1]; exact hz, fun q h1 h2 => by rw [e1]; exact hk q h1 h2,
    ⟨Nat.le_trans hS.1 (by rw [e1]; exact hz), fun q h1 h2 => by rw [e1, hk q (Nat.lt_of_lt_of_le h1 hS.1) (fun z => h2 (hA q (Nat.lt_of_lt_of_le h1 hS.1) z))]; exact hS.2.1 q h1 h2, fun q hq => by
      rcases List.mem_append.mp hq with h | h
      · exact hS.2.2 q h
      · exact hf _ (hL q h)⟩⟩
theorem vx_calli {S SX : Type} {post : Int32 → S → Prop} {px : SX → Prop} {B : S → State → Prop} {BX : String → SX → State → Prop} {AX : Nat → Prop} (hr : vx_Run p l e R s m args below meth c H locs cells slots mc ms (F0 m pc ls st0) rest (va_Qi post B A1 a) (vx_X px BX AX) free) (hS : va_S A0 H0 H locs) (hA : ∀ q, q < H.size → A1 q → A0 q) (hf : ∀ q, free q → A0 q) (hAX : ∀ q, q < H.size → AX q → A0 q)
    (kx : ∀ (E : String) (ce : Cell) (q9 : Addr) (u : SX) (t : State) (H1 : Heap) (locs1 : List Loc), t.heap = H1 → s.vm.Alike t.vm → px u → BX E u t → H.size ≤ H1.size → (∀ q : Nat, q < H.size → ¬ AX q → H1[q]? = H[q]?) → va_S A0 H0 H1 locs1 → H1[q9]? = some ce → ce.vm = .none → s.vm.findClass E = some ce.cls → vx_W p l e R s m args below meth c H1 locs1 (cells + mc) (slots + ms) Q (F0 m pc ls rest) q9)
    (kk : ∀ (r : Int32) (u : S) (t : State) (H1 : Heap) (locs1 : List Loc), t.heap = H1 → s.vm.Alike t.vm → post r u → B u t → H.size ≤ H1.size → (∀ q : Nat, q < H.size → ¬ A1 q → H1[q]? = H[q]?) → va_S A0 H0 H1 locs1 → W p l e R s m args below meth c H1 locs1 (cells + mc) (slots + ms) Q (F0 m (pc + 3) ls (.int r :: rest))) : W p l e R s m args below meth c H locs cells slots Q (F0 m pc ls st0) := by
  intro T hT X
  rcases hr T hT X with ⟨v, st₀, t, T', L, h0, X', hL, e1, e2, ⟨⟨r, u, hv, hp, hb⟩, hF⟩, st⟩ | ⟨q, st₀, t, T', L, E, ce, h0, X', hL, e1, e2, ⟨u, hp, hb, hF⟩, hce, hcv, hcl, st⟩
  · cases hv
    obtain ⟨k1, k2, k3⟩ := vx_keep h0 e1 hS hA hf hL hF
    obtain ⟨t2, a1, b1⟩ := kk r u t T'.heap (locs ++ L) e1.symm (by rw [← e2]; exact X'.warmed.alike) hp hb k1 k2 k3 T' rfl X'
    exact ⟨t2, st t2 a1, b1⟩
  · obtain ⟨k1, k2, k3⟩ := vx_keep h0 e1 hS hAX hf hL hF
    obtain ⟨t2, a1, b1⟩ := kx E ce q u t T'.heap (locs ++ L) e1.symm (by rw [← e2]; exact X'.warmed.alike) hp hb k1 k2 k3 (by rw [e1]; exact hce) hcv hcl T' rfl X'
    exact ⟨t2, st.trans a1, b1⟩
theorem vx_calll {S SX : Type} {post : Int64 → S → Prop} {px : SX → Prop} {B : S → State → Prop} {BX : String → SX → State → Prop} {AX : Nat → Prop} (hr : vx_Run p l e R s m args below meth c H locs cells slots mc ms (F0 m pc ls st0) rest (va_Ql post B A1 a) (vx_X px BX AX) free) (hS : va_S A0 H0 H locs) (hA : ∀ q, q < H.size → A1 q → A0 q) (hf : ∀ q, free q → A0 q) (hAX : ∀ q, q < H.size → AX q → A0 q)
    (kx : ∀ (E : String) (ce : Cell) (q9 : Addr) (u : SX) (t : State) (H1 : Heap) (locs1 : List Loc), t.heap = H1 → s.vm.Alike t.vm → px u → BX E u t → H.size ≤ H1.size → (∀ q : Nat, q < H.size → ¬ AX q → H1[q]? = H[q]?) → va_S A0 H0 H1 locs1 → H1[q9]? = some ce → ce.vm = .none → s.vm.findClass E = some ce.cls → vx_W p l e R s m args below meth c H1 locs1 (cells + mc) (slots + ms) Q (F0 m pc ls rest) q9)
    (kk : ∀ (r : Int64) (u : S) (t : State) (H1 : Heap) (locs1 : List Loc), t.heap = H1 → s.vm.Alike t.vm → post r u → B u t → H.size ≤ H1.size → (∀ q : Nat, q < H.size → ¬ A1 q → H1[q]? = H[q]?) → va_S A0 H0 H1 locs1 → W p l e R s m args below meth c H1 locs1 (cells + mc) (slots + ms) Q (F0 m (pc + 3) ls (.long r :: rest))) : W p l e R s m args below meth c H locs cells slots Q (F0 m pc ls st0) := by
  intro T hT X
  rcases hr T hT X with ⟨v, st₀, t, T', L, h0, X', hL, e1, e2, ⟨⟨r, u, hv, hp, hb⟩, hF⟩, st⟩ | ⟨q, st₀, t, T', L, E, ce, h0, X', hL, e1, e2, ⟨u, hp, hb, hF⟩, hce, hcv, hcl, st⟩
  · cases hv
    obtain ⟨k1, k2, k3⟩ := vx_keep h0 e1 hS hA hf hL hF
    obtain ⟨t2, a1, b1⟩ := kk r u t T'.heap (locs ++ L) e1.symm (by rw [← e2]; exact X'.warmed.alike) hp hb k1 k2 k3 T' rfl X'
    exact ⟨t2, st t2 a1, b1⟩
  · obtain ⟨k1, k2, k3⟩ := vx_keep h0 e1 hS hAX hf hL hF
    obtain ⟨t2, a1, b1⟩ := kx E ce q u t T'.heap (locs ++ L) e1.symm (by rw [← e2]; exact X'.warmed.alike) hp hb k1 k2 k3 (by rw [e1]; exact hce) hcv hcl T' rfl X'
    exact ⟨t2, st.trans a1, b1⟩
theorem vx_callf {S SX : Type} {post : UInt32 → S → Prop} {px : SX → Prop} {B : S → State → Prop} {BX : String → SX → State → Prop} {AX : Nat → Prop} (hr : vx_Run p l e R s m args below meth c H locs cells slots mc ms (F0 m pc ls st0) rest (va_Qf post B A1 a) (vx_X px BX AX) free) (hS : va_S A0 H0 H locs) (hA : ∀ q, q < H.size → A1 q → A0 q) (hf : ∀ q, free q → A0 q) (hAX : ∀ q, q < H.size → AX q → A0 q)
    (kx : ∀ (E : String) (ce : Cell) (q9 : Addr) (u : SX) (t : State) (H1 : Heap) (locs1 : List Loc), t.heap = H1 → s.vm.Alike t.vm → px u → BX E u t → H.size ≤ H1.size → (∀ q : Nat, q < H.size → ¬ AX q → H1[q]? = H[q]?) → va_S A0 H0 H1 locs1 → H1[q9]? = some ce → ce.vm = .none → s.vm.findClass E = some ce.cls → vx_W p l e R s m args below meth c H1 locs1 (cells + mc) (slots + ms) Q (F0 m pc ls rest) q9)
    (kk : ∀ (r : UInt32) (u : S) (t : State) (H1 : Heap) (locs1 : List Loc), t.heap = H1 → s.vm.Alike t.vm → post r u → B u t → H.size ≤ H1.size → (∀ q : Nat, q < H.size → ¬ A1 q → H1[q]? = H[q]?) → va_S A0 H0 H1 locs1 → W p l e R s m args below meth c H1 locs1 (cells + mc) (slots + ms) Q (F0 m (pc + 3) ls (.float r :: rest))) : W p l e R s m args below meth c H locs cells slots Q (F0 m pc ls st0) := by
  intro T hT X
  rcases hr T hT X with ⟨v, st₀, t, T', L, h0, X', hL, e1, e2, ⟨⟨r, u, hv, hp, hb⟩, hF⟩, st⟩ | ⟨q, st₀, t, T', L, E, ce, h0, X', hL, e1, e2, ⟨u, hp, hb, hF⟩, hce, hcv, hcl, st⟩
  · cases hv
    obtain ⟨k1, k2, k3⟩ := vx_keep h0 e1 hS hA hf hL hF
    obtain ⟨t2, a1, b1⟩ := kk r u t T'.heap (locs ++ L) e1.symm (by rw [← e2]; exact X'.warmed.alike) hp hb k1 k2 k3 T' rfl X'
    exact ⟨t2, st t2 a1, b1⟩
  · obtain ⟨k1, k2, k3⟩ := vx_keep h0 e1 hS hAX hf hL hF
    obtain ⟨t2, a1, b1⟩ := kx E ce q u t T'.heap (locs ++ L) e1.symm (by rw [← e2]; exact X'.warmed.alike) hp hb k1 k2 k3 (by rw [e1]; exact hce) hcv hcl T' rfl X'
    exact ⟨t2, st.trans a1, b1⟩
theorem vx_calld {S SX : Type} {post : UInt64 → S → Prop} {px : SX → Prop} {B : S → State → Prop} {BX : String → SX → State → Prop} {AX : Nat → Prop} (hr : vx_Run p l e R s m args below meth c H locs cells slots mc ms (F0 m pc ls st0) rest (va_Qd post B A1 a) (vx_X px BX AX) free) (hS : va_S A0 H0 H locs) (hA : ∀ q, q < H.size → A1 q → A0 q) (hf : ∀ q, free q → A0 q) (hAX : ∀ q, q < H.size → AX q → A0 q)
    (kx : ∀ (E : String) (ce : Cell) (q9 : Addr) (u : SX) (t : State) (H1 : Heap) (locs1 : List Loc), t.heap = H1 → s.vm.Alike t.vm → px u → BX E u t → H.size ≤ H1.size → (∀ q : Nat, q < H.size → ¬ AX q → H1[q]? = H[q]?) → va_S A0 H0 H1 locs1 → H1[q9]? = some ce → ce.vm = .none → s.vm.findClass E = some ce.cls → vx_W p l e R s m args below meth c H1 locs1 (cells + mc) (slots + ms) Q (F0 m pc ls rest) q9)
    (kk : ∀ (r : UInt64) (u : S) (t : State) (H1 : Heap) (locs1 : List Loc), t.heap = H1 → s.vm.Alike t.vm → post r u → B u t → H.size ≤ H1.size → (∀ q : Nat, q < H.size → ¬ A1 q → H1[q]? = H[q]?) → va_S A0 H0 H1 locs1 → W p l e R s m args below meth c H1 locs1 (cells + mc) (slots + ms) Q (F0 m (pc + 3) ls (.double r :: rest))) : W p l e R s m args below meth c H locs cells slots Q (F0 m pc ls st0) := by
  intro T hT X
  rcases hr T hT X with ⟨v, st₀, t, T', L, h0, X', hL, e1, e2, ⟨⟨r, u, hv, hp, hb⟩, hF⟩, st⟩ | ⟨q, st₀, t, T', L, E, ce, h0, X', hL, e1, e2, ⟨u, hp, hb, hF⟩, hce, hcv, hcl, st⟩
  · cases hv
    obtain ⟨k1, k2, k3⟩ := vx_keep h0 e1 hS hA hf hL hF
    obtain ⟨t2, a1, b1⟩ := kk r u t T'.heap (locs ++ L) e1.symm (by rw [← e2]; exact X'.warmed.alike) hp hb k1 k2 k3 T' rfl X'
    exact ⟨t2, st t2 a1, b1⟩
  · obtain ⟨k1, k2, k3⟩ := vx_keep h0 e1 hS hAX hf hL hF
    obtain ⟨t2, a1, b1⟩ := kx E ce q u t T'.heap (locs ++ L) e1.symm (by rw [← e2]; exact X'.warmed.alike) hp hb k1 k2 k3 (by rw [e1]; exact hce) hcv hcl T' rfl X'
    exact ⟨t2, st.trans a1, b1⟩
theorem vx_callv {S SX : Type} {post : S → Prop} {px : SX → Prop} {B : S → State → Prop} {BX : String → SX → State → Prop} {AX : Nat → Prop} (hr : vx_Run p l e R s m args below meth c H locs cells slots mc ms (F0 m pc ls st0) rest (va_Qv post B A1 a) (vx_X px BX AX) free) (hS : va_S A0 H0 H locs) (hA : ∀ q, q < H.size → A1 q → A0 q) (hf : ∀ q, free q → A0 q) (hAX : ∀ q, q < H.size → AX q → A0 q)
    (kx : ∀ (E : String) (ce : Cell) (q9 : Addr) (u : SX) (t : State) (H1 : Heap) (locs1 : List Loc), t.heap = H1 → s.vm.Alike t.vm → px u → BX E u t → H.size ≤ H1.size → (∀ q : Nat, q < H.size → ¬ AX q → H1[q]? = H[q]?) → va_S A0 H0 H1 locs1 → H1[q9]? = some ce → ce.vm = .none → s.vm.findClass E = some ce.cls → vx_W p l e R s m args below meth c H1 locs1 (cells + mc) (slots + ms) Q (F0 m pc ls rest) q9)
    (kk : ∀ (u : S) (t : State) (H1 : Heap) (locs1 : List Loc), t.heap = H1 → s.vm.Alike t.vm → post u → B u t → H.size ≤ H1.size → (∀ q : Nat, q < H.size → ¬ A1 q → H1[q]? = H[q]?) → va_S A0 H0 H1 locs1 → W p l e R s m args below meth c H1 locs1 (cells + mc) (slots + ms) Q (F0 m (pc + 3) ls (rest))) : W p l e R s m args below meth c H locs cells slots Q (F0 m pc ls st0) := by
  intro T hT X
  rcases hr T hT X with ⟨v, st₀, t, T', L, h0, X', hL, e1, e2, ⟨⟨u, hv, hp, hb⟩, hF⟩, st⟩ | ⟨q, st₀, t, T', L, E, ce, h0, X', hL, e1, e2, ⟨u, hp, hb, hF⟩, hce, hcv, hcl, st⟩
  · cases hv
    obtain ⟨k1, k2, k3⟩ := vx_keep h0 e1 hS hA hf hL hF
    obtain ⟨t2, a1, b1⟩ := kk u t T'.heap (locs ++ L) e1.symm (by rw [← e2]; exact X'.warmed.alike) hp hb k1 k2 k3 T' rfl X'
    exact ⟨t2, st t2 a1, b1⟩
  · obtain ⟨k1, k2, k3⟩ := vx_keep h0 e1 hS hAX hf hL hF
    obtain ⟨t2, a1, b1⟩ := kx E ce q u t T'.heap (locs ++ L) e1.symm (by rw [← e2]; exact X'.warmed.alike) hp hb k1 k2 k3 (by rw [e1]; exact hce) hcv hcl T' rfl X'
    exact ⟨t2, st.trans a1, b1⟩
/-- caught by the row x of this method's table; the rows ahead don't take it -/
theorem vx_catch {own name : String} {E : String} {ce : Cell} {q : Addr} (hown : s.vm.findClass own = some m.cls) (pre : List ExceptionTableEntry) (x : ExceptionTableEntry) (suf : List ExceptionTableEntry) (hsplit : c.exceptionTable.toList = pre ++ x :: suf)
    (hpass : ∀ z ∈ pre, covers z pc = false ∨ (z.catchType ≠ 0 ∧ ∃ nm : String, (Cond.classLink own z.catchType nm).before args s = true ∧ va_Nc E nm s)) (hx : covers x pc = true) (h0 : x.catchType ≠ 0)
    (hlink : (Cond.classLink own x.catchType name).before args s = true) (hcast : (Cond.castable E name).before args s = true) (hcell : H[q]? = some ce) (hv : ce.vm = .none) (hcl : s.vm.findClass E = some ce.cls)
    (kk : W p l e R s m args below meth c H locs cells slots Q (F0 m x.handlerPc ls [.ref q])) : vx_W p l e R s m args below meth c H locs cells slots Q (F0 m pc ls rest) q := by
  intro T hT X
  have hpl : e.platform.magicAccessors = ({} : Platform).magicAccessors := by rw [X.admits.platform]
  obtain ⟨c3, c4, hc3, hc4, hasg⟩ := Cond.castable_spec hcast
  cases Option.some.inj (hc3.symm.trans hcl)
  obtain ⟨c5, hc5, hcl5⟩ := Cond.classLink_spec hown hlink e.platform hpl
  cases Option.some.inj (hc4.symm.trans hc5)
  obtain ⟨vm', X', st⟩ := X.thenCaughtThrough q (g := F0 m pc ls rest) rfl (Steps.refl _) (by rw [hT]; exact hcell) (by rw [hv]; rfl) (by obtain ⟨k9, h9, -⟩ := Vm.findClass_spec hcl; exact ⟨k9, h9⟩) pre x suf hsplit
    (fun z hz => by
      rcases hpass z hz with h | ⟨hz0, nm, hl1, hn1⟩
      · exact Or.inl h
      · obtain ⟨c6, hc6, hcl6⟩ := Cond.classLink_spec hown hl1 e.platform hpl
        obtain ⟨a8, b8, h1, h2, h3⟩ := hn1
        cases Option.some.inj (h1.symm.trans hcl)
        cases Option.some.inj (h2.symm.trans hc6)
        exact Or.inr ⟨hz0, _, hcl6, h3⟩) hx (Or.inr ⟨h0, c4, hcl5, hasg⟩)
  obtain ⟨t, a1, b1⟩ := kk (T.setVm vm') hT X'
  exact ⟨t, st.trans a1, b1⟩
end Rows
section Ends
variable {p : Program} {l : Launch} {e : Env} {R : Room} {s : State} {m : MethodId} {args : Array Value} {below : List Frame} {meth : Method} {c : Code} {H : Heap} {locs : List Loc} {cells slots : Nat} {Q : State → Prop}
variable {mc ms : Nat} {free : Addr → Prop} {A0 A1 : Nat → Prop} {H0 : Heap} {a : Array Value} {ls : Array Slot} {st0 rest : List Value}
variable {Qc : Array Value → State → Outcome → State → Prop} {XC : String → State → State → Prop}
/-- what a body that may throw owes at its end -/
def vx_MQ (below : List Frame) (Qc : Array Value → State → Outcome → State → Prop) (XC : String → State → State → Prop) (a : Array Value) (s : State) (mc ms : Nat) (free : Addr → Prop) : State → Prop := fun t =>
  ∃ o, t.status = .running ∧ Ended t below o ∧ vx_Q Qc XC mc ms free a s o t
theorem vx_ret {g : JFrame} {mc ms : Nat} (k : W p l e R s m args below meth c H locs cells slots (MQ below Qc args s mc ms free) g) : W p l e R s m args below meth c H locs cells slots (vx_MQ below Qc XC args s mc ms free) g := by
  intro T hT X
  obtain ⟨t, a1, o, b1, b2, b3, b4⟩ := k T hT X
  exact ⟨t, a1, o, b1, b2, Or.inl ⟨b3, b4⟩⟩
/-- not caught here: it goes on to the caller -/
theorem vx_widen {g : JFrame} {q : Addr} {k n : Nat} (h1 : cells ≤ k) (h2 : slots ≤ n) (kk : vx_W p l e R s m args below meth c H locs k n Q g q) : vx_W p l e R s m args below meth c H locs cells slots Q g q := fun T hT X => kk T hT (stand_widen X h1 h2)
theorem vx_out {pc : Nat} {E : String} {ce : Cell} {q : Addr} {mc ms : Nat} (hout : ∀ x ∈ c.exceptionTable.toList, covers x pc = false) (hlocks : meth.locks = false) (hcell : H[q]? = some ce) (hv : ce.vm = .none) (hcl : s.vm.findClass E = some ce.cls)
    (hx : ∀ t : State, t.heap = H → s.vm.Alike t.vm → XC E s t) (hf : ∀ z ∈ locs, free z.base) (hc : cells ≤ mc) (hs : slots ≤ ms) :
    vx_W p l e R s m args below meth c H locs cells slots (vx_MQ below Qc XC args s mc ms free) (F0 m pc ls rest) q := by
  intro T hT X
  obtain ⟨st1, hrun, hend, hW, hsm⟩ := X.leaveThrown q (g := F0 m pc ls rest) rfl rfl rfl hout hlocks
  have hcell9 : (T.setFrames (.throwing q :: below)).heap[q]? = some ce := by
    show T.heap[q]? = some ce
    rw [hT]; exact hcell
  exact ⟨_, st1, .threw q, hrun, hend, Or.inr ⟨q, rfl, E, ce, locs, hx _ hT hW.alike, hcell9, hv, hcl, hW, hsm.mono hc hs, hf⟩⟩
theorem vx_frame {U : State} {k n : Nat} (h : s.sameButNew ({ U with vm := s.vm } : State) locs k n) : s.heap.size ≤ U.heap.size ∧ ∀ q : Nat, q < s.heap.size → (∀ z ∈ locs, z.base ≠ q) → U.heap[q]? = s.heap[q]? := by
  obtain ⟨-, h2, -, -, -, h6⟩ := h
  refine ⟨h2, fun q hq hz => ?_⟩
  obtain ⟨c9, e1, e2, e3, e4⟩ := h6 q _ (Array.getElem?_eq_getElem hq)
  have hs : c9.slots = (s.heap[q]).slots := Array.ext_getElem? fun i => e4 i fun hm => hz _ hm rfl
  have h9 : c9 = s.heap[q] := by
    rw [hs] at e2
    exact e2
  have e5 : U.heap[q]? = some c9 := e1
  rw [e5, h9, Array.getElem?_eq_getElem hq]
/-- the words of a throw but the four that speak of the heap -/
def vx_no (w : Cond) : Bool := decide (w ≠ .isRef (.static Bundle.tN "UNASSIGNED_STACK" Bundle.steD)) && decide (w ≠ .isRef (.static Bundle.tN "SUPPRESSED_SENTINEL" Bundle.listD)) && decide (w ≠ .laysStatic Bundle.tN "UNASSIGNED_STACK" Bundle.steD) && decide (w ≠ .laysStatic Bundle.tN "SUPPRESSED_SENTINEL" Bundle.listD)
def vx_at0 (own : String) (ic : Nat) (X : String) (names : List String) : List Cond := (Bundle.ownAtoms0 own ic X names).filter vx_no
def vx_atS (own : String) (ic : Nat) (X : String) (names : List String) : List Cond := (Bundle.ownAtoms own ic X names).filter vx_no
/-- a word that the tables alone decide, or a good one -/
def vx_ot (w : Cond) : Bool := w.onTables || goodWord w
theorem vx_ot_at {args a' : Array Value} {s U : State} {w : Cond} (hW : s.WarmedH U.vm) (hvm : s.vm = U.vm) (hg : vx_ot w = true) (h : w.before args s = true) : w.before a' U = true := by
  simp only [vx_ot, Bool.or_eq_true] at hg
  rcases hg with hg | hg
  · exact va_tabs hg hvm h
  · exact word_at hW (good_of_word hg) h
/-- a list's words: the good ones out of the method's own list, the others by premises of their own -/
theorem vx_hat {args : Array Value} {s : State} {L B : List Cond} (h1 : ∀ w ∈ L.filter goodWord, w.before args s = true) (h2 : ∀ w ∈ L.filter (fun w => !goodWord w), w ∈ B) (h3 : ∀ w ∈ B, w.before args s = true) : ∀ w ∈ L, w.before args s = true := by
  intro w hw
  by_cases g : goodWord w = true
  · exact h1 w (List.mem_filter.mpr ⟨hw, g⟩)
  · refine h3 w (h2 w (List.mem_filter.mpr ⟨hw, ?_⟩))
    show (!goodWord w) = true
    cases hgw : goodWord w
    · rfl
    · exact absurd hgw g
theorem vx_c {args : Array Value} {s : State} {w : Cond} {B : List Cond} (h : w.before args s = true) (t : ∀ w ∈ B, w.before args s = true) : ∀ w' ∈ w :: B, w'.before args s = true := fun w' h' => (List.mem_cons.mp h').elim (fun e => by rw [e]; exact h) (t w')
theorem vx_n {args : Array Value} {s : State} : ∀ w ∈ ([] : List Cond), w.before args s = true := fun _ h => nomatch h
theorem vx_own {args : Array Value} {s : State} {L : List Cond} (h1 : ∀ w ∈ L.filter vx_no, w.before args s = true)
    (hU : (Cond.isRef (.static Bundle.tN "UNASSIGNED_STACK" Bundle.steD)).before args s = true) (hN : (Cond.isRef (.static Bundle.tN "SUPPRESSED_SENTINEL" Bundle.listD)).before args s = true)
    (lU : (Cond.laysStatic Bundle.tN "UNASSIGNED_STACK" Bundle.steD).before args s = true) (lN : (Cond.laysStatic Bundle.tN "SUPPRESSED_SENTINEL" Bundle.listD).before args s = true) : ∀ w ∈ L, w.before args s = true := by
  intro w hw
  by_cases e1 : w = .isRef (.static Bundle.tN "UNASSIGNED_STACK" Bundle.steD)
  · rw [e1]; exact hU
  · by_cases e2 : w = .isRef (.static Bundle.tN "SUPPRESSED_SENTINEL" Bundle.listD)
    · rw [e2]; exact hN
    · by_cases e3 : w = .laysStatic Bundle.tN "UNASSIGNED_STACK" Bundle.steD
      · rw [e3]; exact lU
      · by_cases e4 : w = .laysStatic Bundle.tN "SUPPRESSED_SENTINEL" Bundle.listD
        · rw [e4]; exact lN
        · exact h1 w (List.mem_filter.mpr ⟨hw, by unfold vx_no; rw [decide_eq_true e1, decide_eq_true e2, decide_eq_true e3, decide_eq_true e4]; rfl⟩)
/-- where a static field lies, its class's statics cell in H -/
def vx_L (C n d : String) (A : Nat → Prop) (U : State) (H : Heap) : Prop := ∃ (c : ClassId) (k : Class) (i : Nat) (f : Field) (a : Nat) (cell : Cell), U.vm.findClass C = some c ∧ U.fieldFound? C n d = some (c, k, i, f) ∧ f.isStatic = true ∧ k.statics = some a ∧ H[a]? = some cell ∧ cell.vm.isStatics = true ∧ cell.cls = c ∧ f.slot < cell.slots.size ∧ k.staticTypes[f.slot]? = some f.type ∧ ¬ A a
theorem vx_L.moved {C n d : String} {A : Nat → Prop} {u U : State} {H : Heap} (hvm : u.vm.Alike U.vm) (h : vx_L C n d A u H) : vx_L C n d A U H := by
  obtain ⟨c, k, i, f, a, cell, h1, h2, h3, h4, h5, h6, h7, h8, h9, h10⟩ := h
  obtain ⟨k', hi', he⟩ := State.fieldFound?_setVm hvm h2
  exact ⟨c, k', i, f, a, cell, by rw [hvm.findClass]; exact h1, hi', h3, by rw [he]; exact h4, h5, h6, h7, h8, by rw [he]; exact h9, h10⟩
theorem vx_L.kept {C n d : String} {A : Nat → Prop} {U : State} {H H1 : Heap} (h : vx_L C n d A U H) (hq : ∀ a : Nat, a < H.size → ¬ A a → H1[a]? = H[a]?) : vx_L C n d A U H1 := by
  obtain ⟨c, k, i, f, a, cell, h1, h2, h3, h4, h5, h6, h7, h8, h9, h10⟩ := h
  exact ⟨c, k, i, f, a, cell, h1, h2, h3, h4, by rw [hq a (Array.getElem?_eq_some_iff.mp h5).1 h10]; exact h5, h6, h7, h8, h9, h10⟩
theorem vx_L.narrow {C n d : String} {A B : Nat → Prop} {U : State} {H : Heap} (h : vx_L C n d A U H) (hAB : ∀ q, B q → A q) : vx_L C n d B U H := by
  obtain ⟨c, k, i, f, a, cell, h1, h2, h3, h4, h5, h6, h7, h8, h9, h10⟩ := h
  exact ⟨c, k, i, f, a, cell, h1, h2, h3, h4, h5, h6, h7, h8, h9, fun z => h10 (hAB _ z)⟩
theorem vx_L.word {C n d : String} {A : Nat → Prop} {s : State} {args : Array Value} (h : vx_L C n d A s s.heap) : (Cond.laysStatic C n d).before args s = true := by
  obtain ⟨c, k, i, f, a, cell, h1, h2, h3, h4, h5, h6, h7, h8, h9, -⟩ := h
  show (Cond.laysStatic C n d).holds args s none s [] = true
  exact Cond.laysStatic_of h1 h2 h3 h4 h5 h6 h7 h8 h9
/-- .. and what it holds: null or some reference -/
def vx_Zq (C n d : String) (A : Nat → Prop) (U : State) (H : Heap) : Prop := va_Zq C n d A U H ∧ vx_L C n d A U H
theorem vx_Zq.moved {C n d : String} {A : Nat → Prop} {u U : State} {H : Heap} (hvm : u.vm.Alike U.vm) (h : vx_Zq C n d A u H) : vx_Zq C n d A U H := ⟨va_Zq.moved hvm h.1, vx_L.moved hvm h.2⟩
theorem vx_Zq.kept {C n d : String} {A : Nat → Prop} {U : State} {H H1 : Heap} (h : vx_Zq C n d A U H) (hq : ∀ a : Nat, a < H.size → ¬ A a → H1[a]? = H[a]?) : vx_Zq C n d A U H1 := ⟨va_Zq.kept h.1 hq, vx_L.kept h.2 hq⟩
theorem vx_Zq.narrow {C n d : String} {A B : Nat → Prop} {U : State} {H : Heap} (h : vx_Zq C n d A U H) (hAB : ∀ q, B q → A q) : vx_Zq C n d B U H := ⟨va_Zq.narrow h.1 hAB, vx_L.narrow h.2 hAB⟩
theorem vx_Zqof {args : Array Value} {s : State} {C n d : String} {A : Nat → Prop} (hl : (Cond.laysStatic C n d).before args s = true) (hini : (Cond.initialized C).before args s = true) (h : (Cond.isRef (.static C n d)).before args s = true) (hA : ∀ a : Nat, a < s.heap.size → ¬ A a) : vx_Zq C n d A s s.heap := by
  refine ⟨va_Zqof hl hini h hA, ?_⟩
  obtain ⟨c, k, i, f, a, cell, h1, h2, h3, h4, h5, h6, h7, h8, h9⟩ := Cond.laysStatic_spec hl
  exact ⟨c, k, i, f, a, cell, h1, h2, h3, h4, h5, h6, h7, h8, h9, hA a (Array.getElem?_eq_some_iff.mp h5).1⟩
theorem vx_isRef {C n d : String} {v : Value} {A : Nat → Prop} {s : State} {args : Array Value} (h : va_Z C n d v A s s.heap) (hv : v.isRef = true) : (Cond.isRef (.static C n d)).before args s = true := by
  obtain ⟨cf, kf, fi, f, a, cell, h1, h2, h3, h4, h5, h6, h7, -⟩ := h
  have he : (Term.static C n d).eval args s none [] s = some v := by
    simp [Term.eval, State.fieldNamed?, h1, h2, h4, h5, h6, h7]
  simp only [Cond.before, Cond.holds, Cond.value, he]
  cases v <;> simp_all [Value.isRef]
theorem vx_isRefq {C n d : String} {A : Nat → Prop} {s : State} {args : Array Value} (h : va_Zq C n d A s s.heap) : (Cond.isRef (.static C n d)).before args s = true := by
  rcases h with h | ⟨t, h⟩
  · exact vx_isRef h rfl
  · exact vx_isRef h rfl
/-- the same frame, seen from here: as if the method were called anew in this heap -/
theorem vx_rebase {T : State} (X : Stand p l e R s m args below meth c T locs cells slots) {R' : Room} (hf : R'.frames ≤ R.frames) (hl : R'.locals ≤ R.locals) (hc : cells + R'.cells ≤ R.cells) (hs : slots + R'.slots ≤ R.slots) :
    Stand p l e R' ((T.setVm s.vm).setFrames (.invoking m args :: below)) m args below meth c T [] 0 0 := by
  have htop : (T.setVm s.vm).topJava?.isSome := X.here.top
  have hF : ((T.setVm s.vm).setFrames (.invoking m args :: below)).frames = .invoking m args :: below := State.frames_setFrames _ (State.cur_lt_of_top htop)
  obtain ⟨g₀, hg0⟩ := Option.isSome_iff_exists.mp htop
  obtain ⟨r, hr⟩ := State.topJava?_eq_some.mp hg0
  have hl9 : e.platform.stackLimits (T.setVm s.vm).me = e.platform.stackLimits s.me := X.limits
  have hb9 : (T.setVm s.vm).me.stackBytes = s.me.stackBytes := X.bytes
  refine ⟨X.admits, X.cas, X.clock, hF, ?_, X.hears, X.method, X.code, X.here, X.tail, X.warmed, ?_, ?_, ?_⟩
  · have h := X.room
    have hU : ((T.setVm s.vm).setFrames (.invoking m args :: below)).localsInUse = s.localsInUse := by
      rw [State.localsInUse_invoking hF (meth := meth) (c := c) X.method X.code, State.localsInUse_invoking X.frames X.method X.code]
    simp only [State.hasRoom, Bool.and_eq_true, decide_eq_true_eq] at h ⊢
    obtain ⟨⟨⟨⟨h1, h2, h3, h4, h5, h6⟩, h7⟩, h8⟩, h9⟩ := h
    rw [X.frames, List.length_cons] at h2 h3
    have q1 := X.heapSize
    have q2 := X.used
    simp only [hF, hU, List.length_cons, State.stackLimits_setFrames, State.stackBytes_setFrames, hl9, hb9]
    refine ⟨⟨⟨⟨by omega, by omega, by omega, by omega, by omega, h6⟩, ?_⟩, ?_⟩, X.book⟩
    · show T.heap.size + R'.cells ≤ e.platform.maxCells
      omega
    · show T.slotsUsed + R'.slots ≤ e.platform.maxSlots
      omega
  · rw [State.stackLimits_setFrames]; rfl
  · rw [State.stackBytes_setFrames]; rfl
  · refine ⟨?_, Nat.le_refl _, Nat.le_refl _, ?_, ?_, fun a c9 h9 => ⟨c9, h9, rfl, rfl, fun _ _ => rfl⟩⟩
    · obtain ⟨t, ht, -⟩ := State.frames_cons hr
      show T.setVm s.vm = { ((T.setVm s.vm).setFrames (.invoking m args :: below)).setFrames (T.setVm s.vm).frames with heap := T.heap, slotsUsed := T.slotsUsed }
      rw [State.setFrames_setFrames, State.setFrames_self ht]
      rfl
    · show T.slotsUsed = T.slotsUsed + ((T.heap.toList.drop T.heap.size).map (·.slots.size)).sum
      rw [List.drop_eq_nil_of_le (Nat.le_of_eq Array.length_toList)]
      rfl
    · show ((T.heap.toList.drop T.heap.size).map (·.slots.size)).sum ≤ 0
      rw [List.drop_eq_nil_of_le (Nat.le_of_eq Array.length_toList)]
      exact Nat.le_refl _
/-- 'throw new E()': new; dup; invokespecial; athrow -/
theorem vx_throw0 {cc : ByteArray} {pc : Nat} (hexec : p.tables.exec = Jvm.exec) (hb : c.code = cc) (hl : l.stackTraces = false) {own cls : String} {names : List String} {ik ic mc ms : Nat} {A : Nat → Prop}
    (hown : s.vm.findClass own = some m.cls) (hcls : Bundle.fit cls = true) (hnames : ∀ n ∈ names, Bundle.fit n = true)
    (hk : (Cond.classLink own ik cls).before args s = true) (hini : (Cond.initialized cls).before args s = true) (hat : ∀ w ∈ vx_at0 own ic cls names, w.before args s = true)
    (hgood : ∀ w ∈ Cond.classLink own ik cls :: Cond.initialized cls :: vx_at0 own ic cls names, vx_ot w = true)
    (hU : vx_Zq Bundle.tN "UNASSIGNED_STACK" Bundle.steD A s s.heap) (hN : vx_Zq Bundle.tN "SUPPRESSED_SENTINEL" Bundle.listD A s s.heap) (hS : va_S A s.heap H locs) (hsize : ls.size = c.maxLocals)
    (d0 : decode cc pc = .ok (.new ik, 3)) (d3 : decode cc (pc + 3) = .ok (.dup, 1)) (d4 : decode cc (pc + 4) = .ok (.invokespecial ic, 3)) (d7 : decode cc (pc + 7) = .ok (.athrow, 1))
    (hout : ∀ x ∈ c.exceptionTable.toList, covers x (pc + 7) = false)
    (hRframes : names.length + 3 < R.frames) (hRlocals : (rest.map fun v => v.category).sum + (13 * (names.length + 1) + 42) ≤ R.locals) (hRcells : cells + 1 ≤ R.cells) (hRslots : slots + 6 ≤ R.slots) (hlocks : meth.locks = false)
    (hx : ∀ t : State, s.vm.Alike t.vm → H.size ≤ t.heap.size → (∀ q : Nat, q < H.size → t.heap[q]? = H[q]?) → XC cls s t)
    (hf : ∀ z ∈ locs, free z.base) (hc : cells + 1 ≤ mc) (hs : slots + 6 ≤ ms) :
    W p l e R s m args below meth c H locs cells slots (vx_MQ below Qc XC args s mc ms free) (F0 m pc ls rest) := by
  intro T hT X
  have htr : e.platform.stackTraces = false := (show e.platform.stackTraces = l.stackTraces by rw [X.admits.platform]).trans hl
  have Y := vx_rebase X (R' := { frames := R.frames, locals := R.locals, cells := 1, slots := 6 }) (Nat.le_refl _) (Nat.le_refl _) hRcells hRslots
  obtain ⟨s', hA⟩ : ∃ z, z = (T.setVm s.vm).setFrames (.invoking m args :: below) := ⟨_, rfl⟩
  rw [← hA] at Y
  have hvm : s'.vm = s.vm := by rw [hA]; rfl
  have hhp : s'.heap = H := by rw [hA]; exact hT
  have hW0 : s.WarmedH s'.vm := by rw [hvm]; exact State.WarmedH.refl s
  have hat' : ∀ w ∈ vx_at0 own ic cls names, w.before args s' = true := fun w hw => vx_ot_at hW0 hvm.symm (hgood w (List.mem_cons_of_mem _ (List.mem_cons_of_mem _ hw))) (hat w hw)
  have hk' : (Cond.classLink own ik cls).before args s' = true := vx_ot_at hW0 hvm.symm (hgood _ List.mem_cons_self) hk
  have hini' : (Cond.initialized cls).before args s' = true := vx_ot_at hW0 hvm.symm (hgood _ (List.mem_cons_of_mem _ List.mem_cons_self)) hini
  have hU' : vx_Zq Bundle.tN "UNASSIGNED_STACK" Bundle.steD A s' s'.heap := by rw [hhp]; exact vx_Zq.moved hW0.alike (hU.kept hS.2.1)
  have hN' : vx_Zq Bundle.tN "SUPPRESSED_SENTINEL" Bundle.listD A s' s'.heap := by rw [hhp]; exact vx_Zq.moved hW0.alike (hN.kept hS.2.1)
  have h : ∀ w ∈ Bundle.ownAtoms0 own ic cls names, w.before args s' = true := vx_own hat' (vx_isRefq hU'.1) (vx_isRefq hN'.1) hU'.2.word hN'.2.word
  have hown' : s'.vm.findClass own = some m.cls := by rw [hvm]; exact hown
  have hins : (Cond.instantiable cls 6).before args s' = true := h _ (by simp [Bundle.ownAtoms0])
  obtain ⟨vm₁, cX, kX, hfX, hkX, -, -, X₁, st1⟩ := Y.newCold hexec (own := own) (C := cls) (index := ik) (n := 6) hown' hk' hins hini'
    (g := F0 m pc ls rest) rfl (by rw [hb]; exact d0) (Nat.le_refl _) (Nat.le_refl _)
  generalize hT1 : (T.setVm vm₁).pushCell { cls := cX, slots := kX.instanceTypes.map defaultValue, vm := .none } = T1 at X₁ st1
  have hcat : (Value.ref T.heap.size).category = 1 := rfl
  have hcellA : T1.heap[T.heap.size]? = some (freshCell cX kX) := by rw [← hT1]; exact State.heap_pushCell_size _ _
  have d3' : decode c.code (pc + 3) = .ok (.dup, 1) := by rw [hb]; exact d3
  obtain ⟨U, hsteps, hrun, hend, hW, hsame, ce, hce, hO⟩ := X₁.ctorThrow0 hexec htr (own := own) (cls := cls) (names := names) (ic := ic) hown' hcls hnames h (fun x hx => nomatch hx) hfX hkX hcellA (by rw [hhp, hT]; exact Nat.le_refl _)
    (g := { method := m, pc := pc + 4, locals := ls, stack := .ref T.heap.size :: .ref T.heap.size :: rest, locked := none }) rfl hsize rfl rfl (rest := rest) rfl
    (by rw [hb]; exact d4) (by rw [hb]; exact d7) hout hRframes (by simp only [List.map_cons, List.sum_cons, hcat]; omega) hlocks
  obtain ⟨f1, f2⟩ := vx_frame hsame
  rw [hhp] at f1 f2
  have hWs : s.WarmedH U.vm := State.WarmedH.trans hW0 hW
  have hcl : s.vm.findClass cls = some ce.cls := by
    have h9 := hO.cls
    rw [hvm] at h9
    exact h9
  have hall : s.sameButNew ({ U with vm := s.vm } : State) locs mc ms := by
    subst hA
    obtain ⟨e1, e2⟩ := hsame
    rw [State.setFrames_setFrames] at e1
    have h2 : (T.setVm s.vm).sameButNew ({ U with vm := s.vm } : State) [] (0 + 1) (0 + 6) := ⟨e1, e2⟩
    have h3 := X.same.trans h2
    rw [List.append_nil] at h3
    exact h3.mono hc hs
  refine ⟨U, ?_, .threw T.heap.size, hrun, hend, Or.inr ⟨T.heap.size, rfl, cls, ce, locs, hx U hWs.alike f1 (fun q hq => f2 q hq (fun z hz => nomatch hz)), hce, hO.vm, hcl, hWs, hall, hf⟩⟩
  refine st1 _ ?_
  show Steps p.tables e below (T1.setTop { method := m, pc := pc + 3, locals := ls, stack := .ref T.heap.size :: rest, locked := none }) _
  jvm_step X₁.here [X₁.here.top, hexec, d3', Value.category]
  exact hsteps
/-- 'throw new E("text")': new; dup; ldc; invokespecial; athrow -/
theorem vx_throwS {cc : ByteArray} {pc : Nat} (hexec : p.tables.exec = Jvm.exec) (hb : c.code = cc) (hl : l.stackTraces = false) {own cls text : String} {names : List String} {ik is ic mc ms sa : Nat} {A : Nat → Prop}
    (hown : s.vm.findClass own = some m.cls) (hcls : Bundle.fit cls = true) (hnames : ∀ n ∈ names, Bundle.fit n = true)
    (hk : (Cond.classLink own ik cls).before args s = true) (hini : (Cond.initialized cls).before args s = true) (hstr : vk_R own is text sa s) (hat : ∀ w ∈ vx_atS own ic cls names, w.before args s = true)
    (hgood : ∀ w ∈ Cond.classLink own ik cls :: Cond.initialized cls :: vx_atS own ic cls names, vx_ot w = true)
    (hU : vx_Zq Bundle.tN "UNASSIGNED_STACK" Bundle.steD A s s.heap) (hN : vx_Zq Bundle.tN "SUPPRESSED_SENTINEL" Bundle.listD A s s.heap) (hS : va_S A s.heap H locs) (hsize : ls.size = c.maxLocals)
    (d0 : decode cc pc = .ok (.new ik, 3)) (d3 : decode cc (pc + 3) = .ok (.dup, 1)) (d4 : decode cc (pc + 4) = .ok (.ldc is, 2)) (d6 : decode cc (pc + 6) = .ok (.invokespecial ic, 3)) (d9 : decode cc (pc + 9) = .ok (.athrow, 1))
    (hout : ∀ x ∈ c.exceptionTable.toList, covers x (pc + 9) = false)
    (hRframes : names.length + 3 < R.frames) (hRlocals : (rest.map fun v => v.category).sum + (13 * (names.length + 1) + 43) ≤ R.locals) (hRcells : cells + 1 ≤ R.cells) (hRslots : slots + 6 ≤ R.slots) (hlocks : meth.locks = false)
    (hx : ∀ t : State, s.vm.Alike t.vm → H.size ≤ t.heap.size → (∀ q : Nat, q < H.size → t.heap[q]? = H[q]?) → XC cls s t)
    (hf : ∀ z ∈ locs, free z.base) (hc : cells + 1 ≤ mc) (hs : slots + 6 ≤ ms) :
    W p l e R s m args below meth c H locs cells slots (vx_MQ below Qc XC args s mc ms free) (F0 m pc ls rest) := by
  intro T hT X
  have htr : e.platform.stackTraces = false := (show e.platform.stackTraces = l.stackTraces by rw [X.admits.platform]).trans hl
  have Y := vx_rebase X (R' := { frames := R.frames, locals := R.locals, cells := 1, slots := 6 }) (Nat.le_refl _) (Nat.le_refl _) hRcells hRslots
  obtain ⟨s', hA⟩ : ∃ z, z = (T.setVm s.vm).setFrames (.invoking m args :: below) := ⟨_, rfl⟩
  rw [← hA] at Y
  have hvm : s'.vm = s.vm := by rw [hA]; rfl
  have hhp : s'.heap = H := by rw [hA]; exact hT
  have hW0 : s.WarmedH s'.vm := by rw [hvm]; exact State.WarmedH.refl s
  have hat' : ∀ w ∈ vx_atS own ic cls names, w.before args s' = true := fun w hw => vx_ot_at hW0 hvm.symm (hgood w (List.mem_cons_of_mem _ (List.mem_cons_of_mem _ hw))) (hat w hw)
  have hk' : (Cond.classLink own ik cls).before args s' = true := vx_ot_at hW0 hvm.symm (hgood _ List.mem_cons_self) hk
  have hini' : (Cond.initialized cls).before args s' = true := vx_ot_at hW0 hvm.symm (hgood _ (List.mem_cons_of_mem _ List.mem_cons_self)) hini
  have hU' : vx_Zq Bundle.tN "UNASSIGNED_STACK" Bundle.steD A s' s'.heap := by rw [hhp]; exact vx_Zq.moved hW0.alike (hU.kept hS.2.1)
  have hN' : vx_Zq Bundle.tN "SUPPRESSED_SENTINEL" Bundle.listD A s' s'.heap := by rw [hhp]; exact vx_Zq.moved hW0.alike (hN.kept hS.2.1)
  have h : ∀ w ∈ Bundle.ownAtoms own ic cls names, w.before args s' = true := vx_own hat' (vx_isRefq hU'.1) (vx_isRefq hN'.1) hU'.2.word hN'.2.word
  have hown' : s'.vm.findClass own = some m.cls := by rw [hvm]; exact hown
  have hins : (Cond.instantiable cls 6).before args s' = true := h _ (by simp [Bundle.ownAtoms])
  obtain ⟨vm₁, cX, kX, hfX, hkX, -, -, X₁, st1⟩ := Y.newCold hexec (own := own) (C := cls) (index := ik) (n := 6) hown' hk' hins hini'
    (g := F0 m pc ls rest) rfl (by rw [hb]; exact d0) (Nat.le_refl _) (Nat.le_refl _)
  generalize hT1 : (T.setVm vm₁).pushCell { cls := cX, slots := kX.instanceTypes.map defaultValue, vm := .none } = T1 at X₁ st1
  have hcat : (Value.ref T.heap.size).category = 1 := rfl
  have hcellA : T1.heap[T.heap.size]? = some (freshCell cX kX) := by rw [← hT1]; exact State.heap_pushCell_size _ _
  have d3' : decode c.code (pc + 3) = .ok (.dup, 1) := by rw [hb]; exact d3
  have d4' : decode c.code (pc + 4) = .ok (.ldc is, 2) := by rw [hb]; exact d4
  have hstr' : vk_R own is text sa s' := vk_R.warm hW0 hstr
  obtain ⟨U, hsteps, hrun, hend, hW, hsame, ce, hce, hO⟩ := X₁.ctorThrowS hexec htr (own := own) (cls := cls) (names := names) (ic := ic) hown' hcls hnames h (fun x hx => nomatch hx) hfX hkX hcellA (by rw [hhp, hT]; exact Nat.le_refl _) (msg := .ref sa) rfl
    (g := { method := m, pc := pc + 6, locals := ls, stack := .ref sa :: .ref T.heap.size :: .ref T.heap.size :: rest, locked := none }) rfl hsize rfl rfl (rest := rest) rfl
    (by rw [hb]; exact d6) (by rw [hb]; exact d9) hout hRframes (by simp only [List.map_cons, List.sum_cons, hcat]; omega) hlocks
  obtain ⟨f1, f2⟩ := vx_frame hsame
  rw [hhp] at f1 f2
  have hWs : s.WarmedH U.vm := State.WarmedH.trans hW0 hW
  have hcl : s.vm.findClass cls = some ce.cls := by
    have h9 := hO.cls
    rw [hvm] at h9
    exact h9
  have hall : s.sameButNew ({ U with vm := s.vm } : State) locs mc ms := by
    subst hA
    obtain ⟨e1, e2⟩ := hsame
    rw [State.setFrames_setFrames] at e1
    have h2 : (T.setVm s.vm).sameButNew ({ U with vm := s.vm } : State) [] (0 + 1) (0 + 6) := ⟨e1, e2⟩
    have h3 := X.same.trans h2
    rw [List.append_nil] at h3
    exact h3.mono hc hs
  refine ⟨U, ?_, .threw T.heap.size, hrun, hend, Or.inr ⟨T.heap.size, rfl, cls, ce, locs, hx U hWs.alike f1 (fun q hq => f2 q hq (fun z hz => nomatch hz)), hce, hO.vm, hcl, hWs, hall, hf⟩⟩
  refine st1 _ ?_
  show Steps p.tables e below (T1.setTop { method := m, pc := pc + 3, locals := ls, stack := .ref T.heap.size :: rest, locked := none }) _
  jvm_step X₁.here [X₁.here.top, hexec, d3', Value.category]
  exact X₁.ldcString hexec (own := own) (text := text) (index := is) (a := sa) hown' hstr'.1 hstr'.2
    (g := { method := m, pc := pc + 4, locals := ls, stack := .ref T.heap.size :: .ref T.heap.size :: rest, locked := none }) rfl d4' _ hsteps
/-- 'throw new E("text")', the text by a wide index -/
theorem vx_throwSW {cc : ByteArray} {pc : Nat} (hexec : p.tables.exec = Jvm.exec) (hb : c.code = cc) (hl : l.stackTraces = false) {own cls text : String} {names : List String} {ik is ic mc ms sa : Nat} {A : Nat → Prop}
    (hown : s.vm.findClass own = some m.cls) (hcls : Bundle.fit cls = true) (hnames : ∀ n ∈ names, Bundle.fit n = true)
    (hk : (Cond.classLink own ik cls).before args s = true) (hini : (Cond.initialized cls).before args s = true) (hstr : vk_R own is text sa s) (hat : ∀ w ∈ vx_atS own ic cls names, w.before args s = true)
    (hgood : ∀ w ∈ Cond.classLink own ik cls :: Cond.initialized cls :: vx_atS own ic cls names, vx_ot w = true)
    (hU : vx_Zq Bundle.tN "UNASSIGNED_STACK" Bundle.steD A s s.heap) (hN : vx_Zq Bundle.tN "SUPPRESSED_SENTINEL" Bundle.listD A s s.heap) (hS : va_S A s.heap H locs) (hsize : ls.size = c.maxLocals)
    (d0 : decode cc pc = .ok (.new ik, 3)) (d3 : decode cc (pc + 3) = .ok (.dup, 1)) (d4 : decode cc (pc + 4) = .ok (.ldc_w is, 3)) (d7 : decode cc (pc + 7) = .ok (.invokespecial ic, 3)) (d10 : decode cc (pc + 10) = .ok (.athrow, 1))
    (hout : ∀ x ∈ c.exceptionTable.toList, covers x (pc + 10) = false)
    (hRframes : names.length + 3 < R.frames) (hRlocals : (rest.map fun v => v.category).sum + (13 * (names.length + 1) + 43) ≤ R.locals) (hRcells : cells + 1 ≤ R.cells) (hRslots : slots + 6 ≤ R.slots) (hlocks : meth.locks = false)
    (hx : ∀ t : State, s.vm.Alike t.vm → H.size ≤ t.heap.size → (∀ q : Nat, q < H.size → t.heap[q]? = H[q]?) → XC cls s t)
    (hf : ∀ z ∈ locs, free z.base) (hc : cells + 1 ≤ mc) (hs : slots + 6 ≤ ms) :
    W p l e R s m args below meth c H locs cells slots (vx_MQ below Qc XC args s mc ms free) (F0 m pc ls rest) := by
  intro T hT X
  have htr : e.platform.stackTraces = false := (show e.platform.stackTraces = l.stackTraces by rw [X.admits.platform]).trans hl
  have Y := vx_rebase X (R' := { frames := R.frames, locals := R.locals, cells := 1, slots := 6 }) (Nat.le_refl _) (Nat.le_refl _) hRcells hRslots
  obtain ⟨s', hA⟩ : ∃ z, z = (T.setVm s.vm).setFrames (.invoking m args :: below) := ⟨_, rfl⟩
  rw [← hA] at Y
  have hvm : s'.vm = s.vm := by rw [hA]; rfl
  have hhp : s'.heap = H := by rw [hA]; exact hT
  have hW0 : s.WarmedH s'.vm := by rw [hvm]; exact State.WarmedH.refl s
  have hat' : ∀ w ∈ vx_atS own ic cls names, w.before args s' = true := fun w hw => vx_ot_at hW0 hvm.symm (hgood w (List.mem_cons_of_mem _ (List.mem_cons_of_mem _ hw))) (hat w hw)
  have hk' : (Cond.classLink own ik cls).before args s' = true := vx_ot_at hW0 hvm.symm (hgood _ List.mem_cons_self) hk
  have hini' : (Cond.initialized cls).before args s' = true := vx_ot_at hW0 hvm.symm (hgood _ (List.mem_cons_of_mem _ List.mem_cons_self)) hini
  have hU' : vx_Zq Bundle.tN "UNASSIGNED_STACK" Bundle.steD A s' s'.heap := by rw [hhp]; exact vx_Zq.moved hW0.alike (hU.kept hS.2.1)
  have hN' : vx_Zq Bundle.tN "SUPPRESSED_SENTINEL" Bundle.listD A s' s'.heap := by rw [hhp]; exact vx_Zq.moved hW0.alike (hN.kept hS.2.1)
  have h : ∀ w ∈ Bundle.ownAtoms own ic cls names, w.before args s' = true := vx_own hat' (vx_isRefq hU'.1) (vx_isRefq hN'.1) hU'.2.word hN'.2.word
  have hown' : s'.vm.findClass own = some m.cls := by rw [hvm]; exact hown
  have hins : (Cond.instantiable cls 6).before args s' = true := h _ (by simp [Bundle.ownAtoms])
  obtain ⟨vm₁, cX, kX, hfX, hkX, -, -, X₁, st1⟩ := Y.newCold hexec (own := own) (C := cls) (index := ik) (n := 6) hown' hk' hins hini'
    (g := F0 m pc ls rest) rfl (by rw [hb]; exact d0) (Nat.le_refl _) (Nat.le_refl _)
  generalize hT1 : (T.setVm vm₁).pushCell { cls := cX, slots := kX.instanceTypes.map defaultValue, vm := .none } = T1 at X₁ st1
  have hcat : (Value.ref T.heap.size).category = 1 := rfl
  have hcellA : T1.heap[T.heap.size]? = some (freshCell cX kX) := by rw [← hT1]; exact State.heap_pushCell_size _ _
  have d3' : decode c.code (pc + 3) = .ok (.dup, 1) := by rw [hb]; exact d3
  have d4' : decode c.code (pc + 4) = .ok (.ldc_w is, 3) := by rw [hb]; exact d4
  have hstr' : vk_R own is text sa s' := vk_R.warm hW0 hstr
  obtain ⟨U, hsteps, hrun, hend, hW, hsame, ce, hce, hO⟩ := X₁.ctorThrowS hexec htr (own := own) (cls := cls) (names := names) (ic := ic) hown' hcls hnames h (fun x hx => nomatch hx) hfX hkX hcellA (by rw [hhp, hT]; exact Nat.le_refl _) (msg := .ref sa) rfl
    (g := { method := m, pc := pc + 7, locals := ls, stack := .ref sa :: .ref T.heap.size :: .ref T.heap.size :: rest, locked := none }) rfl hsize rfl rfl (rest := rest) rfl
    (by rw [hb]; exact d7) (by rw [hb]; exact d10) hout hRframes (by simp only [List.map_cons, List.sum_cons, hcat]; omega) hlocks
  obtain ⟨f1, f2⟩ := vx_frame hsame
  rw [hhp] at f1 f2
  have hWs : s.WarmedH U.vm := State.WarmedH.trans hW0 hW
  have hcl : s.vm.findClass cls = some ce.cls := by
    have h9 := hO.cls
    rw [hvm] at h9
    exact h9
  have hall : s.sameButNew ({ U with vm := s.vm } : State) locs mc ms := by
    subst hA
    obtain ⟨e1, e2⟩ := hsame
    rw [State.setFrames_setFrames] at e1
    have h2 : (T.setVm s.vm).sameButNew ({ U with vm := s.vm } : State) [] (0 + 1) (0 + 6) := ⟨e1, e2⟩
    have h3 := X.same.trans h2
    rw [List.append_nil] at h3
    exact h3.mono hc hs
  refine ⟨U, ?_, .threw T.heap.size, hrun, hend, Or.inr ⟨T.heap.size, rfl, cls, ce, locs, hx U hWs.alike f1 (fun q hq => f2 q hq (fun z hz => nomatch hz)), hce, hO.vm, hcl, hWs, hall, hf⟩⟩
  refine st1 _ ?_
  show Steps p.tables e below (T1.setTop { method := m, pc := pc + 3, locals := ls, stack := .ref T.heap.size :: rest, locked := none }) _
  jvm_step X₁.here [X₁.here.top, hexec, d3', Value.category]
  exact X₁.ldcStringW hexec (own := own) (text := text) (index := is) (a := sa) hown' hstr'.1 hstr'.2
    (g := { method := m, pc := pc + 4, locals := ls, stack := .ref T.heap.size :: .ref T.heap.size :: rest, locked := none }) rfl d4' _ hsteps
end Ends
section Bodies
variable {l : Launch}
theorem vx_ofW {y : MethodName} {ws ws' : List Cond} {rm : Room} {Pc : Array Value → State → Prop} {Qc : Array Value → State → Outcome → State → Prop} {XC : String → State → State → Prop} {mc ms : Nat} {free : Addr → Prop} {cc : ByteArray} {maxL : Nat} {ret : Option FieldType}
    (hy : plainName y.cls = true) (hw : ws = Cond.code y cc maxL ret :: ws')
    (body : ∀ p e s m args below meth c s₁, BodyLoose p l y (headSpec ws rm) cc maxL ret e s m args below meth c s₁ → c.maxLocals = maxL → (∀ x ∈ c.exceptionTable.toList, False) → Pc args s →
      W p l e (headSpec ws rm).room s m args below meth c s.heap [] 0 0 (vx_MQ below Qc XC args s mc ms free) (entryFrame m args maxL)) : vx_Met l y ws rm Pc Qc XC mc ms free := by
  refine MetFree.of_bodyS (code := cc) (maxLocals := maxL) (ret := ret) hy ?_ ?_
  · intro args s m h hn
    obtain ⟨meth, c, h1, h2, h3, h4, h5, h6, -, -⟩ := Cond.code_spec hn (atoms_spec (ws := ws) h _ (by rw [hw]; exact List.mem_cons_self))
    exact ⟨meth, c, h1, h2, h3, h4, h5, h6⟩
  · intro p e s m args below meth c s₁ B hml hP _
    have hh0 : s₁.heap = s.heap := by rw [B.state]; rfl
    have ht : ∀ x ∈ c.exceptionTable.toList, False := by
      obtain ⟨meth9, c9, h1, h2, -, -, -, -, h7, -⟩ := Cond.code_spec B.named (atoms_spec (ws := ws) B.pre _ (by rw [hw]; exact List.mem_cons_self))
      cases Option.some.inj (h1.symm.trans B.method)
      cases Option.some.inj (h2.symm.trans (Stand.of_body B).code)
      intro x hx
      rw [Array.isEmpty_iff.mp h7] at hx
      cases hx
    obtain ⟨t, a1, o, b1, b2, b3⟩ := body p e s m args below meth c s₁ B hml ht hP s₁ hh0 (Stand.of_body B)
    exact ⟨t, o, a1, b1, b2, b3⟩
/-- the table of a body with handlers -/
theorem vx_table {p : Program} {x y : MethodName} {S : Spec} {cc bytes : ByteArray} {maxL maxL' : Nat} {ret ret' : Option FieldType} {e : Env} {s s₁ : State} {m : MethodId} {args : Array Value} {below : List Frame} {meth : Method} {c : Code} {hh : List (Nat × Nat × Nat × Nat)}
    (B : BodyLoose p l y S cc maxL ret e s m args below meth c s₁) (h : (Cond.codeWith y bytes maxL' ret' hh).before args s = true) : c.exceptionTable.toList = tableOf hh := by
  obtain ⟨m9, meth9, c9, hn9, h1, h2, -, -, h6, -⟩ := Cond.codeWith_spec h
  cases Option.some.inj (hn9.symm.trans B.named)
  cases Option.some.inj (h1.symm.trans B.method)
  cases Option.some.inj (h2.symm.trans (Stand.of_body B).code)
  rw [← h6, table_eq]
end Bodies
end VXA
/-! ===== END ===== -/
/-! ===== BEGIN a static call of a method with an exception table ===== -/
section VXS
variable {p : Program} {l : Launch} {e : Env} {R : Room} {s : State} {m : MethodId} {args : Array Value} {below : List Frame} {meth : Method} {c : Code} {T : State} {H : Heap} {locs : List Loc} {cells slots : Nat}
abbrev vx_CSW (R : Room) (s : State) (args : Array Value) (own : String) (index : Nat) (y : MethodName) (bytes : ByteArray) (maxL : Nat) (ret : Option FieldType) (hh : List (Nat × Nat × Nat × Nat)) (ws : List Cond) (rm : Room) (mc ms n : Nat) : Prop :=
  (rm.cells = mc ∧ rm.slots = ms ∧ rm.frames + 1 ≤ R.frames ∧ 8 + (maxL + 11) + rm.locals ≤ R.locals ∧ (∀ w ∈ ws, ∀ (a' : Array Value) (U : State), s.WarmedH U.vm → w.before a' U = true) ∧ Cond.codeWith y bytes maxL ret hh ∈ ws) ∧
  (Cond.codeWith y bytes maxL ret hh).before args s = true ∧ (Cond.initialized y.cls).before args s = true ∧ (y.cls ≠ "java/lang/invoke/MethodHandle" ∧ y.cls ≠ "java/lang/invoke/VarHandle") ∧
  (∀ sig, parseMethodDescriptor y.desc = some sig → n = sig.parameters.length) ∧ (Cond.methodLink own index y).before args s = true ∧ (Cond.static y).before args s = true
theorem vx_cwSW {own : String} {index maxL mc ms : Nat} {y : MethodName} {bytes : ByteArray} {ret : Option FieldType} {hh : List (Nat × Nat × Nat × Nat)} {Ts ws ws' : List Cond} {rm : Room} (n : Nat) (ht : ∀ w ∈ Ts, w.before args s = true) (hT : GoodIn Ts (va_wsS own index y ws)) (hw : ws = Cond.codeWith y bytes maxL ret hh :: ws') (hrc : rm.cells = mc) (hrs : rm.slots = ms)
    (hd : y.cls ≠ "java/lang/invoke/MethodHandle" ∧ y.cls ≠ "java/lang/invoke/VarHandle" ∧ (parseMethodDescriptor y.desc).map (fun d => d.parameters.length) = some n) (hR : rm.frames + 1 ≤ R.frames ∧ 8 + (maxL + 11) + rm.locals ≤ R.locals) :
    vx_CSW R s args own index y bytes maxL ret hh ws rm mc ms n := by
  have ok : ∀ w ∈ va_wsS own index y ws, w.before args s = true := fun w h => ht w (hT w h).1
  have hG : GoodIn Ts ws := fun w h => hT w (by unfold va_wsS; exact List.mem_append_right _ h)
  have hc : Cond.codeWith y bytes maxL ret hh ∈ ws := by rw [hw]; exact List.mem_cons_self
  refine ⟨⟨hrc, hrs, hR.1, hR.2, pay_in ht hG, hc⟩, ht _ (hG _ hc).1, ok _ (by simp [va_wsS]), ⟨hd.1, hd.2.1⟩, fun sig h => ?_, ok _ (by simp [va_wsS]), ok _ (by simp [va_wsS])⟩
  have h2 := hd.2.2
  rw [h] at h2
  exact (Option.some.inj h2).symm
theorem vx_callSW (X : Stand p l e R s m args below meth c T locs cells slots) (hexec : p.tables.exec = Jvm.exec) {own : String} {index : Nat} {y : MethodName} {bytes : ByteArray} {maxL : Nat} {ret : Option FieldType} {hh : List (Nat × Nat × Nat × Nat)}
    (hown : s.vm.findClass own = some m.cls) (hlink : (Cond.methodLink own index y).before args s = true) (hstat : (Cond.static y).before args s = true) (hinit : (Cond.initialized y.cls).before args s = true)
    (hcode : (Cond.codeWith y bytes maxL ret hh).before args s = true) (hy : y.cls ≠ "java/lang/invoke/MethodHandle" ∧ y.cls ≠ "java/lang/invoke/VarHandle")
    {W9 : Nat} {Pre : Pt → Array Value → Prop} {Post : Pt → Array Value → Option Value → Pt → Prop} (hK : Back l R p e below s args y 3 W9 Pre Post)
    {g : JFrame} (hg : g.method = m) (hsize : g.locals.size = c.maxLocals) {argsL rest : List Value} (hlen : ∀ sig, parseMethodDescriptor y.desc = some sig → argsL.length = sig.parameters.length)
    (hstack : g.stack = argsL.reverse ++ rest) (hW : 2 * g.monitorRoom + (rest.map fun v => v.category).sum ≤ W9) (hdg : decode c.code g.pc = .ok (.invokestatic index, 3))
    (hpre : ∀ vm₁, s.WarmedH vm₁ → Pre ⟨T.setVm vm₁, locs, cells, slots⟩ argsL.toArray) :
    ∃ (v : Option Value) (vm₁ : Vm) (B : Pt), s.WarmedH vm₁ ∧ Stand p l e R s m args below meth c B.U B.locs B.cells B.slots ∧ Post ⟨T.setVm vm₁, locs, cells, slots⟩ argsL.toArray v B ∧
      ∀ target, Steps p.tables e below (B.U.setTop { g with pc := g.pc + 3, stack := v.toList ++ rest }) target → Steps p.tables e below (T.setTop g) target := by
  obtain ⟨mk, methM, cM, hnamed, hmethM, -, -, -, -, -, -, hsigM⟩ := Cond.codeWith_spec hcode
  have hstatic : methM.isStatic = true := Cond.static_spec hnamed hmethM hstat
  obtain ⟨kP, hkP, -⟩ := className_of_methodNamed hnamed
  have hinitP : kP.init = .initialized := Cond.initialized_spec (findClass_of_methodNamed hnamed) hkP hinit
  obtain ⟨vm₁, X₁, hstep₁⟩ := X.invokestatic hexec hown hlink hnamed hmethM hstatic hkP hinitP hy (g := g) hg (argsL := argsL) (rest := rest) (hlen _ hsigM) hstack hdg
  obtain ⟨v, B, X', hpost, hsteps⟩ := hK m meth c ⟨T.setVm vm₁, locs, cells, slots⟩ { g with stack := rest } (.invokestatic index) mk argsL.toArray X₁ hg hsize hdg hW (X₁.named hnamed) (hpre vm₁ X₁.warmed)
  exact ⟨v, vm₁, B, X₁.warmed, X', hpost, fun target h => hstep₁ _ fun acts => by rw [doInvoke_state]; exact hsteps.trans h⟩
theorem vx_runSW {y : MethodName} {bytes cc : ByteArray} {maxL nL mc ms n index : Nat} {ret : Option FieldType} {hh : List (Nat × Nat × Nat × Nat)} {ws : List Cond} {rm : Room} {Pc : Array Value → State → Prop} {Qc : Array Value → State → Outcome → State → Prop} {free : Addr → Prop} {Ts : List Cond} {own : String} {As rest : List Value} {g : JFrame}
    (S : CallFix p m c cc nL s args Ts own) (hM : Met l y ws rm Pc Qc mc ms free) (cw : vx_CSW R s args own index y bytes maxL ret hh ws rm mc ms n) (hp : PreS s H Pc As)
    (hg : g.method = m) (hn : As.length = n) (hsize : g.locals.size = nL) (hstack : g.stack = As.reverse ++ rest) (hW : 2 * g.monitorRoom + (rest.map fun v => v.category).sum ≤ 8) (hdg : decode cc g.pc = .ok (.invokestatic index, 3)) (hf : cells + mc ≤ R.cells ∧ slots + ms ≤ R.slots) :
    va_Run p l e R s m args below meth c H locs cells slots mc ms g rest (Qc As.toArray) (free) := by
  obtain ⟨⟨hrc, hrs, hfr, hlo, hws, hcw⟩, hcode, hini, hy, hlen, hl, hstt⟩ := cw
  have hK : Back l R p e below s args y 3 8 (PreOf R mc ms Pc) (PostOf Qc mc ms free) := va_backW (hh := hh) (bytes := bytes) (maxL := maxL) (ret := ret) hM hp.1 hrc hrs hfr hlo hws hcw (fun a' U hW => word_at hW (Or.inl (by first | rfl | simp [Cond.onTables, Cond.keeps, Cond.steady])) hini)
  obtain ⟨hx, hb, hml, ho, -⟩ := S
  intro T hT X
  obtain ⟨v, vm₁, ⟨U', l2, c2, s2⟩, hW₁, X', ⟨g', mk, t, L, e1, e2, hq, h1, hL, h2, h3⟩, st⟩ := vx_callSW X hx (hh := hh) (bytes := bytes) (maxL := maxL) (ret := ret) ho hl hstt hini hcode hy hK hg (hsize.trans hml.symm) (argsL := As) (rest := rest) (fun sig h => hn.trans (hlen sig h)) hstack hW (by rw [hb]; exact hdg)
    (fun vm₁ hW₁ => ⟨hf.1, hf.2, hp.2 (T.setVm vm₁) hT hW₁⟩)
  dsimp only [Pt.U, Pt.locs, Pt.cells, Pt.slots] at X' e1 e2 h1 h2 h3 st
  subst h1; subst h2; subst h3
  exact ⟨v, (T.setVm vm₁).calling g' mk As.toArray, t, U', L, hT, X', hL, e1, e2, hq, st⟩
/-- not caught here, past rows that name other classes: it goes on to the caller -/
theorem vx_outP {p : Program} {l : Launch} {e : Env} {R : Room} {s : State} {m : MethodId} {args : Array Value} {below : List Frame} {meth : Method} {c : Code} {H : Heap} {locs : List Loc} {cells slots : Nat} {free : Addr → Prop} {ls : Array Slot} {rest : List Value} {Qc : Array Value → State → Outcome → State → Prop} {XC : String → State → State → Prop}
    {pc : Nat} {own E : String} {ce : Cell} {q : Addr} {mc ms : Nat} (hown : s.vm.findClass own = some m.cls) (hlocks : meth.locks = false)
    (hpass : ∀ z ∈ c.exceptionTable.toList, covers z pc = false ∨ (z.catchType ≠ 0 ∧ ∃ nm : String, (Cond.classLink own z.catchType nm).before args s = true ∧ va_Nc E nm s)) (hcell : H[q]? = some ce) (hv : ce.vm = .none) (hcl : s.vm.findClass E = some ce.cls)
    (hx : ∀ t : State, t.heap = H → s.vm.Alike t.vm → XC E s t) (hf : ∀ z ∈ locs, free z.base) (hc : cells ≤ mc) (hs : slots ≤ ms) :
    vx_W p l e R s m args below meth c H locs cells slots (vx_MQ below Qc XC args s mc ms free) (F0 m pc ls rest) q := by
  intro T hT X
  have hpl : e.platform.magicAccessors = ({} : Platform).magicAccessors := by rw [X.admits.platform]
  obtain ⟨vm', hW', X', st⟩ := X.outThrough hlocks q (g := F0 m pc ls rest) rfl rfl rfl (cell := ce) (by rw [hT]; exact hcell) (by rw [hv]; rfl)
    (by obtain ⟨k9, h9, -⟩ := Vm.findClass_spec hcl; exact ⟨k9, h9⟩) (fun z hz => by
      rcases hpass z hz with h | ⟨hz0, nm, hl1, hn1⟩
      · exact Or.inl h
      · obtain ⟨c6, hc6, hcl6⟩ := Cond.classLink_spec hown hl1 e.platform hpl
        obtain ⟨a8, b8, h1, h2, h3⟩ := hn1
        cases Option.some.inj (h1.symm.trans hcl)
        cases Option.some.inj (h2.symm.trans hc6)
        exact Or.inr ⟨hz0, _, hcl6, h3⟩)
  obtain ⟨g₀, hfr⟩ := X'.frames_eq
  have hcell9 : ((T.setVm vm').setFrames (.throwing q :: below)).heap[q]? = some ce := by
    show T.heap[q]? = some ce
    rw [hT]; exact hcell
  have hend : Ended ((T.setVm vm').setFrames (.throwing q :: below)) below (.threw q) := State.frames_setFrames _ (State.cur_lt_of_frames hfr)
  refine ⟨(T.setVm vm').setFrames (.throwing q :: below), ?_, .threw q, X'.here.running, hend, Or.inr ⟨q, rfl, E, ce, locs, hx _ hT (X'.ends _).1.alike, hcell9, hv, hcl, (X'.ends _).1, (X'.ends _).2.mono hc hs, hf⟩⟩
  rw [X.pushThrowing_eq]
  exact st
/-- a thing of a world lies in the heap -/
theorem vx_lt {D : va_G} {cl : List vw_C} {ws : va_W} {H1 : Heap} (h : va_P D cl ws H1) {k : Nat} {q : Nat × va_E} (hk : ws[k]? = some q) : q.1 < H1.size := (h k q hk).lt
end VXS
/-! ===== END ===== -/
/-! ===== BEGIN methods with a table of their own: called by a name, returning or throwing ===== -/
section VXH
/-! vx_backW, vx_callVX, vx_callSX, vx_callVW, vx_runVW, vx_runVX, vx_runSX, vx_ofWH follow the same proofs as their sisters above (Free/Laws.lean, Shelf42/LK1.lean); vx_outP calls Shelf42/NT130.lean (outThrough). -/
section
variable {l : Launch} {R : Room} {p : Program} {e : Env} {below : List Frame} {s : State} {sargs : Array Value} {y : MethodName} {len W9 : Nat}
theorem vx_backW {ws : List Cond} {rm : Room} {Pc : Array Value → State → Prop} {Qc : Array Value → State → Outcome → State → Prop} {XC : String → State → State → Prop} {mc ms : Nat} {free : Addr → Prop} {bytes : ByteArray} {maxL : Nat} {ret : Option FieldType} {hh : List (Nat × Nat × Nat × Nat)}
    (hM : vx_Met l y ws rm Pc Qc XC mc ms free) (hblind : FrameBlind Pc) (hrc : rm.cells = mc) (hrs : rm.slots = ms)
    (hframes : rm.frames + 1 ≤ R.frames) (hlocals : W9 + (maxL + 11) + rm.locals ≤ R.locals)
    (hws : ∀ w ∈ ws, ∀ a' U, s.WarmedH U.vm → w.before a' U = true) (hcode : Cond.codeWith y bytes maxL ret hh ∈ ws) (hinit : ∀ a' U, s.WarmedH U.vm → (Cond.initialized y.cls).before a' U = true) :
    vx_Back l R p e below s sargs y len W9 (PreOf R mc ms Pc) (PostOf Qc mc ms free) (vx_Post XC mc ms free) := by
  intro m meth c A g ig mk a X hg hsize hdg hW hn hp
  have h1 : (headSpec ws rm).pre.before a A.U = true := atoms_intro fun w hw => hws w hw _ _ X.warmed
  have h2 : (Cond.codeWith y bytes maxL ret hh).before a A.U = true := hws _ hcode _ _ X.warmed
  have h3 : (Cond.initialized y.cls).before a A.U = true := hinit _ _ X.warmed
  have h4 : A.cells + (headSpec ws rm).room.cells ≤ R.cells := by rw [show (headSpec ws rm).room.cells = mc from hrc]; exact hp.1
  have h5 : A.slots + (headSpec ws rm).room.slots ≤ R.slots := by rw [show (headSpec ws rm).room.slots = ms from hrs]; exact hp.2.1
  have hPc : Pc a (A.U.calling g mk a) := hblind _ _ _ _ hp.2.2
  obtain ⟨U, Ls, c0, s0⟩ := A
  dsimp only [Pt.U, Pt.locs, Pt.cells, Pt.slots] at h1 h2 h3 h4 h5 X hn hPc ⊢
  obtain ⟨m9, methY, cY, hn9, hmY, hcY, -, hlY, -⟩ := Cond.codeWith_spec h2
  cases Option.some.inj (hn9.symm.trans hn)
  obtain ⟨kY, hkY, -⟩ := className_of_methodNamed hn
  have hinitY : kY.init = .initialized := Cond.initialized_spec (findClass_of_methodNamed hn) hkY h3
  have h : At U g.method c below := by rw [hg]; exact X.here
  have hlocals9 : W9 + (maxL + 11) + (headSpec ws rm).room.locals ≤ R.locals := hlocals
  have happ : (headSpec ws rm).appliesLoose y e.platform (U.calling g mk a) = true :=
    Spec.appliesLoose_calling (g := g) h hdg hn hkY hinitY
      (X.room_calling (g := g) (R' := (headSpec ws rm).room) hsize hmY hcY hframes (by rw [hlY]; omega) h4 h5) h1
  obtain ⟨mid, hmid⟩ := h.above
  have hfr : (U.setTop g).frames = (.java g :: mid) ++ below := by rw [State.frames_setTop' g h.top, hmid]; rfl
  obtain ⟨o, s₂, hsteps, -, hend, hq⟩ := Steps.callFree hM p X.admits X.cas X.clock (acts := []) hfr happ hPc trivial
  have hq' : vx_Q Qc XC mc ms free a (U.calling g mk a) o s₂ := hq
  rw [State.frames_setTop' g h.top] at hend
  obtain ⟨g₀, hg0⟩ := Option.isSome_iff_exists.mp h.top
  obtain ⟨r, hr⟩ := State.topJava?_eq_some.mp hg0
  have hr' : (({ U with heap := s₂.heap, slotsUsed := s₂.slotsUsed } : State).setVm s₂.vm).frames = .java g₀ :: r := hr
  rcases hq' with ⟨hqc, L, hfe, hL⟩ | ⟨q, rfl, E, ce, L, hx, hce, hcv, hcl, hW₂, hsm, hL⟩
  · obtain ⟨⟨v, rfl⟩, hW₂, e2, q2, q3, q4, q5, q6⟩ := id hfe
    have e3 : s₂ = ({ (U.calling g mk a).setFrames s₂.frames with heap := s₂.heap, slotsUsed := s₂.slotsUsed } : State).setVm s₂.vm := by
      have : s₂ = ({ s₂ with vm := (U.calling g mk a).vm } : State).setVm s₂.vm := rfl
      rw [e2] at this
      exact this
    obtain ⟨c₂, i₂, len₂, hc₂, hd₂, hf₂⟩ := hend
    have hW' : U.WarmedH s₂.vm := hW₂
    have hcc : c₂ = c := by
      have h1 : s₂.code? g.method = U.code? g.method := by
        rw [State.code?_eq, State.code?_eq, hW'.alike.method?]
      exact Option.some.inj (hc₂.symm.trans (h1.trans h.code))
    subst hcc
    have hlen : len₂ = len := by rw [hdg] at hd₂; cases hd₂; rfl
    subst hlen
    have hs₂ : s₂ = (({ U with heap := s₂.heap, slotsUsed := s₂.slotsUsed } : State).setVm s₂.vm).setTop { g with pc := g.pc + len₂, stack := v.toList ++ g.stack } := by
      refine e3.trans ?_
      rw [hf₂, State.calling_eq h.top, State.setFrames_setFrames, State.setTop_of_frames _ hr', hr]
      rfl
    have hsame : U.sameButNew ({ U with heap := s₂.heap, slotsUsed := s₂.slotsUsed } : State) L mc ms := by
      refine ⟨?_, q2, q3, q4, q5, q6⟩
      obtain ⟨t, ht, -⟩ := State.frames_cons hr
      show ({ U with heap := s₂.heap, slotsUsed := s₂.slotsUsed } : State) = { U.setFrames U.frames with heap := s₂.heap, slotsUsed := s₂.slotsUsed }
      rw [State.setFrames_self ht]
    subst hg
    refine Or.inl ⟨v, ⟨(({ U with heap := s₂.heap, slotsUsed := s₂.slotsUsed } : State).setVm s₂.vm), Ls ++ L, c0 + mc, s0 + ms⟩,
      ⟨X.admits, X.cas, X.clock, X.frames, X.room, X.hears, X.method, X.code, (X.here.setHeapUsed s₂.heap s₂.slotsUsed).setVm hW'.alike, X.tail, State.WarmedH.trans X.warmed hW', X.limits, X.bytes, X.same.trans (hsame.setVm s.vm)⟩,
      ⟨g, mk, s₂, L, rfl, rfl, hqc, rfl, hL, rfl, rfl⟩, ?_⟩
    show Steps p.tables e below _ ((({ U with heap := s₂.heap, slotsUsed := s₂.slotsUsed } : State).setVm s₂.vm).setTop { g with pc := g.pc + len₂, stack := v.toList ++ g.stack })
    rw [← hs₂]
    exact hsteps
  · obtain ⟨e2, q2, q3, q4, q5, q6⟩ := id hsm
    have e3 : s₂ = ({ (U.calling g mk a).setFrames s₂.frames with heap := s₂.heap, slotsUsed := s₂.slotsUsed } : State).setVm s₂.vm := by
      have : s₂ = ({ s₂ with vm := (U.calling g mk a).vm } : State).setVm s₂.vm := rfl
      rw [e2] at this
      exact this
    have hf₂ : s₂.frames = .throwing q :: .java g :: U.frames.tail := hend
    have hW' : U.WarmedH s₂.vm := hW₂
    have hs₂ : s₂ = ((({ U with heap := s₂.heap, slotsUsed := s₂.slotsUsed } : State).setVm s₂.vm).setTop g).pushFrame (.throwing q) := by
      refine e3.trans ?_
      rw [hf₂, State.calling_eq h.top, State.setFrames_setFrames, State.pushFrame, State.frames_setTop _ hr', State.setTop_of_frames _ hr', State.setFrames_setFrames, hr]
      rfl
    have hsame : U.sameButNew ({ U with heap := s₂.heap, slotsUsed := s₂.slotsUsed } : State) L mc ms := by
      refine ⟨?_, q2, q3, q4, q5, q6⟩
      obtain ⟨t, ht, -⟩ := State.frames_cons hr
      show ({ U with heap := s₂.heap, slotsUsed := s₂.slotsUsed } : State) = { U.setFrames U.frames with heap := s₂.heap, slotsUsed := s₂.slotsUsed }
      rw [State.setFrames_self ht]
    subst hg
    refine Or.inr ⟨q, ⟨(({ U with heap := s₂.heap, slotsUsed := s₂.slotsUsed } : State).setVm s₂.vm), Ls ++ L, c0 + mc, s0 + ms⟩,
      ⟨X.admits, X.cas, X.clock, X.frames, X.room, X.hears, X.method, X.code, (X.here.setHeapUsed s₂.heap s₂.slotsUsed).setVm hW'.alike, X.tail, State.WarmedH.trans X.warmed hW', X.limits, X.bytes, X.same.trans (hsame.setVm s.vm)⟩,
      ⟨g, mk, s₂, L, E, ce, rfl, rfl, hx, hce, hcv, hcl, rfl, hL, rfl, rfl⟩, ?_⟩
    show Steps p.tables e below _ (((({ U with heap := s₂.heap, slotsUsed := s₂.slotsUsed } : State).setVm s₂.vm).setTop g).pushFrame (.throwing q))
    rw [← hs₂]
    exact hsteps
end
variable {p : Program} {l : Launch} {e : Env} {R : Room} {s : State} {m : MethodId} {args : Array Value} {below : List Frame} {meth : Method} {c : Code} {T : State} {H : Heap} {locs : List Loc} {cells slots : Nat}
theorem vx_callVX (X : Stand p l e R s m args below meth c T locs cells slots) (hexec : p.tables.exec = Jvm.exec) {own C : String} {index : Nat} {y : MethodName} {bytes : ByteArray} {maxL : Nat} {ret : Option FieldType} {hh : List (Nat × Nat × Nat × Nat)}
    (hown : s.vm.findClass own = some m.cls) (hlink : (Cond.methodLink own index y).before args s = true) (hinst : (Cond.instanceMethod y).before args s = true) (hsel : (Cond.selects C y y).before args s = true)
    (hcode : (Cond.codeWith y bytes maxL ret hh).before args s = true) (hy : y.cls ≠ "java/lang/invoke/MethodHandle" ∧ y.cls ≠ "java/lang/invoke/VarHandle")
    {W9 : Nat} {Pre : Pt → Array Value → Prop} {Post : Pt → Array Value → Option Value → Pt → Prop} {PostX : Pt → Array Value → Addr → Pt → Prop} (hK : vx_Back l R p e below s args y 3 W9 Pre Post PostX)
    {b : Addr} {cellB : Cell} (hcell : T.heap[b]? = some cellB) (hobj : cellB.vm.isStatics = false) (hcls : s.vm.findClass C = some cellB.cls)
    {g : JFrame} (hg : g.method = m) (hsize : g.locals.size = c.maxLocals) {argsL rest : List Value} (hlen : ∀ sig, parseMethodDescriptor y.desc = some sig → argsL.length = sig.parameters.length)
    (hstack : g.stack = argsL.reverse ++ .ref b :: rest) (hW : 2 * g.monitorRoom + (rest.map fun v => v.category).sum ≤ W9) (hdg : decode c.code g.pc = .ok (.invokevirtual index, 3))
    (hpre : ∀ vm₁, s.WarmedH vm₁ → Pre ⟨T.setVm vm₁, locs, cells, slots⟩ (Value.ref b :: argsL).toArray) :
    (∃ (v : Option Value) (vm₁ : Vm) (B : Pt), s.WarmedH vm₁ ∧ Stand p l e R s m args below meth c B.U B.locs B.cells B.slots ∧ Post ⟨T.setVm vm₁, locs, cells, slots⟩ (Value.ref b :: argsL).toArray v B ∧
      ∀ target, Steps p.tables e below (B.U.setTop { g with pc := g.pc + 3, stack := v.toList ++ rest }) target → Steps p.tables e below (T.setTop g) target) ∨
    (∃ (q : Addr) (vm₁ : Vm) (B : Pt), s.WarmedH vm₁ ∧ Stand p l e R s m args below meth c B.U B.locs B.cells B.slots ∧ PostX ⟨T.setVm vm₁, locs, cells, slots⟩ (Value.ref b :: argsL).toArray q B ∧
      Steps p.tables e below (T.setTop g) ((B.U.setTop { g with stack := rest }).pushFrame (.throwing q))) := by
  obtain ⟨mk, methM, hnamed, hmethM, hstM, habM⟩ := Cond.instanceMethod_spec hinst
  obtain ⟨m8, methM', cM, hn8, hmethM', -, -, -, -, -, -, hsigM⟩ := Cond.codeWith_spec hcode
  cases Option.some.inj (hn8.symm.trans hnamed)
  cases hmethM.symm.trans hmethM'
  obtain ⟨c2, r2, m2, q1, q2, q3, q4, kP, hkP, hkPi⟩ := Cond.selects_spec hsel
  cases hcls.symm.trans q1
  cases (State.methodFound?_of_named hnamed hy).symm.trans q2
  cases hnamed.symm.trans q3
  have hselP : selectMethod e.platform s.vm cellB.cls mk = .method mk := by rw [Launch.admits_selectMethod X.admits]; exact q4
  obtain ⟨vm₁, X₁, hstep₁⟩ := X.invokevirtual hexec hown hlink hnamed hmethM hstM hkP hkPi hy (a := b) (cell := cellB) hcell
    (fun z h => by rw [h] at hobj; cases hobj) hselP hmethM habM hkP hkPi (g := g) hg (argsL := argsL) (rest := rest) (hlen _ hsigM) hstack hdg
  rcases hK m meth c ⟨T.setVm vm₁, locs, cells, slots⟩ { g with stack := rest } (.invokevirtual index) mk (Value.ref b :: argsL).toArray X₁ hg hsize hdg hW (X₁.named hnamed) (hpre vm₁ X₁.warmed) with ⟨v, B, X', hpost, hsteps⟩ | ⟨q, B, X', hpost, hsteps⟩
  · exact Or.inl ⟨v, vm₁, B, X₁.warmed, X', hpost, fun target h => hstep₁ _ fun acts => by rw [doInvoke_state]; exact hsteps.trans h⟩
  · exact Or.inr ⟨q, vm₁, B, X₁.warmed, X', hpost, hstep₁ _ fun acts => by rw [doInvoke_state]; exact hsteps⟩
theorem vx_callSX (X : Stand p l e R s m args below meth c T locs cells slots) (hexec : p.tables.exec = Jvm.exec) {own : String} {index : Nat} {y : MethodName} {bytes : ByteArray} {maxL : Nat} {ret : Option FieldType} {hh : List (Nat × Nat × Nat × Nat)}
    (hown : s.vm.findClass own = some m.cls) (hlink : (Cond.methodLink own index y).before args s = true) (hstat : (Cond.static y).before args s = true) (hinit : (Cond.initialized y.cls).before args s = true)
    (hcode : (Cond.codeWith y bytes maxL ret hh).before args s = true) (hy : y.cls ≠ "java/lang/invoke/MethodHandle" ∧ y.cls ≠ "java/lang/invoke/VarHandle")
    {W9 : Nat} {Pre : Pt → Array Value → Prop} {Post : Pt → Array Value → Option Value → Pt → Prop} {PostX : Pt → Array Value → Addr → Pt → Prop} (hK : vx_Back l R p e below s args y 3 W9 Pre Post PostX)
    {g : JFrame} (hg : g.method = m) (hsize : g.locals.size = c.maxLocals) {argsL rest : List Value} (hlen : ∀ sig, parseMethodDescriptor y.desc = some sig → argsL.length = sig.parameters.length)
    (hstack : g.stack = argsL.reverse ++ rest) (hW : 2 * g.monitorRoom + (rest.map fun v => v.category).sum ≤ W9) (hdg : decode c.code g.pc = .ok (.invokestatic index, 3))
    (hpre : ∀ vm₁, s.WarmedH vm₁ → Pre ⟨T.setVm vm₁, locs, cells, slots⟩ argsL.toArray) :
    (∃ (v : Option Value) (vm₁ : Vm) (B : Pt), s.WarmedH vm₁ ∧ Stand p l e R s m args below meth c B.U B.locs B.cells B.slots ∧ Post ⟨T.setVm vm₁, locs, cells, slots⟩ argsL.toArray v B ∧
      ∀ target, Steps p.tables e below (B.U.setTop { g with pc := g.pc + 3, stack := v.toList ++ rest }) target → Steps p.tables e below (T.setTop g) target) ∨
    (∃ (q : Addr) (vm₁ : Vm) (B : Pt), s.WarmedH vm₁ ∧ Stand p l e R s m args below meth c B.U B.locs B.cells B.slots ∧ PostX ⟨T.setVm vm₁, locs, cells, slots⟩ argsL.toArray q B ∧
      Steps p.tables e below (T.setTop g) ((B.U.setTop { g with stack := rest }).pushFrame (.throwing q))) := by
  obtain ⟨mk, methM, cM, hnamed, hmethM, -, -, -, -, -, -, hsigM⟩ := Cond.codeWith_spec hcode
  have hstatic : methM.isStatic = true := Cond.static_spec hnamed hmethM hstat
  obtain ⟨kP, hkP, -⟩ := className_of_methodNamed hnamed
  have hinitP : kP.init = .initialized := Cond.initialized_spec (findClass_of_methodNamed hnamed) hkP hinit
  obtain ⟨vm₁, X₁, hstep₁⟩ := X.invokestatic hexec hown hlink hnamed hmethM hstatic hkP hinitP hy (g := g) hg (argsL := argsL) (rest := rest) (hlen _ hsigM) hstack hdg
  rcases hK m meth c ⟨T.setVm vm₁, locs, cells, slots⟩ { g with stack := rest } (.invokestatic index) mk argsL.toArray X₁ hg hsize hdg hW (X₁.named hnamed) (hpre vm₁ X₁.warmed) with ⟨v, B, X', hpost, hsteps⟩ | ⟨q, B, X', hpost, hsteps⟩
  · exact Or.inl ⟨v, vm₁, B, X₁.warmed, X', hpost, fun target h => hstep₁ _ fun acts => by rw [doInvoke_state]; exact hsteps.trans h⟩
  · exact Or.inr ⟨q, vm₁, B, X₁.warmed, X', hpost, hstep₁ _ fun acts => by rw [doInvoke_state]; exact hsteps⟩
theorem vx_callVW (X : Stand p l e R s m args below meth c T locs cells slots) (hexec : p.tables.exec = Jvm.exec) {own C : String} {index : Nat} {y : MethodName} {bytes : ByteArray} {maxL : Nat} {ret : Option FieldType} {hh : List (Nat × Nat × Nat × Nat)}
    (hown : s.vm.findClass own = some m.cls) (hlink : (Cond.methodLink own index y).before args s = true) (hinst : (Cond.instanceMethod y).before args s = true) (hsel : (Cond.selects C y y).before args s = true)
    (hcode : (Cond.codeWith y bytes maxL ret hh).before args s = true) (hy : y.cls ≠ "java/lang/invoke/MethodHandle" ∧ y.cls ≠ "java/lang/invoke/VarHandle")
    {W9 : Nat} {Pre : Pt → Array Value → Prop} {Post : Pt → Array Value → Option Value → Pt → Prop} (hK : Back l R p e below s args y 3 W9 Pre Post)
    {b : Addr} {cellB : Cell} (hcell : T.heap[b]? = some cellB) (hobj : cellB.vm.isStatics = false) (hcls : s.vm.findClass C = some cellB.cls)
    {g : JFrame} (hg : g.method = m) (hsize : g.locals.size = c.maxLocals) {argsL rest : List Value} (hlen : ∀ sig, parseMethodDescriptor y.desc = some sig → argsL.length = sig.parameters.length)
    (hstack : g.stack = argsL.reverse ++ .ref b :: rest) (hW : 2 * g.monitorRoom + (rest.map fun v => v.category).sum ≤ W9) (hdg : decode c.code g.pc = .ok (.invokevirtual index, 3))
    (hpre : ∀ vm₁, s.WarmedH vm₁ → Pre ⟨T.setVm vm₁, locs, cells, slots⟩ (Value.ref b :: argsL).toArray) :
    ∃ (v : Option Value) (vm₁ : Vm) (B : Pt), s.WarmedH vm₁ ∧ Stand p l e R s m args below meth c B.U B.locs B.cells B.slots ∧ Post ⟨T.setVm vm₁, locs, cells, slots⟩ (Value.ref b :: argsL).toArray v B ∧
      ∀ target, Steps p.tables e below (B.U.setTop { g with pc := g.pc + 3, stack := v.toList ++ rest }) target → Steps p.tables e below (T.setTop g) target := by
  obtain ⟨mk, methM, hnamed, hmethM, hstM, habM⟩ := Cond.instanceMethod_spec hinst
  obtain ⟨m8, methM', cM, hn8, hmethM', -, -, -, -, -, -, hsigM⟩ := Cond.codeWith_spec hcode
  cases Option.some.inj (hn8.symm.trans hnamed)
  cases hmethM.symm.trans hmethM'
  obtain ⟨c2, r2, m2, q1, q2, q3, q4, kP, hkP, hkPi⟩ := Cond.selects_spec hsel
  cases hcls.symm.trans q1
  cases (State.methodFound?_of_named hnamed hy).symm.trans q2
  cases hnamed.symm.trans q3
  have hselP : selectMethod e.platform s.vm cellB.cls mk = .method mk := by rw [Launch.admits_selectMethod X.admits]; exact q4
  obtain ⟨vm₁, X₁, hstep₁⟩ := X.invokevirtual hexec hown hlink hnamed hmethM hstM hkP hkPi hy (a := b) (cell := cellB) hcell
    (fun z h => by rw [h] at hobj; cases hobj) hselP hmethM habM hkP hkPi (g := g) hg (argsL := argsL) (rest := rest) (hlen _ hsigM) hstack hdg
  obtain ⟨v, B, X', hpost, hsteps⟩ := hK m meth c ⟨T.setVm vm₁, locs, cells, slots⟩ { g with stack := rest } (.invokevirtual index) mk (Value.ref b :: argsL).toArray X₁ hg hsize hdg hW (X₁.named hnamed) (hpre vm₁ X₁.warmed)
  exact ⟨v, vm₁, B, X₁.warmed, X', hpost, fun target h => hstep₁ _ fun acts => by rw [doInvoke_state]; exact hsteps.trans h⟩
abbrev vx_CVW (R : Room) (s : State) (args : Array Value) (own C : String) (index : Nat) (y : MethodName) (bytes : ByteArray) (maxL : Nat) (ret : Option FieldType) (hh : List (Nat × Nat × Nat × Nat)) (ws : List Cond) (rm : Room) (mc ms n : Nat) : Prop :=
  (rm.cells = mc ∧ rm.slots = ms ∧ rm.frames + 1 ≤ R.frames ∧ 8 + (maxL + 11) + rm.locals ≤ R.locals ∧ (∀ w ∈ ws, ∀ (a' : Array Value) (U : State), s.WarmedH U.vm → w.before a' U = true) ∧ Cond.codeWith y bytes maxL ret hh ∈ ws) ∧
  (Cond.codeWith y bytes maxL ret hh).before args s = true ∧ (Cond.initialized y.cls).before args s = true ∧ (y.cls ≠ "java/lang/invoke/MethodHandle" ∧ y.cls ≠ "java/lang/invoke/VarHandle") ∧
  (∀ sig, parseMethodDescriptor y.desc = some sig → n = sig.parameters.length) ∧ (Cond.methodLink own index y).before args s = true ∧ (Cond.instanceMethod y).before args s = true ∧ (Cond.selects C y y).before args s = true
theorem vx_cwVW {own C : String} {index maxL mc ms : Nat} {y : MethodName} {bytes : ByteArray} {ret : Option FieldType} {hh : List (Nat × Nat × Nat × Nat)} {Ts ws ws' : List Cond} {rm : Room} (n : Nat) (ht : ∀ w ∈ Ts, w.before args s = true) (hT : GoodIn Ts (wsV own index C y ws)) (hw : ws = Cond.codeWith y bytes maxL ret hh :: ws') (hrc : rm.cells = mc) (hrs : rm.slots = ms)
    (hd : y.cls = C ∧ y.cls ≠ "java/lang/invoke/MethodHandle" ∧ y.cls ≠ "java/lang/invoke/VarHandle" ∧ (parseMethodDescriptor y.desc).map (fun d => d.parameters.length) = some n) (hR : rm.frames + 1 ≤ R.frames ∧ 8 + (maxL + 11) + rm.locals ≤ R.locals) :
    vx_CVW R s args own C index y bytes maxL ret hh ws rm mc ms n := by
  obtain ⟨hC, hd⟩ := hd
  subst hC
  have ok : ∀ w ∈ wsV own index y.cls y ws, w.before args s = true := fun w h => ht w (hT w h).1
  have hG : GoodIn Ts ws := fun w h => hT w (by unfold wsV; exact List.mem_append_right _ h)
  have hc : Cond.codeWith y bytes maxL ret hh ∈ ws := by rw [hw]; exact List.mem_cons_self
  refine ⟨⟨hrc, hrs, hR.1, hR.2, pay_in ht hG, hc⟩, ht _ (hG _ hc).1, ok _ (by simp [wsV]), ⟨hd.1, hd.2.1⟩, fun sig h => ?_, ok _ (by simp [wsV]), ok _ (by simp [wsV]), ok _ (by simp [wsV])⟩
  have h2 := hd.2.2
  rw [h] at h2
  exact (Option.some.inj h2).symm
theorem vx_runVW {y : MethodName} {bytes cc : ByteArray} {maxL nL mc ms n index : Nat} {ret : Option FieldType} {hh : List (Nat × Nat × Nat × Nat)} {ws : List Cond} {rm : Room} {Pc : Array Value → State → Prop} {Qc : Array Value → State → Outcome → State → Prop} {free : Addr → Prop} {Ts : List Cond} {own C : String} {b : Addr} {As rest : List Value} {g : JFrame}
    (S : CallFix p m c cc nL s args Ts own) (hM : Met l y ws rm Pc Qc mc ms free) (cw : vx_CVW R s args own C index y bytes maxL ret hh ws rm mc ms n) (hp : PreV s H C b Pc As)
    (hg : g.method = m) (hn : As.length = n) (hsize : g.locals.size = nL) (hstack : g.stack = As.reverse ++ .ref b :: rest) (hW : 2 * g.monitorRoom + (rest.map fun v => v.category).sum ≤ 8) (hdg : decode cc g.pc = .ok (.invokevirtual index, 3)) (hf : cells + mc ≤ R.cells ∧ slots + ms ≤ R.slots) :
    va_Run p l e R s m args below meth c H locs cells slots mc ms g rest (Qc (Value.ref b :: As).toArray) free := by
  obtain ⟨⟨hrc, hrs, hfr, hlo, hws, hcw⟩, hcode, hini, hy, hlen, hl, hin, hse⟩ := cw
  have hK : Back l R p e below s args y 3 8 (PreOf R mc ms Pc) (PostOf Qc mc ms free) := va_backW (hh := hh) (bytes := bytes) (maxL := maxL) (ret := ret) hM hp.1 hrc hrs hfr hlo hws hcw (fun a' U hW => word_at hW (Or.inl (by first | rfl | simp [Cond.onTables, Cond.keeps, Cond.steady])) hini)
  obtain ⟨hx, hb, hml, ho, -⟩ := S
  obtain ⟨-, ⟨cellB, hcB, hoB, hclB⟩, hPc⟩ := hp
  intro T hT X
  obtain ⟨v, vm₁, ⟨U', l2, c2, s2⟩, hW₁, X', ⟨g', mk, t, L, e1, e2, hq, h1, hL, h2, h3⟩, st⟩ := vx_callVW X hx (C := C) (hh := hh) (bytes := bytes) (maxL := maxL) (ret := ret) ho hl hin hse hcode hy hK (by rw [hT]; exact hcB) hoB hclB hg (hsize.trans hml.symm) (argsL := As) (rest := rest) (fun sig h => hn.trans (hlen sig h)) hstack hW (by rw [hb]; exact hdg)
    (fun vm₁ hW₁ => ⟨hf.1, hf.2, hPc (T.setVm vm₁) hT hW₁⟩)
  dsimp only [Pt.U, Pt.locs, Pt.cells, Pt.slots] at X' e1 e2 h1 h2 h3 st
  subst h1; subst h2; subst h3
  exact ⟨v, (T.setVm vm₁).calling g' mk (Value.ref b :: As).toArray, t, U', L, hT, X', hL, e1, e2, hq, st⟩
section
variable {y : MethodName} {bytes cc : ByteArray} {maxL nL mc ms n index : Nat} {ret : Option FieldType} {ws : List Cond} {rm : Room} {Pc : Array Value → State → Prop} {Qc : Array Value → State → Outcome → State → Prop} {XC : String → State → State → Prop} {free : Addr → Prop} {Ts : List Cond} {own C : String} {b : Addr} {As rest : List Value} {g : JFrame}
theorem vx_runVX {hh : List (Nat × Nat × Nat × Nat)} (S : CallFix p m c cc nL s args Ts own) (hM : vx_Met l y ws rm Pc Qc XC mc ms free) (cw : vx_CVW R s args own C index y bytes maxL ret hh ws rm mc ms n) (hp : PreV s H C b Pc As)
    (hg : g.method = m) (hn : As.length = n) (hsize : g.locals.size = nL) (hstack : g.stack = As.reverse ++ .ref b :: rest) (hW : 2 * g.monitorRoom + (rest.map fun v => v.category).sum ≤ 8) (hdg : decode cc g.pc = .ok (.invokevirtual index, 3)) (hf : cells + mc ≤ R.cells ∧ slots + ms ≤ R.slots) :
    vx_Run p l e R s m args below meth c H locs cells slots mc ms g rest (Qc (Value.ref b :: As).toArray) XC free := by
  obtain ⟨⟨hrc, hrs, hfr, hlo, hws, hcw⟩, hcode, hini, hy, hlen, hl, hin, hse⟩ := cw
  have hK : vx_Back l R p e below s args y 3 8 (PreOf R mc ms Pc) (PostOf Qc mc ms free) (vx_Post XC mc ms free) := vx_backW (hh := hh) (bytes := bytes) (maxL := maxL) (ret := ret) hM hp.1 hrc hrs hfr hlo hws hcw (fun a' U hW => word_at hW (Or.inl (by first | rfl | simp [Cond.onTables, Cond.keeps, Cond.steady])) hini)
  obtain ⟨hx, hb, hml, ho, -⟩ := S
  obtain ⟨-, ⟨cellB, hcB, hoB, hclB⟩, hPc⟩ := hp
  intro T hT X
  rcases vx_callVX X hx (C := C) (hh := hh) (bytes := bytes) (maxL := maxL) (ret := ret) ho hl hin hse hcode hy hK (by rw [hT]; exact hcB) hoB hclB hg (hsize.trans hml.symm) (argsL := As) (rest := rest) (fun sig h => hn.trans (hlen sig h)) hstack hW (by rw [hb]; exact hdg)
    (fun vm₁ hW₁ => ⟨hf.1, hf.2, hPc (T.setVm vm₁) hT hW₁⟩) with ⟨v, vm₁, ⟨U', l2, c2, s2⟩, hW₁, X', ⟨g', mk, t, L, e1, e2, hq, h1, hL, h2, h3⟩, st⟩ | ⟨q, vm₁, ⟨U', l2, c2, s2⟩, hW₁, X', ⟨g', mk, t, L, E, ce, e1, e2, hq, hce, hcv, hcl, h1, hL, h2, h3⟩, st⟩
  · dsimp only [Pt.U, Pt.locs, Pt.cells, Pt.slots] at X' e1 e2 h1 h2 h3 st
    subst h1; subst h2; subst h3
    exact Or.inl ⟨v, (T.setVm vm₁).calling g' mk (Value.ref b :: As).toArray, t, U', L, hT, X', hL, e1, e2, hq, st⟩
  · dsimp only [Pt.U, Pt.locs, Pt.cells, Pt.slots] at X' e1 e2 h1 h2 h3 st hcl
    subst h1; subst h2; subst h3
    exact Or.inr ⟨q, (T.setVm vm₁).calling g' mk (Value.ref b :: As).toArray, t, U', L, E, ce, hT, X', hL, e1, e2, hq, hce, hcv, vx_cls hW₁ hcl, st⟩
theorem vx_runSX {hh : List (Nat × Nat × Nat × Nat)} (S : CallFix p m c cc nL s args Ts own) (hM : vx_Met l y ws rm Pc Qc XC mc ms free) (cw : vx_CSW R s args own index y bytes maxL ret hh ws rm mc ms n) (hp : PreS s H Pc As)
    (hg : g.method = m) (hn : As.length = n) (hsize : g.locals.size = nL) (hstack : g.stack = As.reverse ++ rest) (hW : 2 * g.monitorRoom + (rest.map fun v => v.category).sum ≤ 8) (hdg : decode cc g.pc = .ok (.invokestatic index, 3)) (hf : cells + mc ≤ R.cells ∧ slots + ms ≤ R.slots) :
    vx_Run p l e R s m args below meth c H locs cells slots mc ms g rest (Qc As.toArray) XC free := by
  obtain ⟨⟨hrc, hrs, hfr, hlo, hws, hcw⟩, hcode, hini, hy, hlen, hl, hstt⟩ := cw
  have hK : vx_Back l R p e below s args y 3 8 (PreOf R mc ms Pc) (PostOf Qc mc ms free) (vx_Post XC mc ms free) := vx_backW (hh := hh) (bytes := bytes) (maxL := maxL) (ret := ret) hM hp.1 hrc hrs hfr hlo hws hcw (fun a' U hW => word_at hW (Or.inl (by first | rfl | simp [Cond.onTables, Cond.keeps, Cond.steady])) hini)
  obtain ⟨hx, hb, hml, ho, -⟩ := S
  intro T hT X
  rcases vx_callSX X hx (hh := hh) (bytes := bytes) (maxL := maxL) (ret := ret) ho hl hstt hini hcode hy hK hg (hsize.trans hml.symm) (argsL := As) (rest := rest) (fun sig h => hn.trans (hlen sig h)) hstack hW (by rw [hb]; exact hdg)
    (fun vm₁ hW₁ => ⟨hf.1, hf.2, hp.2 (T.setVm vm₁) hT hW₁⟩) with ⟨v, vm₁, ⟨U', l2, c2, s2⟩, hW₁, X', ⟨g', mk, t, L, e1, e2, hq, h1, hL, h2, h3⟩, st⟩ | ⟨q, vm₁, ⟨U', l2, c2, s2⟩, hW₁, X', ⟨g', mk, t, L, E, ce, e1, e2, hq, hce, hcv, hcl, h1, hL, h2, h3⟩, st⟩
  · dsimp only [Pt.U, Pt.locs, Pt.cells, Pt.slots] at X' e1 e2 h1 h2 h3 st
    subst h1; subst h2; subst h3
    exact Or.inl ⟨v, (T.setVm vm₁).calling g' mk As.toArray, t, U', L, hT, X', hL, e1, e2, hq, st⟩
  · dsimp only [Pt.U, Pt.locs, Pt.cells, Pt.slots] at X' e1 e2 h1 h2 h3 st hcl
    subst h1; subst h2; subst h3
    exact Or.inr ⟨q, (T.setVm vm₁).calling g' mk As.toArray, t, U', L, E, ce, hT, X', hL, e1, e2, hq, hce, hcv, vx_cls hW₁ hcl, st⟩
end
end VXH
theorem vx_ofWH {l : Launch} {y : MethodName} {ws ws' : List Cond} {rm : Room} {Pc : Array Value → State → Prop} {Qc : Array Value → State → Outcome → State → Prop} {XC : String → State → State → Prop} {mc ms : Nat} {free : Addr → Prop} {cc : ByteArray} {maxL : Nat} {ret : Option FieldType} {hh : List (Nat × Nat × Nat × Nat)}
    (hy : plainName y.cls = true) (hw : ws = Cond.codeWith y cc maxL ret hh :: ws')
    (body : ∀ p e s m args below meth c s₁, BodyLoose p l y (headSpec ws rm) cc maxL ret e s m args below meth c s₁ → c.maxLocals = maxL → Pc args s →
      W p l e (headSpec ws rm).room s m args below meth c s.heap [] 0 0 (vx_MQ below Qc XC args s mc ms free) (entryFrame m args maxL)) : vx_Met l y ws rm Pc Qc XC mc ms free := by
  refine MetFree.of_bodyS (code := cc) (maxLocals := maxL) (ret := ret) hy ?_ ?_
  · intro args s m h hn
    obtain ⟨m9, meth, c, hn9, h1, h2, h3, h4, -, h5, h6, -⟩ := Cond.codeWith_spec (atoms_spec (ws := ws) h _ (by rw [hw]; exact List.mem_cons_self))
    cases hn.symm.trans hn9
    exact ⟨meth, c, h1, h2, h3, h4, h5, h6⟩
  · intro p e s m args below meth c s₁ B hml hP _
    have hh0 : s₁.heap = s.heap := by rw [B.state]; rfl
    obtain ⟨t, a1, o, b1, b2, b3⟩ := body p e s m args below meth c s₁ B hml hP s₁ hh0 (Stand.of_body B)
    exact ⟨t, o, a1, b1, b2, b3⟩
/-! ===== END ===== -/
end
section
-- ===== PART A: goes FIRST, ahead of the names: the tables' words, and 'selects' of the private methods out of them =====
/-- a private method of a class that the tables say can be made, by its rows of tables_1 -/
def lw_okq (q : MethodName × Nat) : Prop := (q.1.cls ≠ "java/lang/invoke/MethodHandle" ∧ q.1.cls ≠ "java/lang/invoke/VarHandle") ∧ Cond.instantiable q.1.cls q.2 ∈ tables_1 ∧ Cond.privateMethod q.1 ∈ tables_1 ∧ Cond.instanceMethod q.1 ∈ tables_1
theorem lw_p0 : lw_okq (⟨"HardwareTaskQueue$TaskTable", "longestChainBefore", "(I)I"⟩, 11) := ⟨⟨by decide +kernel, by decide +kernel⟩, List.mem_of_getElem? (i := 101) (by decide +kernel), List.mem_of_getElem? (i := 336) (by decide +kernel), List.mem_of_getElem? (i := 337) (by decide +kernel)⟩
theorem lw_p1 : lw_okq (⟨"java/lang/Throwable", "fillInStackTrace", "(I)Ljava/lang/Throwable;"⟩, 6) := ⟨⟨by decide +kernel, by decide +kernel⟩, List.mem_of_getElem? (i := 427) (by decide +kernel), List.mem_of_getElem? (i := 425) (by decide +kernel), List.mem_of_getElem? (i := 426) (by decide +kernel)⟩
theorem lw_p2 : lw_okq (⟨"HardwareTaskQueue$SetupReader", "addStep", "(I)V"⟩, 6) := ⟨⟨by decide +kernel, by decide +kernel⟩, List.mem_of_getElem? (i := 33) (by decide +kernel), List.mem_of_getElem? (i := 460) (by decide +kernel), List.mem_of_getElem? (i := 461) (by decide +kernel)⟩
theorem lw_p3 : lw_okq (⟨"HardwareTaskQueue$SetupReader", "readQueue", "(LHardwareTaskQueue$Machine;)Z"⟩, 6) := ⟨⟨by decide +kernel, by decide +kernel⟩, List.mem_of_getElem? (i := 33) (by decide +kernel), List.mem_of_getElem? (i := 476) (by decide +kernel), List.mem_of_getElem? (i := 477) (by decide +kernel)⟩
theorem lw_p4 : lw_okq (⟨"HardwareTaskQueue$SetupReader", "fail", "(I)Z"⟩, 6) := ⟨⟨by decide +kernel, by decide +kernel⟩, List.mem_of_getElem? (i := 33) (by decide +kernel), List.mem_of_getElem? (i := 533) (by decide +kernel), List.mem_of_getElem? (i := 534) (by decide +kernel)⟩
theorem lw_p5 : lw_okq (⟨"HardwareTaskQueue$SetupReader", "takeNumber", "(II)I"⟩, 6) := ⟨⟨by decide +kernel, by decide +kernel⟩, List.mem_of_getElem? (i := 33) (by decide +kernel), List.mem_of_getElem? (i := 538) (by decide +kernel), List.mem_of_getElem? (i := 539) (by decide +kernel)⟩
theorem lw_p6 : lw_okq (⟨"HardwareTaskQueue$SetupReader", "takeMark", "(C)Z"⟩, 6) := ⟨⟨by decide +kernel, by decide +kernel⟩, List.mem_of_getElem? (i := 33) (by decide +kernel), List.mem_of_getElem? (i := 542) (by decide +kernel), List.mem_of_getElem? (i := 543) (by decide +kernel)⟩
theorem lw_p7 : lw_okq (⟨"HardwareTaskQueue$SetupReader", "readStatement", "(LHardwareTaskQueue$Machine;)Z"⟩, 6) := ⟨⟨by decide +kernel, by decide +kernel⟩, List.mem_of_getElem? (i := 33) (by decide +kernel), List.mem_of_getElem? (i := 563) (by decide +kernel), List.mem_of_getElem? (i := 564) (by decide +kernel)⟩
theorem lw_p8 : lw_okq (⟨"HardwareTaskQueue$SetupReader", "readTask", "(LHardwareTaskQueue$TaskTable;I)Z"⟩, 6) := ⟨⟨by decide +kernel, by decide +kernel⟩, List.mem_of_getElem? (i := 33) (by decide +kernel), List.mem_of_getElem? (i := 568) (by decide +kernel), List.mem_of_getElem? (i := 569) (by decide +kernel)⟩
theorem lw_p9 : lw_okq (⟨"HardwareTaskQueue$SetupReader", "takePredecessors", "(I)I"⟩, 6) := ⟨⟨by decide +kernel, by decide +kernel⟩, List.mem_of_getElem? (i := 33) (by decide +kernel), List.mem_of_getElem? (i := 574) (by decide +kernel), List.mem_of_getElem? (i := 575) (by decide +kernel)⟩
theorem lw_p10 : lw_okq (⟨"HardwareTaskQueue$SetupReader", "readSum", "(I)Z"⟩, 6) := ⟨⟨by decide +kernel, by decide +kernel⟩, List.mem_of_getElem? (i := 33) (by decide +kernel), List.mem_of_getElem? (i := 589) (by decide +kernel), List.mem_of_getElem? (i := 590) (by decide +kernel)⟩
theorem lw_p11 : lw_okq (⟨"HardwareTaskQueue$SetupReader", "readTerm", "(I)Z"⟩, 6) := ⟨⟨by decide +kernel, by decide +kernel⟩, List.mem_of_getElem? (i := 33) (by decide +kernel), List.mem_of_getElem? (i := 593) (by decide +kernel), List.mem_of_getElem? (i := 594) (by decide +kernel)⟩
theorem lw_p12 : lw_okq (⟨"HardwareTaskQueue$SetupReader", "readFactor", "(I)Z"⟩, 6) := ⟨⟨by decide +kernel, by decide +kernel⟩, List.mem_of_getElem? (i := 33) (by decide +kernel), List.mem_of_getElem? (i := 597) (by decide +kernel), List.mem_of_getElem? (i := 598) (by decide +kernel)⟩
theorem lw_p13 : lw_okq (⟨"HardwareTaskQueue", "requireTask", "(I)V"⟩, 5) := ⟨⟨by decide +kernel, by decide +kernel⟩, List.mem_of_getElem? (i := 25) (by decide +kernel), List.mem_of_getElem? (i := 632) (by decide +kernel), List.mem_of_getElem? (i := 633) (by decide +kernel)⟩
theorem lw_p14 : lw_okq (⟨"HardwareTaskQueue", "requireCore", "(I)V"⟩, 5) := ⟨⟨by decide +kernel, by decide +kernel⟩, List.mem_of_getElem? (i := 25) (by decide +kernel), List.mem_of_getElem? (i := 696) (by decide +kernel), List.mem_of_getElem? (i := 697) (by decide +kernel)⟩
theorem lw_p15 : lw_okq (⟨"HardwareTaskQueue$Machine", "finishTasks", "()I"⟩, 4) := ⟨⟨by decide +kernel, by decide +kernel⟩, List.mem_of_getElem? (i := 95) (by decide +kernel), List.mem_of_getElem? (i := 764) (by decide +kernel), List.mem_of_getElem? (i := 765) (by decide +kernel)⟩
def lw_privs_1 : List (MethodName × Nat) := [(⟨"HardwareTaskQueue$TaskTable", "longestChainBefore", "(I)I"⟩, 11), (⟨"java/lang/Throwable", "fillInStackTrace", "(I)Ljava/lang/Throwable;"⟩, 6), (⟨"HardwareTaskQueue$SetupReader", "addStep", "(I)V"⟩, 6), (⟨"HardwareTaskQueue$SetupReader", "readQueue", "(LHardwareTaskQueue$Machine;)Z"⟩, 6), (⟨"HardwareTaskQueue$SetupReader", "fail", "(I)Z"⟩, 6), (⟨"HardwareTaskQueue$SetupReader", "takeNumber", "(II)I"⟩, 6), (⟨"HardwareTaskQueue$SetupReader", "takeMark", "(C)Z"⟩, 6), (⟨"HardwareTaskQueue$SetupReader", "readStatement", "(LHardwareTaskQueue$Machine;)Z"⟩, 6), (⟨"HardwareTaskQueue$SetupReader", "readTask", "(LHardwareTaskQueue$TaskTable;I)Z"⟩, 6), (⟨"HardwareTaskQueue$SetupReader", "takePredecessors", "(I)I"⟩, 6), (⟨"HardwareTaskQueue$SetupReader", "readSum", "(I)Z"⟩, 6), (⟨"HardwareTaskQueue$SetupReader", "readTerm", "(I)Z"⟩, 6), (⟨"HardwareTaskQueue$SetupReader", "readFactor", "(I)Z"⟩, 6), (⟨"HardwareTaskQueue", "requireTask", "(I)V"⟩, 5), (⟨"HardwareTaskQueue", "requireCore", "(I)V"⟩, 5), (⟨"HardwareTaskQueue$Machine", "finishTasks", "()I"⟩, 4)]
theorem lw_r1 : ∀ q ∈ lw_privs_1, lw_okq q := List.forall_mem_cons.mpr ⟨lw_p0, List.forall_mem_cons.mpr ⟨lw_p1, List.forall_mem_cons.mpr ⟨lw_p2, List.forall_mem_cons.mpr ⟨lw_p3, List.forall_mem_cons.mpr ⟨lw_p4, List.forall_mem_cons.mpr ⟨lw_p5, List.forall_mem_cons.mpr ⟨lw_p6, List.forall_mem_cons.mpr ⟨lw_p7, List.forall_mem_cons.mpr ⟨lw_p8, List.forall_mem_cons.mpr ⟨lw_p9, List.forall_mem_cons.mpr ⟨lw_p10, List.forall_mem_cons.mpr ⟨lw_p11, List.forall_mem_cons.mpr ⟨lw_p12, List.forall_mem_cons.mpr ⟨lw_p13, List.forall_mem_cons.mpr ⟨lw_p14, List.forall_mem_cons.mpr ⟨lw_p15, fun _ h => absurd h List.not_mem_nil⟩⟩⟩⟩⟩⟩⟩⟩⟩⟩⟩⟩⟩⟩⟩⟩
theorem lw_p16 : lw_okq (⟨"HardwareTaskQueue$Machine", "queueTasks", "()V"⟩, 4) := ⟨⟨by decide +kernel, by decide +kernel⟩, List.mem_of_getElem? (i := 95) (by decide +kernel), List.mem_of_getElem? (i := 773) (by decide +kernel), List.mem_of_getElem? (i := 774) (by decide +kernel)⟩
theorem lw_p17 : lw_okq (⟨"HardwareTaskQueue$Machine", "startTasks", "()V"⟩, 4) := ⟨⟨by decide +kernel, by decide +kernel⟩, List.mem_of_getElem? (i := 95) (by decide +kernel), List.mem_of_getElem? (i := 789) (by decide +kernel), List.mem_of_getElem? (i := 790) (by decide +kernel)⟩
theorem lw_p18 : lw_okq (⟨"HardwareTaskQueue$Machine", "startTask", "(I)V"⟩, 4) := ⟨⟨by decide +kernel, by decide +kernel⟩, List.mem_of_getElem? (i := 95) (by decide +kernel), List.mem_of_getElem? (i := 793) (by decide +kernel), List.mem_of_getElem? (i := 794) (by decide +kernel)⟩
theorem lw_p19 : lw_okq (⟨"HardwareTaskQueue", "requireSetup", "()V"⟩, 5) := ⟨⟨by decide +kernel, by decide +kernel⟩, List.mem_of_getElem? (i := 25) (by decide +kernel), List.mem_of_getElem? (i := 835) (by decide +kernel), List.mem_of_getElem? (i := 836) (by decide +kernel)⟩
theorem lw_p20 : lw_okq (⟨"HardwareTaskQueueModel", "fails", "(ZI)Z"⟩, 18) := ⟨⟨by decide +kernel, by decide +kernel⟩, List.mem_of_getElem? (i := 919) (by decide +kernel), List.mem_of_getElem? (i := 998) (by decide +kernel), List.mem_of_getElem? (i := 999) (by decide +kernel)⟩
theorem lw_p21 : lw_okq (⟨"HardwareTaskQueueModel", "takeWord", "(Ljava/lang/String;)Z"⟩, 18) := ⟨⟨by decide +kernel, by decide +kernel⟩, List.mem_of_getElem? (i := 919) (by decide +kernel), List.mem_of_getElem? (i := 1009) (by decide +kernel), List.mem_of_getElem? (i := 1010) (by decide +kernel)⟩
theorem lw_p22 : lw_okq (⟨"HardwareTaskQueueModel", "isGood", "()Z"⟩, 18) := ⟨⟨by decide +kernel, by decide +kernel⟩, List.mem_of_getElem? (i := 919) (by decide +kernel), List.mem_of_getElem? (i := 1013) (by decide +kernel), List.mem_of_getElem? (i := 1014) (by decide +kernel)⟩
theorem lw_p23 : lw_okq (⟨"HardwareTaskQueueModel", "next", "()I"⟩, 18) := ⟨⟨by decide +kernel, by decide +kernel⟩, List.mem_of_getElem? (i := 919) (by decide +kernel), List.mem_of_getElem? (i := 1017) (by decide +kernel), List.mem_of_getElem? (i := 1018) (by decide +kernel)⟩
theorem lw_p24 : lw_okq (⟨"HardwareTaskQueueModel", "byteAt", "(I)I"⟩, 18) := ⟨⟨by decide +kernel, by decide +kernel⟩, List.mem_of_getElem? (i := 919) (by decide +kernel), List.mem_of_getElem? (i := 1021) (by decide +kernel), List.mem_of_getElem? (i := 1022) (by decide +kernel)⟩
theorem lw_p25 : lw_okq (⟨"HardwareTaskQueueModel", "report", "(II)V"⟩, 18) := ⟨⟨by decide +kernel, by decide +kernel⟩, List.mem_of_getElem? (i := 919) (by decide +kernel), List.mem_of_getElem? (i := 1027) (by decide +kernel), List.mem_of_getElem? (i := 1028) (by decide +kernel)⟩
theorem lw_p26 : lw_okq (⟨"HardwareTaskQueueModel", "number", "(II)I"⟩, 18) := ⟨⟨by decide +kernel, by decide +kernel⟩, List.mem_of_getElem? (i := 919) (by decide +kernel), List.mem_of_getElem? (i := 1031) (by decide +kernel), List.mem_of_getElem? (i := 1032) (by decide +kernel)⟩
theorem lw_p27 : lw_okq (⟨"HardwareTaskQueueModel", "expect", "(I)V"⟩, 18) := ⟨⟨by decide +kernel, by decide +kernel⟩, List.mem_of_getElem? (i := 919) (by decide +kernel), List.mem_of_getElem? (i := 1042) (by decide +kernel), List.mem_of_getElem? (i := 1043) (by decide +kernel)⟩
theorem lw_p28 : lw_okq (⟨"HardwareTaskQueueModel", "statement", "()V"⟩, 18) := ⟨⟨by decide +kernel, by decide +kernel⟩, List.mem_of_getElem? (i := 919) (by decide +kernel), List.mem_of_getElem? (i := 1046) (by decide +kernel), List.mem_of_getElem? (i := 1047) (by decide +kernel)⟩
theorem lw_p29 : lw_okq (⟨"HardwareTaskQueueModel", "readTask", "(I)V"⟩, 18) := ⟨⟨by decide +kernel, by decide +kernel⟩, List.mem_of_getElem? (i := 919) (by decide +kernel), List.mem_of_getElem? (i := 1051) (by decide +kernel), List.mem_of_getElem? (i := 1052) (by decide +kernel)⟩
theorem lw_p30 : lw_okq (⟨"HardwareTaskQueueModel", "readFence", "(I)V"⟩, 18) := ⟨⟨by decide +kernel, by decide +kernel⟩, List.mem_of_getElem? (i := 919) (by decide +kernel), List.mem_of_getElem? (i := 1067) (by decide +kernel), List.mem_of_getElem? (i := 1068) (by decide +kernel)⟩
theorem lw_p31 : lw_okq (⟨"HardwareTaskQueueModel", "once", "(II)V"⟩, 18) := ⟨⟨by decide +kernel, by decide +kernel⟩, List.mem_of_getElem? (i := 919) (by decide +kernel), List.mem_of_getElem? (i := 1072) (by decide +kernel), List.mem_of_getElem? (i := 1073) (by decide +kernel)⟩
def lw_privs_2 : List (MethodName × Nat) := [(⟨"HardwareTaskQueue$Machine", "queueTasks", "()V"⟩, 4), (⟨"HardwareTaskQueue$Machine", "startTasks", "()V"⟩, 4), (⟨"HardwareTaskQueue$Machine", "startTask", "(I)V"⟩, 4), (⟨"HardwareTaskQueue", "requireSetup", "()V"⟩, 5), (⟨"HardwareTaskQueueModel", "fails", "(ZI)Z"⟩, 18), (⟨"HardwareTaskQueueModel", "takeWord", "(Ljava/lang/String;)Z"⟩, 18), (⟨"HardwareTaskQueueModel", "isGood", "()Z"⟩, 18), (⟨"HardwareTaskQueueModel", "next", "()I"⟩, 18), (⟨"HardwareTaskQueueModel", "byteAt", "(I)I"⟩, 18), (⟨"HardwareTaskQueueModel", "report", "(II)V"⟩, 18), (⟨"HardwareTaskQueueModel", "number", "(II)I"⟩, 18), (⟨"HardwareTaskQueueModel", "expect", "(I)V"⟩, 18), (⟨"HardwareTaskQueueModel", "statement", "()V"⟩, 18), (⟨"HardwareTaskQueueModel", "readTask", "(I)V"⟩, 18), (⟨"HardwareTaskQueueModel", "readFence", "(I)V"⟩, 18), (⟨"HardwareTaskQueueModel", "once", "(II)V"⟩, 18)]
theorem lw_r2 : ∀ q ∈ lw_privs_2, lw_okq q := List.forall_mem_cons.mpr ⟨lw_p16, List.forall_mem_cons.mpr ⟨lw_p17, List.forall_mem_cons.mpr ⟨lw_p18, List.forall_mem_cons.mpr ⟨lw_p19, List.forall_mem_cons.mpr ⟨lw_p20, List.forall_mem_cons.mpr ⟨lw_p21, List.forall_mem_cons.mpr ⟨lw_p22, List.forall_mem_cons.mpr ⟨lw_p23, List.forall_mem_cons.mpr ⟨lw_p24, List.forall_mem_cons.mpr ⟨lw_p25, List.forall_mem_cons.mpr ⟨lw_p26, List.forall_mem_cons.mpr ⟨lw_p27, List.forall_mem_cons.mpr ⟨lw_p28, List.forall_mem_cons.mpr ⟨lw_p29, List.forall_mem_cons.mpr ⟨lw_p30, List.forall_mem_cons.mpr ⟨lw_p31, fun _ h => absurd h List.not_mem_nil⟩⟩⟩⟩⟩⟩⟩⟩⟩⟩⟩⟩⟩⟩⟩⟩
theorem lw_p32 : lw_okq (⟨"HardwareTaskQueueModel", "sum", "()V"⟩, 18) := ⟨⟨by decide +kernel, by decide +kernel⟩, List.mem_of_getElem? (i := 919) (by decide +kernel), List.mem_of_getElem? (i := 1076) (by decide +kernel), List.mem_of_getElem? (i := 1077) (by decide +kernel)⟩
theorem lw_p33 : lw_okq (⟨"HardwareTaskQueueModel", "term", "()V"⟩, 18) := ⟨⟨by decide +kernel, by decide +kernel⟩, List.mem_of_getElem? (i := 919) (by decide +kernel), List.mem_of_getElem? (i := 1080) (by decide +kernel), List.mem_of_getElem? (i := 1081) (by decide +kernel)⟩
theorem lw_p34 : lw_okq (⟨"HardwareTaskQueueModel", "factor", "()V"⟩, 18) := ⟨⟨by decide +kernel, by decide +kernel⟩, List.mem_of_getElem? (i := 919) (by decide +kernel), List.mem_of_getElem? (i := 1084) (by decide +kernel), List.mem_of_getElem? (i := 1085) (by decide +kernel)⟩
theorem lw_p35 : lw_okq (⟨"HardwareTaskQueueModel", "emit", "(I)V"⟩, 18) := ⟨⟨by decide +kernel, by decide +kernel⟩, List.mem_of_getElem? (i := 919) (by decide +kernel), List.mem_of_getElem? (i := 1091) (by decide +kernel), List.mem_of_getElem? (i := 1092) (by decide +kernel)⟩
theorem lw_p36 : lw_okq (⟨"HardwareTaskQueueModel", "remember", "()V"⟩, 18) := ⟨⟨by decide +kernel, by decide +kernel⟩, List.mem_of_getElem? (i := 919) (by decide +kernel), List.mem_of_getElem? (i := 1095) (by decide +kernel), List.mem_of_getElem? (i := 1096) (by decide +kernel)⟩
theorem lw_p37 : lw_okq (⟨"HardwareTaskQueueModel", "noTask", "(I)Z"⟩, 18) := ⟨⟨by decide +kernel, by decide +kernel⟩, List.mem_of_getElem? (i := 919) (by decide +kernel), List.mem_of_getElem? (i := 1126) (by decide +kernel), List.mem_of_getElem? (i := 1127) (by decide +kernel)⟩
theorem lw_p38 : lw_okq (⟨"HardwareTaskQueueModel", "noCore", "(I)Z"⟩, 18) := ⟨⟨by decide +kernel, by decide +kernel⟩, List.mem_of_getElem? (i := 919) (by decide +kernel), List.mem_of_getElem? (i := 1163) (by decide +kernel), List.mem_of_getElem? (i := 1164) (by decide +kernel)⟩
theorem lw_p39 : lw_okq (⟨"HardwareTaskQueueModel", "remainingOf", "(I)I"⟩, 18) := ⟨⟨by decide +kernel, by decide +kernel⟩, List.mem_of_getElem? (i := 919) (by decide +kernel), List.mem_of_getElem? (i := 1179) (by decide +kernel), List.mem_of_getElem? (i := 1180) (by decide +kernel)⟩
theorem lw_p40 : lw_okq (⟨"HardwareTaskQueueModel", "isAhead", "(II)Z"⟩, 18) := ⟨⟨by decide +kernel, by decide +kernel⟩, List.mem_of_getElem? (i := 919) (by decide +kernel), List.mem_of_getElem? (i := 1206) (by decide +kernel), List.mem_of_getElem? (i := 1207) (by decide +kernel)⟩
theorem lw_p41 : lw_okq (⟨"HardwareTaskQueueModel", "finishFuture", "(I)I"⟩, 18) := ⟨⟨by decide +kernel, by decide +kernel⟩, List.mem_of_getElem? (i := 919) (by decide +kernel), List.mem_of_getElem? (i := 1217) (by decide +kernel), List.mem_of_getElem? (i := 1218) (by decide +kernel)⟩
theorem lw_p42 : lw_okq (⟨"HardwareTaskQueueModel", "cycle", "([I)I"⟩, 18) := ⟨⟨by decide +kernel, by decide +kernel⟩, List.mem_of_getElem? (i := 919) (by decide +kernel), List.mem_of_getElem? (i := 1221) (by decide +kernel), List.mem_of_getElem? (i := 1222) (by decide +kernel)⟩
theorem lw_p43 : lw_okq (⟨"HardwareTaskQueueModel", "take", "([II)V"⟩, 18) := ⟨⟨by decide +kernel, by decide +kernel⟩, List.mem_of_getElem? (i := 919) (by decide +kernel), List.mem_of_getElem? (i := 1234) (by decide +kernel), List.mem_of_getElem? (i := 1235) (by decide +kernel)⟩
theorem lw_p44 : lw_okq (⟨"HardwareTaskQueueModel", "lengthOf", "([III)I"⟩, 18) := ⟨⟨by decide +kernel, by decide +kernel⟩, List.mem_of_getElem? (i := 919) (by decide +kernel), List.mem_of_getElem? (i := 1241) (by decide +kernel), List.mem_of_getElem? (i := 1242) (by decide +kernel)⟩
def lw_privs_3 : List (MethodName × Nat) := [(⟨"HardwareTaskQueueModel", "sum", "()V"⟩, 18), (⟨"HardwareTaskQueueModel", "term", "()V"⟩, 18), (⟨"HardwareTaskQueueModel", "factor", "()V"⟩, 18), (⟨"HardwareTaskQueueModel", "emit", "(I)V"⟩, 18), (⟨"HardwareTaskQueueModel", "remember", "()V"⟩, 18), (⟨"HardwareTaskQueueModel", "noTask", "(I)Z"⟩, 18), (⟨"HardwareTaskQueueModel", "noCore", "(I)Z"⟩, 18), (⟨"HardwareTaskQueueModel", "remainingOf", "(I)I"⟩, 18), (⟨"HardwareTaskQueueModel", "isAhead", "(II)Z"⟩, 18), (⟨"HardwareTaskQueueModel", "finishFuture", "(I)I"⟩, 18), (⟨"HardwareTaskQueueModel", "cycle", "([I)I"⟩, 18), (⟨"HardwareTaskQueueModel", "take", "([II)V"⟩, 18), (⟨"HardwareTaskQueueModel", "lengthOf", "([III)I"⟩, 18)]
theorem lw_r3 : ∀ q ∈ lw_privs_3, lw_okq q := List.forall_mem_cons.mpr ⟨lw_p32, List.forall_mem_cons.mpr ⟨lw_p33, List.forall_mem_cons.mpr ⟨lw_p34, List.forall_mem_cons.mpr ⟨lw_p35, List.forall_mem_cons.mpr ⟨lw_p36, List.forall_mem_cons.mpr ⟨lw_p37, List.forall_mem_cons.mpr ⟨lw_p38, List.forall_mem_cons.mpr ⟨lw_p39, List.forall_mem_cons.mpr ⟨lw_p40, List.forall_mem_cons.mpr ⟨lw_p41, List.forall_mem_cons.mpr ⟨lw_p42, List.forall_mem_cons.mpr ⟨lw_p43, List.forall_mem_cons.mpr ⟨lw_p44, fun _ h => absurd h List.not_mem_nil⟩⟩⟩⟩⟩⟩⟩⟩⟩⟩⟩⟩⟩
def lw_privs : List (MethodName × Nat) := lw_privs_1 ++ (lw_privs_2 ++ (lw_privs_3))
def lw_tbl : List Cond := k2_sels lw_privs ++ tables_1
theorem lw_privs_ok : ∀ q ∈ lw_privs, lw_okq q := by
  show ∀ q ∈ lw_privs_1 ++ (lw_privs_2 ++ (lw_privs_3)), lw_okq q
  exact List.forall_mem_append.mpr ⟨lw_r1, List.forall_mem_append.mpr ⟨lw_r2, lw_r3⟩⟩
end
section
def RX0 : String := "HardwareTaskQueue$CoreTable"
def TX0 : u_T := fun k => match k with
  | 0 => ("HardwareTaskQueue$CoreTable", "total", "I", false)
  | 1 => ("HardwareTaskQueue$CoreTable", "capacity", "I", false)
  | 2 => ("HardwareTaskQueue$CoreTable", "stealCost", "I", false)
  | 3 => ("HardwareTaskQueue$CoreTable", "queues", "[I", true)
  | 4 => ("HardwareTaskQueue$CoreTable", "sizes", "[I", true)
  | 5 => ("HardwareTaskQueue$CoreTable", "current", "[I", true)
  | 6 => ("HardwareTaskQueue$CoreTable", "timesLeft", "[I", true)
  | 7 => ("HardwareTaskQueue$CoreTable", "busyCycles", "[I", true)
  | 8 => ("HardwareTaskQueue$CoreTable", "stolen", "[I", true)
  | _ => ("HardwareTaskQueue$CoreTable", "paused", "[Z", true)
def tyX0 : Nat → FieldType := fun k => match k with
  | 0 => .int
  | 1 => .int
  | 2 => .int
  | 3 => .array .int
  | 4 => .array .int
  | 5 => .array .int
  | 6 => .array .int
  | 7 => .array .int
  | 8 => .array .int
  | _ => .array .boolean
theorem nmX0 : ∀ a, a < 10 → ∀ b, b < 10 → a ≠ b → (TX0 a).2.1 ≠ (TX0 b).2.1 := by decide +kernel
theorem tyX0_ok : ∀ k, k < 10 → parseFieldDescriptor (TX0 k).2.2.1 = some (tyX0 k) := by decide +kernel
abbrev cX0_init : ByteArray := prog_2_method_1_code
def yX0_init : MethodName := ⟨RX0, "<init>", "()V"⟩
abbrev cX0_copyFrom : ByteArray := prog_2_method_2_code
def yX0_copyFrom : MethodName := ⟨RX0, "copyFrom", "(LHardwareTaskQueue$CoreTable;)V"⟩
abbrev cX0_startAgainOn : ByteArray := prog_2_method_3_code
def yX0_startAgainOn : MethodName := ⟨RX0, "startAgainOn", "(I)V"⟩
abbrev cX0_queueFor : ByteArray := prog_2_method_4_code
def yX0_queueFor : MethodName := ⟨RX0, "queueFor", "(I)I"⟩
abbrev cX0_putLast : ByteArray := prog_2_method_5_code
def yX0_putLast : MethodName := ⟨RX0, "putLast", "(II)V"⟩
abbrev cX0_takeAt : ByteArray := prog_2_method_6_code
def yX0_takeAt : MethodName := ⟨RX0, "takeAt", "(II)I"⟩
abbrev cX0_removeFromQueues : ByteArray := prog_2_method_7_code
def yX0_removeFromQueues : MethodName := ⟨RX0, "removeFromQueues", "(I)V"⟩
abbrev cX0_longestQueue : ByteArray := prog_2_method_8_code
def yX0_longestQueue : MethodName := ⟨RX0, "longestQueue", "()I"⟩
abbrev cX0_countBusy : ByteArray := prog_2_method_9_code
def yX0_countBusy : MethodName := ⟨RX0, "countBusy", "()V"⟩
def RX1 : String := "HardwareTaskQueue$Formula"
def TX1 : u_T := fun k => match k with
  | 0 => ("HardwareTaskQueue$Formula", "steps", "[I", true)
  | _ => ("HardwareTaskQueue$Formula", "stack", "[I", true)
def tyX1 : Nat → FieldType := fun k => match k with
  | 0 => .array .int
  | _ => .array .int
theorem nmX1 : ∀ a, a < 2 → ∀ b, b < 2 → a ≠ b → (TX1 a).2.1 ≠ (TX1 b).2.1 := by decide +kernel
theorem tyX1_ok : ∀ k, k < 2 → parseFieldDescriptor (TX1 k).2.2.1 = some (tyX1 k) := by decide +kernel
abbrev cX1_init : ByteArray := prog_3_method_1_code
def yX1_init : MethodName := ⟨RX1, "<init>", "([I)V"⟩
abbrev cX1_lengthFor : ByteArray := prog_3_method_2_code
def yX1_lengthFor : MethodName := ⟨RX1, "lengthFor", "(IIII)I"⟩
abbrev cX1_result : ByteArray := prog_3_method_3_code
def yX1_result : MethodName := ⟨RX1, "result", "(IJJ)I"⟩
def RX2 : String := "HardwareTaskQueue$History"
def TX2 : u_T := fun k => match k with
  | 0 => ("HardwareTaskQueue$History", "kept", "[LHardwareTaskQueue$Machine;", true)
  | 1 => ("HardwareTaskQueue$History", "next", "I", false)
  | _ => ("HardwareTaskQueue$History", "count", "I", false)
def tyX2 : Nat → FieldType := fun k => match k with
  | 0 => .array (.object "HardwareTaskQueue$Machine")
  | 1 => .int
  | _ => .int
theorem nmX2 : ∀ a, a < 3 → ∀ b, b < 3 → a ≠ b → (TX2 a).2.1 ≠ (TX2 b).2.1 := by decide +kernel
theorem tyX2_ok : ∀ k, k < 3 → parseFieldDescriptor (TX2 k).2.2.1 = some (tyX2 k) := by decide +kernel
abbrev cX2_init : ByteArray := prog_4_method_1_code
def yX2_init : MethodName := ⟨RX2, "<init>", "()V"⟩
abbrev cX2_remember : ByteArray := prog_4_method_2_code
def yX2_remember : MethodName := ⟨RX2, "remember", "(LHardwareTaskQueue$Machine;)V"⟩
abbrev cX2_restoreLatest : ByteArray := prog_4_method_3_code
def yX2_restoreLatest : MethodName := ⟨RX2, "restoreLatest", "(LHardwareTaskQueue$Machine;)I"⟩
def RX3 : String := "HardwareTaskQueue$Machine"
def TX3 : u_T := fun k => match k with
  | 0 => ("HardwareTaskQueue$Machine", "tasks", "LHardwareTaskQueue$TaskTable;", true)
  | 1 => ("HardwareTaskQueue$Machine", "cores", "LHardwareTaskQueue$CoreTable;", true)
  | 2 => ("HardwareTaskQueue$Machine", "formula", "LHardwareTaskQueue$Formula;", false)
  | _ => ("HardwareTaskQueue$Machine", "time", "I", false)
def tyX3 : Nat → FieldType := fun k => match k with
  | 0 => .object "HardwareTaskQueue$TaskTable"
  | 1 => .object "HardwareTaskQueue$CoreTable"
  | 2 => .object "HardwareTaskQueue$Formula"
  | _ => .int
theorem nmX3 : ∀ a, a < 4 → ∀ b, b < 4 → a ≠ b → (TX3 a).2.1 ≠ (TX3 b).2.1 := by decide +kernel
theorem tyX3_ok : ∀ k, k < 4 → parseFieldDescriptor (TX3 k).2.2.1 = some (tyX3 k) := by decide +kernel
abbrev cX3_init : ByteArray := prog_5_method_1_code
def yX3_init : MethodName := ⟨RX3, "<init>", "()V"⟩
abbrev cX3_copyFrom : ByteArray := prog_5_method_2_code
def yX3_copyFrom : MethodName := ⟨RX3, "copyFrom", "(LHardwareTaskQueue$Machine;)V"⟩
abbrev cX3_startAgainOn : ByteArray := prog_5_method_3_code
def yX3_startAgainOn : MethodName := ⟨RX3, "startAgainOn", "(I)V"⟩
abbrev cX3_cyclesUntilFinished : ByteArray := prog_5_method_4_code
def yX3_cyclesUntilFinished : MethodName := ⟨RX3, "cyclesUntilFinished", "(I)I"⟩
abbrev cX3_cycle : ByteArray := prog_5_method_5_code
def yX3_cycle : MethodName := ⟨RX3, "cycle", "()I"⟩
abbrev cX3_finishTasks : ByteArray := prog_5_method_6_code
def yX3_finishTasks : MethodName := ⟨RX3, "finishTasks", "()I"⟩
abbrev cX3_queueTasks : ByteArray := prog_5_method_7_code
def yX3_queueTasks : MethodName := ⟨RX3, "queueTasks", "()V"⟩
abbrev cX3_startTasks : ByteArray := prog_5_method_8_code
def yX3_startTasks : MethodName := ⟨RX3, "startTasks", "()V"⟩
abbrev cX3_startTask : ByteArray := prog_5_method_9_code
def yX3_startTask : MethodName := ⟨RX3, "startTask", "(I)V"⟩
def RX4 : String := "HardwareTaskQueue$SetupReader"
def TX4 : u_T := fun k => match k with
  | 0 => ("HardwareTaskQueue$SetupReader", "text", "LHardwareTaskQueue$SetupText;", true)
  | 1 => ("HardwareTaskQueue$SetupReader", "failure", "I", false)
  | 2 => ("HardwareTaskQueue$SetupReader", "failurePlace", "I", false)
  | 3 => ("HardwareTaskQueue$SetupReader", "steps", "[I", true)
  | 4 => ("HardwareTaskQueue$SetupReader", "stepTotal", "I", false)
  | _ => ("HardwareTaskQueue$SetupReader", "lengthSeen", "Z", false)
def tyX4 : Nat → FieldType := fun k => match k with
  | 0 => .object "HardwareTaskQueue$SetupText"
  | 1 => .int
  | 2 => .int
  | 3 => .array .int
  | 4 => .int
  | _ => .boolean
theorem nmX4 : ∀ a, a < 6 → ∀ b, b < 6 → a ≠ b → (TX4 a).2.1 ≠ (TX4 b).2.1 := by decide +kernel
theorem tyX4_ok : ∀ k, k < 6 → parseFieldDescriptor (TX4 k).2.2.1 = some (tyX4 k) := by decide +kernel
abbrev cX4_init : ByteArray := prog_6_method_1_code
def yX4_init : MethodName := ⟨RX4, "<init>", "()V"⟩
abbrev cX4_readSetup : ByteArray := prog_6_method_2_code
def yX4_readSetup : MethodName := ⟨RX4, "readSetup", "(ILHardwareTaskQueue$Machine;)Z"⟩
abbrev cX4_readQueue : ByteArray := prog_6_method_3_code
def yX4_readQueue : MethodName := ⟨RX4, "readQueue", "(LHardwareTaskQueue$Machine;)Z"⟩
abbrev cX4_readStatement : ByteArray := prog_6_method_4_code
def yX4_readStatement : MethodName := ⟨RX4, "readStatement", "(LHardwareTaskQueue$Machine;)Z"⟩
abbrev cX4_readTask : ByteArray := prog_6_method_5_code
def yX4_readTask : MethodName := ⟨RX4, "readTask", "(LHardwareTaskQueue$TaskTable;I)Z"⟩
abbrev cX4_takePredecessors : ByteArray := prog_6_method_6_code
def yX4_takePredecessors : MethodName := ⟨RX4, "takePredecessors", "(I)I"⟩
abbrev cX4_readSum : ByteArray := prog_6_method_7_code
def yX4_readSum : MethodName := ⟨RX4, "readSum", "(I)Z"⟩
abbrev cX4_readTerm : ByteArray := prog_6_method_8_code
def yX4_readTerm : MethodName := ⟨RX4, "readTerm", "(I)Z"⟩
abbrev cX4_readFactor : ByteArray := prog_6_method_9_code
def yX4_readFactor : MethodName := ⟨RX4, "readFactor", "(I)Z"⟩
abbrev cX4_takeNumber : ByteArray := prog_6_method_10_code
def yX4_takeNumber : MethodName := ⟨RX4, "takeNumber", "(II)I"⟩
abbrev cX4_takeMark : ByteArray := prog_6_method_11_code
def yX4_takeMark : MethodName := ⟨RX4, "takeMark", "(C)Z"⟩
abbrev cX4_fail : ByteArray := prog_6_method_12_code
def yX4_fail : MethodName := ⟨RX4, "fail", "(I)Z"⟩
abbrev cX4_addStep : ByteArray := prog_6_method_13_code
def yX4_addStep : MethodName := ⟨RX4, "addStep", "(I)V"⟩
def RX5 : String := "HardwareTaskQueue$SetupText"
def TX5 : u_T := fun k => match k with
  | 0 => ("HardwareTaskQueue$SetupText", "bytes", "[B", true)
  | 1 => ("HardwareTaskQueue$SetupText", "size", "I", false)
  | 2 => ("HardwareTaskQueue$SetupText", "end", "I", false)
  | 3 => ("HardwareTaskQueue$SetupText", "kind", "I", false)
  | 4 => ("HardwareTaskQueue$SetupText", "start", "I", false)
  | 5 => ("HardwareTaskQueue$SetupText", "behind", "I", false)
  | _ => ("HardwareTaskQueue$SetupText", "number", "I", false)
def tyX5 : Nat → FieldType := fun k => match k with
  | 0 => .array .byte
  | 1 => .int
  | 2 => .int
  | 3 => .int
  | 4 => .int
  | 5 => .int
  | _ => .int
theorem nmX5 : ∀ a, a < 7 → ∀ b, b < 7 → a ≠ b → (TX5 a).2.1 ≠ (TX5 b).2.1 := by decide +kernel
theorem tyX5_ok : ∀ k, k < 7 → parseFieldDescriptor (TX5 k).2.2.1 = some (tyX5 k) := by decide +kernel
abbrev cX5_init : ByteArray := prog_7_method_1_code
def yX5_init : MethodName := ⟨RX5, "<init>", "()V"⟩
abbrev cX5_addWord : ByteArray := prog_7_method_2_code
def yX5_addWord : MethodName := ⟨RX5, "addWord", "(I)V"⟩
abbrev cX5_startReading : ByteArray := prog_7_method_3_code
def yX5_startReading : MethodName := ⟨RX5, "startReading", "(I)V"⟩
abbrev cX5_advance : ByteArray := prog_7_method_4_code
def yX5_advance : MethodName := ⟨RX5, "advance", "()V"⟩
abbrev cX5_isWord : ByteArray := prog_7_method_5_code
def yX5_isWord : MethodName := ⟨RX5, "isWord", "(Ljava/lang/String;)Z"⟩
abbrev cX5_isMark : ByteArray := prog_7_method_6_code
def yX5_isMark : MethodName := ⟨RX5, "isMark", "(C)Z"⟩
def RX6 : String := "HardwareTaskQueue$TaskTable"
def TX6 : u_T := fun k => match k with
  | 0 => ("HardwareTaskQueue$TaskTable", "total", "I", false)
  | 1 => ("HardwareTaskQueue$TaskTable", "fences", "I", false)
  | 2 => ("HardwareTaskQueue$TaskTable", "states", "[I", true)
  | 3 => ("HardwareTaskQueue$TaskTable", "durations", "[I", true)
  | 4 => ("HardwareTaskQueue$TaskTable", "priorities", "[I", true)
  | 5 => ("HardwareTaskQueue$TaskTable", "homes", "[I", true)
  | 6 => ("HardwareTaskQueue$TaskTable", "predecessors", "[I", true)
  | 7 => ("HardwareTaskQueue$TaskTable", "ranOn", "[I", true)
  | 8 => ("HardwareTaskQueue$TaskTable", "doneTimes", "[I", true)
  | 9 => ("HardwareTaskQueue$TaskTable", "fencePlaces", "[I", true)
  | _ => ("HardwareTaskQueue$TaskTable", "chains", "[I", true)
def tyX6 : Nat → FieldType := fun k => match k with
  | 0 => .int
  | 1 => .int
  | 2 => .array .int
  | 3 => .array .int
  | 4 => .array .int
  | 5 => .array .int
  | 6 => .array .int
  | 7 => .array .int
  | 8 => .array .int
  | 9 => .array .int
  | _ => .array .int
theorem nmX6 : ∀ a, a < 11 → ∀ b, b < 11 → a ≠ b → (TX6 a).2.1 ≠ (TX6 b).2.1 := by decide +kernel
theorem tyX6_ok : ∀ k, k < 11 → parseFieldDescriptor (TX6 k).2.2.1 = some (tyX6 k) := by decide +kernel
abbrev cX6_init : ByteArray := prog_8_method_1_code
def yX6_init : MethodName := ⟨RX6, "<init>", "()V"⟩
abbrev cX6_copyFrom : ByteArray := prog_8_method_2_code
def yX6_copyFrom : MethodName := ⟨RX6, "copyFrom", "(LHardwareTaskQueue$TaskTable;)V"⟩
abbrev cX6_add : ByteArray := prog_8_method_3_code
def yX6_add : MethodName := ⟨RX6, "add", "(IIII)V"⟩
abbrev cX6_addFence : ByteArray := prog_8_method_4_code
def yX6_addFence : MethodName := ⟨RX6, "addFence", "()V"⟩
abbrev cX6_startAgainOn : ByteArray := prog_8_method_5_code
def yX6_startAgainOn : MethodName := ⟨RX6, "startAgainOn", "(I)V"⟩
abbrev cX6_unfinishedBits : ByteArray := prog_8_method_6_code
def yX6_unfinishedBits : MethodName := ⟨RX6, "unfinishedBits", "()I"⟩
abbrev cX6_finishedTotal : ByteArray := prog_8_method_7_code
def yX6_finishedTotal : MethodName := ⟨RX6, "finishedTotal", "()I"⟩
abbrev cX6_opens : ByteArray := prog_8_method_8_code
def yX6_opens : MethodName := ⟨RX6, "opens", "(II)Z"⟩
abbrev cX6_counterOf : ByteArray := prog_8_method_9_code
def yX6_counterOf : MethodName := ⟨RX6, "counterOf", "(II)I"⟩
abbrev cX6_longestChain : ByteArray := prog_8_method_10_code
def yX6_longestChain : MethodName := ⟨RX6, "longestChain", "()I"⟩
abbrev cX6_longestChainBefore : ByteArray := prog_8_method_11_code
def yX6_longestChainBefore : MethodName := ⟨RX6, "longestChainBefore", "(I)I"⟩
abbrev cX6_readyAllFree : ByteArray := prog_8_method_12_code
def yX6_readyAllFree : MethodName := ⟨RX6, "readyAllFree", "()V"⟩
abbrev cX6_firstReady : ByteArray := prog_8_method_13_code
def yX6_firstReady : MethodName := ⟨RX6, "firstReady", "()I"⟩
def RX7 : String := "HardwareTaskQueue"
def TX7 : u_T := fun k => match k with
  | 0 => ("HardwareTaskQueue", "reader", "LHardwareTaskQueue$SetupReader;", true)
  | 1 => ("HardwareTaskQueue", "present", "LHardwareTaskQueue$Machine;", true)
  | 2 => ("HardwareTaskQueue", "spare", "LHardwareTaskQueue$Machine;", true)
  | 3 => ("HardwareTaskQueue", "history", "LHardwareTaskQueue$History;", true)
  | _ => ("HardwareTaskQueue", "errorPlace", "I", false)
def tyX7 : Nat → FieldType := fun k => match k with
  | 0 => .object "HardwareTaskQueue$SetupReader"
  | 1 => .object "HardwareTaskQueue$Machine"
  | 2 => .object "HardwareTaskQueue$Machine"
  | 3 => .object "HardwareTaskQueue$History"
  | _ => .int
theorem nmX7 : ∀ a, a < 5 → ∀ b, b < 5 → a ≠ b → (TX7 a).2.1 ≠ (TX7 b).2.1 := by decide +kernel
theorem tyX7_ok : ∀ k, k < 5 → parseFieldDescriptor (TX7 k).2.2.1 = some (tyX7 k) := by decide +kernel
abbrev cX7_init : ByteArray := prog_1_method_1_code
def yX7_init : MethodName := ⟨RX7, "<init>", "()V"⟩
abbrev cX7_append : ByteArray := prog_1_method_2_code
def yX7_append : MethodName := ⟨RX7, "append", "(IIIII)I"⟩
abbrev cX7_load : ByteArray := prog_1_method_3_code
def yX7_load : MethodName := ⟨RX7, "load", "(I)I"⟩
abbrev cX7_errorOffset : ByteArray := prog_1_method_4_code
def yX7_errorOffset : MethodName := ⟨RX7, "errorOffset", "()I"⟩
abbrev cX7_coreCount : ByteArray := prog_1_method_5_code
def yX7_coreCount : MethodName := ⟨RX7, "coreCount", "()I"⟩
abbrev cX7_taskCount : ByteArray := prog_1_method_6_code
def yX7_taskCount : MethodName := ⟨RX7, "taskCount", "()I"⟩
abbrev cX7_fenceCount : ByteArray := prog_1_method_7_code
def yX7_fenceCount : MethodName := ⟨RX7, "fenceCount", "()I"⟩
abbrev cX7_clock : ByteArray := prog_1_method_8_code
def yX7_clock : MethodName := ⟨RX7, "clock", "()I"⟩
abbrev cX7_state : ByteArray := prog_1_method_9_code
def yX7_state : MethodName := ⟨RX7, "state", "(I)I"⟩
abbrev cX7_counter : ByteArray := prog_1_method_10_code
def yX7_counter : MethodName := ⟨RX7, "counter", "(I)I"⟩
abbrev cX7_priority : ByteArray := prog_1_method_11_code
def yX7_priority : MethodName := ⟨RX7, "priority", "(I)I"⟩
abbrev cX7_coreOf : ByteArray := prog_1_method_12_code
def yX7_coreOf : MethodName := ⟨RX7, "coreOf", "(I)I"⟩
abbrev cX7_doneAt : ByteArray := prog_1_method_13_code
def yX7_doneAt : MethodName := ⟨RX7, "doneAt", "(I)I"⟩
abbrev cX7_isOpen : ByteArray := prog_1_method_14_code
def yX7_isOpen : MethodName := ⟨RX7, "isOpen", "(I)Z"⟩
abbrev cX7_queueLength : ByteArray := prog_1_method_15_code
def yX7_queueLength : MethodName := ⟨RX7, "queueLength", "(I)I"⟩
abbrev cX7_queued : ByteArray := prog_1_method_16_code
def yX7_queued : MethodName := ⟨RX7, "queued", "(II)I"⟩
abbrev cX7_running : ByteArray := prog_1_method_17_code
def yX7_running : MethodName := ⟨RX7, "running", "(I)I"⟩
abbrev cX7_remaining : ByteArray := prog_1_method_18_code
def yX7_remaining : MethodName := ⟨RX7, "remaining", "(I)I"⟩
abbrev cX7_busy : ByteArray := prog_1_method_19_code
def yX7_busy : MethodName := ⟨RX7, "busy", "(I)I"⟩
abbrev cX7_steals : ByteArray := prog_1_method_20_code
def yX7_steals : MethodName := ⟨RX7, "steals", "(I)I"⟩
abbrev cX7_isPaused : ByteArray := prog_1_method_21_code
def yX7_isPaused : MethodName := ⟨RX7, "isPaused", "(I)Z"⟩
abbrev cX7_finished : ByteArray := prog_1_method_22_code
def yX7_finished : MethodName := ⟨RX7, "finished", "()I"⟩
abbrev cX7_criticalPath : ByteArray := prog_1_method_23_code
def yX7_criticalPath : MethodName := ⟨RX7, "criticalPath", "()I"⟩
abbrev cX7_finishTime : ByteArray := prog_1_method_24_code
def yX7_finishTime : MethodName := ⟨RX7, "finishTime", "(I)I"⟩
abbrev cX7_timeOn : ByteArray := prog_1_method_25_code
def yX7_timeOn : MethodName := ⟨RX7, "timeOn", "(II)I"⟩
abbrev cX7_run : ByteArray := prog_1_method_26_code
def yX7_run : MethodName := ⟨RX7, "run", "(I)I"⟩
abbrev cX7_submit : ByteArray := prog_1_method_27_code
def yX7_submit : MethodName := ⟨RX7, "submit", "(III)I"⟩
abbrev cX7_depend : ByteArray := prog_1_method_28_code
def yX7_depend : MethodName := ⟨RX7, "depend", "(II)I"⟩
abbrev cX7_cancel : ByteArray := prog_1_method_29_code
def yX7_cancel : MethodName := ⟨RX7, "cancel", "(I)I"⟩
abbrev cX7_setPriority : ByteArray := prog_1_method_30_code
def yX7_setPriority : MethodName := ⟨RX7, "setPriority", "(II)I"⟩
abbrev cX7_pause : ByteArray := prog_1_method_31_code
def yX7_pause : MethodName := ⟨RX7, "pause", "(IZ)Z"⟩
abbrev cX7_undo : ByteArray := prog_1_method_32_code
def yX7_undo : MethodName := ⟨RX7, "undo", "()I"⟩
abbrev cX7_checksum : ByteArray := prog_1_method_33_code
def yX7_checksum : MethodName := ⟨RX7, "checksum", "()J"⟩
abbrev cX7_requireTask : ByteArray := prog_1_method_34_code
def yX7_requireTask : MethodName := ⟨RX7, "requireTask", "(I)V"⟩
abbrev cX7_requireCore : ByteArray := prog_1_method_35_code
def yX7_requireCore : MethodName := ⟨RX7, "requireCore", "(I)V"⟩
abbrev cX7_requireSetup : ByteArray := prog_1_method_36_code
def yX7_requireSetup : MethodName := ⟨RX7, "requireSetup", "()V"⟩
abbrev cX7_requirePriority : ByteArray := prog_1_method_37_code
def yX7_requirePriority : MethodName := ⟨RX7, "requirePriority", "(I)V"⟩
abbrev cX7_requireLimit : ByteArray := prog_1_method_38_code
def yX7_requireLimit : MethodName := ⟨RX7, "requireLimit", "(I)V"⟩
abbrev cX7_hasBit : ByteArray := prog_1_method_39_code
def yX7_hasBit : MethodName := ⟨RX7, "hasBit", "(II)Z"⟩
def RX8 : String := "HardwareTaskQueueModel"
def TX8 : u_T := fun k => match k with
  | 0 => ("HardwareTaskQueueModel", "thrown", "I", false)
  | 1 => ("HardwareTaskQueueModel", "buffer", "[I", true)
  | 2 => ("HardwareTaskQueueModel", "bufferLength", "I", false)
  | 3 => ("HardwareTaskQueueModel", "textLength", "I", false)
  | 4 => ("HardwareTaskQueueModel", "position", "I", false)
  | 5 => ("HardwareTaskQueueModel", "error", "I", false)
  | 6 => ("HardwareTaskQueueModel", "errorAt", "I", false)
  | 7 => ("HardwareTaskQueueModel", "errorOffset", "I", false)
  | 8 => ("HardwareTaskQueueModel", "data", "[I", true)
  | 9 => ("HardwareTaskQueueModel", "draft", "[I", true)
  | 10 => ("HardwareTaskQueueModel", "future", "[I", true)
  | 11 => ("HardwareTaskQueueModel", "history", "[[I", true)
  | 12 => ("HardwareTaskQueueModel", "undoDepth", "I", false)
  | 13 => ("HardwareTaskQueueModel", "numberStart", "I", false)
  | 14 => ("HardwareTaskQueueModel", "nesting", "I", false)
  | 15 => ("HardwareTaskQueueModel", "seen", "I", false)
  | 16 => ("HardwareTaskQueueModel", "stack", "[J", true)
  | _ => ("HardwareTaskQueueModel", "chain", "[I", true)
def tyX8 : Nat → FieldType := fun k => match k with
  | 0 => .int
  | 1 => .array .int
  | 2 => .int
  | 3 => .int
  | 4 => .int
  | 5 => .int
  | 6 => .int
  | 7 => .int
  | 8 => .array .int
  | 9 => .array .int
  | 10 => .array .int
  | 11 => .array (.array .int)
  | 12 => .int
  | 13 => .int
  | 14 => .int
  | 15 => .int
  | 16 => .array .long
  | _ => .array .int
theorem nmX8 : ∀ a, a < 18 → ∀ b, b < 18 → a ≠ b → (TX8 a).2.1 ≠ (TX8 b).2.1 := by decide +kernel
theorem tyX8_ok : ∀ k, k < 18 → parseFieldDescriptor (TX8 k).2.2.1 = some (tyX8 k) := by decide +kernel
abbrev cX8_init : ByteArray := prog_10_method_1_code
def yX8_init : MethodName := ⟨RX8, "<init>", "()V"⟩
abbrev cX8_thrown : ByteArray := prog_10_method_2_code
def yX8_thrown : MethodName := ⟨RX8, "thrown", "()I"⟩
abbrev cX8_fails : ByteArray := prog_10_method_3_code
def yX8_fails : MethodName := ⟨RX8, "fails", "(ZI)Z"⟩
abbrev cX8_in : ByteArray := prog_10_method_4_code
def yX8_in : MethodName := ⟨RX8, "in", "(III)Z"⟩
abbrev cX8_min : ByteArray := prog_10_method_5_code
def yX8_min : MethodName := ⟨RX8, "min", "(II)I"⟩
abbrev cX8_max : ByteArray := prog_10_method_6_code
def yX8_max : MethodName := ⟨RX8, "max", "(II)I"⟩
abbrev cX8_copy : ByteArray := prog_10_method_7_code
def yX8_copy : MethodName := ⟨RX8, "copy", "([I[I)V"⟩
abbrev cX8_task : ByteArray := prog_10_method_8_code
def yX8_task : MethodName := ⟨RX8, "task", "(I)I"⟩
abbrev cX8_core : ByteArray := prog_10_method_9_code
def yX8_core : MethodName := ⟨RX8, "core", "(I)I"⟩
abbrev cX8_clearCores : ByteArray := prog_10_method_10_code
def yX8_clearCores : MethodName := ⟨RX8, "clearCores", "([I)V"⟩
abbrev cX8_append : ByteArray := prog_10_method_11_code
def yX8_append : MethodName := ⟨RX8, "append", "(IIIII)I"⟩
abbrev cX8_byteAt : ByteArray := prog_10_method_12_code
def yX8_byteAt : MethodName := ⟨RX8, "byteAt", "(I)I"⟩
abbrev cX8_next : ByteArray := prog_10_method_13_code
def yX8_next : MethodName := ⟨RX8, "next", "()I"⟩
abbrev cX8_isGood : ByteArray := prog_10_method_14_code
def yX8_isGood : MethodName := ⟨RX8, "isGood", "()Z"⟩
abbrev cX8_report : ByteArray := prog_10_method_15_code
def yX8_report : MethodName := ⟨RX8, "report", "(II)V"⟩
abbrev cX8_isDigit : ByteArray := prog_10_method_16_code
def yX8_isDigit : MethodName := ⟨RX8, "isDigit", "(I)Z"⟩
abbrev cX8_takeWord : ByteArray := prog_10_method_17_code
def yX8_takeWord : MethodName := ⟨RX8, "takeWord", "(Ljava/lang/String;)Z"⟩
abbrev cX8_expect : ByteArray := prog_10_method_18_code
def yX8_expect : MethodName := ⟨RX8, "expect", "(I)V"⟩
abbrev cX8_number : ByteArray := prog_10_method_19_code
def yX8_number : MethodName := ⟨RX8, "number", "(II)I"⟩
abbrev cX8_emit : ByteArray := prog_10_method_20_code
def yX8_emit : MethodName := ⟨RX8, "emit", "(I)V"⟩
abbrev cX8_factor : ByteArray := prog_10_method_21_code
def yX8_factor : MethodName := ⟨RX8, "factor", "()V"⟩
abbrev cX8_term : ByteArray := prog_10_method_22_code
def yX8_term : MethodName := ⟨RX8, "term", "()V"⟩
abbrev cX8_sum : ByteArray := prog_10_method_23_code
def yX8_sum : MethodName := ⟨RX8, "sum", "()V"⟩
abbrev cX8_once : ByteArray := prog_10_method_24_code
def yX8_once : MethodName := ⟨RX8, "once", "(II)V"⟩
abbrev cX8_addTask : ByteArray := prog_10_method_25_code
def yX8_addTask : MethodName := ⟨RX8, "addTask", "([IIII)I"⟩
abbrev cX8_putToWait : ByteArray := prog_10_method_26_code
def yX8_putToWait : MethodName := ⟨RX8, "putToWait", "([II)V"⟩
abbrev cX8_readTask : ByteArray := prog_10_method_27_code
def yX8_readTask : MethodName := ⟨RX8, "readTask", "(I)V"⟩
abbrev cX8_readFence : ByteArray := prog_10_method_28_code
def yX8_readFence : MethodName := ⟨RX8, "readFence", "(I)V"⟩
abbrev cX8_statement : ByteArray := prog_10_method_29_code
def yX8_statement : MethodName := ⟨RX8, "statement", "()V"⟩
abbrev cX8_load : ByteArray := prog_10_method_30_code
def yX8_load : MethodName := ⟨RX8, "load", "(I)I"⟩
abbrev cX8_errorOffset : ByteArray := prog_10_method_31_code
def yX8_errorOffset : MethodName := ⟨RX8, "errorOffset", "()I"⟩
abbrev cX8_limited : ByteArray := prog_10_method_32_code
def yX8_limited : MethodName := ⟨RX8, "limited", "(J)J"⟩
abbrev cX8_operate : ByteArray := prog_10_method_33_code
def yX8_operate : MethodName := ⟨RX8, "operate", "(IJJ)J"⟩
abbrev cX8_lengthOf : ByteArray := prog_10_method_34_code
def yX8_lengthOf : MethodName := ⟨RX8, "lengthOf", "([III)I"⟩
abbrev cX8_isFinished : ByteArray := prog_10_method_35_code
def yX8_isFinished : MethodName := ⟨RX8, "isFinished", "([II)Z"⟩
abbrev cX8_isOpened : ByteArray := prog_10_method_36_code
def yX8_isOpened : MethodName := ⟨RX8, "isOpened", "([II)Z"⟩
abbrev cX8_counterOf : ByteArray := prog_10_method_37_code
def yX8_counterOf : MethodName := ⟨RX8, "counterOf", "([II)I"⟩
abbrev cX8_finishedOf : ByteArray := prog_10_method_38_code
def yX8_finishedOf : MethodName := ⟨RX8, "finishedOf", "([I)I"⟩
abbrev cX8_goOn : ByteArray := prog_10_method_39_code
def yX8_goOn : MethodName := ⟨RX8, "goOn", "([I)I"⟩
abbrev cX8_coreFor : ByteArray := prog_10_method_40_code
def yX8_coreFor : MethodName := ⟨RX8, "coreFor", "([II)I"⟩
abbrev cX8_queueReady : ByteArray := prog_10_method_41_code
def yX8_queueReady : MethodName := ⟨RX8, "queueReady", "([I)V"⟩
abbrev cX8_takeOut : ByteArray := prog_10_method_42_code
def yX8_takeOut : MethodName := ⟨RX8, "takeOut", "([III)I"⟩
abbrev cX8_take : ByteArray := prog_10_method_43_code
def yX8_take : MethodName := ⟨RX8, "take", "([II)V"⟩
abbrev cX8_cycle : ByteArray := prog_10_method_44_code
def yX8_cycle : MethodName := ⟨RX8, "cycle", "([I)I"⟩
abbrev cX8_noTask : ByteArray := prog_10_method_45_code
def yX8_noTask : MethodName := ⟨RX8, "noTask", "(I)Z"⟩
abbrev cX8_noCore : ByteArray := prog_10_method_46_code
def yX8_noCore : MethodName := ⟨RX8, "noCore", "(I)Z"⟩
abbrev cX8_coreCount : ByteArray := prog_10_method_47_code
def yX8_coreCount : MethodName := ⟨RX8, "coreCount", "()I"⟩
abbrev cX8_taskCount : ByteArray := prog_10_method_48_code
def yX8_taskCount : MethodName := ⟨RX8, "taskCount", "()I"⟩
abbrev cX8_fenceCount : ByteArray := prog_10_method_49_code
def yX8_fenceCount : MethodName := ⟨RX8, "fenceCount", "()I"⟩
abbrev cX8_clock : ByteArray := prog_10_method_50_code
def yX8_clock : MethodName := ⟨RX8, "clock", "()I"⟩
abbrev cX8_state : ByteArray := prog_10_method_51_code
def yX8_state : MethodName := ⟨RX8, "state", "(I)I"⟩
abbrev cX8_counter : ByteArray := prog_10_method_52_code
def yX8_counter : MethodName := ⟨RX8, "counter", "(I)I"⟩
abbrev cX8_priority : ByteArray := prog_10_method_53_code
def yX8_priority : MethodName := ⟨RX8, "priority", "(I)I"⟩
abbrev cX8_coreOf : ByteArray := prog_10_method_54_code
def yX8_coreOf : MethodName := ⟨RX8, "coreOf", "(I)I"⟩
abbrev cX8_doneAt : ByteArray := prog_10_method_55_code
def yX8_doneAt : MethodName := ⟨RX8, "doneAt", "(I)I"⟩
abbrev cX8_isOpen : ByteArray := prog_10_method_56_code
def yX8_isOpen : MethodName := ⟨RX8, "isOpen", "(I)Z"⟩
abbrev cX8_queueLength : ByteArray := prog_10_method_57_code
def yX8_queueLength : MethodName := ⟨RX8, "queueLength", "(I)I"⟩
abbrev cX8_queued : ByteArray := prog_10_method_58_code
def yX8_queued : MethodName := ⟨RX8, "queued", "(II)I"⟩
abbrev cX8_running : ByteArray := prog_10_method_59_code
def yX8_running : MethodName := ⟨RX8, "running", "(I)I"⟩
abbrev cX8_remainingOf : ByteArray := prog_10_method_60_code
def yX8_remainingOf : MethodName := ⟨RX8, "remainingOf", "(I)I"⟩
abbrev cX8_remaining : ByteArray := prog_10_method_61_code
def yX8_remaining : MethodName := ⟨RX8, "remaining", "(I)I"⟩
abbrev cX8_busy : ByteArray := prog_10_method_62_code
def yX8_busy : MethodName := ⟨RX8, "busy", "(I)I"⟩
abbrev cX8_steals : ByteArray := prog_10_method_63_code
def yX8_steals : MethodName := ⟨RX8, "steals", "(I)I"⟩
abbrev cX8_isPaused : ByteArray := prog_10_method_64_code
def yX8_isPaused : MethodName := ⟨RX8, "isPaused", "(I)Z"⟩
abbrev cX8_finished : ByteArray := prog_10_method_65_code
def yX8_finished : MethodName := ⟨RX8, "finished", "()I"⟩
abbrev cX8_isAhead : ByteArray := prog_10_method_66_code
def yX8_isAhead : MethodName := ⟨RX8, "isAhead", "(II)Z"⟩
abbrev cX8_criticalPath : ByteArray := prog_10_method_67_code
def yX8_criticalPath : MethodName := ⟨RX8, "criticalPath", "()I"⟩
abbrev cX8_finishFuture : ByteArray := prog_10_method_68_code
def yX8_finishFuture : MethodName := ⟨RX8, "finishFuture", "(I)I"⟩
abbrev cX8_finishTime : ByteArray := prog_10_method_69_code
def yX8_finishTime : MethodName := ⟨RX8, "finishTime", "(I)I"⟩
abbrev cX8_timeOn : ByteArray := prog_10_method_70_code
def yX8_timeOn : MethodName := ⟨RX8, "timeOn", "(II)I"⟩
abbrev cX8_remember : ByteArray := prog_10_method_71_code
def yX8_remember : MethodName := ⟨RX8, "remember", "()V"⟩
abbrev cX8_run : ByteArray := prog_10_method_72_code
def yX8_run : MethodName := ⟨RX8, "run", "(I)I"⟩
abbrev cX8_submit : ByteArray := prog_10_method_73_code
def yX8_submit : MethodName := ⟨RX8, "submit", "(III)I"⟩
abbrev cX8_depend : ByteArray := prog_10_method_74_code
def yX8_depend : MethodName := ⟨RX8, "depend", "(II)I"⟩
abbrev cX8_cancel : ByteArray := prog_10_method_75_code
def yX8_cancel : MethodName := ⟨RX8, "cancel", "(I)I"⟩
abbrev cX8_setPriority : ByteArray := prog_10_method_76_code
def yX8_setPriority : MethodName := ⟨RX8, "setPriority", "(II)I"⟩
abbrev cX8_pause : ByteArray := prog_10_method_77_code
def yX8_pause : MethodName := ⟨RX8, "pause", "(IZ)Z"⟩
abbrev cX8_undo : ByteArray := prog_10_method_78_code
def yX8_undo : MethodName := ⟨RX8, "undo", "()I"⟩
abbrev cX8_checksum : ByteArray := prog_10_method_79_code
def yX8_checksum : MethodName := ⟨RX8, "checksum", "()J"⟩
def RJx145de : String := "java/io/Serializable"
def TJx145de : u_T := fun k => match k with
  | _ => ("", "", "", false)
def tyJx145de : Nat → FieldType := fun k => match k with
  | _ => .int
theorem nmJx145de : ∀ a, a < 0 → ∀ b, b < 0 → a ≠ b → (TJx145de a).2.1 ≠ (TJx145de b).2.1 := by decide +kernel
theorem tyJx145de_ok : ∀ k, k < 0 → parseFieldDescriptor (TJx145de k).2.2.1 = some (tyJx145de k) := by decide +kernel
def RJx9f9b0 : String := "java/lang/CharSequence"
def TJx9f9b0 : u_T := fun k => match k with
  | _ => ("", "", "", false)
def tyJx9f9b0 : Nat → FieldType := fun k => match k with
  | _ => .int
theorem nmJx9f9b0 : ∀ a, a < 0 → ∀ b, b < 0 → a ≠ b → (TJx9f9b0 a).2.1 ≠ (TJx9f9b0 b).2.1 := by decide +kernel
theorem tyJx9f9b0_ok : ∀ k, k < 0 → parseFieldDescriptor (TJx9f9b0 k).2.2.1 = some (tyJx9f9b0 k) := by decide +kernel
def RJx8e188 : String := "java/lang/Cloneable"
def TJx8e188 : u_T := fun k => match k with
  | _ => ("", "", "", false)
def tyJx8e188 : Nat → FieldType := fun k => match k with
  | _ => .int
theorem nmJx8e188 : ∀ a, a < 0 → ∀ b, b < 0 → a ≠ b → (TJx8e188 a).2.1 ≠ (TJx8e188 b).2.1 := by decide +kernel
theorem tyJx8e188_ok : ∀ k, k < 0 → parseFieldDescriptor (TJx8e188 k).2.2.1 = some (tyJx8e188 k) := by decide +kernel
def RJxb160c : String := "java/lang/Comparable"
def TJxb160c : u_T := fun k => match k with
  | _ => ("", "", "", false)
def tyJxb160c : Nat → FieldType := fun k => match k with
  | _ => .int
theorem nmJxb160c : ∀ a, a < 0 → ∀ b, b < 0 → a ≠ b → (TJxb160c a).2.1 ≠ (TJxb160c b).2.1 := by decide +kernel
theorem tyJxb160c_ok : ∀ k, k < 0 → parseFieldDescriptor (TJxb160c k).2.2.1 = some (tyJxb160c k) := by decide +kernel
def RJ6 : String := "java/lang/Integer"
def TJ6 : u_T := fun k => match k with
  | _ => ("", "", "", false)
def tyJ6 : Nat → FieldType := fun k => match k with
  | _ => .int
theorem nmJ6 : ∀ a, a < 0 → ∀ b, b < 0 → a ≠ b → (TJ6 a).2.1 ≠ (TJ6 b).2.1 := by decide +kernel
theorem tyJ6_ok : ∀ k, k < 0 → parseFieldDescriptor (TJ6 k).2.2.1 = some (tyJ6 k) := by decide +kernel
abbrev cJ6_bitCount_0f7a4 : ByteArray := prog_16_method_49_code
def yJ6_bitCount_0f7a4 : MethodName := ⟨RJ6, "bitCount", "(I)I"⟩
def RJ9 : String := "java/lang/Math"
def TJ9 : u_T := fun k => match k with
  | _ => ("", "", "", false)
def tyJ9 : Nat → FieldType := fun k => match k with
  | _ => .int
theorem nmJ9 : ∀ a, a < 0 → ∀ b, b < 0 → a ≠ b → (TJ9 a).2.1 ≠ (TJ9 b).2.1 := by decide +kernel
theorem tyJ9_ok : ∀ k, k < 0 → parseFieldDescriptor (TJ9 k).2.2.1 = some (tyJ9 k) := by decide +kernel
abbrev cJ9_max_7cf53 : ByteArray := prog_17_method_65_code
def yJ9_max_7cf53 : MethodName := ⟨RJ9, "max", "(II)I"⟩
abbrev cJ9_max_f86c9 : ByteArray := prog_17_method_66_code
def yJ9_max_f86c9 : MethodName := ⟨RJ9, "max", "(JJ)J"⟩
abbrev cJ9_min_7cf53 : ByteArray := prog_17_method_69_code
def yJ9_min_7cf53 : MethodName := ⟨RJ9, "min", "(II)I"⟩
abbrev cJ9_min_f86c9 : ByteArray := prog_17_method_70_code
def yJ9_min_f86c9 : MethodName := ⟨RJ9, "min", "(JJ)J"⟩
def RJ0 : String := "java/lang/String"
def TJ0 : u_T := fun k => match k with
  | _ => ("", "", "", false)
def tyJ0 : Nat → FieldType := fun k => match k with
  | _ => .int
theorem nmJ0 : ∀ a, a < 0 → ∀ b, b < 0 → a ≠ b → (TJ0 a).2.1 ≠ (TJ0 b).2.1 := by decide +kernel
theorem tyJ0_ok : ∀ k, k < 0 → parseFieldDescriptor (TJ0 k).2.2.1 = some (tyJ0 k) := by decide +kernel
abbrev cJ0_length_8abf5 : ByteArray := prog_19_method_54_code
def yJ0_length_8abf5 : MethodName := ⟨RJ0, "length", "()I"⟩
abbrev cJ0_charAt_5068e : ByteArray := prog_19_method_56_code
def yJ0_charAt_5068e : MethodName := ⟨RJ0, "charAt", "(I)C"⟩
abbrev cJ0_coder_7d493 : ByteArray := prog_19_method_152_code
def yJ0_coder_7d493 : MethodName := ⟨RJ0, "coder", "()B"⟩
abbrev cJ0_isLatin1_aae02 : ByteArray := prog_19_method_154_code
def yJ0_isLatin1_aae02 : MethodName := ⟨RJ0, "isLatin1", "()Z"⟩
abbrev cJ0_checkIndex_df160 : ByteArray := prog_19_method_155_code
def yJ0_checkIndex_df160 : MethodName := ⟨RJ0, "checkIndex", "(II)V"⟩
def RJ1 : String := "java/lang/StringLatin1"
def TJ1 : u_T := fun k => match k with
  | _ => ("", "", "", false)
def tyJ1 : Nat → FieldType := fun k => match k with
  | _ => .int
theorem nmJ1 : ∀ a, a < 0 → ∀ b, b < 0 → a ≠ b → (TJ1 a).2.1 ≠ (TJ1 b).2.1 := by decide +kernel
theorem tyJ1_ok : ∀ k, k < 0 → parseFieldDescriptor (TJ1 k).2.2.1 = some (tyJ1 k) := by decide +kernel
abbrev cJ1_charAt_3b067 : ByteArray := prog_20_method_2_code
def yJ1_charAt_3b067 : MethodName := ⟨RJ1, "charAt", "([BI)C"⟩
def RJ2 : String := "java/lang/StringUTF16"
def TJ2 : u_T := fun k => match k with
  | _ => ("", "", "", false)
def tyJ2 : Nat → FieldType := fun k => match k with
  | _ => .int
theorem nmJ2 : ∀ a, a < 0 → ∀ b, b < 0 → a ≠ b → (TJ2 a).2.1 ≠ (TJ2 b).2.1 := by decide +kernel
theorem tyJ2_ok : ∀ k, k < 0 → parseFieldDescriptor (TJ2 k).2.2.1 = some (tyJ2 k) := by decide +kernel
abbrev cJ2_getChar_3b067 : ByteArray := prog_21_method_5_code
def yJ2_getChar_3b067 : MethodName := ⟨RJ2, "getChar", "([BI)C"⟩
abbrev cJ2_length_9d52b : ByteArray := prog_21_method_6_code
def yJ2_length_9d52b : MethodName := ⟨RJ2, "length", "([B)I"⟩
abbrev cJ2_charAt_3b067 : ByteArray := prog_21_method_83_code
def yJ2_charAt_3b067 : MethodName := ⟨RJ2, "charAt", "([BI)C"⟩
abbrev cJ2_checkIndex_2214a : ByteArray := prog_21_method_91_code
def yJ2_checkIndex_2214a : MethodName := ⟨RJ2, "checkIndex", "(I[B)V"⟩
def RJ10 : String := "java/lang/System"
def TJ10 : u_T := fun k => match k with
  | _ => ("", "", "", false)
def tyJ10 : Nat → FieldType := fun k => match k with
  | _ => .int
theorem nmJ10 : ∀ a, a < 0 → ∀ b, b < 0 → a ≠ b → (TJ10 a).2.1 ≠ (TJ10 b).2.1 := by decide +kernel
theorem tyJ10_ok : ∀ k, k < 0 → parseFieldDescriptor (TJ10 k).2.2.1 = some (tyJ10 k) := by decide +kernel
def RJxfd54e : String := "java/lang/constant/Constable"
def TJxfd54e : u_T := fun k => match k with
  | _ => ("", "", "", false)
def tyJxfd54e : Nat → FieldType := fun k => match k with
  | _ => .int
theorem nmJxfd54e : ∀ a, a < 0 → ∀ b, b < 0 → a ≠ b → (TJxfd54e a).2.1 ≠ (TJxfd54e b).2.1 := by decide +kernel
theorem tyJxfd54e_ok : ∀ k, k < 0 → parseFieldDescriptor (TJxfd54e k).2.2.1 = some (tyJxfd54e k) := by decide +kernel
def RJx3cf43 : String := "java/lang/constant/ConstantDesc"
def TJx3cf43 : u_T := fun k => match k with
  | _ => ("", "", "", false)
def tyJx3cf43 : Nat → FieldType := fun k => match k with
  | _ => .int
theorem nmJx3cf43 : ∀ a, a < 0 → ∀ b, b < 0 → a ≠ b → (TJx3cf43 a).2.1 ≠ (TJx3cf43 b).2.1 := by decide +kernel
theorem tyJx3cf43_ok : ∀ k, k < 0 → parseFieldDescriptor (TJx3cf43 k).2.2.1 = some (tyJx3cf43 k) := by decide +kernel
def RJ7 : String := "java/util/Arrays"
def TJ7 : u_T := fun k => match k with
  | _ => ("", "", "", false)
def tyJ7 : Nat → FieldType := fun k => match k with
  | _ => .int
theorem nmJ7 : ∀ a, a < 0 → ∀ b, b < 0 → a ≠ b → (TJ7 a).2.1 ≠ (TJ7 b).2.1 := by decide +kernel
theorem tyJ7_ok : ∀ k, k < 0 → parseFieldDescriptor (TJ7 k).2.2.1 = some (tyJ7 k) := by decide +kernel
abbrev cJ7_copyOf_59c91 : ByteArray := prog_24_method_123_code
def yJ7_copyOf_59c91 : MethodName := ⟨RJ7, "copyOf", "([II)[I"⟩
def RJ3 : String := "jdk/internal/util/Preconditions"
def TJ3 : u_T := fun k => match k with
  | _ => ("", "", "", false)
def tyJ3 : Nat → FieldType := fun k => match k with
  | _ => .int
theorem nmJ3 : ∀ a, a < 0 → ∀ b, b < 0 → a ≠ b → (TJ3 a).2.1 ≠ (TJ3 b).2.1 := by decide +kernel
theorem tyJ3_ok : ∀ k, k < 0 → parseFieldDescriptor (TJ3 k).2.2.1 = some (tyJ3 k) := by decide +kernel
abbrev cJ3_checkIndex_8e157 : ByteArray := prog_25_method_11_code
def yJ3_checkIndex_8e157 : MethodName := ⟨RJ3, "checkIndex", "(IILjava/util/function/BiFunction;)I"⟩
def RL : String := "HardwareTaskQueueLaw"
abbrev cL_load : ByteArray := method_3_code
def yL_load : MethodName := ⟨RL, "load", "(LHardwareTaskQueue;I[J)I"⟩
abbrev cL_state : ByteArray := method_4_code
def yL_state : MethodName := ⟨RL, "state", "(LHardwareTaskQueue;I[J)I"⟩
abbrev cL_counter : ByteArray := method_5_code
def yL_counter : MethodName := ⟨RL, "counter", "(LHardwareTaskQueue;I[J)I"⟩
abbrev cL_priority : ByteArray := method_6_code
def yL_priority : MethodName := ⟨RL, "priority", "(LHardwareTaskQueue;I[J)I"⟩
abbrev cL_coreOf : ByteArray := method_7_code
def yL_coreOf : MethodName := ⟨RL, "coreOf", "(LHardwareTaskQueue;I[J)I"⟩
abbrev cL_doneAt : ByteArray := method_8_code
def yL_doneAt : MethodName := ⟨RL, "doneAt", "(LHardwareTaskQueue;I[J)I"⟩
abbrev cL_isOpen : ByteArray := method_9_code
def yL_isOpen : MethodName := ⟨RL, "isOpen", "(LHardwareTaskQueue;I[J)I"⟩
abbrev cL_queueLength : ByteArray := method_10_code
def yL_queueLength : MethodName := ⟨RL, "queueLength", "(LHardwareTaskQueue;I[J)I"⟩
abbrev cL_queued : ByteArray := method_11_code
def yL_queued : MethodName := ⟨RL, "queued", "(LHardwareTaskQueue;II[J)I"⟩
abbrev cL_running : ByteArray := method_12_code
def yL_running : MethodName := ⟨RL, "running", "(LHardwareTaskQueue;I[J)I"⟩
abbrev cL_remaining : ByteArray := method_13_code
def yL_remaining : MethodName := ⟨RL, "remaining", "(LHardwareTaskQueue;I[J)I"⟩
abbrev cL_busy : ByteArray := method_14_code
def yL_busy : MethodName := ⟨RL, "busy", "(LHardwareTaskQueue;I[J)I"⟩
abbrev cL_steals : ByteArray := method_15_code
def yL_steals : MethodName := ⟨RL, "steals", "(LHardwareTaskQueue;I[J)I"⟩
abbrev cL_isPaused : ByteArray := method_16_code
def yL_isPaused : MethodName := ⟨RL, "isPaused", "(LHardwareTaskQueue;I[J)I"⟩
abbrev cL_finishTime : ByteArray := method_17_code
def yL_finishTime : MethodName := ⟨RL, "finishTime", "(LHardwareTaskQueue;I[J)I"⟩
abbrev cL_timeOn : ByteArray := method_18_code
def yL_timeOn : MethodName := ⟨RL, "timeOn", "(LHardwareTaskQueue;II[J)I"⟩
abbrev cL_run : ByteArray := method_19_code
def yL_run : MethodName := ⟨RL, "run", "(LHardwareTaskQueue;I[J)I"⟩
abbrev cL_submit : ByteArray := method_20_code
def yL_submit : MethodName := ⟨RL, "submit", "(LHardwareTaskQueue;III[J)I"⟩
abbrev cL_depend : ByteArray := method_21_code
def yL_depend : MethodName := ⟨RL, "depend", "(LHardwareTaskQueue;II[J)I"⟩
abbrev cL_cancel : ByteArray := method_22_code
def yL_cancel : MethodName := ⟨RL, "cancel", "(LHardwareTaskQueue;I[J)I"⟩
abbrev cL_setPriority : ByteArray := method_23_code
def yL_setPriority : MethodName := ⟨RL, "setPriority", "(LHardwareTaskQueue;II[J)I"⟩
abbrev cL_pause : ByteArray := method_24_code
def yL_pause : MethodName := ⟨RL, "pause", "(LHardwareTaskQueue;IZ[J)I"⟩
abbrev cL_law : ByteArray := code
def yL_law : MethodName := ⟨RL, "law", "([I)Z"⟩
abbrev vwCl : List vw_C := [(RX0, TX0, 10), (RX1, TX1, 2), (RX2, TX2, 3), (RX3, TX3, 4), (RX4, TX4, 6), (RX5, TX5, 7), (RX6, TX6, 11), (RX7, TX7, 5), (RX8, TX8, 18)]
end
section
theorem dX0_init_0 : decode cX0_init 0 = .ok (.aload_n 0, 1) := by decide +kernel
theorem dX0_init_1 : decode cX0_init 1 = .ok (.invokespecial 3, 3) := by decide +kernel
theorem dX0_init_4 : decode cX0_init 4 = .ok (.aload_n 0, 1) := by decide +kernel
theorem dX0_init_5 : decode cX0_init 5 = .ok (.iconst 0, 1) := by decide +kernel
theorem dX0_init_6 : decode cX0_init 6 = .ok (.putfield 9, 3) := by decide +kernel
theorem dX0_init_9 : decode cX0_init 9 = .ok (.aload_n 0, 1) := by decide +kernel
theorem dX0_init_10 : decode cX0_init 10 = .ok (.iconst 0, 1) := by decide +kernel
theorem dX0_init_11 : decode cX0_init 11 = .ok (.putfield 15, 3) := by decide +kernel
theorem dX0_init_14 : decode cX0_init 14 = .ok (.aload_n 0, 1) := by decide +kernel
theorem dX0_init_15 : decode cX0_init 15 = .ok (.iconst 0, 1) := by decide +kernel
theorem dX0_init_16 : decode cX0_init 16 = .ok (.putfield 18, 3) := by decide +kernel
theorem dX0_init_19 : decode cX0_init 19 = .ok (.aload_n 0, 1) := by decide +kernel
theorem dX0_init_20 : decode cX0_init 20 = .ok (.bipush 32, 2) := by decide +kernel
theorem dX0_init_22 : decode cX0_init 22 = .ok (.newarray .int, 2) := by decide +kernel
theorem dX0_init_24 : decode cX0_init 24 = .ok (.putfield 21, 3) := by decide +kernel
theorem dX0_init_27 : decode cX0_init 27 = .ok (.aload_n 0, 1) := by decide +kernel
theorem dX0_init_28 : decode cX0_init 28 = .ok (.iconst 4, 1) := by decide +kernel
theorem dX0_init_29 : decode cX0_init 29 = .ok (.newarray .int, 2) := by decide +kernel
theorem dX0_init_31 : decode cX0_init 31 = .ok (.putfield 25, 3) := by decide +kernel
theorem dX0_init_34 : decode cX0_init 34 = .ok (.aload_n 0, 1) := by decide +kernel
theorem dX0_init_35 : decode cX0_init 35 = .ok (.iconst 4, 1) := by decide +kernel
theorem dX0_init_36 : decode cX0_init 36 = .ok (.newarray .int, 2) := by decide +kernel
theorem dX0_init_38 : decode cX0_init 38 = .ok (.putfield 28, 3) := by decide +kernel
theorem dX0_init_41 : decode cX0_init 41 = .ok (.aload_n 0, 1) := by decide +kernel
theorem dX0_init_42 : decode cX0_init 42 = .ok (.iconst 4, 1) := by decide +kernel
theorem dX0_init_43 : decode cX0_init 43 = .ok (.newarray .int, 2) := by decide +kernel
theorem dX0_init_45 : decode cX0_init 45 = .ok (.putfield 31, 3) := by decide +kernel
theorem dX0_init_48 : decode cX0_init 48 = .ok (.aload_n 0, 1) := by decide +kernel
theorem dX0_init_49 : decode cX0_init 49 = .ok (.iconst 4, 1) := by decide +kernel
theorem dX0_init_50 : decode cX0_init 50 = .ok (.newarray .int, 2) := by decide +kernel
theorem dX0_init_52 : decode cX0_init 52 = .ok (.putfield 34, 3) := by decide +kernel
theorem dX0_init_55 : decode cX0_init 55 = .ok (.aload_n 0, 1) := by decide +kernel
theorem dX0_init_56 : decode cX0_init 56 = .ok (.iconst 4, 1) := by decide +kernel
theorem dX0_init_57 : decode cX0_init 57 = .ok (.newarray .int, 2) := by decide +kernel
theorem dX0_init_59 : decode cX0_init 59 = .ok (.putfield 37, 3) := by decide +kernel
theorem dX0_init_62 : decode cX0_init 62 = .ok (.aload_n 0, 1) := by decide +kernel
theorem dX0_init_63 : decode cX0_init 63 = .ok (.iconst 4, 1) := by decide +kernel
theorem dX0_init_64 : decode cX0_init 64 = .ok (.newarray .boolean, 2) := by decide +kernel
theorem dX0_init_66 : decode cX0_init 66 = .ok (.putfield 40, 3) := by decide +kernel
theorem dX0_init_69 : decode cX0_init 69 = .ok (.return_, 1) := by decide +kernel
theorem dX0_copyFrom_0 : decode cX0_copyFrom 0 = .ok (.aload_n 0, 1) := by decide +kernel
theorem dX0_copyFrom_1 : decode cX0_copyFrom 1 = .ok (.aload_n 1, 1) := by decide +kernel
theorem dX0_copyFrom_2 : decode cX0_copyFrom 2 = .ok (.getfield 9, 3) := by decide +kernel
theorem dX0_copyFrom_5 : decode cX0_copyFrom 5 = .ok (.putfield 9, 3) := by decide +kernel
theorem dX0_copyFrom_8 : decode cX0_copyFrom 8 = .ok (.aload_n 0, 1) := by decide +kernel
theorem dX0_copyFrom_9 : decode cX0_copyFrom 9 = .ok (.aload_n 1, 1) := by decide +kernel
theorem dX0_copyFrom_10 : decode cX0_copyFrom 10 = .ok (.getfield 15, 3) := by decide +kernel
theorem dX0_copyFrom_13 : decode cX0_copyFrom 13 = .ok (.putfield 15, 3) := by decide +kernel
theorem dX0_copyFrom_16 : decode cX0_copyFrom 16 = .ok (.aload_n 0, 1) := by decide +kernel
theorem dX0_copyFrom_17 : decode cX0_copyFrom 17 = .ok (.aload_n 1, 1) := by decide +kernel
theorem dX0_copyFrom_18 : decode cX0_copyFrom 18 = .ok (.getfield 18, 3) := by decide +kernel
theorem dX0_copyFrom_21 : decode cX0_copyFrom 21 = .ok (.putfield 18, 3) := by decide +kernel
theorem dX0_copyFrom_24 : decode cX0_copyFrom 24 = .ok (.aload_n 1, 1) := by decide +kernel
theorem dX0_copyFrom_25 : decode cX0_copyFrom 25 = .ok (.getfield 21, 3) := by decide +kernel
theorem dX0_copyFrom_28 : decode cX0_copyFrom 28 = .ok (.iconst 0, 1) := by decide +kernel
theorem dX0_copyFrom_29 : decode cX0_copyFrom 29 = .ok (.aload_n 0, 1) := by decide +kernel
theorem dX0_copyFrom_30 : decode cX0_copyFrom 30 = .ok (.getfield 21, 3) := by decide +kernel
theorem dX0_copyFrom_33 : decode cX0_copyFrom 33 = .ok (.iconst 0, 1) := by decide +kernel
theorem dX0_copyFrom_34 : decode cX0_copyFrom 34 = .ok (.bipush 32, 2) := by decide +kernel
theorem dX0_copyFrom_36 : decode cX0_copyFrom 36 = .ok (.invokestatic 44, 3) := by decide +kernel
theorem dX0_copyFrom_39 : decode cX0_copyFrom 39 = .ok (.iconst 0, 1) := by decide +kernel
theorem dX0_copyFrom_40 : decode cX0_copyFrom 40 = .ok (.istore_n 2, 1) := by decide +kernel
theorem dX0_copyFrom_41 : decode cX0_copyFrom 41 = .ok (.iload_n 2, 1) := by decide +kernel
theorem dX0_copyFrom_42 : decode cX0_copyFrom 42 = .ok (.iconst 4, 1) := by decide +kernel
theorem dX0_copyFrom_43 : decode cX0_copyFrom 43 = .ok (.if_icmp .ge 81, 3) := by decide +kernel
theorem dX0_copyFrom_46 : decode cX0_copyFrom 46 = .ok (.aload_n 0, 1) := by decide +kernel
theorem dX0_copyFrom_47 : decode cX0_copyFrom 47 = .ok (.getfield 25, 3) := by decide +kernel
theorem dX0_copyFrom_50 : decode cX0_copyFrom 50 = .ok (.iload_n 2, 1) := by decide +kernel
theorem dX0_copyFrom_51 : decode cX0_copyFrom 51 = .ok (.aload_n 1, 1) := by decide +kernel
theorem dX0_copyFrom_52 : decode cX0_copyFrom 52 = .ok (.getfield 25, 3) := by decide +kernel
theorem dX0_copyFrom_55 : decode cX0_copyFrom 55 = .ok (.iload_n 2, 1) := by decide +kernel
theorem dX0_copyFrom_56 : decode cX0_copyFrom 56 = .ok (.iaload, 1) := by decide +kernel
theorem dX0_copyFrom_57 : decode cX0_copyFrom 57 = .ok (.iastore, 1) := by decide +kernel
theorem dX0_copyFrom_58 : decode cX0_copyFrom 58 = .ok (.aload_n 0, 1) := by decide +kernel
theorem dX0_copyFrom_59 : decode cX0_copyFrom 59 = .ok (.getfield 28, 3) := by decide +kernel
theorem dX0_copyFrom_62 : decode cX0_copyFrom 62 = .ok (.iload_n 2, 1) := by decide +kernel
theorem dX0_copyFrom_63 : decode cX0_copyFrom 63 = .ok (.aload_n 1, 1) := by decide +kernel
theorem dX0_copyFrom_64 : decode cX0_copyFrom 64 = .ok (.getfield 28, 3) := by decide +kernel
theorem dX0_copyFrom_67 : decode cX0_copyFrom 67 = .ok (.iload_n 2, 1) := by decide +kernel
theorem dX0_copyFrom_68 : decode cX0_copyFrom 68 = .ok (.iaload, 1) := by decide +kernel
theorem dX0_copyFrom_69 : decode cX0_copyFrom 69 = .ok (.iastore, 1) := by decide +kernel
theorem dX0_copyFrom_70 : decode cX0_copyFrom 70 = .ok (.aload_n 0, 1) := by decide +kernel
theorem dX0_copyFrom_71 : decode cX0_copyFrom 71 = .ok (.getfield 31, 3) := by decide +kernel
theorem dX0_copyFrom_74 : decode cX0_copyFrom 74 = .ok (.iload_n 2, 1) := by decide +kernel
theorem dX0_copyFrom_75 : decode cX0_copyFrom 75 = .ok (.aload_n 1, 1) := by decide +kernel
theorem dX0_copyFrom_76 : decode cX0_copyFrom 76 = .ok (.getfield 31, 3) := by decide +kernel
theorem dX0_copyFrom_79 : decode cX0_copyFrom 79 = .ok (.iload_n 2, 1) := by decide +kernel
theorem dX0_copyFrom_80 : decode cX0_copyFrom 80 = .ok (.iaload, 1) := by decide +kernel
theorem dX0_copyFrom_81 : decode cX0_copyFrom 81 = .ok (.iastore, 1) := by decide +kernel
theorem dX0_copyFrom_82 : decode cX0_copyFrom 82 = .ok (.aload_n 0, 1) := by decide +kernel
theorem dX0_copyFrom_83 : decode cX0_copyFrom 83 = .ok (.getfield 34, 3) := by decide +kernel
theorem dX0_copyFrom_86 : decode cX0_copyFrom 86 = .ok (.iload_n 2, 1) := by decide +kernel
theorem dX0_copyFrom_87 : decode cX0_copyFrom 87 = .ok (.aload_n 1, 1) := by decide +kernel
theorem dX0_copyFrom_88 : decode cX0_copyFrom 88 = .ok (.getfield 34, 3) := by decide +kernel
theorem dX0_copyFrom_91 : decode cX0_copyFrom 91 = .ok (.iload_n 2, 1) := by decide +kernel
theorem dX0_copyFrom_92 : decode cX0_copyFrom 92 = .ok (.iaload, 1) := by decide +kernel
theorem dX0_copyFrom_93 : decode cX0_copyFrom 93 = .ok (.iastore, 1) := by decide +kernel
theorem dX0_copyFrom_94 : decode cX0_copyFrom 94 = .ok (.aload_n 0, 1) := by decide +kernel
theorem dX0_copyFrom_95 : decode cX0_copyFrom 95 = .ok (.getfield 37, 3) := by decide +kernel
theorem dX0_copyFrom_98 : decode cX0_copyFrom 98 = .ok (.iload_n 2, 1) := by decide +kernel
theorem dX0_copyFrom_99 : decode cX0_copyFrom 99 = .ok (.aload_n 1, 1) := by decide +kernel
theorem dX0_copyFrom_100 : decode cX0_copyFrom 100 = .ok (.getfield 37, 3) := by decide +kernel
theorem dX0_copyFrom_103 : decode cX0_copyFrom 103 = .ok (.iload_n 2, 1) := by decide +kernel
theorem dX0_copyFrom_104 : decode cX0_copyFrom 104 = .ok (.iaload, 1) := by decide +kernel
theorem dX0_copyFrom_105 : decode cX0_copyFrom 105 = .ok (.iastore, 1) := by decide +kernel
theorem dX0_copyFrom_106 : decode cX0_copyFrom 106 = .ok (.aload_n 0, 1) := by decide +kernel
theorem dX0_copyFrom_107 : decode cX0_copyFrom 107 = .ok (.getfield 40, 3) := by decide +kernel
theorem dX0_copyFrom_110 : decode cX0_copyFrom 110 = .ok (.iload_n 2, 1) := by decide +kernel
theorem dX0_copyFrom_111 : decode cX0_copyFrom 111 = .ok (.aload_n 1, 1) := by decide +kernel
theorem dX0_copyFrom_112 : decode cX0_copyFrom 112 = .ok (.getfield 40, 3) := by decide +kernel
theorem dX0_copyFrom_115 : decode cX0_copyFrom 115 = .ok (.iload_n 2, 1) := by decide +kernel
theorem dX0_copyFrom_116 : decode cX0_copyFrom 116 = .ok (.baload, 1) := by decide +kernel
theorem dX0_copyFrom_117 : decode cX0_copyFrom 117 = .ok (.bastore, 1) := by decide +kernel
theorem dX0_copyFrom_118 : decode cX0_copyFrom 118 = .ok (.iinc 2 1, 3) := by decide +kernel
theorem dX0_copyFrom_121 : decode cX0_copyFrom 121 = .ok (.goto (-80), 3) := by decide +kernel
theorem dX0_copyFrom_124 : decode cX0_copyFrom 124 = .ok (.return_, 1) := by decide +kernel
theorem dX0_startAgainOn_0 : decode cX0_startAgainOn 0 = .ok (.aload_n 0, 1) := by decide +kernel
theorem dX0_startAgainOn_1 : decode cX0_startAgainOn 1 = .ok (.iload_n 1, 1) := by decide +kernel
theorem dX0_startAgainOn_2 : decode cX0_startAgainOn 2 = .ok (.iconst 4, 1) := by decide +kernel
theorem dX0_startAgainOn_3 : decode cX0_startAgainOn 3 = .ok (.invokestatic 50, 3) := by decide +kernel
theorem dX0_startAgainOn_6 : decode cX0_startAgainOn 6 = .ok (.putfield 9, 3) := by decide +kernel
theorem dX0_startAgainOn_9 : decode cX0_startAgainOn 9 = .ok (.iconst 0, 1) := by decide +kernel
theorem dX0_startAgainOn_10 : decode cX0_startAgainOn 10 = .ok (.istore_n 2, 1) := by decide +kernel
theorem dX0_startAgainOn_11 : decode cX0_startAgainOn 11 = .ok (.iload_n 2, 1) := by decide +kernel
theorem dX0_startAgainOn_12 : decode cX0_startAgainOn 12 = .ok (.iconst 4, 1) := by decide +kernel
theorem dX0_startAgainOn_13 : decode cX0_startAgainOn 13 = .ok (.if_icmp .ge 51, 3) := by decide +kernel
theorem dX0_startAgainOn_16 : decode cX0_startAgainOn 16 = .ok (.aload_n 0, 1) := by decide +kernel
theorem dX0_startAgainOn_17 : decode cX0_startAgainOn 17 = .ok (.getfield 25, 3) := by decide +kernel
theorem dX0_startAgainOn_20 : decode cX0_startAgainOn 20 = .ok (.iload_n 2, 1) := by decide +kernel
theorem dX0_startAgainOn_21 : decode cX0_startAgainOn 21 = .ok (.iconst 0, 1) := by decide +kernel
theorem dX0_startAgainOn_22 : decode cX0_startAgainOn 22 = .ok (.iastore, 1) := by decide +kernel
theorem dX0_startAgainOn_23 : decode cX0_startAgainOn 23 = .ok (.aload_n 0, 1) := by decide +kernel
theorem dX0_startAgainOn_24 : decode cX0_startAgainOn 24 = .ok (.getfield 28, 3) := by decide +kernel
theorem dX0_startAgainOn_27 : decode cX0_startAgainOn 27 = .ok (.iload_n 2, 1) := by decide +kernel
theorem dX0_startAgainOn_28 : decode cX0_startAgainOn 28 = .ok (.iconst (-1), 1) := by decide +kernel
theorem dX0_startAgainOn_29 : decode cX0_startAgainOn 29 = .ok (.iastore, 1) := by decide +kernel
theorem dX0_startAgainOn_30 : decode cX0_startAgainOn 30 = .ok (.aload_n 0, 1) := by decide +kernel
theorem dX0_startAgainOn_31 : decode cX0_startAgainOn 31 = .ok (.getfield 31, 3) := by decide +kernel
theorem dX0_startAgainOn_34 : decode cX0_startAgainOn 34 = .ok (.iload_n 2, 1) := by decide +kernel
theorem dX0_startAgainOn_35 : decode cX0_startAgainOn 35 = .ok (.iconst 0, 1) := by decide +kernel
theorem dX0_startAgainOn_36 : decode cX0_startAgainOn 36 = .ok (.iastore, 1) := by decide +kernel
theorem dX0_startAgainOn_37 : decode cX0_startAgainOn 37 = .ok (.aload_n 0, 1) := by decide +kernel
theorem dX0_startAgainOn_38 : decode cX0_startAgainOn 38 = .ok (.getfield 34, 3) := by decide +kernel
theorem dX0_startAgainOn_41 : decode cX0_startAgainOn 41 = .ok (.iload_n 2, 1) := by decide +kernel
theorem dX0_startAgainOn_42 : decode cX0_startAgainOn 42 = .ok (.iconst 0, 1) := by decide +kernel
theorem dX0_startAgainOn_43 : decode cX0_startAgainOn 43 = .ok (.iastore, 1) := by decide +kernel
theorem dX0_startAgainOn_44 : decode cX0_startAgainOn 44 = .ok (.aload_n 0, 1) := by decide +kernel
theorem dX0_startAgainOn_45 : decode cX0_startAgainOn 45 = .ok (.getfield 37, 3) := by decide +kernel
theorem dX0_startAgainOn_48 : decode cX0_startAgainOn 48 = .ok (.iload_n 2, 1) := by decide +kernel
theorem dX0_startAgainOn_49 : decode cX0_startAgainOn 49 = .ok (.iconst 0, 1) := by decide +kernel
theorem dX0_startAgainOn_50 : decode cX0_startAgainOn 50 = .ok (.iastore, 1) := by decide +kernel
theorem dX0_startAgainOn_51 : decode cX0_startAgainOn 51 = .ok (.aload_n 0, 1) := by decide +kernel
theorem dX0_startAgainOn_52 : decode cX0_startAgainOn 52 = .ok (.getfield 40, 3) := by decide +kernel
theorem dX0_startAgainOn_55 : decode cX0_startAgainOn 55 = .ok (.iload_n 2, 1) := by decide +kernel
theorem dX0_startAgainOn_56 : decode cX0_startAgainOn 56 = .ok (.iconst 0, 1) := by decide +kernel
theorem dX0_startAgainOn_57 : decode cX0_startAgainOn 57 = .ok (.bastore, 1) := by decide +kernel
theorem dX0_startAgainOn_58 : decode cX0_startAgainOn 58 = .ok (.iinc 2 1, 3) := by decide +kernel
theorem dX0_startAgainOn_61 : decode cX0_startAgainOn 61 = .ok (.goto (-50), 3) := by decide +kernel
theorem dX0_startAgainOn_64 : decode cX0_startAgainOn 64 = .ok (.return_, 1) := by decide +kernel
theorem dX0_queueFor_0 : decode cX0_queueFor 0 = .ok (.iload_n 1, 1) := by decide +kernel
theorem dX0_queueFor_1 : decode cX0_queueFor 1 = .ok (.aload_n 0, 1) := by decide +kernel
theorem dX0_queueFor_2 : decode cX0_queueFor 2 = .ok (.getfield 9, 3) := by decide +kernel
theorem dX0_queueFor_5 : decode cX0_queueFor 5 = .ok (.if_icmp .ge 18, 3) := by decide +kernel
theorem dX0_queueFor_8 : decode cX0_queueFor 8 = .ok (.aload_n 0, 1) := by decide +kernel
theorem dX0_queueFor_9 : decode cX0_queueFor 9 = .ok (.getfield 25, 3) := by decide +kernel
theorem dX0_queueFor_12 : decode cX0_queueFor 12 = .ok (.iload_n 1, 1) := by decide +kernel
theorem dX0_queueFor_13 : decode cX0_queueFor 13 = .ok (.iaload, 1) := by decide +kernel
theorem dX0_queueFor_14 : decode cX0_queueFor 14 = .ok (.aload_n 0, 1) := by decide +kernel
theorem dX0_queueFor_15 : decode cX0_queueFor 15 = .ok (.getfield 15, 3) := by decide +kernel
theorem dX0_queueFor_18 : decode cX0_queueFor 18 = .ok (.if_icmp .ge 5, 3) := by decide +kernel
theorem dX0_queueFor_21 : decode cX0_queueFor 21 = .ok (.iload_n 1, 1) := by decide +kernel
theorem dX0_queueFor_22 : decode cX0_queueFor 22 = .ok (.ireturn, 1) := by decide +kernel
theorem dX0_queueFor_23 : decode cX0_queueFor 23 = .ok (.iconst (-1), 1) := by decide +kernel
theorem dX0_queueFor_24 : decode cX0_queueFor 24 = .ok (.istore_n 2, 1) := by decide +kernel
theorem dX0_queueFor_25 : decode cX0_queueFor 25 = .ok (.iconst 0, 1) := by decide +kernel
theorem dX0_queueFor_26 : decode cX0_queueFor 26 = .ok (.istore_n 3, 1) := by decide +kernel
theorem dX0_queueFor_27 : decode cX0_queueFor 27 = .ok (.iload_n 3, 1) := by decide +kernel
theorem dX0_queueFor_28 : decode cX0_queueFor 28 = .ok (.aload_n 0, 1) := by decide +kernel
theorem dX0_queueFor_29 : decode cX0_queueFor 29 = .ok (.getfield 9, 3) := by decide +kernel
theorem dX0_queueFor_32 : decode cX0_queueFor 32 = .ok (.if_icmp .ge 43, 3) := by decide +kernel
theorem dX0_queueFor_35 : decode cX0_queueFor 35 = .ok (.aload_n 0, 1) := by decide +kernel
theorem dX0_queueFor_36 : decode cX0_queueFor 36 = .ok (.getfield 25, 3) := by decide +kernel
theorem dX0_queueFor_39 : decode cX0_queueFor 39 = .ok (.iload_n 3, 1) := by decide +kernel
theorem dX0_queueFor_40 : decode cX0_queueFor 40 = .ok (.iaload, 1) := by decide +kernel
theorem dX0_queueFor_41 : decode cX0_queueFor 41 = .ok (.aload_n 0, 1) := by decide +kernel
theorem dX0_queueFor_42 : decode cX0_queueFor 42 = .ok (.getfield 15, 3) := by decide +kernel
theorem dX0_queueFor_45 : decode cX0_queueFor 45 = .ok (.if_icmp .ge 24, 3) := by decide +kernel
theorem dX0_queueFor_48 : decode cX0_queueFor 48 = .ok (.iload_n 2, 1) := by decide +kernel
theorem dX0_queueFor_49 : decode cX0_queueFor 49 = .ok (.ifCond .lt 18, 3) := by decide +kernel
theorem dX0_queueFor_52 : decode cX0_queueFor 52 = .ok (.aload_n 0, 1) := by decide +kernel
theorem dX0_queueFor_53 : decode cX0_queueFor 53 = .ok (.getfield 25, 3) := by decide +kernel
theorem dX0_queueFor_56 : decode cX0_queueFor 56 = .ok (.iload_n 3, 1) := by decide +kernel
theorem dX0_queueFor_57 : decode cX0_queueFor 57 = .ok (.iaload, 1) := by decide +kernel
theorem dX0_queueFor_58 : decode cX0_queueFor 58 = .ok (.aload_n 0, 1) := by decide +kernel
theorem dX0_queueFor_59 : decode cX0_queueFor 59 = .ok (.getfield 25, 3) := by decide +kernel
theorem dX0_queueFor_62 : decode cX0_queueFor 62 = .ok (.iload_n 2, 1) := by decide +kernel
theorem dX0_queueFor_63 : decode cX0_queueFor 63 = .ok (.iaload, 1) := by decide +kernel
theorem dX0_queueFor_64 : decode cX0_queueFor 64 = .ok (.if_icmp .ge 5, 3) := by decide +kernel
theorem dX0_queueFor_67 : decode cX0_queueFor 67 = .ok (.iload_n 3, 1) := by decide +kernel
theorem dX0_queueFor_68 : decode cX0_queueFor 68 = .ok (.istore_n 2, 1) := by decide +kernel
theorem dX0_queueFor_69 : decode cX0_queueFor 69 = .ok (.iinc 3 1, 3) := by decide +kernel
theorem dX0_queueFor_72 : decode cX0_queueFor 72 = .ok (.goto (-45), 3) := by decide +kernel
theorem dX0_queueFor_75 : decode cX0_queueFor 75 = .ok (.iload_n 2, 1) := by decide +kernel
theorem dX0_queueFor_76 : decode cX0_queueFor 76 = .ok (.ireturn, 1) := by decide +kernel
theorem dX0_putLast_0 : decode cX0_putLast 0 = .ok (.aload_n 0, 1) := by decide +kernel
theorem dX0_putLast_1 : decode cX0_putLast 1 = .ok (.getfield 25, 3) := by decide +kernel
theorem dX0_putLast_4 : decode cX0_putLast 4 = .ok (.iload_n 1, 1) := by decide +kernel
theorem dX0_putLast_5 : decode cX0_putLast 5 = .ok (.iaload, 1) := by decide +kernel
theorem dX0_putLast_6 : decode cX0_putLast 6 = .ok (.bipush 8, 2) := by decide +kernel
theorem dX0_putLast_8 : decode cX0_putLast 8 = .ok (.if_icmp .ge 30, 3) := by decide +kernel
theorem dX0_putLast_11 : decode cX0_putLast 11 = .ok (.aload_n 0, 1) := by decide +kernel
theorem dX0_putLast_12 : decode cX0_putLast 12 = .ok (.getfield 21, 3) := by decide +kernel
theorem dX0_putLast_15 : decode cX0_putLast 15 = .ok (.iload_n 1, 1) := by decide +kernel
theorem dX0_putLast_16 : decode cX0_putLast 16 = .ok (.bipush 8, 2) := by decide +kernel
theorem dX0_putLast_18 : decode cX0_putLast 18 = .ok (.imul, 1) := by decide +kernel
theorem dX0_putLast_19 : decode cX0_putLast 19 = .ok (.aload_n 0, 1) := by decide +kernel
theorem dX0_putLast_20 : decode cX0_putLast 20 = .ok (.getfield 25, 3) := by decide +kernel
theorem dX0_putLast_23 : decode cX0_putLast 23 = .ok (.iload_n 1, 1) := by decide +kernel
theorem dX0_putLast_24 : decode cX0_putLast 24 = .ok (.iaload, 1) := by decide +kernel
theorem dX0_putLast_25 : decode cX0_putLast 25 = .ok (.iadd, 1) := by decide +kernel
theorem dX0_putLast_26 : decode cX0_putLast 26 = .ok (.iload_n 2, 1) := by decide +kernel
theorem dX0_putLast_27 : decode cX0_putLast 27 = .ok (.iastore, 1) := by decide +kernel
theorem dX0_putLast_28 : decode cX0_putLast 28 = .ok (.aload_n 0, 1) := by decide +kernel
theorem dX0_putLast_29 : decode cX0_putLast 29 = .ok (.getfield 25, 3) := by decide +kernel
theorem dX0_putLast_32 : decode cX0_putLast 32 = .ok (.iload_n 1, 1) := by decide +kernel
theorem dX0_putLast_33 : decode cX0_putLast 33 = .ok (.dup2, 1) := by decide +kernel
theorem dX0_putLast_34 : decode cX0_putLast 34 = .ok (.iaload, 1) := by decide +kernel
theorem dX0_putLast_35 : decode cX0_putLast 35 = .ok (.iconst 1, 1) := by decide +kernel
theorem dX0_putLast_36 : decode cX0_putLast 36 = .ok (.iadd, 1) := by decide +kernel
theorem dX0_putLast_37 : decode cX0_putLast 37 = .ok (.iastore, 1) := by decide +kernel
theorem dX0_putLast_38 : decode cX0_putLast 38 = .ok (.return_, 1) := by decide +kernel
theorem dX0_takeAt_0 : decode cX0_takeAt 0 = .ok (.iload_n 2, 1) := by decide +kernel
theorem dX0_takeAt_1 : decode cX0_takeAt 1 = .ok (.ifCond .lt 13, 3) := by decide +kernel
theorem dX0_takeAt_4 : decode cX0_takeAt 4 = .ok (.iload_n 2, 1) := by decide +kernel
theorem dX0_takeAt_5 : decode cX0_takeAt 5 = .ok (.aload_n 0, 1) := by decide +kernel
theorem dX0_takeAt_6 : decode cX0_takeAt 6 = .ok (.getfield 25, 3) := by decide +kernel
theorem dX0_takeAt_9 : decode cX0_takeAt 9 = .ok (.iload_n 1, 1) := by decide +kernel
theorem dX0_takeAt_10 : decode cX0_takeAt 10 = .ok (.iaload, 1) := by decide +kernel
theorem dX0_takeAt_11 : decode cX0_takeAt 11 = .ok (.if_icmp .lt 5, 3) := by decide +kernel
theorem dX0_takeAt_14 : decode cX0_takeAt 14 = .ok (.iconst (-1), 1) := by decide +kernel
theorem dX0_takeAt_15 : decode cX0_takeAt 15 = .ok (.ireturn, 1) := by decide +kernel
theorem dX0_takeAt_16 : decode cX0_takeAt 16 = .ok (.iload_n 1, 1) := by decide +kernel
theorem dX0_takeAt_17 : decode cX0_takeAt 17 = .ok (.bipush 8, 2) := by decide +kernel
theorem dX0_takeAt_19 : decode cX0_takeAt 19 = .ok (.imul, 1) := by decide +kernel
theorem dX0_takeAt_20 : decode cX0_takeAt 20 = .ok (.istore_n 3, 1) := by decide +kernel
theorem dX0_takeAt_21 : decode cX0_takeAt 21 = .ok (.aload_n 0, 1) := by decide +kernel
theorem dX0_takeAt_22 : decode cX0_takeAt 22 = .ok (.getfield 21, 3) := by decide +kernel
theorem dX0_takeAt_25 : decode cX0_takeAt 25 = .ok (.iload_n 3, 1) := by decide +kernel
theorem dX0_takeAt_26 : decode cX0_takeAt 26 = .ok (.iload_n 2, 1) := by decide +kernel
theorem dX0_takeAt_27 : decode cX0_takeAt 27 = .ok (.iadd, 1) := by decide +kernel
theorem dX0_takeAt_28 : decode cX0_takeAt 28 = .ok (.iaload, 1) := by decide +kernel
theorem dX0_takeAt_29 : decode cX0_takeAt 29 = .ok (.istore 4, 2) := by decide +kernel
theorem dX0_takeAt_31 : decode cX0_takeAt 31 = .ok (.iload_n 2, 1) := by decide +kernel
theorem dX0_takeAt_32 : decode cX0_takeAt 32 = .ok (.iconst 1, 1) := by decide +kernel
theorem dX0_takeAt_33 : decode cX0_takeAt 33 = .ok (.iadd, 1) := by decide +kernel
theorem dX0_takeAt_34 : decode cX0_takeAt 34 = .ok (.istore 5, 2) := by decide +kernel
theorem dX0_takeAt_36 : decode cX0_takeAt 36 = .ok (.iload 5, 2) := by decide +kernel
theorem dX0_takeAt_38 : decode cX0_takeAt 38 = .ok (.aload_n 0, 1) := by decide +kernel
theorem dX0_takeAt_39 : decode cX0_takeAt 39 = .ok (.getfield 25, 3) := by decide +kernel
theorem dX0_takeAt_42 : decode cX0_takeAt 42 = .ok (.iload_n 1, 1) := by decide +kernel
theorem dX0_takeAt_43 : decode cX0_takeAt 43 = .ok (.iaload, 1) := by decide +kernel
theorem dX0_takeAt_44 : decode cX0_takeAt 44 = .ok (.if_icmp .ge 29, 3) := by decide +kernel
theorem dX0_takeAt_47 : decode cX0_takeAt 47 = .ok (.aload_n 0, 1) := by decide +kernel
theorem dX0_takeAt_48 : decode cX0_takeAt 48 = .ok (.getfield 21, 3) := by decide +kernel
theorem dX0_takeAt_51 : decode cX0_takeAt 51 = .ok (.iload_n 3, 1) := by decide +kernel
theorem dX0_takeAt_52 : decode cX0_takeAt 52 = .ok (.iload 5, 2) := by decide +kernel
theorem dX0_takeAt_54 : decode cX0_takeAt 54 = .ok (.iadd, 1) := by decide +kernel
theorem dX0_takeAt_55 : decode cX0_takeAt 55 = .ok (.iconst 1, 1) := by decide +kernel
theorem dX0_takeAt_56 : decode cX0_takeAt 56 = .ok (.isub, 1) := by decide +kernel
theorem dX0_takeAt_57 : decode cX0_takeAt 57 = .ok (.aload_n 0, 1) := by decide +kernel
theorem dX0_takeAt_58 : decode cX0_takeAt 58 = .ok (.getfield 21, 3) := by decide +kernel
theorem dX0_takeAt_61 : decode cX0_takeAt 61 = .ok (.iload_n 3, 1) := by decide +kernel
theorem dX0_takeAt_62 : decode cX0_takeAt 62 = .ok (.iload 5, 2) := by decide +kernel
theorem dX0_takeAt_64 : decode cX0_takeAt 64 = .ok (.iadd, 1) := by decide +kernel
theorem dX0_takeAt_65 : decode cX0_takeAt 65 = .ok (.iaload, 1) := by decide +kernel
theorem dX0_takeAt_66 : decode cX0_takeAt 66 = .ok (.iastore, 1) := by decide +kernel
theorem dX0_takeAt_67 : decode cX0_takeAt 67 = .ok (.iinc 5 1, 3) := by decide +kernel
theorem dX0_takeAt_70 : decode cX0_takeAt 70 = .ok (.goto (-34), 3) := by decide +kernel
theorem dX0_takeAt_73 : decode cX0_takeAt 73 = .ok (.aload_n 0, 1) := by decide +kernel
theorem dX0_takeAt_74 : decode cX0_takeAt 74 = .ok (.getfield 25, 3) := by decide +kernel
theorem dX0_takeAt_77 : decode cX0_takeAt 77 = .ok (.iload_n 1, 1) := by decide +kernel
theorem dX0_takeAt_78 : decode cX0_takeAt 78 = .ok (.dup2, 1) := by decide +kernel
theorem dX0_takeAt_79 : decode cX0_takeAt 79 = .ok (.iaload, 1) := by decide +kernel
theorem dX0_takeAt_80 : decode cX0_takeAt 80 = .ok (.iconst 1, 1) := by decide +kernel
theorem dX0_takeAt_81 : decode cX0_takeAt 81 = .ok (.isub, 1) := by decide +kernel
theorem dX0_takeAt_82 : decode cX0_takeAt 82 = .ok (.iastore, 1) := by decide +kernel
theorem dX0_takeAt_83 : decode cX0_takeAt 83 = .ok (.iload 4, 2) := by decide +kernel
theorem dX0_takeAt_85 : decode cX0_takeAt 85 = .ok (.ireturn, 1) := by decide +kernel
theorem dX0_removeFromQueues_0 : decode cX0_removeFromQueues 0 = .ok (.iconst 0, 1) := by decide +kernel
theorem dX0_removeFromQueues_1 : decode cX0_removeFromQueues 1 = .ok (.istore_n 2, 1) := by decide +kernel
theorem dX0_removeFromQueues_2 : decode cX0_removeFromQueues 2 = .ok (.iload_n 2, 1) := by decide +kernel
theorem dX0_removeFromQueues_3 : decode cX0_removeFromQueues 3 = .ok (.aload_n 0, 1) := by decide +kernel
theorem dX0_removeFromQueues_4 : decode cX0_removeFromQueues 4 = .ok (.getfield 9, 3) := by decide +kernel
theorem dX0_removeFromQueues_7 : decode cX0_removeFromQueues 7 = .ok (.if_icmp .ge 50, 3) := by decide +kernel
theorem dX0_removeFromQueues_10 : decode cX0_removeFromQueues 10 = .ok (.aload_n 0, 1) := by decide +kernel
theorem dX0_removeFromQueues_11 : decode cX0_removeFromQueues 11 = .ok (.getfield 25, 3) := by decide +kernel
theorem dX0_removeFromQueues_14 : decode cX0_removeFromQueues 14 = .ok (.iload_n 2, 1) := by decide +kernel
theorem dX0_removeFromQueues_15 : decode cX0_removeFromQueues 15 = .ok (.iaload, 1) := by decide +kernel
theorem dX0_removeFromQueues_16 : decode cX0_removeFromQueues 16 = .ok (.iconst 1, 1) := by decide +kernel
theorem dX0_removeFromQueues_17 : decode cX0_removeFromQueues 17 = .ok (.isub, 1) := by decide +kernel
theorem dX0_removeFromQueues_18 : decode cX0_removeFromQueues 18 = .ok (.istore_n 3, 1) := by decide +kernel
theorem dX0_removeFromQueues_19 : decode cX0_removeFromQueues 19 = .ok (.iload_n 3, 1) := by decide +kernel
theorem dX0_removeFromQueues_20 : decode cX0_removeFromQueues 20 = .ok (.ifCond .lt 31, 3) := by decide +kernel
theorem dX0_removeFromQueues_23 : decode cX0_removeFromQueues 23 = .ok (.aload_n 0, 1) := by decide +kernel
theorem dX0_removeFromQueues_24 : decode cX0_removeFromQueues 24 = .ok (.getfield 21, 3) := by decide +kernel
theorem dX0_removeFromQueues_27 : decode cX0_removeFromQueues 27 = .ok (.iload_n 2, 1) := by decide +kernel
theorem dX0_removeFromQueues_28 : decode cX0_removeFromQueues 28 = .ok (.bipush 8, 2) := by decide +kernel
theorem dX0_removeFromQueues_30 : decode cX0_removeFromQueues 30 = .ok (.imul, 1) := by decide +kernel
theorem dX0_removeFromQueues_31 : decode cX0_removeFromQueues 31 = .ok (.iload_n 3, 1) := by decide +kernel
theorem dX0_removeFromQueues_32 : decode cX0_removeFromQueues 32 = .ok (.iadd, 1) := by decide +kernel
theorem dX0_removeFromQueues_33 : decode cX0_removeFromQueues 33 = .ok (.iaload, 1) := by decide +kernel
theorem dX0_removeFromQueues_34 : decode cX0_removeFromQueues 34 = .ok (.iload_n 1, 1) := by decide +kernel
theorem dX0_removeFromQueues_35 : decode cX0_removeFromQueues 35 = .ok (.if_icmp .ne 10, 3) := by decide +kernel
theorem dX0_removeFromQueues_38 : decode cX0_removeFromQueues 38 = .ok (.aload_n 0, 1) := by decide +kernel
theorem dX0_removeFromQueues_39 : decode cX0_removeFromQueues 39 = .ok (.iload_n 2, 1) := by decide +kernel
theorem dX0_removeFromQueues_40 : decode cX0_removeFromQueues 40 = .ok (.iload_n 3, 1) := by decide +kernel
theorem dX0_removeFromQueues_41 : decode cX0_removeFromQueues 41 = .ok (.invokevirtual 56, 3) := by decide +kernel
theorem dX0_removeFromQueues_44 : decode cX0_removeFromQueues 44 = .ok (.pop, 1) := by decide +kernel
theorem dX0_removeFromQueues_45 : decode cX0_removeFromQueues 45 = .ok (.iinc 3 (-1), 3) := by decide +kernel
theorem dX0_removeFromQueues_48 : decode cX0_removeFromQueues 48 = .ok (.goto (-29), 3) := by decide +kernel
theorem dX0_removeFromQueues_51 : decode cX0_removeFromQueues 51 = .ok (.iinc 2 1, 3) := by decide +kernel
theorem dX0_removeFromQueues_54 : decode cX0_removeFromQueues 54 = .ok (.goto (-52), 3) := by decide +kernel
theorem dX0_removeFromQueues_57 : decode cX0_removeFromQueues 57 = .ok (.return_, 1) := by decide +kernel
theorem dX0_longestQueue_0 : decode cX0_longestQueue 0 = .ok (.iconst 0, 1) := by decide +kernel
theorem dX0_longestQueue_1 : decode cX0_longestQueue 1 = .ok (.istore_n 1, 1) := by decide +kernel
theorem dX0_longestQueue_2 : decode cX0_longestQueue 2 = .ok (.iconst 1, 1) := by decide +kernel
theorem dX0_longestQueue_3 : decode cX0_longestQueue 3 = .ok (.istore_n 2, 1) := by decide +kernel
theorem dX0_longestQueue_4 : decode cX0_longestQueue 4 = .ok (.iload_n 2, 1) := by decide +kernel
theorem dX0_longestQueue_5 : decode cX0_longestQueue 5 = .ok (.aload_n 0, 1) := by decide +kernel
theorem dX0_longestQueue_6 : decode cX0_longestQueue 6 = .ok (.getfield 9, 3) := by decide +kernel
theorem dX0_longestQueue_9 : decode cX0_longestQueue 9 = .ok (.if_icmp .ge 26, 3) := by decide +kernel
theorem dX0_longestQueue_12 : decode cX0_longestQueue 12 = .ok (.aload_n 0, 1) := by decide +kernel
theorem dX0_longestQueue_13 : decode cX0_longestQueue 13 = .ok (.getfield 25, 3) := by decide +kernel
theorem dX0_longestQueue_16 : decode cX0_longestQueue 16 = .ok (.iload_n 2, 1) := by decide +kernel
theorem dX0_longestQueue_17 : decode cX0_longestQueue 17 = .ok (.iaload, 1) := by decide +kernel
theorem dX0_longestQueue_18 : decode cX0_longestQueue 18 = .ok (.aload_n 0, 1) := by decide +kernel
theorem dX0_longestQueue_19 : decode cX0_longestQueue 19 = .ok (.getfield 25, 3) := by decide +kernel
theorem dX0_longestQueue_22 : decode cX0_longestQueue 22 = .ok (.iload_n 1, 1) := by decide +kernel
theorem dX0_longestQueue_23 : decode cX0_longestQueue 23 = .ok (.iaload, 1) := by decide +kernel
theorem dX0_longestQueue_24 : decode cX0_longestQueue 24 = .ok (.if_icmp .le 5, 3) := by decide +kernel
theorem dX0_longestQueue_27 : decode cX0_longestQueue 27 = .ok (.iload_n 2, 1) := by decide +kernel
theorem dX0_longestQueue_28 : decode cX0_longestQueue 28 = .ok (.istore_n 1, 1) := by decide +kernel
theorem dX0_longestQueue_29 : decode cX0_longestQueue 29 = .ok (.iinc 2 1, 3) := by decide +kernel
theorem dX0_longestQueue_32 : decode cX0_longestQueue 32 = .ok (.goto (-28), 3) := by decide +kernel
theorem dX0_longestQueue_35 : decode cX0_longestQueue 35 = .ok (.iload_n 1, 1) := by decide +kernel
theorem dX0_longestQueue_36 : decode cX0_longestQueue 36 = .ok (.ireturn, 1) := by decide +kernel
theorem dX0_countBusy_0 : decode cX0_countBusy 0 = .ok (.iconst 0, 1) := by decide +kernel
theorem dX0_countBusy_1 : decode cX0_countBusy 1 = .ok (.istore_n 1, 1) := by decide +kernel
theorem dX0_countBusy_2 : decode cX0_countBusy 2 = .ok (.iload_n 1, 1) := by decide +kernel
theorem dX0_countBusy_3 : decode cX0_countBusy 3 = .ok (.aload_n 0, 1) := by decide +kernel
theorem dX0_countBusy_4 : decode cX0_countBusy 4 = .ok (.getfield 9, 3) := by decide +kernel
theorem dX0_countBusy_7 : decode cX0_countBusy 7 = .ok (.if_icmp .ge 28, 3) := by decide +kernel
theorem dX0_countBusy_10 : decode cX0_countBusy 10 = .ok (.aload_n 0, 1) := by decide +kernel
theorem dX0_countBusy_11 : decode cX0_countBusy 11 = .ok (.getfield 28, 3) := by decide +kernel
theorem dX0_countBusy_14 : decode cX0_countBusy 14 = .ok (.iload_n 1, 1) := by decide +kernel
theorem dX0_countBusy_15 : decode cX0_countBusy 15 = .ok (.iaload, 1) := by decide +kernel
theorem dX0_countBusy_16 : decode cX0_countBusy 16 = .ok (.ifCond .lt 13, 3) := by decide +kernel
theorem dX0_countBusy_19 : decode cX0_countBusy 19 = .ok (.aload_n 0, 1) := by decide +kernel
theorem dX0_countBusy_20 : decode cX0_countBusy 20 = .ok (.getfield 34, 3) := by decide +kernel
theorem dX0_countBusy_23 : decode cX0_countBusy 23 = .ok (.iload_n 1, 1) := by decide +kernel
theorem dX0_countBusy_24 : decode cX0_countBusy 24 = .ok (.dup2, 1) := by decide +kernel
theorem dX0_countBusy_25 : decode cX0_countBusy 25 = .ok (.iaload, 1) := by decide +kernel
theorem dX0_countBusy_26 : decode cX0_countBusy 26 = .ok (.iconst 1, 1) := by decide +kernel
theorem dX0_countBusy_27 : decode cX0_countBusy 27 = .ok (.iadd, 1) := by decide +kernel
theorem dX0_countBusy_28 : decode cX0_countBusy 28 = .ok (.iastore, 1) := by decide +kernel
theorem dX0_countBusy_29 : decode cX0_countBusy 29 = .ok (.iinc 1 1, 3) := by decide +kernel
theorem dX0_countBusy_32 : decode cX0_countBusy 32 = .ok (.goto (-30), 3) := by decide +kernel
theorem dX0_countBusy_35 : decode cX0_countBusy 35 = .ok (.return_, 1) := by decide +kernel
theorem dX1_init_0 : decode cX1_init 0 = .ok (.aload_n 0, 1) := by decide +kernel
theorem dX1_init_1 : decode cX1_init 1 = .ok (.invokespecial 3, 3) := by decide +kernel
theorem dX1_init_4 : decode cX1_init 4 = .ok (.aload_n 0, 1) := by decide +kernel
theorem dX1_init_5 : decode cX1_init 5 = .ok (.bipush 11, 2) := by decide +kernel
theorem dX1_init_7 : decode cX1_init 7 = .ok (.newarray .int, 2) := by decide +kernel
theorem dX1_init_9 : decode cX1_init 9 = .ok (.putfield 11, 3) := by decide +kernel
theorem dX1_init_12 : decode cX1_init 12 = .ok (.aload_n 0, 1) := by decide +kernel
theorem dX1_init_13 : decode cX1_init 13 = .ok (.aload_n 1, 1) := by decide +kernel
theorem dX1_init_14 : decode cX1_init 14 = .ok (.putfield 15, 3) := by decide +kernel
theorem dX1_init_17 : decode cX1_init 17 = .ok (.return_, 1) := by decide +kernel
theorem dX1_lengthFor_0 : decode cX1_lengthFor 0 = .ok (.iconst 0, 1) := by decide +kernel
theorem dX1_lengthFor_1 : decode cX1_lengthFor 1 = .ok (.istore 5, 2) := by decide +kernel
theorem dX1_lengthFor_3 : decode cX1_lengthFor 3 = .ok (.iconst 0, 1) := by decide +kernel
theorem dX1_lengthFor_4 : decode cX1_lengthFor 4 = .ok (.istore 6, 2) := by decide +kernel
theorem dX1_lengthFor_6 : decode cX1_lengthFor 6 = .ok (.iload 6, 2) := by decide +kernel
theorem dX1_lengthFor_8 : decode cX1_lengthFor 8 = .ok (.aload_n 0, 1) := by decide +kernel
theorem dX1_lengthFor_9 : decode cX1_lengthFor 9 = .ok (.getfield 15, 3) := by decide +kernel
theorem dX1_lengthFor_12 : decode cX1_lengthFor 12 = .ok (.arraylength, 1) := by decide +kernel
theorem dX1_lengthFor_13 : decode cX1_lengthFor 13 = .ok (.if_icmp .ge 130, 3) := by decide +kernel
theorem dX1_lengthFor_16 : decode cX1_lengthFor 16 = .ok (.aload_n 0, 1) := by decide +kernel
theorem dX1_lengthFor_17 : decode cX1_lengthFor 17 = .ok (.getfield 15, 3) := by decide +kernel
theorem dX1_lengthFor_20 : decode cX1_lengthFor 20 = .ok (.iload 6, 2) := by decide +kernel
theorem dX1_lengthFor_22 : decode cX1_lengthFor 22 = .ok (.iaload, 1) := by decide +kernel
theorem dX1_lengthFor_23 : decode cX1_lengthFor 23 = .ok (.istore 7, 2) := by decide +kernel
theorem dX1_lengthFor_25 : decode cX1_lengthFor 25 = .ok (.iload 7, 2) := by decide +kernel
theorem dX1_lengthFor_27 : decode cX1_lengthFor 27 = .ok (.bipush (-5), 2) := by decide +kernel
theorem dX1_lengthFor_29 : decode cX1_lengthFor 29 = .ok (.if_icmp .gt 47, 3) := by decide +kernel
theorem dX1_lengthFor_32 : decode cX1_lengthFor 32 = .ok (.iload 5, 2) := by decide +kernel
theorem dX1_lengthFor_34 : decode cX1_lengthFor 34 = .ok (.iconst 2, 1) := by decide +kernel
theorem dX1_lengthFor_35 : decode cX1_lengthFor 35 = .ok (.if_icmp .lt 102, 3) := by decide +kernel
theorem dX1_lengthFor_38 : decode cX1_lengthFor 38 = .ok (.iinc 5 (-1), 3) := by decide +kernel
theorem dX1_lengthFor_41 : decode cX1_lengthFor 41 = .ok (.aload_n 0, 1) := by decide +kernel
theorem dX1_lengthFor_42 : decode cX1_lengthFor 42 = .ok (.getfield 11, 3) := by decide +kernel
theorem dX1_lengthFor_45 : decode cX1_lengthFor 45 = .ok (.iload 5, 2) := by decide +kernel
theorem dX1_lengthFor_47 : decode cX1_lengthFor 47 = .ok (.iconst 1, 1) := by decide +kernel
theorem dX1_lengthFor_48 : decode cX1_lengthFor 48 = .ok (.isub, 1) := by decide +kernel
theorem dX1_lengthFor_49 : decode cX1_lengthFor 49 = .ok (.iload 7, 2) := by decide +kernel
theorem dX1_lengthFor_51 : decode cX1_lengthFor 51 = .ok (.aload_n 0, 1) := by decide +kernel
theorem dX1_lengthFor_52 : decode cX1_lengthFor 52 = .ok (.getfield 11, 3) := by decide +kernel
theorem dX1_lengthFor_55 : decode cX1_lengthFor 55 = .ok (.iload 5, 2) := by decide +kernel
theorem dX1_lengthFor_57 : decode cX1_lengthFor 57 = .ok (.iconst 1, 1) := by decide +kernel
theorem dX1_lengthFor_58 : decode cX1_lengthFor 58 = .ok (.isub, 1) := by decide +kernel
theorem dX1_lengthFor_59 : decode cX1_lengthFor 59 = .ok (.iaload, 1) := by decide +kernel
theorem dX1_lengthFor_60 : decode cX1_lengthFor 60 = .ok (.i2l, 1) := by decide +kernel
theorem dX1_lengthFor_61 : decode cX1_lengthFor 61 = .ok (.aload_n 0, 1) := by decide +kernel
theorem dX1_lengthFor_62 : decode cX1_lengthFor 62 = .ok (.getfield 11, 3) := by decide +kernel
theorem dX1_lengthFor_65 : decode cX1_lengthFor 65 = .ok (.iload 5, 2) := by decide +kernel
theorem dX1_lengthFor_67 : decode cX1_lengthFor 67 = .ok (.iaload, 1) := by decide +kernel
theorem dX1_lengthFor_68 : decode cX1_lengthFor 68 = .ok (.i2l, 1) := by decide +kernel
theorem dX1_lengthFor_69 : decode cX1_lengthFor 69 = .ok (.invokestatic 18, 3) := by decide +kernel
theorem dX1_lengthFor_72 : decode cX1_lengthFor 72 = .ok (.iastore, 1) := by decide +kernel
theorem dX1_lengthFor_73 : decode cX1_lengthFor 73 = .ok (.goto 64, 3) := by decide +kernel
theorem dX1_lengthFor_76 : decode cX1_lengthFor 76 = .ok (.iload 5, 2) := by decide +kernel
theorem dX1_lengthFor_78 : decode cX1_lengthFor 78 = .ok (.bipush 11, 2) := by decide +kernel
theorem dX1_lengthFor_80 : decode cX1_lengthFor 80 = .ok (.if_icmp .ge 57, 3) := by decide +kernel
theorem dX1_lengthFor_83 : decode cX1_lengthFor 83 = .ok (.aload_n 0, 1) := by decide +kernel
theorem dX1_lengthFor_84 : decode cX1_lengthFor 84 = .ok (.getfield 11, 3) := by decide +kernel
theorem dX1_lengthFor_87 : decode cX1_lengthFor 87 = .ok (.iload 5, 2) := by decide +kernel
theorem dX1_lengthFor_89 : decode cX1_lengthFor 89 = .ok (.iload 7, 2) := by decide +kernel
theorem dX1_lengthFor_91 : decode cX1_lengthFor 91 = .ok (.ifCond .lt 8, 3) := by decide +kernel
theorem dX1_lengthFor_94 : decode cX1_lengthFor 94 = .ok (.iload 7, 2) := by decide +kernel
theorem dX1_lengthFor_96 : decode cX1_lengthFor 96 = .ok (.goto 37, 3) := by decide +kernel
theorem dX1_lengthFor_99 : decode cX1_lengthFor 99 = .ok (.iload 7, 2) := by decide +kernel
theorem dX1_lengthFor_101 : decode cX1_lengthFor 101 = .ok (.iconst (-1), 1) := by decide +kernel
theorem dX1_lengthFor_102 : decode cX1_lengthFor 102 = .ok (.if_icmp .ne 7, 3) := by decide +kernel
theorem dX1_lengthFor_105 : decode cX1_lengthFor 105 = .ok (.iload_n 1, 1) := by decide +kernel
theorem dX1_lengthFor_106 : decode cX1_lengthFor 106 = .ok (.goto 27, 3) := by decide +kernel
theorem dX1_lengthFor_109 : decode cX1_lengthFor 109 = .ok (.iload 7, 2) := by decide +kernel
theorem dX1_lengthFor_111 : decode cX1_lengthFor 111 = .ok (.bipush (-2), 2) := by decide +kernel
theorem dX1_lengthFor_113 : decode cX1_lengthFor 113 = .ok (.if_icmp .ne 7, 3) := by decide +kernel
theorem dX1_lengthFor_116 : decode cX1_lengthFor 116 = .ok (.iload_n 2, 1) := by decide +kernel
theorem dX1_lengthFor_117 : decode cX1_lengthFor 117 = .ok (.goto 16, 3) := by decide +kernel
theorem dX1_lengthFor_120 : decode cX1_lengthFor 120 = .ok (.iload 7, 2) := by decide +kernel
theorem dX1_lengthFor_122 : decode cX1_lengthFor 122 = .ok (.bipush (-3), 2) := by decide +kernel
theorem dX1_lengthFor_124 : decode cX1_lengthFor 124 = .ok (.if_icmp .ne 7, 3) := by decide +kernel
theorem dX1_lengthFor_127 : decode cX1_lengthFor 127 = .ok (.iload_n 3, 1) := by decide +kernel
theorem dX1_lengthFor_128 : decode cX1_lengthFor 128 = .ok (.goto 5, 3) := by decide +kernel
theorem dX1_lengthFor_131 : decode cX1_lengthFor 131 = .ok (.iload 4, 2) := by decide +kernel
theorem dX1_lengthFor_133 : decode cX1_lengthFor 133 = .ok (.iastore, 1) := by decide +kernel
theorem dX1_lengthFor_134 : decode cX1_lengthFor 134 = .ok (.iinc 5 1, 3) := by decide +kernel
theorem dX1_lengthFor_137 : decode cX1_lengthFor 137 = .ok (.iinc 6 1, 3) := by decide +kernel
theorem dX1_lengthFor_140 : decode cX1_lengthFor 140 = .ok (.goto (-134), 3) := by decide +kernel
theorem dX1_lengthFor_143 : decode cX1_lengthFor 143 = .ok (.iconst 1, 1) := by decide +kernel
theorem dX1_lengthFor_144 : decode cX1_lengthFor 144 = .ok (.sipush 999, 3) := by decide +kernel
theorem dX1_lengthFor_147 : decode cX1_lengthFor 147 = .ok (.aload_n 0, 1) := by decide +kernel
theorem dX1_lengthFor_148 : decode cX1_lengthFor 148 = .ok (.getfield 11, 3) := by decide +kernel
theorem dX1_lengthFor_151 : decode cX1_lengthFor 151 = .ok (.iconst 0, 1) := by decide +kernel
theorem dX1_lengthFor_152 : decode cX1_lengthFor 152 = .ok (.iaload, 1) := by decide +kernel
theorem dX1_lengthFor_153 : decode cX1_lengthFor 153 = .ok (.invokestatic 22, 3) := by decide +kernel
theorem dX1_lengthFor_156 : decode cX1_lengthFor 156 = .ok (.invokestatic 28, 3) := by decide +kernel
theorem dX1_lengthFor_159 : decode cX1_lengthFor 159 = .ok (.ireturn, 1) := by decide +kernel
theorem dX1_result_0 : decode cX1_result 0 = .ok (.lconst 0, 1) := by decide +kernel
theorem dX1_result_1 : decode cX1_result 1 = .ok (.lstore 5, 2) := by decide +kernel
theorem dX1_result_3 : decode cX1_result 3 = .ok (.iload_n 0, 1) := by decide +kernel
theorem dX1_result_4 : decode cX1_result 4 = .ok (.bipush (-5), 2) := by decide +kernel
theorem dX1_result_6 : decode cX1_result 6 = .ok (.if_icmp .ne 11, 3) := by decide +kernel
theorem dX1_result_9 : decode cX1_result 9 = .ok (.lload_n 1, 1) := by decide +kernel
theorem dX1_result_10 : decode cX1_result 10 = .ok (.lload_n 3, 1) := by decide +kernel
theorem dX1_result_11 : decode cX1_result 11 = .ok (.ladd, 1) := by decide +kernel
theorem dX1_result_12 : decode cX1_result 12 = .ok (.lstore 5, 2) := by decide +kernel
theorem dX1_result_14 : decode cX1_result 14 = .ok (.goto 42, 3) := by decide +kernel
theorem dX1_result_17 : decode cX1_result 17 = .ok (.iload_n 0, 1) := by decide +kernel
theorem dX1_result_18 : decode cX1_result 18 = .ok (.bipush (-6), 2) := by decide +kernel
theorem dX1_result_20 : decode cX1_result 20 = .ok (.if_icmp .ne 11, 3) := by decide +kernel
theorem dX1_result_23 : decode cX1_result 23 = .ok (.lload_n 1, 1) := by decide +kernel
theorem dX1_result_24 : decode cX1_result 24 = .ok (.lload_n 3, 1) := by decide +kernel
theorem dX1_result_25 : decode cX1_result 25 = .ok (.lsub, 1) := by decide +kernel
theorem dX1_result_26 : decode cX1_result 26 = .ok (.lstore 5, 2) := by decide +kernel
theorem dX1_result_28 : decode cX1_result 28 = .ok (.goto 28, 3) := by decide +kernel
theorem dX1_result_31 : decode cX1_result 31 = .ok (.iload_n 0, 1) := by decide +kernel
theorem dX1_result_32 : decode cX1_result 32 = .ok (.bipush (-7), 2) := by decide +kernel
theorem dX1_result_34 : decode cX1_result 34 = .ok (.if_icmp .ne 11, 3) := by decide +kernel
theorem dX1_result_37 : decode cX1_result 37 = .ok (.lload_n 1, 1) := by decide +kernel
theorem dX1_result_38 : decode cX1_result 38 = .ok (.lload_n 3, 1) := by decide +kernel
theorem dX1_result_39 : decode cX1_result 39 = .ok (.lmul, 1) := by decide +kernel
theorem dX1_result_40 : decode cX1_result 40 = .ok (.lstore 5, 2) := by decide +kernel
theorem dX1_result_42 : decode cX1_result 42 = .ok (.goto 14, 3) := by decide +kernel
theorem dX1_result_45 : decode cX1_result 45 = .ok (.lload_n 3, 1) := by decide +kernel
theorem dX1_result_46 : decode cX1_result 46 = .ok (.lconst 0, 1) := by decide +kernel
theorem dX1_result_47 : decode cX1_result 47 = .ok (.lcmp, 1) := by decide +kernel
theorem dX1_result_48 : decode cX1_result 48 = .ok (.ifCond .eq 8, 3) := by decide +kernel
theorem dX1_result_51 : decode cX1_result 51 = .ok (.lload_n 1, 1) := by decide +kernel
theorem dX1_result_52 : decode cX1_result 52 = .ok (.lload_n 3, 1) := by decide +kernel
theorem dX1_result_53 : decode cX1_result 53 = .ok (.ldiv, 1) := by decide +kernel
theorem dX1_result_54 : decode cX1_result 54 = .ok (.lstore 5, 2) := by decide +kernel
theorem dX1_result_56 : decode cX1_result 56 = .ok (.ldc2_w 31, 3) := by decide +kernel
theorem dX1_result_59 : decode cX1_result 59 = .ok (.ldc2_w 33, 3) := by decide +kernel
theorem dX1_result_62 : decode cX1_result 62 = .ok (.lload 5, 2) := by decide +kernel
theorem dX1_result_64 : decode cX1_result 64 = .ok (.invokestatic 35, 3) := by decide +kernel
theorem dX1_result_67 : decode cX1_result 67 = .ok (.invokestatic 38, 3) := by decide +kernel
theorem dX1_result_70 : decode cX1_result 70 = .ok (.l2i, 1) := by decide +kernel
theorem dX1_result_71 : decode cX1_result 71 = .ok (.ireturn, 1) := by decide +kernel
theorem dX2_init_0 : decode cX2_init 0 = .ok (.aload_n 0, 1) := by decide +kernel
theorem dX2_init_1 : decode cX2_init 1 = .ok (.invokespecial 3, 3) := by decide +kernel
theorem dX2_init_4 : decode cX2_init 4 = .ok (.aload_n 0, 1) := by decide +kernel
theorem dX2_init_5 : decode cX2_init 5 = .ok (.bipush 8, 2) := by decide +kernel
theorem dX2_init_7 : decode cX2_init 7 = .ok (.anewarray 9, 3) := by decide +kernel
theorem dX2_init_10 : decode cX2_init 10 = .ok (.putfield 11, 3) := by decide +kernel
theorem dX2_init_13 : decode cX2_init 13 = .ok (.aload_n 0, 1) := by decide +kernel
theorem dX2_init_14 : decode cX2_init 14 = .ok (.iconst 0, 1) := by decide +kernel
theorem dX2_init_15 : decode cX2_init 15 = .ok (.putfield 17, 3) := by decide +kernel
theorem dX2_init_18 : decode cX2_init 18 = .ok (.aload_n 0, 1) := by decide +kernel
theorem dX2_init_19 : decode cX2_init 19 = .ok (.iconst 0, 1) := by decide +kernel
theorem dX2_init_20 : decode cX2_init 20 = .ok (.putfield 21, 3) := by decide +kernel
theorem dX2_init_23 : decode cX2_init 23 = .ok (.iconst 0, 1) := by decide +kernel
theorem dX2_init_24 : decode cX2_init 24 = .ok (.istore_n 1, 1) := by decide +kernel
theorem dX2_init_25 : decode cX2_init 25 = .ok (.iload_n 1, 1) := by decide +kernel
theorem dX2_init_26 : decode cX2_init 26 = .ok (.bipush 8, 2) := by decide +kernel
theorem dX2_init_28 : decode cX2_init 28 = .ok (.if_icmp .ge 22, 3) := by decide +kernel
theorem dX2_init_31 : decode cX2_init 31 = .ok (.aload_n 0, 1) := by decide +kernel
theorem dX2_init_32 : decode cX2_init 32 = .ok (.getfield 11, 3) := by decide +kernel
theorem dX2_init_35 : decode cX2_init 35 = .ok (.iload_n 1, 1) := by decide +kernel
theorem dX2_init_36 : decode cX2_init 36 = .ok (.new 9, 3) := by decide +kernel
theorem dX2_init_39 : decode cX2_init 39 = .ok (.dup, 1) := by decide +kernel
theorem dX2_init_40 : decode cX2_init 40 = .ok (.invokespecial 24, 3) := by decide +kernel
theorem dX2_init_43 : decode cX2_init 43 = .ok (.aastore, 1) := by decide +kernel
theorem dX2_init_44 : decode cX2_init 44 = .ok (.iinc 1 1, 3) := by decide +kernel
theorem dX2_init_47 : decode cX2_init 47 = .ok (.goto (-22), 3) := by decide +kernel
theorem dX2_init_50 : decode cX2_init 50 = .ok (.return_, 1) := by decide +kernel
theorem dX2_remember_0 : decode cX2_remember 0 = .ok (.aload_n 0, 1) := by decide +kernel
theorem dX2_remember_1 : decode cX2_remember 1 = .ok (.getfield 11, 3) := by decide +kernel
theorem dX2_remember_4 : decode cX2_remember 4 = .ok (.aload_n 0, 1) := by decide +kernel
theorem dX2_remember_5 : decode cX2_remember 5 = .ok (.getfield 17, 3) := by decide +kernel
theorem dX2_remember_8 : decode cX2_remember 8 = .ok (.aaload, 1) := by decide +kernel
theorem dX2_remember_9 : decode cX2_remember 9 = .ok (.aload_n 1, 1) := by decide +kernel
theorem dX2_remember_10 : decode cX2_remember 10 = .ok (.invokevirtual 25, 3) := by decide +kernel
theorem dX2_remember_13 : decode cX2_remember 13 = .ok (.aload_n 0, 1) := by decide +kernel
theorem dX2_remember_14 : decode cX2_remember 14 = .ok (.aload_n 0, 1) := by decide +kernel
theorem dX2_remember_15 : decode cX2_remember 15 = .ok (.getfield 17, 3) := by decide +kernel
theorem dX2_remember_18 : decode cX2_remember 18 = .ok (.iconst 1, 1) := by decide +kernel
theorem dX2_remember_19 : decode cX2_remember 19 = .ok (.iadd, 1) := by decide +kernel
theorem dX2_remember_20 : decode cX2_remember 20 = .ok (.bipush 8, 2) := by decide +kernel
theorem dX2_remember_22 : decode cX2_remember 22 = .ok (.if_icmp .ge 12, 3) := by decide +kernel
theorem dX2_remember_25 : decode cX2_remember 25 = .ok (.aload_n 0, 1) := by decide +kernel
theorem dX2_remember_26 : decode cX2_remember 26 = .ok (.getfield 17, 3) := by decide +kernel
theorem dX2_remember_29 : decode cX2_remember 29 = .ok (.iconst 1, 1) := by decide +kernel
theorem dX2_remember_30 : decode cX2_remember 30 = .ok (.iadd, 1) := by decide +kernel
theorem dX2_remember_31 : decode cX2_remember 31 = .ok (.goto 4, 3) := by decide +kernel
theorem dX2_remember_34 : decode cX2_remember 34 = .ok (.iconst 0, 1) := by decide +kernel
theorem dX2_remember_35 : decode cX2_remember 35 = .ok (.putfield 17, 3) := by decide +kernel
theorem dX2_remember_38 : decode cX2_remember 38 = .ok (.aload_n 0, 1) := by decide +kernel
theorem dX2_remember_39 : decode cX2_remember 39 = .ok (.aload_n 0, 1) := by decide +kernel
theorem dX2_remember_40 : decode cX2_remember 40 = .ok (.getfield 21, 3) := by decide +kernel
theorem dX2_remember_43 : decode cX2_remember 43 = .ok (.iconst 1, 1) := by decide +kernel
theorem dX2_remember_44 : decode cX2_remember 44 = .ok (.iadd, 1) := by decide +kernel
theorem dX2_remember_45 : decode cX2_remember 45 = .ok (.bipush 8, 2) := by decide +kernel
theorem dX2_remember_47 : decode cX2_remember 47 = .ok (.invokestatic 29, 3) := by decide +kernel
theorem dX2_remember_50 : decode cX2_remember 50 = .ok (.putfield 21, 3) := by decide +kernel
theorem dX2_remember_53 : decode cX2_remember 53 = .ok (.return_, 1) := by decide +kernel
theorem dX2_restoreLatest_0 : decode cX2_restoreLatest 0 = .ok (.aload_n 0, 1) := by decide +kernel
theorem dX2_restoreLatest_1 : decode cX2_restoreLatest 1 = .ok (.getfield 21, 3) := by decide +kernel
theorem dX2_restoreLatest_4 : decode cX2_restoreLatest 4 = .ok (.ifCond .ne 5, 3) := by decide +kernel
theorem dX2_restoreLatest_7 : decode cX2_restoreLatest 7 = .ok (.iconst (-1), 1) := by decide +kernel
theorem dX2_restoreLatest_8 : decode cX2_restoreLatest 8 = .ok (.ireturn, 1) := by decide +kernel
theorem dX2_restoreLatest_9 : decode cX2_restoreLatest 9 = .ok (.aload_n 0, 1) := by decide +kernel
theorem dX2_restoreLatest_10 : decode cX2_restoreLatest 10 = .ok (.aload_n 0, 1) := by decide +kernel
theorem dX2_restoreLatest_11 : decode cX2_restoreLatest 11 = .ok (.getfield 17, 3) := by decide +kernel
theorem dX2_restoreLatest_14 : decode cX2_restoreLatest 14 = .ok (.ifCond .le 12, 3) := by decide +kernel
theorem dX2_restoreLatest_17 : decode cX2_restoreLatest 17 = .ok (.aload_n 0, 1) := by decide +kernel
theorem dX2_restoreLatest_18 : decode cX2_restoreLatest 18 = .ok (.getfield 17, 3) := by decide +kernel
theorem dX2_restoreLatest_21 : decode cX2_restoreLatest 21 = .ok (.iconst 1, 1) := by decide +kernel
theorem dX2_restoreLatest_22 : decode cX2_restoreLatest 22 = .ok (.isub, 1) := by decide +kernel
theorem dX2_restoreLatest_23 : decode cX2_restoreLatest 23 = .ok (.goto 5, 3) := by decide +kernel
theorem dX2_restoreLatest_26 : decode cX2_restoreLatest 26 = .ok (.bipush 7, 2) := by decide +kernel
theorem dX2_restoreLatest_28 : decode cX2_restoreLatest 28 = .ok (.putfield 17, 3) := by decide +kernel
theorem dX2_restoreLatest_31 : decode cX2_restoreLatest 31 = .ok (.aload_n 1, 1) := by decide +kernel
theorem dX2_restoreLatest_32 : decode cX2_restoreLatest 32 = .ok (.aload_n 0, 1) := by decide +kernel
theorem dX2_restoreLatest_33 : decode cX2_restoreLatest 33 = .ok (.getfield 11, 3) := by decide +kernel
theorem dX2_restoreLatest_36 : decode cX2_restoreLatest 36 = .ok (.aload_n 0, 1) := by decide +kernel
theorem dX2_restoreLatest_37 : decode cX2_restoreLatest 37 = .ok (.getfield 17, 3) := by decide +kernel
theorem dX2_restoreLatest_40 : decode cX2_restoreLatest 40 = .ok (.aaload, 1) := by decide +kernel
theorem dX2_restoreLatest_41 : decode cX2_restoreLatest 41 = .ok (.invokevirtual 25, 3) := by decide +kernel
theorem dX2_restoreLatest_44 : decode cX2_restoreLatest 44 = .ok (.aload_n 0, 1) := by decide +kernel
theorem dX2_restoreLatest_45 : decode cX2_restoreLatest 45 = .ok (.dup, 1) := by decide +kernel
theorem dX2_restoreLatest_46 : decode cX2_restoreLatest 46 = .ok (.getfield 21, 3) := by decide +kernel
theorem dX2_restoreLatest_49 : decode cX2_restoreLatest 49 = .ok (.iconst 1, 1) := by decide +kernel
theorem dX2_restoreLatest_50 : decode cX2_restoreLatest 50 = .ok (.isub, 1) := by decide +kernel
theorem dX2_restoreLatest_51 : decode cX2_restoreLatest 51 = .ok (.putfield 21, 3) := by decide +kernel
theorem dX2_restoreLatest_54 : decode cX2_restoreLatest 54 = .ok (.aload_n 0, 1) := by decide +kernel
theorem dX2_restoreLatest_55 : decode cX2_restoreLatest 55 = .ok (.getfield 21, 3) := by decide +kernel
theorem dX2_restoreLatest_58 : decode cX2_restoreLatest 58 = .ok (.ireturn, 1) := by decide +kernel
theorem dX3_init_0 : decode cX3_init 0 = .ok (.aload_n 0, 1) := by decide +kernel
theorem dX3_init_1 : decode cX3_init 1 = .ok (.invokespecial 3, 3) := by decide +kernel
theorem dX3_init_4 : decode cX3_init 4 = .ok (.aload_n 0, 1) := by decide +kernel
theorem dX3_init_5 : decode cX3_init 5 = .ok (.new 9, 3) := by decide +kernel
theorem dX3_init_8 : decode cX3_init 8 = .ok (.dup, 1) := by decide +kernel
theorem dX3_init_9 : decode cX3_init 9 = .ok (.invokespecial 11, 3) := by decide +kernel
theorem dX3_init_12 : decode cX3_init 12 = .ok (.putfield 12, 3) := by decide +kernel
theorem dX3_init_15 : decode cX3_init 15 = .ok (.aload_n 0, 1) := by decide +kernel
theorem dX3_init_16 : decode cX3_init 16 = .ok (.new 18, 3) := by decide +kernel
theorem dX3_init_19 : decode cX3_init 19 = .ok (.dup, 1) := by decide +kernel
theorem dX3_init_20 : decode cX3_init 20 = .ok (.invokespecial 20, 3) := by decide +kernel
theorem dX3_init_23 : decode cX3_init 23 = .ok (.putfield 21, 3) := by decide +kernel
theorem dX3_init_26 : decode cX3_init 26 = .ok (.aload_n 0, 1) := by decide +kernel
theorem dX3_init_27 : decode cX3_init 27 = .ok (.new 25, 3) := by decide +kernel
theorem dX3_init_30 : decode cX3_init 30 = .ok (.dup, 1) := by decide +kernel
theorem dX3_init_31 : decode cX3_init 31 = .ok (.iconst 1, 1) := by decide +kernel
theorem dX3_init_32 : decode cX3_init 32 = .ok (.newarray .int, 2) := by decide +kernel
theorem dX3_init_34 : decode cX3_init 34 = .ok (.dup, 1) := by decide +kernel
theorem dX3_init_35 : decode cX3_init 35 = .ok (.iconst 0, 1) := by decide +kernel
theorem dX3_init_36 : decode cX3_init 36 = .ok (.iconst (-1), 1) := by decide +kernel
theorem dX3_init_37 : decode cX3_init 37 = .ok (.iastore, 1) := by decide +kernel
theorem dX3_init_38 : decode cX3_init 38 = .ok (.invokespecial 27, 3) := by decide +kernel
theorem dX3_init_41 : decode cX3_init 41 = .ok (.putfield 30, 3) := by decide +kernel
theorem dX3_init_44 : decode cX3_init 44 = .ok (.aload_n 0, 1) := by decide +kernel
theorem dX3_init_45 : decode cX3_init 45 = .ok (.iconst 0, 1) := by decide +kernel
theorem dX3_init_46 : decode cX3_init 46 = .ok (.putfield 34, 3) := by decide +kernel
theorem dX3_init_49 : decode cX3_init 49 = .ok (.return_, 1) := by decide +kernel
theorem dX3_copyFrom_0 : decode cX3_copyFrom 0 = .ok (.aload_n 0, 1) := by decide +kernel
theorem dX3_copyFrom_1 : decode cX3_copyFrom 1 = .ok (.getfield 12, 3) := by decide +kernel
theorem dX3_copyFrom_4 : decode cX3_copyFrom 4 = .ok (.aload_n 1, 1) := by decide +kernel
theorem dX3_copyFrom_5 : decode cX3_copyFrom 5 = .ok (.getfield 12, 3) := by decide +kernel
theorem dX3_copyFrom_8 : decode cX3_copyFrom 8 = .ok (.invokevirtual 38, 3) := by decide +kernel
theorem dX3_copyFrom_11 : decode cX3_copyFrom 11 = .ok (.aload_n 0, 1) := by decide +kernel
theorem dX3_copyFrom_12 : decode cX3_copyFrom 12 = .ok (.getfield 21, 3) := by decide +kernel
theorem dX3_copyFrom_15 : decode cX3_copyFrom 15 = .ok (.aload_n 1, 1) := by decide +kernel
theorem dX3_copyFrom_16 : decode cX3_copyFrom 16 = .ok (.getfield 21, 3) := by decide +kernel
theorem dX3_copyFrom_19 : decode cX3_copyFrom 19 = .ok (.invokevirtual 42, 3) := by decide +kernel
theorem dX3_copyFrom_22 : decode cX3_copyFrom 22 = .ok (.aload_n 0, 1) := by decide +kernel
theorem dX3_copyFrom_23 : decode cX3_copyFrom 23 = .ok (.aload_n 1, 1) := by decide +kernel
theorem dX3_copyFrom_24 : decode cX3_copyFrom 24 = .ok (.getfield 30, 3) := by decide +kernel
theorem dX3_copyFrom_27 : decode cX3_copyFrom 27 = .ok (.putfield 30, 3) := by decide +kernel
theorem dX3_copyFrom_30 : decode cX3_copyFrom 30 = .ok (.aload_n 0, 1) := by decide +kernel
theorem dX3_copyFrom_31 : decode cX3_copyFrom 31 = .ok (.aload_n 1, 1) := by decide +kernel
theorem dX3_copyFrom_32 : decode cX3_copyFrom 32 = .ok (.getfield 34, 3) := by decide +kernel
theorem dX3_copyFrom_35 : decode cX3_copyFrom 35 = .ok (.putfield 34, 3) := by decide +kernel
theorem dX3_copyFrom_38 : decode cX3_copyFrom 38 = .ok (.return_, 1) := by decide +kernel
theorem dX3_startAgainOn_0 : decode cX3_startAgainOn 0 = .ok (.aload_n 0, 1) := by decide +kernel
theorem dX3_startAgainOn_1 : decode cX3_startAgainOn 1 = .ok (.getfield 12, 3) := by decide +kernel
theorem dX3_startAgainOn_4 : decode cX3_startAgainOn 4 = .ok (.iload_n 1, 1) := by decide +kernel
theorem dX3_startAgainOn_5 : decode cX3_startAgainOn 5 = .ok (.invokevirtual 45, 3) := by decide +kernel
theorem dX3_startAgainOn_8 : decode cX3_startAgainOn 8 = .ok (.aload_n 0, 1) := by decide +kernel
theorem dX3_startAgainOn_9 : decode cX3_startAgainOn 9 = .ok (.getfield 21, 3) := by decide +kernel
theorem dX3_startAgainOn_12 : decode cX3_startAgainOn 12 = .ok (.iload_n 1, 1) := by decide +kernel
theorem dX3_startAgainOn_13 : decode cX3_startAgainOn 13 = .ok (.invokevirtual 49, 3) := by decide +kernel
theorem dX3_startAgainOn_16 : decode cX3_startAgainOn 16 = .ok (.aload_n 0, 1) := by decide +kernel
theorem dX3_startAgainOn_17 : decode cX3_startAgainOn 17 = .ok (.iconst 0, 1) := by decide +kernel
theorem dX3_startAgainOn_18 : decode cX3_startAgainOn 18 = .ok (.putfield 34, 3) := by decide +kernel
theorem dX3_startAgainOn_21 : decode cX3_startAgainOn 21 = .ok (.return_, 1) := by decide +kernel
theorem dX3_cyclesUntilFinished_0 : decode cX3_cyclesUntilFinished 0 = .ok (.iconst 0, 1) := by decide +kernel
theorem dX3_cyclesUntilFinished_1 : decode cX3_cyclesUntilFinished 1 = .ok (.istore_n 2, 1) := by decide +kernel
theorem dX3_cyclesUntilFinished_2 : decode cX3_cyclesUntilFinished 2 = .ok (.iload_n 2, 1) := by decide +kernel
theorem dX3_cyclesUntilFinished_3 : decode cX3_cyclesUntilFinished 3 = .ok (.iload_n 1, 1) := by decide +kernel
theorem dX3_cyclesUntilFinished_4 : decode cX3_cyclesUntilFinished 4 = .ok (.if_icmp .gt 26, 3) := by decide +kernel
theorem dX3_cyclesUntilFinished_7 : decode cX3_cyclesUntilFinished 7 = .ok (.aload_n 0, 1) := by decide +kernel
theorem dX3_cyclesUntilFinished_8 : decode cX3_cyclesUntilFinished 8 = .ok (.getfield 12, 3) := by decide +kernel
theorem dX3_cyclesUntilFinished_11 : decode cX3_cyclesUntilFinished 11 = .ok (.invokevirtual 50, 3) := by decide +kernel
theorem dX3_cyclesUntilFinished_14 : decode cX3_cyclesUntilFinished 14 = .ok (.ifCond .ne 5, 3) := by decide +kernel
theorem dX3_cyclesUntilFinished_17 : decode cX3_cyclesUntilFinished 17 = .ok (.iload_n 2, 1) := by decide +kernel
theorem dX3_cyclesUntilFinished_18 : decode cX3_cyclesUntilFinished 18 = .ok (.ireturn, 1) := by decide +kernel
theorem dX3_cyclesUntilFinished_19 : decode cX3_cyclesUntilFinished 19 = .ok (.aload_n 0, 1) := by decide +kernel
theorem dX3_cyclesUntilFinished_20 : decode cX3_cyclesUntilFinished 20 = .ok (.invokevirtual 54, 3) := by decide +kernel
theorem dX3_cyclesUntilFinished_23 : decode cX3_cyclesUntilFinished 23 = .ok (.pop, 1) := by decide +kernel
theorem dX3_cyclesUntilFinished_24 : decode cX3_cyclesUntilFinished 24 = .ok (.iinc 2 1, 3) := by decide +kernel
theorem dX3_cyclesUntilFinished_27 : decode cX3_cyclesUntilFinished 27 = .ok (.goto (-25), 3) := by decide +kernel
theorem dX3_cyclesUntilFinished_30 : decode cX3_cyclesUntilFinished 30 = .ok (.iconst (-1), 1) := by decide +kernel
theorem dX3_cyclesUntilFinished_31 : decode cX3_cyclesUntilFinished 31 = .ok (.ireturn, 1) := by decide +kernel
theorem dX3_cycle_0 : decode cX3_cycle 0 = .ok (.aload_n 0, 1) := by decide +kernel
theorem dX3_cycle_1 : decode cX3_cycle 1 = .ok (.invokevirtual 57, 3) := by decide +kernel
theorem dX3_cycle_4 : decode cX3_cycle 4 = .ok (.istore_n 1, 1) := by decide +kernel
theorem dX3_cycle_5 : decode cX3_cycle 5 = .ok (.aload_n 0, 1) := by decide +kernel
theorem dX3_cycle_6 : decode cX3_cycle 6 = .ok (.getfield 12, 3) := by decide +kernel
theorem dX3_cycle_9 : decode cX3_cycle 9 = .ok (.invokevirtual 60, 3) := by decide +kernel
theorem dX3_cycle_12 : decode cX3_cycle 12 = .ok (.aload_n 0, 1) := by decide +kernel
theorem dX3_cycle_13 : decode cX3_cycle 13 = .ok (.invokevirtual 63, 3) := by decide +kernel
theorem dX3_cycle_16 : decode cX3_cycle 16 = .ok (.aload_n 0, 1) := by decide +kernel
theorem dX3_cycle_17 : decode cX3_cycle 17 = .ok (.invokevirtual 66, 3) := by decide +kernel
theorem dX3_cycle_20 : decode cX3_cycle 20 = .ok (.aload_n 0, 1) := by decide +kernel
theorem dX3_cycle_21 : decode cX3_cycle 21 = .ok (.getfield 21, 3) := by decide +kernel
theorem dX3_cycle_24 : decode cX3_cycle 24 = .ok (.invokevirtual 69, 3) := by decide +kernel
theorem dX3_cycle_27 : decode cX3_cycle 27 = .ok (.aload_n 0, 1) := by decide +kernel
theorem dX3_cycle_28 : decode cX3_cycle 28 = .ok (.dup, 1) := by decide +kernel
theorem dX3_cycle_29 : decode cX3_cycle 29 = .ok (.getfield 34, 3) := by decide +kernel
theorem dX3_cycle_32 : decode cX3_cycle 32 = .ok (.iconst 1, 1) := by decide +kernel
theorem dX3_cycle_33 : decode cX3_cycle 33 = .ok (.iadd, 1) := by decide +kernel
theorem dX3_cycle_34 : decode cX3_cycle 34 = .ok (.putfield 34, 3) := by decide +kernel
theorem dX3_cycle_37 : decode cX3_cycle 37 = .ok (.iload_n 1, 1) := by decide +kernel
theorem dX3_cycle_38 : decode cX3_cycle 38 = .ok (.ireturn, 1) := by decide +kernel
theorem dX3_finishTasks_0 : decode cX3_finishTasks 0 = .ok (.iconst 0, 1) := by decide +kernel
theorem dX3_finishTasks_1 : decode cX3_finishTasks 1 = .ok (.istore_n 1, 1) := by decide +kernel
theorem dX3_finishTasks_2 : decode cX3_finishTasks 2 = .ok (.iconst 0, 1) := by decide +kernel
theorem dX3_finishTasks_3 : decode cX3_finishTasks 3 = .ok (.istore_n 2, 1) := by decide +kernel
theorem dX3_finishTasks_4 : decode cX3_finishTasks 4 = .ok (.iload_n 2, 1) := by decide +kernel
theorem dX3_finishTasks_5 : decode cX3_finishTasks 5 = .ok (.aload_n 0, 1) := by decide +kernel
theorem dX3_finishTasks_6 : decode cX3_finishTasks 6 = .ok (.getfield 21, 3) := by decide +kernel
theorem dX3_finishTasks_9 : decode cX3_finishTasks 9 = .ok (.getfield 72, 3) := by decide +kernel
theorem dX3_finishTasks_12 : decode cX3_finishTasks 12 = .ok (.if_icmp .ge 84, 3) := by decide +kernel
theorem dX3_finishTasks_15 : decode cX3_finishTasks 15 = .ok (.aload_n 0, 1) := by decide +kernel
theorem dX3_finishTasks_16 : decode cX3_finishTasks 16 = .ok (.getfield 21, 3) := by decide +kernel
theorem dX3_finishTasks_19 : decode cX3_finishTasks 19 = .ok (.getfield 75, 3) := by decide +kernel
theorem dX3_finishTasks_22 : decode cX3_finishTasks 22 = .ok (.iload_n 2, 1) := by decide +kernel
theorem dX3_finishTasks_23 : decode cX3_finishTasks 23 = .ok (.iaload, 1) := by decide +kernel
theorem dX3_finishTasks_24 : decode cX3_finishTasks 24 = .ok (.istore_n 3, 1) := by decide +kernel
theorem dX3_finishTasks_25 : decode cX3_finishTasks 25 = .ok (.iload_n 3, 1) := by decide +kernel
theorem dX3_finishTasks_26 : decode cX3_finishTasks 26 = .ok (.ifCond .lt 64, 3) := by decide +kernel
theorem dX3_finishTasks_29 : decode cX3_finishTasks 29 = .ok (.aload_n 0, 1) := by decide +kernel
theorem dX3_finishTasks_30 : decode cX3_finishTasks 30 = .ok (.getfield 21, 3) := by decide +kernel
theorem dX3_finishTasks_33 : decode cX3_finishTasks 33 = .ok (.getfield 79, 3) := by decide +kernel
theorem dX3_finishTasks_36 : decode cX3_finishTasks 36 = .ok (.iload_n 2, 1) := by decide +kernel
theorem dX3_finishTasks_37 : decode cX3_finishTasks 37 = .ok (.dup2, 1) := by decide +kernel
theorem dX3_finishTasks_38 : decode cX3_finishTasks 38 = .ok (.iaload, 1) := by decide +kernel
theorem dX3_finishTasks_39 : decode cX3_finishTasks 39 = .ok (.iconst 1, 1) := by decide +kernel
theorem dX3_finishTasks_40 : decode cX3_finishTasks 40 = .ok (.isub, 1) := by decide +kernel
theorem dX3_finishTasks_41 : decode cX3_finishTasks 41 = .ok (.iastore, 1) := by decide +kernel
theorem dX3_finishTasks_42 : decode cX3_finishTasks 42 = .ok (.aload_n 0, 1) := by decide +kernel
theorem dX3_finishTasks_43 : decode cX3_finishTasks 43 = .ok (.getfield 21, 3) := by decide +kernel
theorem dX3_finishTasks_46 : decode cX3_finishTasks 46 = .ok (.getfield 79, 3) := by decide +kernel
theorem dX3_finishTasks_49 : decode cX3_finishTasks 49 = .ok (.iload_n 2, 1) := by decide +kernel
theorem dX3_finishTasks_50 : decode cX3_finishTasks 50 = .ok (.iaload, 1) := by decide +kernel
theorem dX3_finishTasks_51 : decode cX3_finishTasks 51 = .ok (.ifCond .ne 39, 3) := by decide +kernel
theorem dX3_finishTasks_54 : decode cX3_finishTasks 54 = .ok (.aload_n 0, 1) := by decide +kernel
theorem dX3_finishTasks_55 : decode cX3_finishTasks 55 = .ok (.getfield 12, 3) := by decide +kernel
theorem dX3_finishTasks_58 : decode cX3_finishTasks 58 = .ok (.getfield 82, 3) := by decide +kernel
theorem dX3_finishTasks_61 : decode cX3_finishTasks 61 = .ok (.iload_n 3, 1) := by decide +kernel
theorem dX3_finishTasks_62 : decode cX3_finishTasks 62 = .ok (.iconst 4, 1) := by decide +kernel
theorem dX3_finishTasks_63 : decode cX3_finishTasks 63 = .ok (.iastore, 1) := by decide +kernel
theorem dX3_finishTasks_64 : decode cX3_finishTasks 64 = .ok (.aload_n 0, 1) := by decide +kernel
theorem dX3_finishTasks_65 : decode cX3_finishTasks 65 = .ok (.getfield 12, 3) := by decide +kernel
theorem dX3_finishTasks_68 : decode cX3_finishTasks 68 = .ok (.getfield 85, 3) := by decide +kernel
theorem dX3_finishTasks_71 : decode cX3_finishTasks 71 = .ok (.iload_n 3, 1) := by decide +kernel
theorem dX3_finishTasks_72 : decode cX3_finishTasks 72 = .ok (.aload_n 0, 1) := by decide +kernel
theorem dX3_finishTasks_73 : decode cX3_finishTasks 73 = .ok (.getfield 34, 3) := by decide +kernel
theorem dX3_finishTasks_76 : decode cX3_finishTasks 76 = .ok (.iastore, 1) := by decide +kernel
theorem dX3_finishTasks_77 : decode cX3_finishTasks 77 = .ok (.aload_n 0, 1) := by decide +kernel
theorem dX3_finishTasks_78 : decode cX3_finishTasks 78 = .ok (.getfield 21, 3) := by decide +kernel
theorem dX3_finishTasks_81 : decode cX3_finishTasks 81 = .ok (.getfield 75, 3) := by decide +kernel
theorem dX3_finishTasks_84 : decode cX3_finishTasks 84 = .ok (.iload_n 2, 1) := by decide +kernel
theorem dX3_finishTasks_85 : decode cX3_finishTasks 85 = .ok (.iconst (-1), 1) := by decide +kernel
theorem dX3_finishTasks_86 : decode cX3_finishTasks 86 = .ok (.iastore, 1) := by decide +kernel
theorem dX3_finishTasks_87 : decode cX3_finishTasks 87 = .ok (.iinc 1 1, 3) := by decide +kernel
theorem dX3_finishTasks_90 : decode cX3_finishTasks 90 = .ok (.iinc 2 1, 3) := by decide +kernel
theorem dX3_finishTasks_93 : decode cX3_finishTasks 93 = .ok (.goto (-89), 3) := by decide +kernel
theorem dX3_finishTasks_96 : decode cX3_finishTasks 96 = .ok (.iload_n 1, 1) := by decide +kernel
theorem dX3_finishTasks_97 : decode cX3_finishTasks 97 = .ok (.ireturn, 1) := by decide +kernel
theorem dX3_queueTasks_0 : decode cX3_queueTasks 0 = .ok (.iconst 0, 1) := by decide +kernel
theorem dX3_queueTasks_1 : decode cX3_queueTasks 1 = .ok (.istore_n 1, 1) := by decide +kernel
theorem dX3_queueTasks_2 : decode cX3_queueTasks 2 = .ok (.iload_n 1, 1) := by decide +kernel
theorem dX3_queueTasks_3 : decode cX3_queueTasks 3 = .ok (.bipush 32, 2) := by decide +kernel
theorem dX3_queueTasks_5 : decode cX3_queueTasks 5 = .ok (.if_icmp .ge 63, 3) := by decide +kernel
theorem dX3_queueTasks_8 : decode cX3_queueTasks 8 = .ok (.aload_n 0, 1) := by decide +kernel
theorem dX3_queueTasks_9 : decode cX3_queueTasks 9 = .ok (.getfield 12, 3) := by decide +kernel
theorem dX3_queueTasks_12 : decode cX3_queueTasks 12 = .ok (.invokevirtual 88, 3) := by decide +kernel
theorem dX3_queueTasks_15 : decode cX3_queueTasks 15 = .ok (.istore_n 2, 1) := by decide +kernel
theorem dX3_queueTasks_16 : decode cX3_queueTasks 16 = .ok (.iload_n 2, 1) := by decide +kernel
theorem dX3_queueTasks_17 : decode cX3_queueTasks 17 = .ok (.ifCond .ge 4, 3) := by decide +kernel
theorem dX3_queueTasks_20 : decode cX3_queueTasks 20 = .ok (.return_, 1) := by decide +kernel
theorem dX3_queueTasks_21 : decode cX3_queueTasks 21 = .ok (.aload_n 0, 1) := by decide +kernel
theorem dX3_queueTasks_22 : decode cX3_queueTasks 22 = .ok (.getfield 21, 3) := by decide +kernel
theorem dX3_queueTasks_25 : decode cX3_queueTasks 25 = .ok (.aload_n 0, 1) := by decide +kernel
theorem dX3_queueTasks_26 : decode cX3_queueTasks 26 = .ok (.getfield 12, 3) := by decide +kernel
theorem dX3_queueTasks_29 : decode cX3_queueTasks 29 = .ok (.getfield 91, 3) := by decide +kernel
theorem dX3_queueTasks_32 : decode cX3_queueTasks 32 = .ok (.iload_n 2, 1) := by decide +kernel
theorem dX3_queueTasks_33 : decode cX3_queueTasks 33 = .ok (.iaload, 1) := by decide +kernel
theorem dX3_queueTasks_34 : decode cX3_queueTasks 34 = .ok (.invokevirtual 94, 3) := by decide +kernel
theorem dX3_queueTasks_37 : decode cX3_queueTasks 37 = .ok (.istore_n 3, 1) := by decide +kernel
theorem dX3_queueTasks_38 : decode cX3_queueTasks 38 = .ok (.iload_n 3, 1) := by decide +kernel
theorem dX3_queueTasks_39 : decode cX3_queueTasks 39 = .ok (.ifCond .ge 4, 3) := by decide +kernel
theorem dX3_queueTasks_42 : decode cX3_queueTasks 42 = .ok (.return_, 1) := by decide +kernel
theorem dX3_queueTasks_43 : decode cX3_queueTasks 43 = .ok (.aload_n 0, 1) := by decide +kernel
theorem dX3_queueTasks_44 : decode cX3_queueTasks 44 = .ok (.getfield 21, 3) := by decide +kernel
theorem dX3_queueTasks_47 : decode cX3_queueTasks 47 = .ok (.iload_n 3, 1) := by decide +kernel
theorem dX3_queueTasks_48 : decode cX3_queueTasks 48 = .ok (.iload_n 2, 1) := by decide +kernel
theorem dX3_queueTasks_49 : decode cX3_queueTasks 49 = .ok (.invokevirtual 98, 3) := by decide +kernel
theorem dX3_queueTasks_52 : decode cX3_queueTasks 52 = .ok (.aload_n 0, 1) := by decide +kernel
theorem dX3_queueTasks_53 : decode cX3_queueTasks 53 = .ok (.getfield 12, 3) := by decide +kernel
theorem dX3_queueTasks_56 : decode cX3_queueTasks 56 = .ok (.getfield 82, 3) := by decide +kernel
theorem dX3_queueTasks_59 : decode cX3_queueTasks 59 = .ok (.iload_n 2, 1) := by decide +kernel
theorem dX3_queueTasks_60 : decode cX3_queueTasks 60 = .ok (.iconst 2, 1) := by decide +kernel
theorem dX3_queueTasks_61 : decode cX3_queueTasks 61 = .ok (.iastore, 1) := by decide +kernel
theorem dX3_queueTasks_62 : decode cX3_queueTasks 62 = .ok (.iinc 1 1, 3) := by decide +kernel
theorem dX3_queueTasks_65 : decode cX3_queueTasks 65 = .ok (.goto (-63), 3) := by decide +kernel
theorem dX3_queueTasks_68 : decode cX3_queueTasks 68 = .ok (.return_, 1) := by decide +kernel
theorem dX3_startTasks_0 : decode cX3_startTasks 0 = .ok (.iconst 0, 1) := by decide +kernel
theorem dX3_startTasks_1 : decode cX3_startTasks 1 = .ok (.istore_n 1, 1) := by decide +kernel
theorem dX3_startTasks_2 : decode cX3_startTasks 2 = .ok (.iload_n 1, 1) := by decide +kernel
theorem dX3_startTasks_3 : decode cX3_startTasks 3 = .ok (.aload_n 0, 1) := by decide +kernel
theorem dX3_startTasks_4 : decode cX3_startTasks 4 = .ok (.getfield 21, 3) := by decide +kernel
theorem dX3_startTasks_7 : decode cX3_startTasks 7 = .ok (.getfield 72, 3) := by decide +kernel
theorem dX3_startTasks_10 : decode cX3_startTasks 10 = .ok (.if_icmp .ge 38, 3) := by decide +kernel
theorem dX3_startTasks_13 : decode cX3_startTasks 13 = .ok (.aload_n 0, 1) := by decide +kernel
theorem dX3_startTasks_14 : decode cX3_startTasks 14 = .ok (.getfield 21, 3) := by decide +kernel
theorem dX3_startTasks_17 : decode cX3_startTasks 17 = .ok (.getfield 102, 3) := by decide +kernel
theorem dX3_startTasks_20 : decode cX3_startTasks 20 = .ok (.iload_n 1, 1) := by decide +kernel
theorem dX3_startTasks_21 : decode cX3_startTasks 21 = .ok (.baload, 1) := by decide +kernel
theorem dX3_startTasks_22 : decode cX3_startTasks 22 = .ok (.ifCond .ne 20, 3) := by decide +kernel
theorem dX3_startTasks_25 : decode cX3_startTasks 25 = .ok (.aload_n 0, 1) := by decide +kernel
theorem dX3_startTasks_26 : decode cX3_startTasks 26 = .ok (.getfield 21, 3) := by decide +kernel
theorem dX3_startTasks_29 : decode cX3_startTasks 29 = .ok (.getfield 75, 3) := by decide +kernel
theorem dX3_startTasks_32 : decode cX3_startTasks 32 = .ok (.iload_n 1, 1) := by decide +kernel
theorem dX3_startTasks_33 : decode cX3_startTasks 33 = .ok (.iaload, 1) := by decide +kernel
theorem dX3_startTasks_34 : decode cX3_startTasks 34 = .ok (.ifCond .ge 8, 3) := by decide +kernel
theorem dX3_startTasks_37 : decode cX3_startTasks 37 = .ok (.aload_n 0, 1) := by decide +kernel
theorem dX3_startTasks_38 : decode cX3_startTasks 38 = .ok (.iload_n 1, 1) := by decide +kernel
theorem dX3_startTasks_39 : decode cX3_startTasks 39 = .ok (.invokevirtual 106, 3) := by decide +kernel
theorem dX3_startTasks_42 : decode cX3_startTasks 42 = .ok (.iinc 1 1, 3) := by decide +kernel
theorem dX3_startTasks_45 : decode cX3_startTasks 45 = .ok (.goto (-43), 3) := by decide +kernel
theorem dX3_startTasks_48 : decode cX3_startTasks 48 = .ok (.return_, 1) := by decide +kernel
theorem dX3_startTask_0 : decode cX3_startTask 0 = .ok (.aload_n 0, 1) := by decide +kernel
theorem dX3_startTask_1 : decode cX3_startTask 1 = .ok (.getfield 21, 3) := by decide +kernel
theorem dX3_startTask_4 : decode cX3_startTask 4 = .ok (.getfield 109, 3) := by decide +kernel
theorem dX3_startTask_7 : decode cX3_startTask 7 = .ok (.iload_n 1, 1) := by decide +kernel
theorem dX3_startTask_8 : decode cX3_startTask 8 = .ok (.iaload, 1) := by decide +kernel
theorem dX3_startTask_9 : decode cX3_startTask 9 = .ok (.ifCond .ne 7, 3) := by decide +kernel
theorem dX3_startTask_12 : decode cX3_startTask 12 = .ok (.iconst 1, 1) := by decide +kernel
theorem dX3_startTask_13 : decode cX3_startTask 13 = .ok (.goto 4, 3) := by decide +kernel
theorem dX3_startTask_16 : decode cX3_startTask 16 = .ok (.iconst 0, 1) := by decide +kernel
theorem dX3_startTask_17 : decode cX3_startTask 17 = .ok (.istore_n 2, 1) := by decide +kernel
theorem dX3_startTask_18 : decode cX3_startTask 18 = .ok (.iload_n 2, 1) := by decide +kernel
theorem dX3_startTask_19 : decode cX3_startTask 19 = .ok (.ifCond .eq 13, 3) := by decide +kernel
theorem dX3_startTask_22 : decode cX3_startTask 22 = .ok (.aload_n 0, 1) := by decide +kernel
theorem dX3_startTask_23 : decode cX3_startTask 23 = .ok (.getfield 21, 3) := by decide +kernel
theorem dX3_startTask_26 : decode cX3_startTask 26 = .ok (.invokevirtual 112, 3) := by decide +kernel
theorem dX3_startTask_29 : decode cX3_startTask 29 = .ok (.goto 4, 3) := by decide +kernel
theorem dX3_startTask_32 : decode cX3_startTask 32 = .ok (.iload_n 1, 1) := by decide +kernel
theorem dX3_startTask_33 : decode cX3_startTask 33 = .ok (.istore_n 3, 1) := by decide +kernel
theorem dX3_startTask_34 : decode cX3_startTask 34 = .ok (.aload_n 0, 1) := by decide +kernel
theorem dX3_startTask_35 : decode cX3_startTask 35 = .ok (.getfield 21, 3) := by decide +kernel
theorem dX3_startTask_38 : decode cX3_startTask 38 = .ok (.iload_n 3, 1) := by decide +kernel
theorem dX3_startTask_39 : decode cX3_startTask 39 = .ok (.iload_n 2, 1) := by decide +kernel
theorem dX3_startTask_40 : decode cX3_startTask 40 = .ok (.ifCond .eq 17, 3) := by decide +kernel
theorem dX3_startTask_43 : decode cX3_startTask 43 = .ok (.aload_n 0, 1) := by decide +kernel
theorem dX3_startTask_44 : decode cX3_startTask 44 = .ok (.getfield 21, 3) := by decide +kernel
theorem dX3_startTask_47 : decode cX3_startTask 47 = .ok (.getfield 109, 3) := by decide +kernel
theorem dX3_startTask_50 : decode cX3_startTask 50 = .ok (.iload_n 3, 1) := by decide +kernel
theorem dX3_startTask_51 : decode cX3_startTask 51 = .ok (.iaload, 1) := by decide +kernel
theorem dX3_startTask_52 : decode cX3_startTask 52 = .ok (.iconst 1, 1) := by decide +kernel
theorem dX3_startTask_53 : decode cX3_startTask 53 = .ok (.isub, 1) := by decide +kernel
theorem dX3_startTask_54 : decode cX3_startTask 54 = .ok (.goto 4, 3) := by decide +kernel
theorem dX3_startTask_57 : decode cX3_startTask 57 = .ok (.iconst 0, 1) := by decide +kernel
theorem dX3_startTask_58 : decode cX3_startTask 58 = .ok (.invokevirtual 115, 3) := by decide +kernel
theorem dX3_startTask_61 : decode cX3_startTask 61 = .ok (.istore 4, 2) := by decide +kernel
theorem dX3_startTask_63 : decode cX3_startTask 63 = .ok (.iload 4, 2) := by decide +kernel
theorem dX3_startTask_65 : decode cX3_startTask 65 = .ok (.ifCond .ge 4, 3) := by decide +kernel
theorem dX3_startTask_68 : decode cX3_startTask 68 = .ok (.return_, 1) := by decide +kernel
theorem dX3_startTask_69 : decode cX3_startTask 69 = .ok (.aload_n 0, 1) := by decide +kernel
theorem dX3_startTask_70 : decode cX3_startTask 70 = .ok (.getfield 30, 3) := by decide +kernel
theorem dX3_startTask_73 : decode cX3_startTask 73 = .ok (.aload_n 0, 1) := by decide +kernel
theorem dX3_startTask_74 : decode cX3_startTask 74 = .ok (.getfield 12, 3) := by decide +kernel
theorem dX3_startTask_77 : decode cX3_startTask 77 = .ok (.getfield 119, 3) := by decide +kernel
theorem dX3_startTask_80 : decode cX3_startTask 80 = .ok (.iload 4, 2) := by decide +kernel
theorem dX3_startTask_82 : decode cX3_startTask 82 = .ok (.iaload, 1) := by decide +kernel
theorem dX3_startTask_83 : decode cX3_startTask 83 = .ok (.aload_n 0, 1) := by decide +kernel
theorem dX3_startTask_84 : decode cX3_startTask 84 = .ok (.getfield 12, 3) := by decide +kernel
theorem dX3_startTask_87 : decode cX3_startTask 87 = .ok (.getfield 122, 3) := by decide +kernel
theorem dX3_startTask_90 : decode cX3_startTask 90 = .ok (.iload 4, 2) := by decide +kernel
theorem dX3_startTask_92 : decode cX3_startTask 92 = .ok (.iaload, 1) := by decide +kernel
theorem dX3_startTask_93 : decode cX3_startTask 93 = .ok (.iload_n 1, 1) := by decide +kernel
theorem dX3_startTask_94 : decode cX3_startTask 94 = .ok (.aload_n 0, 1) := by decide +kernel
theorem dX3_startTask_95 : decode cX3_startTask 95 = .ok (.getfield 21, 3) := by decide +kernel
theorem dX3_startTask_98 : decode cX3_startTask 98 = .ok (.getfield 109, 3) := by decide +kernel
theorem dX3_startTask_101 : decode cX3_startTask 101 = .ok (.iload_n 1, 1) := by decide +kernel
theorem dX3_startTask_102 : decode cX3_startTask 102 = .ok (.iaload, 1) := by decide +kernel
theorem dX3_startTask_103 : decode cX3_startTask 103 = .ok (.invokevirtual 125, 3) := by decide +kernel
theorem dX3_startTask_106 : decode cX3_startTask 106 = .ok (.istore 5, 2) := by decide +kernel
theorem dX3_startTask_108 : decode cX3_startTask 108 = .ok (.aload_n 0, 1) := by decide +kernel
theorem dX3_startTask_109 : decode cX3_startTask 109 = .ok (.getfield 12, 3) := by decide +kernel
theorem dX3_startTask_112 : decode cX3_startTask 112 = .ok (.getfield 82, 3) := by decide +kernel
theorem dX3_startTask_115 : decode cX3_startTask 115 = .ok (.iload 4, 2) := by decide +kernel
theorem dX3_startTask_117 : decode cX3_startTask 117 = .ok (.iconst 3, 1) := by decide +kernel
theorem dX3_startTask_118 : decode cX3_startTask 118 = .ok (.iastore, 1) := by decide +kernel
theorem dX3_startTask_119 : decode cX3_startTask 119 = .ok (.aload_n 0, 1) := by decide +kernel
theorem dX3_startTask_120 : decode cX3_startTask 120 = .ok (.getfield 12, 3) := by decide +kernel
theorem dX3_startTask_123 : decode cX3_startTask 123 = .ok (.getfield 129, 3) := by decide +kernel
theorem dX3_startTask_126 : decode cX3_startTask 126 = .ok (.iload 4, 2) := by decide +kernel
theorem dX3_startTask_128 : decode cX3_startTask 128 = .ok (.iload_n 1, 1) := by decide +kernel
theorem dX3_startTask_129 : decode cX3_startTask 129 = .ok (.iastore, 1) := by decide +kernel
theorem dX3_startTask_130 : decode cX3_startTask 130 = .ok (.aload_n 0, 1) := by decide +kernel
theorem dX3_startTask_131 : decode cX3_startTask 131 = .ok (.getfield 21, 3) := by decide +kernel
theorem dX3_startTask_134 : decode cX3_startTask 134 = .ok (.getfield 75, 3) := by decide +kernel
theorem dX3_startTask_137 : decode cX3_startTask 137 = .ok (.iload_n 1, 1) := by decide +kernel
theorem dX3_startTask_138 : decode cX3_startTask 138 = .ok (.iload 4, 2) := by decide +kernel
theorem dX3_startTask_140 : decode cX3_startTask 140 = .ok (.iastore, 1) := by decide +kernel
theorem dX3_startTask_141 : decode cX3_startTask 141 = .ok (.aload_n 0, 1) := by decide +kernel
theorem dX3_startTask_142 : decode cX3_startTask 142 = .ok (.getfield 21, 3) := by decide +kernel
theorem dX3_startTask_145 : decode cX3_startTask 145 = .ok (.getfield 79, 3) := by decide +kernel
theorem dX3_startTask_148 : decode cX3_startTask 148 = .ok (.iload_n 1, 1) := by decide +kernel
theorem dX3_startTask_149 : decode cX3_startTask 149 = .ok (.iload 5, 2) := by decide +kernel
theorem dX3_startTask_151 : decode cX3_startTask 151 = .ok (.iastore, 1) := by decide +kernel
theorem dX3_startTask_152 : decode cX3_startTask 152 = .ok (.iload_n 2, 1) := by decide +kernel
theorem dX3_startTask_153 : decode cX3_startTask 153 = .ok (.ifCond .eq 35, 3) := by decide +kernel
theorem dX3_startTask_156 : decode cX3_startTask 156 = .ok (.aload_n 0, 1) := by decide +kernel
theorem dX3_startTask_157 : decode cX3_startTask 157 = .ok (.getfield 21, 3) := by decide +kernel
theorem dX3_startTask_160 : decode cX3_startTask 160 = .ok (.getfield 79, 3) := by decide +kernel
theorem dX3_startTask_163 : decode cX3_startTask 163 = .ok (.iload_n 1, 1) := by decide +kernel
theorem dX3_startTask_164 : decode cX3_startTask 164 = .ok (.dup2, 1) := by decide +kernel
theorem dX3_startTask_165 : decode cX3_startTask 165 = .ok (.iaload, 1) := by decide +kernel
theorem dX3_startTask_166 : decode cX3_startTask 166 = .ok (.aload_n 0, 1) := by decide +kernel
theorem dX3_startTask_167 : decode cX3_startTask 167 = .ok (.getfield 21, 3) := by decide +kernel
theorem dX3_startTask_170 : decode cX3_startTask 170 = .ok (.getfield 132, 3) := by decide +kernel
theorem dX3_startTask_173 : decode cX3_startTask 173 = .ok (.iadd, 1) := by decide +kernel
theorem dX3_startTask_174 : decode cX3_startTask 174 = .ok (.iastore, 1) := by decide +kernel
theorem dX3_startTask_175 : decode cX3_startTask 175 = .ok (.aload_n 0, 1) := by decide +kernel
theorem dX3_startTask_176 : decode cX3_startTask 176 = .ok (.getfield 21, 3) := by decide +kernel
theorem dX3_startTask_179 : decode cX3_startTask 179 = .ok (.getfield 135, 3) := by decide +kernel
theorem dX3_startTask_182 : decode cX3_startTask 182 = .ok (.iload_n 1, 1) := by decide +kernel
theorem dX3_startTask_183 : decode cX3_startTask 183 = .ok (.dup2, 1) := by decide +kernel
theorem dX3_startTask_184 : decode cX3_startTask 184 = .ok (.iaload, 1) := by decide +kernel
theorem dX3_startTask_185 : decode cX3_startTask 185 = .ok (.iconst 1, 1) := by decide +kernel
theorem dX3_startTask_186 : decode cX3_startTask 186 = .ok (.iadd, 1) := by decide +kernel
theorem dX3_startTask_187 : decode cX3_startTask 187 = .ok (.iastore, 1) := by decide +kernel
theorem dX3_startTask_188 : decode cX3_startTask 188 = .ok (.return_, 1) := by decide +kernel
theorem dX4_init_0 : decode cX4_init 0 = .ok (.aload_n 0, 1) := by decide +kernel
theorem dX4_init_1 : decode cX4_init 1 = .ok (.invokespecial 3, 3) := by decide +kernel
theorem dX4_init_4 : decode cX4_init 4 = .ok (.aload_n 0, 1) := by decide +kernel
theorem dX4_init_5 : decode cX4_init 5 = .ok (.new 9, 3) := by decide +kernel
theorem dX4_init_8 : decode cX4_init 8 = .ok (.dup, 1) := by decide +kernel
theorem dX4_init_9 : decode cX4_init 9 = .ok (.invokespecial 11, 3) := by decide +kernel
theorem dX4_init_12 : decode cX4_init 12 = .ok (.putfield 12, 3) := by decide +kernel
theorem dX4_init_15 : decode cX4_init 15 = .ok (.aload_n 0, 1) := by decide +kernel
theorem dX4_init_16 : decode cX4_init 16 = .ok (.iconst 0, 1) := by decide +kernel
theorem dX4_init_17 : decode cX4_init 17 = .ok (.putfield 18, 3) := by decide +kernel
theorem dX4_init_20 : decode cX4_init 20 = .ok (.aload_n 0, 1) := by decide +kernel
theorem dX4_init_21 : decode cX4_init 21 = .ok (.iconst (-1), 1) := by decide +kernel
theorem dX4_init_22 : decode cX4_init 22 = .ok (.putfield 22, 3) := by decide +kernel
theorem dX4_init_25 : decode cX4_init 25 = .ok (.aload_n 0, 1) := by decide +kernel
theorem dX4_init_26 : decode cX4_init 26 = .ok (.sipush 900, 3) := by decide +kernel
theorem dX4_init_29 : decode cX4_init 29 = .ok (.newarray .int, 2) := by decide +kernel
theorem dX4_init_31 : decode cX4_init 31 = .ok (.putfield 25, 3) := by decide +kernel
theorem dX4_init_34 : decode cX4_init 34 = .ok (.aload_n 0, 1) := by decide +kernel
theorem dX4_init_35 : decode cX4_init 35 = .ok (.iconst 0, 1) := by decide +kernel
theorem dX4_init_36 : decode cX4_init 36 = .ok (.putfield 29, 3) := by decide +kernel
theorem dX4_init_39 : decode cX4_init 39 = .ok (.aload_n 0, 1) := by decide +kernel
theorem dX4_init_40 : decode cX4_init 40 = .ok (.iconst 0, 1) := by decide +kernel
theorem dX4_init_41 : decode cX4_init 41 = .ok (.putfield 32, 3) := by decide +kernel
theorem dX4_init_44 : decode cX4_init 44 = .ok (.return_, 1) := by decide +kernel
theorem dX4_readSetup_0 : decode cX4_readSetup 0 = .ok (.aload_n 0, 1) := by decide +kernel
theorem dX4_readSetup_1 : decode cX4_readSetup 1 = .ok (.iconst 0, 1) := by decide +kernel
theorem dX4_readSetup_2 : decode cX4_readSetup 2 = .ok (.putfield 32, 3) := by decide +kernel
theorem dX4_readSetup_5 : decode cX4_readSetup 5 = .ok (.aload_n 0, 1) := by decide +kernel
theorem dX4_readSetup_6 : decode cX4_readSetup 6 = .ok (.iconst 0, 1) := by decide +kernel
theorem dX4_readSetup_7 : decode cX4_readSetup 7 = .ok (.putfield 29, 3) := by decide +kernel
theorem dX4_readSetup_10 : decode cX4_readSetup 10 = .ok (.aload_n 0, 1) := by decide +kernel
theorem dX4_readSetup_11 : decode cX4_readSetup 11 = .ok (.iconst (-1), 1) := by decide +kernel
theorem dX4_readSetup_12 : decode cX4_readSetup 12 = .ok (.invokevirtual 38, 3) := by decide +kernel
theorem dX4_readSetup_15 : decode cX4_readSetup 15 = .ok (.aload_n 0, 1) := by decide +kernel
theorem dX4_readSetup_16 : decode cX4_readSetup 16 = .ok (.getfield 12, 3) := by decide +kernel
theorem dX4_readSetup_19 : decode cX4_readSetup 19 = .ok (.iload_n 1, 1) := by decide +kernel
theorem dX4_readSetup_20 : decode cX4_readSetup 20 = .ok (.invokevirtual 42, 3) := by decide +kernel
theorem dX4_readSetup_23 : decode cX4_readSetup 23 = .ok (.aload_n 0, 1) := by decide +kernel
theorem dX4_readSetup_24 : decode cX4_readSetup 24 = .ok (.aload_n 2, 1) := by decide +kernel
theorem dX4_readSetup_25 : decode cX4_readSetup 25 = .ok (.invokevirtual 45, 3) := by decide +kernel
theorem dX4_readSetup_28 : decode cX4_readSetup 28 = .ok (.ifCond .ne 5, 3) := by decide +kernel
theorem dX4_readSetup_31 : decode cX4_readSetup 31 = .ok (.iconst 0, 1) := by decide +kernel
theorem dX4_readSetup_32 : decode cX4_readSetup 32 = .ok (.ireturn, 1) := by decide +kernel
theorem dX4_readSetup_33 : decode cX4_readSetup 33 = .ok (.iconst 0, 1) := by decide +kernel
theorem dX4_readSetup_34 : decode cX4_readSetup 34 = .ok (.istore_n 3, 1) := by decide +kernel
theorem dX4_readSetup_35 : decode cX4_readSetup 35 = .ok (.iload_n 3, 1) := by decide +kernel
theorem dX4_readSetup_36 : decode cX4_readSetup 36 = .ok (.sipush 900, 3) := by decide +kernel
theorem dX4_readSetup_39 : decode cX4_readSetup 39 = .ok (.if_icmp .ge 38, 3) := by decide +kernel
theorem dX4_readSetup_42 : decode cX4_readSetup 42 = .ok (.aload_n 0, 1) := by decide +kernel
theorem dX4_readSetup_43 : decode cX4_readSetup 43 = .ok (.getfield 12, 3) := by decide +kernel
theorem dX4_readSetup_46 : decode cX4_readSetup 46 = .ok (.getfield 49, 3) := by decide +kernel
theorem dX4_readSetup_49 : decode cX4_readSetup 49 = .ok (.ifCond .eq 28, 3) := by decide +kernel
theorem dX4_readSetup_52 : decode cX4_readSetup 52 = .ok (.aload_n 0, 1) := by decide +kernel
theorem dX4_readSetup_53 : decode cX4_readSetup 53 = .ok (.aload_n 2, 1) := by decide +kernel
theorem dX4_readSetup_54 : decode cX4_readSetup 54 = .ok (.invokevirtual 52, 3) := by decide +kernel
theorem dX4_readSetup_57 : decode cX4_readSetup 57 = .ok (.ifCond .eq 12, 3) := by decide +kernel
theorem dX4_readSetup_60 : decode cX4_readSetup 60 = .ok (.aload_n 0, 1) := by decide +kernel
theorem dX4_readSetup_61 : decode cX4_readSetup 61 = .ok (.bipush 59, 2) := by decide +kernel
theorem dX4_readSetup_63 : decode cX4_readSetup 63 = .ok (.invokevirtual 55, 3) := by decide +kernel
theorem dX4_readSetup_66 : decode cX4_readSetup 66 = .ok (.ifCond .ne 5, 3) := by decide +kernel
theorem dX4_readSetup_69 : decode cX4_readSetup 69 = .ok (.iconst 0, 1) := by decide +kernel
theorem dX4_readSetup_70 : decode cX4_readSetup 70 = .ok (.ireturn, 1) := by decide +kernel
theorem dX4_readSetup_71 : decode cX4_readSetup 71 = .ok (.iinc 3 1, 3) := by decide +kernel
theorem dX4_readSetup_74 : decode cX4_readSetup 74 = .ok (.goto (-39), 3) := by decide +kernel
theorem dX4_readSetup_77 : decode cX4_readSetup 77 = .ok (.aload_n 2, 1) := by decide +kernel
theorem dX4_readSetup_78 : decode cX4_readSetup 78 = .ok (.new 36, 3) := by decide +kernel
theorem dX4_readSetup_81 : decode cX4_readSetup 81 = .ok (.dup, 1) := by decide +kernel
theorem dX4_readSetup_82 : decode cX4_readSetup 82 = .ok (.aload_n 0, 1) := by decide +kernel
theorem dX4_readSetup_83 : decode cX4_readSetup 83 = .ok (.getfield 25, 3) := by decide +kernel
theorem dX4_readSetup_86 : decode cX4_readSetup 86 = .ok (.aload_n 0, 1) := by decide +kernel
theorem dX4_readSetup_87 : decode cX4_readSetup 87 = .ok (.getfield 29, 3) := by decide +kernel
theorem dX4_readSetup_90 : decode cX4_readSetup 90 = .ok (.invokestatic 59, 3) := by decide +kernel
theorem dX4_readSetup_93 : decode cX4_readSetup 93 = .ok (.invokespecial 65, 3) := by decide +kernel
theorem dX4_readSetup_96 : decode cX4_readSetup 96 = .ok (.putfield 68, 3) := by decide +kernel
theorem dX4_readSetup_99 : decode cX4_readSetup 99 = .ok (.iconst 1, 1) := by decide +kernel
theorem dX4_readSetup_100 : decode cX4_readSetup 100 = .ok (.ireturn, 1) := by decide +kernel
theorem dX4_readQueue_0 : decode cX4_readQueue 0 = .ok (.aload_n 0, 1) := by decide +kernel
theorem dX4_readQueue_1 : decode cX4_readQueue 1 = .ok (.getfield 12, 3) := by decide +kernel
theorem dX4_readQueue_4 : decode cX4_readQueue 4 = .ok (.ldc 74, 2) := by decide +kernel
theorem dX4_readQueue_6 : decode cX4_readQueue 6 = .ok (.invokevirtual 76, 3) := by decide +kernel
theorem dX4_readQueue_9 : decode cX4_readQueue 9 = .ok (.ifCond .ne 10, 3) := by decide +kernel
theorem dX4_readQueue_12 : decode cX4_readQueue 12 = .ok (.aload_n 0, 1) := by decide +kernel
theorem dX4_readQueue_13 : decode cX4_readQueue 13 = .ok (.bipush (-2), 2) := by decide +kernel
theorem dX4_readQueue_15 : decode cX4_readQueue 15 = .ok (.invokevirtual 80, 3) := by decide +kernel
theorem dX4_readQueue_18 : decode cX4_readQueue 18 = .ok (.ireturn, 1) := by decide +kernel
theorem dX4_readQueue_19 : decode cX4_readQueue 19 = .ok (.aload_n 0, 1) := by decide +kernel
theorem dX4_readQueue_20 : decode cX4_readQueue 20 = .ok (.getfield 12, 3) := by decide +kernel
theorem dX4_readQueue_23 : decode cX4_readQueue 23 = .ok (.invokevirtual 84, 3) := by decide +kernel
theorem dX4_readQueue_26 : decode cX4_readQueue 26 = .ok (.aload_n 0, 1) := by decide +kernel
theorem dX4_readQueue_27 : decode cX4_readQueue 27 = .ok (.iconst 1, 1) := by decide +kernel
theorem dX4_readQueue_28 : decode cX4_readQueue 28 = .ok (.iconst 4, 1) := by decide +kernel
theorem dX4_readQueue_29 : decode cX4_readQueue 29 = .ok (.invokevirtual 87, 3) := by decide +kernel
theorem dX4_readQueue_32 : decode cX4_readQueue 32 = .ok (.istore_n 2, 1) := by decide +kernel
theorem dX4_readQueue_33 : decode cX4_readQueue 33 = .ok (.iload_n 2, 1) := by decide +kernel
theorem dX4_readQueue_34 : decode cX4_readQueue 34 = .ok (.ifCond .ge 7, 3) := by decide +kernel
theorem dX4_readQueue_37 : decode cX4_readQueue 37 = .ok (.iconst (-1), 1) := by decide +kernel
theorem dX4_readQueue_38 : decode cX4_readQueue 38 = .ok (.goto 10, 3) := by decide +kernel
theorem dX4_readQueue_41 : decode cX4_readQueue 41 = .ok (.aload_n 0, 1) := by decide +kernel
theorem dX4_readQueue_42 : decode cX4_readQueue 42 = .ok (.iconst 1, 1) := by decide +kernel
theorem dX4_readQueue_43 : decode cX4_readQueue 43 = .ok (.bipush 8, 2) := by decide +kernel
theorem dX4_readQueue_45 : decode cX4_readQueue 45 = .ok (.invokevirtual 87, 3) := by decide +kernel
theorem dX4_readQueue_48 : decode cX4_readQueue 48 = .ok (.istore_n 3, 1) := by decide +kernel
theorem dX4_readQueue_49 : decode cX4_readQueue 49 = .ok (.iload_n 3, 1) := by decide +kernel
theorem dX4_readQueue_50 : decode cX4_readQueue 50 = .ok (.ifCond .ge 7, 3) := by decide +kernel
theorem dX4_readQueue_53 : decode cX4_readQueue 53 = .ok (.iconst (-1), 1) := by decide +kernel
theorem dX4_readQueue_54 : decode cX4_readQueue 54 = .ok (.goto 10, 3) := by decide +kernel
theorem dX4_readQueue_57 : decode cX4_readQueue 57 = .ok (.aload_n 0, 1) := by decide +kernel
theorem dX4_readQueue_58 : decode cX4_readQueue 58 = .ok (.iconst 0, 1) := by decide +kernel
theorem dX4_readQueue_59 : decode cX4_readQueue 59 = .ok (.bipush 20, 2) := by decide +kernel
theorem dX4_readQueue_61 : decode cX4_readQueue 61 = .ok (.invokevirtual 87, 3) := by decide +kernel
theorem dX4_readQueue_64 : decode cX4_readQueue 64 = .ok (.istore 4, 2) := by decide +kernel
theorem dX4_readQueue_66 : decode cX4_readQueue 66 = .ok (.iload 4, 2) := by decide +kernel
theorem dX4_readQueue_68 : decode cX4_readQueue 68 = .ok (.ifCond .lt 12, 3) := by decide +kernel
theorem dX4_readQueue_71 : decode cX4_readQueue 71 = .ok (.aload_n 0, 1) := by decide +kernel
theorem dX4_readQueue_72 : decode cX4_readQueue 72 = .ok (.bipush 59, 2) := by decide +kernel
theorem dX4_readQueue_74 : decode cX4_readQueue 74 = .ok (.invokevirtual 55, 3) := by decide +kernel
theorem dX4_readQueue_77 : decode cX4_readQueue 77 = .ok (.ifCond .ne 5, 3) := by decide +kernel
theorem dX4_readQueue_80 : decode cX4_readQueue 80 = .ok (.iconst 0, 1) := by decide +kernel
theorem dX4_readQueue_81 : decode cX4_readQueue 81 = .ok (.ireturn, 1) := by decide +kernel
theorem dX4_readQueue_82 : decode cX4_readQueue 82 = .ok (.aload_n 1, 1) := by decide +kernel
theorem dX4_readQueue_83 : decode cX4_readQueue 83 = .ok (.getfield 91, 3) := by decide +kernel
theorem dX4_readQueue_86 : decode cX4_readQueue 86 = .ok (.iconst 0, 1) := by decide +kernel
theorem dX4_readQueue_87 : decode cX4_readQueue 87 = .ok (.putfield 95, 3) := by decide +kernel
theorem dX4_readQueue_90 : decode cX4_readQueue 90 = .ok (.aload_n 1, 1) := by decide +kernel
theorem dX4_readQueue_91 : decode cX4_readQueue 91 = .ok (.getfield 91, 3) := by decide +kernel
theorem dX4_readQueue_94 : decode cX4_readQueue 94 = .ok (.iconst 0, 1) := by decide +kernel
theorem dX4_readQueue_95 : decode cX4_readQueue 95 = .ok (.putfield 100, 3) := by decide +kernel
theorem dX4_readQueue_98 : decode cX4_readQueue 98 = .ok (.aload_n 1, 1) := by decide +kernel
theorem dX4_readQueue_99 : decode cX4_readQueue 99 = .ok (.iload_n 2, 1) := by decide +kernel
theorem dX4_readQueue_100 : decode cX4_readQueue 100 = .ok (.invokevirtual 103, 3) := by decide +kernel
theorem dX4_readQueue_103 : decode cX4_readQueue 103 = .ok (.aload_n 1, 1) := by decide +kernel
theorem dX4_readQueue_104 : decode cX4_readQueue 104 = .ok (.getfield 106, 3) := by decide +kernel
theorem dX4_readQueue_107 : decode cX4_readQueue 107 = .ok (.iload_n 3, 1) := by decide +kernel
theorem dX4_readQueue_108 : decode cX4_readQueue 108 = .ok (.putfield 110, 3) := by decide +kernel
theorem dX4_readQueue_111 : decode cX4_readQueue 111 = .ok (.aload_n 1, 1) := by decide +kernel
theorem dX4_readQueue_112 : decode cX4_readQueue 112 = .ok (.getfield 106, 3) := by decide +kernel
theorem dX4_readQueue_115 : decode cX4_readQueue 115 = .ok (.iload 4, 2) := by decide +kernel
theorem dX4_readQueue_117 : decode cX4_readQueue 117 = .ok (.putfield 115, 3) := by decide +kernel
theorem dX4_readQueue_120 : decode cX4_readQueue 120 = .ok (.iconst 1, 1) := by decide +kernel
theorem dX4_readQueue_121 : decode cX4_readQueue 121 = .ok (.ireturn, 1) := by decide +kernel
theorem dX4_readStatement_0 : decode cX4_readStatement 0 = .ok (.aload_n 0, 1) := by decide +kernel
theorem dX4_readStatement_1 : decode cX4_readStatement 1 = .ok (.getfield 12, 3) := by decide +kernel
theorem dX4_readStatement_4 : decode cX4_readStatement 4 = .ok (.ldc 118, 2) := by decide +kernel
theorem dX4_readStatement_6 : decode cX4_readStatement 6 = .ok (.invokevirtual 76, 3) := by decide +kernel
theorem dX4_readStatement_9 : decode cX4_readStatement 9 = .ok (.ifCond .eq 19, 3) := by decide +kernel
theorem dX4_readStatement_12 : decode cX4_readStatement 12 = .ok (.aload_n 0, 1) := by decide +kernel
theorem dX4_readStatement_13 : decode cX4_readStatement 13 = .ok (.aload_n 1, 1) := by decide +kernel
theorem dX4_readStatement_14 : decode cX4_readStatement 14 = .ok (.getfield 91, 3) := by decide +kernel
theorem dX4_readStatement_17 : decode cX4_readStatement 17 = .ok (.aload_n 1, 1) := by decide +kernel
theorem dX4_readStatement_18 : decode cX4_readStatement 18 = .ok (.getfield 106, 3) := by decide +kernel
theorem dX4_readStatement_21 : decode cX4_readStatement 21 = .ok (.getfield 120, 3) := by decide +kernel
theorem dX4_readStatement_24 : decode cX4_readStatement 24 = .ok (.invokevirtual 121, 3) := by decide +kernel
theorem dX4_readStatement_27 : decode cX4_readStatement 27 = .ok (.ireturn, 1) := by decide +kernel
theorem dX4_readStatement_28 : decode cX4_readStatement 28 = .ok (.aload_n 0, 1) := by decide +kernel
theorem dX4_readStatement_29 : decode cX4_readStatement 29 = .ok (.getfield 12, 3) := by decide +kernel
theorem dX4_readStatement_32 : decode cX4_readStatement 32 = .ok (.ldc 125, 2) := by decide +kernel
theorem dX4_readStatement_34 : decode cX4_readStatement 34 = .ok (.invokevirtual 76, 3) := by decide +kernel
theorem dX4_readStatement_37 : decode cX4_readStatement 37 = .ok (.ifCond .eq 38, 3) := by decide +kernel
theorem dX4_readStatement_40 : decode cX4_readStatement 40 = .ok (.aload_n 1, 1) := by decide +kernel
theorem dX4_readStatement_41 : decode cX4_readStatement 41 = .ok (.getfield 91, 3) := by decide +kernel
theorem dX4_readStatement_44 : decode cX4_readStatement 44 = .ok (.getfield 100, 3) := by decide +kernel
theorem dX4_readStatement_47 : decode cX4_readStatement 47 = .ok (.bipush 8, 2) := by decide +kernel
theorem dX4_readStatement_49 : decode cX4_readStatement 49 = .ok (.if_icmp .lt 10, 3) := by decide +kernel
theorem dX4_readStatement_52 : decode cX4_readStatement 52 = .ok (.aload_n 0, 1) := by decide +kernel
theorem dX4_readStatement_53 : decode cX4_readStatement 53 = .ok (.bipush (-4), 2) := by decide +kernel
theorem dX4_readStatement_55 : decode cX4_readStatement 55 = .ok (.invokevirtual 80, 3) := by decide +kernel
theorem dX4_readStatement_58 : decode cX4_readStatement 58 = .ok (.ireturn, 1) := by decide +kernel
theorem dX4_readStatement_59 : decode cX4_readStatement 59 = .ok (.aload_n 0, 1) := by decide +kernel
theorem dX4_readStatement_60 : decode cX4_readStatement 60 = .ok (.getfield 12, 3) := by decide +kernel
theorem dX4_readStatement_63 : decode cX4_readStatement 63 = .ok (.invokevirtual 84, 3) := by decide +kernel
theorem dX4_readStatement_66 : decode cX4_readStatement 66 = .ok (.aload_n 1, 1) := by decide +kernel
theorem dX4_readStatement_67 : decode cX4_readStatement 67 = .ok (.getfield 91, 3) := by decide +kernel
theorem dX4_readStatement_70 : decode cX4_readStatement 70 = .ok (.invokevirtual 127, 3) := by decide +kernel
theorem dX4_readStatement_73 : decode cX4_readStatement 73 = .ok (.iconst 1, 1) := by decide +kernel
theorem dX4_readStatement_74 : decode cX4_readStatement 74 = .ok (.ireturn, 1) := by decide +kernel
theorem dX4_readStatement_75 : decode cX4_readStatement 75 = .ok (.aload_n 0, 1) := by decide +kernel
theorem dX4_readStatement_76 : decode cX4_readStatement 76 = .ok (.getfield 12, 3) := by decide +kernel
theorem dX4_readStatement_79 : decode cX4_readStatement 79 = .ok (.ldc 130, 2) := by decide +kernel
theorem dX4_readStatement_81 : decode cX4_readStatement 81 = .ok (.invokevirtual 76, 3) := by decide +kernel
theorem dX4_readStatement_84 : decode cX4_readStatement 84 = .ok (.ifCond .eq 10, 3) := by decide +kernel
theorem dX4_readStatement_87 : decode cX4_readStatement 87 = .ok (.aload_n 0, 1) := by decide +kernel
theorem dX4_readStatement_88 : decode cX4_readStatement 88 = .ok (.getfield 32, 3) := by decide +kernel
theorem dX4_readStatement_91 : decode cX4_readStatement 91 = .ok (.ifCond .eq 10, 3) := by decide +kernel
theorem dX4_readStatement_94 : decode cX4_readStatement 94 = .ok (.aload_n 0, 1) := by decide +kernel
theorem dX4_readStatement_95 : decode cX4_readStatement 95 = .ok (.bipush (-2), 2) := by decide +kernel
theorem dX4_readStatement_97 : decode cX4_readStatement 97 = .ok (.invokevirtual 80, 3) := by decide +kernel
theorem dX4_readStatement_100 : decode cX4_readStatement 100 = .ok (.ireturn, 1) := by decide +kernel
theorem dX4_readStatement_101 : decode cX4_readStatement 101 = .ok (.aload_n 0, 1) := by decide +kernel
theorem dX4_readStatement_102 : decode cX4_readStatement 102 = .ok (.getfield 12, 3) := by decide +kernel
theorem dX4_readStatement_105 : decode cX4_readStatement 105 = .ok (.invokevirtual 84, 3) := by decide +kernel
theorem dX4_readStatement_108 : decode cX4_readStatement 108 = .ok (.aload_n 0, 1) := by decide +kernel
theorem dX4_readStatement_109 : decode cX4_readStatement 109 = .ok (.iconst 1, 1) := by decide +kernel
theorem dX4_readStatement_110 : decode cX4_readStatement 110 = .ok (.putfield 32, 3) := by decide +kernel
theorem dX4_readStatement_113 : decode cX4_readStatement 113 = .ok (.aload_n 0, 1) := by decide +kernel
theorem dX4_readStatement_114 : decode cX4_readStatement 114 = .ok (.iconst 0, 1) := by decide +kernel
theorem dX4_readStatement_115 : decode cX4_readStatement 115 = .ok (.putfield 29, 3) := by decide +kernel
theorem dX4_readStatement_118 : decode cX4_readStatement 118 = .ok (.aload_n 0, 1) := by decide +kernel
theorem dX4_readStatement_119 : decode cX4_readStatement 119 = .ok (.iconst 0, 1) := by decide +kernel
theorem dX4_readStatement_120 : decode cX4_readStatement 120 = .ok (.invokevirtual 132, 3) := by decide +kernel
theorem dX4_readStatement_123 : decode cX4_readStatement 123 = .ok (.ireturn, 1) := by decide +kernel
theorem dX4_readTask_0 : decode cX4_readTask 0 = .ok (.aload_n 1, 1) := by decide +kernel
theorem dX4_readTask_1 : decode cX4_readTask 1 = .ok (.getfield 95, 3) := by decide +kernel
theorem dX4_readTask_4 : decode cX4_readTask 4 = .ok (.bipush 32, 2) := by decide +kernel
theorem dX4_readTask_6 : decode cX4_readTask 6 = .ok (.if_icmp .lt 10, 3) := by decide +kernel
theorem dX4_readTask_9 : decode cX4_readTask 9 = .ok (.aload_n 0, 1) := by decide +kernel
theorem dX4_readTask_10 : decode cX4_readTask 10 = .ok (.bipush (-4), 2) := by decide +kernel
theorem dX4_readTask_12 : decode cX4_readTask 12 = .ok (.invokevirtual 80, 3) := by decide +kernel
theorem dX4_readTask_15 : decode cX4_readTask 15 = .ok (.ireturn, 1) := by decide +kernel
theorem dX4_readTask_16 : decode cX4_readTask 16 = .ok (.aload_n 0, 1) := by decide +kernel
theorem dX4_readTask_17 : decode cX4_readTask 17 = .ok (.getfield 12, 3) := by decide +kernel
theorem dX4_readTask_20 : decode cX4_readTask 20 = .ok (.invokevirtual 84, 3) := by decide +kernel
theorem dX4_readTask_23 : decode cX4_readTask 23 = .ok (.aload_n 0, 1) := by decide +kernel
theorem dX4_readTask_24 : decode cX4_readTask 24 = .ok (.iconst 1, 1) := by decide +kernel
theorem dX4_readTask_25 : decode cX4_readTask 25 = .ok (.bipush 99, 2) := by decide +kernel
theorem dX4_readTask_27 : decode cX4_readTask 27 = .ok (.invokevirtual 87, 3) := by decide +kernel
theorem dX4_readTask_30 : decode cX4_readTask 30 = .ok (.istore_n 3, 1) := by decide +kernel
theorem dX4_readTask_31 : decode cX4_readTask 31 = .ok (.iload_n 3, 1) := by decide +kernel
theorem dX4_readTask_32 : decode cX4_readTask 32 = .ok (.ifCond .ge 7, 3) := by decide +kernel
theorem dX4_readTask_35 : decode cX4_readTask 35 = .ok (.iconst (-1), 1) := by decide +kernel
theorem dX4_readTask_36 : decode cX4_readTask 36 = .ok (.goto 10, 3) := by decide +kernel
theorem dX4_readTask_39 : decode cX4_readTask 39 = .ok (.aload_n 0, 1) := by decide +kernel
theorem dX4_readTask_40 : decode cX4_readTask 40 = .ok (.iconst 0, 1) := by decide +kernel
theorem dX4_readTask_41 : decode cX4_readTask 41 = .ok (.bipush 9, 2) := by decide +kernel
theorem dX4_readTask_43 : decode cX4_readTask 43 = .ok (.invokevirtual 87, 3) := by decide +kernel
theorem dX4_readTask_46 : decode cX4_readTask 46 = .ok (.istore 4, 2) := by decide +kernel
theorem dX4_readTask_48 : decode cX4_readTask 48 = .ok (.iload 4, 2) := by decide +kernel
theorem dX4_readTask_50 : decode cX4_readTask 50 = .ok (.ifCond .ge 5, 3) := by decide +kernel
theorem dX4_readTask_53 : decode cX4_readTask 53 = .ok (.iconst 0, 1) := by decide +kernel
theorem dX4_readTask_54 : decode cX4_readTask 54 = .ok (.ireturn, 1) := by decide +kernel
theorem dX4_readTask_55 : decode cX4_readTask 55 = .ok (.iload_n 2, 1) := by decide +kernel
theorem dX4_readTask_56 : decode cX4_readTask 56 = .ok (.ifCond .le 12, 3) := by decide +kernel
theorem dX4_readTask_59 : decode cX4_readTask 59 = .ok (.aload_n 1, 1) := by decide +kernel
theorem dX4_readTask_60 : decode cX4_readTask 60 = .ok (.getfield 95, 3) := by decide +kernel
theorem dX4_readTask_63 : decode cX4_readTask 63 = .ok (.iload_n 2, 1) := by decide +kernel
theorem dX4_readTask_64 : decode cX4_readTask 64 = .ok (.irem, 1) := by decide +kernel
theorem dX4_readTask_65 : decode cX4_readTask 65 = .ok (.goto 4, 3) := by decide +kernel
theorem dX4_readTask_68 : decode cX4_readTask 68 = .ok (.iconst 0, 1) := by decide +kernel
theorem dX4_readTask_69 : decode cX4_readTask 69 = .ok (.istore 5, 2) := by decide +kernel
theorem dX4_readTask_71 : decode cX4_readTask 71 = .ok (.aload_n 0, 1) := by decide +kernel
theorem dX4_readTask_72 : decode cX4_readTask 72 = .ok (.getfield 12, 3) := by decide +kernel
theorem dX4_readTask_75 : decode cX4_readTask 75 = .ok (.ldc 135, 2) := by decide +kernel
theorem dX4_readTask_77 : decode cX4_readTask 77 = .ok (.invokevirtual 76, 3) := by decide +kernel
theorem dX4_readTask_80 : decode cX4_readTask 80 = .ok (.ifCond .eq 20, 3) := by decide +kernel
theorem dX4_readTask_83 : decode cX4_readTask 83 = .ok (.aload_n 0, 1) := by decide +kernel
theorem dX4_readTask_84 : decode cX4_readTask 84 = .ok (.getfield 12, 3) := by decide +kernel
theorem dX4_readTask_87 : decode cX4_readTask 87 = .ok (.invokevirtual 84, 3) := by decide +kernel
theorem dX4_readTask_90 : decode cX4_readTask 90 = .ok (.aload_n 0, 1) := by decide +kernel
theorem dX4_readTask_91 : decode cX4_readTask 91 = .ok (.iconst 0, 1) := by decide +kernel
theorem dX4_readTask_92 : decode cX4_readTask 92 = .ok (.iload_n 2, 1) := by decide +kernel
theorem dX4_readTask_93 : decode cX4_readTask 93 = .ok (.iconst 1, 1) := by decide +kernel
theorem dX4_readTask_94 : decode cX4_readTask 94 = .ok (.isub, 1) := by decide +kernel
theorem dX4_readTask_95 : decode cX4_readTask 95 = .ok (.invokevirtual 87, 3) := by decide +kernel
theorem dX4_readTask_98 : decode cX4_readTask 98 = .ok (.istore 5, 2) := by decide +kernel
theorem dX4_readTask_100 : decode cX4_readTask 100 = .ok (.iconst 0, 1) := by decide +kernel
theorem dX4_readTask_101 : decode cX4_readTask 101 = .ok (.istore 6, 2) := by decide +kernel
theorem dX4_readTask_103 : decode cX4_readTask 103 = .ok (.iload 5, 2) := by decide +kernel
theorem dX4_readTask_105 : decode cX4_readTask 105 = .ok (.ifCond .lt 32, 3) := by decide +kernel
theorem dX4_readTask_108 : decode cX4_readTask 108 = .ok (.aload_n 0, 1) := by decide +kernel
theorem dX4_readTask_109 : decode cX4_readTask 109 = .ok (.getfield 12, 3) := by decide +kernel
theorem dX4_readTask_112 : decode cX4_readTask 112 = .ok (.ldc 137, 2) := by decide +kernel
theorem dX4_readTask_114 : decode cX4_readTask 114 = .ok (.invokevirtual 76, 3) := by decide +kernel
theorem dX4_readTask_117 : decode cX4_readTask 117 = .ok (.ifCond .eq 20, 3) := by decide +kernel
theorem dX4_readTask_120 : decode cX4_readTask 120 = .ok (.aload_n 0, 1) := by decide +kernel
theorem dX4_readTask_121 : decode cX4_readTask 121 = .ok (.getfield 12, 3) := by decide +kernel
theorem dX4_readTask_124 : decode cX4_readTask 124 = .ok (.invokevirtual 84, 3) := by decide +kernel
theorem dX4_readTask_127 : decode cX4_readTask 127 = .ok (.aload_n 0, 1) := by decide +kernel
theorem dX4_readTask_128 : decode cX4_readTask 128 = .ok (.aload_n 1, 1) := by decide +kernel
theorem dX4_readTask_129 : decode cX4_readTask 129 = .ok (.getfield 95, 3) := by decide +kernel
theorem dX4_readTask_132 : decode cX4_readTask 132 = .ok (.invokevirtual 139, 3) := by decide +kernel
theorem dX4_readTask_135 : decode cX4_readTask 135 = .ok (.istore 6, 2) := by decide +kernel
theorem dX4_readTask_137 : decode cX4_readTask 137 = .ok (.iload 5, 2) := by decide +kernel
theorem dX4_readTask_139 : decode cX4_readTask 139 = .ok (.ifCond .lt 8, 3) := by decide +kernel
theorem dX4_readTask_142 : decode cX4_readTask 142 = .ok (.iload 6, 2) := by decide +kernel
theorem dX4_readTask_144 : decode cX4_readTask 144 = .ok (.ifCond .ge 5, 3) := by decide +kernel
theorem dX4_readTask_147 : decode cX4_readTask 147 = .ok (.iconst 0, 1) := by decide +kernel
theorem dX4_readTask_148 : decode cX4_readTask 148 = .ok (.ireturn, 1) := by decide +kernel
theorem dX4_readTask_149 : decode cX4_readTask 149 = .ok (.aload_n 1, 1) := by decide +kernel
theorem dX4_readTask_150 : decode cX4_readTask 150 = .ok (.iload_n 3, 1) := by decide +kernel
theorem dX4_readTask_151 : decode cX4_readTask 151 = .ok (.iload 4, 2) := by decide +kernel
theorem dX4_readTask_153 : decode cX4_readTask 153 = .ok (.iload 5, 2) := by decide +kernel
theorem dX4_readTask_155 : decode cX4_readTask 155 = .ok (.iload 6, 2) := by decide +kernel
theorem dX4_readTask_157 : decode cX4_readTask 157 = .ok (.invokevirtual 143, 3) := by decide +kernel
theorem dX4_readTask_160 : decode cX4_readTask 160 = .ok (.iconst 1, 1) := by decide +kernel
theorem dX4_readTask_161 : decode cX4_readTask 161 = .ok (.ireturn, 1) := by decide +kernel
theorem dX4_takePredecessors_0 : decode cX4_takePredecessors 0 = .ok (.iconst 0, 1) := by decide +kernel
theorem dX4_takePredecessors_1 : decode cX4_takePredecessors 1 = .ok (.istore_n 2, 1) := by decide +kernel
theorem dX4_takePredecessors_2 : decode cX4_takePredecessors 2 = .ok (.iconst 0, 1) := by decide +kernel
theorem dX4_takePredecessors_3 : decode cX4_takePredecessors 3 = .ok (.istore_n 3, 1) := by decide +kernel
theorem dX4_takePredecessors_4 : decode cX4_takePredecessors 4 = .ok (.iload_n 3, 1) := by decide +kernel
theorem dX4_takePredecessors_5 : decode cX4_takePredecessors 5 = .ok (.ifCond .eq 20, 3) := by decide +kernel
theorem dX4_takePredecessors_8 : decode cX4_takePredecessors 8 = .ok (.iload_n 3, 1) := by decide +kernel
theorem dX4_takePredecessors_9 : decode cX4_takePredecessors 9 = .ok (.bipush 32, 2) := by decide +kernel
theorem dX4_takePredecessors_11 : decode cX4_takePredecessors 11 = .ok (.if_icmp .ge 78, 3) := by decide +kernel
theorem dX4_takePredecessors_14 : decode cX4_takePredecessors 14 = .ok (.aload_n 0, 1) := by decide +kernel
theorem dX4_takePredecessors_15 : decode cX4_takePredecessors 15 = .ok (.getfield 12, 3) := by decide +kernel
theorem dX4_takePredecessors_18 : decode cX4_takePredecessors 18 = .ok (.getfield 49, 3) := by decide +kernel
theorem dX4_takePredecessors_21 : decode cX4_takePredecessors 21 = .ok (.iconst 1, 1) := by decide +kernel
theorem dX4_takePredecessors_22 : decode cX4_takePredecessors 22 = .ok (.if_icmp .ne 67, 3) := by decide +kernel
theorem dX4_takePredecessors_25 : decode cX4_takePredecessors 25 = .ok (.aload_n 0, 1) := by decide +kernel
theorem dX4_takePredecessors_26 : decode cX4_takePredecessors 26 = .ok (.getfield 12, 3) := by decide +kernel
theorem dX4_takePredecessors_29 : decode cX4_takePredecessors 29 = .ok (.getfield 49, 3) := by decide +kernel
theorem dX4_takePredecessors_32 : decode cX4_takePredecessors 32 = .ok (.iconst 1, 1) := by decide +kernel
theorem dX4_takePredecessors_33 : decode cX4_takePredecessors 33 = .ok (.if_icmp .ne 26, 3) := by decide +kernel
theorem dX4_takePredecessors_36 : decode cX4_takePredecessors 36 = .ok (.iload_n 2, 1) := by decide +kernel
theorem dX4_takePredecessors_37 : decode cX4_takePredecessors 37 = .ok (.aload_n 0, 1) := by decide +kernel
theorem dX4_takePredecessors_38 : decode cX4_takePredecessors 38 = .ok (.getfield 12, 3) := by decide +kernel
theorem dX4_takePredecessors_41 : decode cX4_takePredecessors 41 = .ok (.getfield 147, 3) := by decide +kernel
theorem dX4_takePredecessors_44 : decode cX4_takePredecessors 44 = .ok (.invokestatic 150, 3) := by decide +kernel
theorem dX4_takePredecessors_47 : decode cX4_takePredecessors 47 = .ok (.ifCond .eq 12, 3) := by decide +kernel
theorem dX4_takePredecessors_50 : decode cX4_takePredecessors 50 = .ok (.aload_n 0, 1) := by decide +kernel
theorem dX4_takePredecessors_51 : decode cX4_takePredecessors 51 = .ok (.bipush (-3), 2) := by decide +kernel
theorem dX4_takePredecessors_53 : decode cX4_takePredecessors 53 = .ok (.invokevirtual 80, 3) := by decide +kernel
theorem dX4_takePredecessors_56 : decode cX4_takePredecessors 56 = .ok (.pop, 1) := by decide +kernel
theorem dX4_takePredecessors_57 : decode cX4_takePredecessors 57 = .ok (.iconst (-1), 1) := by decide +kernel
theorem dX4_takePredecessors_58 : decode cX4_takePredecessors 58 = .ok (.ireturn, 1) := by decide +kernel
theorem dX4_takePredecessors_59 : decode cX4_takePredecessors 59 = .ok (.aload_n 0, 1) := by decide +kernel
theorem dX4_takePredecessors_60 : decode cX4_takePredecessors 60 = .ok (.iconst 0, 1) := by decide +kernel
theorem dX4_takePredecessors_61 : decode cX4_takePredecessors 61 = .ok (.iload_n 1, 1) := by decide +kernel
theorem dX4_takePredecessors_62 : decode cX4_takePredecessors 62 = .ok (.iconst 1, 1) := by decide +kernel
theorem dX4_takePredecessors_63 : decode cX4_takePredecessors 63 = .ok (.isub, 1) := by decide +kernel
theorem dX4_takePredecessors_64 : decode cX4_takePredecessors 64 = .ok (.invokevirtual 87, 3) := by decide +kernel
theorem dX4_takePredecessors_67 : decode cX4_takePredecessors 67 = .ok (.istore 4, 2) := by decide +kernel
theorem dX4_takePredecessors_69 : decode cX4_takePredecessors 69 = .ok (.iload 4, 2) := by decide +kernel
theorem dX4_takePredecessors_71 : decode cX4_takePredecessors 71 = .ok (.ifCond .ge 5, 3) := by decide +kernel
theorem dX4_takePredecessors_74 : decode cX4_takePredecessors 74 = .ok (.iconst (-1), 1) := by decide +kernel
theorem dX4_takePredecessors_75 : decode cX4_takePredecessors 75 = .ok (.ireturn, 1) := by decide +kernel
theorem dX4_takePredecessors_76 : decode cX4_takePredecessors 76 = .ok (.iload_n 2, 1) := by decide +kernel
theorem dX4_takePredecessors_77 : decode cX4_takePredecessors 77 = .ok (.iconst 1, 1) := by decide +kernel
theorem dX4_takePredecessors_78 : decode cX4_takePredecessors 78 = .ok (.iload 4, 2) := by decide +kernel
theorem dX4_takePredecessors_80 : decode cX4_takePredecessors 80 = .ok (.ishl, 1) := by decide +kernel
theorem dX4_takePredecessors_81 : decode cX4_takePredecessors 81 = .ok (.ior, 1) := by decide +kernel
theorem dX4_takePredecessors_82 : decode cX4_takePredecessors 82 = .ok (.istore_n 2, 1) := by decide +kernel
theorem dX4_takePredecessors_83 : decode cX4_takePredecessors 83 = .ok (.iinc 3 1, 3) := by decide +kernel
theorem dX4_takePredecessors_86 : decode cX4_takePredecessors 86 = .ok (.goto (-82), 3) := by decide +kernel
theorem dX4_takePredecessors_89 : decode cX4_takePredecessors 89 = .ok (.iload_n 2, 1) := by decide +kernel
theorem dX4_takePredecessors_90 : decode cX4_takePredecessors 90 = .ok (.ireturn, 1) := by decide +kernel
theorem dX4_readSum_0 : decode cX4_readSum 0 = .ok (.aload_n 0, 1) := by decide +kernel
theorem dX4_readSum_1 : decode cX4_readSum 1 = .ok (.iload_n 1, 1) := by decide +kernel
theorem dX4_readSum_2 : decode cX4_readSum 2 = .ok (.invokevirtual 154, 3) := by decide +kernel
theorem dX4_readSum_5 : decode cX4_readSum 5 = .ok (.istore_n 2, 1) := by decide +kernel
theorem dX4_readSum_6 : decode cX4_readSum 6 = .ok (.iconst 0, 1) := by decide +kernel
theorem dX4_readSum_7 : decode cX4_readSum 7 = .ok (.istore_n 3, 1) := by decide +kernel
theorem dX4_readSum_8 : decode cX4_readSum 8 = .ok (.iload_n 3, 1) := by decide +kernel
theorem dX4_readSum_9 : decode cX4_readSum 9 = .ok (.sipush 900, 3) := by decide +kernel
theorem dX4_readSum_12 : decode cX4_readSum 12 = .ok (.if_icmp .ge 72, 3) := by decide +kernel
theorem dX4_readSum_15 : decode cX4_readSum 15 = .ok (.iload_n 2, 1) := by decide +kernel
theorem dX4_readSum_16 : decode cX4_readSum 16 = .ok (.ifCond .eq 68, 3) := by decide +kernel
theorem dX4_readSum_19 : decode cX4_readSum 19 = .ok (.aload_n 0, 1) := by decide +kernel
theorem dX4_readSum_20 : decode cX4_readSum 20 = .ok (.getfield 12, 3) := by decide +kernel
theorem dX4_readSum_23 : decode cX4_readSum 23 = .ok (.bipush 43, 2) := by decide +kernel
theorem dX4_readSum_25 : decode cX4_readSum 25 = .ok (.invokevirtual 157, 3) := by decide +kernel
theorem dX4_readSum_28 : decode cX4_readSum 28 = .ok (.istore 4, 2) := by decide +kernel
theorem dX4_readSum_30 : decode cX4_readSum 30 = .ok (.iload 4, 2) := by decide +kernel
theorem dX4_readSum_32 : decode cX4_readSum 32 = .ok (.ifCond .ne 17, 3) := by decide +kernel
theorem dX4_readSum_35 : decode cX4_readSum 35 = .ok (.aload_n 0, 1) := by decide +kernel
theorem dX4_readSum_36 : decode cX4_readSum 36 = .ok (.getfield 12, 3) := by decide +kernel
theorem dX4_readSum_39 : decode cX4_readSum 39 = .ok (.bipush 45, 2) := by decide +kernel
theorem dX4_readSum_41 : decode cX4_readSum 41 = .ok (.invokevirtual 157, 3) := by decide +kernel
theorem dX4_readSum_44 : decode cX4_readSum 44 = .ok (.ifCond .ne 5, 3) := by decide +kernel
theorem dX4_readSum_47 : decode cX4_readSum 47 = .ok (.iconst 1, 1) := by decide +kernel
theorem dX4_readSum_48 : decode cX4_readSum 48 = .ok (.ireturn, 1) := by decide +kernel
theorem dX4_readSum_49 : decode cX4_readSum 49 = .ok (.aload_n 0, 1) := by decide +kernel
theorem dX4_readSum_50 : decode cX4_readSum 50 = .ok (.getfield 12, 3) := by decide +kernel
theorem dX4_readSum_53 : decode cX4_readSum 53 = .ok (.invokevirtual 84, 3) := by decide +kernel
theorem dX4_readSum_56 : decode cX4_readSum 56 = .ok (.aload_n 0, 1) := by decide +kernel
theorem dX4_readSum_57 : decode cX4_readSum 57 = .ok (.iload_n 1, 1) := by decide +kernel
theorem dX4_readSum_58 : decode cX4_readSum 58 = .ok (.invokevirtual 154, 3) := by decide +kernel
theorem dX4_readSum_61 : decode cX4_readSum 61 = .ok (.istore_n 2, 1) := by decide +kernel
theorem dX4_readSum_62 : decode cX4_readSum 62 = .ok (.aload_n 0, 1) := by decide +kernel
theorem dX4_readSum_63 : decode cX4_readSum 63 = .ok (.iload 4, 2) := by decide +kernel
theorem dX4_readSum_65 : decode cX4_readSum 65 = .ok (.ifCond .eq 8, 3) := by decide +kernel
theorem dX4_readSum_68 : decode cX4_readSum 68 = .ok (.bipush (-5), 2) := by decide +kernel
theorem dX4_readSum_70 : decode cX4_readSum 70 = .ok (.goto 5, 3) := by decide +kernel
theorem dX4_readSum_73 : decode cX4_readSum 73 = .ok (.bipush (-6), 2) := by decide +kernel
theorem dX4_readSum_75 : decode cX4_readSum 75 = .ok (.invokevirtual 38, 3) := by decide +kernel
theorem dX4_readSum_78 : decode cX4_readSum 78 = .ok (.iinc 3 1, 3) := by decide +kernel
theorem dX4_readSum_81 : decode cX4_readSum 81 = .ok (.goto (-73), 3) := by decide +kernel
theorem dX4_readSum_84 : decode cX4_readSum 84 = .ok (.iload_n 2, 1) := by decide +kernel
theorem dX4_readSum_85 : decode cX4_readSum 85 = .ok (.ireturn, 1) := by decide +kernel
theorem dX4_readTerm_0 : decode cX4_readTerm 0 = .ok (.aload_n 0, 1) := by decide +kernel
theorem dX4_readTerm_1 : decode cX4_readTerm 1 = .ok (.iload_n 1, 1) := by decide +kernel
theorem dX4_readTerm_2 : decode cX4_readTerm 2 = .ok (.invokevirtual 160, 3) := by decide +kernel
theorem dX4_readTerm_5 : decode cX4_readTerm 5 = .ok (.istore_n 2, 1) := by decide +kernel
theorem dX4_readTerm_6 : decode cX4_readTerm 6 = .ok (.iconst 0, 1) := by decide +kernel
theorem dX4_readTerm_7 : decode cX4_readTerm 7 = .ok (.istore_n 3, 1) := by decide +kernel
theorem dX4_readTerm_8 : decode cX4_readTerm 8 = .ok (.iload_n 3, 1) := by decide +kernel
theorem dX4_readTerm_9 : decode cX4_readTerm 9 = .ok (.sipush 900, 3) := by decide +kernel
theorem dX4_readTerm_12 : decode cX4_readTerm 12 = .ok (.if_icmp .ge 72, 3) := by decide +kernel
theorem dX4_readTerm_15 : decode cX4_readTerm 15 = .ok (.iload_n 2, 1) := by decide +kernel
theorem dX4_readTerm_16 : decode cX4_readTerm 16 = .ok (.ifCond .eq 68, 3) := by decide +kernel
theorem dX4_readTerm_19 : decode cX4_readTerm 19 = .ok (.aload_n 0, 1) := by decide +kernel
theorem dX4_readTerm_20 : decode cX4_readTerm 20 = .ok (.getfield 12, 3) := by decide +kernel
theorem dX4_readTerm_23 : decode cX4_readTerm 23 = .ok (.bipush 42, 2) := by decide +kernel
theorem dX4_readTerm_25 : decode cX4_readTerm 25 = .ok (.invokevirtual 157, 3) := by decide +kernel
theorem dX4_readTerm_28 : decode cX4_readTerm 28 = .ok (.istore 4, 2) := by decide +kernel
theorem dX4_readTerm_30 : decode cX4_readTerm 30 = .ok (.iload 4, 2) := by decide +kernel
theorem dX4_readTerm_32 : decode cX4_readTerm 32 = .ok (.ifCond .ne 17, 3) := by decide +kernel
theorem dX4_readTerm_35 : decode cX4_readTerm 35 = .ok (.aload_n 0, 1) := by decide +kernel
theorem dX4_readTerm_36 : decode cX4_readTerm 36 = .ok (.getfield 12, 3) := by decide +kernel
theorem dX4_readTerm_39 : decode cX4_readTerm 39 = .ok (.bipush 47, 2) := by decide +kernel
theorem dX4_readTerm_41 : decode cX4_readTerm 41 = .ok (.invokevirtual 157, 3) := by decide +kernel
theorem dX4_readTerm_44 : decode cX4_readTerm 44 = .ok (.ifCond .ne 5, 3) := by decide +kernel
theorem dX4_readTerm_47 : decode cX4_readTerm 47 = .ok (.iconst 1, 1) := by decide +kernel
theorem dX4_readTerm_48 : decode cX4_readTerm 48 = .ok (.ireturn, 1) := by decide +kernel
theorem dX4_readTerm_49 : decode cX4_readTerm 49 = .ok (.aload_n 0, 1) := by decide +kernel
theorem dX4_readTerm_50 : decode cX4_readTerm 50 = .ok (.getfield 12, 3) := by decide +kernel
theorem dX4_readTerm_53 : decode cX4_readTerm 53 = .ok (.invokevirtual 84, 3) := by decide +kernel
theorem dX4_readTerm_56 : decode cX4_readTerm 56 = .ok (.aload_n 0, 1) := by decide +kernel
theorem dX4_readTerm_57 : decode cX4_readTerm 57 = .ok (.iload_n 1, 1) := by decide +kernel
theorem dX4_readTerm_58 : decode cX4_readTerm 58 = .ok (.invokevirtual 160, 3) := by decide +kernel
theorem dX4_readTerm_61 : decode cX4_readTerm 61 = .ok (.istore_n 2, 1) := by decide +kernel
theorem dX4_readTerm_62 : decode cX4_readTerm 62 = .ok (.aload_n 0, 1) := by decide +kernel
theorem dX4_readTerm_63 : decode cX4_readTerm 63 = .ok (.iload 4, 2) := by decide +kernel
theorem dX4_readTerm_65 : decode cX4_readTerm 65 = .ok (.ifCond .eq 8, 3) := by decide +kernel
theorem dX4_readTerm_68 : decode cX4_readTerm 68 = .ok (.bipush (-7), 2) := by decide +kernel
theorem dX4_readTerm_70 : decode cX4_readTerm 70 = .ok (.goto 5, 3) := by decide +kernel
theorem dX4_readTerm_73 : decode cX4_readTerm 73 = .ok (.bipush (-8), 2) := by decide +kernel
theorem dX4_readTerm_75 : decode cX4_readTerm 75 = .ok (.invokevirtual 38, 3) := by decide +kernel
theorem dX4_readTerm_78 : decode cX4_readTerm 78 = .ok (.iinc 3 1, 3) := by decide +kernel
theorem dX4_readTerm_81 : decode cX4_readTerm 81 = .ok (.goto (-73), 3) := by decide +kernel
theorem dX4_readTerm_84 : decode cX4_readTerm 84 = .ok (.iload_n 2, 1) := by decide +kernel
theorem dX4_readTerm_85 : decode cX4_readTerm 85 = .ok (.ireturn, 1) := by decide +kernel
theorem dX4_readFactor_0 : decode cX4_readFactor 0 = .ok (.aload_n 0, 1) := by decide +kernel
theorem dX4_readFactor_1 : decode cX4_readFactor 1 = .ok (.getfield 12, 3) := by decide +kernel
theorem dX4_readFactor_4 : decode cX4_readFactor 4 = .ok (.getfield 49, 3) := by decide +kernel
theorem dX4_readFactor_7 : decode cX4_readFactor 7 = .ok (.iconst 1, 1) := by decide +kernel
theorem dX4_readFactor_8 : decode cX4_readFactor 8 = .ok (.if_icmp .ne 31, 3) := by decide +kernel
theorem dX4_readFactor_11 : decode cX4_readFactor 11 = .ok (.aload_n 0, 1) := by decide +kernel
theorem dX4_readFactor_12 : decode cX4_readFactor 12 = .ok (.aload_n 0, 1) := by decide +kernel
theorem dX4_readFactor_13 : decode cX4_readFactor 13 = .ok (.getfield 12, 3) := by decide +kernel
theorem dX4_readFactor_16 : decode cX4_readFactor 16 = .ok (.getfield 147, 3) := by decide +kernel
theorem dX4_readFactor_19 : decode cX4_readFactor 19 = .ok (.invokevirtual 38, 3) := by decide +kernel
theorem dX4_readFactor_22 : decode cX4_readFactor 22 = .ok (.aload_n 0, 1) := by decide +kernel
theorem dX4_readFactor_23 : decode cX4_readFactor 23 = .ok (.iconst 0, 1) := by decide +kernel
theorem dX4_readFactor_24 : decode cX4_readFactor 24 = .ok (.sipush 9999, 3) := by decide +kernel
theorem dX4_readFactor_27 : decode cX4_readFactor 27 = .ok (.invokevirtual 87, 3) := by decide +kernel
theorem dX4_readFactor_30 : decode cX4_readFactor 30 = .ok (.ifCond .lt 7, 3) := by decide +kernel
theorem dX4_readFactor_33 : decode cX4_readFactor 33 = .ok (.iconst 1, 1) := by decide +kernel
theorem dX4_readFactor_34 : decode cX4_readFactor 34 = .ok (.goto 4, 3) := by decide +kernel
theorem dX4_readFactor_37 : decode cX4_readFactor 37 = .ok (.iconst 0, 1) := by decide +kernel
theorem dX4_readFactor_38 : decode cX4_readFactor 38 = .ok (.ireturn, 1) := by decide +kernel
theorem dX4_readFactor_39 : decode cX4_readFactor 39 = .ok (.aload_n 0, 1) := by decide +kernel
theorem dX4_readFactor_40 : decode cX4_readFactor 40 = .ok (.getfield 12, 3) := by decide +kernel
theorem dX4_readFactor_43 : decode cX4_readFactor 43 = .ok (.bipush 40, 2) := by decide +kernel
theorem dX4_readFactor_45 : decode cX4_readFactor 45 = .ok (.invokevirtual 157, 3) := by decide +kernel
theorem dX4_readFactor_48 : decode cX4_readFactor 48 = .ok (.ifCond .eq 47, 3) := by decide +kernel
theorem dX4_readFactor_51 : decode cX4_readFactor 51 = .ok (.iload_n 1, 1) := by decide +kernel
theorem dX4_readFactor_52 : decode cX4_readFactor 52 = .ok (.iconst 4, 1) := by decide +kernel
theorem dX4_readFactor_53 : decode cX4_readFactor 53 = .ok (.if_icmp .lt 10, 3) := by decide +kernel
theorem dX4_readFactor_56 : decode cX4_readFactor 56 = .ok (.aload_n 0, 1) := by decide +kernel
theorem dX4_readFactor_57 : decode cX4_readFactor 57 = .ok (.bipush (-5), 2) := by decide +kernel
theorem dX4_readFactor_59 : decode cX4_readFactor 59 = .ok (.invokevirtual 80, 3) := by decide +kernel
theorem dX4_readFactor_62 : decode cX4_readFactor 62 = .ok (.ireturn, 1) := by decide +kernel
theorem dX4_readFactor_63 : decode cX4_readFactor 63 = .ok (.aload_n 0, 1) := by decide +kernel
theorem dX4_readFactor_64 : decode cX4_readFactor 64 = .ok (.getfield 12, 3) := by decide +kernel
theorem dX4_readFactor_67 : decode cX4_readFactor 67 = .ok (.invokevirtual 84, 3) := by decide +kernel
theorem dX4_readFactor_70 : decode cX4_readFactor 70 = .ok (.aload_n 0, 1) := by decide +kernel
theorem dX4_readFactor_71 : decode cX4_readFactor 71 = .ok (.iload_n 1, 1) := by decide +kernel
theorem dX4_readFactor_72 : decode cX4_readFactor 72 = .ok (.iconst 1, 1) := by decide +kernel
theorem dX4_readFactor_73 : decode cX4_readFactor 73 = .ok (.iadd, 1) := by decide +kernel
theorem dX4_readFactor_74 : decode cX4_readFactor 74 = .ok (.invokevirtual 132, 3) := by decide +kernel
theorem dX4_readFactor_77 : decode cX4_readFactor 77 = .ok (.ifCond .eq 16, 3) := by decide +kernel
theorem dX4_readFactor_80 : decode cX4_readFactor 80 = .ok (.aload_n 0, 1) := by decide +kernel
theorem dX4_readFactor_81 : decode cX4_readFactor 81 = .ok (.bipush 41, 2) := by decide +kernel
theorem dX4_readFactor_83 : decode cX4_readFactor 83 = .ok (.invokevirtual 55, 3) := by decide +kernel
theorem dX4_readFactor_86 : decode cX4_readFactor 86 = .ok (.ifCond .eq 7, 3) := by decide +kernel
theorem dX4_readFactor_89 : decode cX4_readFactor 89 = .ok (.iconst 1, 1) := by decide +kernel
theorem dX4_readFactor_90 : decode cX4_readFactor 90 = .ok (.goto 4, 3) := by decide +kernel
theorem dX4_readFactor_93 : decode cX4_readFactor 93 = .ok (.iconst 0, 1) := by decide +kernel
theorem dX4_readFactor_94 : decode cX4_readFactor 94 = .ok (.ireturn, 1) := by decide +kernel
theorem dX4_readFactor_95 : decode cX4_readFactor 95 = .ok (.aload_n 0, 1) := by decide +kernel
theorem dX4_readFactor_96 : decode cX4_readFactor 96 = .ok (.getfield 12, 3) := by decide +kernel
theorem dX4_readFactor_99 : decode cX4_readFactor 99 = .ok (.ldc 163, 2) := by decide +kernel
theorem dX4_readFactor_101 : decode cX4_readFactor 101 = .ok (.invokevirtual 76, 3) := by decide +kernel
theorem dX4_readFactor_104 : decode cX4_readFactor 104 = .ok (.ifCond .eq 11, 3) := by decide +kernel
theorem dX4_readFactor_107 : decode cX4_readFactor 107 = .ok (.aload_n 0, 1) := by decide +kernel
theorem dX4_readFactor_108 : decode cX4_readFactor 108 = .ok (.iconst (-1), 1) := by decide +kernel
theorem dX4_readFactor_109 : decode cX4_readFactor 109 = .ok (.invokevirtual 38, 3) := by decide +kernel
theorem dX4_readFactor_112 : decode cX4_readFactor 112 = .ok (.goto 73, 3) := by decide +kernel
theorem dX4_readFactor_115 : decode cX4_readFactor 115 = .ok (.aload_n 0, 1) := by decide +kernel
theorem dX4_readFactor_116 : decode cX4_readFactor 116 = .ok (.getfield 12, 3) := by decide +kernel
theorem dX4_readFactor_119 : decode cX4_readFactor 119 = .ok (.ldc 165, 2) := by decide +kernel
theorem dX4_readFactor_121 : decode cX4_readFactor 121 = .ok (.invokevirtual 76, 3) := by decide +kernel
theorem dX4_readFactor_124 : decode cX4_readFactor 124 = .ok (.ifCond .eq 12, 3) := by decide +kernel
theorem dX4_readFactor_127 : decode cX4_readFactor 127 = .ok (.aload_n 0, 1) := by decide +kernel
theorem dX4_readFactor_128 : decode cX4_readFactor 128 = .ok (.bipush (-2), 2) := by decide +kernel
theorem dX4_readFactor_130 : decode cX4_readFactor 130 = .ok (.invokevirtual 38, 3) := by decide +kernel
theorem dX4_readFactor_133 : decode cX4_readFactor 133 = .ok (.goto 52, 3) := by decide +kernel
theorem dX4_readFactor_136 : decode cX4_readFactor 136 = .ok (.aload_n 0, 1) := by decide +kernel
theorem dX4_readFactor_137 : decode cX4_readFactor 137 = .ok (.getfield 12, 3) := by decide +kernel
theorem dX4_readFactor_140 : decode cX4_readFactor 140 = .ok (.ldc 135, 2) := by decide +kernel
theorem dX4_readFactor_142 : decode cX4_readFactor 142 = .ok (.invokevirtual 76, 3) := by decide +kernel
theorem dX4_readFactor_145 : decode cX4_readFactor 145 = .ok (.ifCond .eq 12, 3) := by decide +kernel
theorem dX4_readFactor_148 : decode cX4_readFactor 148 = .ok (.aload_n 0, 1) := by decide +kernel
theorem dX4_readFactor_149 : decode cX4_readFactor 149 = .ok (.bipush (-3), 2) := by decide +kernel
theorem dX4_readFactor_151 : decode cX4_readFactor 151 = .ok (.invokevirtual 38, 3) := by decide +kernel
theorem dX4_readFactor_154 : decode cX4_readFactor 154 = .ok (.goto 31, 3) := by decide +kernel
theorem dX4_readFactor_157 : decode cX4_readFactor 157 = .ok (.aload_n 0, 1) := by decide +kernel
theorem dX4_readFactor_158 : decode cX4_readFactor 158 = .ok (.getfield 12, 3) := by decide +kernel
theorem dX4_readFactor_161 : decode cX4_readFactor 161 = .ok (.ldc 167, 2) := by decide +kernel
theorem dX4_readFactor_163 : decode cX4_readFactor 163 = .ok (.invokevirtual 76, 3) := by decide +kernel
theorem dX4_readFactor_166 : decode cX4_readFactor 166 = .ok (.ifCond .eq 12, 3) := by decide +kernel
theorem dX4_readFactor_169 : decode cX4_readFactor 169 = .ok (.aload_n 0, 1) := by decide +kernel
theorem dX4_readFactor_170 : decode cX4_readFactor 170 = .ok (.bipush (-4), 2) := by decide +kernel
theorem dX4_readFactor_172 : decode cX4_readFactor 172 = .ok (.invokevirtual 38, 3) := by decide +kernel
theorem dX4_readFactor_175 : decode cX4_readFactor 175 = .ok (.goto 10, 3) := by decide +kernel
theorem dX4_readFactor_178 : decode cX4_readFactor 178 = .ok (.aload_n 0, 1) := by decide +kernel
theorem dX4_readFactor_179 : decode cX4_readFactor 179 = .ok (.bipush (-2), 2) := by decide +kernel
theorem dX4_readFactor_181 : decode cX4_readFactor 181 = .ok (.invokevirtual 80, 3) := by decide +kernel
theorem dX4_readFactor_184 : decode cX4_readFactor 184 = .ok (.ireturn, 1) := by decide +kernel
theorem dX4_readFactor_185 : decode cX4_readFactor 185 = .ok (.aload_n 0, 1) := by decide +kernel
theorem dX4_readFactor_186 : decode cX4_readFactor 186 = .ok (.getfield 12, 3) := by decide +kernel
theorem dX4_readFactor_189 : decode cX4_readFactor 189 = .ok (.invokevirtual 84, 3) := by decide +kernel
theorem dX4_readFactor_192 : decode cX4_readFactor 192 = .ok (.iconst 1, 1) := by decide +kernel
theorem dX4_readFactor_193 : decode cX4_readFactor 193 = .ok (.ireturn, 1) := by decide +kernel
theorem dX4_takeNumber_0 : decode cX4_takeNumber 0 = .ok (.aload_n 0, 1) := by decide +kernel
theorem dX4_takeNumber_1 : decode cX4_takeNumber 1 = .ok (.getfield 12, 3) := by decide +kernel
theorem dX4_takeNumber_4 : decode cX4_takeNumber 4 = .ok (.getfield 147, 3) := by decide +kernel
theorem dX4_takeNumber_7 : decode cX4_takeNumber 7 = .ok (.istore_n 3, 1) := by decide +kernel
theorem dX4_takeNumber_8 : decode cX4_takeNumber 8 = .ok (.aload_n 0, 1) := by decide +kernel
theorem dX4_takeNumber_9 : decode cX4_takeNumber 9 = .ok (.getfield 12, 3) := by decide +kernel
theorem dX4_takeNumber_12 : decode cX4_takeNumber 12 = .ok (.getfield 49, 3) := by decide +kernel
theorem dX4_takeNumber_15 : decode cX4_takeNumber 15 = .ok (.iconst 1, 1) := by decide +kernel
theorem dX4_takeNumber_16 : decode cX4_takeNumber 16 = .ok (.if_icmp .eq 12, 3) := by decide +kernel
theorem dX4_takeNumber_19 : decode cX4_takeNumber 19 = .ok (.aload_n 0, 1) := by decide +kernel
theorem dX4_takeNumber_20 : decode cX4_takeNumber 20 = .ok (.bipush (-2), 2) := by decide +kernel
theorem dX4_takeNumber_22 : decode cX4_takeNumber 22 = .ok (.invokevirtual 80, 3) := by decide +kernel
theorem dX4_takeNumber_25 : decode cX4_takeNumber 25 = .ok (.pop, 1) := by decide +kernel
theorem dX4_takeNumber_26 : decode cX4_takeNumber 26 = .ok (.iconst (-1), 1) := by decide +kernel
theorem dX4_takeNumber_27 : decode cX4_takeNumber 27 = .ok (.ireturn, 1) := by decide +kernel
theorem dX4_takeNumber_28 : decode cX4_takeNumber 28 = .ok (.iload_n 3, 1) := by decide +kernel
theorem dX4_takeNumber_29 : decode cX4_takeNumber 29 = .ok (.iload_n 1, 1) := by decide +kernel
theorem dX4_takeNumber_30 : decode cX4_takeNumber 30 = .ok (.if_icmp .lt 8, 3) := by decide +kernel
theorem dX4_takeNumber_33 : decode cX4_takeNumber 33 = .ok (.iload_n 3, 1) := by decide +kernel
theorem dX4_takeNumber_34 : decode cX4_takeNumber 34 = .ok (.iload_n 2, 1) := by decide +kernel
theorem dX4_takeNumber_35 : decode cX4_takeNumber 35 = .ok (.if_icmp .le 12, 3) := by decide +kernel
theorem dX4_takeNumber_38 : decode cX4_takeNumber 38 = .ok (.aload_n 0, 1) := by decide +kernel
theorem dX4_takeNumber_39 : decode cX4_takeNumber 39 = .ok (.bipush (-3), 2) := by decide +kernel
theorem dX4_takeNumber_41 : decode cX4_takeNumber 41 = .ok (.invokevirtual 80, 3) := by decide +kernel
theorem dX4_takeNumber_44 : decode cX4_takeNumber 44 = .ok (.pop, 1) := by decide +kernel
theorem dX4_takeNumber_45 : decode cX4_takeNumber 45 = .ok (.iconst (-1), 1) := by decide +kernel
theorem dX4_takeNumber_46 : decode cX4_takeNumber 46 = .ok (.ireturn, 1) := by decide +kernel
theorem dX4_takeNumber_47 : decode cX4_takeNumber 47 = .ok (.aload_n 0, 1) := by decide +kernel
theorem dX4_takeNumber_48 : decode cX4_takeNumber 48 = .ok (.getfield 12, 3) := by decide +kernel
theorem dX4_takeNumber_51 : decode cX4_takeNumber 51 = .ok (.invokevirtual 84, 3) := by decide +kernel
theorem dX4_takeNumber_54 : decode cX4_takeNumber 54 = .ok (.iload_n 3, 1) := by decide +kernel
theorem dX4_takeNumber_55 : decode cX4_takeNumber 55 = .ok (.ireturn, 1) := by decide +kernel
theorem dX4_takeMark_0 : decode cX4_takeMark 0 = .ok (.aload_n 0, 1) := by decide +kernel
theorem dX4_takeMark_1 : decode cX4_takeMark 1 = .ok (.getfield 12, 3) := by decide +kernel
theorem dX4_takeMark_4 : decode cX4_takeMark 4 = .ok (.iload_n 1, 1) := by decide +kernel
theorem dX4_takeMark_5 : decode cX4_takeMark 5 = .ok (.invokevirtual 157, 3) := by decide +kernel
theorem dX4_takeMark_8 : decode cX4_takeMark 8 = .ok (.ifCond .ne 10, 3) := by decide +kernel
theorem dX4_takeMark_11 : decode cX4_takeMark 11 = .ok (.aload_n 0, 1) := by decide +kernel
theorem dX4_takeMark_12 : decode cX4_takeMark 12 = .ok (.bipush (-2), 2) := by decide +kernel
theorem dX4_takeMark_14 : decode cX4_takeMark 14 = .ok (.invokevirtual 80, 3) := by decide +kernel
theorem dX4_takeMark_17 : decode cX4_takeMark 17 = .ok (.ireturn, 1) := by decide +kernel
theorem dX4_takeMark_18 : decode cX4_takeMark 18 = .ok (.aload_n 0, 1) := by decide +kernel
theorem dX4_takeMark_19 : decode cX4_takeMark 19 = .ok (.getfield 12, 3) := by decide +kernel
theorem dX4_takeMark_22 : decode cX4_takeMark 22 = .ok (.invokevirtual 84, 3) := by decide +kernel
theorem dX4_takeMark_25 : decode cX4_takeMark 25 = .ok (.iconst 1, 1) := by decide +kernel
theorem dX4_takeMark_26 : decode cX4_takeMark 26 = .ok (.ireturn, 1) := by decide +kernel
theorem dX4_fail_0 : decode cX4_fail 0 = .ok (.aload_n 0, 1) := by decide +kernel
theorem dX4_fail_1 : decode cX4_fail 1 = .ok (.iload_n 1, 1) := by decide +kernel
theorem dX4_fail_2 : decode cX4_fail 2 = .ok (.putfield 18, 3) := by decide +kernel
theorem dX4_fail_5 : decode cX4_fail 5 = .ok (.aload_n 0, 1) := by decide +kernel
theorem dX4_fail_6 : decode cX4_fail 6 = .ok (.aload_n 0, 1) := by decide +kernel
theorem dX4_fail_7 : decode cX4_fail 7 = .ok (.getfield 12, 3) := by decide +kernel
theorem dX4_fail_10 : decode cX4_fail 10 = .ok (.getfield 169, 3) := by decide +kernel
theorem dX4_fail_13 : decode cX4_fail 13 = .ok (.putfield 22, 3) := by decide +kernel
theorem dX4_fail_16 : decode cX4_fail 16 = .ok (.iconst 0, 1) := by decide +kernel
theorem dX4_fail_17 : decode cX4_fail 17 = .ok (.ireturn, 1) := by decide +kernel
theorem dX4_addStep_0 : decode cX4_addStep 0 = .ok (.aload_n 0, 1) := by decide +kernel
theorem dX4_addStep_1 : decode cX4_addStep 1 = .ok (.getfield 29, 3) := by decide +kernel
theorem dX4_addStep_4 : decode cX4_addStep 4 = .ok (.sipush 900, 3) := by decide +kernel
theorem dX4_addStep_7 : decode cX4_addStep 7 = .ok (.if_icmp .ge 23, 3) := by decide +kernel
theorem dX4_addStep_10 : decode cX4_addStep 10 = .ok (.aload_n 0, 1) := by decide +kernel
theorem dX4_addStep_11 : decode cX4_addStep 11 = .ok (.getfield 25, 3) := by decide +kernel
theorem dX4_addStep_14 : decode cX4_addStep 14 = .ok (.aload_n 0, 1) := by decide +kernel
theorem dX4_addStep_15 : decode cX4_addStep 15 = .ok (.getfield 29, 3) := by decide +kernel
theorem dX4_addStep_18 : decode cX4_addStep 18 = .ok (.iload_n 1, 1) := by decide +kernel
theorem dX4_addStep_19 : decode cX4_addStep 19 = .ok (.iastore, 1) := by decide +kernel
theorem dX4_addStep_20 : decode cX4_addStep 20 = .ok (.aload_n 0, 1) := by decide +kernel
theorem dX4_addStep_21 : decode cX4_addStep 21 = .ok (.dup, 1) := by decide +kernel
theorem dX4_addStep_22 : decode cX4_addStep 22 = .ok (.getfield 29, 3) := by decide +kernel
theorem dX4_addStep_25 : decode cX4_addStep 25 = .ok (.iconst 1, 1) := by decide +kernel
theorem dX4_addStep_26 : decode cX4_addStep 26 = .ok (.iadd, 1) := by decide +kernel
theorem dX4_addStep_27 : decode cX4_addStep 27 = .ok (.putfield 29, 3) := by decide +kernel
theorem dX4_addStep_30 : decode cX4_addStep 30 = .ok (.return_, 1) := by decide +kernel
theorem dX5_init_0 : decode cX5_init 0 = .ok (.aload_n 0, 1) := by decide +kernel
theorem dX5_init_1 : decode cX5_init 1 = .ok (.invokespecial 3, 3) := by decide +kernel
theorem dX5_init_4 : decode cX5_init 4 = .ok (.aload_n 0, 1) := by decide +kernel
end
section
theorem dX5_init_5 : decode cX5_init 5 = .ok (.sipush 900, 3) := by decide +kernel
theorem dX5_init_8 : decode cX5_init 8 = .ok (.newarray .byte, 2) := by decide +kernel
theorem dX5_init_10 : decode cX5_init 10 = .ok (.putfield 9, 3) := by decide +kernel
theorem dX5_init_13 : decode cX5_init 13 = .ok (.aload_n 0, 1) := by decide +kernel
theorem dX5_init_14 : decode cX5_init 14 = .ok (.iconst 0, 1) := by decide +kernel
theorem dX5_init_15 : decode cX5_init 15 = .ok (.putfield 15, 3) := by decide +kernel
theorem dX5_init_18 : decode cX5_init 18 = .ok (.aload_n 0, 1) := by decide +kernel
theorem dX5_init_19 : decode cX5_init 19 = .ok (.iconst 0, 1) := by decide +kernel
theorem dX5_init_20 : decode cX5_init 20 = .ok (.putfield 19, 3) := by decide +kernel
theorem dX5_init_23 : decode cX5_init 23 = .ok (.aload_n 0, 1) := by decide +kernel
theorem dX5_init_24 : decode cX5_init 24 = .ok (.iconst 0, 1) := by decide +kernel
theorem dX5_init_25 : decode cX5_init 25 = .ok (.putfield 22, 3) := by decide +kernel
theorem dX5_init_28 : decode cX5_init 28 = .ok (.aload_n 0, 1) := by decide +kernel
theorem dX5_init_29 : decode cX5_init 29 = .ok (.iconst 0, 1) := by decide +kernel
theorem dX5_init_30 : decode cX5_init 30 = .ok (.putfield 25, 3) := by decide +kernel
theorem dX5_init_33 : decode cX5_init 33 = .ok (.aload_n 0, 1) := by decide +kernel
theorem dX5_init_34 : decode cX5_init 34 = .ok (.iconst 0, 1) := by decide +kernel
theorem dX5_init_35 : decode cX5_init 35 = .ok (.putfield 28, 3) := by decide +kernel
theorem dX5_init_38 : decode cX5_init 38 = .ok (.aload_n 0, 1) := by decide +kernel
theorem dX5_init_39 : decode cX5_init 39 = .ok (.iconst 0, 1) := by decide +kernel
theorem dX5_init_40 : decode cX5_init 40 = .ok (.putfield 31, 3) := by decide +kernel
theorem dX5_init_43 : decode cX5_init 43 = .ok (.return_, 1) := by decide +kernel
theorem dX5_addWord_0 : decode cX5_addWord 0 = .ok (.bipush 24, 2) := by decide +kernel
theorem dX5_addWord_2 : decode cX5_addWord 2 = .ok (.istore_n 2, 1) := by decide +kernel
theorem dX5_addWord_3 : decode cX5_addWord 3 = .ok (.iload_n 2, 1) := by decide +kernel
theorem dX5_addWord_4 : decode cX5_addWord 4 = .ok (.ifCond .lt 42, 3) := by decide +kernel
theorem dX5_addWord_7 : decode cX5_addWord 7 = .ok (.aload_n 0, 1) := by decide +kernel
theorem dX5_addWord_8 : decode cX5_addWord 8 = .ok (.getfield 15, 3) := by decide +kernel
theorem dX5_addWord_11 : decode cX5_addWord 11 = .ok (.sipush 900, 3) := by decide +kernel
theorem dX5_addWord_14 : decode cX5_addWord 14 = .ok (.if_icmp .ge 26, 3) := by decide +kernel
theorem dX5_addWord_17 : decode cX5_addWord 17 = .ok (.aload_n 0, 1) := by decide +kernel
theorem dX5_addWord_18 : decode cX5_addWord 18 = .ok (.getfield 9, 3) := by decide +kernel
theorem dX5_addWord_21 : decode cX5_addWord 21 = .ok (.aload_n 0, 1) := by decide +kernel
theorem dX5_addWord_22 : decode cX5_addWord 22 = .ok (.getfield 15, 3) := by decide +kernel
theorem dX5_addWord_25 : decode cX5_addWord 25 = .ok (.iload_n 1, 1) := by decide +kernel
theorem dX5_addWord_26 : decode cX5_addWord 26 = .ok (.iload_n 2, 1) := by decide +kernel
theorem dX5_addWord_27 : decode cX5_addWord 27 = .ok (.iushr, 1) := by decide +kernel
theorem dX5_addWord_28 : decode cX5_addWord 28 = .ok (.i2b, 1) := by decide +kernel
theorem dX5_addWord_29 : decode cX5_addWord 29 = .ok (.bastore, 1) := by decide +kernel
theorem dX5_addWord_30 : decode cX5_addWord 30 = .ok (.aload_n 0, 1) := by decide +kernel
theorem dX5_addWord_31 : decode cX5_addWord 31 = .ok (.dup, 1) := by decide +kernel
theorem dX5_addWord_32 : decode cX5_addWord 32 = .ok (.getfield 15, 3) := by decide +kernel
theorem dX5_addWord_35 : decode cX5_addWord 35 = .ok (.iconst 1, 1) := by decide +kernel
theorem dX5_addWord_36 : decode cX5_addWord 36 = .ok (.iadd, 1) := by decide +kernel
theorem dX5_addWord_37 : decode cX5_addWord 37 = .ok (.putfield 15, 3) := by decide +kernel
theorem dX5_addWord_40 : decode cX5_addWord 40 = .ok (.iinc 2 (-8), 3) := by decide +kernel
theorem dX5_addWord_43 : decode cX5_addWord 43 = .ok (.goto (-40), 3) := by decide +kernel
theorem dX5_addWord_46 : decode cX5_addWord 46 = .ok (.return_, 1) := by decide +kernel
theorem dX5_startReading_0 : decode cX5_startReading 0 = .ok (.aload_n 0, 1) := by decide +kernel
theorem dX5_startReading_1 : decode cX5_startReading 1 = .ok (.iload_n 1, 1) := by decide +kernel
theorem dX5_startReading_2 : decode cX5_startReading 2 = .ok (.sipush 900, 3) := by decide +kernel
theorem dX5_startReading_5 : decode cX5_startReading 5 = .ok (.invokestatic 34, 3) := by decide +kernel
theorem dX5_startReading_8 : decode cX5_startReading 8 = .ok (.putfield 19, 3) := by decide +kernel
theorem dX5_startReading_11 : decode cX5_startReading 11 = .ok (.aload_n 0, 1) := by decide +kernel
theorem dX5_startReading_12 : decode cX5_startReading 12 = .ok (.iconst 0, 1) := by decide +kernel
theorem dX5_startReading_13 : decode cX5_startReading 13 = .ok (.putfield 28, 3) := by decide +kernel
theorem dX5_startReading_16 : decode cX5_startReading 16 = .ok (.aload_n 0, 1) := by decide +kernel
theorem dX5_startReading_17 : decode cX5_startReading 17 = .ok (.invokevirtual 40, 3) := by decide +kernel
theorem dX5_startReading_20 : decode cX5_startReading 20 = .ok (.return_, 1) := by decide +kernel
theorem dX5_advance_0 : decode cX5_advance 0 = .ok (.aload_n 0, 1) := by decide +kernel
theorem dX5_advance_1 : decode cX5_advance 1 = .ok (.aload_n 0, 1) := by decide +kernel
theorem dX5_advance_2 : decode cX5_advance 2 = .ok (.getfield 28, 3) := by decide +kernel
theorem dX5_advance_5 : decode cX5_advance 5 = .ok (.putfield 25, 3) := by decide +kernel
theorem dX5_advance_8 : decode cX5_advance 8 = .ok (.aload_n 0, 1) := by decide +kernel
theorem dX5_advance_9 : decode cX5_advance 9 = .ok (.getfield 25, 3) := by decide +kernel
theorem dX5_advance_12 : decode cX5_advance 12 = .ok (.aload_n 0, 1) := by decide +kernel
theorem dX5_advance_13 : decode cX5_advance 13 = .ok (.getfield 19, 3) := by decide +kernel
theorem dX5_advance_16 : decode cX5_advance 16 = .ok (.if_icmp .ge 30, 3) := by decide +kernel
theorem dX5_advance_19 : decode cX5_advance 19 = .ok (.aload_n 0, 1) := by decide +kernel
theorem dX5_advance_20 : decode cX5_advance 20 = .ok (.getfield 9, 3) := by decide +kernel
theorem dX5_advance_23 : decode cX5_advance 23 = .ok (.aload_n 0, 1) := by decide +kernel
theorem dX5_advance_24 : decode cX5_advance 24 = .ok (.getfield 25, 3) := by decide +kernel
theorem dX5_advance_27 : decode cX5_advance 27 = .ok (.baload, 1) := by decide +kernel
theorem dX5_advance_28 : decode cX5_advance 28 = .ok (.bipush 32, 2) := by decide +kernel
theorem dX5_advance_30 : decode cX5_advance 30 = .ok (.if_icmp .ne 16, 3) := by decide +kernel
theorem dX5_advance_33 : decode cX5_advance 33 = .ok (.aload_n 0, 1) := by decide +kernel
theorem dX5_advance_34 : decode cX5_advance 34 = .ok (.dup, 1) := by decide +kernel
theorem dX5_advance_35 : decode cX5_advance 35 = .ok (.getfield 25, 3) := by decide +kernel
theorem dX5_advance_38 : decode cX5_advance 38 = .ok (.iconst 1, 1) := by decide +kernel
theorem dX5_advance_39 : decode cX5_advance 39 = .ok (.iadd, 1) := by decide +kernel
theorem dX5_advance_40 : decode cX5_advance 40 = .ok (.putfield 25, 3) := by decide +kernel
theorem dX5_advance_43 : decode cX5_advance 43 = .ok (.goto (-35), 3) := by decide +kernel
theorem dX5_advance_46 : decode cX5_advance 46 = .ok (.aload_n 0, 1) := by decide +kernel
theorem dX5_advance_47 : decode cX5_advance 47 = .ok (.aload_n 0, 1) := by decide +kernel
theorem dX5_advance_48 : decode cX5_advance 48 = .ok (.getfield 25, 3) := by decide +kernel
theorem dX5_advance_51 : decode cX5_advance 51 = .ok (.putfield 28, 3) := by decide +kernel
theorem dX5_advance_54 : decode cX5_advance 54 = .ok (.aload_n 0, 1) := by decide +kernel
theorem dX5_advance_55 : decode cX5_advance 55 = .ok (.iconst 0, 1) := by decide +kernel
theorem dX5_advance_56 : decode cX5_advance 56 = .ok (.putfield 31, 3) := by decide +kernel
theorem dX5_advance_59 : decode cX5_advance 59 = .ok (.aload_n 0, 1) := by decide +kernel
theorem dX5_advance_60 : decode cX5_advance 60 = .ok (.getfield 28, 3) := by decide +kernel
theorem dX5_advance_63 : decode cX5_advance 63 = .ok (.aload_n 0, 1) := by decide +kernel
theorem dX5_advance_64 : decode cX5_advance 64 = .ok (.getfield 19, 3) := by decide +kernel
theorem dX5_advance_67 : decode cX5_advance 67 = .ok (.if_icmp .ge 77, 3) := by decide +kernel
theorem dX5_advance_70 : decode cX5_advance 70 = .ok (.aload_n 0, 1) := by decide +kernel
theorem dX5_advance_71 : decode cX5_advance 71 = .ok (.getfield 9, 3) := by decide +kernel
theorem dX5_advance_74 : decode cX5_advance 74 = .ok (.aload_n 0, 1) := by decide +kernel
theorem dX5_advance_75 : decode cX5_advance 75 = .ok (.getfield 28, 3) := by decide +kernel
theorem dX5_advance_78 : decode cX5_advance 78 = .ok (.baload, 1) := by decide +kernel
theorem dX5_advance_79 : decode cX5_advance 79 = .ok (.bipush 48, 2) := by decide +kernel
theorem dX5_advance_81 : decode cX5_advance 81 = .ok (.if_icmp .lt 63, 3) := by decide +kernel
theorem dX5_advance_84 : decode cX5_advance 84 = .ok (.aload_n 0, 1) := by decide +kernel
theorem dX5_advance_85 : decode cX5_advance 85 = .ok (.getfield 9, 3) := by decide +kernel
theorem dX5_advance_88 : decode cX5_advance 88 = .ok (.aload_n 0, 1) := by decide +kernel
theorem dX5_advance_89 : decode cX5_advance 89 = .ok (.getfield 28, 3) := by decide +kernel
theorem dX5_advance_92 : decode cX5_advance 92 = .ok (.baload, 1) := by decide +kernel
theorem dX5_advance_93 : decode cX5_advance 93 = .ok (.bipush 57, 2) := by decide +kernel
theorem dX5_advance_95 : decode cX5_advance 95 = .ok (.if_icmp .gt 49, 3) := by decide +kernel
theorem dX5_advance_98 : decode cX5_advance 98 = .ok (.aload_n 0, 1) := by decide +kernel
theorem dX5_advance_99 : decode cX5_advance 99 = .ok (.getfield 31, 3) := by decide +kernel
theorem dX5_advance_102 : decode cX5_advance 102 = .ok (.ldc 43, 2) := by decide +kernel
theorem dX5_advance_104 : decode cX5_advance 104 = .ok (.if_icmp .ge 27, 3) := by decide +kernel
theorem dX5_advance_107 : decode cX5_advance 107 = .ok (.aload_n 0, 1) := by decide +kernel
theorem dX5_advance_108 : decode cX5_advance 108 = .ok (.bipush 10, 2) := by decide +kernel
theorem dX5_advance_110 : decode cX5_advance 110 = .ok (.aload_n 0, 1) := by decide +kernel
theorem dX5_advance_111 : decode cX5_advance 111 = .ok (.getfield 31, 3) := by decide +kernel
theorem dX5_advance_114 : decode cX5_advance 114 = .ok (.imul, 1) := by decide +kernel
theorem dX5_advance_115 : decode cX5_advance 115 = .ok (.aload_n 0, 1) := by decide +kernel
theorem dX5_advance_116 : decode cX5_advance 116 = .ok (.getfield 9, 3) := by decide +kernel
theorem dX5_advance_119 : decode cX5_advance 119 = .ok (.aload_n 0, 1) := by decide +kernel
theorem dX5_advance_120 : decode cX5_advance 120 = .ok (.getfield 28, 3) := by decide +kernel
theorem dX5_advance_123 : decode cX5_advance 123 = .ok (.baload, 1) := by decide +kernel
theorem dX5_advance_124 : decode cX5_advance 124 = .ok (.bipush 48, 2) := by decide +kernel
theorem dX5_advance_126 : decode cX5_advance 126 = .ok (.isub, 1) := by decide +kernel
theorem dX5_advance_127 : decode cX5_advance 127 = .ok (.iadd, 1) := by decide +kernel
theorem dX5_advance_128 : decode cX5_advance 128 = .ok (.putfield 31, 3) := by decide +kernel
theorem dX5_advance_131 : decode cX5_advance 131 = .ok (.aload_n 0, 1) := by decide +kernel
theorem dX5_advance_132 : decode cX5_advance 132 = .ok (.dup, 1) := by decide +kernel
theorem dX5_advance_133 : decode cX5_advance 133 = .ok (.getfield 28, 3) := by decide +kernel
theorem dX5_advance_136 : decode cX5_advance 136 = .ok (.iconst 1, 1) := by decide +kernel
theorem dX5_advance_137 : decode cX5_advance 137 = .ok (.iadd, 1) := by decide +kernel
theorem dX5_advance_138 : decode cX5_advance 138 = .ok (.putfield 28, 3) := by decide +kernel
theorem dX5_advance_141 : decode cX5_advance 141 = .ok (.goto (-82), 3) := by decide +kernel
theorem dX5_advance_144 : decode cX5_advance 144 = .ok (.aload_n 0, 1) := by decide +kernel
theorem dX5_advance_145 : decode cX5_advance 145 = .ok (.getfield 28, 3) := by decide +kernel
theorem dX5_advance_148 : decode cX5_advance 148 = .ok (.aload_n 0, 1) := by decide +kernel
theorem dX5_advance_149 : decode cX5_advance 149 = .ok (.getfield 25, 3) := by decide +kernel
theorem dX5_advance_152 : decode cX5_advance 152 = .ok (.if_icmp .le 9, 3) := by decide +kernel
theorem dX5_advance_155 : decode cX5_advance 155 = .ok (.aload_n 0, 1) := by decide +kernel
theorem dX5_advance_156 : decode cX5_advance 156 = .ok (.iconst 1, 1) := by decide +kernel
theorem dX5_advance_157 : decode cX5_advance 157 = .ok (.putfield 22, 3) := by decide +kernel
theorem dX5_advance_160 : decode cX5_advance 160 = .ok (.return_, 1) := by decide +kernel
theorem dX5_advance_161 : decode cX5_advance 161 = .ok (.aload_n 0, 1) := by decide +kernel
theorem dX5_advance_162 : decode cX5_advance 162 = .ok (.getfield 28, 3) := by decide +kernel
theorem dX5_advance_165 : decode cX5_advance 165 = .ok (.aload_n 0, 1) := by decide +kernel
theorem dX5_advance_166 : decode cX5_advance 166 = .ok (.getfield 19, 3) := by decide +kernel
theorem dX5_advance_169 : decode cX5_advance 169 = .ok (.if_icmp .ge 44, 3) := by decide +kernel
theorem dX5_advance_172 : decode cX5_advance 172 = .ok (.aload_n 0, 1) := by decide +kernel
theorem dX5_advance_173 : decode cX5_advance 173 = .ok (.getfield 9, 3) := by decide +kernel
theorem dX5_advance_176 : decode cX5_advance 176 = .ok (.aload_n 0, 1) := by decide +kernel
theorem dX5_advance_177 : decode cX5_advance 177 = .ok (.getfield 28, 3) := by decide +kernel
theorem dX5_advance_180 : decode cX5_advance 180 = .ok (.baload, 1) := by decide +kernel
theorem dX5_advance_181 : decode cX5_advance 181 = .ok (.bipush 97, 2) := by decide +kernel
theorem dX5_advance_183 : decode cX5_advance 183 = .ok (.if_icmp .lt 30, 3) := by decide +kernel
theorem dX5_advance_186 : decode cX5_advance 186 = .ok (.aload_n 0, 1) := by decide +kernel
theorem dX5_advance_187 : decode cX5_advance 187 = .ok (.getfield 9, 3) := by decide +kernel
theorem dX5_advance_190 : decode cX5_advance 190 = .ok (.aload_n 0, 1) := by decide +kernel
theorem dX5_advance_191 : decode cX5_advance 191 = .ok (.getfield 28, 3) := by decide +kernel
theorem dX5_advance_194 : decode cX5_advance 194 = .ok (.baload, 1) := by decide +kernel
theorem dX5_advance_195 : decode cX5_advance 195 = .ok (.bipush 122, 2) := by decide +kernel
theorem dX5_advance_197 : decode cX5_advance 197 = .ok (.if_icmp .gt 16, 3) := by decide +kernel
theorem dX5_advance_200 : decode cX5_advance 200 = .ok (.aload_n 0, 1) := by decide +kernel
theorem dX5_advance_201 : decode cX5_advance 201 = .ok (.dup, 1) := by decide +kernel
theorem dX5_advance_202 : decode cX5_advance 202 = .ok (.getfield 28, 3) := by decide +kernel
theorem dX5_advance_205 : decode cX5_advance 205 = .ok (.iconst 1, 1) := by decide +kernel
theorem dX5_advance_206 : decode cX5_advance 206 = .ok (.iadd, 1) := by decide +kernel
theorem dX5_advance_207 : decode cX5_advance 207 = .ok (.putfield 28, 3) := by decide +kernel
theorem dX5_advance_210 : decode cX5_advance 210 = .ok (.goto (-49), 3) := by decide +kernel
theorem dX5_advance_213 : decode cX5_advance 213 = .ok (.aload_n 0, 1) := by decide +kernel
theorem dX5_advance_214 : decode cX5_advance 214 = .ok (.getfield 28, 3) := by decide +kernel
theorem dX5_advance_217 : decode cX5_advance 217 = .ok (.aload_n 0, 1) := by decide +kernel
theorem dX5_advance_218 : decode cX5_advance 218 = .ok (.getfield 25, 3) := by decide +kernel
theorem dX5_advance_221 : decode cX5_advance 221 = .ok (.if_icmp .le 11, 3) := by decide +kernel
theorem dX5_advance_224 : decode cX5_advance 224 = .ok (.aload_n 0, 1) := by decide +kernel
theorem dX5_advance_225 : decode cX5_advance 225 = .ok (.iconst 2, 1) := by decide +kernel
theorem dX5_advance_226 : decode cX5_advance 226 = .ok (.putfield 22, 3) := by decide +kernel
theorem dX5_advance_229 : decode cX5_advance 229 = .ok (.goto 37, 3) := by decide +kernel
theorem dX5_advance_232 : decode cX5_advance 232 = .ok (.aload_n 0, 1) := by decide +kernel
theorem dX5_advance_233 : decode cX5_advance 233 = .ok (.getfield 25, 3) := by decide +kernel
theorem dX5_advance_236 : decode cX5_advance 236 = .ok (.aload_n 0, 1) := by decide +kernel
theorem dX5_advance_237 : decode cX5_advance 237 = .ok (.getfield 19, 3) := by decide +kernel
theorem dX5_advance_240 : decode cX5_advance 240 = .ok (.if_icmp .ge 21, 3) := by decide +kernel
theorem dX5_advance_243 : decode cX5_advance 243 = .ok (.aload_n 0, 1) := by decide +kernel
theorem dX5_advance_244 : decode cX5_advance 244 = .ok (.iconst 3, 1) := by decide +kernel
theorem dX5_advance_245 : decode cX5_advance 245 = .ok (.putfield 22, 3) := by decide +kernel
theorem dX5_advance_248 : decode cX5_advance 248 = .ok (.aload_n 0, 1) := by decide +kernel
theorem dX5_advance_249 : decode cX5_advance 249 = .ok (.aload_n 0, 1) := by decide +kernel
theorem dX5_advance_250 : decode cX5_advance 250 = .ok (.getfield 25, 3) := by decide +kernel
theorem dX5_advance_253 : decode cX5_advance 253 = .ok (.iconst 1, 1) := by decide +kernel
theorem dX5_advance_254 : decode cX5_advance 254 = .ok (.iadd, 1) := by decide +kernel
theorem dX5_advance_255 : decode cX5_advance 255 = .ok (.putfield 28, 3) := by decide +kernel
theorem dX5_advance_258 : decode cX5_advance 258 = .ok (.goto 8, 3) := by decide +kernel
theorem dX5_advance_261 : decode cX5_advance 261 = .ok (.aload_n 0, 1) := by decide +kernel
theorem dX5_advance_262 : decode cX5_advance 262 = .ok (.iconst 0, 1) := by decide +kernel
theorem dX5_advance_263 : decode cX5_advance 263 = .ok (.putfield 22, 3) := by decide +kernel
theorem dX5_advance_266 : decode cX5_advance 266 = .ok (.return_, 1) := by decide +kernel
theorem dX5_isWord_0 : decode cX5_isWord 0 = .ok (.aload_n 0, 1) := by decide +kernel
theorem dX5_isWord_1 : decode cX5_isWord 1 = .ok (.getfield 22, 3) := by decide +kernel
theorem dX5_isWord_4 : decode cX5_isWord 4 = .ok (.iconst 2, 1) := by decide +kernel
theorem dX5_isWord_5 : decode cX5_isWord 5 = .ok (.if_icmp .ne 19, 3) := by decide +kernel
theorem dX5_isWord_8 : decode cX5_isWord 8 = .ok (.aload_n 0, 1) := by decide +kernel
theorem dX5_isWord_9 : decode cX5_isWord 9 = .ok (.getfield 28, 3) := by decide +kernel
theorem dX5_isWord_12 : decode cX5_isWord 12 = .ok (.aload_n 0, 1) := by decide +kernel
theorem dX5_isWord_13 : decode cX5_isWord 13 = .ok (.getfield 25, 3) := by decide +kernel
theorem dX5_isWord_16 : decode cX5_isWord 16 = .ok (.isub, 1) := by decide +kernel
theorem dX5_isWord_17 : decode cX5_isWord 17 = .ok (.aload_n 1, 1) := by decide +kernel
theorem dX5_isWord_18 : decode cX5_isWord 18 = .ok (.invokevirtual 44, 3) := by decide +kernel
theorem dX5_isWord_21 : decode cX5_isWord 21 = .ok (.if_icmp .eq 5, 3) := by decide +kernel
theorem dX5_isWord_24 : decode cX5_isWord 24 = .ok (.iconst 0, 1) := by decide +kernel
theorem dX5_isWord_25 : decode cX5_isWord 25 = .ok (.ireturn, 1) := by decide +kernel
theorem dX5_isWord_26 : decode cX5_isWord 26 = .ok (.iconst 0, 1) := by decide +kernel
theorem dX5_isWord_27 : decode cX5_isWord 27 = .ok (.istore_n 2, 1) := by decide +kernel
theorem dX5_isWord_28 : decode cX5_isWord 28 = .ok (.iload_n 2, 1) := by decide +kernel
theorem dX5_isWord_29 : decode cX5_isWord 29 = .ok (.aload_n 1, 1) := by decide +kernel
theorem dX5_isWord_30 : decode cX5_isWord 30 = .ok (.invokevirtual 44, 3) := by decide +kernel
theorem dX5_isWord_33 : decode cX5_isWord 33 = .ok (.if_icmp .ge 30, 3) := by decide +kernel
theorem dX5_isWord_36 : decode cX5_isWord 36 = .ok (.aload_n 0, 1) := by decide +kernel
theorem dX5_isWord_37 : decode cX5_isWord 37 = .ok (.getfield 9, 3) := by decide +kernel
theorem dX5_isWord_40 : decode cX5_isWord 40 = .ok (.aload_n 0, 1) := by decide +kernel
theorem dX5_isWord_41 : decode cX5_isWord 41 = .ok (.getfield 25, 3) := by decide +kernel
theorem dX5_isWord_44 : decode cX5_isWord 44 = .ok (.iload_n 2, 1) := by decide +kernel
theorem dX5_isWord_45 : decode cX5_isWord 45 = .ok (.iadd, 1) := by decide +kernel
theorem dX5_isWord_46 : decode cX5_isWord 46 = .ok (.baload, 1) := by decide +kernel
theorem dX5_isWord_47 : decode cX5_isWord 47 = .ok (.aload_n 1, 1) := by decide +kernel
theorem dX5_isWord_48 : decode cX5_isWord 48 = .ok (.iload_n 2, 1) := by decide +kernel
theorem dX5_isWord_49 : decode cX5_isWord 49 = .ok (.invokevirtual 50, 3) := by decide +kernel
theorem dX5_isWord_52 : decode cX5_isWord 52 = .ok (.if_icmp .eq 5, 3) := by decide +kernel
theorem dX5_isWord_55 : decode cX5_isWord 55 = .ok (.iconst 0, 1) := by decide +kernel
theorem dX5_isWord_56 : decode cX5_isWord 56 = .ok (.ireturn, 1) := by decide +kernel
theorem dX5_isWord_57 : decode cX5_isWord 57 = .ok (.iinc 2 1, 3) := by decide +kernel
theorem dX5_isWord_60 : decode cX5_isWord 60 = .ok (.goto (-32), 3) := by decide +kernel
theorem dX5_isWord_63 : decode cX5_isWord 63 = .ok (.iconst 1, 1) := by decide +kernel
theorem dX5_isWord_64 : decode cX5_isWord 64 = .ok (.ireturn, 1) := by decide +kernel
theorem dX5_isMark_0 : decode cX5_isMark 0 = .ok (.aload_n 0, 1) := by decide +kernel
theorem dX5_isMark_1 : decode cX5_isMark 1 = .ok (.getfield 22, 3) := by decide +kernel
theorem dX5_isMark_4 : decode cX5_isMark 4 = .ok (.iconst 3, 1) := by decide +kernel
theorem dX5_isMark_5 : decode cX5_isMark 5 = .ok (.if_icmp .ne 20, 3) := by decide +kernel
theorem dX5_isMark_8 : decode cX5_isMark 8 = .ok (.aload_n 0, 1) := by decide +kernel
theorem dX5_isMark_9 : decode cX5_isMark 9 = .ok (.getfield 9, 3) := by decide +kernel
theorem dX5_isMark_12 : decode cX5_isMark 12 = .ok (.aload_n 0, 1) := by decide +kernel
theorem dX5_isMark_13 : decode cX5_isMark 13 = .ok (.getfield 25, 3) := by decide +kernel
theorem dX5_isMark_16 : decode cX5_isMark 16 = .ok (.baload, 1) := by decide +kernel
theorem dX5_isMark_17 : decode cX5_isMark 17 = .ok (.iload_n 1, 1) := by decide +kernel
theorem dX5_isMark_18 : decode cX5_isMark 18 = .ok (.if_icmp .ne 7, 3) := by decide +kernel
theorem dX5_isMark_21 : decode cX5_isMark 21 = .ok (.iconst 1, 1) := by decide +kernel
theorem dX5_isMark_22 : decode cX5_isMark 22 = .ok (.goto 4, 3) := by decide +kernel
theorem dX5_isMark_25 : decode cX5_isMark 25 = .ok (.iconst 0, 1) := by decide +kernel
theorem dX5_isMark_26 : decode cX5_isMark 26 = .ok (.ireturn, 1) := by decide +kernel
theorem dX6_init_0 : decode cX6_init 0 = .ok (.aload_n 0, 1) := by decide +kernel
theorem dX6_init_1 : decode cX6_init 1 = .ok (.invokespecial 3, 3) := by decide +kernel
theorem dX6_init_4 : decode cX6_init 4 = .ok (.aload_n 0, 1) := by decide +kernel
theorem dX6_init_5 : decode cX6_init 5 = .ok (.iconst 0, 1) := by decide +kernel
theorem dX6_init_6 : decode cX6_init 6 = .ok (.putfield 9, 3) := by decide +kernel
theorem dX6_init_9 : decode cX6_init 9 = .ok (.aload_n 0, 1) := by decide +kernel
theorem dX6_init_10 : decode cX6_init 10 = .ok (.iconst 0, 1) := by decide +kernel
theorem dX6_init_11 : decode cX6_init 11 = .ok (.putfield 15, 3) := by decide +kernel
theorem dX6_init_14 : decode cX6_init 14 = .ok (.aload_n 0, 1) := by decide +kernel
theorem dX6_init_15 : decode cX6_init 15 = .ok (.bipush 32, 2) := by decide +kernel
theorem dX6_init_17 : decode cX6_init 17 = .ok (.newarray .int, 2) := by decide +kernel
theorem dX6_init_19 : decode cX6_init 19 = .ok (.putfield 18, 3) := by decide +kernel
theorem dX6_init_22 : decode cX6_init 22 = .ok (.aload_n 0, 1) := by decide +kernel
theorem dX6_init_23 : decode cX6_init 23 = .ok (.bipush 32, 2) := by decide +kernel
theorem dX6_init_25 : decode cX6_init 25 = .ok (.newarray .int, 2) := by decide +kernel
theorem dX6_init_27 : decode cX6_init 27 = .ok (.putfield 22, 3) := by decide +kernel
theorem dX6_init_30 : decode cX6_init 30 = .ok (.aload_n 0, 1) := by decide +kernel
theorem dX6_init_31 : decode cX6_init 31 = .ok (.bipush 32, 2) := by decide +kernel
theorem dX6_init_33 : decode cX6_init 33 = .ok (.newarray .int, 2) := by decide +kernel
theorem dX6_init_35 : decode cX6_init 35 = .ok (.putfield 25, 3) := by decide +kernel
theorem dX6_init_38 : decode cX6_init 38 = .ok (.aload_n 0, 1) := by decide +kernel
theorem dX6_init_39 : decode cX6_init 39 = .ok (.bipush 32, 2) := by decide +kernel
theorem dX6_init_41 : decode cX6_init 41 = .ok (.newarray .int, 2) := by decide +kernel
theorem dX6_init_43 : decode cX6_init 43 = .ok (.putfield 28, 3) := by decide +kernel
theorem dX6_init_46 : decode cX6_init 46 = .ok (.aload_n 0, 1) := by decide +kernel
theorem dX6_init_47 : decode cX6_init 47 = .ok (.bipush 32, 2) := by decide +kernel
theorem dX6_init_49 : decode cX6_init 49 = .ok (.newarray .int, 2) := by decide +kernel
theorem dX6_init_51 : decode cX6_init 51 = .ok (.putfield 31, 3) := by decide +kernel
theorem dX6_init_54 : decode cX6_init 54 = .ok (.aload_n 0, 1) := by decide +kernel
theorem dX6_init_55 : decode cX6_init 55 = .ok (.bipush 32, 2) := by decide +kernel
theorem dX6_init_57 : decode cX6_init 57 = .ok (.newarray .int, 2) := by decide +kernel
theorem dX6_init_59 : decode cX6_init 59 = .ok (.putfield 34, 3) := by decide +kernel
theorem dX6_init_62 : decode cX6_init 62 = .ok (.aload_n 0, 1) := by decide +kernel
theorem dX6_init_63 : decode cX6_init 63 = .ok (.bipush 32, 2) := by decide +kernel
theorem dX6_init_65 : decode cX6_init 65 = .ok (.newarray .int, 2) := by decide +kernel
theorem dX6_init_67 : decode cX6_init 67 = .ok (.putfield 37, 3) := by decide +kernel
theorem dX6_init_70 : decode cX6_init 70 = .ok (.aload_n 0, 1) := by decide +kernel
theorem dX6_init_71 : decode cX6_init 71 = .ok (.bipush 8, 2) := by decide +kernel
theorem dX6_init_73 : decode cX6_init 73 = .ok (.newarray .int, 2) := by decide +kernel
theorem dX6_init_75 : decode cX6_init 75 = .ok (.putfield 40, 3) := by decide +kernel
theorem dX6_init_78 : decode cX6_init 78 = .ok (.aload_n 0, 1) := by decide +kernel
theorem dX6_init_79 : decode cX6_init 79 = .ok (.bipush 32, 2) := by decide +kernel
theorem dX6_init_81 : decode cX6_init 81 = .ok (.newarray .int, 2) := by decide +kernel
theorem dX6_init_83 : decode cX6_init 83 = .ok (.putfield 43, 3) := by decide +kernel
theorem dX6_init_86 : decode cX6_init 86 = .ok (.return_, 1) := by decide +kernel
theorem dX6_copyFrom_0 : decode cX6_copyFrom 0 = .ok (.aload_n 0, 1) := by decide +kernel
theorem dX6_copyFrom_1 : decode cX6_copyFrom 1 = .ok (.aload_n 1, 1) := by decide +kernel
theorem dX6_copyFrom_2 : decode cX6_copyFrom 2 = .ok (.getfield 9, 3) := by decide +kernel
theorem dX6_copyFrom_5 : decode cX6_copyFrom 5 = .ok (.putfield 9, 3) := by decide +kernel
theorem dX6_copyFrom_8 : decode cX6_copyFrom 8 = .ok (.aload_n 0, 1) := by decide +kernel
theorem dX6_copyFrom_9 : decode cX6_copyFrom 9 = .ok (.aload_n 1, 1) := by decide +kernel
theorem dX6_copyFrom_10 : decode cX6_copyFrom 10 = .ok (.getfield 15, 3) := by decide +kernel
theorem dX6_copyFrom_13 : decode cX6_copyFrom 13 = .ok (.putfield 15, 3) := by decide +kernel
theorem dX6_copyFrom_16 : decode cX6_copyFrom 16 = .ok (.aload_n 1, 1) := by decide +kernel
theorem dX6_copyFrom_17 : decode cX6_copyFrom 17 = .ok (.getfield 18, 3) := by decide +kernel
theorem dX6_copyFrom_20 : decode cX6_copyFrom 20 = .ok (.iconst 0, 1) := by decide +kernel
theorem dX6_copyFrom_21 : decode cX6_copyFrom 21 = .ok (.aload_n 0, 1) := by decide +kernel
theorem dX6_copyFrom_22 : decode cX6_copyFrom 22 = .ok (.getfield 18, 3) := by decide +kernel
theorem dX6_copyFrom_25 : decode cX6_copyFrom 25 = .ok (.iconst 0, 1) := by decide +kernel
theorem dX6_copyFrom_26 : decode cX6_copyFrom 26 = .ok (.bipush 32, 2) := by decide +kernel
theorem dX6_copyFrom_28 : decode cX6_copyFrom 28 = .ok (.invokestatic 46, 3) := by decide +kernel
theorem dX6_copyFrom_31 : decode cX6_copyFrom 31 = .ok (.aload_n 1, 1) := by decide +kernel
theorem dX6_copyFrom_32 : decode cX6_copyFrom 32 = .ok (.getfield 22, 3) := by decide +kernel
theorem dX6_copyFrom_35 : decode cX6_copyFrom 35 = .ok (.iconst 0, 1) := by decide +kernel
theorem dX6_copyFrom_36 : decode cX6_copyFrom 36 = .ok (.aload_n 0, 1) := by decide +kernel
theorem dX6_copyFrom_37 : decode cX6_copyFrom 37 = .ok (.getfield 22, 3) := by decide +kernel
theorem dX6_copyFrom_40 : decode cX6_copyFrom 40 = .ok (.iconst 0, 1) := by decide +kernel
theorem dX6_copyFrom_41 : decode cX6_copyFrom 41 = .ok (.bipush 32, 2) := by decide +kernel
theorem dX6_copyFrom_43 : decode cX6_copyFrom 43 = .ok (.invokestatic 46, 3) := by decide +kernel
theorem dX6_copyFrom_46 : decode cX6_copyFrom 46 = .ok (.aload_n 1, 1) := by decide +kernel
theorem dX6_copyFrom_47 : decode cX6_copyFrom 47 = .ok (.getfield 25, 3) := by decide +kernel
theorem dX6_copyFrom_50 : decode cX6_copyFrom 50 = .ok (.iconst 0, 1) := by decide +kernel
theorem dX6_copyFrom_51 : decode cX6_copyFrom 51 = .ok (.aload_n 0, 1) := by decide +kernel
theorem dX6_copyFrom_52 : decode cX6_copyFrom 52 = .ok (.getfield 25, 3) := by decide +kernel
theorem dX6_copyFrom_55 : decode cX6_copyFrom 55 = .ok (.iconst 0, 1) := by decide +kernel
theorem dX6_copyFrom_56 : decode cX6_copyFrom 56 = .ok (.bipush 32, 2) := by decide +kernel
theorem dX6_copyFrom_58 : decode cX6_copyFrom 58 = .ok (.invokestatic 46, 3) := by decide +kernel
theorem dX6_copyFrom_61 : decode cX6_copyFrom 61 = .ok (.aload_n 1, 1) := by decide +kernel
theorem dX6_copyFrom_62 : decode cX6_copyFrom 62 = .ok (.getfield 28, 3) := by decide +kernel
theorem dX6_copyFrom_65 : decode cX6_copyFrom 65 = .ok (.iconst 0, 1) := by decide +kernel
theorem dX6_copyFrom_66 : decode cX6_copyFrom 66 = .ok (.aload_n 0, 1) := by decide +kernel
theorem dX6_copyFrom_67 : decode cX6_copyFrom 67 = .ok (.getfield 28, 3) := by decide +kernel
theorem dX6_copyFrom_70 : decode cX6_copyFrom 70 = .ok (.iconst 0, 1) := by decide +kernel
theorem dX6_copyFrom_71 : decode cX6_copyFrom 71 = .ok (.bipush 32, 2) := by decide +kernel
theorem dX6_copyFrom_73 : decode cX6_copyFrom 73 = .ok (.invokestatic 46, 3) := by decide +kernel
theorem dX6_copyFrom_76 : decode cX6_copyFrom 76 = .ok (.aload_n 1, 1) := by decide +kernel
theorem dX6_copyFrom_77 : decode cX6_copyFrom 77 = .ok (.getfield 31, 3) := by decide +kernel
theorem dX6_copyFrom_80 : decode cX6_copyFrom 80 = .ok (.iconst 0, 1) := by decide +kernel
theorem dX6_copyFrom_81 : decode cX6_copyFrom 81 = .ok (.aload_n 0, 1) := by decide +kernel
theorem dX6_copyFrom_82 : decode cX6_copyFrom 82 = .ok (.getfield 31, 3) := by decide +kernel
theorem dX6_copyFrom_85 : decode cX6_copyFrom 85 = .ok (.iconst 0, 1) := by decide +kernel
theorem dX6_copyFrom_86 : decode cX6_copyFrom 86 = .ok (.bipush 32, 2) := by decide +kernel
theorem dX6_copyFrom_88 : decode cX6_copyFrom 88 = .ok (.invokestatic 46, 3) := by decide +kernel
theorem dX6_copyFrom_91 : decode cX6_copyFrom 91 = .ok (.aload_n 1, 1) := by decide +kernel
theorem dX6_copyFrom_92 : decode cX6_copyFrom 92 = .ok (.getfield 34, 3) := by decide +kernel
theorem dX6_copyFrom_95 : decode cX6_copyFrom 95 = .ok (.iconst 0, 1) := by decide +kernel
theorem dX6_copyFrom_96 : decode cX6_copyFrom 96 = .ok (.aload_n 0, 1) := by decide +kernel
theorem dX6_copyFrom_97 : decode cX6_copyFrom 97 = .ok (.getfield 34, 3) := by decide +kernel
theorem dX6_copyFrom_100 : decode cX6_copyFrom 100 = .ok (.iconst 0, 1) := by decide +kernel
theorem dX6_copyFrom_101 : decode cX6_copyFrom 101 = .ok (.bipush 32, 2) := by decide +kernel
theorem dX6_copyFrom_103 : decode cX6_copyFrom 103 = .ok (.invokestatic 46, 3) := by decide +kernel
theorem dX6_copyFrom_106 : decode cX6_copyFrom 106 = .ok (.aload_n 1, 1) := by decide +kernel
theorem dX6_copyFrom_107 : decode cX6_copyFrom 107 = .ok (.getfield 37, 3) := by decide +kernel
theorem dX6_copyFrom_110 : decode cX6_copyFrom 110 = .ok (.iconst 0, 1) := by decide +kernel
theorem dX6_copyFrom_111 : decode cX6_copyFrom 111 = .ok (.aload_n 0, 1) := by decide +kernel
theorem dX6_copyFrom_112 : decode cX6_copyFrom 112 = .ok (.getfield 37, 3) := by decide +kernel
theorem dX6_copyFrom_115 : decode cX6_copyFrom 115 = .ok (.iconst 0, 1) := by decide +kernel
theorem dX6_copyFrom_116 : decode cX6_copyFrom 116 = .ok (.bipush 32, 2) := by decide +kernel
theorem dX6_copyFrom_118 : decode cX6_copyFrom 118 = .ok (.invokestatic 46, 3) := by decide +kernel
theorem dX6_copyFrom_121 : decode cX6_copyFrom 121 = .ok (.aload_n 1, 1) := by decide +kernel
theorem dX6_copyFrom_122 : decode cX6_copyFrom 122 = .ok (.getfield 40, 3) := by decide +kernel
theorem dX6_copyFrom_125 : decode cX6_copyFrom 125 = .ok (.iconst 0, 1) := by decide +kernel
theorem dX6_copyFrom_126 : decode cX6_copyFrom 126 = .ok (.aload_n 0, 1) := by decide +kernel
theorem dX6_copyFrom_127 : decode cX6_copyFrom 127 = .ok (.getfield 40, 3) := by decide +kernel
theorem dX6_copyFrom_130 : decode cX6_copyFrom 130 = .ok (.iconst 0, 1) := by decide +kernel
theorem dX6_copyFrom_131 : decode cX6_copyFrom 131 = .ok (.bipush 8, 2) := by decide +kernel
theorem dX6_copyFrom_133 : decode cX6_copyFrom 133 = .ok (.invokestatic 46, 3) := by decide +kernel
theorem dX6_copyFrom_136 : decode cX6_copyFrom 136 = .ok (.return_, 1) := by decide +kernel
theorem dX6_add_0 : decode cX6_add 0 = .ok (.aload_n 0, 1) := by decide +kernel
theorem dX6_add_1 : decode cX6_add 1 = .ok (.getfield 9, 3) := by decide +kernel
theorem dX6_add_4 : decode cX6_add 4 = .ok (.bipush 32, 2) := by decide +kernel
theorem dX6_add_6 : decode cX6_add 6 = .ok (.if_icmp .lt 4, 3) := by decide +kernel
theorem dX6_add_9 : decode cX6_add 9 = .ok (.return_, 1) := by decide +kernel
theorem dX6_add_10 : decode cX6_add 10 = .ok (.aload_n 0, 1) := by decide +kernel
theorem dX6_add_11 : decode cX6_add 11 = .ok (.getfield 18, 3) := by decide +kernel
theorem dX6_add_14 : decode cX6_add 14 = .ok (.aload_n 0, 1) := by decide +kernel
theorem dX6_add_15 : decode cX6_add 15 = .ok (.getfield 9, 3) := by decide +kernel
theorem dX6_add_18 : decode cX6_add 18 = .ok (.iconst 0, 1) := by decide +kernel
theorem dX6_add_19 : decode cX6_add 19 = .ok (.iastore, 1) := by decide +kernel
theorem dX6_add_20 : decode cX6_add 20 = .ok (.aload_n 0, 1) := by decide +kernel
theorem dX6_add_21 : decode cX6_add 21 = .ok (.getfield 22, 3) := by decide +kernel
theorem dX6_add_24 : decode cX6_add 24 = .ok (.aload_n 0, 1) := by decide +kernel
theorem dX6_add_25 : decode cX6_add 25 = .ok (.getfield 9, 3) := by decide +kernel
theorem dX6_add_28 : decode cX6_add 28 = .ok (.iload_n 1, 1) := by decide +kernel
theorem dX6_add_29 : decode cX6_add 29 = .ok (.iastore, 1) := by decide +kernel
theorem dX6_add_30 : decode cX6_add 30 = .ok (.aload_n 0, 1) := by decide +kernel
theorem dX6_add_31 : decode cX6_add 31 = .ok (.getfield 25, 3) := by decide +kernel
theorem dX6_add_34 : decode cX6_add 34 = .ok (.aload_n 0, 1) := by decide +kernel
theorem dX6_add_35 : decode cX6_add 35 = .ok (.getfield 9, 3) := by decide +kernel
theorem dX6_add_38 : decode cX6_add 38 = .ok (.iload_n 2, 1) := by decide +kernel
theorem dX6_add_39 : decode cX6_add 39 = .ok (.iastore, 1) := by decide +kernel
theorem dX6_add_40 : decode cX6_add 40 = .ok (.aload_n 0, 1) := by decide +kernel
theorem dX6_add_41 : decode cX6_add 41 = .ok (.getfield 28, 3) := by decide +kernel
theorem dX6_add_44 : decode cX6_add 44 = .ok (.aload_n 0, 1) := by decide +kernel
theorem dX6_add_45 : decode cX6_add 45 = .ok (.getfield 9, 3) := by decide +kernel
theorem dX6_add_48 : decode cX6_add 48 = .ok (.iload_n 3, 1) := by decide +kernel
theorem dX6_add_49 : decode cX6_add 49 = .ok (.iastore, 1) := by decide +kernel
theorem dX6_add_50 : decode cX6_add 50 = .ok (.aload_n 0, 1) := by decide +kernel
theorem dX6_add_51 : decode cX6_add 51 = .ok (.getfield 31, 3) := by decide +kernel
theorem dX6_add_54 : decode cX6_add 54 = .ok (.aload_n 0, 1) := by decide +kernel
theorem dX6_add_55 : decode cX6_add 55 = .ok (.getfield 9, 3) := by decide +kernel
theorem dX6_add_58 : decode cX6_add 58 = .ok (.iload 4, 2) := by decide +kernel
theorem dX6_add_60 : decode cX6_add 60 = .ok (.iastore, 1) := by decide +kernel
theorem dX6_add_61 : decode cX6_add 61 = .ok (.aload_n 0, 1) := by decide +kernel
theorem dX6_add_62 : decode cX6_add 62 = .ok (.getfield 34, 3) := by decide +kernel
theorem dX6_add_65 : decode cX6_add 65 = .ok (.aload_n 0, 1) := by decide +kernel
theorem dX6_add_66 : decode cX6_add 66 = .ok (.getfield 9, 3) := by decide +kernel
theorem dX6_add_69 : decode cX6_add 69 = .ok (.iconst (-1), 1) := by decide +kernel
theorem dX6_add_70 : decode cX6_add 70 = .ok (.iastore, 1) := by decide +kernel
theorem dX6_add_71 : decode cX6_add 71 = .ok (.aload_n 0, 1) := by decide +kernel
theorem dX6_add_72 : decode cX6_add 72 = .ok (.getfield 37, 3) := by decide +kernel
theorem dX6_add_75 : decode cX6_add 75 = .ok (.aload_n 0, 1) := by decide +kernel
theorem dX6_add_76 : decode cX6_add 76 = .ok (.getfield 9, 3) := by decide +kernel
theorem dX6_add_79 : decode cX6_add 79 = .ok (.iconst (-1), 1) := by decide +kernel
theorem dX6_add_80 : decode cX6_add 80 = .ok (.iastore, 1) := by decide +kernel
theorem dX6_add_81 : decode cX6_add 81 = .ok (.aload_n 0, 1) := by decide +kernel
theorem dX6_add_82 : decode cX6_add 82 = .ok (.dup, 1) := by decide +kernel
theorem dX6_add_83 : decode cX6_add 83 = .ok (.getfield 9, 3) := by decide +kernel
theorem dX6_add_86 : decode cX6_add 86 = .ok (.iconst 1, 1) := by decide +kernel
theorem dX6_add_87 : decode cX6_add 87 = .ok (.iadd, 1) := by decide +kernel
theorem dX6_add_88 : decode cX6_add 88 = .ok (.putfield 9, 3) := by decide +kernel
theorem dX6_add_91 : decode cX6_add 91 = .ok (.return_, 1) := by decide +kernel
theorem dX6_addFence_0 : decode cX6_addFence 0 = .ok (.aload_n 0, 1) := by decide +kernel
theorem dX6_addFence_1 : decode cX6_addFence 1 = .ok (.getfield 15, 3) := by decide +kernel
theorem dX6_addFence_4 : decode cX6_addFence 4 = .ok (.bipush 8, 2) := by decide +kernel
theorem dX6_addFence_6 : decode cX6_addFence 6 = .ok (.if_icmp .ge 26, 3) := by decide +kernel
theorem dX6_addFence_9 : decode cX6_addFence 9 = .ok (.aload_n 0, 1) := by decide +kernel
theorem dX6_addFence_10 : decode cX6_addFence 10 = .ok (.getfield 40, 3) := by decide +kernel
theorem dX6_addFence_13 : decode cX6_addFence 13 = .ok (.aload_n 0, 1) := by decide +kernel
theorem dX6_addFence_14 : decode cX6_addFence 14 = .ok (.getfield 15, 3) := by decide +kernel
theorem dX6_addFence_17 : decode cX6_addFence 17 = .ok (.aload_n 0, 1) := by decide +kernel
theorem dX6_addFence_18 : decode cX6_addFence 18 = .ok (.getfield 9, 3) := by decide +kernel
theorem dX6_addFence_21 : decode cX6_addFence 21 = .ok (.iastore, 1) := by decide +kernel
theorem dX6_addFence_22 : decode cX6_addFence 22 = .ok (.aload_n 0, 1) := by decide +kernel
theorem dX6_addFence_23 : decode cX6_addFence 23 = .ok (.dup, 1) := by decide +kernel
theorem dX6_addFence_24 : decode cX6_addFence 24 = .ok (.getfield 15, 3) := by decide +kernel
theorem dX6_addFence_27 : decode cX6_addFence 27 = .ok (.iconst 1, 1) := by decide +kernel
theorem dX6_addFence_28 : decode cX6_addFence 28 = .ok (.iadd, 1) := by decide +kernel
theorem dX6_addFence_29 : decode cX6_addFence 29 = .ok (.putfield 15, 3) := by decide +kernel
theorem dX6_addFence_32 : decode cX6_addFence 32 = .ok (.return_, 1) := by decide +kernel
theorem dX6_startAgainOn_0 : decode cX6_startAgainOn 0 = .ok (.iconst 0, 1) := by decide +kernel
theorem dX6_startAgainOn_1 : decode cX6_startAgainOn 1 = .ok (.istore_n 2, 1) := by decide +kernel
theorem dX6_startAgainOn_2 : decode cX6_startAgainOn 2 = .ok (.iload_n 2, 1) := by decide +kernel
theorem dX6_startAgainOn_3 : decode cX6_startAgainOn 3 = .ok (.aload_n 0, 1) := by decide +kernel
theorem dX6_startAgainOn_4 : decode cX6_startAgainOn 4 = .ok (.getfield 9, 3) := by decide +kernel
theorem dX6_startAgainOn_7 : decode cX6_startAgainOn 7 = .ok (.if_icmp .ge 44, 3) := by decide +kernel
theorem dX6_startAgainOn_10 : decode cX6_startAgainOn 10 = .ok (.aload_n 0, 1) := by decide +kernel
theorem dX6_startAgainOn_11 : decode cX6_startAgainOn 11 = .ok (.getfield 18, 3) := by decide +kernel
theorem dX6_startAgainOn_14 : decode cX6_startAgainOn 14 = .ok (.iload_n 2, 1) := by decide +kernel
theorem dX6_startAgainOn_15 : decode cX6_startAgainOn 15 = .ok (.iaload, 1) := by decide +kernel
theorem dX6_startAgainOn_16 : decode cX6_startAgainOn 16 = .ok (.iconst 5, 1) := by decide +kernel
theorem dX6_startAgainOn_17 : decode cX6_startAgainOn 17 = .ok (.if_icmp .eq 10, 3) := by decide +kernel
theorem dX6_startAgainOn_20 : decode cX6_startAgainOn 20 = .ok (.aload_n 0, 1) := by decide +kernel
theorem dX6_startAgainOn_21 : decode cX6_startAgainOn 21 = .ok (.getfield 18, 3) := by decide +kernel
theorem dX6_startAgainOn_24 : decode cX6_startAgainOn 24 = .ok (.iload_n 2, 1) := by decide +kernel
theorem dX6_startAgainOn_25 : decode cX6_startAgainOn 25 = .ok (.iconst 0, 1) := by decide +kernel
theorem dX6_startAgainOn_26 : decode cX6_startAgainOn 26 = .ok (.iastore, 1) := by decide +kernel
theorem dX6_startAgainOn_27 : decode cX6_startAgainOn 27 = .ok (.iload_n 1, 1) := by decide +kernel
theorem dX6_startAgainOn_28 : decode cX6_startAgainOn 28 = .ok (.ifCond .le 17, 3) := by decide +kernel
theorem dX6_startAgainOn_31 : decode cX6_startAgainOn 31 = .ok (.aload_n 0, 1) := by decide +kernel
theorem dX6_startAgainOn_32 : decode cX6_startAgainOn 32 = .ok (.getfield 28, 3) := by decide +kernel
theorem dX6_startAgainOn_35 : decode cX6_startAgainOn 35 = .ok (.iload_n 2, 1) := by decide +kernel
theorem dX6_startAgainOn_36 : decode cX6_startAgainOn 36 = .ok (.aload_n 0, 1) := by decide +kernel
theorem dX6_startAgainOn_37 : decode cX6_startAgainOn 37 = .ok (.getfield 28, 3) := by decide +kernel
theorem dX6_startAgainOn_40 : decode cX6_startAgainOn 40 = .ok (.iload_n 2, 1) := by decide +kernel
theorem dX6_startAgainOn_41 : decode cX6_startAgainOn 41 = .ok (.iaload, 1) := by decide +kernel
theorem dX6_startAgainOn_42 : decode cX6_startAgainOn 42 = .ok (.iload_n 1, 1) := by decide +kernel
theorem dX6_startAgainOn_43 : decode cX6_startAgainOn 43 = .ok (.irem, 1) := by decide +kernel
theorem dX6_startAgainOn_44 : decode cX6_startAgainOn 44 = .ok (.iastore, 1) := by decide +kernel
theorem dX6_startAgainOn_45 : decode cX6_startAgainOn 45 = .ok (.iinc 2 1, 3) := by decide +kernel
theorem dX6_startAgainOn_48 : decode cX6_startAgainOn 48 = .ok (.goto (-46), 3) := by decide +kernel
theorem dX6_startAgainOn_51 : decode cX6_startAgainOn 51 = .ok (.return_, 1) := by decide +kernel
theorem dX6_unfinishedBits_0 : decode cX6_unfinishedBits 0 = .ok (.iconst 0, 1) := by decide +kernel
theorem dX6_unfinishedBits_1 : decode cX6_unfinishedBits 1 = .ok (.istore_n 1, 1) := by decide +kernel
theorem dX6_unfinishedBits_2 : decode cX6_unfinishedBits 2 = .ok (.iconst 0, 1) := by decide +kernel
theorem dX6_unfinishedBits_3 : decode cX6_unfinishedBits 3 = .ok (.istore_n 2, 1) := by decide +kernel
theorem dX6_unfinishedBits_4 : decode cX6_unfinishedBits 4 = .ok (.iload_n 2, 1) := by decide +kernel
theorem dX6_unfinishedBits_5 : decode cX6_unfinishedBits 5 = .ok (.aload_n 0, 1) := by decide +kernel
theorem dX6_unfinishedBits_6 : decode cX6_unfinishedBits 6 = .ok (.getfield 9, 3) := by decide +kernel
theorem dX6_unfinishedBits_9 : decode cX6_unfinishedBits 9 = .ok (.if_icmp .ge 35, 3) := by decide +kernel
theorem dX6_unfinishedBits_12 : decode cX6_unfinishedBits 12 = .ok (.aload_n 0, 1) := by decide +kernel
theorem dX6_unfinishedBits_13 : decode cX6_unfinishedBits 13 = .ok (.getfield 18, 3) := by decide +kernel
theorem dX6_unfinishedBits_16 : decode cX6_unfinishedBits 16 = .ok (.iload_n 2, 1) := by decide +kernel
theorem dX6_unfinishedBits_17 : decode cX6_unfinishedBits 17 = .ok (.iaload, 1) := by decide +kernel
theorem dX6_unfinishedBits_18 : decode cX6_unfinishedBits 18 = .ok (.iconst 4, 1) := by decide +kernel
theorem dX6_unfinishedBits_19 : decode cX6_unfinishedBits 19 = .ok (.if_icmp .eq 19, 3) := by decide +kernel
theorem dX6_unfinishedBits_22 : decode cX6_unfinishedBits 22 = .ok (.aload_n 0, 1) := by decide +kernel
theorem dX6_unfinishedBits_23 : decode cX6_unfinishedBits 23 = .ok (.getfield 18, 3) := by decide +kernel
theorem dX6_unfinishedBits_26 : decode cX6_unfinishedBits 26 = .ok (.iload_n 2, 1) := by decide +kernel
theorem dX6_unfinishedBits_27 : decode cX6_unfinishedBits 27 = .ok (.iaload, 1) := by decide +kernel
theorem dX6_unfinishedBits_28 : decode cX6_unfinishedBits 28 = .ok (.iconst 5, 1) := by decide +kernel
theorem dX6_unfinishedBits_29 : decode cX6_unfinishedBits 29 = .ok (.if_icmp .eq 9, 3) := by decide +kernel
theorem dX6_unfinishedBits_32 : decode cX6_unfinishedBits 32 = .ok (.iload_n 1, 1) := by decide +kernel
theorem dX6_unfinishedBits_33 : decode cX6_unfinishedBits 33 = .ok (.iconst 1, 1) := by decide +kernel
theorem dX6_unfinishedBits_34 : decode cX6_unfinishedBits 34 = .ok (.iload_n 2, 1) := by decide +kernel
theorem dX6_unfinishedBits_35 : decode cX6_unfinishedBits 35 = .ok (.ishl, 1) := by decide +kernel
theorem dX6_unfinishedBits_36 : decode cX6_unfinishedBits 36 = .ok (.ior, 1) := by decide +kernel
theorem dX6_unfinishedBits_37 : decode cX6_unfinishedBits 37 = .ok (.istore_n 1, 1) := by decide +kernel
theorem dX6_unfinishedBits_38 : decode cX6_unfinishedBits 38 = .ok (.iinc 2 1, 3) := by decide +kernel
theorem dX6_unfinishedBits_41 : decode cX6_unfinishedBits 41 = .ok (.goto (-37), 3) := by decide +kernel
theorem dX6_unfinishedBits_44 : decode cX6_unfinishedBits 44 = .ok (.iload_n 1, 1) := by decide +kernel
theorem dX6_unfinishedBits_45 : decode cX6_unfinishedBits 45 = .ok (.ireturn, 1) := by decide +kernel
theorem dX6_finishedTotal_0 : decode cX6_finishedTotal 0 = .ok (.aload_n 0, 1) := by decide +kernel
theorem dX6_finishedTotal_1 : decode cX6_finishedTotal 1 = .ok (.getfield 9, 3) := by decide +kernel
theorem dX6_finishedTotal_4 : decode cX6_finishedTotal 4 = .ok (.aload_n 0, 1) := by decide +kernel
theorem dX6_finishedTotal_5 : decode cX6_finishedTotal 5 = .ok (.invokevirtual 52, 3) := by decide +kernel
theorem dX6_finishedTotal_8 : decode cX6_finishedTotal 8 = .ok (.invokestatic 56, 3) := by decide +kernel
theorem dX6_finishedTotal_11 : decode cX6_finishedTotal 11 = .ok (.isub, 1) := by decide +kernel
theorem dX6_finishedTotal_12 : decode cX6_finishedTotal 12 = .ok (.ireturn, 1) := by decide +kernel
theorem dX6_opens_0 : decode cX6_opens 0 = .ok (.aload_n 0, 1) := by decide +kernel
theorem dX6_opens_1 : decode cX6_opens 1 = .ok (.getfield 40, 3) := by decide +kernel
theorem dX6_opens_4 : decode cX6_opens 4 = .ok (.iload_n 1, 1) := by decide +kernel
theorem dX6_opens_5 : decode cX6_opens 5 = .ok (.iaload, 1) := by decide +kernel
theorem dX6_opens_6 : decode cX6_opens 6 = .ok (.istore_n 3, 1) := by decide +kernel
theorem dX6_opens_7 : decode cX6_opens 7 = .ok (.iload_n 3, 1) := by decide +kernel
theorem dX6_opens_8 : decode cX6_opens 8 = .ok (.bipush 32, 2) := by decide +kernel
theorem dX6_opens_10 : decode cX6_opens 10 = .ok (.if_icmp .ge 11, 3) := by decide +kernel
theorem dX6_opens_13 : decode cX6_opens 13 = .ok (.iconst 1, 1) := by decide +kernel
theorem dX6_opens_14 : decode cX6_opens 14 = .ok (.iload_n 3, 1) := by decide +kernel
theorem dX6_opens_15 : decode cX6_opens 15 = .ok (.ishl, 1) := by decide +kernel
theorem dX6_opens_16 : decode cX6_opens 16 = .ok (.iconst 1, 1) := by decide +kernel
theorem dX6_opens_17 : decode cX6_opens 17 = .ok (.isub, 1) := by decide +kernel
theorem dX6_opens_18 : decode cX6_opens 18 = .ok (.goto 4, 3) := by decide +kernel
theorem dX6_opens_21 : decode cX6_opens 21 = .ok (.iconst (-1), 1) := by decide +kernel
theorem dX6_opens_22 : decode cX6_opens 22 = .ok (.istore 4, 2) := by decide +kernel
theorem dX6_opens_24 : decode cX6_opens 24 = .ok (.iload_n 2, 1) := by decide +kernel
theorem dX6_opens_25 : decode cX6_opens 25 = .ok (.iload 4, 2) := by decide +kernel
theorem dX6_opens_27 : decode cX6_opens 27 = .ok (.iand, 1) := by decide +kernel
theorem dX6_opens_28 : decode cX6_opens 28 = .ok (.ifCond .ne 7, 3) := by decide +kernel
theorem dX6_opens_31 : decode cX6_opens 31 = .ok (.iconst 1, 1) := by decide +kernel
theorem dX6_opens_32 : decode cX6_opens 32 = .ok (.goto 4, 3) := by decide +kernel
theorem dX6_opens_35 : decode cX6_opens 35 = .ok (.iconst 0, 1) := by decide +kernel
theorem dX6_opens_36 : decode cX6_opens 36 = .ok (.ireturn, 1) := by decide +kernel
theorem dX6_counterOf_0 : decode cX6_counterOf 0 = .ok (.aload_n 0, 1) := by decide +kernel
theorem dX6_counterOf_1 : decode cX6_counterOf 1 = .ok (.getfield 31, 3) := by decide +kernel
theorem dX6_counterOf_4 : decode cX6_counterOf 4 = .ok (.iload_n 1, 1) := by decide +kernel
theorem dX6_counterOf_5 : decode cX6_counterOf 5 = .ok (.iaload, 1) := by decide +kernel
theorem dX6_counterOf_6 : decode cX6_counterOf 6 = .ok (.iload_n 2, 1) := by decide +kernel
theorem dX6_counterOf_7 : decode cX6_counterOf 7 = .ok (.iand, 1) := by decide +kernel
theorem dX6_counterOf_8 : decode cX6_counterOf 8 = .ok (.invokestatic 56, 3) := by decide +kernel
theorem dX6_counterOf_11 : decode cX6_counterOf 11 = .ok (.istore_n 3, 1) := by decide +kernel
theorem dX6_counterOf_12 : decode cX6_counterOf 12 = .ok (.iconst 0, 1) := by decide +kernel
theorem dX6_counterOf_13 : decode cX6_counterOf 13 = .ok (.istore 4, 2) := by decide +kernel
theorem dX6_counterOf_15 : decode cX6_counterOf 15 = .ok (.iload 4, 2) := by decide +kernel
theorem dX6_counterOf_17 : decode cX6_counterOf 17 = .ok (.aload_n 0, 1) := by decide +kernel
theorem dX6_counterOf_18 : decode cX6_counterOf 18 = .ok (.getfield 15, 3) := by decide +kernel
theorem dX6_counterOf_21 : decode cX6_counterOf 21 = .ok (.if_icmp .ge 33, 3) := by decide +kernel
theorem dX6_counterOf_24 : decode cX6_counterOf 24 = .ok (.aload_n 0, 1) := by decide +kernel
theorem dX6_counterOf_25 : decode cX6_counterOf 25 = .ok (.getfield 40, 3) := by decide +kernel
theorem dX6_counterOf_28 : decode cX6_counterOf 28 = .ok (.iload 4, 2) := by decide +kernel
theorem dX6_counterOf_30 : decode cX6_counterOf 30 = .ok (.iaload, 1) := by decide +kernel
theorem dX6_counterOf_31 : decode cX6_counterOf 31 = .ok (.iload_n 1, 1) := by decide +kernel
theorem dX6_counterOf_32 : decode cX6_counterOf 32 = .ok (.if_icmp .gt 16, 3) := by decide +kernel
theorem dX6_counterOf_35 : decode cX6_counterOf 35 = .ok (.aload_n 0, 1) := by decide +kernel
theorem dX6_counterOf_36 : decode cX6_counterOf 36 = .ok (.iload 4, 2) := by decide +kernel
theorem dX6_counterOf_38 : decode cX6_counterOf 38 = .ok (.iload_n 2, 1) := by decide +kernel
theorem dX6_counterOf_39 : decode cX6_counterOf 39 = .ok (.invokevirtual 62, 3) := by decide +kernel
theorem dX6_counterOf_42 : decode cX6_counterOf 42 = .ok (.ifCond .ne 6, 3) := by decide +kernel
theorem dX6_counterOf_45 : decode cX6_counterOf 45 = .ok (.iinc 3 1, 3) := by decide +kernel
theorem dX6_counterOf_48 : decode cX6_counterOf 48 = .ok (.iinc 4 1, 3) := by decide +kernel
theorem dX6_counterOf_51 : decode cX6_counterOf 51 = .ok (.goto (-36), 3) := by decide +kernel
theorem dX6_counterOf_54 : decode cX6_counterOf 54 = .ok (.iload_n 3, 1) := by decide +kernel
theorem dX6_counterOf_55 : decode cX6_counterOf 55 = .ok (.ireturn, 1) := by decide +kernel
theorem dX6_longestChain_0 : decode cX6_longestChain 0 = .ok (.aload_n 0, 1) := by decide +kernel
theorem dX6_longestChain_1 : decode cX6_longestChain 1 = .ok (.invokevirtual 52, 3) := by decide +kernel
theorem dX6_longestChain_4 : decode cX6_longestChain 4 = .ok (.istore_n 1, 1) := by decide +kernel
theorem dX6_longestChain_5 : decode cX6_longestChain 5 = .ok (.iconst 0, 1) := by decide +kernel
theorem dX6_longestChain_6 : decode cX6_longestChain 6 = .ok (.istore_n 2, 1) := by decide +kernel
theorem dX6_longestChain_7 : decode cX6_longestChain 7 = .ok (.iconst 0, 1) := by decide +kernel
theorem dX6_longestChain_8 : decode cX6_longestChain 8 = .ok (.istore_n 3, 1) := by decide +kernel
theorem dX6_longestChain_9 : decode cX6_longestChain 9 = .ok (.iload_n 3, 1) := by decide +kernel
theorem dX6_longestChain_10 : decode cX6_longestChain 10 = .ok (.aload_n 0, 1) := by decide +kernel
theorem dX6_longestChain_11 : decode cX6_longestChain 11 = .ok (.getfield 9, 3) := by decide +kernel
theorem dX6_longestChain_14 : decode cX6_longestChain 14 = .ok (.if_icmp .ge 53, 3) := by decide +kernel
theorem dX6_longestChain_17 : decode cX6_longestChain 17 = .ok (.aload_n 0, 1) := by decide +kernel
theorem dX6_longestChain_18 : decode cX6_longestChain 18 = .ok (.getfield 43, 3) := by decide +kernel
theorem dX6_longestChain_21 : decode cX6_longestChain 21 = .ok (.iload_n 3, 1) := by decide +kernel
theorem dX6_longestChain_22 : decode cX6_longestChain 22 = .ok (.iconst 0, 1) := by decide +kernel
theorem dX6_longestChain_23 : decode cX6_longestChain 23 = .ok (.iastore, 1) := by decide +kernel
theorem dX6_longestChain_24 : decode cX6_longestChain 24 = .ok (.iload_n 1, 1) := by decide +kernel
theorem dX6_longestChain_25 : decode cX6_longestChain 25 = .ok (.iload_n 3, 1) := by decide +kernel
theorem dX6_longestChain_26 : decode cX6_longestChain 26 = .ok (.invokestatic 66, 3) := by decide +kernel
theorem dX6_longestChain_29 : decode cX6_longestChain 29 = .ok (.ifCond .eq 32, 3) := by decide +kernel
theorem dX6_longestChain_32 : decode cX6_longestChain 32 = .ok (.aload_n 0, 1) := by decide +kernel
theorem dX6_longestChain_33 : decode cX6_longestChain 33 = .ok (.getfield 43, 3) := by decide +kernel
theorem dX6_longestChain_36 : decode cX6_longestChain 36 = .ok (.iload_n 3, 1) := by decide +kernel
theorem dX6_longestChain_37 : decode cX6_longestChain 37 = .ok (.aload_n 0, 1) := by decide +kernel
theorem dX6_longestChain_38 : decode cX6_longestChain 38 = .ok (.getfield 22, 3) := by decide +kernel
theorem dX6_longestChain_41 : decode cX6_longestChain 41 = .ok (.iload_n 3, 1) := by decide +kernel
theorem dX6_longestChain_42 : decode cX6_longestChain 42 = .ok (.iaload, 1) := by decide +kernel
theorem dX6_longestChain_43 : decode cX6_longestChain 43 = .ok (.aload_n 0, 1) := by decide +kernel
theorem dX6_longestChain_44 : decode cX6_longestChain 44 = .ok (.iload_n 3, 1) := by decide +kernel
theorem dX6_longestChain_45 : decode cX6_longestChain 45 = .ok (.invokevirtual 69, 3) := by decide +kernel
theorem dX6_longestChain_48 : decode cX6_longestChain 48 = .ok (.iadd, 1) := by decide +kernel
theorem dX6_longestChain_49 : decode cX6_longestChain 49 = .ok (.iastore, 1) := by decide +kernel
theorem dX6_longestChain_50 : decode cX6_longestChain 50 = .ok (.iload_n 2, 1) := by decide +kernel
theorem dX6_longestChain_51 : decode cX6_longestChain 51 = .ok (.aload_n 0, 1) := by decide +kernel
theorem dX6_longestChain_52 : decode cX6_longestChain 52 = .ok (.getfield 43, 3) := by decide +kernel
theorem dX6_longestChain_55 : decode cX6_longestChain 55 = .ok (.iload_n 3, 1) := by decide +kernel
theorem dX6_longestChain_56 : decode cX6_longestChain 56 = .ok (.iaload, 1) := by decide +kernel
theorem dX6_longestChain_57 : decode cX6_longestChain 57 = .ok (.invokestatic 72, 3) := by decide +kernel
theorem dX6_longestChain_60 : decode cX6_longestChain 60 = .ok (.istore_n 2, 1) := by decide +kernel
theorem dX6_longestChain_61 : decode cX6_longestChain 61 = .ok (.iinc 3 1, 3) := by decide +kernel
theorem dX6_longestChain_64 : decode cX6_longestChain 64 = .ok (.goto (-55), 3) := by decide +kernel
theorem dX6_longestChain_67 : decode cX6_longestChain 67 = .ok (.iload_n 2, 1) := by decide +kernel
theorem dX6_longestChain_68 : decode cX6_longestChain 68 = .ok (.ireturn, 1) := by decide +kernel
theorem dX6_longestChainBefore_0 : decode cX6_longestChainBefore 0 = .ok (.iconst 0, 1) := by decide +kernel
theorem dX6_longestChainBefore_1 : decode cX6_longestChainBefore 1 = .ok (.istore_n 2, 1) := by decide +kernel
theorem dX6_longestChainBefore_2 : decode cX6_longestChainBefore 2 = .ok (.iconst 0, 1) := by decide +kernel
theorem dX6_longestChainBefore_3 : decode cX6_longestChainBefore 3 = .ok (.istore_n 3, 1) := by decide +kernel
theorem dX6_longestChainBefore_4 : decode cX6_longestChainBefore 4 = .ok (.iload_n 3, 1) := by decide +kernel
theorem dX6_longestChainBefore_5 : decode cX6_longestChainBefore 5 = .ok (.aload_n 0, 1) := by decide +kernel
theorem dX6_longestChainBefore_6 : decode cX6_longestChainBefore 6 = .ok (.getfield 15, 3) := by decide +kernel
theorem dX6_longestChainBefore_9 : decode cX6_longestChainBefore 9 = .ok (.if_icmp .ge 26, 3) := by decide +kernel
theorem dX6_longestChainBefore_12 : decode cX6_longestChainBefore 12 = .ok (.aload_n 0, 1) := by decide +kernel
theorem dX6_longestChainBefore_13 : decode cX6_longestChainBefore 13 = .ok (.getfield 40, 3) := by decide +kernel
theorem dX6_longestChainBefore_16 : decode cX6_longestChainBefore 16 = .ok (.iload_n 3, 1) := by decide +kernel
theorem dX6_longestChainBefore_17 : decode cX6_longestChainBefore 17 = .ok (.iaload, 1) := by decide +kernel
theorem dX6_longestChainBefore_18 : decode cX6_longestChainBefore 18 = .ok (.iload_n 1, 1) := by decide +kernel
theorem dX6_longestChainBefore_19 : decode cX6_longestChainBefore 19 = .ok (.if_icmp .gt 10, 3) := by decide +kernel
theorem dX6_longestChainBefore_22 : decode cX6_longestChainBefore 22 = .ok (.aload_n 0, 1) := by decide +kernel
theorem dX6_longestChainBefore_23 : decode cX6_longestChainBefore 23 = .ok (.getfield 40, 3) := by decide +kernel
theorem dX6_longestChainBefore_26 : decode cX6_longestChainBefore 26 = .ok (.iload_n 3, 1) := by decide +kernel
theorem dX6_longestChainBefore_27 : decode cX6_longestChainBefore 27 = .ok (.iaload, 1) := by decide +kernel
theorem dX6_longestChainBefore_28 : decode cX6_longestChainBefore 28 = .ok (.istore_n 2, 1) := by decide +kernel
theorem dX6_longestChainBefore_29 : decode cX6_longestChainBefore 29 = .ok (.iinc 3 1, 3) := by decide +kernel
theorem dX6_longestChainBefore_32 : decode cX6_longestChainBefore 32 = .ok (.goto (-28), 3) := by decide +kernel
theorem dX6_longestChainBefore_35 : decode cX6_longestChainBefore 35 = .ok (.iconst 0, 1) := by decide +kernel
theorem dX6_longestChainBefore_36 : decode cX6_longestChainBefore 36 = .ok (.istore_n 3, 1) := by decide +kernel
theorem dX6_longestChainBefore_37 : decode cX6_longestChainBefore 37 = .ok (.iconst 0, 1) := by decide +kernel
theorem dX6_longestChainBefore_38 : decode cX6_longestChainBefore 38 = .ok (.istore 4, 2) := by decide +kernel
theorem dX6_longestChainBefore_40 : decode cX6_longestChainBefore 40 = .ok (.iload 4, 2) := by decide +kernel
theorem dX6_longestChainBefore_42 : decode cX6_longestChainBefore 42 = .ok (.iload_n 1, 1) := by decide +kernel
theorem dX6_longestChainBefore_43 : decode cX6_longestChainBefore 43 = .ok (.if_icmp .ge 41, 3) := by decide +kernel
theorem dX6_longestChainBefore_46 : decode cX6_longestChainBefore 46 = .ok (.iload 4, 2) := by decide +kernel
theorem dX6_longestChainBefore_48 : decode cX6_longestChainBefore 48 = .ok (.iload_n 2, 1) := by decide +kernel
theorem dX6_longestChainBefore_49 : decode cX6_longestChainBefore 49 = .ok (.if_icmp .lt 17, 3) := by decide +kernel
theorem dX6_longestChainBefore_52 : decode cX6_longestChainBefore 52 = .ok (.aload_n 0, 1) := by decide +kernel
theorem dX6_longestChainBefore_53 : decode cX6_longestChainBefore 53 = .ok (.getfield 31, 3) := by decide +kernel
theorem dX6_longestChainBefore_56 : decode cX6_longestChainBefore 56 = .ok (.iload_n 1, 1) := by decide +kernel
theorem dX6_longestChainBefore_57 : decode cX6_longestChainBefore 57 = .ok (.iaload, 1) := by decide +kernel
theorem dX6_longestChainBefore_58 : decode cX6_longestChainBefore 58 = .ok (.iload 4, 2) := by decide +kernel
theorem dX6_longestChainBefore_60 : decode cX6_longestChainBefore 60 = .ok (.invokestatic 66, 3) := by decide +kernel
theorem dX6_longestChainBefore_63 : decode cX6_longestChainBefore 63 = .ok (.ifCond .eq 15, 3) := by decide +kernel
theorem dX6_longestChainBefore_66 : decode cX6_longestChainBefore 66 = .ok (.iload_n 3, 1) := by decide +kernel
theorem dX6_longestChainBefore_67 : decode cX6_longestChainBefore 67 = .ok (.aload_n 0, 1) := by decide +kernel
theorem dX6_longestChainBefore_68 : decode cX6_longestChainBefore 68 = .ok (.getfield 43, 3) := by decide +kernel
theorem dX6_longestChainBefore_71 : decode cX6_longestChainBefore 71 = .ok (.iload 4, 2) := by decide +kernel
theorem dX6_longestChainBefore_73 : decode cX6_longestChainBefore 73 = .ok (.iaload, 1) := by decide +kernel
theorem dX6_longestChainBefore_74 : decode cX6_longestChainBefore 74 = .ok (.invokestatic 72, 3) := by decide +kernel
theorem dX6_longestChainBefore_77 : decode cX6_longestChainBefore 77 = .ok (.istore_n 3, 1) := by decide +kernel
theorem dX6_longestChainBefore_78 : decode cX6_longestChainBefore 78 = .ok (.iinc 4 1, 3) := by decide +kernel
theorem dX6_longestChainBefore_81 : decode cX6_longestChainBefore 81 = .ok (.goto (-41), 3) := by decide +kernel
theorem dX6_longestChainBefore_84 : decode cX6_longestChainBefore 84 = .ok (.iload_n 3, 1) := by decide +kernel
theorem dX6_longestChainBefore_85 : decode cX6_longestChainBefore 85 = .ok (.ireturn, 1) := by decide +kernel
theorem dX6_readyAllFree_0 : decode cX6_readyAllFree 0 = .ok (.aload_n 0, 1) := by decide +kernel
theorem dX6_readyAllFree_1 : decode cX6_readyAllFree 1 = .ok (.invokevirtual 52, 3) := by decide +kernel
theorem dX6_readyAllFree_4 : decode cX6_readyAllFree 4 = .ok (.istore_n 1, 1) := by decide +kernel
theorem dX6_readyAllFree_5 : decode cX6_readyAllFree 5 = .ok (.iconst 0, 1) := by decide +kernel
theorem dX6_readyAllFree_6 : decode cX6_readyAllFree 6 = .ok (.istore_n 2, 1) := by decide +kernel
theorem dX6_readyAllFree_7 : decode cX6_readyAllFree 7 = .ok (.iload_n 2, 1) := by decide +kernel
theorem dX6_readyAllFree_8 : decode cX6_readyAllFree 8 = .ok (.aload_n 0, 1) := by decide +kernel
theorem dX6_readyAllFree_9 : decode cX6_readyAllFree 9 = .ok (.getfield 9, 3) := by decide +kernel
theorem dX6_readyAllFree_12 : decode cX6_readyAllFree 12 = .ok (.if_icmp .ge 34, 3) := by decide +kernel
theorem dX6_readyAllFree_15 : decode cX6_readyAllFree 15 = .ok (.aload_n 0, 1) := by decide +kernel
theorem dX6_readyAllFree_16 : decode cX6_readyAllFree 16 = .ok (.getfield 18, 3) := by decide +kernel
theorem dX6_readyAllFree_19 : decode cX6_readyAllFree 19 = .ok (.iload_n 2, 1) := by decide +kernel
theorem dX6_readyAllFree_20 : decode cX6_readyAllFree 20 = .ok (.iaload, 1) := by decide +kernel
theorem dX6_readyAllFree_21 : decode cX6_readyAllFree 21 = .ok (.ifCond .ne 19, 3) := by decide +kernel
theorem dX6_readyAllFree_24 : decode cX6_readyAllFree 24 = .ok (.aload_n 0, 1) := by decide +kernel
theorem dX6_readyAllFree_25 : decode cX6_readyAllFree 25 = .ok (.iload_n 2, 1) := by decide +kernel
theorem dX6_readyAllFree_26 : decode cX6_readyAllFree 26 = .ok (.iload_n 1, 1) := by decide +kernel
theorem dX6_readyAllFree_27 : decode cX6_readyAllFree 27 = .ok (.invokevirtual 78, 3) := by decide +kernel
theorem dX6_readyAllFree_30 : decode cX6_readyAllFree 30 = .ok (.ifCond .ne 10, 3) := by decide +kernel
theorem dX6_readyAllFree_33 : decode cX6_readyAllFree 33 = .ok (.aload_n 0, 1) := by decide +kernel
theorem dX6_readyAllFree_34 : decode cX6_readyAllFree 34 = .ok (.getfield 18, 3) := by decide +kernel
theorem dX6_readyAllFree_37 : decode cX6_readyAllFree 37 = .ok (.iload_n 2, 1) := by decide +kernel
theorem dX6_readyAllFree_38 : decode cX6_readyAllFree 38 = .ok (.iconst 1, 1) := by decide +kernel
theorem dX6_readyAllFree_39 : decode cX6_readyAllFree 39 = .ok (.iastore, 1) := by decide +kernel
theorem dX6_readyAllFree_40 : decode cX6_readyAllFree 40 = .ok (.iinc 2 1, 3) := by decide +kernel
theorem dX6_readyAllFree_43 : decode cX6_readyAllFree 43 = .ok (.goto (-36), 3) := by decide +kernel
theorem dX6_readyAllFree_46 : decode cX6_readyAllFree 46 = .ok (.return_, 1) := by decide +kernel
theorem dX6_firstReady_0 : decode cX6_firstReady 0 = .ok (.iconst (-1), 1) := by decide +kernel
theorem dX6_firstReady_1 : decode cX6_firstReady 1 = .ok (.istore_n 1, 1) := by decide +kernel
theorem dX6_firstReady_2 : decode cX6_firstReady 2 = .ok (.iconst 0, 1) := by decide +kernel
theorem dX6_firstReady_3 : decode cX6_firstReady 3 = .ok (.istore_n 2, 1) := by decide +kernel
theorem dX6_firstReady_4 : decode cX6_firstReady 4 = .ok (.iload_n 2, 1) := by decide +kernel
theorem dX6_firstReady_5 : decode cX6_firstReady 5 = .ok (.aload_n 0, 1) := by decide +kernel
theorem dX6_firstReady_6 : decode cX6_firstReady 6 = .ok (.getfield 9, 3) := by decide +kernel
theorem dX6_firstReady_9 : decode cX6_firstReady 9 = .ok (.if_icmp .ge 40, 3) := by decide +kernel
theorem dX6_firstReady_12 : decode cX6_firstReady 12 = .ok (.aload_n 0, 1) := by decide +kernel
theorem dX6_firstReady_13 : decode cX6_firstReady 13 = .ok (.getfield 18, 3) := by decide +kernel
theorem dX6_firstReady_16 : decode cX6_firstReady 16 = .ok (.iload_n 2, 1) := by decide +kernel
theorem dX6_firstReady_17 : decode cX6_firstReady 17 = .ok (.iaload, 1) := by decide +kernel
theorem dX6_firstReady_18 : decode cX6_firstReady 18 = .ok (.iconst 1, 1) := by decide +kernel
theorem dX6_firstReady_19 : decode cX6_firstReady 19 = .ok (.if_icmp .ne 24, 3) := by decide +kernel
theorem dX6_firstReady_22 : decode cX6_firstReady 22 = .ok (.iload_n 1, 1) := by decide +kernel
theorem dX6_firstReady_23 : decode cX6_firstReady 23 = .ok (.ifCond .lt 18, 3) := by decide +kernel
theorem dX6_firstReady_26 : decode cX6_firstReady 26 = .ok (.aload_n 0, 1) := by decide +kernel
theorem dX6_firstReady_27 : decode cX6_firstReady 27 = .ok (.getfield 25, 3) := by decide +kernel
theorem dX6_firstReady_30 : decode cX6_firstReady 30 = .ok (.iload_n 2, 1) := by decide +kernel
theorem dX6_firstReady_31 : decode cX6_firstReady 31 = .ok (.iaload, 1) := by decide +kernel
theorem dX6_firstReady_32 : decode cX6_firstReady 32 = .ok (.aload_n 0, 1) := by decide +kernel
theorem dX6_firstReady_33 : decode cX6_firstReady 33 = .ok (.getfield 25, 3) := by decide +kernel
theorem dX6_firstReady_36 : decode cX6_firstReady 36 = .ok (.iload_n 1, 1) := by decide +kernel
theorem dX6_firstReady_37 : decode cX6_firstReady 37 = .ok (.iaload, 1) := by decide +kernel
theorem dX6_firstReady_38 : decode cX6_firstReady 38 = .ok (.if_icmp .le 5, 3) := by decide +kernel
theorem dX6_firstReady_41 : decode cX6_firstReady 41 = .ok (.iload_n 2, 1) := by decide +kernel
theorem dX6_firstReady_42 : decode cX6_firstReady 42 = .ok (.istore_n 1, 1) := by decide +kernel
theorem dX6_firstReady_43 : decode cX6_firstReady 43 = .ok (.iinc 2 1, 3) := by decide +kernel
theorem dX6_firstReady_46 : decode cX6_firstReady 46 = .ok (.goto (-42), 3) := by decide +kernel
theorem dX6_firstReady_49 : decode cX6_firstReady 49 = .ok (.iload_n 1, 1) := by decide +kernel
theorem dX6_firstReady_50 : decode cX6_firstReady 50 = .ok (.ireturn, 1) := by decide +kernel
theorem dX7_init_0 : decode cX7_init 0 = .ok (.aload_n 0, 1) := by decide +kernel
theorem dX7_init_1 : decode cX7_init 1 = .ok (.invokespecial 1, 3) := by decide +kernel
theorem dX7_init_4 : decode cX7_init 4 = .ok (.aload_n 0, 1) := by decide +kernel
theorem dX7_init_5 : decode cX7_init 5 = .ok (.new 7, 3) := by decide +kernel
theorem dX7_init_8 : decode cX7_init 8 = .ok (.dup, 1) := by decide +kernel
theorem dX7_init_9 : decode cX7_init 9 = .ok (.invokespecial 9, 3) := by decide +kernel
theorem dX7_init_12 : decode cX7_init 12 = .ok (.putfield 10, 3) := by decide +kernel
theorem dX7_init_15 : decode cX7_init 15 = .ok (.aload_n 0, 1) := by decide +kernel
theorem dX7_init_16 : decode cX7_init 16 = .ok (.new 16, 3) := by decide +kernel
theorem dX7_init_19 : decode cX7_init 19 = .ok (.dup, 1) := by decide +kernel
theorem dX7_init_20 : decode cX7_init 20 = .ok (.invokespecial 18, 3) := by decide +kernel
theorem dX7_init_23 : decode cX7_init 23 = .ok (.putfield 19, 3) := by decide +kernel
theorem dX7_init_26 : decode cX7_init 26 = .ok (.aload_n 0, 1) := by decide +kernel
theorem dX7_init_27 : decode cX7_init 27 = .ok (.new 16, 3) := by decide +kernel
theorem dX7_init_30 : decode cX7_init 30 = .ok (.dup, 1) := by decide +kernel
theorem dX7_init_31 : decode cX7_init 31 = .ok (.invokespecial 18, 3) := by decide +kernel
theorem dX7_init_34 : decode cX7_init 34 = .ok (.putfield 23, 3) := by decide +kernel
theorem dX7_init_37 : decode cX7_init 37 = .ok (.aload_n 0, 1) := by decide +kernel
theorem dX7_init_38 : decode cX7_init 38 = .ok (.new 26, 3) := by decide +kernel
theorem dX7_init_41 : decode cX7_init 41 = .ok (.dup, 1) := by decide +kernel
theorem dX7_init_42 : decode cX7_init 42 = .ok (.invokespecial 28, 3) := by decide +kernel
theorem dX7_init_45 : decode cX7_init 45 = .ok (.putfield 29, 3) := by decide +kernel
theorem dX7_init_48 : decode cX7_init 48 = .ok (.aload_n 0, 1) := by decide +kernel
theorem dX7_init_49 : decode cX7_init 49 = .ok (.iconst (-1), 1) := by decide +kernel
theorem dX7_init_50 : decode cX7_init 50 = .ok (.putfield 33, 3) := by decide +kernel
theorem dX7_init_53 : decode cX7_init 53 = .ok (.return_, 1) := by decide +kernel
theorem dX7_append_0 : decode cX7_append 0 = .ok (.aload_n 0, 1) := by decide +kernel
theorem dX7_append_1 : decode cX7_append 1 = .ok (.getfield 10, 3) := by decide +kernel
theorem dX7_append_4 : decode cX7_append 4 = .ok (.getfield 37, 3) := by decide +kernel
theorem dX7_append_7 : decode cX7_append 7 = .ok (.astore 6, 2) := by decide +kernel
theorem dX7_append_9 : decode cX7_append 9 = .ok (.aload 6, 2) := by decide +kernel
theorem dX7_append_11 : decode cX7_append 11 = .ok (.getfield 41, 3) := by decide +kernel
theorem dX7_append_14 : decode cX7_append 14 = .ok (.sipush 880, 3) := by decide +kernel
theorem dX7_append_17 : decode cX7_append 17 = .ok (.if_icmp .le 5, 3) := by decide +kernel
theorem dX7_append_20 : decode cX7_append 20 = .ok (.iconst (-1), 1) := by decide +kernel
theorem dX7_append_21 : decode cX7_append 21 = .ok (.ireturn, 1) := by decide +kernel
theorem dX7_append_22 : decode cX7_append 22 = .ok (.aload 6, 2) := by decide +kernel
theorem dX7_append_24 : decode cX7_append 24 = .ok (.iload_n 1, 1) := by decide +kernel
theorem dX7_append_25 : decode cX7_append 25 = .ok (.invokevirtual 46, 3) := by decide +kernel
theorem dX7_append_28 : decode cX7_append 28 = .ok (.aload 6, 2) := by decide +kernel
theorem dX7_append_30 : decode cX7_append 30 = .ok (.iload_n 2, 1) := by decide +kernel
theorem dX7_append_31 : decode cX7_append 31 = .ok (.invokevirtual 46, 3) := by decide +kernel
theorem dX7_append_34 : decode cX7_append 34 = .ok (.aload 6, 2) := by decide +kernel
theorem dX7_append_36 : decode cX7_append 36 = .ok (.iload_n 3, 1) := by decide +kernel
theorem dX7_append_37 : decode cX7_append 37 = .ok (.invokevirtual 46, 3) := by decide +kernel
theorem dX7_append_40 : decode cX7_append 40 = .ok (.aload 6, 2) := by decide +kernel
theorem dX7_append_42 : decode cX7_append 42 = .ok (.iload 4, 2) := by decide +kernel
theorem dX7_append_44 : decode cX7_append 44 = .ok (.invokevirtual 46, 3) := by decide +kernel
theorem dX7_append_47 : decode cX7_append 47 = .ok (.aload 6, 2) := by decide +kernel
theorem dX7_append_49 : decode cX7_append 49 = .ok (.iload 5, 2) := by decide +kernel
theorem dX7_append_51 : decode cX7_append 51 = .ok (.invokevirtual 46, 3) := by decide +kernel
theorem dX7_append_54 : decode cX7_append 54 = .ok (.aload 6, 2) := by decide +kernel
theorem dX7_append_56 : decode cX7_append 56 = .ok (.getfield 41, 3) := by decide +kernel
theorem dX7_append_59 : decode cX7_append 59 = .ok (.ireturn, 1) := by decide +kernel
theorem dX7_load_0 : decode cX7_load 0 = .ok (.iload_n 1, 1) := by decide +kernel
theorem dX7_load_1 : decode cX7_load 1 = .ok (.ifCond .lt 17, 3) := by decide +kernel
theorem dX7_load_4 : decode cX7_load 4 = .ok (.iload_n 1, 1) := by decide +kernel
theorem dX7_load_5 : decode cX7_load 5 = .ok (.aload_n 0, 1) := by decide +kernel
theorem dX7_load_6 : decode cX7_load 6 = .ok (.getfield 10, 3) := by decide +kernel
theorem dX7_load_9 : decode cX7_load 9 = .ok (.getfield 37, 3) := by decide +kernel
theorem dX7_load_12 : decode cX7_load 12 = .ok (.getfield 41, 3) := by decide +kernel
theorem dX7_load_15 : decode cX7_load 15 = .ok (.if_icmp .le 13, 3) := by decide +kernel
theorem dX7_load_18 : decode cX7_load 18 = .ok (.new 50, 3) := by decide +kernel
theorem dX7_load_21 : decode cX7_load 21 = .ok (.dup, 1) := by decide +kernel
theorem dX7_load_22 : decode cX7_load 22 = .ok (.ldc 52, 2) := by decide +kernel
theorem dX7_load_24 : decode cX7_load 24 = .ok (.invokespecial 54, 3) := by decide +kernel
theorem dX7_load_27 : decode cX7_load 27 = .ok (.athrow, 1) := by decide +kernel
theorem dX7_load_28 : decode cX7_load 28 = .ok (.aload_n 0, 1) := by decide +kernel
theorem dX7_load_29 : decode cX7_load 29 = .ok (.getfield 10, 3) := by decide +kernel
theorem dX7_load_32 : decode cX7_load 32 = .ok (.iload_n 1, 1) := by decide +kernel
theorem dX7_load_33 : decode cX7_load 33 = .ok (.aload_n 0, 1) := by decide +kernel
theorem dX7_load_34 : decode cX7_load 34 = .ok (.getfield 23, 3) := by decide +kernel
theorem dX7_load_37 : decode cX7_load 37 = .ok (.invokevirtual 57, 3) := by decide +kernel
theorem dX7_load_40 : decode cX7_load 40 = .ok (.istore_n 2, 1) := by decide +kernel
theorem dX7_load_41 : decode cX7_load 41 = .ok (.aload_n 0, 1) := by decide +kernel
theorem dX7_load_42 : decode cX7_load 42 = .ok (.getfield 10, 3) := by decide +kernel
theorem dX7_load_45 : decode cX7_load 45 = .ok (.getfield 37, 3) := by decide +kernel
theorem dX7_load_48 : decode cX7_load 48 = .ok (.iconst 0, 1) := by decide +kernel
theorem dX7_load_49 : decode cX7_load 49 = .ok (.putfield 41, 3) := by decide +kernel
theorem dX7_load_52 : decode cX7_load 52 = .ok (.iload_n 2, 1) := by decide +kernel
theorem dX7_load_53 : decode cX7_load 53 = .ok (.ifCond .ne 22, 3) := by decide +kernel
theorem dX7_load_56 : decode cX7_load 56 = .ok (.aload_n 0, 1) := by decide +kernel
theorem dX7_load_57 : decode cX7_load 57 = .ok (.aload_n 0, 1) := by decide +kernel
theorem dX7_load_58 : decode cX7_load 58 = .ok (.getfield 10, 3) := by decide +kernel
theorem dX7_load_61 : decode cX7_load 61 = .ok (.getfield 61, 3) := by decide +kernel
theorem dX7_load_64 : decode cX7_load 64 = .ok (.putfield 33, 3) := by decide +kernel
theorem dX7_load_67 : decode cX7_load 67 = .ok (.aload_n 0, 1) := by decide +kernel
theorem dX7_load_68 : decode cX7_load 68 = .ok (.getfield 10, 3) := by decide +kernel
theorem dX7_load_71 : decode cX7_load 71 = .ok (.getfield 64, 3) := by decide +kernel
theorem dX7_load_74 : decode cX7_load 74 = .ok (.ireturn, 1) := by decide +kernel
theorem dX7_load_75 : decode cX7_load 75 = .ok (.aload_n 0, 1) := by decide +kernel
theorem dX7_load_76 : decode cX7_load 76 = .ok (.iconst (-1), 1) := by decide +kernel
theorem dX7_load_77 : decode cX7_load 77 = .ok (.putfield 33, 3) := by decide +kernel
theorem dX7_load_80 : decode cX7_load 80 = .ok (.aload_n 0, 1) := by decide +kernel
theorem dX7_load_81 : decode cX7_load 81 = .ok (.getfield 29, 3) := by decide +kernel
theorem dX7_load_84 : decode cX7_load 84 = .ok (.aload_n 0, 1) := by decide +kernel
theorem dX7_load_85 : decode cX7_load 85 = .ok (.getfield 19, 3) := by decide +kernel
theorem dX7_load_88 : decode cX7_load 88 = .ok (.invokevirtual 67, 3) := by decide +kernel
theorem dX7_load_91 : decode cX7_load 91 = .ok (.aload_n 0, 1) := by decide +kernel
theorem dX7_load_92 : decode cX7_load 92 = .ok (.getfield 19, 3) := by decide +kernel
theorem dX7_load_95 : decode cX7_load 95 = .ok (.aload_n 0, 1) := by decide +kernel
theorem dX7_load_96 : decode cX7_load 96 = .ok (.getfield 23, 3) := by decide +kernel
theorem dX7_load_99 : decode cX7_load 99 = .ok (.invokevirtual 71, 3) := by decide +kernel
theorem dX7_load_102 : decode cX7_load 102 = .ok (.aload_n 0, 1) := by decide +kernel
theorem dX7_load_103 : decode cX7_load 103 = .ok (.getfield 19, 3) := by decide +kernel
theorem dX7_load_106 : decode cX7_load 106 = .ok (.getfield 74, 3) := by decide +kernel
theorem dX7_load_109 : decode cX7_load 109 = .ok (.getfield 78, 3) := by decide +kernel
theorem dX7_load_112 : decode cX7_load 112 = .ok (.ireturn, 1) := by decide +kernel
theorem dX7_errorOffset_0 : decode cX7_errorOffset 0 = .ok (.aload_n 0, 1) := by decide +kernel
theorem dX7_errorOffset_1 : decode cX7_errorOffset 1 = .ok (.getfield 33, 3) := by decide +kernel
theorem dX7_errorOffset_4 : decode cX7_errorOffset 4 = .ok (.ireturn, 1) := by decide +kernel
theorem dX7_coreCount_0 : decode cX7_coreCount 0 = .ok (.aload_n 0, 1) := by decide +kernel
theorem dX7_coreCount_1 : decode cX7_coreCount 1 = .ok (.getfield 19, 3) := by decide +kernel
theorem dX7_coreCount_4 : decode cX7_coreCount 4 = .ok (.getfield 83, 3) := by decide +kernel
theorem dX7_coreCount_7 : decode cX7_coreCount 7 = .ok (.getfield 87, 3) := by decide +kernel
theorem dX7_coreCount_10 : decode cX7_coreCount 10 = .ok (.ireturn, 1) := by decide +kernel
theorem dX7_taskCount_0 : decode cX7_taskCount 0 = .ok (.aload_n 0, 1) := by decide +kernel
theorem dX7_taskCount_1 : decode cX7_taskCount 1 = .ok (.getfield 19, 3) := by decide +kernel
theorem dX7_taskCount_4 : decode cX7_taskCount 4 = .ok (.getfield 74, 3) := by decide +kernel
theorem dX7_taskCount_7 : decode cX7_taskCount 7 = .ok (.getfield 78, 3) := by decide +kernel
theorem dX7_taskCount_10 : decode cX7_taskCount 10 = .ok (.ireturn, 1) := by decide +kernel
theorem dX7_fenceCount_0 : decode cX7_fenceCount 0 = .ok (.aload_n 0, 1) := by decide +kernel
theorem dX7_fenceCount_1 : decode cX7_fenceCount 1 = .ok (.getfield 19, 3) := by decide +kernel
theorem dX7_fenceCount_4 : decode cX7_fenceCount 4 = .ok (.getfield 74, 3) := by decide +kernel
theorem dX7_fenceCount_7 : decode cX7_fenceCount 7 = .ok (.getfield 90, 3) := by decide +kernel
theorem dX7_fenceCount_10 : decode cX7_fenceCount 10 = .ok (.ireturn, 1) := by decide +kernel
theorem dX7_clock_0 : decode cX7_clock 0 = .ok (.aload_n 0, 1) := by decide +kernel
theorem dX7_clock_1 : decode cX7_clock 1 = .ok (.getfield 19, 3) := by decide +kernel
theorem dX7_clock_4 : decode cX7_clock 4 = .ok (.getfield 93, 3) := by decide +kernel
theorem dX7_clock_7 : decode cX7_clock 7 = .ok (.ireturn, 1) := by decide +kernel
theorem dX7_state_0 : decode cX7_state 0 = .ok (.aload_n 0, 1) := by decide +kernel
theorem dX7_state_1 : decode cX7_state 1 = .ok (.iload_n 1, 1) := by decide +kernel
theorem dX7_state_2 : decode cX7_state 2 = .ok (.invokevirtual 96, 3) := by decide +kernel
theorem dX7_state_5 : decode cX7_state 5 = .ok (.aload_n 0, 1) := by decide +kernel
theorem dX7_state_6 : decode cX7_state 6 = .ok (.getfield 19, 3) := by decide +kernel
theorem dX7_state_9 : decode cX7_state 9 = .ok (.getfield 74, 3) := by decide +kernel
theorem dX7_state_12 : decode cX7_state 12 = .ok (.getfield 99, 3) := by decide +kernel
theorem dX7_state_15 : decode cX7_state 15 = .ok (.iload_n 1, 1) := by decide +kernel
theorem dX7_state_16 : decode cX7_state 16 = .ok (.iaload, 1) := by decide +kernel
theorem dX7_state_17 : decode cX7_state 17 = .ok (.ireturn, 1) := by decide +kernel
theorem dX7_counter_0 : decode cX7_counter 0 = .ok (.aload_n 0, 1) := by decide +kernel
theorem dX7_counter_1 : decode cX7_counter 1 = .ok (.iload_n 1, 1) := by decide +kernel
theorem dX7_counter_2 : decode cX7_counter 2 = .ok (.invokevirtual 96, 3) := by decide +kernel
theorem dX7_counter_5 : decode cX7_counter 5 = .ok (.aload_n 0, 1) := by decide +kernel
theorem dX7_counter_6 : decode cX7_counter 6 = .ok (.getfield 19, 3) := by decide +kernel
theorem dX7_counter_9 : decode cX7_counter 9 = .ok (.getfield 74, 3) := by decide +kernel
theorem dX7_counter_12 : decode cX7_counter 12 = .ok (.iload_n 1, 1) := by decide +kernel
theorem dX7_counter_13 : decode cX7_counter 13 = .ok (.aload_n 0, 1) := by decide +kernel
theorem dX7_counter_14 : decode cX7_counter 14 = .ok (.getfield 19, 3) := by decide +kernel
theorem dX7_counter_17 : decode cX7_counter 17 = .ok (.getfield 74, 3) := by decide +kernel
theorem dX7_counter_20 : decode cX7_counter 20 = .ok (.invokevirtual 103, 3) := by decide +kernel
theorem dX7_counter_23 : decode cX7_counter 23 = .ok (.invokevirtual 107, 3) := by decide +kernel
theorem dX7_counter_26 : decode cX7_counter 26 = .ok (.ireturn, 1) := by decide +kernel
theorem dX7_priority_0 : decode cX7_priority 0 = .ok (.aload_n 0, 1) := by decide +kernel
theorem dX7_priority_1 : decode cX7_priority 1 = .ok (.iload_n 1, 1) := by decide +kernel
theorem dX7_priority_2 : decode cX7_priority 2 = .ok (.invokevirtual 96, 3) := by decide +kernel
theorem dX7_priority_5 : decode cX7_priority 5 = .ok (.aload_n 0, 1) := by decide +kernel
theorem dX7_priority_6 : decode cX7_priority 6 = .ok (.getfield 19, 3) := by decide +kernel
theorem dX7_priority_9 : decode cX7_priority 9 = .ok (.getfield 74, 3) := by decide +kernel
theorem dX7_priority_12 : decode cX7_priority 12 = .ok (.getfield 111, 3) := by decide +kernel
theorem dX7_priority_15 : decode cX7_priority 15 = .ok (.iload_n 1, 1) := by decide +kernel
theorem dX7_priority_16 : decode cX7_priority 16 = .ok (.iaload, 1) := by decide +kernel
theorem dX7_priority_17 : decode cX7_priority 17 = .ok (.ireturn, 1) := by decide +kernel
theorem dX7_coreOf_0 : decode cX7_coreOf 0 = .ok (.aload_n 0, 1) := by decide +kernel
theorem dX7_coreOf_1 : decode cX7_coreOf 1 = .ok (.iload_n 1, 1) := by decide +kernel
theorem dX7_coreOf_2 : decode cX7_coreOf 2 = .ok (.invokevirtual 96, 3) := by decide +kernel
theorem dX7_coreOf_5 : decode cX7_coreOf 5 = .ok (.aload_n 0, 1) := by decide +kernel
theorem dX7_coreOf_6 : decode cX7_coreOf 6 = .ok (.getfield 19, 3) := by decide +kernel
theorem dX7_coreOf_9 : decode cX7_coreOf 9 = .ok (.getfield 74, 3) := by decide +kernel
theorem dX7_coreOf_12 : decode cX7_coreOf 12 = .ok (.getfield 114, 3) := by decide +kernel
theorem dX7_coreOf_15 : decode cX7_coreOf 15 = .ok (.iload_n 1, 1) := by decide +kernel
theorem dX7_coreOf_16 : decode cX7_coreOf 16 = .ok (.iaload, 1) := by decide +kernel
theorem dX7_coreOf_17 : decode cX7_coreOf 17 = .ok (.ireturn, 1) := by decide +kernel
theorem dX7_doneAt_0 : decode cX7_doneAt 0 = .ok (.aload_n 0, 1) := by decide +kernel
theorem dX7_doneAt_1 : decode cX7_doneAt 1 = .ok (.iload_n 1, 1) := by decide +kernel
theorem dX7_doneAt_2 : decode cX7_doneAt 2 = .ok (.invokevirtual 96, 3) := by decide +kernel
theorem dX7_doneAt_5 : decode cX7_doneAt 5 = .ok (.aload_n 0, 1) := by decide +kernel
theorem dX7_doneAt_6 : decode cX7_doneAt 6 = .ok (.getfield 19, 3) := by decide +kernel
theorem dX7_doneAt_9 : decode cX7_doneAt 9 = .ok (.getfield 74, 3) := by decide +kernel
theorem dX7_doneAt_12 : decode cX7_doneAt 12 = .ok (.getfield 117, 3) := by decide +kernel
theorem dX7_doneAt_15 : decode cX7_doneAt 15 = .ok (.iload_n 1, 1) := by decide +kernel
theorem dX7_doneAt_16 : decode cX7_doneAt 16 = .ok (.iaload, 1) := by decide +kernel
theorem dX7_doneAt_17 : decode cX7_doneAt 17 = .ok (.ireturn, 1) := by decide +kernel
theorem dX7_isOpen_0 : decode cX7_isOpen 0 = .ok (.iload_n 1, 1) := by decide +kernel
theorem dX7_isOpen_1 : decode cX7_isOpen 1 = .ok (.ifCond .lt 17, 3) := by decide +kernel
theorem dX7_isOpen_4 : decode cX7_isOpen 4 = .ok (.iload_n 1, 1) := by decide +kernel
theorem dX7_isOpen_5 : decode cX7_isOpen 5 = .ok (.aload_n 0, 1) := by decide +kernel
theorem dX7_isOpen_6 : decode cX7_isOpen 6 = .ok (.getfield 19, 3) := by decide +kernel
theorem dX7_isOpen_9 : decode cX7_isOpen 9 = .ok (.getfield 74, 3) := by decide +kernel
theorem dX7_isOpen_12 : decode cX7_isOpen 12 = .ok (.getfield 90, 3) := by decide +kernel
theorem dX7_isOpen_15 : decode cX7_isOpen 15 = .ok (.if_icmp .lt 13, 3) := by decide +kernel
theorem dX7_isOpen_18 : decode cX7_isOpen 18 = .ok (.new 120, 3) := by decide +kernel
theorem dX7_isOpen_21 : decode cX7_isOpen 21 = .ok (.dup, 1) := by decide +kernel
theorem dX7_isOpen_22 : decode cX7_isOpen 22 = .ok (.ldc 122, 2) := by decide +kernel
theorem dX7_isOpen_24 : decode cX7_isOpen 24 = .ok (.invokespecial 124, 3) := by decide +kernel
theorem dX7_isOpen_27 : decode cX7_isOpen 27 = .ok (.athrow, 1) := by decide +kernel
theorem dX7_isOpen_28 : decode cX7_isOpen 28 = .ok (.aload_n 0, 1) := by decide +kernel
theorem dX7_isOpen_29 : decode cX7_isOpen 29 = .ok (.getfield 19, 3) := by decide +kernel
theorem dX7_isOpen_32 : decode cX7_isOpen 32 = .ok (.getfield 74, 3) := by decide +kernel
theorem dX7_isOpen_35 : decode cX7_isOpen 35 = .ok (.iload_n 1, 1) := by decide +kernel
theorem dX7_isOpen_36 : decode cX7_isOpen 36 = .ok (.aload_n 0, 1) := by decide +kernel
theorem dX7_isOpen_37 : decode cX7_isOpen 37 = .ok (.getfield 19, 3) := by decide +kernel
theorem dX7_isOpen_40 : decode cX7_isOpen 40 = .ok (.getfield 74, 3) := by decide +kernel
theorem dX7_isOpen_43 : decode cX7_isOpen 43 = .ok (.invokevirtual 103, 3) := by decide +kernel
theorem dX7_isOpen_46 : decode cX7_isOpen 46 = .ok (.invokevirtual 125, 3) := by decide +kernel
theorem dX7_isOpen_49 : decode cX7_isOpen 49 = .ok (.ireturn, 1) := by decide +kernel
theorem dX7_queueLength_0 : decode cX7_queueLength 0 = .ok (.aload_n 0, 1) := by decide +kernel
theorem dX7_queueLength_1 : decode cX7_queueLength 1 = .ok (.iload_n 1, 1) := by decide +kernel
theorem dX7_queueLength_2 : decode cX7_queueLength 2 = .ok (.invokevirtual 129, 3) := by decide +kernel
theorem dX7_queueLength_5 : decode cX7_queueLength 5 = .ok (.aload_n 0, 1) := by decide +kernel
theorem dX7_queueLength_6 : decode cX7_queueLength 6 = .ok (.getfield 19, 3) := by decide +kernel
theorem dX7_queueLength_9 : decode cX7_queueLength 9 = .ok (.getfield 83, 3) := by decide +kernel
theorem dX7_queueLength_12 : decode cX7_queueLength 12 = .ok (.getfield 132, 3) := by decide +kernel
theorem dX7_queueLength_15 : decode cX7_queueLength 15 = .ok (.iload_n 1, 1) := by decide +kernel
theorem dX7_queueLength_16 : decode cX7_queueLength 16 = .ok (.iaload, 1) := by decide +kernel
theorem dX7_queueLength_17 : decode cX7_queueLength 17 = .ok (.ireturn, 1) := by decide +kernel
theorem dX7_queued_0 : decode cX7_queued 0 = .ok (.aload_n 0, 1) := by decide +kernel
theorem dX7_queued_1 : decode cX7_queued 1 = .ok (.iload_n 1, 1) := by decide +kernel
theorem dX7_queued_2 : decode cX7_queued 2 = .ok (.invokevirtual 129, 3) := by decide +kernel
theorem dX7_queued_5 : decode cX7_queued 5 = .ok (.iload_n 2, 1) := by decide +kernel
theorem dX7_queued_6 : decode cX7_queued 6 = .ok (.ifCond .lt 19, 3) := by decide +kernel
theorem dX7_queued_9 : decode cX7_queued 9 = .ok (.iload_n 2, 1) := by decide +kernel
theorem dX7_queued_10 : decode cX7_queued 10 = .ok (.aload_n 0, 1) := by decide +kernel
theorem dX7_queued_11 : decode cX7_queued 11 = .ok (.getfield 19, 3) := by decide +kernel
theorem dX7_queued_14 : decode cX7_queued 14 = .ok (.getfield 83, 3) := by decide +kernel
theorem dX7_queued_17 : decode cX7_queued 17 = .ok (.getfield 132, 3) := by decide +kernel
theorem dX7_queued_20 : decode cX7_queued 20 = .ok (.iload_n 1, 1) := by decide +kernel
theorem dX7_queued_21 : decode cX7_queued 21 = .ok (.iaload, 1) := by decide +kernel
theorem dX7_queued_22 : decode cX7_queued 22 = .ok (.if_icmp .lt 13, 3) := by decide +kernel
theorem dX7_queued_25 : decode cX7_queued 25 = .ok (.new 120, 3) := by decide +kernel
theorem dX7_queued_28 : decode cX7_queued 28 = .ok (.dup, 1) := by decide +kernel
theorem dX7_queued_29 : decode cX7_queued 29 = .ok (.ldc 135, 2) := by decide +kernel
theorem dX7_queued_31 : decode cX7_queued 31 = .ok (.invokespecial 124, 3) := by decide +kernel
theorem dX7_queued_34 : decode cX7_queued 34 = .ok (.athrow, 1) := by decide +kernel
theorem dX7_queued_35 : decode cX7_queued 35 = .ok (.aload_n 0, 1) := by decide +kernel
theorem dX7_queued_36 : decode cX7_queued 36 = .ok (.getfield 19, 3) := by decide +kernel
theorem dX7_queued_39 : decode cX7_queued 39 = .ok (.getfield 83, 3) := by decide +kernel
theorem dX7_queued_42 : decode cX7_queued 42 = .ok (.getfield 137, 3) := by decide +kernel
theorem dX7_queued_45 : decode cX7_queued 45 = .ok (.iload_n 1, 1) := by decide +kernel
theorem dX7_queued_46 : decode cX7_queued 46 = .ok (.bipush 8, 2) := by decide +kernel
theorem dX7_queued_48 : decode cX7_queued 48 = .ok (.imul, 1) := by decide +kernel
theorem dX7_queued_49 : decode cX7_queued 49 = .ok (.iload_n 2, 1) := by decide +kernel
theorem dX7_queued_50 : decode cX7_queued 50 = .ok (.iadd, 1) := by decide +kernel
theorem dX7_queued_51 : decode cX7_queued 51 = .ok (.iaload, 1) := by decide +kernel
theorem dX7_queued_52 : decode cX7_queued 52 = .ok (.ireturn, 1) := by decide +kernel
theorem dX7_running_0 : decode cX7_running 0 = .ok (.aload_n 0, 1) := by decide +kernel
theorem dX7_running_1 : decode cX7_running 1 = .ok (.iload_n 1, 1) := by decide +kernel
theorem dX7_running_2 : decode cX7_running 2 = .ok (.invokevirtual 129, 3) := by decide +kernel
theorem dX7_running_5 : decode cX7_running 5 = .ok (.aload_n 0, 1) := by decide +kernel
theorem dX7_running_6 : decode cX7_running 6 = .ok (.getfield 19, 3) := by decide +kernel
theorem dX7_running_9 : decode cX7_running 9 = .ok (.getfield 83, 3) := by decide +kernel
theorem dX7_running_12 : decode cX7_running 12 = .ok (.getfield 140, 3) := by decide +kernel
theorem dX7_running_15 : decode cX7_running 15 = .ok (.iload_n 1, 1) := by decide +kernel
theorem dX7_running_16 : decode cX7_running 16 = .ok (.iaload, 1) := by decide +kernel
theorem dX7_running_17 : decode cX7_running 17 = .ok (.ireturn, 1) := by decide +kernel
theorem dX7_remaining_0 : decode cX7_remaining 0 = .ok (.aload_n 0, 1) := by decide +kernel
theorem dX7_remaining_1 : decode cX7_remaining 1 = .ok (.iload_n 1, 1) := by decide +kernel
theorem dX7_remaining_2 : decode cX7_remaining 2 = .ok (.invokevirtual 129, 3) := by decide +kernel
theorem dX7_remaining_5 : decode cX7_remaining 5 = .ok (.aload_n 0, 1) := by decide +kernel
theorem dX7_remaining_6 : decode cX7_remaining 6 = .ok (.getfield 19, 3) := by decide +kernel
theorem dX7_remaining_9 : decode cX7_remaining 9 = .ok (.getfield 83, 3) := by decide +kernel
theorem dX7_remaining_12 : decode cX7_remaining 12 = .ok (.getfield 143, 3) := by decide +kernel
theorem dX7_remaining_15 : decode cX7_remaining 15 = .ok (.iload_n 1, 1) := by decide +kernel
theorem dX7_remaining_16 : decode cX7_remaining 16 = .ok (.iaload, 1) := by decide +kernel
theorem dX7_remaining_17 : decode cX7_remaining 17 = .ok (.ireturn, 1) := by decide +kernel
theorem dX7_busy_0 : decode cX7_busy 0 = .ok (.aload_n 0, 1) := by decide +kernel
theorem dX7_busy_1 : decode cX7_busy 1 = .ok (.iload_n 1, 1) := by decide +kernel
theorem dX7_busy_2 : decode cX7_busy 2 = .ok (.invokevirtual 129, 3) := by decide +kernel
theorem dX7_busy_5 : decode cX7_busy 5 = .ok (.aload_n 0, 1) := by decide +kernel
theorem dX7_busy_6 : decode cX7_busy 6 = .ok (.getfield 19, 3) := by decide +kernel
theorem dX7_busy_9 : decode cX7_busy 9 = .ok (.getfield 83, 3) := by decide +kernel
theorem dX7_busy_12 : decode cX7_busy 12 = .ok (.getfield 146, 3) := by decide +kernel
theorem dX7_busy_15 : decode cX7_busy 15 = .ok (.iload_n 1, 1) := by decide +kernel
theorem dX7_busy_16 : decode cX7_busy 16 = .ok (.iaload, 1) := by decide +kernel
theorem dX7_busy_17 : decode cX7_busy 17 = .ok (.ireturn, 1) := by decide +kernel
theorem dX7_steals_0 : decode cX7_steals 0 = .ok (.aload_n 0, 1) := by decide +kernel
theorem dX7_steals_1 : decode cX7_steals 1 = .ok (.iload_n 1, 1) := by decide +kernel
theorem dX7_steals_2 : decode cX7_steals 2 = .ok (.invokevirtual 129, 3) := by decide +kernel
theorem dX7_steals_5 : decode cX7_steals 5 = .ok (.aload_n 0, 1) := by decide +kernel
theorem dX7_steals_6 : decode cX7_steals 6 = .ok (.getfield 19, 3) := by decide +kernel
theorem dX7_steals_9 : decode cX7_steals 9 = .ok (.getfield 83, 3) := by decide +kernel
theorem dX7_steals_12 : decode cX7_steals 12 = .ok (.getfield 149, 3) := by decide +kernel
theorem dX7_steals_15 : decode cX7_steals 15 = .ok (.iload_n 1, 1) := by decide +kernel
theorem dX7_steals_16 : decode cX7_steals 16 = .ok (.iaload, 1) := by decide +kernel
theorem dX7_steals_17 : decode cX7_steals 17 = .ok (.ireturn, 1) := by decide +kernel
theorem dX7_isPaused_0 : decode cX7_isPaused 0 = .ok (.aload_n 0, 1) := by decide +kernel
theorem dX7_isPaused_1 : decode cX7_isPaused 1 = .ok (.iload_n 1, 1) := by decide +kernel
theorem dX7_isPaused_2 : decode cX7_isPaused 2 = .ok (.invokevirtual 129, 3) := by decide +kernel
theorem dX7_isPaused_5 : decode cX7_isPaused 5 = .ok (.aload_n 0, 1) := by decide +kernel
theorem dX7_isPaused_6 : decode cX7_isPaused 6 = .ok (.getfield 19, 3) := by decide +kernel
theorem dX7_isPaused_9 : decode cX7_isPaused 9 = .ok (.getfield 83, 3) := by decide +kernel
theorem dX7_isPaused_12 : decode cX7_isPaused 12 = .ok (.getfield 152, 3) := by decide +kernel
theorem dX7_isPaused_15 : decode cX7_isPaused 15 = .ok (.iload_n 1, 1) := by decide +kernel
theorem dX7_isPaused_16 : decode cX7_isPaused 16 = .ok (.baload, 1) := by decide +kernel
theorem dX7_isPaused_17 : decode cX7_isPaused 17 = .ok (.ireturn, 1) := by decide +kernel
theorem dX7_finished_0 : decode cX7_finished 0 = .ok (.aload_n 0, 1) := by decide +kernel
theorem dX7_finished_1 : decode cX7_finished 1 = .ok (.getfield 19, 3) := by decide +kernel
theorem dX7_finished_4 : decode cX7_finished 4 = .ok (.getfield 74, 3) := by decide +kernel
theorem dX7_finished_7 : decode cX7_finished 7 = .ok (.invokevirtual 156, 3) := by decide +kernel
theorem dX7_finished_10 : decode cX7_finished 10 = .ok (.ireturn, 1) := by decide +kernel
theorem dX7_criticalPath_0 : decode cX7_criticalPath 0 = .ok (.aload_n 0, 1) := by decide +kernel
theorem dX7_criticalPath_1 : decode cX7_criticalPath 1 = .ok (.getfield 19, 3) := by decide +kernel
theorem dX7_criticalPath_4 : decode cX7_criticalPath 4 = .ok (.getfield 74, 3) := by decide +kernel
theorem dX7_criticalPath_7 : decode cX7_criticalPath 7 = .ok (.invokevirtual 159, 3) := by decide +kernel
theorem dX7_criticalPath_10 : decode cX7_criticalPath 10 = .ok (.ireturn, 1) := by decide +kernel
theorem dX7_finishTime_0 : decode cX7_finishTime 0 = .ok (.iload_n 1, 1) := by decide +kernel
theorem dX7_finishTime_1 : decode cX7_finishTime 1 = .ok (.invokestatic 162, 3) := by decide +kernel
theorem dX7_finishTime_4 : decode cX7_finishTime 4 = .ok (.aload_n 0, 1) := by decide +kernel
theorem dX7_finishTime_5 : decode cX7_finishTime 5 = .ok (.getfield 23, 3) := by decide +kernel
theorem dX7_finishTime_8 : decode cX7_finishTime 8 = .ok (.aload_n 0, 1) := by decide +kernel
theorem dX7_finishTime_9 : decode cX7_finishTime 9 = .ok (.getfield 19, 3) := by decide +kernel
theorem dX7_finishTime_12 : decode cX7_finishTime 12 = .ok (.invokevirtual 71, 3) := by decide +kernel
theorem dX7_finishTime_15 : decode cX7_finishTime 15 = .ok (.aload_n 0, 1) := by decide +kernel
theorem dX7_finishTime_16 : decode cX7_finishTime 16 = .ok (.getfield 23, 3) := by decide +kernel
theorem dX7_finishTime_19 : decode cX7_finishTime 19 = .ok (.iload_n 1, 1) := by decide +kernel
theorem dX7_finishTime_20 : decode cX7_finishTime 20 = .ok (.invokevirtual 165, 3) := by decide +kernel
theorem dX7_finishTime_23 : decode cX7_finishTime 23 = .ok (.ireturn, 1) := by decide +kernel
theorem dX7_timeOn_0 : decode cX7_timeOn 0 = .ok (.iload_n 1, 1) := by decide +kernel
theorem dX7_timeOn_1 : decode cX7_timeOn 1 = .ok (.iconst 1, 1) := by decide +kernel
theorem dX7_timeOn_2 : decode cX7_timeOn 2 = .ok (.if_icmp .lt 8, 3) := by decide +kernel
theorem dX7_timeOn_5 : decode cX7_timeOn 5 = .ok (.iload_n 1, 1) := by decide +kernel
theorem dX7_timeOn_6 : decode cX7_timeOn 6 = .ok (.iconst 4, 1) := by decide +kernel
theorem dX7_timeOn_7 : decode cX7_timeOn 7 = .ok (.if_icmp .le 13, 3) := by decide +kernel
theorem dX7_timeOn_10 : decode cX7_timeOn 10 = .ok (.new 50, 3) := by decide +kernel
theorem dX7_timeOn_13 : decode cX7_timeOn 13 = .ok (.dup, 1) := by decide +kernel
theorem dX7_timeOn_14 : decode cX7_timeOn 14 = .ok (.ldc 169, 2) := by decide +kernel
theorem dX7_timeOn_16 : decode cX7_timeOn 16 = .ok (.invokespecial 54, 3) := by decide +kernel
theorem dX7_timeOn_19 : decode cX7_timeOn 19 = .ok (.athrow, 1) := by decide +kernel
theorem dX7_timeOn_20 : decode cX7_timeOn 20 = .ok (.iload_n 2, 1) := by decide +kernel
theorem dX7_timeOn_21 : decode cX7_timeOn 21 = .ok (.invokestatic 162, 3) := by decide +kernel
theorem dX7_timeOn_24 : decode cX7_timeOn 24 = .ok (.aload_n 0, 1) := by decide +kernel
theorem dX7_timeOn_25 : decode cX7_timeOn 25 = .ok (.invokevirtual 171, 3) := by decide +kernel
theorem dX7_timeOn_28 : decode cX7_timeOn 28 = .ok (.aload_n 0, 1) := by decide +kernel
theorem dX7_timeOn_29 : decode cX7_timeOn 29 = .ok (.getfield 23, 3) := by decide +kernel
theorem dX7_timeOn_32 : decode cX7_timeOn 32 = .ok (.aload_n 0, 1) := by decide +kernel
theorem dX7_timeOn_33 : decode cX7_timeOn 33 = .ok (.getfield 19, 3) := by decide +kernel
theorem dX7_timeOn_36 : decode cX7_timeOn 36 = .ok (.invokevirtual 71, 3) := by decide +kernel
theorem dX7_timeOn_39 : decode cX7_timeOn 39 = .ok (.aload_n 0, 1) := by decide +kernel
theorem dX7_timeOn_40 : decode cX7_timeOn 40 = .ok (.getfield 23, 3) := by decide +kernel
theorem dX7_timeOn_43 : decode cX7_timeOn 43 = .ok (.iload_n 1, 1) := by decide +kernel
theorem dX7_timeOn_44 : decode cX7_timeOn 44 = .ok (.invokevirtual 174, 3) := by decide +kernel
theorem dX7_timeOn_47 : decode cX7_timeOn 47 = .ok (.aload_n 0, 1) := by decide +kernel
theorem dX7_timeOn_48 : decode cX7_timeOn 48 = .ok (.getfield 23, 3) := by decide +kernel
theorem dX7_timeOn_51 : decode cX7_timeOn 51 = .ok (.iload_n 2, 1) := by decide +kernel
theorem dX7_timeOn_52 : decode cX7_timeOn 52 = .ok (.invokevirtual 165, 3) := by decide +kernel
theorem dX7_timeOn_55 : decode cX7_timeOn 55 = .ok (.ireturn, 1) := by decide +kernel
theorem dX7_run_0 : decode cX7_run 0 = .ok (.iload_n 1, 1) := by decide +kernel
theorem dX7_run_1 : decode cX7_run 1 = .ok (.iconst 1, 1) := by decide +kernel
theorem dX7_run_2 : decode cX7_run 2 = .ok (.if_icmp .lt 10, 3) := by decide +kernel
theorem dX7_run_5 : decode cX7_run 5 = .ok (.iload_n 1, 1) := by decide +kernel
theorem dX7_run_6 : decode cX7_run 6 = .ok (.sipush 200, 3) := by decide +kernel
theorem dX7_run_9 : decode cX7_run 9 = .ok (.if_icmp .le 13, 3) := by decide +kernel
theorem dX7_run_12 : decode cX7_run 12 = .ok (.new 50, 3) := by decide +kernel
theorem dX7_run_15 : decode cX7_run 15 = .ok (.dup, 1) := by decide +kernel
theorem dX7_run_16 : decode cX7_run 16 = .ok (.ldc 177, 2) := by decide +kernel
theorem dX7_run_18 : decode cX7_run 18 = .ok (.invokespecial 54, 3) := by decide +kernel
theorem dX7_run_21 : decode cX7_run 21 = .ok (.athrow, 1) := by decide +kernel
theorem dX7_run_22 : decode cX7_run 22 = .ok (.aload_n 0, 1) := by decide +kernel
theorem dX7_run_23 : decode cX7_run 23 = .ok (.invokevirtual 171, 3) := by decide +kernel
theorem dX7_run_26 : decode cX7_run 26 = .ok (.aload_n 0, 1) := by decide +kernel
theorem dX7_run_27 : decode cX7_run 27 = .ok (.getfield 19, 3) := by decide +kernel
theorem dX7_run_30 : decode cX7_run 30 = .ok (.getfield 93, 3) := by decide +kernel
theorem dX7_run_33 : decode cX7_run 33 = .ok (.ldc 179, 2) := by decide +kernel
theorem dX7_run_35 : decode cX7_run 35 = .ok (.iload_n 1, 1) := by decide +kernel
theorem dX7_run_36 : decode cX7_run 36 = .ok (.isub, 1) := by decide +kernel
theorem dX7_run_37 : decode cX7_run 37 = .ok (.if_icmp .le 13, 3) := by decide +kernel
theorem dX7_run_40 : decode cX7_run 40 = .ok (.new 180, 3) := by decide +kernel
theorem dX7_run_43 : decode cX7_run 43 = .ok (.dup, 1) := by decide +kernel
theorem dX7_run_44 : decode cX7_run 44 = .ok (.ldc 182, 2) := by decide +kernel
theorem dX7_run_46 : decode cX7_run 46 = .ok (.invokespecial 184, 3) := by decide +kernel
theorem dX7_run_49 : decode cX7_run 49 = .ok (.athrow, 1) := by decide +kernel
theorem dX7_run_50 : decode cX7_run 50 = .ok (.aload_n 0, 1) := by decide +kernel
theorem dX7_run_51 : decode cX7_run 51 = .ok (.getfield 29, 3) := by decide +kernel
theorem dX7_run_54 : decode cX7_run 54 = .ok (.aload_n 0, 1) := by decide +kernel
theorem dX7_run_55 : decode cX7_run 55 = .ok (.getfield 19, 3) := by decide +kernel
theorem dX7_run_58 : decode cX7_run 58 = .ok (.invokevirtual 67, 3) := by decide +kernel
theorem dX7_run_61 : decode cX7_run 61 = .ok (.iconst 0, 1) := by decide +kernel
theorem dX7_run_62 : decode cX7_run 62 = .ok (.istore_n 2, 1) := by decide +kernel
theorem dX7_run_63 : decode cX7_run 63 = .ok (.iconst 0, 1) := by decide +kernel
theorem dX7_run_64 : decode cX7_run 64 = .ok (.istore_n 3, 1) := by decide +kernel
theorem dX7_run_65 : decode cX7_run 65 = .ok (.iload_n 3, 1) := by decide +kernel
theorem dX7_run_66 : decode cX7_run 66 = .ok (.iload_n 1, 1) := by decide +kernel
theorem dX7_run_67 : decode cX7_run 67 = .ok (.if_icmp .ge 19, 3) := by decide +kernel
theorem dX7_run_70 : decode cX7_run 70 = .ok (.iload_n 2, 1) := by decide +kernel
theorem dX7_run_71 : decode cX7_run 71 = .ok (.aload_n 0, 1) := by decide +kernel
theorem dX7_run_72 : decode cX7_run 72 = .ok (.getfield 19, 3) := by decide +kernel
theorem dX7_run_75 : decode cX7_run 75 = .ok (.invokevirtual 185, 3) := by decide +kernel
theorem dX7_run_78 : decode cX7_run 78 = .ok (.iadd, 1) := by decide +kernel
theorem dX7_run_79 : decode cX7_run 79 = .ok (.istore_n 2, 1) := by decide +kernel
theorem dX7_run_80 : decode cX7_run 80 = .ok (.iinc 3 1, 3) := by decide +kernel
theorem dX7_run_83 : decode cX7_run 83 = .ok (.goto (-18), 3) := by decide +kernel
theorem dX7_run_86 : decode cX7_run 86 = .ok (.iload_n 2, 1) := by decide +kernel
theorem dX7_run_87 : decode cX7_run 87 = .ok (.ireturn, 1) := by decide +kernel
theorem dX7_submit_0 : decode cX7_submit 0 = .ok (.aload_n 0, 1) := by decide +kernel
theorem dX7_submit_1 : decode cX7_submit 1 = .ok (.iload_n 3, 1) := by decide +kernel
theorem dX7_submit_2 : decode cX7_submit 2 = .ok (.invokevirtual 129, 3) := by decide +kernel
theorem dX7_submit_5 : decode cX7_submit 5 = .ok (.iload_n 1, 1) := by decide +kernel
theorem dX7_submit_6 : decode cX7_submit 6 = .ok (.iconst 1, 1) := by decide +kernel
theorem dX7_submit_7 : decode cX7_submit 7 = .ok (.if_icmp .lt 9, 3) := by decide +kernel
theorem dX7_submit_10 : decode cX7_submit 10 = .ok (.iload_n 1, 1) := by decide +kernel
theorem dX7_submit_11 : decode cX7_submit 11 = .ok (.bipush 99, 2) := by decide +kernel
theorem dX7_submit_13 : decode cX7_submit 13 = .ok (.if_icmp .le 13, 3) := by decide +kernel
theorem dX7_submit_16 : decode cX7_submit 16 = .ok (.new 50, 3) := by decide +kernel
theorem dX7_submit_19 : decode cX7_submit 19 = .ok (.dup, 1) := by decide +kernel
theorem dX7_submit_20 : decode cX7_submit 20 = .ok (.ldc 188, 2) := by decide +kernel
theorem dX7_submit_22 : decode cX7_submit 22 = .ok (.invokespecial 54, 3) := by decide +kernel
theorem dX7_submit_25 : decode cX7_submit 25 = .ok (.athrow, 1) := by decide +kernel
theorem dX7_submit_26 : decode cX7_submit 26 = .ok (.iload_n 2, 1) := by decide +kernel
theorem dX7_submit_27 : decode cX7_submit 27 = .ok (.invokestatic 190, 3) := by decide +kernel
theorem dX7_submit_30 : decode cX7_submit 30 = .ok (.aload_n 0, 1) := by decide +kernel
theorem dX7_submit_31 : decode cX7_submit 31 = .ok (.getfield 19, 3) := by decide +kernel
theorem dX7_submit_34 : decode cX7_submit 34 = .ok (.getfield 74, 3) := by decide +kernel
theorem dX7_submit_37 : decode cX7_submit 37 = .ok (.getfield 78, 3) := by decide +kernel
theorem dX7_submit_40 : decode cX7_submit 40 = .ok (.bipush 32, 2) := by decide +kernel
theorem dX7_submit_42 : decode cX7_submit 42 = .ok (.if_icmp .lt 13, 3) := by decide +kernel
theorem dX7_submit_45 : decode cX7_submit 45 = .ok (.new 180, 3) := by decide +kernel
theorem dX7_submit_48 : decode cX7_submit 48 = .ok (.dup, 1) := by decide +kernel
theorem dX7_submit_49 : decode cX7_submit 49 = .ok (.ldc 193, 2) := by decide +kernel
theorem dX7_submit_51 : decode cX7_submit 51 = .ok (.invokespecial 184, 3) := by decide +kernel
theorem dX7_submit_54 : decode cX7_submit 54 = .ok (.athrow, 1) := by decide +kernel
theorem dX7_submit_55 : decode cX7_submit 55 = .ok (.aload_n 0, 1) := by decide +kernel
theorem dX7_submit_56 : decode cX7_submit 56 = .ok (.getfield 29, 3) := by decide +kernel
theorem dX7_submit_59 : decode cX7_submit 59 = .ok (.aload_n 0, 1) := by decide +kernel
theorem dX7_submit_60 : decode cX7_submit 60 = .ok (.getfield 19, 3) := by decide +kernel
theorem dX7_submit_63 : decode cX7_submit 63 = .ok (.invokevirtual 67, 3) := by decide +kernel
theorem dX7_submit_66 : decode cX7_submit 66 = .ok (.aload_n 0, 1) := by decide +kernel
theorem dX7_submit_67 : decode cX7_submit 67 = .ok (.getfield 19, 3) := by decide +kernel
theorem dX7_submit_70 : decode cX7_submit 70 = .ok (.getfield 74, 3) := by decide +kernel
theorem dX7_submit_73 : decode cX7_submit 73 = .ok (.iload_n 1, 1) := by decide +kernel
theorem dX7_submit_74 : decode cX7_submit 74 = .ok (.iload_n 2, 1) := by decide +kernel
theorem dX7_submit_75 : decode cX7_submit 75 = .ok (.iload_n 3, 1) := by decide +kernel
theorem dX7_submit_76 : decode cX7_submit 76 = .ok (.iconst 0, 1) := by decide +kernel
theorem dX7_submit_77 : decode cX7_submit 77 = .ok (.invokevirtual 195, 3) := by decide +kernel
theorem dX7_submit_80 : decode cX7_submit 80 = .ok (.aload_n 0, 1) := by decide +kernel
theorem dX7_submit_81 : decode cX7_submit 81 = .ok (.getfield 19, 3) := by decide +kernel
theorem dX7_submit_84 : decode cX7_submit 84 = .ok (.getfield 74, 3) := by decide +kernel
theorem dX7_submit_87 : decode cX7_submit 87 = .ok (.getfield 78, 3) := by decide +kernel
theorem dX7_submit_90 : decode cX7_submit 90 = .ok (.iconst 1, 1) := by decide +kernel
theorem dX7_submit_91 : decode cX7_submit 91 = .ok (.isub, 1) := by decide +kernel
theorem dX7_submit_92 : decode cX7_submit 92 = .ok (.ireturn, 1) := by decide +kernel
theorem dX7_depend_0 : decode cX7_depend 0 = .ok (.aload_n 0, 1) := by decide +kernel
theorem dX7_depend_1 : decode cX7_depend 1 = .ok (.iload_n 1, 1) := by decide +kernel
theorem dX7_depend_2 : decode cX7_depend 2 = .ok (.invokevirtual 96, 3) := by decide +kernel
theorem dX7_depend_5 : decode cX7_depend 5 = .ok (.iload_n 2, 1) := by decide +kernel
theorem dX7_depend_6 : decode cX7_depend 6 = .ok (.ifCond .ge 13, 3) := by decide +kernel
theorem dX7_depend_9 : decode cX7_depend 9 = .ok (.new 120, 3) := by decide +kernel
theorem dX7_depend_12 : decode cX7_depend 12 = .ok (.dup, 1) := by decide +kernel
theorem dX7_depend_13 : decode cX7_depend 13 = .ok (.ldc 199, 2) := by decide +kernel
theorem dX7_depend_15 : decode cX7_depend 15 = .ok (.invokespecial 124, 3) := by decide +kernel
theorem dX7_depend_18 : decode cX7_depend 18 = .ok (.athrow, 1) := by decide +kernel
theorem dX7_depend_19 : decode cX7_depend 19 = .ok (.aload_n 0, 1) := by decide +kernel
theorem dX7_depend_20 : decode cX7_depend 20 = .ok (.getfield 19, 3) := by decide +kernel
theorem dX7_depend_23 : decode cX7_depend 23 = .ok (.getfield 74, 3) := by decide +kernel
theorem dX7_depend_26 : decode cX7_depend 26 = .ok (.astore_n 3, 1) := by decide +kernel
theorem dX7_depend_27 : decode cX7_depend 27 = .ok (.iload_n 2, 1) := by decide +kernel
theorem dX7_depend_28 : decode cX7_depend 28 = .ok (.iload_n 1, 1) := by decide +kernel
theorem dX7_depend_29 : decode cX7_depend 29 = .ok (.if_icmp .ge 16, 3) := by decide +kernel
theorem dX7_depend_32 : decode cX7_depend 32 = .ok (.aload_n 3, 1) := by decide +kernel
theorem dX7_depend_33 : decode cX7_depend 33 = .ok (.getfield 201, 3) := by decide +kernel
theorem dX7_depend_36 : decode cX7_depend 36 = .ok (.iload_n 1, 1) := by decide +kernel
theorem dX7_depend_37 : decode cX7_depend 37 = .ok (.iaload, 1) := by decide +kernel
theorem dX7_depend_38 : decode cX7_depend 38 = .ok (.iload_n 2, 1) := by decide +kernel
theorem dX7_depend_39 : decode cX7_depend 39 = .ok (.invokestatic 204, 3) := by decide +kernel
theorem dX7_depend_42 : decode cX7_depend 42 = .ok (.ifCond .eq 13, 3) := by decide +kernel
theorem dX7_depend_45 : decode cX7_depend 45 = .ok (.new 50, 3) := by decide +kernel
theorem dX7_depend_48 : decode cX7_depend 48 = .ok (.dup, 1) := by decide +kernel
theorem dX7_depend_49 : decode cX7_depend 49 = .ok (.ldc 207, 2) := by decide +kernel
theorem dX7_depend_51 : decode cX7_depend 51 = .ok (.invokespecial 54, 3) := by decide +kernel
theorem dX7_depend_54 : decode cX7_depend 54 = .ok (.athrow, 1) := by decide +kernel
theorem dX7_depend_55 : decode cX7_depend 55 = .ok (.aload_n 3, 1) := by decide +kernel
theorem dX7_depend_56 : decode cX7_depend 56 = .ok (.getfield 99, 3) := by decide +kernel
theorem dX7_depend_59 : decode cX7_depend 59 = .ok (.iload_n 1, 1) := by decide +kernel
theorem dX7_depend_60 : decode cX7_depend 60 = .ok (.iaload, 1) := by decide +kernel
theorem dX7_depend_61 : decode cX7_depend 61 = .ok (.ifCond .eq 13, 3) := by decide +kernel
theorem dX7_depend_64 : decode cX7_depend 64 = .ok (.new 180, 3) := by decide +kernel
theorem dX7_depend_67 : decode cX7_depend 67 = .ok (.dup, 1) := by decide +kernel
theorem dX7_depend_68 : decode cX7_depend 68 = .ok (.ldc 209, 2) := by decide +kernel
theorem dX7_depend_70 : decode cX7_depend 70 = .ok (.invokespecial 184, 3) := by decide +kernel
theorem dX7_depend_73 : decode cX7_depend 73 = .ok (.athrow, 1) := by decide +kernel
theorem dX7_depend_74 : decode cX7_depend 74 = .ok (.aload_n 0, 1) := by decide +kernel
theorem dX7_depend_75 : decode cX7_depend 75 = .ok (.getfield 29, 3) := by decide +kernel
theorem dX7_depend_78 : decode cX7_depend 78 = .ok (.aload_n 0, 1) := by decide +kernel
theorem dX7_depend_79 : decode cX7_depend 79 = .ok (.getfield 19, 3) := by decide +kernel
theorem dX7_depend_82 : decode cX7_depend 82 = .ok (.invokevirtual 67, 3) := by decide +kernel
theorem dX7_depend_85 : decode cX7_depend 85 = .ok (.aload_n 3, 1) := by decide +kernel
theorem dX7_depend_86 : decode cX7_depend 86 = .ok (.getfield 201, 3) := by decide +kernel
theorem dX7_depend_89 : decode cX7_depend 89 = .ok (.iload_n 1, 1) := by decide +kernel
theorem dX7_depend_90 : decode cX7_depend 90 = .ok (.dup2, 1) := by decide +kernel
theorem dX7_depend_91 : decode cX7_depend 91 = .ok (.iaload, 1) := by decide +kernel
theorem dX7_depend_92 : decode cX7_depend 92 = .ok (.iconst 1, 1) := by decide +kernel
theorem dX7_depend_93 : decode cX7_depend 93 = .ok (.iload_n 2, 1) := by decide +kernel
theorem dX7_depend_94 : decode cX7_depend 94 = .ok (.ishl, 1) := by decide +kernel
theorem dX7_depend_95 : decode cX7_depend 95 = .ok (.ior, 1) := by decide +kernel
theorem dX7_depend_96 : decode cX7_depend 96 = .ok (.iastore, 1) := by decide +kernel
theorem dX7_depend_97 : decode cX7_depend 97 = .ok (.aload_n 3, 1) := by decide +kernel
theorem dX7_depend_98 : decode cX7_depend 98 = .ok (.iload_n 1, 1) := by decide +kernel
theorem dX7_depend_99 : decode cX7_depend 99 = .ok (.aload_n 3, 1) := by decide +kernel
theorem dX7_depend_100 : decode cX7_depend 100 = .ok (.invokevirtual 103, 3) := by decide +kernel
theorem dX7_depend_103 : decode cX7_depend 103 = .ok (.invokevirtual 107, 3) := by decide +kernel
theorem dX7_depend_106 : decode cX7_depend 106 = .ok (.ireturn, 1) := by decide +kernel
theorem dX7_cancel_0 : decode cX7_cancel 0 = .ok (.aload_n 0, 1) := by decide +kernel
theorem dX7_cancel_1 : decode cX7_cancel 1 = .ok (.iload_n 1, 1) := by decide +kernel
theorem dX7_cancel_2 : decode cX7_cancel 2 = .ok (.invokevirtual 96, 3) := by decide +kernel
theorem dX7_cancel_5 : decode cX7_cancel 5 = .ok (.aload_n 0, 1) := by decide +kernel
theorem dX7_cancel_6 : decode cX7_cancel 6 = .ok (.getfield 19, 3) := by decide +kernel
theorem dX7_cancel_9 : decode cX7_cancel 9 = .ok (.getfield 74, 3) := by decide +kernel
theorem dX7_cancel_12 : decode cX7_cancel 12 = .ok (.getfield 99, 3) := by decide +kernel
theorem dX7_cancel_15 : decode cX7_cancel 15 = .ok (.iload_n 1, 1) := by decide +kernel
theorem dX7_cancel_16 : decode cX7_cancel 16 = .ok (.iaload, 1) := by decide +kernel
theorem dX7_cancel_17 : decode cX7_cancel 17 = .ok (.istore_n 2, 1) := by decide +kernel
theorem dX7_cancel_18 : decode cX7_cancel 18 = .ok (.iload_n 2, 1) := by decide +kernel
theorem dX7_cancel_19 : decode cX7_cancel 19 = .ok (.ifCond .eq 23, 3) := by decide +kernel
theorem dX7_cancel_22 : decode cX7_cancel 22 = .ok (.iload_n 2, 1) := by decide +kernel
theorem dX7_cancel_23 : decode cX7_cancel 23 = .ok (.iconst 1, 1) := by decide +kernel
theorem dX7_cancel_24 : decode cX7_cancel 24 = .ok (.if_icmp .eq 18, 3) := by decide +kernel
theorem dX7_cancel_27 : decode cX7_cancel 27 = .ok (.iload_n 2, 1) := by decide +kernel
theorem dX7_cancel_28 : decode cX7_cancel 28 = .ok (.iconst 2, 1) := by decide +kernel
theorem dX7_cancel_29 : decode cX7_cancel 29 = .ok (.if_icmp .eq 13, 3) := by decide +kernel
theorem dX7_cancel_32 : decode cX7_cancel 32 = .ok (.new 180, 3) := by decide +kernel
theorem dX7_cancel_35 : decode cX7_cancel 35 = .ok (.dup, 1) := by decide +kernel
theorem dX7_cancel_36 : decode cX7_cancel 36 = .ok (.ldc 211, 2) := by decide +kernel
theorem dX7_cancel_38 : decode cX7_cancel 38 = .ok (.invokespecial 184, 3) := by decide +kernel
theorem dX7_cancel_41 : decode cX7_cancel 41 = .ok (.athrow, 1) := by decide +kernel
theorem dX7_cancel_42 : decode cX7_cancel 42 = .ok (.aload_n 0, 1) := by decide +kernel
theorem dX7_cancel_43 : decode cX7_cancel 43 = .ok (.getfield 29, 3) := by decide +kernel
theorem dX7_cancel_46 : decode cX7_cancel 46 = .ok (.aload_n 0, 1) := by decide +kernel
theorem dX7_cancel_47 : decode cX7_cancel 47 = .ok (.getfield 19, 3) := by decide +kernel
theorem dX7_cancel_50 : decode cX7_cancel 50 = .ok (.invokevirtual 67, 3) := by decide +kernel
theorem dX7_cancel_53 : decode cX7_cancel 53 = .ok (.aload_n 0, 1) := by decide +kernel
theorem dX7_cancel_54 : decode cX7_cancel 54 = .ok (.getfield 19, 3) := by decide +kernel
theorem dX7_cancel_57 : decode cX7_cancel 57 = .ok (.getfield 83, 3) := by decide +kernel
theorem dX7_cancel_60 : decode cX7_cancel 60 = .ok (.iload_n 1, 1) := by decide +kernel
theorem dX7_cancel_61 : decode cX7_cancel 61 = .ok (.invokevirtual 213, 3) := by decide +kernel
theorem dX7_cancel_64 : decode cX7_cancel 64 = .ok (.aload_n 0, 1) := by decide +kernel
theorem dX7_cancel_65 : decode cX7_cancel 65 = .ok (.getfield 19, 3) := by decide +kernel
theorem dX7_cancel_68 : decode cX7_cancel 68 = .ok (.getfield 74, 3) := by decide +kernel
theorem dX7_cancel_71 : decode cX7_cancel 71 = .ok (.getfield 99, 3) := by decide +kernel
theorem dX7_cancel_74 : decode cX7_cancel 74 = .ok (.iload_n 1, 1) := by decide +kernel
theorem dX7_cancel_75 : decode cX7_cancel 75 = .ok (.iconst 5, 1) := by decide +kernel
theorem dX7_cancel_76 : decode cX7_cancel 76 = .ok (.iastore, 1) := by decide +kernel
theorem dX7_cancel_77 : decode cX7_cancel 77 = .ok (.iload_n 2, 1) := by decide +kernel
theorem dX7_cancel_78 : decode cX7_cancel 78 = .ok (.ireturn, 1) := by decide +kernel
theorem dX7_setPriority_0 : decode cX7_setPriority 0 = .ok (.aload_n 0, 1) := by decide +kernel
theorem dX7_setPriority_1 : decode cX7_setPriority 1 = .ok (.iload_n 1, 1) := by decide +kernel
theorem dX7_setPriority_2 : decode cX7_setPriority 2 = .ok (.invokevirtual 96, 3) := by decide +kernel
theorem dX7_setPriority_5 : decode cX7_setPriority 5 = .ok (.iload_n 2, 1) := by decide +kernel
theorem dX7_setPriority_6 : decode cX7_setPriority 6 = .ok (.invokestatic 190, 3) := by decide +kernel
theorem dX7_setPriority_9 : decode cX7_setPriority 9 = .ok (.aload_n 0, 1) := by decide +kernel
theorem dX7_setPriority_10 : decode cX7_setPriority 10 = .ok (.getfield 29, 3) := by decide +kernel
theorem dX7_setPriority_13 : decode cX7_setPriority 13 = .ok (.aload_n 0, 1) := by decide +kernel
theorem dX7_setPriority_14 : decode cX7_setPriority 14 = .ok (.getfield 19, 3) := by decide +kernel
theorem dX7_setPriority_17 : decode cX7_setPriority 17 = .ok (.invokevirtual 67, 3) := by decide +kernel
theorem dX7_setPriority_20 : decode cX7_setPriority 20 = .ok (.aload_n 0, 1) := by decide +kernel
theorem dX7_setPriority_21 : decode cX7_setPriority 21 = .ok (.getfield 19, 3) := by decide +kernel
theorem dX7_setPriority_24 : decode cX7_setPriority 24 = .ok (.getfield 74, 3) := by decide +kernel
theorem dX7_setPriority_27 : decode cX7_setPriority 27 = .ok (.getfield 111, 3) := by decide +kernel
theorem dX7_setPriority_30 : decode cX7_setPriority 30 = .ok (.iload_n 1, 1) := by decide +kernel
theorem dX7_setPriority_31 : decode cX7_setPriority 31 = .ok (.iaload, 1) := by decide +kernel
theorem dX7_setPriority_32 : decode cX7_setPriority 32 = .ok (.istore_n 3, 1) := by decide +kernel
theorem dX7_setPriority_33 : decode cX7_setPriority 33 = .ok (.aload_n 0, 1) := by decide +kernel
theorem dX7_setPriority_34 : decode cX7_setPriority 34 = .ok (.getfield 19, 3) := by decide +kernel
theorem dX7_setPriority_37 : decode cX7_setPriority 37 = .ok (.getfield 74, 3) := by decide +kernel
theorem dX7_setPriority_40 : decode cX7_setPriority 40 = .ok (.getfield 111, 3) := by decide +kernel
theorem dX7_setPriority_43 : decode cX7_setPriority 43 = .ok (.iload_n 1, 1) := by decide +kernel
theorem dX7_setPriority_44 : decode cX7_setPriority 44 = .ok (.iload_n 2, 1) := by decide +kernel
theorem dX7_setPriority_45 : decode cX7_setPriority 45 = .ok (.iastore, 1) := by decide +kernel
theorem dX7_setPriority_46 : decode cX7_setPriority 46 = .ok (.iload_n 3, 1) := by decide +kernel
theorem dX7_setPriority_47 : decode cX7_setPriority 47 = .ok (.ireturn, 1) := by decide +kernel
theorem dX7_pause_0 : decode cX7_pause 0 = .ok (.aload_n 0, 1) := by decide +kernel
theorem dX7_pause_1 : decode cX7_pause 1 = .ok (.iload_n 1, 1) := by decide +kernel
theorem dX7_pause_2 : decode cX7_pause 2 = .ok (.invokevirtual 129, 3) := by decide +kernel
theorem dX7_pause_5 : decode cX7_pause 5 = .ok (.aload_n 0, 1) := by decide +kernel
theorem dX7_pause_6 : decode cX7_pause 6 = .ok (.getfield 29, 3) := by decide +kernel
theorem dX7_pause_9 : decode cX7_pause 9 = .ok (.aload_n 0, 1) := by decide +kernel
theorem dX7_pause_10 : decode cX7_pause 10 = .ok (.getfield 19, 3) := by decide +kernel
theorem dX7_pause_13 : decode cX7_pause 13 = .ok (.invokevirtual 67, 3) := by decide +kernel
theorem dX7_pause_16 : decode cX7_pause 16 = .ok (.aload_n 0, 1) := by decide +kernel
theorem dX7_pause_17 : decode cX7_pause 17 = .ok (.getfield 19, 3) := by decide +kernel
theorem dX7_pause_20 : decode cX7_pause 20 = .ok (.getfield 83, 3) := by decide +kernel
theorem dX7_pause_23 : decode cX7_pause 23 = .ok (.getfield 152, 3) := by decide +kernel
theorem dX7_pause_26 : decode cX7_pause 26 = .ok (.iload_n 1, 1) := by decide +kernel
theorem dX7_pause_27 : decode cX7_pause 27 = .ok (.baload, 1) := by decide +kernel
theorem dX7_pause_28 : decode cX7_pause 28 = .ok (.istore_n 3, 1) := by decide +kernel
theorem dX7_pause_29 : decode cX7_pause 29 = .ok (.aload_n 0, 1) := by decide +kernel
theorem dX7_pause_30 : decode cX7_pause 30 = .ok (.getfield 19, 3) := by decide +kernel
theorem dX7_pause_33 : decode cX7_pause 33 = .ok (.getfield 83, 3) := by decide +kernel
theorem dX7_pause_36 : decode cX7_pause 36 = .ok (.getfield 152, 3) := by decide +kernel
theorem dX7_pause_39 : decode cX7_pause 39 = .ok (.iload_n 1, 1) := by decide +kernel
theorem dX7_pause_40 : decode cX7_pause 40 = .ok (.iload_n 2, 1) := by decide +kernel
theorem dX7_pause_41 : decode cX7_pause 41 = .ok (.bastore, 1) := by decide +kernel
theorem dX7_pause_42 : decode cX7_pause 42 = .ok (.iload_n 3, 1) := by decide +kernel
theorem dX7_pause_43 : decode cX7_pause 43 = .ok (.ireturn, 1) := by decide +kernel
theorem dX7_undo_0 : decode cX7_undo 0 = .ok (.aload_n 0, 1) := by decide +kernel
theorem dX7_undo_1 : decode cX7_undo 1 = .ok (.getfield 29, 3) := by decide +kernel
theorem dX7_undo_4 : decode cX7_undo 4 = .ok (.aload_n 0, 1) := by decide +kernel
theorem dX7_undo_5 : decode cX7_undo 5 = .ok (.getfield 19, 3) := by decide +kernel
theorem dX7_undo_8 : decode cX7_undo 8 = .ok (.invokevirtual 216, 3) := by decide +kernel
theorem dX7_undo_11 : decode cX7_undo 11 = .ok (.ireturn, 1) := by decide +kernel
theorem dX7_checksum_0 : decode cX7_checksum 0 = .ok (.aload_n 0, 1) := by decide +kernel
theorem dX7_checksum_1 : decode cX7_checksum 1 = .ok (.getfield 19, 3) := by decide +kernel
theorem dX7_checksum_4 : decode cX7_checksum 4 = .ok (.getfield 74, 3) := by decide +kernel
theorem dX7_checksum_7 : decode cX7_checksum 7 = .ok (.astore_n 1, 1) := by decide +kernel
theorem dX7_checksum_8 : decode cX7_checksum 8 = .ok (.aload_n 0, 1) := by decide +kernel
theorem dX7_checksum_9 : decode cX7_checksum 9 = .ok (.getfield 19, 3) := by decide +kernel
theorem dX7_checksum_12 : decode cX7_checksum 12 = .ok (.getfield 83, 3) := by decide +kernel
theorem dX7_checksum_15 : decode cX7_checksum 15 = .ok (.astore_n 2, 1) := by decide +kernel
theorem dX7_checksum_16 : decode cX7_checksum 16 = .ok (.ldc2_w 220, 3) := by decide +kernel
theorem dX7_checksum_19 : decode cX7_checksum 19 = .ok (.aload_n 0, 1) := by decide +kernel
theorem dX7_checksum_20 : decode cX7_checksum 20 = .ok (.getfield 19, 3) := by decide +kernel
theorem dX7_checksum_23 : decode cX7_checksum 23 = .ok (.getfield 93, 3) := by decide +kernel
theorem dX7_checksum_26 : decode cX7_checksum 26 = .ok (.i2l, 1) := by decide +kernel
theorem dX7_checksum_27 : decode cX7_checksum 27 = .ok (.lmul, 1) := by decide +kernel
theorem dX7_checksum_28 : decode cX7_checksum 28 = .ok (.aload_n 1, 1) := by decide +kernel
theorem dX7_checksum_29 : decode cX7_checksum 29 = .ok (.invokevirtual 156, 3) := by decide +kernel
theorem dX7_checksum_32 : decode cX7_checksum 32 = .ok (.i2l, 1) := by decide +kernel
theorem dX7_checksum_33 : decode cX7_checksum 33 = .ok (.ladd, 1) := by decide +kernel
theorem dX7_checksum_34 : decode cX7_checksum 34 = .ok (.lstore_n 3, 1) := by decide +kernel
theorem dX7_checksum_35 : decode cX7_checksum 35 = .ok (.aload_n 1, 1) := by decide +kernel
theorem dX7_checksum_36 : decode cX7_checksum 36 = .ok (.invokevirtual 103, 3) := by decide +kernel
theorem dX7_checksum_39 : decode cX7_checksum 39 = .ok (.istore 5, 2) := by decide +kernel
theorem dX7_checksum_41 : decode cX7_checksum 41 = .ok (.iconst 0, 1) := by decide +kernel
theorem dX7_checksum_42 : decode cX7_checksum 42 = .ok (.istore 6, 2) := by decide +kernel
theorem dX7_checksum_44 : decode cX7_checksum 44 = .ok (.iload 6, 2) := by decide +kernel
theorem dX7_checksum_46 : decode cX7_checksum 46 = .ok (.aload_n 1, 1) := by decide +kernel
theorem dX7_checksum_47 : decode cX7_checksum 47 = .ok (.getfield 78, 3) := by decide +kernel
theorem dX7_checksum_50 : decode cX7_checksum 50 = .ok (.if_icmp .ge 55, 3) := by decide +kernel
theorem dX7_checksum_53 : decode cX7_checksum 53 = .ok (.ldc2_w 220, 3) := by decide +kernel
theorem dX7_checksum_56 : decode cX7_checksum 56 = .ok (.lload_n 3, 1) := by decide +kernel
theorem dX7_checksum_57 : decode cX7_checksum 57 = .ok (.lmul, 1) := by decide +kernel
theorem dX7_checksum_58 : decode cX7_checksum 58 = .ok (.aload_n 1, 1) := by decide +kernel
theorem dX7_checksum_59 : decode cX7_checksum 59 = .ok (.getfield 99, 3) := by decide +kernel
theorem dX7_checksum_62 : decode cX7_checksum 62 = .ok (.iload 6, 2) := by decide +kernel
theorem dX7_checksum_64 : decode cX7_checksum 64 = .ok (.iaload, 1) := by decide +kernel
theorem dX7_checksum_65 : decode cX7_checksum 65 = .ok (.i2l, 1) := by decide +kernel
theorem dX7_checksum_66 : decode cX7_checksum 66 = .ok (.ladd, 1) := by decide +kernel
theorem dX7_checksum_67 : decode cX7_checksum 67 = .ok (.lstore_n 3, 1) := by decide +kernel
theorem dX7_checksum_68 : decode cX7_checksum 68 = .ok (.ldc2_w 220, 3) := by decide +kernel
theorem dX7_checksum_71 : decode cX7_checksum 71 = .ok (.lload_n 3, 1) := by decide +kernel
theorem dX7_checksum_72 : decode cX7_checksum 72 = .ok (.lmul, 1) := by decide +kernel
theorem dX7_checksum_73 : decode cX7_checksum 73 = .ok (.aload_n 1, 1) := by decide +kernel
theorem dX7_checksum_74 : decode cX7_checksum 74 = .ok (.getfield 111, 3) := by decide +kernel
theorem dX7_checksum_77 : decode cX7_checksum 77 = .ok (.iload 6, 2) := by decide +kernel
theorem dX7_checksum_79 : decode cX7_checksum 79 = .ok (.iaload, 1) := by decide +kernel
theorem dX7_checksum_80 : decode cX7_checksum 80 = .ok (.i2l, 1) := by decide +kernel
theorem dX7_checksum_81 : decode cX7_checksum 81 = .ok (.ladd, 1) := by decide +kernel
theorem dX7_checksum_82 : decode cX7_checksum 82 = .ok (.lstore_n 3, 1) := by decide +kernel
theorem dX7_checksum_83 : decode cX7_checksum 83 = .ok (.ldc2_w 220, 3) := by decide +kernel
theorem dX7_checksum_86 : decode cX7_checksum 86 = .ok (.lload_n 3, 1) := by decide +kernel
theorem dX7_checksum_87 : decode cX7_checksum 87 = .ok (.lmul, 1) := by decide +kernel
theorem dX7_checksum_88 : decode cX7_checksum 88 = .ok (.aload_n 1, 1) := by decide +kernel
theorem dX7_checksum_89 : decode cX7_checksum 89 = .ok (.iload 6, 2) := by decide +kernel
theorem dX7_checksum_91 : decode cX7_checksum 91 = .ok (.iload 5, 2) := by decide +kernel
theorem dX7_checksum_93 : decode cX7_checksum 93 = .ok (.invokevirtual 107, 3) := by decide +kernel
theorem dX7_checksum_96 : decode cX7_checksum 96 = .ok (.i2l, 1) := by decide +kernel
theorem dX7_checksum_97 : decode cX7_checksum 97 = .ok (.ladd, 1) := by decide +kernel
theorem dX7_checksum_98 : decode cX7_checksum 98 = .ok (.lstore_n 3, 1) := by decide +kernel
theorem dX7_checksum_99 : decode cX7_checksum 99 = .ok (.iinc 6 1, 3) := by decide +kernel
theorem dX7_checksum_102 : decode cX7_checksum 102 = .ok (.goto (-58), 3) := by decide +kernel
theorem dX7_checksum_105 : decode cX7_checksum 105 = .ok (.iconst 0, 1) := by decide +kernel
theorem dX7_checksum_106 : decode cX7_checksum 106 = .ok (.istore 6, 2) := by decide +kernel
theorem dX7_checksum_108 : decode cX7_checksum 108 = .ok (.iload 6, 2) := by decide +kernel
theorem dX7_checksum_110 : decode cX7_checksum 110 = .ok (.aload_n 2, 1) := by decide +kernel
theorem dX7_checksum_111 : decode cX7_checksum 111 = .ok (.getfield 87, 3) := by decide +kernel
theorem dX7_checksum_114 : decode cX7_checksum 114 = .ok (.if_icmp .ge 111, 3) := by decide +kernel
theorem dX7_checksum_117 : decode cX7_checksum 117 = .ok (.iconst 0, 1) := by decide +kernel
theorem dX7_checksum_118 : decode cX7_checksum 118 = .ok (.istore 7, 2) := by decide +kernel
theorem dX7_checksum_120 : decode cX7_checksum 120 = .ok (.iload 7, 2) := by decide +kernel
theorem dX7_checksum_122 : decode cX7_checksum 122 = .ok (.aload_n 2, 1) := by decide +kernel
theorem dX7_checksum_123 : decode cX7_checksum 123 = .ok (.getfield 132, 3) := by decide +kernel
theorem dX7_checksum_126 : decode cX7_checksum 126 = .ok (.iload 6, 2) := by decide +kernel
theorem dX7_checksum_128 : decode cX7_checksum 128 = .ok (.iaload, 1) := by decide +kernel
theorem dX7_checksum_129 : decode cX7_checksum 129 = .ok (.if_icmp .ge 30, 3) := by decide +kernel
theorem dX7_checksum_132 : decode cX7_checksum 132 = .ok (.ldc2_w 220, 3) := by decide +kernel
theorem dX7_checksum_135 : decode cX7_checksum 135 = .ok (.lload_n 3, 1) := by decide +kernel
theorem dX7_checksum_136 : decode cX7_checksum 136 = .ok (.lmul, 1) := by decide +kernel
theorem dX7_checksum_137 : decode cX7_checksum 137 = .ok (.aload_n 2, 1) := by decide +kernel
theorem dX7_checksum_138 : decode cX7_checksum 138 = .ok (.getfield 137, 3) := by decide +kernel
theorem dX7_checksum_141 : decode cX7_checksum 141 = .ok (.iload 6, 2) := by decide +kernel
theorem dX7_checksum_143 : decode cX7_checksum 143 = .ok (.bipush 8, 2) := by decide +kernel
theorem dX7_checksum_145 : decode cX7_checksum 145 = .ok (.imul, 1) := by decide +kernel
theorem dX7_checksum_146 : decode cX7_checksum 146 = .ok (.iload 7, 2) := by decide +kernel
theorem dX7_checksum_148 : decode cX7_checksum 148 = .ok (.iadd, 1) := by decide +kernel
theorem dX7_checksum_149 : decode cX7_checksum 149 = .ok (.iaload, 1) := by decide +kernel
theorem dX7_checksum_150 : decode cX7_checksum 150 = .ok (.i2l, 1) := by decide +kernel
theorem dX7_checksum_151 : decode cX7_checksum 151 = .ok (.ladd, 1) := by decide +kernel
theorem dX7_checksum_152 : decode cX7_checksum 152 = .ok (.lstore_n 3, 1) := by decide +kernel
theorem dX7_checksum_153 : decode cX7_checksum 153 = .ok (.iinc 7 1, 3) := by decide +kernel
theorem dX7_checksum_156 : decode cX7_checksum 156 = .ok (.goto (-36), 3) := by decide +kernel
theorem dX7_checksum_159 : decode cX7_checksum 159 = .ok (.ldc2_w 220, 3) := by decide +kernel
theorem dX7_checksum_162 : decode cX7_checksum 162 = .ok (.lload_n 3, 1) := by decide +kernel
theorem dX7_checksum_163 : decode cX7_checksum 163 = .ok (.lmul, 1) := by decide +kernel
theorem dX7_checksum_164 : decode cX7_checksum 164 = .ok (.aload_n 2, 1) := by decide +kernel
theorem dX7_checksum_165 : decode cX7_checksum 165 = .ok (.getfield 140, 3) := by decide +kernel
theorem dX7_checksum_168 : decode cX7_checksum 168 = .ok (.iload 6, 2) := by decide +kernel
theorem dX7_checksum_170 : decode cX7_checksum 170 = .ok (.iaload, 1) := by decide +kernel
theorem dX7_checksum_171 : decode cX7_checksum 171 = .ok (.i2l, 1) := by decide +kernel
theorem dX7_checksum_172 : decode cX7_checksum 172 = .ok (.ladd, 1) := by decide +kernel
theorem dX7_checksum_173 : decode cX7_checksum 173 = .ok (.lstore_n 3, 1) := by decide +kernel
theorem dX7_checksum_174 : decode cX7_checksum 174 = .ok (.ldc2_w 220, 3) := by decide +kernel
theorem dX7_checksum_177 : decode cX7_checksum 177 = .ok (.lload_n 3, 1) := by decide +kernel
theorem dX7_checksum_178 : decode cX7_checksum 178 = .ok (.lmul, 1) := by decide +kernel
theorem dX7_checksum_179 : decode cX7_checksum 179 = .ok (.aload_n 2, 1) := by decide +kernel
theorem dX7_checksum_180 : decode cX7_checksum 180 = .ok (.getfield 143, 3) := by decide +kernel
theorem dX7_checksum_183 : decode cX7_checksum 183 = .ok (.iload 6, 2) := by decide +kernel
theorem dX7_checksum_185 : decode cX7_checksum 185 = .ok (.iaload, 1) := by decide +kernel
theorem dX7_checksum_186 : decode cX7_checksum 186 = .ok (.i2l, 1) := by decide +kernel
theorem dX7_checksum_187 : decode cX7_checksum 187 = .ok (.ladd, 1) := by decide +kernel
theorem dX7_checksum_188 : decode cX7_checksum 188 = .ok (.lstore_n 3, 1) := by decide +kernel
theorem dX7_checksum_189 : decode cX7_checksum 189 = .ok (.ldc2_w 220, 3) := by decide +kernel
theorem dX7_checksum_192 : decode cX7_checksum 192 = .ok (.lload_n 3, 1) := by decide +kernel
theorem dX7_checksum_193 : decode cX7_checksum 193 = .ok (.lmul, 1) := by decide +kernel
theorem dX7_checksum_194 : decode cX7_checksum 194 = .ok (.aload_n 2, 1) := by decide +kernel
theorem dX7_checksum_195 : decode cX7_checksum 195 = .ok (.getfield 146, 3) := by decide +kernel
theorem dX7_checksum_198 : decode cX7_checksum 198 = .ok (.iload 6, 2) := by decide +kernel
theorem dX7_checksum_200 : decode cX7_checksum 200 = .ok (.iaload, 1) := by decide +kernel
theorem dX7_checksum_201 : decode cX7_checksum 201 = .ok (.i2l, 1) := by decide +kernel
theorem dX7_checksum_202 : decode cX7_checksum 202 = .ok (.ladd, 1) := by decide +kernel
theorem dX7_checksum_203 : decode cX7_checksum 203 = .ok (.lstore_n 3, 1) := by decide +kernel
theorem dX7_checksum_204 : decode cX7_checksum 204 = .ok (.ldc2_w 220, 3) := by decide +kernel
theorem dX7_checksum_207 : decode cX7_checksum 207 = .ok (.lload_n 3, 1) := by decide +kernel
theorem dX7_checksum_208 : decode cX7_checksum 208 = .ok (.lmul, 1) := by decide +kernel
theorem dX7_checksum_209 : decode cX7_checksum 209 = .ok (.aload_n 2, 1) := by decide +kernel
theorem dX7_checksum_210 : decode cX7_checksum 210 = .ok (.getfield 149, 3) := by decide +kernel
theorem dX7_checksum_213 : decode cX7_checksum 213 = .ok (.iload 6, 2) := by decide +kernel
theorem dX7_checksum_215 : decode cX7_checksum 215 = .ok (.iaload, 1) := by decide +kernel
theorem dX7_checksum_216 : decode cX7_checksum 216 = .ok (.i2l, 1) := by decide +kernel
theorem dX7_checksum_217 : decode cX7_checksum 217 = .ok (.ladd, 1) := by decide +kernel
theorem dX7_checksum_218 : decode cX7_checksum 218 = .ok (.lstore_n 3, 1) := by decide +kernel
theorem dX7_checksum_219 : decode cX7_checksum 219 = .ok (.iinc 6 1, 3) := by decide +kernel
theorem dX7_checksum_222 : decode cX7_checksum 222 = .ok (.goto (-114), 3) := by decide +kernel
theorem dX7_checksum_225 : decode cX7_checksum 225 = .ok (.lload_n 3, 1) := by decide +kernel
theorem dX7_checksum_226 : decode cX7_checksum 226 = .ok (.lreturn, 1) := by decide +kernel
theorem dX7_requireTask_0 : decode cX7_requireTask 0 = .ok (.iload_n 1, 1) := by decide +kernel
theorem dX7_requireTask_1 : decode cX7_requireTask 1 = .ok (.ifCond .lt 17, 3) := by decide +kernel
theorem dX7_requireTask_4 : decode cX7_requireTask 4 = .ok (.iload_n 1, 1) := by decide +kernel
theorem dX7_requireTask_5 : decode cX7_requireTask 5 = .ok (.aload_n 0, 1) := by decide +kernel
theorem dX7_requireTask_6 : decode cX7_requireTask 6 = .ok (.getfield 19, 3) := by decide +kernel
theorem dX7_requireTask_9 : decode cX7_requireTask 9 = .ok (.getfield 74, 3) := by decide +kernel
theorem dX7_requireTask_12 : decode cX7_requireTask 12 = .ok (.getfield 78, 3) := by decide +kernel
theorem dX7_requireTask_15 : decode cX7_requireTask 15 = .ok (.if_icmp .lt 13, 3) := by decide +kernel
theorem dX7_requireTask_18 : decode cX7_requireTask 18 = .ok (.new 120, 3) := by decide +kernel
theorem dX7_requireTask_21 : decode cX7_requireTask 21 = .ok (.dup, 1) := by decide +kernel
theorem dX7_requireTask_22 : decode cX7_requireTask 22 = .ok (.ldc 222, 2) := by decide +kernel
theorem dX7_requireTask_24 : decode cX7_requireTask 24 = .ok (.invokespecial 124, 3) := by decide +kernel
theorem dX7_requireTask_27 : decode cX7_requireTask 27 = .ok (.athrow, 1) := by decide +kernel
theorem dX7_requireTask_28 : decode cX7_requireTask 28 = .ok (.return_, 1) := by decide +kernel
theorem dX7_requireCore_0 : decode cX7_requireCore 0 = .ok (.iload_n 1, 1) := by decide +kernel
theorem dX7_requireCore_1 : decode cX7_requireCore 1 = .ok (.ifCond .lt 17, 3) := by decide +kernel
theorem dX7_requireCore_4 : decode cX7_requireCore 4 = .ok (.iload_n 1, 1) := by decide +kernel
theorem dX7_requireCore_5 : decode cX7_requireCore 5 = .ok (.aload_n 0, 1) := by decide +kernel
theorem dX7_requireCore_6 : decode cX7_requireCore 6 = .ok (.getfield 19, 3) := by decide +kernel
theorem dX7_requireCore_9 : decode cX7_requireCore 9 = .ok (.getfield 83, 3) := by decide +kernel
theorem dX7_requireCore_12 : decode cX7_requireCore 12 = .ok (.getfield 87, 3) := by decide +kernel
theorem dX7_requireCore_15 : decode cX7_requireCore 15 = .ok (.if_icmp .lt 13, 3) := by decide +kernel
theorem dX7_requireCore_18 : decode cX7_requireCore 18 = .ok (.new 120, 3) := by decide +kernel
theorem dX7_requireCore_21 : decode cX7_requireCore 21 = .ok (.dup, 1) := by decide +kernel
theorem dX7_requireCore_22 : decode cX7_requireCore 22 = .ok (.ldc 224, 2) := by decide +kernel
theorem dX7_requireCore_24 : decode cX7_requireCore 24 = .ok (.invokespecial 124, 3) := by decide +kernel
theorem dX7_requireCore_27 : decode cX7_requireCore 27 = .ok (.athrow, 1) := by decide +kernel
theorem dX7_requireCore_28 : decode cX7_requireCore 28 = .ok (.return_, 1) := by decide +kernel
theorem dX7_requireSetup_0 : decode cX7_requireSetup 0 = .ok (.aload_n 0, 1) := by decide +kernel
theorem dX7_requireSetup_1 : decode cX7_requireSetup 1 = .ok (.getfield 19, 3) := by decide +kernel
theorem dX7_requireSetup_4 : decode cX7_requireSetup 4 = .ok (.getfield 83, 3) := by decide +kernel
theorem dX7_requireSetup_7 : decode cX7_requireSetup 7 = .ok (.getfield 87, 3) := by decide +kernel
theorem dX7_requireSetup_10 : decode cX7_requireSetup 10 = .ok (.ifCond .ne 13, 3) := by decide +kernel
theorem dX7_requireSetup_13 : decode cX7_requireSetup 13 = .ok (.new 180, 3) := by decide +kernel
theorem dX7_requireSetup_16 : decode cX7_requireSetup 16 = .ok (.dup, 1) := by decide +kernel
theorem dX7_requireSetup_17 : decode cX7_requireSetup 17 = .ok (.ldc 226, 2) := by decide +kernel
theorem dX7_requireSetup_19 : decode cX7_requireSetup 19 = .ok (.invokespecial 184, 3) := by decide +kernel
theorem dX7_requireSetup_22 : decode cX7_requireSetup 22 = .ok (.athrow, 1) := by decide +kernel
theorem dX7_requireSetup_23 : decode cX7_requireSetup 23 = .ok (.return_, 1) := by decide +kernel
theorem dX7_requirePriority_0 : decode cX7_requirePriority 0 = .ok (.iload_n 0, 1) := by decide +kernel
theorem dX7_requirePriority_1 : decode cX7_requirePriority 1 = .ok (.ifCond .lt 9, 3) := by decide +kernel
theorem dX7_requirePriority_4 : decode cX7_requirePriority 4 = .ok (.iload_n 0, 1) := by decide +kernel
theorem dX7_requirePriority_5 : decode cX7_requirePriority 5 = .ok (.bipush 9, 2) := by decide +kernel
theorem dX7_requirePriority_7 : decode cX7_requirePriority 7 = .ok (.if_icmp .le 13, 3) := by decide +kernel
theorem dX7_requirePriority_10 : decode cX7_requirePriority 10 = .ok (.new 50, 3) := by decide +kernel
theorem dX7_requirePriority_13 : decode cX7_requirePriority 13 = .ok (.dup, 1) := by decide +kernel
theorem dX7_requirePriority_14 : decode cX7_requirePriority 14 = .ok (.ldc 228, 2) := by decide +kernel
theorem dX7_requirePriority_16 : decode cX7_requirePriority 16 = .ok (.invokespecial 54, 3) := by decide +kernel
theorem dX7_requirePriority_19 : decode cX7_requirePriority 19 = .ok (.athrow, 1) := by decide +kernel
theorem dX7_requirePriority_20 : decode cX7_requirePriority 20 = .ok (.return_, 1) := by decide +kernel
theorem dX7_requireLimit_0 : decode cX7_requireLimit 0 = .ok (.iload_n 0, 1) := by decide +kernel
theorem dX7_requireLimit_1 : decode cX7_requireLimit 1 = .ok (.ifCond .lt 10, 3) := by decide +kernel
theorem dX7_requireLimit_4 : decode cX7_requireLimit 4 = .ok (.iload_n 0, 1) := by decide +kernel
theorem dX7_requireLimit_5 : decode cX7_requireLimit 5 = .ok (.sipush 500, 3) := by decide +kernel
theorem dX7_requireLimit_8 : decode cX7_requireLimit 8 = .ok (.if_icmp .le 13, 3) := by decide +kernel
theorem dX7_requireLimit_11 : decode cX7_requireLimit 11 = .ok (.new 50, 3) := by decide +kernel
theorem dX7_requireLimit_14 : decode cX7_requireLimit 14 = .ok (.dup, 1) := by decide +kernel
end
section
theorem dX7_requireLimit_15 : decode cX7_requireLimit 15 = .ok (.ldc 230, 2) := by decide +kernel
theorem dX7_requireLimit_17 : decode cX7_requireLimit 17 = .ok (.invokespecial 54, 3) := by decide +kernel
theorem dX7_requireLimit_20 : decode cX7_requireLimit 20 = .ok (.athrow, 1) := by decide +kernel
theorem dX7_requireLimit_21 : decode cX7_requireLimit 21 = .ok (.return_, 1) := by decide +kernel
theorem dX7_hasBit_0 : decode cX7_hasBit 0 = .ok (.iload_n 1, 1) := by decide +kernel
theorem dX7_hasBit_1 : decode cX7_hasBit 1 = .ok (.ifCond .lt 21, 3) := by decide +kernel
theorem dX7_hasBit_4 : decode cX7_hasBit 4 = .ok (.iload_n 1, 1) := by decide +kernel
theorem dX7_hasBit_5 : decode cX7_hasBit 5 = .ok (.bipush 32, 2) := by decide +kernel
theorem dX7_hasBit_7 : decode cX7_hasBit 7 = .ok (.if_icmp .ge 15, 3) := by decide +kernel
theorem dX7_hasBit_10 : decode cX7_hasBit 10 = .ok (.iload_n 0, 1) := by decide +kernel
theorem dX7_hasBit_11 : decode cX7_hasBit 11 = .ok (.iload_n 1, 1) := by decide +kernel
theorem dX7_hasBit_12 : decode cX7_hasBit 12 = .ok (.iushr, 1) := by decide +kernel
theorem dX7_hasBit_13 : decode cX7_hasBit 13 = .ok (.iconst 1, 1) := by decide +kernel
theorem dX7_hasBit_14 : decode cX7_hasBit 14 = .ok (.iand, 1) := by decide +kernel
theorem dX7_hasBit_15 : decode cX7_hasBit 15 = .ok (.ifCond .eq 7, 3) := by decide +kernel
theorem dX7_hasBit_18 : decode cX7_hasBit 18 = .ok (.iconst 1, 1) := by decide +kernel
theorem dX7_hasBit_19 : decode cX7_hasBit 19 = .ok (.goto 4, 3) := by decide +kernel
theorem dX7_hasBit_22 : decode cX7_hasBit 22 = .ok (.iconst 0, 1) := by decide +kernel
theorem dX7_hasBit_23 : decode cX7_hasBit 23 = .ok (.ireturn, 1) := by decide +kernel
theorem dX8_init_0 : decode cX8_init 0 = .ok (.aload_n 0, 1) := by decide +kernel
theorem dX8_init_1 : decode cX8_init 1 = .ok (.invokespecial 3, 3) := by decide +kernel
theorem dX8_init_4 : decode cX8_init 4 = .ok (.aload_n 0, 1) := by decide +kernel
theorem dX8_init_5 : decode cX8_init 5 = .ok (.sipush 900, 3) := by decide +kernel
theorem dX8_init_8 : decode cX8_init 8 = .ok (.newarray .int, 2) := by decide +kernel
theorem dX8_init_10 : decode cX8_init 10 = .ok (.putfield 9, 3) := by decide +kernel
theorem dX8_init_13 : decode cX8_init 13 = .ok (.aload_n 0, 1) := by decide +kernel
theorem dX8_init_14 : decode cX8_init 14 = .ok (.iconst (-1), 1) := by decide +kernel
theorem dX8_init_15 : decode cX8_init 15 = .ok (.putfield 13, 3) := by decide +kernel
theorem dX8_init_18 : decode cX8_init 18 = .ok (.aload_n 0, 1) := by decide +kernel
theorem dX8_init_19 : decode cX8_init 19 = .ok (.sipush 1824, 3) := by decide +kernel
theorem dX8_init_22 : decode cX8_init 22 = .ok (.newarray .int, 2) := by decide +kernel
theorem dX8_init_24 : decode cX8_init 24 = .ok (.putfield 17, 3) := by decide +kernel
theorem dX8_init_27 : decode cX8_init 27 = .ok (.aload_n 0, 1) := by decide +kernel
theorem dX8_init_28 : decode cX8_init 28 = .ok (.sipush 1824, 3) := by decide +kernel
theorem dX8_init_31 : decode cX8_init 31 = .ok (.newarray .int, 2) := by decide +kernel
theorem dX8_init_33 : decode cX8_init 33 = .ok (.putfield 20, 3) := by decide +kernel
theorem dX8_init_36 : decode cX8_init 36 = .ok (.aload_n 0, 1) := by decide +kernel
theorem dX8_init_37 : decode cX8_init 37 = .ok (.sipush 1824, 3) := by decide +kernel
theorem dX8_init_40 : decode cX8_init 40 = .ok (.newarray .int, 2) := by decide +kernel
theorem dX8_init_42 : decode cX8_init 42 = .ok (.putfield 23, 3) := by decide +kernel
theorem dX8_init_45 : decode cX8_init 45 = .ok (.aload_n 0, 1) := by decide +kernel
theorem dX8_init_46 : decode cX8_init 46 = .ok (.bipush 8, 2) := by decide +kernel
theorem dX8_init_48 : decode cX8_init 48 = .ok (.sipush 1824, 3) := by decide +kernel
theorem dX8_init_51 : decode cX8_init 51 = .ok (.multianewarray 26 2, 4) := by decide +kernel
theorem dX8_init_55 : decode cX8_init 55 = .ok (.putfield 28, 3) := by decide +kernel
theorem dX8_init_58 : decode cX8_init 58 = .ok (.aload_n 0, 1) := by decide +kernel
theorem dX8_init_59 : decode cX8_init 59 = .ok (.sipush 1500, 3) := by decide +kernel
theorem dX8_init_62 : decode cX8_init 62 = .ok (.newarray .long, 2) := by decide +kernel
theorem dX8_init_64 : decode cX8_init 64 = .ok (.putfield 31, 3) := by decide +kernel
theorem dX8_init_67 : decode cX8_init 67 = .ok (.aload_n 0, 1) := by decide +kernel
theorem dX8_init_68 : decode cX8_init 68 = .ok (.bipush 32, 2) := by decide +kernel
theorem dX8_init_70 : decode cX8_init 70 = .ok (.newarray .int, 2) := by decide +kernel
theorem dX8_init_72 : decode cX8_init 72 = .ok (.putfield 35, 3) := by decide +kernel
theorem dX8_init_75 : decode cX8_init 75 = .ok (.return_, 1) := by decide +kernel
theorem dX8_thrown_0 : decode cX8_thrown 0 = .ok (.aload_n 0, 1) := by decide +kernel
theorem dX8_thrown_1 : decode cX8_thrown 1 = .ok (.getfield 38, 3) := by decide +kernel
theorem dX8_thrown_4 : decode cX8_thrown 4 = .ok (.ireturn, 1) := by decide +kernel
theorem dX8_fails_0 : decode cX8_fails 0 = .ok (.iload_n 1, 1) := by decide +kernel
theorem dX8_fails_1 : decode cX8_fails 1 = .ok (.ifCond .eq 15, 3) := by decide +kernel
theorem dX8_fails_4 : decode cX8_fails 4 = .ok (.aload_n 0, 1) := by decide +kernel
theorem dX8_fails_5 : decode cX8_fails 5 = .ok (.getfield 38, 3) := by decide +kernel
theorem dX8_fails_8 : decode cX8_fails 8 = .ok (.ifCond .ne 8, 3) := by decide +kernel
theorem dX8_fails_11 : decode cX8_fails 11 = .ok (.aload_n 0, 1) := by decide +kernel
theorem dX8_fails_12 : decode cX8_fails 12 = .ok (.iload_n 2, 1) := by decide +kernel
theorem dX8_fails_13 : decode cX8_fails 13 = .ok (.putfield 38, 3) := by decide +kernel
theorem dX8_fails_16 : decode cX8_fails 16 = .ok (.aload_n 0, 1) := by decide +kernel
theorem dX8_fails_17 : decode cX8_fails 17 = .ok (.getfield 38, 3) := by decide +kernel
theorem dX8_fails_20 : decode cX8_fails 20 = .ok (.ifCond .eq 7, 3) := by decide +kernel
theorem dX8_fails_23 : decode cX8_fails 23 = .ok (.iconst 1, 1) := by decide +kernel
theorem dX8_fails_24 : decode cX8_fails 24 = .ok (.goto 4, 3) := by decide +kernel
theorem dX8_fails_27 : decode cX8_fails 27 = .ok (.iconst 0, 1) := by decide +kernel
theorem dX8_fails_28 : decode cX8_fails 28 = .ok (.ireturn, 1) := by decide +kernel
theorem dX8_in_0 : decode cX8_in 0 = .ok (.iload_n 0, 1) := by decide +kernel
theorem dX8_in_1 : decode cX8_in 1 = .ok (.iload_n 1, 1) := by decide +kernel
theorem dX8_in_2 : decode cX8_in 2 = .ok (.if_icmp .lt 12, 3) := by decide +kernel
theorem dX8_in_5 : decode cX8_in 5 = .ok (.iload_n 0, 1) := by decide +kernel
theorem dX8_in_6 : decode cX8_in 6 = .ok (.iload_n 2, 1) := by decide +kernel
theorem dX8_in_7 : decode cX8_in 7 = .ok (.if_icmp .gt 7, 3) := by decide +kernel
theorem dX8_in_10 : decode cX8_in 10 = .ok (.iconst 1, 1) := by decide +kernel
theorem dX8_in_11 : decode cX8_in 11 = .ok (.goto 4, 3) := by decide +kernel
theorem dX8_in_14 : decode cX8_in 14 = .ok (.iconst 0, 1) := by decide +kernel
theorem dX8_in_15 : decode cX8_in 15 = .ok (.ireturn, 1) := by decide +kernel
theorem dX8_min_0 : decode cX8_min 0 = .ok (.iload_n 0, 1) := by decide +kernel
theorem dX8_min_1 : decode cX8_min 1 = .ok (.iload_n 1, 1) := by decide +kernel
theorem dX8_min_2 : decode cX8_min 2 = .ok (.if_icmp .ge 7, 3) := by decide +kernel
theorem dX8_min_5 : decode cX8_min 5 = .ok (.iload_n 0, 1) := by decide +kernel
theorem dX8_min_6 : decode cX8_min 6 = .ok (.goto 4, 3) := by decide +kernel
theorem dX8_min_9 : decode cX8_min 9 = .ok (.iload_n 1, 1) := by decide +kernel
theorem dX8_min_10 : decode cX8_min 10 = .ok (.ireturn, 1) := by decide +kernel
theorem dX8_max_0 : decode cX8_max 0 = .ok (.iload_n 0, 1) := by decide +kernel
theorem dX8_max_1 : decode cX8_max 1 = .ok (.iload_n 1, 1) := by decide +kernel
theorem dX8_max_2 : decode cX8_max 2 = .ok (.if_icmp .le 7, 3) := by decide +kernel
theorem dX8_max_5 : decode cX8_max 5 = .ok (.iload_n 0, 1) := by decide +kernel
theorem dX8_max_6 : decode cX8_max 6 = .ok (.goto 4, 3) := by decide +kernel
theorem dX8_max_9 : decode cX8_max 9 = .ok (.iload_n 1, 1) := by decide +kernel
theorem dX8_max_10 : decode cX8_max 10 = .ok (.ireturn, 1) := by decide +kernel
theorem dX8_copy_0 : decode cX8_copy 0 = .ok (.iconst 0, 1) := by decide +kernel
theorem dX8_copy_1 : decode cX8_copy 1 = .ok (.istore_n 2, 1) := by decide +kernel
theorem dX8_copy_2 : decode cX8_copy 2 = .ok (.iload_n 2, 1) := by decide +kernel
theorem dX8_copy_3 : decode cX8_copy 3 = .ok (.sipush 1824, 3) := by decide +kernel
theorem dX8_copy_6 : decode cX8_copy 6 = .ok (.if_icmp .ge 15, 3) := by decide +kernel
theorem dX8_copy_9 : decode cX8_copy 9 = .ok (.aload_n 1, 1) := by decide +kernel
theorem dX8_copy_10 : decode cX8_copy 10 = .ok (.iload_n 2, 1) := by decide +kernel
theorem dX8_copy_11 : decode cX8_copy 11 = .ok (.aload_n 0, 1) := by decide +kernel
theorem dX8_copy_12 : decode cX8_copy 12 = .ok (.iload_n 2, 1) := by decide +kernel
theorem dX8_copy_13 : decode cX8_copy 13 = .ok (.iaload, 1) := by decide +kernel
theorem dX8_copy_14 : decode cX8_copy 14 = .ok (.iastore, 1) := by decide +kernel
theorem dX8_copy_15 : decode cX8_copy 15 = .ok (.iinc 2 1, 3) := by decide +kernel
theorem dX8_copy_18 : decode cX8_copy 18 = .ok (.goto (-16), 3) := by decide +kernel
theorem dX8_copy_21 : decode cX8_copy 21 = .ok (.return_, 1) := by decide +kernel
theorem dX8_task_0 : decode cX8_task 0 = .ok (.bipush 16, 2) := by decide +kernel
theorem dX8_task_2 : decode cX8_task 2 = .ok (.bipush 8, 2) := by decide +kernel
theorem dX8_task_4 : decode cX8_task 4 = .ok (.iload_n 0, 1) := by decide +kernel
theorem dX8_task_5 : decode cX8_task 5 = .ok (.imul, 1) := by decide +kernel
theorem dX8_task_6 : decode cX8_task 6 = .ok (.iadd, 1) := by decide +kernel
theorem dX8_task_7 : decode cX8_task 7 = .ok (.ireturn, 1) := by decide +kernel
theorem dX8_core_0 : decode cX8_core 0 = .ok (.sipush 272, 3) := by decide +kernel
theorem dX8_core_3 : decode cX8_core 3 = .ok (.bipush 13, 2) := by decide +kernel
theorem dX8_core_5 : decode cX8_core 5 = .ok (.iload_n 0, 1) := by decide +kernel
theorem dX8_core_6 : decode cX8_core 6 = .ok (.imul, 1) := by decide +kernel
theorem dX8_core_7 : decode cX8_core 7 = .ok (.iadd, 1) := by decide +kernel
theorem dX8_core_8 : decode cX8_core 8 = .ok (.ireturn, 1) := by decide +kernel
theorem dX8_clearCores_0 : decode cX8_clearCores 0 = .ok (.sipush 272, 3) := by decide +kernel
theorem dX8_clearCores_3 : decode cX8_clearCores 3 = .ok (.istore_n 1, 1) := by decide +kernel
theorem dX8_clearCores_4 : decode cX8_clearCores 4 = .ok (.iload_n 1, 1) := by decide +kernel
theorem dX8_clearCores_5 : decode cX8_clearCores 5 = .ok (.sipush 324, 3) := by decide +kernel
theorem dX8_clearCores_8 : decode cX8_clearCores 8 = .ok (.if_icmp .ge 13, 3) := by decide +kernel
theorem dX8_clearCores_11 : decode cX8_clearCores 11 = .ok (.aload_n 0, 1) := by decide +kernel
theorem dX8_clearCores_12 : decode cX8_clearCores 12 = .ok (.iload_n 1, 1) := by decide +kernel
theorem dX8_clearCores_13 : decode cX8_clearCores 13 = .ok (.iconst 0, 1) := by decide +kernel
theorem dX8_clearCores_14 : decode cX8_clearCores 14 = .ok (.iastore, 1) := by decide +kernel
theorem dX8_clearCores_15 : decode cX8_clearCores 15 = .ok (.iinc 1 1, 3) := by decide +kernel
theorem dX8_clearCores_18 : decode cX8_clearCores 18 = .ok (.goto (-14), 3) := by decide +kernel
theorem dX8_clearCores_21 : decode cX8_clearCores 21 = .ok (.iconst 0, 1) := by decide +kernel
theorem dX8_clearCores_22 : decode cX8_clearCores 22 = .ok (.istore_n 1, 1) := by decide +kernel
theorem dX8_clearCores_23 : decode cX8_clearCores 23 = .ok (.iload_n 1, 1) := by decide +kernel
theorem dX8_clearCores_24 : decode cX8_clearCores 24 = .ok (.iconst 4, 1) := by decide +kernel
theorem dX8_clearCores_25 : decode cX8_clearCores 25 = .ok (.if_icmp .ge 18, 3) := by decide +kernel
theorem dX8_clearCores_28 : decode cX8_clearCores 28 = .ok (.aload_n 0, 1) := by decide +kernel
theorem dX8_clearCores_29 : decode cX8_clearCores 29 = .ok (.iload_n 1, 1) := by decide +kernel
theorem dX8_clearCores_30 : decode cX8_clearCores 30 = .ok (.invokestatic 41, 3) := by decide +kernel
theorem dX8_clearCores_33 : decode cX8_clearCores 33 = .ok (.iconst 0, 1) := by decide +kernel
theorem dX8_clearCores_34 : decode cX8_clearCores 34 = .ok (.iadd, 1) := by decide +kernel
theorem dX8_clearCores_35 : decode cX8_clearCores 35 = .ok (.iconst (-1), 1) := by decide +kernel
theorem dX8_clearCores_36 : decode cX8_clearCores 36 = .ok (.iastore, 1) := by decide +kernel
theorem dX8_clearCores_37 : decode cX8_clearCores 37 = .ok (.iinc 1 1, 3) := by decide +kernel
theorem dX8_clearCores_40 : decode cX8_clearCores 40 = .ok (.goto (-17), 3) := by decide +kernel
theorem dX8_clearCores_43 : decode cX8_clearCores 43 = .ok (.return_, 1) := by decide +kernel
theorem dX8_append_0 : decode cX8_append 0 = .ok (.aload_n 0, 1) := by decide +kernel
theorem dX8_append_1 : decode cX8_append 1 = .ok (.iconst 0, 1) := by decide +kernel
theorem dX8_append_2 : decode cX8_append 2 = .ok (.putfield 38, 3) := by decide +kernel
theorem dX8_append_5 : decode cX8_append 5 = .ok (.aload_n 0, 1) := by decide +kernel
theorem dX8_append_6 : decode cX8_append 6 = .ok (.getfield 45, 3) := by decide +kernel
theorem dX8_append_9 : decode cX8_append 9 = .ok (.bipush 20, 2) := by decide +kernel
theorem dX8_append_11 : decode cX8_append 11 = .ok (.iadd, 1) := by decide +kernel
theorem dX8_append_12 : decode cX8_append 12 = .ok (.sipush 900, 3) := by decide +kernel
theorem dX8_append_15 : decode cX8_append 15 = .ok (.if_icmp .le 5, 3) := by decide +kernel
theorem dX8_append_18 : decode cX8_append 18 = .ok (.iconst (-1), 1) := by decide +kernel
theorem dX8_append_19 : decode cX8_append 19 = .ok (.ireturn, 1) := by decide +kernel
theorem dX8_append_20 : decode cX8_append 20 = .ok (.iconst 0, 1) := by decide +kernel
theorem dX8_append_21 : decode cX8_append 21 = .ok (.istore 6, 2) := by decide +kernel
theorem dX8_append_23 : decode cX8_append 23 = .ok (.iload 6, 2) := by decide +kernel
theorem dX8_append_25 : decode cX8_append 25 = .ok (.bipush 20, 2) := by decide +kernel
theorem dX8_append_27 : decode cX8_append 27 = .ok (.if_icmp .ge 93, 3) := by decide +kernel
theorem dX8_append_30 : decode cX8_append 30 = .ok (.iload 6, 2) := by decide +kernel
theorem dX8_append_32 : decode cX8_append 32 = .ok (.iconst 4, 1) := by decide +kernel
theorem dX8_append_33 : decode cX8_append 33 = .ok (.if_icmp .ge 7, 3) := by decide +kernel
theorem dX8_append_36 : decode cX8_append 36 = .ok (.iload_n 1, 1) := by decide +kernel
theorem dX8_append_37 : decode cX8_append 37 = .ok (.goto 39, 3) := by decide +kernel
theorem dX8_append_40 : decode cX8_append 40 = .ok (.iload 6, 2) := by decide +kernel
theorem dX8_append_42 : decode cX8_append 42 = .ok (.bipush 8, 2) := by decide +kernel
theorem dX8_append_44 : decode cX8_append 44 = .ok (.if_icmp .ge 7, 3) := by decide +kernel
theorem dX8_append_47 : decode cX8_append 47 = .ok (.iload_n 2, 1) := by decide +kernel
theorem dX8_append_48 : decode cX8_append 48 = .ok (.goto 28, 3) := by decide +kernel
theorem dX8_append_51 : decode cX8_append 51 = .ok (.iload 6, 2) := by decide +kernel
theorem dX8_append_53 : decode cX8_append 53 = .ok (.bipush 12, 2) := by decide +kernel
theorem dX8_append_55 : decode cX8_append 55 = .ok (.if_icmp .ge 7, 3) := by decide +kernel
theorem dX8_append_58 : decode cX8_append 58 = .ok (.iload_n 3, 1) := by decide +kernel
theorem dX8_append_59 : decode cX8_append 59 = .ok (.goto 17, 3) := by decide +kernel
theorem dX8_append_62 : decode cX8_append 62 = .ok (.iload 6, 2) := by decide +kernel
theorem dX8_append_64 : decode cX8_append 64 = .ok (.bipush 16, 2) := by decide +kernel
theorem dX8_append_66 : decode cX8_append 66 = .ok (.if_icmp .ge 8, 3) := by decide +kernel
theorem dX8_append_69 : decode cX8_append 69 = .ok (.iload 4, 2) := by decide +kernel
theorem dX8_append_71 : decode cX8_append 71 = .ok (.goto 5, 3) := by decide +kernel
theorem dX8_append_74 : decode cX8_append 74 = .ok (.iload 5, 2) := by decide +kernel
theorem dX8_append_76 : decode cX8_append 76 = .ok (.istore 7, 2) := by decide +kernel
theorem dX8_append_78 : decode cX8_append 78 = .ok (.aload_n 0, 1) := by decide +kernel
theorem dX8_append_79 : decode cX8_append 79 = .ok (.getfield 9, 3) := by decide +kernel
theorem dX8_append_82 : decode cX8_append 82 = .ok (.aload_n 0, 1) := by decide +kernel
theorem dX8_append_83 : decode cX8_append 83 = .ok (.getfield 45, 3) := by decide +kernel
theorem dX8_append_86 : decode cX8_append 86 = .ok (.iload 7, 2) := by decide +kernel
theorem dX8_append_88 : decode cX8_append 88 = .ok (.bipush 24, 2) := by decide +kernel
theorem dX8_append_90 : decode cX8_append 90 = .ok (.bipush 8, 2) := by decide +kernel
theorem dX8_append_92 : decode cX8_append 92 = .ok (.iload 6, 2) := by decide +kernel
theorem dX8_append_94 : decode cX8_append 94 = .ok (.iconst 4, 1) := by decide +kernel
theorem dX8_append_95 : decode cX8_append 95 = .ok (.irem, 1) := by decide +kernel
theorem dX8_append_96 : decode cX8_append 96 = .ok (.imul, 1) := by decide +kernel
theorem dX8_append_97 : decode cX8_append 97 = .ok (.isub, 1) := by decide +kernel
theorem dX8_append_98 : decode cX8_append 98 = .ok (.ishr, 1) := by decide +kernel
theorem dX8_append_99 : decode cX8_append 99 = .ok (.sipush 255, 3) := by decide +kernel
theorem dX8_append_102 : decode cX8_append 102 = .ok (.iand, 1) := by decide +kernel
theorem dX8_append_103 : decode cX8_append 103 = .ok (.iastore, 1) := by decide +kernel
theorem dX8_append_104 : decode cX8_append 104 = .ok (.aload_n 0, 1) := by decide +kernel
theorem dX8_append_105 : decode cX8_append 105 = .ok (.dup, 1) := by decide +kernel
theorem dX8_append_106 : decode cX8_append 106 = .ok (.getfield 45, 3) := by decide +kernel
theorem dX8_append_109 : decode cX8_append 109 = .ok (.iconst 1, 1) := by decide +kernel
theorem dX8_append_110 : decode cX8_append 110 = .ok (.iadd, 1) := by decide +kernel
theorem dX8_append_111 : decode cX8_append 111 = .ok (.putfield 45, 3) := by decide +kernel
theorem dX8_append_114 : decode cX8_append 114 = .ok (.iinc 6 1, 3) := by decide +kernel
theorem dX8_append_117 : decode cX8_append 117 = .ok (.goto (-94), 3) := by decide +kernel
theorem dX8_append_120 : decode cX8_append 120 = .ok (.aload_n 0, 1) := by decide +kernel
theorem dX8_append_121 : decode cX8_append 121 = .ok (.getfield 45, 3) := by decide +kernel
theorem dX8_append_124 : decode cX8_append 124 = .ok (.ireturn, 1) := by decide +kernel
theorem dX8_byteAt_0 : decode cX8_byteAt 0 = .ok (.iload_n 1, 1) := by decide +kernel
theorem dX8_byteAt_1 : decode cX8_byteAt 1 = .ok (.aload_n 0, 1) := by decide +kernel
theorem dX8_byteAt_2 : decode cX8_byteAt 2 = .ok (.getfield 48, 3) := by decide +kernel
theorem dX8_byteAt_5 : decode cX8_byteAt 5 = .ok (.if_icmp .ge 12, 3) := by decide +kernel
theorem dX8_byteAt_8 : decode cX8_byteAt 8 = .ok (.aload_n 0, 1) := by decide +kernel
theorem dX8_byteAt_9 : decode cX8_byteAt 9 = .ok (.getfield 9, 3) := by decide +kernel
theorem dX8_byteAt_12 : decode cX8_byteAt 12 = .ok (.iload_n 1, 1) := by decide +kernel
theorem dX8_byteAt_13 : decode cX8_byteAt 13 = .ok (.iaload, 1) := by decide +kernel
theorem dX8_byteAt_14 : decode cX8_byteAt 14 = .ok (.goto 4, 3) := by decide +kernel
theorem dX8_byteAt_17 : decode cX8_byteAt 17 = .ok (.iconst (-1), 1) := by decide +kernel
theorem dX8_byteAt_18 : decode cX8_byteAt 18 = .ok (.ireturn, 1) := by decide +kernel
theorem dX8_next_0 : decode cX8_next 0 = .ok (.aload_n 0, 1) := by decide +kernel
theorem dX8_next_1 : decode cX8_next 1 = .ok (.aload_n 0, 1) := by decide +kernel
theorem dX8_next_2 : decode cX8_next 2 = .ok (.getfield 51, 3) := by decide +kernel
theorem dX8_next_5 : decode cX8_next 5 = .ok (.invokevirtual 54, 3) := by decide +kernel
theorem dX8_next_8 : decode cX8_next 8 = .ok (.bipush 32, 2) := by decide +kernel
theorem dX8_next_10 : decode cX8_next 10 = .ok (.if_icmp .ne 16, 3) := by decide +kernel
theorem dX8_next_13 : decode cX8_next 13 = .ok (.aload_n 0, 1) := by decide +kernel
theorem dX8_next_14 : decode cX8_next 14 = .ok (.dup, 1) := by decide +kernel
theorem dX8_next_15 : decode cX8_next 15 = .ok (.getfield 51, 3) := by decide +kernel
theorem dX8_next_18 : decode cX8_next 18 = .ok (.iconst 1, 1) := by decide +kernel
theorem dX8_next_19 : decode cX8_next 19 = .ok (.iadd, 1) := by decide +kernel
theorem dX8_next_20 : decode cX8_next 20 = .ok (.putfield 51, 3) := by decide +kernel
theorem dX8_next_23 : decode cX8_next 23 = .ok (.goto (-23), 3) := by decide +kernel
theorem dX8_next_26 : decode cX8_next 26 = .ok (.aload_n 0, 1) := by decide +kernel
theorem dX8_next_27 : decode cX8_next 27 = .ok (.aload_n 0, 1) := by decide +kernel
theorem dX8_next_28 : decode cX8_next 28 = .ok (.getfield 51, 3) := by decide +kernel
theorem dX8_next_31 : decode cX8_next 31 = .ok (.invokevirtual 54, 3) := by decide +kernel
theorem dX8_next_34 : decode cX8_next 34 = .ok (.ireturn, 1) := by decide +kernel
theorem dX8_isGood_0 : decode cX8_isGood 0 = .ok (.aload_n 0, 1) := by decide +kernel
theorem dX8_isGood_1 : decode cX8_isGood 1 = .ok (.getfield 57, 3) := by decide +kernel
theorem dX8_isGood_4 : decode cX8_isGood 4 = .ok (.ifCond .ne 7, 3) := by decide +kernel
theorem dX8_isGood_7 : decode cX8_isGood 7 = .ok (.iconst 1, 1) := by decide +kernel
theorem dX8_isGood_8 : decode cX8_isGood 8 = .ok (.goto 4, 3) := by decide +kernel
theorem dX8_isGood_11 : decode cX8_isGood 11 = .ok (.iconst 0, 1) := by decide +kernel
theorem dX8_isGood_12 : decode cX8_isGood 12 = .ok (.ireturn, 1) := by decide +kernel
theorem dX8_report_0 : decode cX8_report 0 = .ok (.aload_n 0, 1) := by decide +kernel
theorem dX8_report_1 : decode cX8_report 1 = .ok (.getfield 57, 3) := by decide +kernel
theorem dX8_report_4 : decode cX8_report 4 = .ok (.ifCond .eq 4, 3) := by decide +kernel
theorem dX8_report_7 : decode cX8_report 7 = .ok (.return_, 1) := by decide +kernel
theorem dX8_report_8 : decode cX8_report 8 = .ok (.aload_n 0, 1) := by decide +kernel
theorem dX8_report_9 : decode cX8_report 9 = .ok (.iload_n 1, 1) := by decide +kernel
theorem dX8_report_10 : decode cX8_report 10 = .ok (.putfield 57, 3) := by decide +kernel
theorem dX8_report_13 : decode cX8_report 13 = .ok (.aload_n 0, 1) := by decide +kernel
theorem dX8_report_14 : decode cX8_report 14 = .ok (.iload_n 2, 1) := by decide +kernel
theorem dX8_report_15 : decode cX8_report 15 = .ok (.putfield 60, 3) := by decide +kernel
theorem dX8_report_18 : decode cX8_report 18 = .ok (.return_, 1) := by decide +kernel
theorem dX8_isDigit_0 : decode cX8_isDigit 0 = .ok (.iload_n 0, 1) := by decide +kernel
theorem dX8_isDigit_1 : decode cX8_isDigit 1 = .ok (.bipush 48, 2) := by decide +kernel
theorem dX8_isDigit_3 : decode cX8_isDigit 3 = .ok (.bipush 57, 2) := by decide +kernel
theorem dX8_isDigit_5 : decode cX8_isDigit 5 = .ok (.invokestatic 63, 3) := by decide +kernel
theorem dX8_isDigit_8 : decode cX8_isDigit 8 = .ok (.ireturn, 1) := by decide +kernel
theorem dX8_takeWord_0 : decode cX8_takeWord 0 = .ok (.aload_n 0, 1) := by decide +kernel
theorem dX8_takeWord_1 : decode cX8_takeWord 1 = .ok (.invokevirtual 67, 3) := by decide +kernel
theorem dX8_takeWord_4 : decode cX8_takeWord 4 = .ok (.ifCond .ne 5, 3) := by decide +kernel
theorem dX8_takeWord_7 : decode cX8_takeWord 7 = .ok (.iconst 0, 1) := by decide +kernel
theorem dX8_takeWord_8 : decode cX8_takeWord 8 = .ok (.ireturn, 1) := by decide +kernel
theorem dX8_takeWord_9 : decode cX8_takeWord 9 = .ok (.aload_n 0, 1) := by decide +kernel
theorem dX8_takeWord_10 : decode cX8_takeWord 10 = .ok (.invokevirtual 71, 3) := by decide +kernel
theorem dX8_takeWord_13 : decode cX8_takeWord 13 = .ok (.pop, 1) := by decide +kernel
theorem dX8_takeWord_14 : decode cX8_takeWord 14 = .ok (.iconst 0, 1) := by decide +kernel
theorem dX8_takeWord_15 : decode cX8_takeWord 15 = .ok (.istore_n 2, 1) := by decide +kernel
theorem dX8_takeWord_16 : decode cX8_takeWord 16 = .ok (.iload_n 2, 1) := by decide +kernel
theorem dX8_takeWord_17 : decode cX8_takeWord 17 = .ok (.aload_n 1, 1) := by decide +kernel
theorem dX8_takeWord_18 : decode cX8_takeWord 18 = .ok (.invokevirtual 75, 3) := by decide +kernel
theorem dX8_takeWord_21 : decode cX8_takeWord 21 = .ok (.if_icmp .ge 27, 3) := by decide +kernel
theorem dX8_takeWord_24 : decode cX8_takeWord 24 = .ok (.aload_n 0, 1) := by decide +kernel
theorem dX8_takeWord_25 : decode cX8_takeWord 25 = .ok (.aload_n 0, 1) := by decide +kernel
theorem dX8_takeWord_26 : decode cX8_takeWord 26 = .ok (.getfield 51, 3) := by decide +kernel
theorem dX8_takeWord_29 : decode cX8_takeWord 29 = .ok (.iload_n 2, 1) := by decide +kernel
theorem dX8_takeWord_30 : decode cX8_takeWord 30 = .ok (.iadd, 1) := by decide +kernel
theorem dX8_takeWord_31 : decode cX8_takeWord 31 = .ok (.invokevirtual 54, 3) := by decide +kernel
theorem dX8_takeWord_34 : decode cX8_takeWord 34 = .ok (.aload_n 1, 1) := by decide +kernel
theorem dX8_takeWord_35 : decode cX8_takeWord 35 = .ok (.iload_n 2, 1) := by decide +kernel
theorem dX8_takeWord_36 : decode cX8_takeWord 36 = .ok (.invokevirtual 80, 3) := by decide +kernel
theorem dX8_takeWord_39 : decode cX8_takeWord 39 = .ok (.if_icmp .ne 9, 3) := by decide +kernel
theorem dX8_takeWord_42 : decode cX8_takeWord 42 = .ok (.iinc 2 1, 3) := by decide +kernel
theorem dX8_takeWord_45 : decode cX8_takeWord 45 = .ok (.goto (-29), 3) := by decide +kernel
theorem dX8_takeWord_48 : decode cX8_takeWord 48 = .ok (.iload_n 2, 1) := by decide +kernel
theorem dX8_takeWord_49 : decode cX8_takeWord 49 = .ok (.aload_n 1, 1) := by decide +kernel
theorem dX8_takeWord_50 : decode cX8_takeWord 50 = .ok (.invokevirtual 75, 3) := by decide +kernel
theorem dX8_takeWord_53 : decode cX8_takeWord 53 = .ok (.if_icmp .lt 23, 3) := by decide +kernel
theorem dX8_takeWord_56 : decode cX8_takeWord 56 = .ok (.aload_n 0, 1) := by decide +kernel
theorem dX8_takeWord_57 : decode cX8_takeWord 57 = .ok (.aload_n 0, 1) := by decide +kernel
theorem dX8_takeWord_58 : decode cX8_takeWord 58 = .ok (.getfield 51, 3) := by decide +kernel
theorem dX8_takeWord_61 : decode cX8_takeWord 61 = .ok (.iload_n 2, 1) := by decide +kernel
theorem dX8_takeWord_62 : decode cX8_takeWord 62 = .ok (.iadd, 1) := by decide +kernel
theorem dX8_takeWord_63 : decode cX8_takeWord 63 = .ok (.invokevirtual 54, 3) := by decide +kernel
theorem dX8_takeWord_66 : decode cX8_takeWord 66 = .ok (.bipush 97, 2) := by decide +kernel
theorem dX8_takeWord_68 : decode cX8_takeWord 68 = .ok (.bipush 122, 2) := by decide +kernel
theorem dX8_takeWord_70 : decode cX8_takeWord 70 = .ok (.invokestatic 63, 3) := by decide +kernel
theorem dX8_takeWord_73 : decode cX8_takeWord 73 = .ok (.ifCond .eq 5, 3) := by decide +kernel
theorem dX8_takeWord_76 : decode cX8_takeWord 76 = .ok (.iconst 0, 1) := by decide +kernel
theorem dX8_takeWord_77 : decode cX8_takeWord 77 = .ok (.ireturn, 1) := by decide +kernel
theorem dX8_takeWord_78 : decode cX8_takeWord 78 = .ok (.aload_n 0, 1) := by decide +kernel
theorem dX8_takeWord_79 : decode cX8_takeWord 79 = .ok (.dup, 1) := by decide +kernel
theorem dX8_takeWord_80 : decode cX8_takeWord 80 = .ok (.getfield 51, 3) := by decide +kernel
theorem dX8_takeWord_83 : decode cX8_takeWord 83 = .ok (.iload_n 2, 1) := by decide +kernel
theorem dX8_takeWord_84 : decode cX8_takeWord 84 = .ok (.iadd, 1) := by decide +kernel
theorem dX8_takeWord_85 : decode cX8_takeWord 85 = .ok (.putfield 51, 3) := by decide +kernel
theorem dX8_takeWord_88 : decode cX8_takeWord 88 = .ok (.iconst 1, 1) := by decide +kernel
theorem dX8_takeWord_89 : decode cX8_takeWord 89 = .ok (.ireturn, 1) := by decide +kernel
theorem dX8_expect_0 : decode cX8_expect 0 = .ok (.aload_n 0, 1) := by decide +kernel
theorem dX8_expect_1 : decode cX8_expect 1 = .ok (.invokevirtual 67, 3) := by decide +kernel
theorem dX8_expect_4 : decode cX8_expect 4 = .ok (.ifCond .ne 4, 3) := by decide +kernel
theorem dX8_expect_7 : decode cX8_expect 7 = .ok (.return_, 1) := by decide +kernel
theorem dX8_expect_8 : decode cX8_expect 8 = .ok (.aload_n 0, 1) := by decide +kernel
theorem dX8_expect_9 : decode cX8_expect 9 = .ok (.invokevirtual 71, 3) := by decide +kernel
theorem dX8_expect_12 : decode cX8_expect 12 = .ok (.iload_n 1, 1) := by decide +kernel
theorem dX8_expect_13 : decode cX8_expect 13 = .ok (.if_icmp .ne 16, 3) := by decide +kernel
theorem dX8_expect_16 : decode cX8_expect 16 = .ok (.aload_n 0, 1) := by decide +kernel
theorem dX8_expect_17 : decode cX8_expect 17 = .ok (.dup, 1) := by decide +kernel
theorem dX8_expect_18 : decode cX8_expect 18 = .ok (.getfield 51, 3) := by decide +kernel
theorem dX8_expect_21 : decode cX8_expect 21 = .ok (.iconst 1, 1) := by decide +kernel
theorem dX8_expect_22 : decode cX8_expect 22 = .ok (.iadd, 1) := by decide +kernel
theorem dX8_expect_23 : decode cX8_expect 23 = .ok (.putfield 51, 3) := by decide +kernel
theorem dX8_expect_26 : decode cX8_expect 26 = .ok (.goto 13, 3) := by decide +kernel
theorem dX8_expect_29 : decode cX8_expect 29 = .ok (.aload_n 0, 1) := by decide +kernel
theorem dX8_expect_30 : decode cX8_expect 30 = .ok (.bipush (-2), 2) := by decide +kernel
theorem dX8_expect_32 : decode cX8_expect 32 = .ok (.aload_n 0, 1) := by decide +kernel
theorem dX8_expect_33 : decode cX8_expect 33 = .ok (.getfield 51, 3) := by decide +kernel
theorem dX8_expect_36 : decode cX8_expect 36 = .ok (.invokevirtual 84, 3) := by decide +kernel
theorem dX8_expect_39 : decode cX8_expect 39 = .ok (.return_, 1) := by decide +kernel
theorem dX8_number_0 : decode cX8_number 0 = .ok (.aload_n 0, 1) := by decide +kernel
theorem dX8_number_1 : decode cX8_number 1 = .ok (.invokevirtual 67, 3) := by decide +kernel
theorem dX8_number_4 : decode cX8_number 4 = .ok (.ifCond .ne 5, 3) := by decide +kernel
theorem dX8_number_7 : decode cX8_number 7 = .ok (.iconst 0, 1) := by decide +kernel
theorem dX8_number_8 : decode cX8_number 8 = .ok (.ireturn, 1) := by decide +kernel
theorem dX8_number_9 : decode cX8_number 9 = .ok (.aload_n 0, 1) := by decide +kernel
theorem dX8_number_10 : decode cX8_number 10 = .ok (.invokevirtual 71, 3) := by decide +kernel
theorem dX8_number_13 : decode cX8_number 13 = .ok (.invokestatic 88, 3) := by decide +kernel
theorem dX8_number_16 : decode cX8_number 16 = .ok (.ifCond .ne 15, 3) := by decide +kernel
theorem dX8_number_19 : decode cX8_number 19 = .ok (.aload_n 0, 1) := by decide +kernel
theorem dX8_number_20 : decode cX8_number 20 = .ok (.bipush (-2), 2) := by decide +kernel
theorem dX8_number_22 : decode cX8_number 22 = .ok (.aload_n 0, 1) := by decide +kernel
theorem dX8_number_23 : decode cX8_number 23 = .ok (.getfield 51, 3) := by decide +kernel
theorem dX8_number_26 : decode cX8_number 26 = .ok (.invokevirtual 84, 3) := by decide +kernel
theorem dX8_number_29 : decode cX8_number 29 = .ok (.iconst 0, 1) := by decide +kernel
theorem dX8_number_30 : decode cX8_number 30 = .ok (.ireturn, 1) := by decide +kernel
theorem dX8_number_31 : decode cX8_number 31 = .ok (.aload_n 0, 1) := by decide +kernel
theorem dX8_number_32 : decode cX8_number 32 = .ok (.aload_n 0, 1) := by decide +kernel
theorem dX8_number_33 : decode cX8_number 33 = .ok (.getfield 51, 3) := by decide +kernel
theorem dX8_number_36 : decode cX8_number 36 = .ok (.putfield 92, 3) := by decide +kernel
theorem dX8_number_39 : decode cX8_number 39 = .ok (.iconst 0, 1) := by decide +kernel
theorem dX8_number_40 : decode cX8_number 40 = .ok (.istore_n 3, 1) := by decide +kernel
theorem dX8_number_41 : decode cX8_number 41 = .ok (.aload_n 0, 1) := by decide +kernel
theorem dX8_number_42 : decode cX8_number 42 = .ok (.aload_n 0, 1) := by decide +kernel
theorem dX8_number_43 : decode cX8_number 43 = .ok (.getfield 51, 3) := by decide +kernel
theorem dX8_number_46 : decode cX8_number 46 = .ok (.invokevirtual 54, 3) := by decide +kernel
theorem dX8_number_49 : decode cX8_number 49 = .ok (.invokestatic 88, 3) := by decide +kernel
theorem dX8_number_52 : decode cX8_number 52 = .ok (.ifCond .eq 38, 3) := by decide +kernel
theorem dX8_number_55 : decode cX8_number 55 = .ok (.ldc 95, 2) := by decide +kernel
theorem dX8_number_57 : decode cX8_number 57 = .ok (.bipush 10, 2) := by decide +kernel
theorem dX8_number_59 : decode cX8_number 59 = .ok (.iload_n 3, 1) := by decide +kernel
theorem dX8_number_60 : decode cX8_number 60 = .ok (.imul, 1) := by decide +kernel
theorem dX8_number_61 : decode cX8_number 61 = .ok (.aload_n 0, 1) := by decide +kernel
theorem dX8_number_62 : decode cX8_number 62 = .ok (.aload_n 0, 1) := by decide +kernel
theorem dX8_number_63 : decode cX8_number 63 = .ok (.getfield 51, 3) := by decide +kernel
theorem dX8_number_66 : decode cX8_number 66 = .ok (.invokevirtual 54, 3) := by decide +kernel
theorem dX8_number_69 : decode cX8_number 69 = .ok (.iadd, 1) := by decide +kernel
theorem dX8_number_70 : decode cX8_number 70 = .ok (.bipush 48, 2) := by decide +kernel
theorem dX8_number_72 : decode cX8_number 72 = .ok (.isub, 1) := by decide +kernel
theorem dX8_number_73 : decode cX8_number 73 = .ok (.invokestatic 96, 3) := by decide +kernel
theorem dX8_number_76 : decode cX8_number 76 = .ok (.istore_n 3, 1) := by decide +kernel
theorem dX8_number_77 : decode cX8_number 77 = .ok (.aload_n 0, 1) := by decide +kernel
theorem dX8_number_78 : decode cX8_number 78 = .ok (.dup, 1) := by decide +kernel
theorem dX8_number_79 : decode cX8_number 79 = .ok (.getfield 51, 3) := by decide +kernel
theorem dX8_number_82 : decode cX8_number 82 = .ok (.iconst 1, 1) := by decide +kernel
theorem dX8_number_83 : decode cX8_number 83 = .ok (.iadd, 1) := by decide +kernel
theorem dX8_number_84 : decode cX8_number 84 = .ok (.putfield 51, 3) := by decide +kernel
theorem dX8_number_87 : decode cX8_number 87 = .ok (.goto (-46), 3) := by decide +kernel
theorem dX8_number_90 : decode cX8_number 90 = .ok (.iload_n 3, 1) := by decide +kernel
theorem dX8_number_91 : decode cX8_number 91 = .ok (.iload_n 1, 1) := by decide +kernel
theorem dX8_number_92 : decode cX8_number 92 = .ok (.iload_n 2, 1) := by decide +kernel
theorem dX8_number_93 : decode cX8_number 93 = .ok (.invokestatic 63, 3) := by decide +kernel
theorem dX8_number_96 : decode cX8_number 96 = .ok (.ifCond .ne 13, 3) := by decide +kernel
theorem dX8_number_99 : decode cX8_number 99 = .ok (.aload_n 0, 1) := by decide +kernel
theorem dX8_number_100 : decode cX8_number 100 = .ok (.bipush (-3), 2) := by decide +kernel
theorem dX8_number_102 : decode cX8_number 102 = .ok (.aload_n 0, 1) := by decide +kernel
theorem dX8_number_103 : decode cX8_number 103 = .ok (.getfield 92, 3) := by decide +kernel
theorem dX8_number_106 : decode cX8_number 106 = .ok (.invokevirtual 84, 3) := by decide +kernel
theorem dX8_number_109 : decode cX8_number 109 = .ok (.iload_n 3, 1) := by decide +kernel
theorem dX8_number_110 : decode cX8_number 110 = .ok (.ireturn, 1) := by decide +kernel
theorem dX8_emit_0 : decode cX8_emit 0 = .ok (.aload_n 0, 1) := by decide +kernel
theorem dX8_emit_1 : decode cX8_emit 1 = .ok (.invokevirtual 67, 3) := by decide +kernel
theorem dX8_emit_4 : decode cX8_emit 4 = .ok (.ifCond .ne 4, 3) := by decide +kernel
theorem dX8_emit_7 : decode cX8_emit 7 = .ok (.return_, 1) := by decide +kernel
theorem dX8_emit_8 : decode cX8_emit 8 = .ok (.aload_n 0, 1) := by decide +kernel
theorem dX8_emit_9 : decode cX8_emit 9 = .ok (.getfield 20, 3) := by decide +kernel
theorem dX8_emit_12 : decode cX8_emit 12 = .ok (.sipush 324, 3) := by decide +kernel
theorem dX8_emit_15 : decode cX8_emit 15 = .ok (.aload_n 0, 1) := by decide +kernel
theorem dX8_emit_16 : decode cX8_emit 16 = .ok (.getfield 20, 3) := by decide +kernel
theorem dX8_emit_19 : decode cX8_emit 19 = .ok (.bipush 7, 2) := by decide +kernel
theorem dX8_emit_21 : decode cX8_emit 21 = .ok (.iaload, 1) := by decide +kernel
theorem dX8_emit_22 : decode cX8_emit 22 = .ok (.iadd, 1) := by decide +kernel
theorem dX8_emit_23 : decode cX8_emit 23 = .ok (.iload_n 1, 1) := by decide +kernel
theorem dX8_emit_24 : decode cX8_emit 24 = .ok (.iastore, 1) := by decide +kernel
theorem dX8_emit_25 : decode cX8_emit 25 = .ok (.aload_n 0, 1) := by decide +kernel
theorem dX8_emit_26 : decode cX8_emit 26 = .ok (.getfield 20, 3) := by decide +kernel
theorem dX8_emit_29 : decode cX8_emit 29 = .ok (.bipush 7, 2) := by decide +kernel
theorem dX8_emit_31 : decode cX8_emit 31 = .ok (.dup2, 1) := by decide +kernel
theorem dX8_emit_32 : decode cX8_emit 32 = .ok (.iaload, 1) := by decide +kernel
theorem dX8_emit_33 : decode cX8_emit 33 = .ok (.iconst 1, 1) := by decide +kernel
theorem dX8_emit_34 : decode cX8_emit 34 = .ok (.iadd, 1) := by decide +kernel
theorem dX8_emit_35 : decode cX8_emit 35 = .ok (.iastore, 1) := by decide +kernel
theorem dX8_emit_36 : decode cX8_emit 36 = .ok (.return_, 1) := by decide +kernel
theorem dX8_factor_0 : decode cX8_factor 0 = .ok (.aload_n 0, 1) := by decide +kernel
theorem dX8_factor_1 : decode cX8_factor 1 = .ok (.invokevirtual 67, 3) := by decide +kernel
theorem dX8_factor_4 : decode cX8_factor 4 = .ok (.ifCond .ne 4, 3) := by decide +kernel
theorem dX8_factor_7 : decode cX8_factor 7 = .ok (.return_, 1) := by decide +kernel
theorem dX8_factor_8 : decode cX8_factor 8 = .ok (.aload_n 0, 1) := by decide +kernel
theorem dX8_factor_9 : decode cX8_factor 9 = .ok (.invokevirtual 71, 3) := by decide +kernel
theorem dX8_factor_12 : decode cX8_factor 12 = .ok (.istore_n 1, 1) := by decide +kernel
theorem dX8_factor_13 : decode cX8_factor 13 = .ok (.iload_n 1, 1) := by decide +kernel
theorem dX8_factor_14 : decode cX8_factor 14 = .ok (.bipush 40, 2) := by decide +kernel
theorem dX8_factor_16 : decode cX8_factor 16 = .ok (.if_icmp .ne 62, 3) := by decide +kernel
theorem dX8_factor_19 : decode cX8_factor 19 = .ok (.aload_n 0, 1) := by decide +kernel
theorem dX8_factor_20 : decode cX8_factor 20 = .ok (.getfield 100, 3) := by decide +kernel
theorem dX8_factor_23 : decode cX8_factor 23 = .ok (.iconst 4, 1) := by decide +kernel
theorem dX8_factor_24 : decode cX8_factor 24 = .ok (.if_icmp .ne 13, 3) := by decide +kernel
theorem dX8_factor_27 : decode cX8_factor 27 = .ok (.aload_n 0, 1) := by decide +kernel
theorem dX8_factor_28 : decode cX8_factor 28 = .ok (.bipush (-5), 2) := by decide +kernel
theorem dX8_factor_30 : decode cX8_factor 30 = .ok (.aload_n 0, 1) := by decide +kernel
theorem dX8_factor_31 : decode cX8_factor 31 = .ok (.getfield 51, 3) := by decide +kernel
theorem dX8_factor_34 : decode cX8_factor 34 = .ok (.invokevirtual 84, 3) := by decide +kernel
theorem dX8_factor_37 : decode cX8_factor 37 = .ok (.aload_n 0, 1) := by decide +kernel
theorem dX8_factor_38 : decode cX8_factor 38 = .ok (.dup, 1) := by decide +kernel
theorem dX8_factor_39 : decode cX8_factor 39 = .ok (.getfield 51, 3) := by decide +kernel
theorem dX8_factor_42 : decode cX8_factor 42 = .ok (.iconst 1, 1) := by decide +kernel
theorem dX8_factor_43 : decode cX8_factor 43 = .ok (.iadd, 1) := by decide +kernel
theorem dX8_factor_44 : decode cX8_factor 44 = .ok (.putfield 51, 3) := by decide +kernel
theorem dX8_factor_47 : decode cX8_factor 47 = .ok (.aload_n 0, 1) := by decide +kernel
theorem dX8_factor_48 : decode cX8_factor 48 = .ok (.dup, 1) := by decide +kernel
theorem dX8_factor_49 : decode cX8_factor 49 = .ok (.getfield 100, 3) := by decide +kernel
theorem dX8_factor_52 : decode cX8_factor 52 = .ok (.iconst 1, 1) := by decide +kernel
theorem dX8_factor_53 : decode cX8_factor 53 = .ok (.iadd, 1) := by decide +kernel
theorem dX8_factor_54 : decode cX8_factor 54 = .ok (.putfield 100, 3) := by decide +kernel
theorem dX8_factor_57 : decode cX8_factor 57 = .ok (.aload_n 0, 1) := by decide +kernel
theorem dX8_factor_58 : decode cX8_factor 58 = .ok (.invokevirtual 103, 3) := by decide +kernel
theorem dX8_factor_61 : decode cX8_factor 61 = .ok (.aload_n 0, 1) := by decide +kernel
theorem dX8_factor_62 : decode cX8_factor 62 = .ok (.bipush 41, 2) := by decide +kernel
theorem dX8_factor_64 : decode cX8_factor 64 = .ok (.invokevirtual 106, 3) := by decide +kernel
theorem dX8_factor_67 : decode cX8_factor 67 = .ok (.aload_n 0, 1) := by decide +kernel
theorem dX8_factor_68 : decode cX8_factor 68 = .ok (.dup, 1) := by decide +kernel
theorem dX8_factor_69 : decode cX8_factor 69 = .ok (.getfield 100, 3) := by decide +kernel
theorem dX8_factor_72 : decode cX8_factor 72 = .ok (.iconst 1, 1) := by decide +kernel
theorem dX8_factor_73 : decode cX8_factor 73 = .ok (.isub, 1) := by decide +kernel
theorem dX8_factor_74 : decode cX8_factor 74 = .ok (.putfield 100, 3) := by decide +kernel
theorem dX8_factor_77 : decode cX8_factor 77 = .ok (.return_, 1) := by decide +kernel
theorem dX8_factor_78 : decode cX8_factor 78 = .ok (.iload_n 1, 1) := by decide +kernel
theorem dX8_factor_79 : decode cX8_factor 79 = .ok (.invokestatic 88, 3) := by decide +kernel
theorem dX8_factor_82 : decode cX8_factor 82 = .ok (.ifCond .eq 7, 3) := by decide +kernel
theorem dX8_factor_85 : decode cX8_factor 85 = .ok (.iconst (-1), 1) := by decide +kernel
theorem dX8_factor_86 : decode cX8_factor 86 = .ok (.goto 56, 3) := by decide +kernel
theorem dX8_factor_89 : decode cX8_factor 89 = .ok (.aload_n 0, 1) := by decide +kernel
theorem dX8_factor_90 : decode cX8_factor 90 = .ok (.ldc 110, 2) := by decide +kernel
theorem dX8_factor_92 : decode cX8_factor 92 = .ok (.invokevirtual 112, 3) := by decide +kernel
theorem dX8_factor_95 : decode cX8_factor 95 = .ok (.ifCond .eq 7, 3) := by decide +kernel
theorem dX8_factor_98 : decode cX8_factor 98 = .ok (.iconst 0, 1) := by decide +kernel
theorem dX8_factor_99 : decode cX8_factor 99 = .ok (.goto 43, 3) := by decide +kernel
theorem dX8_factor_102 : decode cX8_factor 102 = .ok (.aload_n 0, 1) := by decide +kernel
theorem dX8_factor_103 : decode cX8_factor 103 = .ok (.ldc 116, 2) := by decide +kernel
theorem dX8_factor_105 : decode cX8_factor 105 = .ok (.invokevirtual 112, 3) := by decide +kernel
theorem dX8_factor_108 : decode cX8_factor 108 = .ok (.ifCond .eq 7, 3) := by decide +kernel
theorem dX8_factor_111 : decode cX8_factor 111 = .ok (.iconst 1, 1) := by decide +kernel
theorem dX8_factor_112 : decode cX8_factor 112 = .ok (.goto 30, 3) := by decide +kernel
theorem dX8_factor_115 : decode cX8_factor 115 = .ok (.aload_n 0, 1) := by decide +kernel
theorem dX8_factor_116 : decode cX8_factor 116 = .ok (.ldc 118, 2) := by decide +kernel
theorem dX8_factor_118 : decode cX8_factor 118 = .ok (.invokevirtual 112, 3) := by decide +kernel
theorem dX8_factor_121 : decode cX8_factor 121 = .ok (.ifCond .eq 7, 3) := by decide +kernel
theorem dX8_factor_124 : decode cX8_factor 124 = .ok (.iconst 2, 1) := by decide +kernel
theorem dX8_factor_125 : decode cX8_factor 125 = .ok (.goto 17, 3) := by decide +kernel
theorem dX8_factor_128 : decode cX8_factor 128 = .ok (.aload_n 0, 1) := by decide +kernel
theorem dX8_factor_129 : decode cX8_factor 129 = .ok (.ldc 119, 2) := by decide +kernel
theorem dX8_factor_131 : decode cX8_factor 131 = .ok (.invokevirtual 112, 3) := by decide +kernel
theorem dX8_factor_134 : decode cX8_factor 134 = .ok (.ifCond .eq 7, 3) := by decide +kernel
theorem dX8_factor_137 : decode cX8_factor 137 = .ok (.iconst 3, 1) := by decide +kernel
theorem dX8_factor_138 : decode cX8_factor 138 = .ok (.goto 4, 3) := by decide +kernel
theorem dX8_factor_141 : decode cX8_factor 141 = .ok (.iconst (-1), 1) := by decide +kernel
theorem dX8_factor_142 : decode cX8_factor 142 = .ok (.istore_n 2, 1) := by decide +kernel
theorem dX8_factor_143 : decode cX8_factor 143 = .ok (.iload_n 2, 1) := by decide +kernel
theorem dX8_factor_144 : decode cX8_factor 144 = .ok (.ifCond .ge 14, 3) := by decide +kernel
theorem dX8_factor_147 : decode cX8_factor 147 = .ok (.aload_n 0, 1) := by decide +kernel
theorem dX8_factor_148 : decode cX8_factor 148 = .ok (.iconst 0, 1) := by decide +kernel
theorem dX8_factor_149 : decode cX8_factor 149 = .ok (.sipush 9999, 3) := by decide +kernel
theorem dX8_factor_152 : decode cX8_factor 152 = .ok (.invokevirtual 121, 3) := by decide +kernel
theorem dX8_factor_155 : decode cX8_factor 155 = .ok (.goto 4, 3) := by decide +kernel
theorem dX8_factor_158 : decode cX8_factor 158 = .ok (.iload_n 2, 1) := by decide +kernel
theorem dX8_factor_159 : decode cX8_factor 159 = .ok (.istore_n 3, 1) := by decide +kernel
theorem dX8_factor_160 : decode cX8_factor 160 = .ok (.aload_n 0, 1) := by decide +kernel
theorem dX8_factor_161 : decode cX8_factor 161 = .ok (.iload_n 2, 1) := by decide +kernel
theorem dX8_factor_162 : decode cX8_factor 162 = .ok (.ifCond .ge 7, 3) := by decide +kernel
theorem dX8_factor_165 : decode cX8_factor 165 = .ok (.iconst 0, 1) := by decide +kernel
theorem dX8_factor_166 : decode cX8_factor 166 = .ok (.goto 4, 3) := by decide +kernel
theorem dX8_factor_169 : decode cX8_factor 169 = .ok (.iconst 1, 1) := by decide +kernel
theorem dX8_factor_170 : decode cX8_factor 170 = .ok (.invokevirtual 124, 3) := by decide +kernel
theorem dX8_factor_173 : decode cX8_factor 173 = .ok (.aload_n 0, 1) := by decide +kernel
theorem dX8_factor_174 : decode cX8_factor 174 = .ok (.iload_n 3, 1) := by decide +kernel
theorem dX8_factor_175 : decode cX8_factor 175 = .ok (.invokevirtual 124, 3) := by decide +kernel
theorem dX8_factor_178 : decode cX8_factor 178 = .ok (.return_, 1) := by decide +kernel
theorem dX8_term_0 : decode cX8_term 0 = .ok (.aload_n 0, 1) := by decide +kernel
theorem dX8_term_1 : decode cX8_term 1 = .ok (.invokevirtual 127, 3) := by decide +kernel
theorem dX8_term_4 : decode cX8_term 4 = .ok (.aload_n 0, 1) := by decide +kernel
theorem dX8_term_5 : decode cX8_term 5 = .ok (.invokevirtual 67, 3) := by decide +kernel
theorem dX8_term_8 : decode cX8_term 8 = .ok (.ifCond .eq 66, 3) := by decide +kernel
theorem dX8_term_11 : decode cX8_term 11 = .ok (.aload_n 0, 1) := by decide +kernel
theorem dX8_term_12 : decode cX8_term 12 = .ok (.invokevirtual 71, 3) := by decide +kernel
theorem dX8_term_15 : decode cX8_term 15 = .ok (.bipush 42, 2) := by decide +kernel
theorem dX8_term_17 : decode cX8_term 17 = .ok (.if_icmp .eq 12, 3) := by decide +kernel
theorem dX8_term_20 : decode cX8_term 20 = .ok (.aload_n 0, 1) := by decide +kernel
theorem dX8_term_21 : decode cX8_term 21 = .ok (.invokevirtual 71, 3) := by decide +kernel
theorem dX8_term_24 : decode cX8_term 24 = .ok (.bipush 47, 2) := by decide +kernel
theorem dX8_term_26 : decode cX8_term 26 = .ok (.if_icmp .ne 48, 3) := by decide +kernel
theorem dX8_term_29 : decode cX8_term 29 = .ok (.aload_n 0, 1) := by decide +kernel
theorem dX8_term_30 : decode cX8_term 30 = .ok (.invokevirtual 71, 3) := by decide +kernel
theorem dX8_term_33 : decode cX8_term 33 = .ok (.bipush 42, 2) := by decide +kernel
theorem dX8_term_35 : decode cX8_term 35 = .ok (.if_icmp .ne 7, 3) := by decide +kernel
theorem dX8_term_38 : decode cX8_term 38 = .ok (.iconst 1, 1) := by decide +kernel
theorem dX8_term_39 : decode cX8_term 39 = .ok (.goto 4, 3) := by decide +kernel
theorem dX8_term_42 : decode cX8_term 42 = .ok (.iconst 0, 1) := by decide +kernel
theorem dX8_term_43 : decode cX8_term 43 = .ok (.istore_n 1, 1) := by decide +kernel
theorem dX8_term_44 : decode cX8_term 44 = .ok (.aload_n 0, 1) := by decide +kernel
theorem dX8_term_45 : decode cX8_term 45 = .ok (.dup, 1) := by decide +kernel
theorem dX8_term_46 : decode cX8_term 46 = .ok (.getfield 51, 3) := by decide +kernel
theorem dX8_term_49 : decode cX8_term 49 = .ok (.iconst 1, 1) := by decide +kernel
theorem dX8_term_50 : decode cX8_term 50 = .ok (.iadd, 1) := by decide +kernel
theorem dX8_term_51 : decode cX8_term 51 = .ok (.putfield 51, 3) := by decide +kernel
theorem dX8_term_54 : decode cX8_term 54 = .ok (.aload_n 0, 1) := by decide +kernel
theorem dX8_term_55 : decode cX8_term 55 = .ok (.invokevirtual 127, 3) := by decide +kernel
theorem dX8_term_58 : decode cX8_term 58 = .ok (.aload_n 0, 1) := by decide +kernel
theorem dX8_term_59 : decode cX8_term 59 = .ok (.iload_n 1, 1) := by decide +kernel
theorem dX8_term_60 : decode cX8_term 60 = .ok (.ifCond .eq 7, 3) := by decide +kernel
theorem dX8_term_63 : decode cX8_term 63 = .ok (.iconst 4, 1) := by decide +kernel
theorem dX8_term_64 : decode cX8_term 64 = .ok (.goto 4, 3) := by decide +kernel
theorem dX8_term_67 : decode cX8_term 67 = .ok (.iconst 5, 1) := by decide +kernel
theorem dX8_term_68 : decode cX8_term 68 = .ok (.invokevirtual 124, 3) := by decide +kernel
theorem dX8_term_71 : decode cX8_term 71 = .ok (.goto (-67), 3) := by decide +kernel
theorem dX8_term_74 : decode cX8_term 74 = .ok (.return_, 1) := by decide +kernel
theorem dX8_sum_0 : decode cX8_sum 0 = .ok (.aload_n 0, 1) := by decide +kernel
theorem dX8_sum_1 : decode cX8_sum 1 = .ok (.invokevirtual 130, 3) := by decide +kernel
theorem dX8_sum_4 : decode cX8_sum 4 = .ok (.aload_n 0, 1) := by decide +kernel
theorem dX8_sum_5 : decode cX8_sum 5 = .ok (.invokevirtual 67, 3) := by decide +kernel
theorem dX8_sum_8 : decode cX8_sum 8 = .ok (.ifCond .eq 66, 3) := by decide +kernel
theorem dX8_sum_11 : decode cX8_sum 11 = .ok (.aload_n 0, 1) := by decide +kernel
theorem dX8_sum_12 : decode cX8_sum 12 = .ok (.invokevirtual 71, 3) := by decide +kernel
theorem dX8_sum_15 : decode cX8_sum 15 = .ok (.bipush 43, 2) := by decide +kernel
theorem dX8_sum_17 : decode cX8_sum 17 = .ok (.if_icmp .eq 12, 3) := by decide +kernel
theorem dX8_sum_20 : decode cX8_sum 20 = .ok (.aload_n 0, 1) := by decide +kernel
theorem dX8_sum_21 : decode cX8_sum 21 = .ok (.invokevirtual 71, 3) := by decide +kernel
theorem dX8_sum_24 : decode cX8_sum 24 = .ok (.bipush 45, 2) := by decide +kernel
theorem dX8_sum_26 : decode cX8_sum 26 = .ok (.if_icmp .ne 48, 3) := by decide +kernel
theorem dX8_sum_29 : decode cX8_sum 29 = .ok (.aload_n 0, 1) := by decide +kernel
theorem dX8_sum_30 : decode cX8_sum 30 = .ok (.invokevirtual 71, 3) := by decide +kernel
theorem dX8_sum_33 : decode cX8_sum 33 = .ok (.bipush 43, 2) := by decide +kernel
theorem dX8_sum_35 : decode cX8_sum 35 = .ok (.if_icmp .ne 7, 3) := by decide +kernel
theorem dX8_sum_38 : decode cX8_sum 38 = .ok (.iconst 1, 1) := by decide +kernel
theorem dX8_sum_39 : decode cX8_sum 39 = .ok (.goto 4, 3) := by decide +kernel
theorem dX8_sum_42 : decode cX8_sum 42 = .ok (.iconst 0, 1) := by decide +kernel
theorem dX8_sum_43 : decode cX8_sum 43 = .ok (.istore_n 1, 1) := by decide +kernel
theorem dX8_sum_44 : decode cX8_sum 44 = .ok (.aload_n 0, 1) := by decide +kernel
theorem dX8_sum_45 : decode cX8_sum 45 = .ok (.dup, 1) := by decide +kernel
theorem dX8_sum_46 : decode cX8_sum 46 = .ok (.getfield 51, 3) := by decide +kernel
theorem dX8_sum_49 : decode cX8_sum 49 = .ok (.iconst 1, 1) := by decide +kernel
theorem dX8_sum_50 : decode cX8_sum 50 = .ok (.iadd, 1) := by decide +kernel
theorem dX8_sum_51 : decode cX8_sum 51 = .ok (.putfield 51, 3) := by decide +kernel
theorem dX8_sum_54 : decode cX8_sum 54 = .ok (.aload_n 0, 1) := by decide +kernel
theorem dX8_sum_55 : decode cX8_sum 55 = .ok (.invokevirtual 130, 3) := by decide +kernel
theorem dX8_sum_58 : decode cX8_sum 58 = .ok (.aload_n 0, 1) := by decide +kernel
theorem dX8_sum_59 : decode cX8_sum 59 = .ok (.iload_n 1, 1) := by decide +kernel
theorem dX8_sum_60 : decode cX8_sum 60 = .ok (.ifCond .eq 7, 3) := by decide +kernel
theorem dX8_sum_63 : decode cX8_sum 63 = .ok (.iconst 2, 1) := by decide +kernel
theorem dX8_sum_64 : decode cX8_sum 64 = .ok (.goto 4, 3) := by decide +kernel
theorem dX8_sum_67 : decode cX8_sum 67 = .ok (.iconst 3, 1) := by decide +kernel
theorem dX8_sum_68 : decode cX8_sum 68 = .ok (.invokevirtual 124, 3) := by decide +kernel
theorem dX8_sum_71 : decode cX8_sum 71 = .ok (.goto (-67), 3) := by decide +kernel
theorem dX8_sum_74 : decode cX8_sum 74 = .ok (.return_, 1) := by decide +kernel
theorem dX8_once_0 : decode cX8_once 0 = .ok (.aload_n 0, 1) := by decide +kernel
theorem dX8_once_1 : decode cX8_once 1 = .ok (.getfield 133, 3) := by decide +kernel
theorem dX8_once_4 : decode cX8_once 4 = .ok (.iload_n 1, 1) := by decide +kernel
theorem dX8_once_5 : decode cX8_once 5 = .ok (.ishr, 1) := by decide +kernel
theorem dX8_once_6 : decode cX8_once 6 = .ok (.iconst 1, 1) := by decide +kernel
theorem dX8_once_7 : decode cX8_once 7 = .ok (.iand, 1) := by decide +kernel
theorem dX8_once_8 : decode cX8_once 8 = .ok (.iconst 1, 1) := by decide +kernel
theorem dX8_once_9 : decode cX8_once 9 = .ok (.if_icmp .ne 10, 3) := by decide +kernel
theorem dX8_once_12 : decode cX8_once 12 = .ok (.aload_n 0, 1) := by decide +kernel
theorem dX8_once_13 : decode cX8_once 13 = .ok (.bipush (-2), 2) := by decide +kernel
theorem dX8_once_15 : decode cX8_once 15 = .ok (.iload_n 2, 1) := by decide +kernel
theorem dX8_once_16 : decode cX8_once 16 = .ok (.invokevirtual 84, 3) := by decide +kernel
theorem dX8_once_19 : decode cX8_once 19 = .ok (.aload_n 0, 1) := by decide +kernel
theorem dX8_once_20 : decode cX8_once 20 = .ok (.dup, 1) := by decide +kernel
theorem dX8_once_21 : decode cX8_once 21 = .ok (.getfield 133, 3) := by decide +kernel
theorem dX8_once_24 : decode cX8_once 24 = .ok (.iconst 1, 1) := by decide +kernel
theorem dX8_once_25 : decode cX8_once 25 = .ok (.iload_n 1, 1) := by decide +kernel
theorem dX8_once_26 : decode cX8_once 26 = .ok (.ishl, 1) := by decide +kernel
theorem dX8_once_27 : decode cX8_once 27 = .ok (.ior, 1) := by decide +kernel
theorem dX8_once_28 : decode cX8_once 28 = .ok (.putfield 133, 3) := by decide +kernel
theorem dX8_once_31 : decode cX8_once 31 = .ok (.return_, 1) := by decide +kernel
theorem dX8_addTask_0 : decode cX8_addTask 0 = .ok (.aload_n 0, 1) := by decide +kernel
theorem dX8_addTask_1 : decode cX8_addTask 1 = .ok (.iconst 3, 1) := by decide +kernel
theorem dX8_addTask_2 : decode cX8_addTask 2 = .ok (.iaload, 1) := by decide +kernel
theorem dX8_addTask_3 : decode cX8_addTask 3 = .ok (.istore 4, 2) := by decide +kernel
theorem dX8_addTask_5 : decode cX8_addTask 5 = .ok (.iload 4, 2) := by decide +kernel
theorem dX8_addTask_7 : decode cX8_addTask 7 = .ok (.invokestatic 136, 3) := by decide +kernel
theorem dX8_addTask_10 : decode cX8_addTask 10 = .ok (.istore 5, 2) := by decide +kernel
theorem dX8_addTask_12 : decode cX8_addTask 12 = .ok (.aload_n 0, 1) := by decide +kernel
theorem dX8_addTask_13 : decode cX8_addTask 13 = .ok (.iconst 3, 1) := by decide +kernel
theorem dX8_addTask_14 : decode cX8_addTask 14 = .ok (.dup2, 1) := by decide +kernel
theorem dX8_addTask_15 : decode cX8_addTask 15 = .ok (.iaload, 1) := by decide +kernel
theorem dX8_addTask_16 : decode cX8_addTask 16 = .ok (.iconst 1, 1) := by decide +kernel
theorem dX8_addTask_17 : decode cX8_addTask 17 = .ok (.iadd, 1) := by decide +kernel
theorem dX8_addTask_18 : decode cX8_addTask 18 = .ok (.iastore, 1) := by decide +kernel
theorem dX8_addTask_19 : decode cX8_addTask 19 = .ok (.aload_n 0, 1) := by decide +kernel
theorem dX8_addTask_20 : decode cX8_addTask 20 = .ok (.iload 5, 2) := by decide +kernel
theorem dX8_addTask_22 : decode cX8_addTask 22 = .ok (.iload_n 1, 1) := by decide +kernel
theorem dX8_addTask_23 : decode cX8_addTask 23 = .ok (.iastore, 1) := by decide +kernel
theorem dX8_addTask_24 : decode cX8_addTask 24 = .ok (.aload_n 0, 1) := by decide +kernel
theorem dX8_addTask_25 : decode cX8_addTask 25 = .ok (.iload 5, 2) := by decide +kernel
theorem dX8_addTask_27 : decode cX8_addTask 27 = .ok (.iconst 1, 1) := by decide +kernel
theorem dX8_addTask_28 : decode cX8_addTask 28 = .ok (.iadd, 1) := by decide +kernel
theorem dX8_addTask_29 : decode cX8_addTask 29 = .ok (.iload_n 2, 1) := by decide +kernel
theorem dX8_addTask_30 : decode cX8_addTask 30 = .ok (.iastore, 1) := by decide +kernel
theorem dX8_addTask_31 : decode cX8_addTask 31 = .ok (.aload_n 0, 1) := by decide +kernel
theorem dX8_addTask_32 : decode cX8_addTask 32 = .ok (.iload 5, 2) := by decide +kernel
theorem dX8_addTask_34 : decode cX8_addTask 34 = .ok (.iconst 2, 1) := by decide +kernel
theorem dX8_addTask_35 : decode cX8_addTask 35 = .ok (.iadd, 1) := by decide +kernel
theorem dX8_addTask_36 : decode cX8_addTask 36 = .ok (.iload_n 3, 1) := by decide +kernel
theorem dX8_addTask_37 : decode cX8_addTask 37 = .ok (.iastore, 1) := by decide +kernel
theorem dX8_addTask_38 : decode cX8_addTask 38 = .ok (.aload_n 0, 1) := by decide +kernel
theorem dX8_addTask_39 : decode cX8_addTask 39 = .ok (.iload 5, 2) := by decide +kernel
theorem dX8_addTask_41 : decode cX8_addTask 41 = .ok (.iconst 3, 1) := by decide +kernel
theorem dX8_addTask_42 : decode cX8_addTask 42 = .ok (.iadd, 1) := by decide +kernel
theorem dX8_addTask_43 : decode cX8_addTask 43 = .ok (.iconst 0, 1) := by decide +kernel
theorem dX8_addTask_44 : decode cX8_addTask 44 = .ok (.iastore, 1) := by decide +kernel
theorem dX8_addTask_45 : decode cX8_addTask 45 = .ok (.aload_n 0, 1) := by decide +kernel
theorem dX8_addTask_46 : decode cX8_addTask 46 = .ok (.iload 4, 2) := by decide +kernel
theorem dX8_addTask_48 : decode cX8_addTask 48 = .ok (.invokestatic 139, 3) := by decide +kernel
theorem dX8_addTask_51 : decode cX8_addTask 51 = .ok (.iload 4, 2) := by decide +kernel
theorem dX8_addTask_53 : decode cX8_addTask 53 = .ok (.ireturn, 1) := by decide +kernel
theorem dX8_putToWait_0 : decode cX8_putToWait 0 = .ok (.aload_n 0, 1) := by decide +kernel
theorem dX8_putToWait_1 : decode cX8_putToWait 1 = .ok (.iload_n 1, 1) := by decide +kernel
theorem dX8_putToWait_2 : decode cX8_putToWait 2 = .ok (.invokestatic 136, 3) := by decide +kernel
theorem dX8_putToWait_5 : decode cX8_putToWait 5 = .ok (.iconst 4, 1) := by decide +kernel
theorem dX8_putToWait_6 : decode cX8_putToWait 6 = .ok (.iadd, 1) := by decide +kernel
theorem dX8_putToWait_7 : decode cX8_putToWait 7 = .ok (.iconst 0, 1) := by decide +kernel
theorem dX8_putToWait_8 : decode cX8_putToWait 8 = .ok (.iastore, 1) := by decide +kernel
theorem dX8_putToWait_9 : decode cX8_putToWait 9 = .ok (.aload_n 0, 1) := by decide +kernel
theorem dX8_putToWait_10 : decode cX8_putToWait 10 = .ok (.iload_n 1, 1) := by decide +kernel
theorem dX8_putToWait_11 : decode cX8_putToWait 11 = .ok (.invokestatic 136, 3) := by decide +kernel
theorem dX8_putToWait_14 : decode cX8_putToWait 14 = .ok (.iconst 5, 1) := by decide +kernel
theorem dX8_putToWait_15 : decode cX8_putToWait 15 = .ok (.iadd, 1) := by decide +kernel
theorem dX8_putToWait_16 : decode cX8_putToWait 16 = .ok (.iconst 0, 1) := by decide +kernel
theorem dX8_putToWait_17 : decode cX8_putToWait 17 = .ok (.iastore, 1) := by decide +kernel
theorem dX8_putToWait_18 : decode cX8_putToWait 18 = .ok (.aload_n 0, 1) := by decide +kernel
theorem dX8_putToWait_19 : decode cX8_putToWait 19 = .ok (.iload_n 1, 1) := by decide +kernel
theorem dX8_putToWait_20 : decode cX8_putToWait 20 = .ok (.invokestatic 136, 3) := by decide +kernel
theorem dX8_putToWait_23 : decode cX8_putToWait 23 = .ok (.bipush 6, 2) := by decide +kernel
theorem dX8_putToWait_25 : decode cX8_putToWait 25 = .ok (.iadd, 1) := by decide +kernel
theorem dX8_putToWait_26 : decode cX8_putToWait 26 = .ok (.iconst (-1), 1) := by decide +kernel
theorem dX8_putToWait_27 : decode cX8_putToWait 27 = .ok (.iastore, 1) := by decide +kernel
theorem dX8_putToWait_28 : decode cX8_putToWait 28 = .ok (.aload_n 0, 1) := by decide +kernel
theorem dX8_putToWait_29 : decode cX8_putToWait 29 = .ok (.iload_n 1, 1) := by decide +kernel
theorem dX8_putToWait_30 : decode cX8_putToWait 30 = .ok (.invokestatic 136, 3) := by decide +kernel
theorem dX8_putToWait_33 : decode cX8_putToWait 33 = .ok (.bipush 7, 2) := by decide +kernel
theorem dX8_putToWait_35 : decode cX8_putToWait 35 = .ok (.iadd, 1) := by decide +kernel
theorem dX8_putToWait_36 : decode cX8_putToWait 36 = .ok (.iconst (-1), 1) := by decide +kernel
theorem dX8_putToWait_37 : decode cX8_putToWait 37 = .ok (.iastore, 1) := by decide +kernel
theorem dX8_putToWait_38 : decode cX8_putToWait 38 = .ok (.return_, 1) := by decide +kernel
theorem dX8_readTask_0 : decode cX8_readTask 0 = .ok (.aload_n 0, 1) := by decide +kernel
theorem dX8_readTask_1 : decode cX8_readTask 1 = .ok (.getfield 20, 3) := by decide +kernel
theorem dX8_readTask_4 : decode cX8_readTask 4 = .ok (.iconst 3, 1) := by decide +kernel
theorem dX8_readTask_5 : decode cX8_readTask 5 = .ok (.iaload, 1) := by decide +kernel
theorem dX8_readTask_6 : decode cX8_readTask 6 = .ok (.bipush 32, 2) := by decide +kernel
theorem dX8_readTask_8 : decode cX8_readTask 8 = .ok (.if_icmp .ne 10, 3) := by decide +kernel
theorem dX8_readTask_11 : decode cX8_readTask 11 = .ok (.aload_n 0, 1) := by decide +kernel
theorem dX8_readTask_12 : decode cX8_readTask 12 = .ok (.bipush (-4), 2) := by decide +kernel
theorem dX8_readTask_14 : decode cX8_readTask 14 = .ok (.iload_n 1, 1) := by decide +kernel
theorem dX8_readTask_15 : decode cX8_readTask 15 = .ok (.invokevirtual 84, 3) := by decide +kernel
theorem dX8_readTask_18 : decode cX8_readTask 18 = .ok (.aload_n 0, 1) := by decide +kernel
theorem dX8_readTask_19 : decode cX8_readTask 19 = .ok (.iconst 1, 1) := by decide +kernel
theorem dX8_readTask_20 : decode cX8_readTask 20 = .ok (.bipush 99, 2) := by decide +kernel
theorem dX8_readTask_22 : decode cX8_readTask 22 = .ok (.invokevirtual 121, 3) := by decide +kernel
theorem dX8_readTask_25 : decode cX8_readTask 25 = .ok (.istore_n 2, 1) := by decide +kernel
theorem dX8_readTask_26 : decode cX8_readTask 26 = .ok (.aload_n 0, 1) := by decide +kernel
theorem dX8_readTask_27 : decode cX8_readTask 27 = .ok (.iconst 0, 1) := by decide +kernel
theorem dX8_readTask_28 : decode cX8_readTask 28 = .ok (.bipush 9, 2) := by decide +kernel
theorem dX8_readTask_30 : decode cX8_readTask 30 = .ok (.invokevirtual 121, 3) := by decide +kernel
theorem dX8_readTask_33 : decode cX8_readTask 33 = .ok (.istore_n 3, 1) := by decide +kernel
theorem dX8_readTask_34 : decode cX8_readTask 34 = .ok (.aload_n 0, 1) := by decide +kernel
theorem dX8_readTask_35 : decode cX8_readTask 35 = .ok (.invokevirtual 67, 3) := by decide +kernel
theorem dX8_readTask_38 : decode cX8_readTask 38 = .ok (.ifCond .eq 19, 3) := by decide +kernel
theorem dX8_readTask_41 : decode cX8_readTask 41 = .ok (.aload_n 0, 1) := by decide +kernel
theorem dX8_readTask_42 : decode cX8_readTask 42 = .ok (.getfield 20, 3) := by decide +kernel
theorem dX8_readTask_45 : decode cX8_readTask 45 = .ok (.iconst 3, 1) := by decide +kernel
theorem dX8_readTask_46 : decode cX8_readTask 46 = .ok (.iaload, 1) := by decide +kernel
theorem dX8_readTask_47 : decode cX8_readTask 47 = .ok (.aload_n 0, 1) := by decide +kernel
theorem dX8_readTask_48 : decode cX8_readTask 48 = .ok (.getfield 20, 3) := by decide +kernel
theorem dX8_readTask_51 : decode cX8_readTask 51 = .ok (.iconst 0, 1) := by decide +kernel
theorem dX8_readTask_52 : decode cX8_readTask 52 = .ok (.iaload, 1) := by decide +kernel
theorem dX8_readTask_53 : decode cX8_readTask 53 = .ok (.irem, 1) := by decide +kernel
theorem dX8_readTask_54 : decode cX8_readTask 54 = .ok (.goto 4, 3) := by decide +kernel
theorem dX8_readTask_57 : decode cX8_readTask 57 = .ok (.iconst 0, 1) := by decide +kernel
theorem dX8_readTask_58 : decode cX8_readTask 58 = .ok (.istore 4, 2) := by decide +kernel
theorem dX8_readTask_60 : decode cX8_readTask 60 = .ok (.iconst 0, 1) := by decide +kernel
theorem dX8_readTask_61 : decode cX8_readTask 61 = .ok (.istore 5, 2) := by decide +kernel
theorem dX8_readTask_63 : decode cX8_readTask 63 = .ok (.aload_n 0, 1) := by decide +kernel
theorem dX8_readTask_64 : decode cX8_readTask 64 = .ok (.ldc 118, 2) := by decide +kernel
theorem dX8_readTask_66 : decode cX8_readTask 66 = .ok (.invokevirtual 112, 3) := by decide +kernel
theorem dX8_readTask_69 : decode cX8_readTask 69 = .ok (.ifCond .eq 18, 3) := by decide +kernel
theorem dX8_readTask_72 : decode cX8_readTask 72 = .ok (.aload_n 0, 1) := by decide +kernel
theorem dX8_readTask_73 : decode cX8_readTask 73 = .ok (.iconst 0, 1) := by decide +kernel
theorem dX8_readTask_74 : decode cX8_readTask 74 = .ok (.aload_n 0, 1) := by decide +kernel
theorem dX8_readTask_75 : decode cX8_readTask 75 = .ok (.getfield 20, 3) := by decide +kernel
theorem dX8_readTask_78 : decode cX8_readTask 78 = .ok (.iconst 0, 1) := by decide +kernel
theorem dX8_readTask_79 : decode cX8_readTask 79 = .ok (.iaload, 1) := by decide +kernel
theorem dX8_readTask_80 : decode cX8_readTask 80 = .ok (.iconst 1, 1) := by decide +kernel
theorem dX8_readTask_81 : decode cX8_readTask 81 = .ok (.isub, 1) := by decide +kernel
theorem dX8_readTask_82 : decode cX8_readTask 82 = .ok (.invokevirtual 121, 3) := by decide +kernel
theorem dX8_readTask_85 : decode cX8_readTask 85 = .ok (.istore 4, 2) := by decide +kernel
theorem dX8_readTask_87 : decode cX8_readTask 87 = .ok (.aload_n 0, 1) := by decide +kernel
theorem dX8_readTask_88 : decode cX8_readTask 88 = .ok (.ldc 143, 2) := by decide +kernel
theorem dX8_readTask_90 : decode cX8_readTask 90 = .ok (.invokevirtual 112, 3) := by decide +kernel
theorem dX8_readTask_93 : decode cX8_readTask 93 = .ok (.ifCond .eq 73, 3) := by decide +kernel
theorem dX8_readTask_96 : decode cX8_readTask 96 = .ok (.aload_n 0, 1) := by decide +kernel
theorem dX8_readTask_97 : decode cX8_readTask 97 = .ok (.iconst 0, 1) := by decide +kernel
theorem dX8_readTask_98 : decode cX8_readTask 98 = .ok (.aload_n 0, 1) := by decide +kernel
theorem dX8_readTask_99 : decode cX8_readTask 99 = .ok (.getfield 20, 3) := by decide +kernel
theorem dX8_readTask_102 : decode cX8_readTask 102 = .ok (.iconst 3, 1) := by decide +kernel
theorem dX8_readTask_103 : decode cX8_readTask 103 = .ok (.iaload, 1) := by decide +kernel
theorem dX8_readTask_104 : decode cX8_readTask 104 = .ok (.iconst 1, 1) := by decide +kernel
theorem dX8_readTask_105 : decode cX8_readTask 105 = .ok (.isub, 1) := by decide +kernel
theorem dX8_readTask_106 : decode cX8_readTask 106 = .ok (.invokevirtual 121, 3) := by decide +kernel
theorem dX8_readTask_109 : decode cX8_readTask 109 = .ok (.istore 6, 2) := by decide +kernel
theorem dX8_readTask_111 : decode cX8_readTask 111 = .ok (.aload_n 0, 1) := by decide +kernel
theorem dX8_readTask_112 : decode cX8_readTask 112 = .ok (.invokevirtual 67, 3) := by decide +kernel
theorem dX8_readTask_115 : decode cX8_readTask 115 = .ok (.ifCond .eq 24, 3) := by decide +kernel
theorem dX8_readTask_118 : decode cX8_readTask 118 = .ok (.iload 5, 2) := by decide +kernel
theorem dX8_readTask_120 : decode cX8_readTask 120 = .ok (.iload 6, 2) := by decide +kernel
theorem dX8_readTask_122 : decode cX8_readTask 122 = .ok (.ishr, 1) := by decide +kernel
theorem dX8_readTask_123 : decode cX8_readTask 123 = .ok (.iconst 1, 1) := by decide +kernel
theorem dX8_readTask_124 : decode cX8_readTask 124 = .ok (.iand, 1) := by decide +kernel
theorem dX8_readTask_125 : decode cX8_readTask 125 = .ok (.iconst 1, 1) := by decide +kernel
theorem dX8_readTask_126 : decode cX8_readTask 126 = .ok (.if_icmp .ne 13, 3) := by decide +kernel
theorem dX8_readTask_129 : decode cX8_readTask 129 = .ok (.aload_n 0, 1) := by decide +kernel
theorem dX8_readTask_130 : decode cX8_readTask 130 = .ok (.bipush (-3), 2) := by decide +kernel
theorem dX8_readTask_132 : decode cX8_readTask 132 = .ok (.aload_n 0, 1) := by decide +kernel
theorem dX8_readTask_133 : decode cX8_readTask 133 = .ok (.getfield 92, 3) := by decide +kernel
theorem dX8_readTask_136 : decode cX8_readTask 136 = .ok (.invokevirtual 84, 3) := by decide +kernel
theorem dX8_readTask_139 : decode cX8_readTask 139 = .ok (.aload_n 0, 1) := by decide +kernel
theorem dX8_readTask_140 : decode cX8_readTask 140 = .ok (.invokevirtual 67, 3) := by decide +kernel
theorem dX8_readTask_143 : decode cX8_readTask 143 = .ok (.ifCond .ne 4, 3) := by decide +kernel
theorem dX8_readTask_146 : decode cX8_readTask 146 = .ok (.return_, 1) := by decide +kernel
theorem dX8_readTask_147 : decode cX8_readTask 147 = .ok (.iload 5, 2) := by decide +kernel
theorem dX8_readTask_149 : decode cX8_readTask 149 = .ok (.iconst 1, 1) := by decide +kernel
theorem dX8_readTask_150 : decode cX8_readTask 150 = .ok (.iload 6, 2) := by decide +kernel
theorem dX8_readTask_152 : decode cX8_readTask 152 = .ok (.ishl, 1) := by decide +kernel
theorem dX8_readTask_153 : decode cX8_readTask 153 = .ok (.ior, 1) := by decide +kernel
theorem dX8_readTask_154 : decode cX8_readTask 154 = .ok (.istore 5, 2) := by decide +kernel
theorem dX8_readTask_156 : decode cX8_readTask 156 = .ok (.aload_n 0, 1) := by decide +kernel
theorem dX8_readTask_157 : decode cX8_readTask 157 = .ok (.invokevirtual 71, 3) := by decide +kernel
theorem dX8_readTask_160 : decode cX8_readTask 160 = .ok (.invokestatic 88, 3) := by decide +kernel
theorem dX8_readTask_163 : decode cX8_readTask 163 = .ok (.ifCond .ne (-67), 3) := by decide +kernel
theorem dX8_readTask_166 : decode cX8_readTask 166 = .ok (.aload_n 0, 1) := by decide +kernel
theorem dX8_readTask_167 : decode cX8_readTask 167 = .ok (.invokevirtual 67, 3) := by decide +kernel
theorem dX8_readTask_170 : decode cX8_readTask 170 = .ok (.ifCond .ne 4, 3) := by decide +kernel
theorem dX8_readTask_173 : decode cX8_readTask 173 = .ok (.return_, 1) := by decide +kernel
theorem dX8_readTask_174 : decode cX8_readTask 174 = .ok (.aload_n 0, 1) := by decide +kernel
theorem dX8_readTask_175 : decode cX8_readTask 175 = .ok (.getfield 20, 3) := by decide +kernel
theorem dX8_readTask_178 : decode cX8_readTask 178 = .ok (.aload_n 0, 1) := by decide +kernel
theorem dX8_readTask_179 : decode cX8_readTask 179 = .ok (.getfield 20, 3) := by decide +kernel
theorem dX8_readTask_182 : decode cX8_readTask 182 = .ok (.iload_n 2, 1) := by decide +kernel
theorem dX8_readTask_183 : decode cX8_readTask 183 = .ok (.iload_n 3, 1) := by decide +kernel
theorem dX8_readTask_184 : decode cX8_readTask 184 = .ok (.iload 4, 2) := by decide +kernel
theorem dX8_readTask_186 : decode cX8_readTask 186 = .ok (.invokestatic 145, 3) := by decide +kernel
theorem dX8_readTask_189 : decode cX8_readTask 189 = .ok (.invokestatic 136, 3) := by decide +kernel
theorem dX8_readTask_192 : decode cX8_readTask 192 = .ok (.iconst 3, 1) := by decide +kernel
theorem dX8_readTask_193 : decode cX8_readTask 193 = .ok (.iadd, 1) := by decide +kernel
theorem dX8_readTask_194 : decode cX8_readTask 194 = .ok (.iload 5, 2) := by decide +kernel
theorem dX8_readTask_196 : decode cX8_readTask 196 = .ok (.iastore, 1) := by decide +kernel
theorem dX8_readTask_197 : decode cX8_readTask 197 = .ok (.return_, 1) := by decide +kernel
theorem dX8_readFence_0 : decode cX8_readFence 0 = .ok (.aload_n 0, 1) := by decide +kernel
theorem dX8_readFence_1 : decode cX8_readFence 1 = .ok (.getfield 20, 3) := by decide +kernel
theorem dX8_readFence_4 : decode cX8_readFence 4 = .ok (.iconst 4, 1) := by decide +kernel
theorem dX8_readFence_5 : decode cX8_readFence 5 = .ok (.iaload, 1) := by decide +kernel
theorem dX8_readFence_6 : decode cX8_readFence 6 = .ok (.bipush 8, 2) := by decide +kernel
theorem dX8_readFence_8 : decode cX8_readFence 8 = .ok (.if_icmp .ne 10, 3) := by decide +kernel
theorem dX8_readFence_11 : decode cX8_readFence 11 = .ok (.aload_n 0, 1) := by decide +kernel
theorem dX8_readFence_12 : decode cX8_readFence 12 = .ok (.bipush (-4), 2) := by decide +kernel
theorem dX8_readFence_14 : decode cX8_readFence 14 = .ok (.iload_n 1, 1) := by decide +kernel
theorem dX8_readFence_15 : decode cX8_readFence 15 = .ok (.invokevirtual 84, 3) := by decide +kernel
theorem dX8_readFence_18 : decode cX8_readFence 18 = .ok (.aload_n 0, 1) := by decide +kernel
theorem dX8_readFence_19 : decode cX8_readFence 19 = .ok (.invokevirtual 67, 3) := by decide +kernel
theorem dX8_readFence_22 : decode cX8_readFence 22 = .ok (.ifCond .ne 4, 3) := by decide +kernel
theorem dX8_readFence_25 : decode cX8_readFence 25 = .ok (.return_, 1) := by decide +kernel
theorem dX8_readFence_26 : decode cX8_readFence 26 = .ok (.aload_n 0, 1) := by decide +kernel
theorem dX8_readFence_27 : decode cX8_readFence 27 = .ok (.getfield 20, 3) := by decide +kernel
theorem dX8_readFence_30 : decode cX8_readFence 30 = .ok (.bipush 8, 2) := by decide +kernel
theorem dX8_readFence_32 : decode cX8_readFence 32 = .ok (.aload_n 0, 1) := by decide +kernel
theorem dX8_readFence_33 : decode cX8_readFence 33 = .ok (.getfield 20, 3) := by decide +kernel
theorem dX8_readFence_36 : decode cX8_readFence 36 = .ok (.iconst 4, 1) := by decide +kernel
theorem dX8_readFence_37 : decode cX8_readFence 37 = .ok (.iaload, 1) := by decide +kernel
theorem dX8_readFence_38 : decode cX8_readFence 38 = .ok (.iadd, 1) := by decide +kernel
theorem dX8_readFence_39 : decode cX8_readFence 39 = .ok (.aload_n 0, 1) := by decide +kernel
theorem dX8_readFence_40 : decode cX8_readFence 40 = .ok (.getfield 20, 3) := by decide +kernel
theorem dX8_readFence_43 : decode cX8_readFence 43 = .ok (.iconst 3, 1) := by decide +kernel
theorem dX8_readFence_44 : decode cX8_readFence 44 = .ok (.iaload, 1) := by decide +kernel
theorem dX8_readFence_45 : decode cX8_readFence 45 = .ok (.iastore, 1) := by decide +kernel
theorem dX8_readFence_46 : decode cX8_readFence 46 = .ok (.aload_n 0, 1) := by decide +kernel
theorem dX8_readFence_47 : decode cX8_readFence 47 = .ok (.getfield 20, 3) := by decide +kernel
theorem dX8_readFence_50 : decode cX8_readFence 50 = .ok (.iconst 4, 1) := by decide +kernel
theorem dX8_readFence_51 : decode cX8_readFence 51 = .ok (.dup2, 1) := by decide +kernel
theorem dX8_readFence_52 : decode cX8_readFence 52 = .ok (.iaload, 1) := by decide +kernel
theorem dX8_readFence_53 : decode cX8_readFence 53 = .ok (.iconst 1, 1) := by decide +kernel
theorem dX8_readFence_54 : decode cX8_readFence 54 = .ok (.iadd, 1) := by decide +kernel
theorem dX8_readFence_55 : decode cX8_readFence 55 = .ok (.iastore, 1) := by decide +kernel
theorem dX8_readFence_56 : decode cX8_readFence 56 = .ok (.return_, 1) := by decide +kernel
theorem dX8_statement_0 : decode cX8_statement 0 = .ok (.aload_n 0, 1) := by decide +kernel
theorem dX8_statement_1 : decode cX8_statement 1 = .ok (.invokevirtual 71, 3) := by decide +kernel
theorem dX8_statement_4 : decode cX8_statement 4 = .ok (.pop, 1) := by decide +kernel
theorem dX8_statement_5 : decode cX8_statement 5 = .ok (.aload_n 0, 1) := by decide +kernel
theorem dX8_statement_6 : decode cX8_statement 6 = .ok (.getfield 51, 3) := by decide +kernel
theorem dX8_statement_9 : decode cX8_statement 9 = .ok (.istore_n 1, 1) := by decide +kernel
theorem dX8_statement_10 : decode cX8_statement 10 = .ok (.aload_n 0, 1) := by decide +kernel
theorem dX8_statement_11 : decode cX8_statement 11 = .ok (.ldc 149, 2) := by decide +kernel
theorem dX8_statement_13 : decode cX8_statement 13 = .ok (.invokevirtual 112, 3) := by decide +kernel
theorem dX8_statement_16 : decode cX8_statement 16 = .ok (.ifCond .eq 11, 3) := by decide +kernel
theorem dX8_statement_19 : decode cX8_statement 19 = .ok (.aload_n 0, 1) := by decide +kernel
theorem dX8_statement_20 : decode cX8_statement 20 = .ok (.iload_n 1, 1) := by decide +kernel
theorem dX8_statement_21 : decode cX8_statement 21 = .ok (.invokevirtual 150, 3) := by decide +kernel
theorem dX8_statement_24 : decode cX8_statement 24 = .ok (.goto 57, 3) := by decide +kernel
theorem dX8_statement_27 : decode cX8_statement 27 = .ok (.aload_n 0, 1) := by decide +kernel
theorem dX8_statement_28 : decode cX8_statement 28 = .ok (.ldc 153, 2) := by decide +kernel
theorem dX8_statement_30 : decode cX8_statement 30 = .ok (.invokevirtual 112, 3) := by decide +kernel
theorem dX8_statement_33 : decode cX8_statement 33 = .ok (.ifCond .eq 11, 3) := by decide +kernel
theorem dX8_statement_36 : decode cX8_statement 36 = .ok (.aload_n 0, 1) := by decide +kernel
theorem dX8_statement_37 : decode cX8_statement 37 = .ok (.iload_n 1, 1) := by decide +kernel
theorem dX8_statement_38 : decode cX8_statement 38 = .ok (.invokevirtual 155, 3) := by decide +kernel
theorem dX8_statement_41 : decode cX8_statement 41 = .ok (.goto 40, 3) := by decide +kernel
theorem dX8_statement_44 : decode cX8_statement 44 = .ok (.aload_n 0, 1) := by decide +kernel
theorem dX8_statement_45 : decode cX8_statement 45 = .ok (.ldc 158, 2) := by decide +kernel
theorem dX8_statement_47 : decode cX8_statement 47 = .ok (.invokevirtual 112, 3) := by decide +kernel
theorem dX8_statement_50 : decode cX8_statement 50 = .ok (.ifCond .eq 24, 3) := by decide +kernel
theorem dX8_statement_53 : decode cX8_statement 53 = .ok (.aload_n 0, 1) := by decide +kernel
theorem dX8_statement_54 : decode cX8_statement 54 = .ok (.iconst 0, 1) := by decide +kernel
theorem dX8_statement_55 : decode cX8_statement 55 = .ok (.iload_n 1, 1) := by decide +kernel
theorem dX8_statement_56 : decode cX8_statement 56 = .ok (.invokevirtual 159, 3) := by decide +kernel
theorem dX8_statement_59 : decode cX8_statement 59 = .ok (.aload_n 0, 1) := by decide +kernel
theorem dX8_statement_60 : decode cX8_statement 60 = .ok (.getfield 20, 3) := by decide +kernel
theorem dX8_statement_63 : decode cX8_statement 63 = .ok (.bipush 6, 2) := by decide +kernel
theorem dX8_statement_65 : decode cX8_statement 65 = .ok (.iconst 1, 1) := by decide +kernel
theorem dX8_statement_66 : decode cX8_statement 66 = .ok (.iastore, 1) := by decide +kernel
theorem dX8_statement_67 : decode cX8_statement 67 = .ok (.aload_n 0, 1) := by decide +kernel
theorem dX8_statement_68 : decode cX8_statement 68 = .ok (.invokevirtual 103, 3) := by decide +kernel
theorem dX8_statement_71 : decode cX8_statement 71 = .ok (.goto 10, 3) := by decide +kernel
theorem dX8_statement_74 : decode cX8_statement 74 = .ok (.aload_n 0, 1) := by decide +kernel
theorem dX8_statement_75 : decode cX8_statement 75 = .ok (.bipush (-2), 2) := by decide +kernel
theorem dX8_statement_77 : decode cX8_statement 77 = .ok (.iload_n 1, 1) := by decide +kernel
theorem dX8_statement_78 : decode cX8_statement 78 = .ok (.invokevirtual 84, 3) := by decide +kernel
theorem dX8_statement_81 : decode cX8_statement 81 = .ok (.aload_n 0, 1) := by decide +kernel
theorem dX8_statement_82 : decode cX8_statement 82 = .ok (.bipush 59, 2) := by decide +kernel
theorem dX8_statement_84 : decode cX8_statement 84 = .ok (.invokevirtual 106, 3) := by decide +kernel
theorem dX8_statement_87 : decode cX8_statement 87 = .ok (.return_, 1) := by decide +kernel
theorem dX8_load_0 : decode cX8_load 0 = .ok (.aload_n 0, 1) := by decide +kernel
theorem dX8_load_1 : decode cX8_load 1 = .ok (.iconst 0, 1) := by decide +kernel
theorem dX8_load_2 : decode cX8_load 2 = .ok (.putfield 38, 3) := by decide +kernel
theorem dX8_load_5 : decode cX8_load 5 = .ok (.aload_n 0, 1) := by decide +kernel
theorem dX8_load_6 : decode cX8_load 6 = .ok (.iload_n 1, 1) := by decide +kernel
theorem dX8_load_7 : decode cX8_load 7 = .ok (.iconst 0, 1) := by decide +kernel
theorem dX8_load_8 : decode cX8_load 8 = .ok (.aload_n 0, 1) := by decide +kernel
theorem dX8_load_9 : decode cX8_load 9 = .ok (.getfield 45, 3) := by decide +kernel
theorem dX8_load_12 : decode cX8_load 12 = .ok (.invokestatic 63, 3) := by decide +kernel
theorem dX8_load_15 : decode cX8_load 15 = .ok (.ifCond .ne 7, 3) := by decide +kernel
theorem dX8_load_18 : decode cX8_load 18 = .ok (.iconst 1, 1) := by decide +kernel
theorem dX8_load_19 : decode cX8_load 19 = .ok (.goto 4, 3) := by decide +kernel
theorem dX8_load_22 : decode cX8_load 22 = .ok (.iconst 0, 1) := by decide +kernel
theorem dX8_load_23 : decode cX8_load 23 = .ok (.iconst 1, 1) := by decide +kernel
theorem dX8_load_24 : decode cX8_load 24 = .ok (.invokevirtual 162, 3) := by decide +kernel
theorem dX8_load_27 : decode cX8_load 27 = .ok (.ifCond .eq 5, 3) := by decide +kernel
theorem dX8_load_30 : decode cX8_load 30 = .ok (.iconst 0, 1) := by decide +kernel
theorem dX8_load_31 : decode cX8_load 31 = .ok (.ireturn, 1) := by decide +kernel
theorem dX8_load_32 : decode cX8_load 32 = .ok (.aload_n 0, 1) := by decide +kernel
theorem dX8_load_33 : decode cX8_load 33 = .ok (.iconst 0, 1) := by decide +kernel
theorem dX8_load_34 : decode cX8_load 34 = .ok (.putfield 45, 3) := by decide +kernel
theorem dX8_load_37 : decode cX8_load 37 = .ok (.aload_n 0, 1) := by decide +kernel
theorem dX8_load_38 : decode cX8_load 38 = .ok (.iload_n 1, 1) := by decide +kernel
theorem dX8_load_39 : decode cX8_load 39 = .ok (.putfield 48, 3) := by decide +kernel
theorem dX8_load_42 : decode cX8_load 42 = .ok (.aload_n 0, 1) := by decide +kernel
theorem dX8_load_43 : decode cX8_load 43 = .ok (.iconst 0, 1) := by decide +kernel
theorem dX8_load_44 : decode cX8_load 44 = .ok (.putfield 51, 3) := by decide +kernel
theorem dX8_load_47 : decode cX8_load 47 = .ok (.aload_n 0, 1) := by decide +kernel
theorem dX8_load_48 : decode cX8_load 48 = .ok (.iconst 0, 1) := by decide +kernel
theorem dX8_load_49 : decode cX8_load 49 = .ok (.putfield 57, 3) := by decide +kernel
theorem dX8_load_52 : decode cX8_load 52 = .ok (.aload_n 0, 1) := by decide +kernel
theorem dX8_load_53 : decode cX8_load 53 = .ok (.iconst (-1), 1) := by decide +kernel
theorem dX8_load_54 : decode cX8_load 54 = .ok (.putfield 60, 3) := by decide +kernel
theorem dX8_load_57 : decode cX8_load 57 = .ok (.aload_n 0, 1) := by decide +kernel
theorem dX8_load_58 : decode cX8_load 58 = .ok (.iconst 0, 1) := by decide +kernel
theorem dX8_load_59 : decode cX8_load 59 = .ok (.putfield 100, 3) := by decide +kernel
theorem dX8_load_62 : decode cX8_load 62 = .ok (.aload_n 0, 1) := by decide +kernel
theorem dX8_load_63 : decode cX8_load 63 = .ok (.iconst 0, 1) := by decide +kernel
theorem dX8_load_64 : decode cX8_load 64 = .ok (.putfield 133, 3) := by decide +kernel
theorem dX8_load_67 : decode cX8_load 67 = .ok (.iconst 0, 1) := by decide +kernel
theorem dX8_load_68 : decode cX8_load 68 = .ok (.istore_n 2, 1) := by decide +kernel
theorem dX8_load_69 : decode cX8_load 69 = .ok (.iload_n 2, 1) := by decide +kernel
theorem dX8_load_70 : decode cX8_load 70 = .ok (.sipush 1824, 3) := by decide +kernel
theorem dX8_load_73 : decode cX8_load 73 = .ok (.if_icmp .ge 16, 3) := by decide +kernel
theorem dX8_load_76 : decode cX8_load 76 = .ok (.aload_n 0, 1) := by decide +kernel
theorem dX8_load_77 : decode cX8_load 77 = .ok (.getfield 20, 3) := by decide +kernel
theorem dX8_load_80 : decode cX8_load 80 = .ok (.iload_n 2, 1) := by decide +kernel
theorem dX8_load_81 : decode cX8_load 81 = .ok (.iconst 0, 1) := by decide +kernel
theorem dX8_load_82 : decode cX8_load 82 = .ok (.iastore, 1) := by decide +kernel
theorem dX8_load_83 : decode cX8_load 83 = .ok (.iinc 2 1, 3) := by decide +kernel
theorem dX8_load_86 : decode cX8_load 86 = .ok (.goto (-17), 3) := by decide +kernel
theorem dX8_load_89 : decode cX8_load 89 = .ok (.aload_n 0, 1) := by decide +kernel
theorem dX8_load_90 : decode cX8_load 90 = .ok (.getfield 20, 3) := by decide +kernel
theorem dX8_load_93 : decode cX8_load 93 = .ok (.invokestatic 166, 3) := by decide +kernel
theorem dX8_load_96 : decode cX8_load 96 = .ok (.aload_n 0, 1) := by decide +kernel
theorem dX8_load_97 : decode cX8_load 97 = .ok (.ldc 170, 2) := by decide +kernel
theorem dX8_load_99 : decode cX8_load 99 = .ok (.invokevirtual 112, 3) := by decide +kernel
theorem dX8_load_102 : decode cX8_load 102 = .ok (.ifCond .ne 13, 3) := by decide +kernel
theorem dX8_load_105 : decode cX8_load 105 = .ok (.aload_n 0, 1) := by decide +kernel
theorem dX8_load_106 : decode cX8_load 106 = .ok (.bipush (-2), 2) := by decide +kernel
theorem dX8_load_108 : decode cX8_load 108 = .ok (.aload_n 0, 1) := by decide +kernel
theorem dX8_load_109 : decode cX8_load 109 = .ok (.getfield 51, 3) := by decide +kernel
theorem dX8_load_112 : decode cX8_load 112 = .ok (.invokevirtual 84, 3) := by decide +kernel
theorem dX8_load_115 : decode cX8_load 115 = .ok (.aload_n 0, 1) := by decide +kernel
theorem dX8_load_116 : decode cX8_load 116 = .ok (.getfield 20, 3) := by decide +kernel
theorem dX8_load_119 : decode cX8_load 119 = .ok (.iconst 0, 1) := by decide +kernel
theorem dX8_load_120 : decode cX8_load 120 = .ok (.aload_n 0, 1) := by decide +kernel
theorem dX8_load_121 : decode cX8_load 121 = .ok (.iconst 1, 1) := by decide +kernel
theorem dX8_load_122 : decode cX8_load 122 = .ok (.iconst 4, 1) := by decide +kernel
theorem dX8_load_123 : decode cX8_load 123 = .ok (.invokevirtual 121, 3) := by decide +kernel
theorem dX8_load_126 : decode cX8_load 126 = .ok (.iastore, 1) := by decide +kernel
theorem dX8_load_127 : decode cX8_load 127 = .ok (.aload_n 0, 1) := by decide +kernel
theorem dX8_load_128 : decode cX8_load 128 = .ok (.getfield 20, 3) := by decide +kernel
theorem dX8_load_131 : decode cX8_load 131 = .ok (.iconst 1, 1) := by decide +kernel
theorem dX8_load_132 : decode cX8_load 132 = .ok (.aload_n 0, 1) := by decide +kernel
theorem dX8_load_133 : decode cX8_load 133 = .ok (.iconst 1, 1) := by decide +kernel
theorem dX8_load_134 : decode cX8_load 134 = .ok (.bipush 8, 2) := by decide +kernel
theorem dX8_load_136 : decode cX8_load 136 = .ok (.invokevirtual 121, 3) := by decide +kernel
theorem dX8_load_139 : decode cX8_load 139 = .ok (.iastore, 1) := by decide +kernel
theorem dX8_load_140 : decode cX8_load 140 = .ok (.aload_n 0, 1) := by decide +kernel
theorem dX8_load_141 : decode cX8_load 141 = .ok (.getfield 20, 3) := by decide +kernel
theorem dX8_load_144 : decode cX8_load 144 = .ok (.iconst 2, 1) := by decide +kernel
theorem dX8_load_145 : decode cX8_load 145 = .ok (.aload_n 0, 1) := by decide +kernel
theorem dX8_load_146 : decode cX8_load 146 = .ok (.iconst 0, 1) := by decide +kernel
theorem dX8_load_147 : decode cX8_load 147 = .ok (.bipush 20, 2) := by decide +kernel
theorem dX8_load_149 : decode cX8_load 149 = .ok (.invokevirtual 121, 3) := by decide +kernel
theorem dX8_load_152 : decode cX8_load 152 = .ok (.iastore, 1) := by decide +kernel
theorem dX8_load_153 : decode cX8_load 153 = .ok (.aload_n 0, 1) := by decide +kernel
theorem dX8_load_154 : decode cX8_load 154 = .ok (.bipush 59, 2) := by decide +kernel
theorem dX8_load_156 : decode cX8_load 156 = .ok (.invokevirtual 106, 3) := by decide +kernel
theorem dX8_load_159 : decode cX8_load 159 = .ok (.aload_n 0, 1) := by decide +kernel
theorem dX8_load_160 : decode cX8_load 160 = .ok (.invokevirtual 67, 3) := by decide +kernel
theorem dX8_load_163 : decode cX8_load 163 = .ok (.ifCond .eq 18, 3) := by decide +kernel
theorem dX8_load_166 : decode cX8_load 166 = .ok (.aload_n 0, 1) := by decide +kernel
theorem dX8_load_167 : decode cX8_load 167 = .ok (.invokevirtual 71, 3) := by decide +kernel
theorem dX8_load_170 : decode cX8_load 170 = .ok (.iconst (-1), 1) := by decide +kernel
theorem dX8_load_171 : decode cX8_load 171 = .ok (.if_icmp .eq 10, 3) := by decide +kernel
theorem dX8_load_174 : decode cX8_load 174 = .ok (.aload_n 0, 1) := by decide +kernel
theorem dX8_load_175 : decode cX8_load 175 = .ok (.invokevirtual 172, 3) := by decide +kernel
theorem dX8_load_178 : decode cX8_load 178 = .ok (.goto (-19), 3) := by decide +kernel
theorem dX8_load_181 : decode cX8_load 181 = .ok (.aload_n 0, 1) := by decide +kernel
theorem dX8_load_182 : decode cX8_load 182 = .ok (.aload_n 0, 1) := by decide +kernel
theorem dX8_load_183 : decode cX8_load 183 = .ok (.getfield 60, 3) := by decide +kernel
theorem dX8_load_186 : decode cX8_load 186 = .ok (.putfield 13, 3) := by decide +kernel
theorem dX8_load_189 : decode cX8_load 189 = .ok (.aload_n 0, 1) := by decide +kernel
theorem dX8_load_190 : decode cX8_load 190 = .ok (.invokevirtual 67, 3) := by decide +kernel
theorem dX8_load_193 : decode cX8_load 193 = .ok (.ifCond .ne 8, 3) := by decide +kernel
theorem dX8_load_196 : decode cX8_load 196 = .ok (.aload_n 0, 1) := by decide +kernel
theorem dX8_load_197 : decode cX8_load 197 = .ok (.getfield 57, 3) := by decide +kernel
theorem dX8_load_200 : decode cX8_load 200 = .ok (.ireturn, 1) := by decide +kernel
theorem dX8_load_201 : decode cX8_load 201 = .ok (.aload_n 0, 1) := by decide +kernel
theorem dX8_load_202 : decode cX8_load 202 = .ok (.invokevirtual 175, 3) := by decide +kernel
theorem dX8_load_205 : decode cX8_load 205 = .ok (.aload_n 0, 1) := by decide +kernel
theorem dX8_load_206 : decode cX8_load 206 = .ok (.getfield 20, 3) := by decide +kernel
theorem dX8_load_209 : decode cX8_load 209 = .ok (.aload_n 0, 1) := by decide +kernel
theorem dX8_load_210 : decode cX8_load 210 = .ok (.getfield 17, 3) := by decide +kernel
theorem dX8_load_213 : decode cX8_load 213 = .ok (.invokestatic 178, 3) := by decide +kernel
theorem dX8_load_216 : decode cX8_load 216 = .ok (.aload_n 0, 1) := by decide +kernel
theorem dX8_load_217 : decode cX8_load 217 = .ok (.getfield 17, 3) := by decide +kernel
theorem dX8_load_220 : decode cX8_load 220 = .ok (.iconst 3, 1) := by decide +kernel
theorem dX8_load_221 : decode cX8_load 221 = .ok (.iaload, 1) := by decide +kernel
theorem dX8_load_222 : decode cX8_load 222 = .ok (.ireturn, 1) := by decide +kernel
theorem dX8_errorOffset_0 : decode cX8_errorOffset 0 = .ok (.aload_n 0, 1) := by decide +kernel
theorem dX8_errorOffset_1 : decode cX8_errorOffset 1 = .ok (.iconst 0, 1) := by decide +kernel
theorem dX8_errorOffset_2 : decode cX8_errorOffset 2 = .ok (.putfield 38, 3) := by decide +kernel
theorem dX8_errorOffset_5 : decode cX8_errorOffset 5 = .ok (.aload_n 0, 1) := by decide +kernel
theorem dX8_errorOffset_6 : decode cX8_errorOffset 6 = .ok (.getfield 13, 3) := by decide +kernel
theorem dX8_errorOffset_9 : decode cX8_errorOffset 9 = .ok (.ireturn, 1) := by decide +kernel
theorem dX8_limited_0 : decode cX8_limited 0 = .ok (.lload_n 0, 1) := by decide +kernel
theorem dX8_limited_1 : decode cX8_limited 1 = .ok (.ldc2_w 182, 3) := by decide +kernel
theorem dX8_limited_4 : decode cX8_limited 4 = .ok (.lcmp, 1) := by decide +kernel
theorem dX8_limited_5 : decode cX8_limited 5 = .ok (.ifCond .le 9, 3) := by decide +kernel
theorem dX8_limited_8 : decode cX8_limited 8 = .ok (.ldc2_w 182, 3) := by decide +kernel
theorem dX8_limited_11 : decode cX8_limited 11 = .ok (.goto 18, 3) := by decide +kernel
theorem dX8_limited_14 : decode cX8_limited 14 = .ok (.lload_n 0, 1) := by decide +kernel
theorem dX8_limited_15 : decode cX8_limited 15 = .ok (.ldc2_w 184, 3) := by decide +kernel
theorem dX8_limited_18 : decode cX8_limited 18 = .ok (.lcmp, 1) := by decide +kernel
theorem dX8_limited_19 : decode cX8_limited 19 = .ok (.ifCond .ge 9, 3) := by decide +kernel
theorem dX8_limited_22 : decode cX8_limited 22 = .ok (.ldc2_w 184, 3) := by decide +kernel
theorem dX8_limited_25 : decode cX8_limited 25 = .ok (.goto 4, 3) := by decide +kernel
theorem dX8_limited_28 : decode cX8_limited 28 = .ok (.lload_n 0, 1) := by decide +kernel
theorem dX8_limited_29 : decode cX8_limited 29 = .ok (.lreturn, 1) := by decide +kernel
theorem dX8_operate_0 : decode cX8_operate 0 = .ok (.iload_n 0, 1) := by decide +kernel
theorem dX8_operate_1 : decode cX8_operate 1 = .ok (.iconst 5, 1) := by decide +kernel
theorem dX8_operate_2 : decode cX8_operate 2 = .ok (.if_icmp .ne 17, 3) := by decide +kernel
theorem dX8_operate_5 : decode cX8_operate 5 = .ok (.lload_n 3, 1) := by decide +kernel
theorem dX8_operate_6 : decode cX8_operate 6 = .ok (.lconst 0, 1) := by decide +kernel
theorem dX8_operate_7 : decode cX8_operate 7 = .ok (.lcmp, 1) := by decide +kernel
theorem dX8_operate_8 : decode cX8_operate 8 = .ok (.ifCond .ne 7, 3) := by decide +kernel
theorem dX8_operate_11 : decode cX8_operate 11 = .ok (.lconst 0, 1) := by decide +kernel
theorem dX8_operate_12 : decode cX8_operate 12 = .ok (.goto 6, 3) := by decide +kernel
theorem dX8_operate_15 : decode cX8_operate 15 = .ok (.lload_n 1, 1) := by decide +kernel
theorem dX8_operate_16 : decode cX8_operate 16 = .ok (.lload_n 3, 1) := by decide +kernel
theorem dX8_operate_17 : decode cX8_operate 17 = .ok (.ldiv, 1) := by decide +kernel
theorem dX8_operate_18 : decode cX8_operate 18 = .ok (.lreturn, 1) := by decide +kernel
theorem dX8_operate_19 : decode cX8_operate 19 = .ok (.iload_n 0, 1) := by decide +kernel
theorem dX8_operate_20 : decode cX8_operate 20 = .ok (.iconst 2, 1) := by decide +kernel
theorem dX8_operate_21 : decode cX8_operate 21 = .ok (.if_icmp .ne 9, 3) := by decide +kernel
theorem dX8_operate_24 : decode cX8_operate 24 = .ok (.lload_n 1, 1) := by decide +kernel
theorem dX8_operate_25 : decode cX8_operate 25 = .ok (.lload_n 3, 1) := by decide +kernel
theorem dX8_operate_26 : decode cX8_operate 26 = .ok (.ladd, 1) := by decide +kernel
theorem dX8_operate_27 : decode cX8_operate 27 = .ok (.goto 17, 3) := by decide +kernel
theorem dX8_operate_30 : decode cX8_operate 30 = .ok (.iload_n 0, 1) := by decide +kernel
theorem dX8_operate_31 : decode cX8_operate 31 = .ok (.iconst 3, 1) := by decide +kernel
theorem dX8_operate_32 : decode cX8_operate 32 = .ok (.if_icmp .ne 9, 3) := by decide +kernel
theorem dX8_operate_35 : decode cX8_operate 35 = .ok (.lload_n 1, 1) := by decide +kernel
theorem dX8_operate_36 : decode cX8_operate 36 = .ok (.lload_n 3, 1) := by decide +kernel
theorem dX8_operate_37 : decode cX8_operate 37 = .ok (.lsub, 1) := by decide +kernel
theorem dX8_operate_38 : decode cX8_operate 38 = .ok (.goto 6, 3) := by decide +kernel
theorem dX8_operate_41 : decode cX8_operate 41 = .ok (.lload_n 1, 1) := by decide +kernel
theorem dX8_operate_42 : decode cX8_operate 42 = .ok (.lload_n 3, 1) := by decide +kernel
theorem dX8_operate_43 : decode cX8_operate 43 = .ok (.lmul, 1) := by decide +kernel
theorem dX8_operate_44 : decode cX8_operate 44 = .ok (.invokestatic 186, 3) := by decide +kernel
theorem dX8_operate_47 : decode cX8_operate 47 = .ok (.lreturn, 1) := by decide +kernel
theorem dX8_lengthOf_0 : decode cX8_lengthOf 0 = .ok (.aload_n 1, 1) := by decide +kernel
theorem dX8_lengthOf_1 : decode cX8_lengthOf 1 = .ok (.bipush 6, 2) := by decide +kernel
theorem dX8_lengthOf_3 : decode cX8_lengthOf 3 = .ok (.iaload, 1) := by decide +kernel
theorem dX8_lengthOf_4 : decode cX8_lengthOf 4 = .ok (.ifCond .ne 10, 3) := by decide +kernel
theorem dX8_lengthOf_7 : decode cX8_lengthOf 7 = .ok (.aload_n 1, 1) := by decide +kernel
theorem dX8_lengthOf_8 : decode cX8_lengthOf 8 = .ok (.iload_n 2, 1) := by decide +kernel
theorem dX8_lengthOf_9 : decode cX8_lengthOf 9 = .ok (.invokestatic 136, 3) := by decide +kernel
theorem dX8_lengthOf_12 : decode cX8_lengthOf 12 = .ok (.iaload, 1) := by decide +kernel
theorem dX8_lengthOf_13 : decode cX8_lengthOf 13 = .ok (.ireturn, 1) := by decide +kernel
theorem dX8_lengthOf_14 : decode cX8_lengthOf 14 = .ok (.iconst 0, 1) := by decide +kernel
theorem dX8_lengthOf_15 : decode cX8_lengthOf 15 = .ok (.istore 4, 2) := by decide +kernel
theorem dX8_lengthOf_17 : decode cX8_lengthOf 17 = .ok (.iconst 0, 1) := by decide +kernel
theorem dX8_lengthOf_18 : decode cX8_lengthOf 18 = .ok (.istore 5, 2) := by decide +kernel
theorem dX8_lengthOf_20 : decode cX8_lengthOf 20 = .ok (.iload 5, 2) := by decide +kernel
theorem dX8_lengthOf_22 : decode cX8_lengthOf 22 = .ok (.aload_n 1, 1) := by decide +kernel
theorem dX8_lengthOf_23 : decode cX8_lengthOf 23 = .ok (.bipush 7, 2) := by decide +kernel
theorem dX8_lengthOf_25 : decode cX8_lengthOf 25 = .ok (.iaload, 1) := by decide +kernel
theorem dX8_lengthOf_26 : decode cX8_lengthOf 26 = .ok (.if_icmp .ge 148, 3) := by decide +kernel
theorem dX8_lengthOf_29 : decode cX8_lengthOf 29 = .ok (.aload_n 1, 1) := by decide +kernel
theorem dX8_lengthOf_30 : decode cX8_lengthOf 30 = .ok (.sipush 324, 3) := by decide +kernel
theorem dX8_lengthOf_33 : decode cX8_lengthOf 33 = .ok (.iload 5, 2) := by decide +kernel
theorem dX8_lengthOf_35 : decode cX8_lengthOf 35 = .ok (.iadd, 1) := by decide +kernel
theorem dX8_lengthOf_36 : decode cX8_lengthOf 36 = .ok (.iaload, 1) := by decide +kernel
theorem dX8_lengthOf_37 : decode cX8_lengthOf 37 = .ok (.istore 6, 2) := by decide +kernel
theorem dX8_lengthOf_39 : decode cX8_lengthOf 39 = .ok (.iload 6, 2) := by decide +kernel
theorem dX8_lengthOf_41 : decode cX8_lengthOf 41 = .ok (.iconst 1, 1) := by decide +kernel
theorem dX8_lengthOf_42 : decode cX8_lengthOf 42 = .ok (.if_icmp .gt 93, 3) := by decide +kernel
theorem dX8_lengthOf_45 : decode cX8_lengthOf 45 = .ok (.iinc 5 1, 3) := by decide +kernel
theorem dX8_lengthOf_48 : decode cX8_lengthOf 48 = .ok (.aload_n 1, 1) := by decide +kernel
theorem dX8_lengthOf_49 : decode cX8_lengthOf 49 = .ok (.sipush 324, 3) := by decide +kernel
theorem dX8_lengthOf_52 : decode cX8_lengthOf 52 = .ok (.iload 5, 2) := by decide +kernel
theorem dX8_lengthOf_54 : decode cX8_lengthOf 54 = .ok (.iadd, 1) := by decide +kernel
theorem dX8_lengthOf_55 : decode cX8_lengthOf 55 = .ok (.iaload, 1) := by decide +kernel
theorem dX8_lengthOf_56 : decode cX8_lengthOf 56 = .ok (.istore 7, 2) := by decide +kernel
theorem dX8_lengthOf_58 : decode cX8_lengthOf 58 = .ok (.aload_n 0, 1) := by decide +kernel
theorem dX8_lengthOf_59 : decode cX8_lengthOf 59 = .ok (.getfield 31, 3) := by decide +kernel
theorem dX8_lengthOf_62 : decode cX8_lengthOf 62 = .ok (.iload 4, 2) := by decide +kernel
theorem dX8_lengthOf_64 : decode cX8_lengthOf 64 = .ok (.iload 6, 2) := by decide +kernel
theorem dX8_lengthOf_66 : decode cX8_lengthOf 66 = .ok (.ifCond .ne 9, 3) := by decide +kernel
theorem dX8_lengthOf_69 : decode cX8_lengthOf 69 = .ok (.iload 7, 2) := by decide +kernel
theorem dX8_lengthOf_71 : decode cX8_lengthOf 71 = .ok (.i2l, 1) := by decide +kernel
theorem dX8_lengthOf_72 : decode cX8_lengthOf 72 = .ok (.goto 56, 3) := by decide +kernel
theorem dX8_lengthOf_75 : decode cX8_lengthOf 75 = .ok (.iload 7, 2) := by decide +kernel
theorem dX8_lengthOf_77 : decode cX8_lengthOf 77 = .ok (.ifCond .ne 13, 3) := by decide +kernel
theorem dX8_lengthOf_80 : decode cX8_lengthOf 80 = .ok (.aload_n 1, 1) := by decide +kernel
theorem dX8_lengthOf_81 : decode cX8_lengthOf 81 = .ok (.iload_n 2, 1) := by decide +kernel
theorem dX8_lengthOf_82 : decode cX8_lengthOf 82 = .ok (.invokestatic 136, 3) := by decide +kernel
theorem dX8_lengthOf_85 : decode cX8_lengthOf 85 = .ok (.iaload, 1) := by decide +kernel
theorem dX8_lengthOf_86 : decode cX8_lengthOf 86 = .ok (.i2l, 1) := by decide +kernel
theorem dX8_lengthOf_87 : decode cX8_lengthOf 87 = .ok (.goto 41, 3) := by decide +kernel
theorem dX8_lengthOf_90 : decode cX8_lengthOf 90 = .ok (.iload 7, 2) := by decide +kernel
theorem dX8_lengthOf_92 : decode cX8_lengthOf 92 = .ok (.iconst 1, 1) := by decide +kernel
theorem dX8_lengthOf_93 : decode cX8_lengthOf 93 = .ok (.if_icmp .ne 15, 3) := by decide +kernel
theorem dX8_lengthOf_96 : decode cX8_lengthOf 96 = .ok (.aload_n 1, 1) := by decide +kernel
theorem dX8_lengthOf_97 : decode cX8_lengthOf 97 = .ok (.iload_n 2, 1) := by decide +kernel
theorem dX8_lengthOf_98 : decode cX8_lengthOf 98 = .ok (.invokestatic 136, 3) := by decide +kernel
theorem dX8_lengthOf_101 : decode cX8_lengthOf 101 = .ok (.iconst 1, 1) := by decide +kernel
theorem dX8_lengthOf_102 : decode cX8_lengthOf 102 = .ok (.iadd, 1) := by decide +kernel
theorem dX8_lengthOf_103 : decode cX8_lengthOf 103 = .ok (.iaload, 1) := by decide +kernel
theorem dX8_lengthOf_104 : decode cX8_lengthOf 104 = .ok (.i2l, 1) := by decide +kernel
theorem dX8_lengthOf_105 : decode cX8_lengthOf 105 = .ok (.goto 23, 3) := by decide +kernel
theorem dX8_lengthOf_108 : decode cX8_lengthOf 108 = .ok (.iload 7, 2) := by decide +kernel
theorem dX8_lengthOf_110 : decode cX8_lengthOf 110 = .ok (.iconst 2, 1) := by decide +kernel
theorem dX8_lengthOf_111 : decode cX8_lengthOf 111 = .ok (.if_icmp .ne 8, 3) := by decide +kernel
theorem dX8_lengthOf_114 : decode cX8_lengthOf 114 = .ok (.iload_n 3, 1) := by decide +kernel
theorem dX8_lengthOf_115 : decode cX8_lengthOf 115 = .ok (.i2l, 1) := by decide +kernel
theorem dX8_lengthOf_116 : decode cX8_lengthOf 116 = .ok (.goto 12, 3) := by decide +kernel
theorem dX8_lengthOf_119 : decode cX8_lengthOf 119 = .ok (.aload_n 1, 1) := by decide +kernel
theorem dX8_lengthOf_120 : decode cX8_lengthOf 120 = .ok (.iload_n 3, 1) := by decide +kernel
theorem dX8_lengthOf_121 : decode cX8_lengthOf 121 = .ok (.invokestatic 41, 3) := by decide +kernel
theorem dX8_lengthOf_124 : decode cX8_lengthOf 124 = .ok (.iconst 4, 1) := by decide +kernel
theorem dX8_lengthOf_125 : decode cX8_lengthOf 125 = .ok (.iadd, 1) := by decide +kernel
theorem dX8_lengthOf_126 : decode cX8_lengthOf 126 = .ok (.iaload, 1) := by decide +kernel
theorem dX8_lengthOf_127 : decode cX8_lengthOf 127 = .ok (.i2l, 1) := by decide +kernel
theorem dX8_lengthOf_128 : decode cX8_lengthOf 128 = .ok (.lastore, 1) := by decide +kernel
theorem dX8_lengthOf_129 : decode cX8_lengthOf 129 = .ok (.iinc 4 1, 3) := by decide +kernel
theorem dX8_lengthOf_132 : decode cX8_lengthOf 132 = .ok (.goto 36, 3) := by decide +kernel
theorem dX8_lengthOf_135 : decode cX8_lengthOf 135 = .ok (.iinc 4 (-1), 3) := by decide +kernel
theorem dX8_lengthOf_138 : decode cX8_lengthOf 138 = .ok (.aload_n 0, 1) := by decide +kernel
theorem dX8_lengthOf_139 : decode cX8_lengthOf 139 = .ok (.getfield 31, 3) := by decide +kernel
theorem dX8_lengthOf_142 : decode cX8_lengthOf 142 = .ok (.iload 4, 2) := by decide +kernel
theorem dX8_lengthOf_144 : decode cX8_lengthOf 144 = .ok (.iconst 1, 1) := by decide +kernel
theorem dX8_lengthOf_145 : decode cX8_lengthOf 145 = .ok (.isub, 1) := by decide +kernel
theorem dX8_lengthOf_146 : decode cX8_lengthOf 146 = .ok (.iload 6, 2) := by decide +kernel
theorem dX8_lengthOf_148 : decode cX8_lengthOf 148 = .ok (.aload_n 0, 1) := by decide +kernel
theorem dX8_lengthOf_149 : decode cX8_lengthOf 149 = .ok (.getfield 31, 3) := by decide +kernel
theorem dX8_lengthOf_152 : decode cX8_lengthOf 152 = .ok (.iload 4, 2) := by decide +kernel
theorem dX8_lengthOf_154 : decode cX8_lengthOf 154 = .ok (.iconst 1, 1) := by decide +kernel
theorem dX8_lengthOf_155 : decode cX8_lengthOf 155 = .ok (.isub, 1) := by decide +kernel
theorem dX8_lengthOf_156 : decode cX8_lengthOf 156 = .ok (.laload, 1) := by decide +kernel
theorem dX8_lengthOf_157 : decode cX8_lengthOf 157 = .ok (.aload_n 0, 1) := by decide +kernel
theorem dX8_lengthOf_158 : decode cX8_lengthOf 158 = .ok (.getfield 31, 3) := by decide +kernel
theorem dX8_lengthOf_161 : decode cX8_lengthOf 161 = .ok (.iload 4, 2) := by decide +kernel
theorem dX8_lengthOf_163 : decode cX8_lengthOf 163 = .ok (.laload, 1) := by decide +kernel
theorem dX8_lengthOf_164 : decode cX8_lengthOf 164 = .ok (.invokestatic 190, 3) := by decide +kernel
theorem dX8_lengthOf_167 : decode cX8_lengthOf 167 = .ok (.lastore, 1) := by decide +kernel
theorem dX8_lengthOf_168 : decode cX8_lengthOf 168 = .ok (.iinc 5 1, 3) := by decide +kernel
theorem dX8_lengthOf_171 : decode cX8_lengthOf 171 = .ok (.goto (-151), 3) := by decide +kernel
theorem dX8_lengthOf_174 : decode cX8_lengthOf 174 = .ok (.aload_n 0, 1) := by decide +kernel
theorem dX8_lengthOf_175 : decode cX8_lengthOf 175 = .ok (.getfield 31, 3) := by decide +kernel
theorem dX8_lengthOf_178 : decode cX8_lengthOf 178 = .ok (.iconst 0, 1) := by decide +kernel
theorem dX8_lengthOf_179 : decode cX8_lengthOf 179 = .ok (.laload, 1) := by decide +kernel
theorem dX8_lengthOf_180 : decode cX8_lengthOf 180 = .ok (.lconst 1, 1) := by decide +kernel
theorem dX8_lengthOf_181 : decode cX8_lengthOf 181 = .ok (.lcmp, 1) := by decide +kernel
theorem dX8_lengthOf_182 : decode cX8_lengthOf 182 = .ok (.ifCond .ge 7, 3) := by decide +kernel
theorem dX8_lengthOf_185 : decode cX8_lengthOf 185 = .ok (.iconst 1, 1) := by decide +kernel
theorem dX8_lengthOf_186 : decode cX8_lengthOf 186 = .ok (.goto 29, 3) := by decide +kernel
theorem dX8_lengthOf_189 : decode cX8_lengthOf 189 = .ok (.aload_n 0, 1) := by decide +kernel
theorem dX8_lengthOf_190 : decode cX8_lengthOf 190 = .ok (.getfield 31, 3) := by decide +kernel
theorem dX8_lengthOf_193 : decode cX8_lengthOf 193 = .ok (.iconst 0, 1) := by decide +kernel
theorem dX8_lengthOf_194 : decode cX8_lengthOf 194 = .ok (.laload, 1) := by decide +kernel
theorem dX8_lengthOf_195 : decode cX8_lengthOf 195 = .ok (.ldc2_w 194, 3) := by decide +kernel
theorem dX8_lengthOf_198 : decode cX8_lengthOf 198 = .ok (.lcmp, 1) := by decide +kernel
theorem dX8_lengthOf_199 : decode cX8_lengthOf 199 = .ok (.ifCond .le 9, 3) := by decide +kernel
theorem dX8_lengthOf_202 : decode cX8_lengthOf 202 = .ok (.sipush 999, 3) := by decide +kernel
theorem dX8_lengthOf_205 : decode cX8_lengthOf 205 = .ok (.goto 10, 3) := by decide +kernel
theorem dX8_lengthOf_208 : decode cX8_lengthOf 208 = .ok (.aload_n 0, 1) := by decide +kernel
theorem dX8_lengthOf_209 : decode cX8_lengthOf 209 = .ok (.getfield 31, 3) := by decide +kernel
theorem dX8_lengthOf_212 : decode cX8_lengthOf 212 = .ok (.iconst 0, 1) := by decide +kernel
theorem dX8_lengthOf_213 : decode cX8_lengthOf 213 = .ok (.laload, 1) := by decide +kernel
theorem dX8_lengthOf_214 : decode cX8_lengthOf 214 = .ok (.l2i, 1) := by decide +kernel
theorem dX8_lengthOf_215 : decode cX8_lengthOf 215 = .ok (.ireturn, 1) := by decide +kernel
theorem dX8_isFinished_0 : decode cX8_isFinished 0 = .ok (.aload_n 0, 1) := by decide +kernel
theorem dX8_isFinished_1 : decode cX8_isFinished 1 = .ok (.iload_n 1, 1) := by decide +kernel
theorem dX8_isFinished_2 : decode cX8_isFinished 2 = .ok (.invokestatic 136, 3) := by decide +kernel
theorem dX8_isFinished_5 : decode cX8_isFinished 5 = .ok (.iconst 4, 1) := by decide +kernel
theorem dX8_isFinished_6 : decode cX8_isFinished 6 = .ok (.iadd, 1) := by decide +kernel
theorem dX8_isFinished_7 : decode cX8_isFinished 7 = .ok (.iaload, 1) := by decide +kernel
theorem dX8_isFinished_8 : decode cX8_isFinished 8 = .ok (.iconst 4, 1) := by decide +kernel
theorem dX8_isFinished_9 : decode cX8_isFinished 9 = .ok (.if_icmp .lt 7, 3) := by decide +kernel
theorem dX8_isFinished_12 : decode cX8_isFinished 12 = .ok (.iconst 1, 1) := by decide +kernel
theorem dX8_isFinished_13 : decode cX8_isFinished 13 = .ok (.goto 4, 3) := by decide +kernel
theorem dX8_isFinished_16 : decode cX8_isFinished 16 = .ok (.iconst 0, 1) := by decide +kernel
theorem dX8_isFinished_17 : decode cX8_isFinished 17 = .ok (.ireturn, 1) := by decide +kernel
theorem dX8_isOpened_0 : decode cX8_isOpened 0 = .ok (.iconst 0, 1) := by decide +kernel
theorem dX8_isOpened_1 : decode cX8_isOpened 1 = .ok (.istore_n 2, 1) := by decide +kernel
theorem dX8_isOpened_2 : decode cX8_isOpened 2 = .ok (.iload_n 2, 1) := by decide +kernel
theorem dX8_isOpened_3 : decode cX8_isOpened 3 = .ok (.aload_n 0, 1) := by decide +kernel
theorem dX8_isOpened_4 : decode cX8_isOpened 4 = .ok (.bipush 8, 2) := by decide +kernel
theorem dX8_isOpened_6 : decode cX8_isOpened 6 = .ok (.iload_n 1, 1) := by decide +kernel
theorem dX8_isOpened_7 : decode cX8_isOpened 7 = .ok (.iadd, 1) := by decide +kernel
theorem dX8_isOpened_8 : decode cX8_isOpened 8 = .ok (.iaload, 1) := by decide +kernel
theorem dX8_isOpened_9 : decode cX8_isOpened 9 = .ok (.if_icmp .ge 19, 3) := by decide +kernel
theorem dX8_isOpened_12 : decode cX8_isOpened 12 = .ok (.aload_n 0, 1) := by decide +kernel
theorem dX8_isOpened_13 : decode cX8_isOpened 13 = .ok (.iload_n 2, 1) := by decide +kernel
theorem dX8_isOpened_14 : decode cX8_isOpened 14 = .ok (.invokestatic 196, 3) := by decide +kernel
theorem dX8_isOpened_17 : decode cX8_isOpened 17 = .ok (.ifCond .ne 5, 3) := by decide +kernel
theorem dX8_isOpened_20 : decode cX8_isOpened 20 = .ok (.iconst 0, 1) := by decide +kernel
theorem dX8_isOpened_21 : decode cX8_isOpened 21 = .ok (.ireturn, 1) := by decide +kernel
theorem dX8_isOpened_22 : decode cX8_isOpened 22 = .ok (.iinc 2 1, 3) := by decide +kernel
theorem dX8_isOpened_25 : decode cX8_isOpened 25 = .ok (.goto (-23), 3) := by decide +kernel
theorem dX8_isOpened_28 : decode cX8_isOpened 28 = .ok (.iconst 1, 1) := by decide +kernel
theorem dX8_isOpened_29 : decode cX8_isOpened 29 = .ok (.ireturn, 1) := by decide +kernel
theorem dX8_counterOf_0 : decode cX8_counterOf 0 = .ok (.iconst 0, 1) := by decide +kernel
theorem dX8_counterOf_1 : decode cX8_counterOf 1 = .ok (.istore_n 2, 1) := by decide +kernel
theorem dX8_counterOf_2 : decode cX8_counterOf 2 = .ok (.iconst 0, 1) := by decide +kernel
theorem dX8_counterOf_3 : decode cX8_counterOf 3 = .ok (.istore_n 3, 1) := by decide +kernel
theorem dX8_counterOf_4 : decode cX8_counterOf 4 = .ok (.iload_n 3, 1) := by decide +kernel
theorem dX8_counterOf_5 : decode cX8_counterOf 5 = .ok (.iload_n 1, 1) := by decide +kernel
theorem dX8_counterOf_6 : decode cX8_counterOf 6 = .ok (.if_icmp .ge 41, 3) := by decide +kernel
theorem dX8_counterOf_9 : decode cX8_counterOf 9 = .ok (.iload_n 2, 1) := by decide +kernel
theorem dX8_counterOf_10 : decode cX8_counterOf 10 = .ok (.aload_n 0, 1) := by decide +kernel
theorem dX8_counterOf_11 : decode cX8_counterOf 11 = .ok (.iload_n 1, 1) := by decide +kernel
theorem dX8_counterOf_12 : decode cX8_counterOf 12 = .ok (.invokestatic 136, 3) := by decide +kernel
theorem dX8_counterOf_15 : decode cX8_counterOf 15 = .ok (.iconst 3, 1) := by decide +kernel
theorem dX8_counterOf_16 : decode cX8_counterOf 16 = .ok (.iadd, 1) := by decide +kernel
theorem dX8_counterOf_17 : decode cX8_counterOf 17 = .ok (.iaload, 1) := by decide +kernel
theorem dX8_counterOf_18 : decode cX8_counterOf 18 = .ok (.iload_n 3, 1) := by decide +kernel
theorem dX8_counterOf_19 : decode cX8_counterOf 19 = .ok (.ishr, 1) := by decide +kernel
theorem dX8_counterOf_20 : decode cX8_counterOf 20 = .ok (.iconst 1, 1) := by decide +kernel
theorem dX8_counterOf_21 : decode cX8_counterOf 21 = .ok (.iand, 1) := by decide +kernel
theorem dX8_counterOf_22 : decode cX8_counterOf 22 = .ok (.iconst 1, 1) := by decide +kernel
theorem dX8_counterOf_23 : decode cX8_counterOf 23 = .ok (.if_icmp .ne 15, 3) := by decide +kernel
theorem dX8_counterOf_26 : decode cX8_counterOf 26 = .ok (.aload_n 0, 1) := by decide +kernel
theorem dX8_counterOf_27 : decode cX8_counterOf 27 = .ok (.iload_n 3, 1) := by decide +kernel
theorem dX8_counterOf_28 : decode cX8_counterOf 28 = .ok (.invokestatic 196, 3) := by decide +kernel
theorem dX8_counterOf_31 : decode cX8_counterOf 31 = .ok (.ifCond .ne 7, 3) := by decide +kernel
theorem dX8_counterOf_34 : decode cX8_counterOf 34 = .ok (.iconst 1, 1) := by decide +kernel
theorem dX8_counterOf_35 : decode cX8_counterOf 35 = .ok (.goto 4, 3) := by decide +kernel
theorem dX8_counterOf_38 : decode cX8_counterOf 38 = .ok (.iconst 0, 1) := by decide +kernel
theorem dX8_counterOf_39 : decode cX8_counterOf 39 = .ok (.iadd, 1) := by decide +kernel
theorem dX8_counterOf_40 : decode cX8_counterOf 40 = .ok (.istore_n 2, 1) := by decide +kernel
theorem dX8_counterOf_41 : decode cX8_counterOf 41 = .ok (.iinc 3 1, 3) := by decide +kernel
theorem dX8_counterOf_44 : decode cX8_counterOf 44 = .ok (.goto (-40), 3) := by decide +kernel
theorem dX8_counterOf_47 : decode cX8_counterOf 47 = .ok (.iconst 0, 1) := by decide +kernel
theorem dX8_counterOf_48 : decode cX8_counterOf 48 = .ok (.istore_n 3, 1) := by decide +kernel
theorem dX8_counterOf_49 : decode cX8_counterOf 49 = .ok (.iload_n 3, 1) := by decide +kernel
theorem dX8_counterOf_50 : decode cX8_counterOf 50 = .ok (.aload_n 0, 1) := by decide +kernel
theorem dX8_counterOf_51 : decode cX8_counterOf 51 = .ok (.iconst 4, 1) := by decide +kernel
theorem dX8_counterOf_52 : decode cX8_counterOf 52 = .ok (.iaload, 1) := by decide +kernel
theorem dX8_counterOf_53 : decode cX8_counterOf 53 = .ok (.if_icmp .ge 35, 3) := by decide +kernel
theorem dX8_counterOf_56 : decode cX8_counterOf 56 = .ok (.iload_n 2, 1) := by decide +kernel
theorem dX8_counterOf_57 : decode cX8_counterOf 57 = .ok (.aload_n 0, 1) := by decide +kernel
theorem dX8_counterOf_58 : decode cX8_counterOf 58 = .ok (.bipush 8, 2) := by decide +kernel
theorem dX8_counterOf_60 : decode cX8_counterOf 60 = .ok (.iload_n 3, 1) := by decide +kernel
theorem dX8_counterOf_61 : decode cX8_counterOf 61 = .ok (.iadd, 1) := by decide +kernel
theorem dX8_counterOf_62 : decode cX8_counterOf 62 = .ok (.iaload, 1) := by decide +kernel
theorem dX8_counterOf_63 : decode cX8_counterOf 63 = .ok (.iload_n 1, 1) := by decide +kernel
theorem dX8_counterOf_64 : decode cX8_counterOf 64 = .ok (.if_icmp .gt 15, 3) := by decide +kernel
theorem dX8_counterOf_67 : decode cX8_counterOf 67 = .ok (.aload_n 0, 1) := by decide +kernel
theorem dX8_counterOf_68 : decode cX8_counterOf 68 = .ok (.iload_n 3, 1) := by decide +kernel
theorem dX8_counterOf_69 : decode cX8_counterOf 69 = .ok (.invokestatic 200, 3) := by decide +kernel
theorem dX8_counterOf_72 : decode cX8_counterOf 72 = .ok (.ifCond .ne 7, 3) := by decide +kernel
theorem dX8_counterOf_75 : decode cX8_counterOf 75 = .ok (.iconst 1, 1) := by decide +kernel
theorem dX8_counterOf_76 : decode cX8_counterOf 76 = .ok (.goto 4, 3) := by decide +kernel
theorem dX8_counterOf_79 : decode cX8_counterOf 79 = .ok (.iconst 0, 1) := by decide +kernel
theorem dX8_counterOf_80 : decode cX8_counterOf 80 = .ok (.iadd, 1) := by decide +kernel
theorem dX8_counterOf_81 : decode cX8_counterOf 81 = .ok (.istore_n 2, 1) := by decide +kernel
theorem dX8_counterOf_82 : decode cX8_counterOf 82 = .ok (.iinc 3 1, 3) := by decide +kernel
theorem dX8_counterOf_85 : decode cX8_counterOf 85 = .ok (.goto (-36), 3) := by decide +kernel
theorem dX8_counterOf_88 : decode cX8_counterOf 88 = .ok (.iload_n 2, 1) := by decide +kernel
theorem dX8_counterOf_89 : decode cX8_counterOf 89 = .ok (.ireturn, 1) := by decide +kernel
theorem dX8_finishedOf_0 : decode cX8_finishedOf 0 = .ok (.iconst 0, 1) := by decide +kernel
theorem dX8_finishedOf_1 : decode cX8_finishedOf 1 = .ok (.istore_n 1, 1) := by decide +kernel
theorem dX8_finishedOf_2 : decode cX8_finishedOf 2 = .ok (.iconst 0, 1) := by decide +kernel
theorem dX8_finishedOf_3 : decode cX8_finishedOf 3 = .ok (.istore_n 2, 1) := by decide +kernel
theorem dX8_finishedOf_4 : decode cX8_finishedOf 4 = .ok (.iload_n 2, 1) := by decide +kernel
theorem dX8_finishedOf_5 : decode cX8_finishedOf 5 = .ok (.aload_n 0, 1) := by decide +kernel
theorem dX8_finishedOf_6 : decode cX8_finishedOf 6 = .ok (.iconst 3, 1) := by decide +kernel
theorem dX8_finishedOf_7 : decode cX8_finishedOf 7 = .ok (.iaload, 1) := by decide +kernel
theorem dX8_finishedOf_8 : decode cX8_finishedOf 8 = .ok (.if_icmp .ge 25, 3) := by decide +kernel
theorem dX8_finishedOf_11 : decode cX8_finishedOf 11 = .ok (.iload_n 1, 1) := by decide +kernel
theorem dX8_finishedOf_12 : decode cX8_finishedOf 12 = .ok (.aload_n 0, 1) := by decide +kernel
theorem dX8_finishedOf_13 : decode cX8_finishedOf 13 = .ok (.iload_n 2, 1) := by decide +kernel
theorem dX8_finishedOf_14 : decode cX8_finishedOf 14 = .ok (.invokestatic 196, 3) := by decide +kernel
theorem dX8_finishedOf_17 : decode cX8_finishedOf 17 = .ok (.ifCond .eq 7, 3) := by decide +kernel
theorem dX8_finishedOf_20 : decode cX8_finishedOf 20 = .ok (.iconst 1, 1) := by decide +kernel
theorem dX8_finishedOf_21 : decode cX8_finishedOf 21 = .ok (.goto 4, 3) := by decide +kernel
theorem dX8_finishedOf_24 : decode cX8_finishedOf 24 = .ok (.iconst 0, 1) := by decide +kernel
theorem dX8_finishedOf_25 : decode cX8_finishedOf 25 = .ok (.iadd, 1) := by decide +kernel
theorem dX8_finishedOf_26 : decode cX8_finishedOf 26 = .ok (.istore_n 1, 1) := by decide +kernel
theorem dX8_finishedOf_27 : decode cX8_finishedOf 27 = .ok (.iinc 2 1, 3) := by decide +kernel
theorem dX8_finishedOf_30 : decode cX8_finishedOf 30 = .ok (.goto (-26), 3) := by decide +kernel
theorem dX8_finishedOf_33 : decode cX8_finishedOf 33 = .ok (.iload_n 1, 1) := by decide +kernel
theorem dX8_finishedOf_34 : decode cX8_finishedOf 34 = .ok (.ireturn, 1) := by decide +kernel
theorem dX8_goOn_0 : decode cX8_goOn 0 = .ok (.iconst 0, 1) := by decide +kernel
theorem dX8_goOn_1 : decode cX8_goOn 1 = .ok (.istore_n 1, 1) := by decide +kernel
theorem dX8_goOn_2 : decode cX8_goOn 2 = .ok (.iconst 0, 1) := by decide +kernel
theorem dX8_goOn_3 : decode cX8_goOn 3 = .ok (.istore_n 2, 1) := by decide +kernel
theorem dX8_goOn_4 : decode cX8_goOn 4 = .ok (.iload_n 2, 1) := by decide +kernel
theorem dX8_goOn_5 : decode cX8_goOn 5 = .ok (.aload_n 0, 1) := by decide +kernel
theorem dX8_goOn_6 : decode cX8_goOn 6 = .ok (.iconst 0, 1) := by decide +kernel
theorem dX8_goOn_7 : decode cX8_goOn 7 = .ok (.iaload, 1) := by decide +kernel
theorem dX8_goOn_8 : decode cX8_goOn 8 = .ok (.if_icmp .ge 85, 3) := by decide +kernel
theorem dX8_goOn_11 : decode cX8_goOn 11 = .ok (.aload_n 0, 1) := by decide +kernel
theorem dX8_goOn_12 : decode cX8_goOn 12 = .ok (.iload_n 2, 1) := by decide +kernel
theorem dX8_goOn_13 : decode cX8_goOn 13 = .ok (.invokestatic 41, 3) := by decide +kernel
theorem dX8_goOn_16 : decode cX8_goOn 16 = .ok (.iconst 0, 1) := by decide +kernel
theorem dX8_goOn_17 : decode cX8_goOn 17 = .ok (.iadd, 1) := by decide +kernel
theorem dX8_goOn_18 : decode cX8_goOn 18 = .ok (.iaload, 1) := by decide +kernel
theorem dX8_goOn_19 : decode cX8_goOn 19 = .ok (.istore_n 3, 1) := by decide +kernel
theorem dX8_goOn_20 : decode cX8_goOn 20 = .ok (.iload_n 3, 1) := by decide +kernel
theorem dX8_goOn_21 : decode cX8_goOn 21 = .ok (.iconst (-1), 1) := by decide +kernel
theorem dX8_goOn_22 : decode cX8_goOn 22 = .ok (.if_icmp .ne 6, 3) := by decide +kernel
theorem dX8_goOn_25 : decode cX8_goOn 25 = .ok (.goto 62, 3) := by decide +kernel
theorem dX8_goOn_28 : decode cX8_goOn 28 = .ok (.aload_n 0, 1) := by decide +kernel
theorem dX8_goOn_29 : decode cX8_goOn 29 = .ok (.iload_n 3, 1) := by decide +kernel
theorem dX8_goOn_30 : decode cX8_goOn 30 = .ok (.invokestatic 136, 3) := by decide +kernel
theorem dX8_goOn_33 : decode cX8_goOn 33 = .ok (.iconst 5, 1) := by decide +kernel
theorem dX8_goOn_34 : decode cX8_goOn 34 = .ok (.iadd, 1) := by decide +kernel
theorem dX8_goOn_35 : decode cX8_goOn 35 = .ok (.dup2, 1) := by decide +kernel
theorem dX8_goOn_36 : decode cX8_goOn 36 = .ok (.iaload, 1) := by decide +kernel
theorem dX8_goOn_37 : decode cX8_goOn 37 = .ok (.iconst 1, 1) := by decide +kernel
theorem dX8_goOn_38 : decode cX8_goOn 38 = .ok (.isub, 1) := by decide +kernel
theorem dX8_goOn_39 : decode cX8_goOn 39 = .ok (.iastore, 1) := by decide +kernel
theorem dX8_goOn_40 : decode cX8_goOn 40 = .ok (.aload_n 0, 1) := by decide +kernel
theorem dX8_goOn_41 : decode cX8_goOn 41 = .ok (.iload_n 3, 1) := by decide +kernel
theorem dX8_goOn_42 : decode cX8_goOn 42 = .ok (.invokestatic 136, 3) := by decide +kernel
theorem dX8_goOn_45 : decode cX8_goOn 45 = .ok (.iconst 5, 1) := by decide +kernel
theorem dX8_goOn_46 : decode cX8_goOn 46 = .ok (.iadd, 1) := by decide +kernel
theorem dX8_goOn_47 : decode cX8_goOn 47 = .ok (.iaload, 1) := by decide +kernel
theorem dX8_goOn_48 : decode cX8_goOn 48 = .ok (.ifCond .le 6, 3) := by decide +kernel
theorem dX8_goOn_51 : decode cX8_goOn 51 = .ok (.goto 36, 3) := by decide +kernel
theorem dX8_goOn_54 : decode cX8_goOn 54 = .ok (.aload_n 0, 1) := by decide +kernel
theorem dX8_goOn_55 : decode cX8_goOn 55 = .ok (.iload_n 3, 1) := by decide +kernel
theorem dX8_goOn_56 : decode cX8_goOn 56 = .ok (.invokestatic 136, 3) := by decide +kernel
theorem dX8_goOn_59 : decode cX8_goOn 59 = .ok (.iconst 4, 1) := by decide +kernel
theorem dX8_goOn_60 : decode cX8_goOn 60 = .ok (.iadd, 1) := by decide +kernel
theorem dX8_goOn_61 : decode cX8_goOn 61 = .ok (.iconst 4, 1) := by decide +kernel
theorem dX8_goOn_62 : decode cX8_goOn 62 = .ok (.iastore, 1) := by decide +kernel
theorem dX8_goOn_63 : decode cX8_goOn 63 = .ok (.aload_n 0, 1) := by decide +kernel
theorem dX8_goOn_64 : decode cX8_goOn 64 = .ok (.iload_n 3, 1) := by decide +kernel
theorem dX8_goOn_65 : decode cX8_goOn 65 = .ok (.invokestatic 136, 3) := by decide +kernel
theorem dX8_goOn_68 : decode cX8_goOn 68 = .ok (.bipush 7, 2) := by decide +kernel
theorem dX8_goOn_70 : decode cX8_goOn 70 = .ok (.iadd, 1) := by decide +kernel
theorem dX8_goOn_71 : decode cX8_goOn 71 = .ok (.aload_n 0, 1) := by decide +kernel
theorem dX8_goOn_72 : decode cX8_goOn 72 = .ok (.iconst 5, 1) := by decide +kernel
theorem dX8_goOn_73 : decode cX8_goOn 73 = .ok (.iaload, 1) := by decide +kernel
theorem dX8_goOn_74 : decode cX8_goOn 74 = .ok (.iastore, 1) := by decide +kernel
theorem dX8_goOn_75 : decode cX8_goOn 75 = .ok (.aload_n 0, 1) := by decide +kernel
theorem dX8_goOn_76 : decode cX8_goOn 76 = .ok (.iload_n 2, 1) := by decide +kernel
theorem dX8_goOn_77 : decode cX8_goOn 77 = .ok (.invokestatic 41, 3) := by decide +kernel
theorem dX8_goOn_80 : decode cX8_goOn 80 = .ok (.iconst 0, 1) := by decide +kernel
theorem dX8_goOn_81 : decode cX8_goOn 81 = .ok (.iadd, 1) := by decide +kernel
theorem dX8_goOn_82 : decode cX8_goOn 82 = .ok (.iconst (-1), 1) := by decide +kernel
theorem dX8_goOn_83 : decode cX8_goOn 83 = .ok (.iastore, 1) := by decide +kernel
theorem dX8_goOn_84 : decode cX8_goOn 84 = .ok (.iinc 1 1, 3) := by decide +kernel
theorem dX8_goOn_87 : decode cX8_goOn 87 = .ok (.iinc 2 1, 3) := by decide +kernel
theorem dX8_goOn_90 : decode cX8_goOn 90 = .ok (.goto (-86), 3) := by decide +kernel
theorem dX8_goOn_93 : decode cX8_goOn 93 = .ok (.iload_n 1, 1) := by decide +kernel
theorem dX8_goOn_94 : decode cX8_goOn 94 = .ok (.ireturn, 1) := by decide +kernel
theorem dX8_coreFor_0 : decode cX8_coreFor 0 = .ok (.aload_n 0, 1) := by decide +kernel
theorem dX8_coreFor_1 : decode cX8_coreFor 1 = .ok (.iload_n 1, 1) := by decide +kernel
theorem dX8_coreFor_2 : decode cX8_coreFor 2 = .ok (.invokestatic 136, 3) := by decide +kernel
theorem dX8_coreFor_5 : decode cX8_coreFor 5 = .ok (.iconst 2, 1) := by decide +kernel
theorem dX8_coreFor_6 : decode cX8_coreFor 6 = .ok (.iadd, 1) := by decide +kernel
theorem dX8_coreFor_7 : decode cX8_coreFor 7 = .ok (.iaload, 1) := by decide +kernel
theorem dX8_coreFor_8 : decode cX8_coreFor 8 = .ok (.istore_n 2, 1) := by decide +kernel
theorem dX8_coreFor_9 : decode cX8_coreFor 9 = .ok (.aload_n 0, 1) := by decide +kernel
theorem dX8_coreFor_10 : decode cX8_coreFor 10 = .ok (.iload_n 2, 1) := by decide +kernel
theorem dX8_coreFor_11 : decode cX8_coreFor 11 = .ok (.invokestatic 41, 3) := by decide +kernel
theorem dX8_coreFor_14 : decode cX8_coreFor 14 = .ok (.iconst 4, 1) := by decide +kernel
theorem dX8_coreFor_15 : decode cX8_coreFor 15 = .ok (.iadd, 1) := by decide +kernel
theorem dX8_coreFor_16 : decode cX8_coreFor 16 = .ok (.iaload, 1) := by decide +kernel
theorem dX8_coreFor_17 : decode cX8_coreFor 17 = .ok (.aload_n 0, 1) := by decide +kernel
theorem dX8_coreFor_18 : decode cX8_coreFor 18 = .ok (.iconst 1, 1) := by decide +kernel
theorem dX8_coreFor_19 : decode cX8_coreFor 19 = .ok (.iaload, 1) := by decide +kernel
theorem dX8_coreFor_20 : decode cX8_coreFor 20 = .ok (.if_icmp .ge 5, 3) := by decide +kernel
theorem dX8_coreFor_23 : decode cX8_coreFor 23 = .ok (.iload_n 2, 1) := by decide +kernel
theorem dX8_coreFor_24 : decode cX8_coreFor 24 = .ok (.ireturn, 1) := by decide +kernel
theorem dX8_coreFor_25 : decode cX8_coreFor 25 = .ok (.iconst (-1), 1) := by decide +kernel
theorem dX8_coreFor_26 : decode cX8_coreFor 26 = .ok (.istore_n 3, 1) := by decide +kernel
theorem dX8_coreFor_27 : decode cX8_coreFor 27 = .ok (.iconst 0, 1) := by decide +kernel
theorem dX8_coreFor_28 : decode cX8_coreFor 28 = .ok (.istore 4, 2) := by decide +kernel
theorem dX8_coreFor_30 : decode cX8_coreFor 30 = .ok (.iload 4, 2) := by decide +kernel
theorem dX8_coreFor_32 : decode cX8_coreFor 32 = .ok (.aload_n 0, 1) := by decide +kernel
theorem dX8_coreFor_33 : decode cX8_coreFor 33 = .ok (.iconst 0, 1) := by decide +kernel
theorem dX8_coreFor_34 : decode cX8_coreFor 34 = .ok (.iaload, 1) := by decide +kernel
theorem dX8_coreFor_35 : decode cX8_coreFor 35 = .ok (.if_icmp .ge 52, 3) := by decide +kernel
theorem dX8_coreFor_38 : decode cX8_coreFor 38 = .ok (.aload_n 0, 1) := by decide +kernel
theorem dX8_coreFor_39 : decode cX8_coreFor 39 = .ok (.iload 4, 2) := by decide +kernel
theorem dX8_coreFor_41 : decode cX8_coreFor 41 = .ok (.invokestatic 41, 3) := by decide +kernel
theorem dX8_coreFor_44 : decode cX8_coreFor 44 = .ok (.iconst 4, 1) := by decide +kernel
theorem dX8_coreFor_45 : decode cX8_coreFor 45 = .ok (.iadd, 1) := by decide +kernel
theorem dX8_coreFor_46 : decode cX8_coreFor 46 = .ok (.iaload, 1) := by decide +kernel
theorem dX8_coreFor_47 : decode cX8_coreFor 47 = .ok (.aload_n 0, 1) := by decide +kernel
theorem dX8_coreFor_48 : decode cX8_coreFor 48 = .ok (.iconst 1, 1) := by decide +kernel
theorem dX8_coreFor_49 : decode cX8_coreFor 49 = .ok (.iaload, 1) := by decide +kernel
theorem dX8_coreFor_50 : decode cX8_coreFor 50 = .ok (.if_icmp .ge 31, 3) := by decide +kernel
theorem dX8_coreFor_53 : decode cX8_coreFor 53 = .ok (.iload_n 3, 1) := by decide +kernel
theorem dX8_coreFor_54 : decode cX8_coreFor 54 = .ok (.iconst (-1), 1) := by decide +kernel
theorem dX8_coreFor_55 : decode cX8_coreFor 55 = .ok (.if_icmp .eq 23, 3) := by decide +kernel
theorem dX8_coreFor_58 : decode cX8_coreFor 58 = .ok (.aload_n 0, 1) := by decide +kernel
theorem dX8_coreFor_59 : decode cX8_coreFor 59 = .ok (.iload 4, 2) := by decide +kernel
theorem dX8_coreFor_61 : decode cX8_coreFor 61 = .ok (.invokestatic 41, 3) := by decide +kernel
theorem dX8_coreFor_64 : decode cX8_coreFor 64 = .ok (.iconst 4, 1) := by decide +kernel
theorem dX8_coreFor_65 : decode cX8_coreFor 65 = .ok (.iadd, 1) := by decide +kernel
theorem dX8_coreFor_66 : decode cX8_coreFor 66 = .ok (.iaload, 1) := by decide +kernel
theorem dX8_coreFor_67 : decode cX8_coreFor 67 = .ok (.aload_n 0, 1) := by decide +kernel
theorem dX8_coreFor_68 : decode cX8_coreFor 68 = .ok (.iload_n 3, 1) := by decide +kernel
theorem dX8_coreFor_69 : decode cX8_coreFor 69 = .ok (.invokestatic 41, 3) := by decide +kernel
theorem dX8_coreFor_72 : decode cX8_coreFor 72 = .ok (.iconst 4, 1) := by decide +kernel
theorem dX8_coreFor_73 : decode cX8_coreFor 73 = .ok (.iadd, 1) := by decide +kernel
theorem dX8_coreFor_74 : decode cX8_coreFor 74 = .ok (.iaload, 1) := by decide +kernel
theorem dX8_coreFor_75 : decode cX8_coreFor 75 = .ok (.if_icmp .ge 6, 3) := by decide +kernel
theorem dX8_coreFor_78 : decode cX8_coreFor 78 = .ok (.iload 4, 2) := by decide +kernel
theorem dX8_coreFor_80 : decode cX8_coreFor 80 = .ok (.istore_n 3, 1) := by decide +kernel
theorem dX8_coreFor_81 : decode cX8_coreFor 81 = .ok (.iinc 4 1, 3) := by decide +kernel
theorem dX8_coreFor_84 : decode cX8_coreFor 84 = .ok (.goto (-54), 3) := by decide +kernel
theorem dX8_coreFor_87 : decode cX8_coreFor 87 = .ok (.iload_n 3, 1) := by decide +kernel
theorem dX8_coreFor_88 : decode cX8_coreFor 88 = .ok (.ireturn, 1) := by decide +kernel
theorem dX8_queueReady_0 : decode cX8_queueReady 0 = .ok (.iconst 0, 1) := by decide +kernel
theorem dX8_queueReady_1 : decode cX8_queueReady 1 = .ok (.istore_n 1, 1) := by decide +kernel
theorem dX8_queueReady_2 : decode cX8_queueReady 2 = .ok (.iload_n 1, 1) := by decide +kernel
theorem dX8_queueReady_3 : decode cX8_queueReady 3 = .ok (.aload_n 0, 1) := by decide +kernel
theorem dX8_queueReady_4 : decode cX8_queueReady 4 = .ok (.iconst 3, 1) := by decide +kernel
theorem dX8_queueReady_5 : decode cX8_queueReady 5 = .ok (.iaload, 1) := by decide +kernel
theorem dX8_queueReady_6 : decode cX8_queueReady 6 = .ok (.if_icmp .ge 37, 3) := by decide +kernel
theorem dX8_queueReady_9 : decode cX8_queueReady 9 = .ok (.aload_n 0, 1) := by decide +kernel
theorem dX8_queueReady_10 : decode cX8_queueReady 10 = .ok (.iload_n 1, 1) := by decide +kernel
theorem dX8_queueReady_11 : decode cX8_queueReady 11 = .ok (.invokestatic 136, 3) := by decide +kernel
theorem dX8_queueReady_14 : decode cX8_queueReady 14 = .ok (.iconst 4, 1) := by decide +kernel
theorem dX8_queueReady_15 : decode cX8_queueReady 15 = .ok (.iadd, 1) := by decide +kernel
theorem dX8_queueReady_16 : decode cX8_queueReady 16 = .ok (.iaload, 1) := by decide +kernel
theorem dX8_queueReady_17 : decode cX8_queueReady 17 = .ok (.ifCond .ne 20, 3) := by decide +kernel
theorem dX8_queueReady_20 : decode cX8_queueReady 20 = .ok (.aload_n 0, 1) := by decide +kernel
theorem dX8_queueReady_21 : decode cX8_queueReady 21 = .ok (.iload_n 1, 1) := by decide +kernel
theorem dX8_queueReady_22 : decode cX8_queueReady 22 = .ok (.invokestatic 203, 3) := by decide +kernel
theorem dX8_queueReady_25 : decode cX8_queueReady 25 = .ok (.ifCond .ne 12, 3) := by decide +kernel
theorem dX8_queueReady_28 : decode cX8_queueReady 28 = .ok (.aload_n 0, 1) := by decide +kernel
theorem dX8_queueReady_29 : decode cX8_queueReady 29 = .ok (.iload_n 1, 1) := by decide +kernel
theorem dX8_queueReady_30 : decode cX8_queueReady 30 = .ok (.invokestatic 136, 3) := by decide +kernel
theorem dX8_queueReady_33 : decode cX8_queueReady 33 = .ok (.iconst 4, 1) := by decide +kernel
theorem dX8_queueReady_34 : decode cX8_queueReady 34 = .ok (.iadd, 1) := by decide +kernel
theorem dX8_queueReady_35 : decode cX8_queueReady 35 = .ok (.iconst 1, 1) := by decide +kernel
theorem dX8_queueReady_36 : decode cX8_queueReady 36 = .ok (.iastore, 1) := by decide +kernel
theorem dX8_queueReady_37 : decode cX8_queueReady 37 = .ok (.iinc 1 1, 3) := by decide +kernel
theorem dX8_queueReady_40 : decode cX8_queueReady 40 = .ok (.goto (-38), 3) := by decide +kernel
theorem dX8_queueReady_43 : decode cX8_queueReady 43 = .ok (.bipush 9, 2) := by decide +kernel
theorem dX8_queueReady_45 : decode cX8_queueReady 45 = .ok (.istore_n 1, 1) := by decide +kernel
theorem dX8_queueReady_46 : decode cX8_queueReady 46 = .ok (.iload_n 1, 1) := by decide +kernel
theorem dX8_queueReady_47 : decode cX8_queueReady 47 = .ok (.ifCond .lt 102, 3) := by decide +kernel
theorem dX8_queueReady_50 : decode cX8_queueReady 50 = .ok (.iconst 0, 1) := by decide +kernel
theorem dX8_queueReady_51 : decode cX8_queueReady 51 = .ok (.istore_n 2, 1) := by decide +kernel
theorem dX8_queueReady_52 : decode cX8_queueReady 52 = .ok (.iload_n 2, 1) := by decide +kernel
theorem dX8_queueReady_53 : decode cX8_queueReady 53 = .ok (.aload_n 0, 1) := by decide +kernel
theorem dX8_queueReady_54 : decode cX8_queueReady 54 = .ok (.iconst 3, 1) := by decide +kernel
theorem dX8_queueReady_55 : decode cX8_queueReady 55 = .ok (.iaload, 1) := by decide +kernel
theorem dX8_queueReady_56 : decode cX8_queueReady 56 = .ok (.if_icmp .ge 87, 3) := by decide +kernel
theorem dX8_queueReady_59 : decode cX8_queueReady 59 = .ok (.aload_n 0, 1) := by decide +kernel
theorem dX8_queueReady_60 : decode cX8_queueReady 60 = .ok (.iload_n 2, 1) := by decide +kernel
theorem dX8_queueReady_61 : decode cX8_queueReady 61 = .ok (.invokestatic 136, 3) := by decide +kernel
theorem dX8_queueReady_64 : decode cX8_queueReady 64 = .ok (.iconst 4, 1) := by decide +kernel
theorem dX8_queueReady_65 : decode cX8_queueReady 65 = .ok (.iadd, 1) := by decide +kernel
theorem dX8_queueReady_66 : decode cX8_queueReady 66 = .ok (.iaload, 1) := by decide +kernel
theorem dX8_queueReady_67 : decode cX8_queueReady 67 = .ok (.iconst 1, 1) := by decide +kernel
theorem dX8_queueReady_68 : decode cX8_queueReady 68 = .ok (.if_icmp .ne 69, 3) := by decide +kernel
theorem dX8_queueReady_71 : decode cX8_queueReady 71 = .ok (.aload_n 0, 1) := by decide +kernel
theorem dX8_queueReady_72 : decode cX8_queueReady 72 = .ok (.iload_n 2, 1) := by decide +kernel
theorem dX8_queueReady_73 : decode cX8_queueReady 73 = .ok (.invokestatic 136, 3) := by decide +kernel
theorem dX8_queueReady_76 : decode cX8_queueReady 76 = .ok (.iconst 1, 1) := by decide +kernel
theorem dX8_queueReady_77 : decode cX8_queueReady 77 = .ok (.iadd, 1) := by decide +kernel
theorem dX8_queueReady_78 : decode cX8_queueReady 78 = .ok (.iaload, 1) := by decide +kernel
theorem dX8_queueReady_79 : decode cX8_queueReady 79 = .ok (.iload_n 1, 1) := by decide +kernel
theorem dX8_queueReady_80 : decode cX8_queueReady 80 = .ok (.if_icmp .eq 6, 3) := by decide +kernel
theorem dX8_queueReady_83 : decode cX8_queueReady 83 = .ok (.goto 54, 3) := by decide +kernel
theorem dX8_queueReady_86 : decode cX8_queueReady 86 = .ok (.aload_n 0, 1) := by decide +kernel
theorem dX8_queueReady_87 : decode cX8_queueReady 87 = .ok (.iload_n 2, 1) := by decide +kernel
theorem dX8_queueReady_88 : decode cX8_queueReady 88 = .ok (.invokestatic 207, 3) := by decide +kernel
theorem dX8_queueReady_91 : decode cX8_queueReady 91 = .ok (.istore_n 3, 1) := by decide +kernel
theorem dX8_queueReady_92 : decode cX8_queueReady 92 = .ok (.iload_n 3, 1) := by decide +kernel
theorem dX8_queueReady_93 : decode cX8_queueReady 93 = .ok (.iconst (-1), 1) := by decide +kernel
theorem dX8_queueReady_94 : decode cX8_queueReady 94 = .ok (.if_icmp .ne 4, 3) := by decide +kernel
theorem dX8_queueReady_97 : decode cX8_queueReady 97 = .ok (.return_, 1) := by decide +kernel
theorem dX8_queueReady_98 : decode cX8_queueReady 98 = .ok (.aload_n 0, 1) := by decide +kernel
theorem dX8_queueReady_99 : decode cX8_queueReady 99 = .ok (.iload_n 3, 1) := by decide +kernel
theorem dX8_queueReady_100 : decode cX8_queueReady 100 = .ok (.invokestatic 41, 3) := by decide +kernel
theorem dX8_queueReady_103 : decode cX8_queueReady 103 = .ok (.iconst 5, 1) := by decide +kernel
theorem dX8_queueReady_104 : decode cX8_queueReady 104 = .ok (.iadd, 1) := by decide +kernel
theorem dX8_queueReady_105 : decode cX8_queueReady 105 = .ok (.aload_n 0, 1) := by decide +kernel
theorem dX8_queueReady_106 : decode cX8_queueReady 106 = .ok (.iload_n 3, 1) := by decide +kernel
theorem dX8_queueReady_107 : decode cX8_queueReady 107 = .ok (.invokestatic 41, 3) := by decide +kernel
theorem dX8_queueReady_110 : decode cX8_queueReady 110 = .ok (.iconst 4, 1) := by decide +kernel
theorem dX8_queueReady_111 : decode cX8_queueReady 111 = .ok (.iadd, 1) := by decide +kernel
theorem dX8_queueReady_112 : decode cX8_queueReady 112 = .ok (.iaload, 1) := by decide +kernel
theorem dX8_queueReady_113 : decode cX8_queueReady 113 = .ok (.iadd, 1) := by decide +kernel
theorem dX8_queueReady_114 : decode cX8_queueReady 114 = .ok (.iload_n 2, 1) := by decide +kernel
theorem dX8_queueReady_115 : decode cX8_queueReady 115 = .ok (.iastore, 1) := by decide +kernel
theorem dX8_queueReady_116 : decode cX8_queueReady 116 = .ok (.aload_n 0, 1) := by decide +kernel
theorem dX8_queueReady_117 : decode cX8_queueReady 117 = .ok (.iload_n 3, 1) := by decide +kernel
theorem dX8_queueReady_118 : decode cX8_queueReady 118 = .ok (.invokestatic 41, 3) := by decide +kernel
theorem dX8_queueReady_121 : decode cX8_queueReady 121 = .ok (.iconst 4, 1) := by decide +kernel
theorem dX8_queueReady_122 : decode cX8_queueReady 122 = .ok (.iadd, 1) := by decide +kernel
theorem dX8_queueReady_123 : decode cX8_queueReady 123 = .ok (.dup2, 1) := by decide +kernel
theorem dX8_queueReady_124 : decode cX8_queueReady 124 = .ok (.iaload, 1) := by decide +kernel
theorem dX8_queueReady_125 : decode cX8_queueReady 125 = .ok (.iconst 1, 1) := by decide +kernel
theorem dX8_queueReady_126 : decode cX8_queueReady 126 = .ok (.iadd, 1) := by decide +kernel
theorem dX8_queueReady_127 : decode cX8_queueReady 127 = .ok (.iastore, 1) := by decide +kernel
theorem dX8_queueReady_128 : decode cX8_queueReady 128 = .ok (.aload_n 0, 1) := by decide +kernel
theorem dX8_queueReady_129 : decode cX8_queueReady 129 = .ok (.iload_n 2, 1) := by decide +kernel
theorem dX8_queueReady_130 : decode cX8_queueReady 130 = .ok (.invokestatic 136, 3) := by decide +kernel
theorem dX8_queueReady_133 : decode cX8_queueReady 133 = .ok (.iconst 4, 1) := by decide +kernel
end
section
theorem dX8_queueReady_134 : decode cX8_queueReady 134 = .ok (.iadd, 1) := by decide +kernel
theorem dX8_queueReady_135 : decode cX8_queueReady 135 = .ok (.iconst 2, 1) := by decide +kernel
theorem dX8_queueReady_136 : decode cX8_queueReady 136 = .ok (.iastore, 1) := by decide +kernel
theorem dX8_queueReady_137 : decode cX8_queueReady 137 = .ok (.iinc 2 1, 3) := by decide +kernel
theorem dX8_queueReady_140 : decode cX8_queueReady 140 = .ok (.goto (-88), 3) := by decide +kernel
theorem dX8_queueReady_143 : decode cX8_queueReady 143 = .ok (.iinc 1 (-1), 3) := by decide +kernel
theorem dX8_queueReady_146 : decode cX8_queueReady 146 = .ok (.goto (-100), 3) := by decide +kernel
theorem dX8_queueReady_149 : decode cX8_queueReady 149 = .ok (.return_, 1) := by decide +kernel
theorem dX8_takeOut_0 : decode cX8_takeOut 0 = .ok (.iload_n 1, 1) := by decide +kernel
theorem dX8_takeOut_1 : decode cX8_takeOut 1 = .ok (.invokestatic 41, 3) := by decide +kernel
theorem dX8_takeOut_4 : decode cX8_takeOut 4 = .ok (.istore_n 3, 1) := by decide +kernel
theorem dX8_takeOut_5 : decode cX8_takeOut 5 = .ok (.aload_n 0, 1) := by decide +kernel
theorem dX8_takeOut_6 : decode cX8_takeOut 6 = .ok (.iload_n 3, 1) := by decide +kernel
theorem dX8_takeOut_7 : decode cX8_takeOut 7 = .ok (.iconst 5, 1) := by decide +kernel
theorem dX8_takeOut_8 : decode cX8_takeOut 8 = .ok (.iadd, 1) := by decide +kernel
theorem dX8_takeOut_9 : decode cX8_takeOut 9 = .ok (.iload_n 2, 1) := by decide +kernel
theorem dX8_takeOut_10 : decode cX8_takeOut 10 = .ok (.iadd, 1) := by decide +kernel
theorem dX8_takeOut_11 : decode cX8_takeOut 11 = .ok (.iaload, 1) := by decide +kernel
theorem dX8_takeOut_12 : decode cX8_takeOut 12 = .ok (.istore 4, 2) := by decide +kernel
theorem dX8_takeOut_14 : decode cX8_takeOut 14 = .ok (.aload_n 0, 1) := by decide +kernel
theorem dX8_takeOut_15 : decode cX8_takeOut 15 = .ok (.iload_n 3, 1) := by decide +kernel
theorem dX8_takeOut_16 : decode cX8_takeOut 16 = .ok (.iconst 4, 1) := by decide +kernel
theorem dX8_takeOut_17 : decode cX8_takeOut 17 = .ok (.iadd, 1) := by decide +kernel
theorem dX8_takeOut_18 : decode cX8_takeOut 18 = .ok (.dup2, 1) := by decide +kernel
theorem dX8_takeOut_19 : decode cX8_takeOut 19 = .ok (.iaload, 1) := by decide +kernel
theorem dX8_takeOut_20 : decode cX8_takeOut 20 = .ok (.iconst 1, 1) := by decide +kernel
theorem dX8_takeOut_21 : decode cX8_takeOut 21 = .ok (.isub, 1) := by decide +kernel
theorem dX8_takeOut_22 : decode cX8_takeOut 22 = .ok (.iastore, 1) := by decide +kernel
theorem dX8_takeOut_23 : decode cX8_takeOut 23 = .ok (.iload_n 2, 1) := by decide +kernel
theorem dX8_takeOut_24 : decode cX8_takeOut 24 = .ok (.istore 5, 2) := by decide +kernel
theorem dX8_takeOut_26 : decode cX8_takeOut 26 = .ok (.iload 5, 2) := by decide +kernel
theorem dX8_takeOut_28 : decode cX8_takeOut 28 = .ok (.aload_n 0, 1) := by decide +kernel
theorem dX8_takeOut_29 : decode cX8_takeOut 29 = .ok (.iload_n 3, 1) := by decide +kernel
theorem dX8_takeOut_30 : decode cX8_takeOut 30 = .ok (.iconst 4, 1) := by decide +kernel
theorem dX8_takeOut_31 : decode cX8_takeOut 31 = .ok (.iadd, 1) := by decide +kernel
theorem dX8_takeOut_32 : decode cX8_takeOut 32 = .ok (.iaload, 1) := by decide +kernel
theorem dX8_takeOut_33 : decode cX8_takeOut 33 = .ok (.if_icmp .ge 27, 3) := by decide +kernel
theorem dX8_takeOut_36 : decode cX8_takeOut 36 = .ok (.aload_n 0, 1) := by decide +kernel
theorem dX8_takeOut_37 : decode cX8_takeOut 37 = .ok (.iload_n 3, 1) := by decide +kernel
theorem dX8_takeOut_38 : decode cX8_takeOut 38 = .ok (.iconst 5, 1) := by decide +kernel
theorem dX8_takeOut_39 : decode cX8_takeOut 39 = .ok (.iadd, 1) := by decide +kernel
theorem dX8_takeOut_40 : decode cX8_takeOut 40 = .ok (.iload 5, 2) := by decide +kernel
theorem dX8_takeOut_42 : decode cX8_takeOut 42 = .ok (.iadd, 1) := by decide +kernel
theorem dX8_takeOut_43 : decode cX8_takeOut 43 = .ok (.aload_n 0, 1) := by decide +kernel
theorem dX8_takeOut_44 : decode cX8_takeOut 44 = .ok (.iload_n 3, 1) := by decide +kernel
theorem dX8_takeOut_45 : decode cX8_takeOut 45 = .ok (.iconst 5, 1) := by decide +kernel
theorem dX8_takeOut_46 : decode cX8_takeOut 46 = .ok (.iadd, 1) := by decide +kernel
theorem dX8_takeOut_47 : decode cX8_takeOut 47 = .ok (.iload 5, 2) := by decide +kernel
theorem dX8_takeOut_49 : decode cX8_takeOut 49 = .ok (.iadd, 1) := by decide +kernel
theorem dX8_takeOut_50 : decode cX8_takeOut 50 = .ok (.iconst 1, 1) := by decide +kernel
theorem dX8_takeOut_51 : decode cX8_takeOut 51 = .ok (.iadd, 1) := by decide +kernel
theorem dX8_takeOut_52 : decode cX8_takeOut 52 = .ok (.iaload, 1) := by decide +kernel
theorem dX8_takeOut_53 : decode cX8_takeOut 53 = .ok (.iastore, 1) := by decide +kernel
theorem dX8_takeOut_54 : decode cX8_takeOut 54 = .ok (.iinc 5 1, 3) := by decide +kernel
theorem dX8_takeOut_57 : decode cX8_takeOut 57 = .ok (.goto (-31), 3) := by decide +kernel
theorem dX8_takeOut_60 : decode cX8_takeOut 60 = .ok (.iload 4, 2) := by decide +kernel
theorem dX8_takeOut_62 : decode cX8_takeOut 62 = .ok (.ireturn, 1) := by decide +kernel
theorem dX8_take_0 : decode cX8_take 0 = .ok (.iload_n 2, 1) := by decide +kernel
theorem dX8_take_1 : decode cX8_take 1 = .ok (.istore_n 3, 1) := by decide +kernel
theorem dX8_take_2 : decode cX8_take 2 = .ok (.iconst 0, 1) := by decide +kernel
theorem dX8_take_3 : decode cX8_take 3 = .ok (.istore 4, 2) := by decide +kernel
theorem dX8_take_5 : decode cX8_take 5 = .ok (.aload_n 1, 1) := by decide +kernel
theorem dX8_take_6 : decode cX8_take 6 = .ok (.iload_n 2, 1) := by decide +kernel
theorem dX8_take_7 : decode cX8_take 7 = .ok (.invokestatic 41, 3) := by decide +kernel
theorem dX8_take_10 : decode cX8_take 10 = .ok (.iconst 4, 1) := by decide +kernel
theorem dX8_take_11 : decode cX8_take 11 = .ok (.iadd, 1) := by decide +kernel
theorem dX8_take_12 : decode cX8_take 12 = .ok (.iaload, 1) := by decide +kernel
theorem dX8_take_13 : decode cX8_take 13 = .ok (.ifCond .ne 98, 3) := by decide +kernel
theorem dX8_take_16 : decode cX8_take 16 = .ok (.iconst 0, 1) := by decide +kernel
theorem dX8_take_17 : decode cX8_take 17 = .ok (.istore 5, 2) := by decide +kernel
theorem dX8_take_19 : decode cX8_take 19 = .ok (.iload 5, 2) := by decide +kernel
theorem dX8_take_21 : decode cX8_take 21 = .ok (.aload_n 1, 1) := by decide +kernel
theorem dX8_take_22 : decode cX8_take 22 = .ok (.iconst 0, 1) := by decide +kernel
theorem dX8_take_23 : decode cX8_take 23 = .ok (.iaload, 1) := by decide +kernel
theorem dX8_take_24 : decode cX8_take 24 = .ok (.if_icmp .ge 58, 3) := by decide +kernel
theorem dX8_take_27 : decode cX8_take 27 = .ok (.aload_n 1, 1) := by decide +kernel
theorem dX8_take_28 : decode cX8_take 28 = .ok (.iload 5, 2) := by decide +kernel
theorem dX8_take_30 : decode cX8_take 30 = .ok (.invokestatic 41, 3) := by decide +kernel
theorem dX8_take_33 : decode cX8_take 33 = .ok (.iconst 4, 1) := by decide +kernel
theorem dX8_take_34 : decode cX8_take 34 = .ok (.iadd, 1) := by decide +kernel
theorem dX8_take_35 : decode cX8_take 35 = .ok (.iaload, 1) := by decide +kernel
theorem dX8_take_36 : decode cX8_take 36 = .ok (.aload_n 1, 1) := by decide +kernel
theorem dX8_take_37 : decode cX8_take 37 = .ok (.iload_n 3, 1) := by decide +kernel
theorem dX8_take_38 : decode cX8_take 38 = .ok (.invokestatic 41, 3) := by decide +kernel
theorem dX8_take_41 : decode cX8_take 41 = .ok (.iconst 4, 1) := by decide +kernel
theorem dX8_take_42 : decode cX8_take 42 = .ok (.iadd, 1) := by decide +kernel
theorem dX8_take_43 : decode cX8_take 43 = .ok (.iaload, 1) := by decide +kernel
theorem dX8_take_44 : decode cX8_take 44 = .ok (.if_icmp .gt 29, 3) := by decide +kernel
theorem dX8_take_47 : decode cX8_take 47 = .ok (.iload 5, 2) := by decide +kernel
theorem dX8_take_49 : decode cX8_take 49 = .ok (.iload_n 3, 1) := by decide +kernel
theorem dX8_take_50 : decode cX8_take 50 = .ok (.if_icmp .ge 26, 3) := by decide +kernel
theorem dX8_take_53 : decode cX8_take 53 = .ok (.aload_n 1, 1) := by decide +kernel
theorem dX8_take_54 : decode cX8_take 54 = .ok (.iload 5, 2) := by decide +kernel
theorem dX8_take_56 : decode cX8_take 56 = .ok (.invokestatic 41, 3) := by decide +kernel
theorem dX8_take_59 : decode cX8_take 59 = .ok (.iconst 4, 1) := by decide +kernel
theorem dX8_take_60 : decode cX8_take 60 = .ok (.iadd, 1) := by decide +kernel
theorem dX8_take_61 : decode cX8_take 61 = .ok (.iaload, 1) := by decide +kernel
theorem dX8_take_62 : decode cX8_take 62 = .ok (.aload_n 1, 1) := by decide +kernel
theorem dX8_take_63 : decode cX8_take 63 = .ok (.iload_n 3, 1) := by decide +kernel
theorem dX8_take_64 : decode cX8_take 64 = .ok (.invokestatic 41, 3) := by decide +kernel
theorem dX8_take_67 : decode cX8_take 67 = .ok (.iconst 4, 1) := by decide +kernel
theorem dX8_take_68 : decode cX8_take 68 = .ok (.iadd, 1) := by decide +kernel
theorem dX8_take_69 : decode cX8_take 69 = .ok (.iaload, 1) := by decide +kernel
theorem dX8_take_70 : decode cX8_take 70 = .ok (.if_icmp .ne 6, 3) := by decide +kernel
theorem dX8_take_73 : decode cX8_take 73 = .ok (.iload 5, 2) := by decide +kernel
theorem dX8_take_75 : decode cX8_take 75 = .ok (.istore_n 3, 1) := by decide +kernel
theorem dX8_take_76 : decode cX8_take 76 = .ok (.iinc 5 1, 3) := by decide +kernel
theorem dX8_take_79 : decode cX8_take 79 = .ok (.goto (-60), 3) := by decide +kernel
theorem dX8_take_82 : decode cX8_take 82 = .ok (.aload_n 1, 1) := by decide +kernel
theorem dX8_take_83 : decode cX8_take 83 = .ok (.iload_n 3, 1) := by decide +kernel
theorem dX8_take_84 : decode cX8_take 84 = .ok (.invokestatic 41, 3) := by decide +kernel
theorem dX8_take_87 : decode cX8_take 87 = .ok (.iconst 4, 1) := by decide +kernel
theorem dX8_take_88 : decode cX8_take 88 = .ok (.iadd, 1) := by decide +kernel
theorem dX8_take_89 : decode cX8_take 89 = .ok (.iaload, 1) := by decide +kernel
theorem dX8_take_90 : decode cX8_take 90 = .ok (.ifCond .ne 4, 3) := by decide +kernel
theorem dX8_take_93 : decode cX8_take 93 = .ok (.return_, 1) := by decide +kernel
theorem dX8_take_94 : decode cX8_take 94 = .ok (.aload_n 1, 1) := by decide +kernel
theorem dX8_take_95 : decode cX8_take 95 = .ok (.iconst 2, 1) := by decide +kernel
theorem dX8_take_96 : decode cX8_take 96 = .ok (.iaload, 1) := by decide +kernel
theorem dX8_take_97 : decode cX8_take 97 = .ok (.istore 4, 2) := by decide +kernel
theorem dX8_take_99 : decode cX8_take 99 = .ok (.aload_n 1, 1) := by decide +kernel
theorem dX8_take_100 : decode cX8_take 100 = .ok (.iload_n 2, 1) := by decide +kernel
theorem dX8_take_101 : decode cX8_take 101 = .ok (.invokestatic 41, 3) := by decide +kernel
theorem dX8_take_104 : decode cX8_take 104 = .ok (.iconst 2, 1) := by decide +kernel
theorem dX8_take_105 : decode cX8_take 105 = .ok (.iadd, 1) := by decide +kernel
theorem dX8_take_106 : decode cX8_take 106 = .ok (.dup2, 1) := by decide +kernel
theorem dX8_take_107 : decode cX8_take 107 = .ok (.iaload, 1) := by decide +kernel
theorem dX8_take_108 : decode cX8_take 108 = .ok (.iconst 1, 1) := by decide +kernel
theorem dX8_take_109 : decode cX8_take 109 = .ok (.iadd, 1) := by decide +kernel
theorem dX8_take_110 : decode cX8_take 110 = .ok (.iastore, 1) := by decide +kernel
theorem dX8_take_111 : decode cX8_take 111 = .ok (.aload_n 1, 1) := by decide +kernel
theorem dX8_take_112 : decode cX8_take 112 = .ok (.iload_n 3, 1) := by decide +kernel
theorem dX8_take_113 : decode cX8_take 113 = .ok (.iload_n 3, 1) := by decide +kernel
theorem dX8_take_114 : decode cX8_take 114 = .ok (.iload_n 2, 1) := by decide +kernel
theorem dX8_take_115 : decode cX8_take 115 = .ok (.if_icmp .ne 7, 3) := by decide +kernel
theorem dX8_take_118 : decode cX8_take 118 = .ok (.iconst 0, 1) := by decide +kernel
theorem dX8_take_119 : decode cX8_take 119 = .ok (.goto 13, 3) := by decide +kernel
theorem dX8_take_122 : decode cX8_take 122 = .ok (.aload_n 1, 1) := by decide +kernel
theorem dX8_take_123 : decode cX8_take 123 = .ok (.iload_n 3, 1) := by decide +kernel
theorem dX8_take_124 : decode cX8_take 124 = .ok (.invokestatic 41, 3) := by decide +kernel
theorem dX8_take_127 : decode cX8_take 127 = .ok (.iconst 4, 1) := by decide +kernel
theorem dX8_take_128 : decode cX8_take 128 = .ok (.iadd, 1) := by decide +kernel
theorem dX8_take_129 : decode cX8_take 129 = .ok (.iaload, 1) := by decide +kernel
theorem dX8_take_130 : decode cX8_take 130 = .ok (.iconst 1, 1) := by decide +kernel
theorem dX8_take_131 : decode cX8_take 131 = .ok (.isub, 1) := by decide +kernel
theorem dX8_take_132 : decode cX8_take 132 = .ok (.invokestatic 210, 3) := by decide +kernel
theorem dX8_take_135 : decode cX8_take 135 = .ok (.istore 5, 2) := by decide +kernel
theorem dX8_take_137 : decode cX8_take 137 = .ok (.aload_n 1, 1) := by decide +kernel
theorem dX8_take_138 : decode cX8_take 138 = .ok (.iload_n 2, 1) := by decide +kernel
theorem dX8_take_139 : decode cX8_take 139 = .ok (.invokestatic 41, 3) := by decide +kernel
theorem dX8_take_142 : decode cX8_take 142 = .ok (.iconst 0, 1) := by decide +kernel
theorem dX8_take_143 : decode cX8_take 143 = .ok (.iadd, 1) := by decide +kernel
theorem dX8_take_144 : decode cX8_take 144 = .ok (.iload 5, 2) := by decide +kernel
theorem dX8_take_146 : decode cX8_take 146 = .ok (.iastore, 1) := by decide +kernel
theorem dX8_take_147 : decode cX8_take 147 = .ok (.aload_n 1, 1) := by decide +kernel
theorem dX8_take_148 : decode cX8_take 148 = .ok (.iload 5, 2) := by decide +kernel
theorem dX8_take_150 : decode cX8_take 150 = .ok (.invokestatic 136, 3) := by decide +kernel
theorem dX8_take_153 : decode cX8_take 153 = .ok (.iconst 4, 1) := by decide +kernel
theorem dX8_take_154 : decode cX8_take 154 = .ok (.iadd, 1) := by decide +kernel
theorem dX8_take_155 : decode cX8_take 155 = .ok (.iconst 3, 1) := by decide +kernel
theorem dX8_take_156 : decode cX8_take 156 = .ok (.iastore, 1) := by decide +kernel
theorem dX8_take_157 : decode cX8_take 157 = .ok (.aload_n 1, 1) := by decide +kernel
theorem dX8_take_158 : decode cX8_take 158 = .ok (.iload 5, 2) := by decide +kernel
theorem dX8_take_160 : decode cX8_take 160 = .ok (.invokestatic 136, 3) := by decide +kernel
theorem dX8_take_163 : decode cX8_take 163 = .ok (.bipush 6, 2) := by decide +kernel
theorem dX8_take_165 : decode cX8_take 165 = .ok (.iadd, 1) := by decide +kernel
theorem dX8_take_166 : decode cX8_take 166 = .ok (.iload_n 2, 1) := by decide +kernel
theorem dX8_take_167 : decode cX8_take 167 = .ok (.iastore, 1) := by decide +kernel
theorem dX8_take_168 : decode cX8_take 168 = .ok (.aload_n 1, 1) := by decide +kernel
theorem dX8_take_169 : decode cX8_take 169 = .ok (.iload 5, 2) := by decide +kernel
theorem dX8_take_171 : decode cX8_take 171 = .ok (.invokestatic 136, 3) := by decide +kernel
theorem dX8_take_174 : decode cX8_take 174 = .ok (.iconst 5, 1) := by decide +kernel
theorem dX8_take_175 : decode cX8_take 175 = .ok (.iadd, 1) := by decide +kernel
theorem dX8_take_176 : decode cX8_take 176 = .ok (.aload_n 0, 1) := by decide +kernel
theorem dX8_take_177 : decode cX8_take 177 = .ok (.aload_n 1, 1) := by decide +kernel
theorem dX8_take_178 : decode cX8_take 178 = .ok (.iload 5, 2) := by decide +kernel
theorem dX8_take_180 : decode cX8_take 180 = .ok (.iload_n 2, 1) := by decide +kernel
theorem dX8_take_181 : decode cX8_take 181 = .ok (.invokevirtual 214, 3) := by decide +kernel
theorem dX8_take_184 : decode cX8_take 184 = .ok (.iload 4, 2) := by decide +kernel
theorem dX8_take_186 : decode cX8_take 186 = .ok (.iadd, 1) := by decide +kernel
theorem dX8_take_187 : decode cX8_take 187 = .ok (.iastore, 1) := by decide +kernel
theorem dX8_take_188 : decode cX8_take 188 = .ok (.return_, 1) := by decide +kernel
theorem dX8_cycle_0 : decode cX8_cycle 0 = .ok (.aload_n 1, 1) := by decide +kernel
theorem dX8_cycle_1 : decode cX8_cycle 1 = .ok (.invokestatic 217, 3) := by decide +kernel
theorem dX8_cycle_4 : decode cX8_cycle 4 = .ok (.istore_n 2, 1) := by decide +kernel
theorem dX8_cycle_5 : decode cX8_cycle 5 = .ok (.aload_n 1, 1) := by decide +kernel
theorem dX8_cycle_6 : decode cX8_cycle 6 = .ok (.invokestatic 221, 3) := by decide +kernel
theorem dX8_cycle_9 : decode cX8_cycle 9 = .ok (.iconst 0, 1) := by decide +kernel
theorem dX8_cycle_10 : decode cX8_cycle 10 = .ok (.istore_n 3, 1) := by decide +kernel
theorem dX8_cycle_11 : decode cX8_cycle 11 = .ok (.iload_n 3, 1) := by decide +kernel
theorem dX8_cycle_12 : decode cX8_cycle 12 = .ok (.aload_n 1, 1) := by decide +kernel
theorem dX8_cycle_13 : decode cX8_cycle 13 = .ok (.iconst 0, 1) := by decide +kernel
theorem dX8_cycle_14 : decode cX8_cycle 14 = .ok (.iaload, 1) := by decide +kernel
theorem dX8_cycle_15 : decode cX8_cycle 15 = .ok (.if_icmp .ge 38, 3) := by decide +kernel
theorem dX8_cycle_18 : decode cX8_cycle 18 = .ok (.aload_n 1, 1) := by decide +kernel
theorem dX8_cycle_19 : decode cX8_cycle 19 = .ok (.iload_n 3, 1) := by decide +kernel
theorem dX8_cycle_20 : decode cX8_cycle 20 = .ok (.invokestatic 41, 3) := by decide +kernel
theorem dX8_cycle_23 : decode cX8_cycle 23 = .ok (.iconst 3, 1) := by decide +kernel
theorem dX8_cycle_24 : decode cX8_cycle 24 = .ok (.iadd, 1) := by decide +kernel
theorem dX8_cycle_25 : decode cX8_cycle 25 = .ok (.iaload, 1) := by decide +kernel
theorem dX8_cycle_26 : decode cX8_cycle 26 = .ok (.ifCond .ne 21, 3) := by decide +kernel
theorem dX8_cycle_29 : decode cX8_cycle 29 = .ok (.aload_n 1, 1) := by decide +kernel
theorem dX8_cycle_30 : decode cX8_cycle 30 = .ok (.iload_n 3, 1) := by decide +kernel
theorem dX8_cycle_31 : decode cX8_cycle 31 = .ok (.invokestatic 41, 3) := by decide +kernel
theorem dX8_cycle_34 : decode cX8_cycle 34 = .ok (.iconst 0, 1) := by decide +kernel
theorem dX8_cycle_35 : decode cX8_cycle 35 = .ok (.iadd, 1) := by decide +kernel
theorem dX8_cycle_36 : decode cX8_cycle 36 = .ok (.iaload, 1) := by decide +kernel
theorem dX8_cycle_37 : decode cX8_cycle 37 = .ok (.iconst (-1), 1) := by decide +kernel
theorem dX8_cycle_38 : decode cX8_cycle 38 = .ok (.if_icmp .ne 9, 3) := by decide +kernel
theorem dX8_cycle_41 : decode cX8_cycle 41 = .ok (.aload_n 0, 1) := by decide +kernel
theorem dX8_cycle_42 : decode cX8_cycle 42 = .ok (.aload_n 1, 1) := by decide +kernel
theorem dX8_cycle_43 : decode cX8_cycle 43 = .ok (.iload_n 3, 1) := by decide +kernel
theorem dX8_cycle_44 : decode cX8_cycle 44 = .ok (.invokevirtual 224, 3) := by decide +kernel
theorem dX8_cycle_47 : decode cX8_cycle 47 = .ok (.iinc 3 1, 3) := by decide +kernel
theorem dX8_cycle_50 : decode cX8_cycle 50 = .ok (.goto (-39), 3) := by decide +kernel
theorem dX8_cycle_53 : decode cX8_cycle 53 = .ok (.iconst 0, 1) := by decide +kernel
theorem dX8_cycle_54 : decode cX8_cycle 54 = .ok (.istore_n 3, 1) := by decide +kernel
theorem dX8_cycle_55 : decode cX8_cycle 55 = .ok (.iload_n 3, 1) := by decide +kernel
theorem dX8_cycle_56 : decode cX8_cycle 56 = .ok (.aload_n 1, 1) := by decide +kernel
theorem dX8_cycle_57 : decode cX8_cycle 57 = .ok (.iconst 0, 1) := by decide +kernel
theorem dX8_cycle_58 : decode cX8_cycle 58 = .ok (.iaload, 1) := by decide +kernel
theorem dX8_cycle_59 : decode cX8_cycle 59 = .ok (.if_icmp .ge 37, 3) := by decide +kernel
theorem dX8_cycle_62 : decode cX8_cycle 62 = .ok (.aload_n 1, 1) := by decide +kernel
theorem dX8_cycle_63 : decode cX8_cycle 63 = .ok (.iload_n 3, 1) := by decide +kernel
theorem dX8_cycle_64 : decode cX8_cycle 64 = .ok (.invokestatic 41, 3) := by decide +kernel
theorem dX8_cycle_67 : decode cX8_cycle 67 = .ok (.iconst 1, 1) := by decide +kernel
theorem dX8_cycle_68 : decode cX8_cycle 68 = .ok (.iadd, 1) := by decide +kernel
theorem dX8_cycle_69 : decode cX8_cycle 69 = .ok (.dup2, 1) := by decide +kernel
theorem dX8_cycle_70 : decode cX8_cycle 70 = .ok (.iaload, 1) := by decide +kernel
theorem dX8_cycle_71 : decode cX8_cycle 71 = .ok (.aload_n 1, 1) := by decide +kernel
theorem dX8_cycle_72 : decode cX8_cycle 72 = .ok (.iload_n 3, 1) := by decide +kernel
theorem dX8_cycle_73 : decode cX8_cycle 73 = .ok (.invokestatic 41, 3) := by decide +kernel
theorem dX8_cycle_76 : decode cX8_cycle 76 = .ok (.iconst 0, 1) := by decide +kernel
theorem dX8_cycle_77 : decode cX8_cycle 77 = .ok (.iadd, 1) := by decide +kernel
theorem dX8_cycle_78 : decode cX8_cycle 78 = .ok (.iaload, 1) := by decide +kernel
theorem dX8_cycle_79 : decode cX8_cycle 79 = .ok (.iconst (-1), 1) := by decide +kernel
theorem dX8_cycle_80 : decode cX8_cycle 80 = .ok (.if_icmp .ne 7, 3) := by decide +kernel
theorem dX8_cycle_83 : decode cX8_cycle 83 = .ok (.iconst 0, 1) := by decide +kernel
theorem dX8_cycle_84 : decode cX8_cycle 84 = .ok (.goto 4, 3) := by decide +kernel
theorem dX8_cycle_87 : decode cX8_cycle 87 = .ok (.iconst 1, 1) := by decide +kernel
theorem dX8_cycle_88 : decode cX8_cycle 88 = .ok (.iadd, 1) := by decide +kernel
theorem dX8_cycle_89 : decode cX8_cycle 89 = .ok (.iastore, 1) := by decide +kernel
theorem dX8_cycle_90 : decode cX8_cycle 90 = .ok (.iinc 3 1, 3) := by decide +kernel
theorem dX8_cycle_93 : decode cX8_cycle 93 = .ok (.goto (-38), 3) := by decide +kernel
theorem dX8_cycle_96 : decode cX8_cycle 96 = .ok (.aload_n 1, 1) := by decide +kernel
theorem dX8_cycle_97 : decode cX8_cycle 97 = .ok (.iconst 5, 1) := by decide +kernel
theorem dX8_cycle_98 : decode cX8_cycle 98 = .ok (.dup2, 1) := by decide +kernel
theorem dX8_cycle_99 : decode cX8_cycle 99 = .ok (.iaload, 1) := by decide +kernel
theorem dX8_cycle_100 : decode cX8_cycle 100 = .ok (.iconst 1, 1) := by decide +kernel
theorem dX8_cycle_101 : decode cX8_cycle 101 = .ok (.iadd, 1) := by decide +kernel
theorem dX8_cycle_102 : decode cX8_cycle 102 = .ok (.iastore, 1) := by decide +kernel
theorem dX8_cycle_103 : decode cX8_cycle 103 = .ok (.iload_n 2, 1) := by decide +kernel
theorem dX8_cycle_104 : decode cX8_cycle 104 = .ok (.ireturn, 1) := by decide +kernel
theorem dX8_noTask_0 : decode cX8_noTask 0 = .ok (.aload_n 0, 1) := by decide +kernel
theorem dX8_noTask_1 : decode cX8_noTask 1 = .ok (.iload_n 1, 1) := by decide +kernel
theorem dX8_noTask_2 : decode cX8_noTask 2 = .ok (.iconst 0, 1) := by decide +kernel
theorem dX8_noTask_3 : decode cX8_noTask 3 = .ok (.aload_n 0, 1) := by decide +kernel
theorem dX8_noTask_4 : decode cX8_noTask 4 = .ok (.getfield 17, 3) := by decide +kernel
theorem dX8_noTask_7 : decode cX8_noTask 7 = .ok (.iconst 3, 1) := by decide +kernel
theorem dX8_noTask_8 : decode cX8_noTask 8 = .ok (.iaload, 1) := by decide +kernel
theorem dX8_noTask_9 : decode cX8_noTask 9 = .ok (.iconst 1, 1) := by decide +kernel
theorem dX8_noTask_10 : decode cX8_noTask 10 = .ok (.isub, 1) := by decide +kernel
theorem dX8_noTask_11 : decode cX8_noTask 11 = .ok (.invokestatic 63, 3) := by decide +kernel
theorem dX8_noTask_14 : decode cX8_noTask 14 = .ok (.ifCond .ne 7, 3) := by decide +kernel
theorem dX8_noTask_17 : decode cX8_noTask 17 = .ok (.iconst 1, 1) := by decide +kernel
theorem dX8_noTask_18 : decode cX8_noTask 18 = .ok (.goto 4, 3) := by decide +kernel
theorem dX8_noTask_21 : decode cX8_noTask 21 = .ok (.iconst 0, 1) := by decide +kernel
theorem dX8_noTask_22 : decode cX8_noTask 22 = .ok (.iconst 1, 1) := by decide +kernel
theorem dX8_noTask_23 : decode cX8_noTask 23 = .ok (.invokevirtual 162, 3) := by decide +kernel
theorem dX8_noTask_26 : decode cX8_noTask 26 = .ok (.ireturn, 1) := by decide +kernel
theorem dX8_noCore_0 : decode cX8_noCore 0 = .ok (.aload_n 0, 1) := by decide +kernel
theorem dX8_noCore_1 : decode cX8_noCore 1 = .ok (.iload_n 1, 1) := by decide +kernel
theorem dX8_noCore_2 : decode cX8_noCore 2 = .ok (.iconst 0, 1) := by decide +kernel
theorem dX8_noCore_3 : decode cX8_noCore 3 = .ok (.aload_n 0, 1) := by decide +kernel
theorem dX8_noCore_4 : decode cX8_noCore 4 = .ok (.getfield 17, 3) := by decide +kernel
theorem dX8_noCore_7 : decode cX8_noCore 7 = .ok (.iconst 0, 1) := by decide +kernel
theorem dX8_noCore_8 : decode cX8_noCore 8 = .ok (.iaload, 1) := by decide +kernel
theorem dX8_noCore_9 : decode cX8_noCore 9 = .ok (.iconst 1, 1) := by decide +kernel
theorem dX8_noCore_10 : decode cX8_noCore 10 = .ok (.isub, 1) := by decide +kernel
theorem dX8_noCore_11 : decode cX8_noCore 11 = .ok (.invokestatic 63, 3) := by decide +kernel
theorem dX8_noCore_14 : decode cX8_noCore 14 = .ok (.ifCond .ne 7, 3) := by decide +kernel
theorem dX8_noCore_17 : decode cX8_noCore 17 = .ok (.iconst 1, 1) := by decide +kernel
theorem dX8_noCore_18 : decode cX8_noCore 18 = .ok (.goto 4, 3) := by decide +kernel
theorem dX8_noCore_21 : decode cX8_noCore 21 = .ok (.iconst 0, 1) := by decide +kernel
theorem dX8_noCore_22 : decode cX8_noCore 22 = .ok (.iconst 1, 1) := by decide +kernel
theorem dX8_noCore_23 : decode cX8_noCore 23 = .ok (.invokevirtual 162, 3) := by decide +kernel
theorem dX8_noCore_26 : decode cX8_noCore 26 = .ok (.ireturn, 1) := by decide +kernel
theorem dX8_coreCount_0 : decode cX8_coreCount 0 = .ok (.aload_n 0, 1) := by decide +kernel
theorem dX8_coreCount_1 : decode cX8_coreCount 1 = .ok (.iconst 0, 1) := by decide +kernel
theorem dX8_coreCount_2 : decode cX8_coreCount 2 = .ok (.putfield 38, 3) := by decide +kernel
theorem dX8_coreCount_5 : decode cX8_coreCount 5 = .ok (.aload_n 0, 1) := by decide +kernel
theorem dX8_coreCount_6 : decode cX8_coreCount 6 = .ok (.getfield 17, 3) := by decide +kernel
theorem dX8_coreCount_9 : decode cX8_coreCount 9 = .ok (.iconst 0, 1) := by decide +kernel
theorem dX8_coreCount_10 : decode cX8_coreCount 10 = .ok (.iaload, 1) := by decide +kernel
theorem dX8_coreCount_11 : decode cX8_coreCount 11 = .ok (.ireturn, 1) := by decide +kernel
theorem dX8_taskCount_0 : decode cX8_taskCount 0 = .ok (.aload_n 0, 1) := by decide +kernel
theorem dX8_taskCount_1 : decode cX8_taskCount 1 = .ok (.iconst 0, 1) := by decide +kernel
theorem dX8_taskCount_2 : decode cX8_taskCount 2 = .ok (.putfield 38, 3) := by decide +kernel
theorem dX8_taskCount_5 : decode cX8_taskCount 5 = .ok (.aload_n 0, 1) := by decide +kernel
theorem dX8_taskCount_6 : decode cX8_taskCount 6 = .ok (.getfield 17, 3) := by decide +kernel
theorem dX8_taskCount_9 : decode cX8_taskCount 9 = .ok (.iconst 3, 1) := by decide +kernel
theorem dX8_taskCount_10 : decode cX8_taskCount 10 = .ok (.iaload, 1) := by decide +kernel
theorem dX8_taskCount_11 : decode cX8_taskCount 11 = .ok (.ireturn, 1) := by decide +kernel
theorem dX8_fenceCount_0 : decode cX8_fenceCount 0 = .ok (.aload_n 0, 1) := by decide +kernel
theorem dX8_fenceCount_1 : decode cX8_fenceCount 1 = .ok (.iconst 0, 1) := by decide +kernel
theorem dX8_fenceCount_2 : decode cX8_fenceCount 2 = .ok (.putfield 38, 3) := by decide +kernel
theorem dX8_fenceCount_5 : decode cX8_fenceCount 5 = .ok (.aload_n 0, 1) := by decide +kernel
theorem dX8_fenceCount_6 : decode cX8_fenceCount 6 = .ok (.getfield 17, 3) := by decide +kernel
theorem dX8_fenceCount_9 : decode cX8_fenceCount 9 = .ok (.iconst 4, 1) := by decide +kernel
theorem dX8_fenceCount_10 : decode cX8_fenceCount 10 = .ok (.iaload, 1) := by decide +kernel
theorem dX8_fenceCount_11 : decode cX8_fenceCount 11 = .ok (.ireturn, 1) := by decide +kernel
theorem dX8_clock_0 : decode cX8_clock 0 = .ok (.aload_n 0, 1) := by decide +kernel
theorem dX8_clock_1 : decode cX8_clock 1 = .ok (.iconst 0, 1) := by decide +kernel
theorem dX8_clock_2 : decode cX8_clock 2 = .ok (.putfield 38, 3) := by decide +kernel
theorem dX8_clock_5 : decode cX8_clock 5 = .ok (.aload_n 0, 1) := by decide +kernel
theorem dX8_clock_6 : decode cX8_clock 6 = .ok (.getfield 17, 3) := by decide +kernel
theorem dX8_clock_9 : decode cX8_clock 9 = .ok (.iconst 5, 1) := by decide +kernel
theorem dX8_clock_10 : decode cX8_clock 10 = .ok (.iaload, 1) := by decide +kernel
theorem dX8_clock_11 : decode cX8_clock 11 = .ok (.ireturn, 1) := by decide +kernel
theorem dX8_state_0 : decode cX8_state 0 = .ok (.aload_n 0, 1) := by decide +kernel
theorem dX8_state_1 : decode cX8_state 1 = .ok (.iconst 0, 1) := by decide +kernel
theorem dX8_state_2 : decode cX8_state 2 = .ok (.putfield 38, 3) := by decide +kernel
theorem dX8_state_5 : decode cX8_state 5 = .ok (.aload_n 0, 1) := by decide +kernel
theorem dX8_state_6 : decode cX8_state 6 = .ok (.iload_n 1, 1) := by decide +kernel
theorem dX8_state_7 : decode cX8_state 7 = .ok (.invokevirtual 227, 3) := by decide +kernel
theorem dX8_state_10 : decode cX8_state 10 = .ok (.ifCond .eq 7, 3) := by decide +kernel
theorem dX8_state_13 : decode cX8_state 13 = .ok (.iconst 0, 1) := by decide +kernel
theorem dX8_state_14 : decode cX8_state 14 = .ok (.goto 14, 3) := by decide +kernel
theorem dX8_state_17 : decode cX8_state 17 = .ok (.aload_n 0, 1) := by decide +kernel
theorem dX8_state_18 : decode cX8_state 18 = .ok (.getfield 17, 3) := by decide +kernel
theorem dX8_state_21 : decode cX8_state 21 = .ok (.iload_n 1, 1) := by decide +kernel
theorem dX8_state_22 : decode cX8_state 22 = .ok (.invokestatic 136, 3) := by decide +kernel
theorem dX8_state_25 : decode cX8_state 25 = .ok (.iconst 4, 1) := by decide +kernel
theorem dX8_state_26 : decode cX8_state 26 = .ok (.iadd, 1) := by decide +kernel
theorem dX8_state_27 : decode cX8_state 27 = .ok (.iaload, 1) := by decide +kernel
theorem dX8_state_28 : decode cX8_state 28 = .ok (.ireturn, 1) := by decide +kernel
theorem dX8_counter_0 : decode cX8_counter 0 = .ok (.aload_n 0, 1) := by decide +kernel
theorem dX8_counter_1 : decode cX8_counter 1 = .ok (.iconst 0, 1) := by decide +kernel
theorem dX8_counter_2 : decode cX8_counter 2 = .ok (.putfield 38, 3) := by decide +kernel
theorem dX8_counter_5 : decode cX8_counter 5 = .ok (.aload_n 0, 1) := by decide +kernel
theorem dX8_counter_6 : decode cX8_counter 6 = .ok (.iload_n 1, 1) := by decide +kernel
theorem dX8_counter_7 : decode cX8_counter 7 = .ok (.invokevirtual 227, 3) := by decide +kernel
theorem dX8_counter_10 : decode cX8_counter 10 = .ok (.ifCond .eq 7, 3) := by decide +kernel
theorem dX8_counter_13 : decode cX8_counter 13 = .ok (.iconst 0, 1) := by decide +kernel
theorem dX8_counter_14 : decode cX8_counter 14 = .ok (.goto 11, 3) := by decide +kernel
theorem dX8_counter_17 : decode cX8_counter 17 = .ok (.aload_n 0, 1) := by decide +kernel
theorem dX8_counter_18 : decode cX8_counter 18 = .ok (.getfield 17, 3) := by decide +kernel
theorem dX8_counter_21 : decode cX8_counter 21 = .ok (.iload_n 1, 1) := by decide +kernel
theorem dX8_counter_22 : decode cX8_counter 22 = .ok (.invokestatic 203, 3) := by decide +kernel
theorem dX8_counter_25 : decode cX8_counter 25 = .ok (.ireturn, 1) := by decide +kernel
theorem dX8_priority_0 : decode cX8_priority 0 = .ok (.aload_n 0, 1) := by decide +kernel
theorem dX8_priority_1 : decode cX8_priority 1 = .ok (.iconst 0, 1) := by decide +kernel
theorem dX8_priority_2 : decode cX8_priority 2 = .ok (.putfield 38, 3) := by decide +kernel
theorem dX8_priority_5 : decode cX8_priority 5 = .ok (.aload_n 0, 1) := by decide +kernel
theorem dX8_priority_6 : decode cX8_priority 6 = .ok (.iload_n 1, 1) := by decide +kernel
theorem dX8_priority_7 : decode cX8_priority 7 = .ok (.invokevirtual 227, 3) := by decide +kernel
theorem dX8_priority_10 : decode cX8_priority 10 = .ok (.ifCond .eq 7, 3) := by decide +kernel
theorem dX8_priority_13 : decode cX8_priority 13 = .ok (.iconst 0, 1) := by decide +kernel
theorem dX8_priority_14 : decode cX8_priority 14 = .ok (.goto 14, 3) := by decide +kernel
theorem dX8_priority_17 : decode cX8_priority 17 = .ok (.aload_n 0, 1) := by decide +kernel
theorem dX8_priority_18 : decode cX8_priority 18 = .ok (.getfield 17, 3) := by decide +kernel
theorem dX8_priority_21 : decode cX8_priority 21 = .ok (.iload_n 1, 1) := by decide +kernel
theorem dX8_priority_22 : decode cX8_priority 22 = .ok (.invokestatic 136, 3) := by decide +kernel
theorem dX8_priority_25 : decode cX8_priority 25 = .ok (.iconst 1, 1) := by decide +kernel
theorem dX8_priority_26 : decode cX8_priority 26 = .ok (.iadd, 1) := by decide +kernel
theorem dX8_priority_27 : decode cX8_priority 27 = .ok (.iaload, 1) := by decide +kernel
theorem dX8_priority_28 : decode cX8_priority 28 = .ok (.ireturn, 1) := by decide +kernel
theorem dX8_coreOf_0 : decode cX8_coreOf 0 = .ok (.aload_n 0, 1) := by decide +kernel
theorem dX8_coreOf_1 : decode cX8_coreOf 1 = .ok (.iconst 0, 1) := by decide +kernel
theorem dX8_coreOf_2 : decode cX8_coreOf 2 = .ok (.putfield 38, 3) := by decide +kernel
theorem dX8_coreOf_5 : decode cX8_coreOf 5 = .ok (.aload_n 0, 1) := by decide +kernel
theorem dX8_coreOf_6 : decode cX8_coreOf 6 = .ok (.iload_n 1, 1) := by decide +kernel
theorem dX8_coreOf_7 : decode cX8_coreOf 7 = .ok (.invokevirtual 227, 3) := by decide +kernel
theorem dX8_coreOf_10 : decode cX8_coreOf 10 = .ok (.ifCond .eq 7, 3) := by decide +kernel
theorem dX8_coreOf_13 : decode cX8_coreOf 13 = .ok (.iconst 0, 1) := by decide +kernel
theorem dX8_coreOf_14 : decode cX8_coreOf 14 = .ok (.goto 15, 3) := by decide +kernel
theorem dX8_coreOf_17 : decode cX8_coreOf 17 = .ok (.aload_n 0, 1) := by decide +kernel
theorem dX8_coreOf_18 : decode cX8_coreOf 18 = .ok (.getfield 17, 3) := by decide +kernel
theorem dX8_coreOf_21 : decode cX8_coreOf 21 = .ok (.iload_n 1, 1) := by decide +kernel
theorem dX8_coreOf_22 : decode cX8_coreOf 22 = .ok (.invokestatic 136, 3) := by decide +kernel
theorem dX8_coreOf_25 : decode cX8_coreOf 25 = .ok (.bipush 6, 2) := by decide +kernel
theorem dX8_coreOf_27 : decode cX8_coreOf 27 = .ok (.iadd, 1) := by decide +kernel
theorem dX8_coreOf_28 : decode cX8_coreOf 28 = .ok (.iaload, 1) := by decide +kernel
theorem dX8_coreOf_29 : decode cX8_coreOf 29 = .ok (.ireturn, 1) := by decide +kernel
theorem dX8_doneAt_0 : decode cX8_doneAt 0 = .ok (.aload_n 0, 1) := by decide +kernel
theorem dX8_doneAt_1 : decode cX8_doneAt 1 = .ok (.iconst 0, 1) := by decide +kernel
theorem dX8_doneAt_2 : decode cX8_doneAt 2 = .ok (.putfield 38, 3) := by decide +kernel
theorem dX8_doneAt_5 : decode cX8_doneAt 5 = .ok (.aload_n 0, 1) := by decide +kernel
theorem dX8_doneAt_6 : decode cX8_doneAt 6 = .ok (.iload_n 1, 1) := by decide +kernel
theorem dX8_doneAt_7 : decode cX8_doneAt 7 = .ok (.invokevirtual 227, 3) := by decide +kernel
theorem dX8_doneAt_10 : decode cX8_doneAt 10 = .ok (.ifCond .eq 7, 3) := by decide +kernel
theorem dX8_doneAt_13 : decode cX8_doneAt 13 = .ok (.iconst 0, 1) := by decide +kernel
theorem dX8_doneAt_14 : decode cX8_doneAt 14 = .ok (.goto 15, 3) := by decide +kernel
theorem dX8_doneAt_17 : decode cX8_doneAt 17 = .ok (.aload_n 0, 1) := by decide +kernel
theorem dX8_doneAt_18 : decode cX8_doneAt 18 = .ok (.getfield 17, 3) := by decide +kernel
theorem dX8_doneAt_21 : decode cX8_doneAt 21 = .ok (.iload_n 1, 1) := by decide +kernel
theorem dX8_doneAt_22 : decode cX8_doneAt 22 = .ok (.invokestatic 136, 3) := by decide +kernel
theorem dX8_doneAt_25 : decode cX8_doneAt 25 = .ok (.bipush 7, 2) := by decide +kernel
theorem dX8_doneAt_27 : decode cX8_doneAt 27 = .ok (.iadd, 1) := by decide +kernel
theorem dX8_doneAt_28 : decode cX8_doneAt 28 = .ok (.iaload, 1) := by decide +kernel
theorem dX8_doneAt_29 : decode cX8_doneAt 29 = .ok (.ireturn, 1) := by decide +kernel
theorem dX8_isOpen_0 : decode cX8_isOpen 0 = .ok (.aload_n 0, 1) := by decide +kernel
theorem dX8_isOpen_1 : decode cX8_isOpen 1 = .ok (.iconst 0, 1) := by decide +kernel
theorem dX8_isOpen_2 : decode cX8_isOpen 2 = .ok (.putfield 38, 3) := by decide +kernel
theorem dX8_isOpen_5 : decode cX8_isOpen 5 = .ok (.aload_n 0, 1) := by decide +kernel
theorem dX8_isOpen_6 : decode cX8_isOpen 6 = .ok (.iload_n 1, 1) := by decide +kernel
theorem dX8_isOpen_7 : decode cX8_isOpen 7 = .ok (.iconst 0, 1) := by decide +kernel
theorem dX8_isOpen_8 : decode cX8_isOpen 8 = .ok (.aload_n 0, 1) := by decide +kernel
theorem dX8_isOpen_9 : decode cX8_isOpen 9 = .ok (.getfield 17, 3) := by decide +kernel
theorem dX8_isOpen_12 : decode cX8_isOpen 12 = .ok (.iconst 4, 1) := by decide +kernel
theorem dX8_isOpen_13 : decode cX8_isOpen 13 = .ok (.iaload, 1) := by decide +kernel
theorem dX8_isOpen_14 : decode cX8_isOpen 14 = .ok (.iconst 1, 1) := by decide +kernel
theorem dX8_isOpen_15 : decode cX8_isOpen 15 = .ok (.isub, 1) := by decide +kernel
theorem dX8_isOpen_16 : decode cX8_isOpen 16 = .ok (.invokestatic 63, 3) := by decide +kernel
theorem dX8_isOpen_19 : decode cX8_isOpen 19 = .ok (.ifCond .ne 7, 3) := by decide +kernel
theorem dX8_isOpen_22 : decode cX8_isOpen 22 = .ok (.iconst 1, 1) := by decide +kernel
theorem dX8_isOpen_23 : decode cX8_isOpen 23 = .ok (.goto 4, 3) := by decide +kernel
theorem dX8_isOpen_26 : decode cX8_isOpen 26 = .ok (.iconst 0, 1) := by decide +kernel
theorem dX8_isOpen_27 : decode cX8_isOpen 27 = .ok (.iconst 1, 1) := by decide +kernel
theorem dX8_isOpen_28 : decode cX8_isOpen 28 = .ok (.invokevirtual 162, 3) := by decide +kernel
theorem dX8_isOpen_31 : decode cX8_isOpen 31 = .ok (.ifCond .ne 18, 3) := by decide +kernel
theorem dX8_isOpen_34 : decode cX8_isOpen 34 = .ok (.aload_n 0, 1) := by decide +kernel
theorem dX8_isOpen_35 : decode cX8_isOpen 35 = .ok (.getfield 17, 3) := by decide +kernel
theorem dX8_isOpen_38 : decode cX8_isOpen 38 = .ok (.iload_n 1, 1) := by decide +kernel
theorem dX8_isOpen_39 : decode cX8_isOpen 39 = .ok (.invokestatic 200, 3) := by decide +kernel
theorem dX8_isOpen_42 : decode cX8_isOpen 42 = .ok (.ifCond .eq 7, 3) := by decide +kernel
theorem dX8_isOpen_45 : decode cX8_isOpen 45 = .ok (.iconst 1, 1) := by decide +kernel
theorem dX8_isOpen_46 : decode cX8_isOpen 46 = .ok (.goto 4, 3) := by decide +kernel
theorem dX8_isOpen_49 : decode cX8_isOpen 49 = .ok (.iconst 0, 1) := by decide +kernel
theorem dX8_isOpen_50 : decode cX8_isOpen 50 = .ok (.ireturn, 1) := by decide +kernel
theorem dX8_queueLength_0 : decode cX8_queueLength 0 = .ok (.aload_n 0, 1) := by decide +kernel
theorem dX8_queueLength_1 : decode cX8_queueLength 1 = .ok (.iconst 0, 1) := by decide +kernel
theorem dX8_queueLength_2 : decode cX8_queueLength 2 = .ok (.putfield 38, 3) := by decide +kernel
theorem dX8_queueLength_5 : decode cX8_queueLength 5 = .ok (.aload_n 0, 1) := by decide +kernel
theorem dX8_queueLength_6 : decode cX8_queueLength 6 = .ok (.iload_n 1, 1) := by decide +kernel
theorem dX8_queueLength_7 : decode cX8_queueLength 7 = .ok (.invokevirtual 230, 3) := by decide +kernel
theorem dX8_queueLength_10 : decode cX8_queueLength 10 = .ok (.ifCond .eq 7, 3) := by decide +kernel
theorem dX8_queueLength_13 : decode cX8_queueLength 13 = .ok (.iconst 0, 1) := by decide +kernel
theorem dX8_queueLength_14 : decode cX8_queueLength 14 = .ok (.goto 14, 3) := by decide +kernel
theorem dX8_queueLength_17 : decode cX8_queueLength 17 = .ok (.aload_n 0, 1) := by decide +kernel
theorem dX8_queueLength_18 : decode cX8_queueLength 18 = .ok (.getfield 17, 3) := by decide +kernel
theorem dX8_queueLength_21 : decode cX8_queueLength 21 = .ok (.iload_n 1, 1) := by decide +kernel
theorem dX8_queueLength_22 : decode cX8_queueLength 22 = .ok (.invokestatic 41, 3) := by decide +kernel
theorem dX8_queueLength_25 : decode cX8_queueLength 25 = .ok (.iconst 4, 1) := by decide +kernel
theorem dX8_queueLength_26 : decode cX8_queueLength 26 = .ok (.iadd, 1) := by decide +kernel
theorem dX8_queueLength_27 : decode cX8_queueLength 27 = .ok (.iaload, 1) := by decide +kernel
theorem dX8_queueLength_28 : decode cX8_queueLength 28 = .ok (.ireturn, 1) := by decide +kernel
theorem dX8_queued_0 : decode cX8_queued 0 = .ok (.aload_n 0, 1) := by decide +kernel
theorem dX8_queued_1 : decode cX8_queued 1 = .ok (.iconst 0, 1) := by decide +kernel
theorem dX8_queued_2 : decode cX8_queued 2 = .ok (.putfield 38, 3) := by decide +kernel
theorem dX8_queued_5 : decode cX8_queued 5 = .ok (.aload_n 0, 1) := by decide +kernel
theorem dX8_queued_6 : decode cX8_queued 6 = .ok (.iload_n 1, 1) := by decide +kernel
theorem dX8_queued_7 : decode cX8_queued 7 = .ok (.invokevirtual 230, 3) := by decide +kernel
theorem dX8_queued_10 : decode cX8_queued 10 = .ok (.ifCond .ne 37, 3) := by decide +kernel
theorem dX8_queued_13 : decode cX8_queued 13 = .ok (.aload_n 0, 1) := by decide +kernel
theorem dX8_queued_14 : decode cX8_queued 14 = .ok (.iload_n 2, 1) := by decide +kernel
theorem dX8_queued_15 : decode cX8_queued 15 = .ok (.iconst 0, 1) := by decide +kernel
theorem dX8_queued_16 : decode cX8_queued 16 = .ok (.aload_n 0, 1) := by decide +kernel
theorem dX8_queued_17 : decode cX8_queued 17 = .ok (.getfield 17, 3) := by decide +kernel
theorem dX8_queued_20 : decode cX8_queued 20 = .ok (.iload_n 1, 1) := by decide +kernel
theorem dX8_queued_21 : decode cX8_queued 21 = .ok (.invokestatic 41, 3) := by decide +kernel
theorem dX8_queued_24 : decode cX8_queued 24 = .ok (.iconst 4, 1) := by decide +kernel
theorem dX8_queued_25 : decode cX8_queued 25 = .ok (.iadd, 1) := by decide +kernel
theorem dX8_queued_26 : decode cX8_queued 26 = .ok (.iaload, 1) := by decide +kernel
theorem dX8_queued_27 : decode cX8_queued 27 = .ok (.iconst 1, 1) := by decide +kernel
theorem dX8_queued_28 : decode cX8_queued 28 = .ok (.isub, 1) := by decide +kernel
theorem dX8_queued_29 : decode cX8_queued 29 = .ok (.invokestatic 63, 3) := by decide +kernel
theorem dX8_queued_32 : decode cX8_queued 32 = .ok (.ifCond .ne 7, 3) := by decide +kernel
theorem dX8_queued_35 : decode cX8_queued 35 = .ok (.iconst 1, 1) := by decide +kernel
theorem dX8_queued_36 : decode cX8_queued 36 = .ok (.goto 4, 3) := by decide +kernel
theorem dX8_queued_39 : decode cX8_queued 39 = .ok (.iconst 0, 1) := by decide +kernel
theorem dX8_queued_40 : decode cX8_queued 40 = .ok (.iconst 1, 1) := by decide +kernel
theorem dX8_queued_41 : decode cX8_queued 41 = .ok (.invokevirtual 162, 3) := by decide +kernel
theorem dX8_queued_44 : decode cX8_queued 44 = .ok (.ifCond .eq 7, 3) := by decide +kernel
theorem dX8_queued_47 : decode cX8_queued 47 = .ok (.iconst 0, 1) := by decide +kernel
theorem dX8_queued_48 : decode cX8_queued 48 = .ok (.goto 16, 3) := by decide +kernel
theorem dX8_queued_51 : decode cX8_queued 51 = .ok (.aload_n 0, 1) := by decide +kernel
theorem dX8_queued_52 : decode cX8_queued 52 = .ok (.getfield 17, 3) := by decide +kernel
theorem dX8_queued_55 : decode cX8_queued 55 = .ok (.iload_n 1, 1) := by decide +kernel
theorem dX8_queued_56 : decode cX8_queued 56 = .ok (.invokestatic 41, 3) := by decide +kernel
theorem dX8_queued_59 : decode cX8_queued 59 = .ok (.iconst 5, 1) := by decide +kernel
theorem dX8_queued_60 : decode cX8_queued 60 = .ok (.iadd, 1) := by decide +kernel
theorem dX8_queued_61 : decode cX8_queued 61 = .ok (.iload_n 2, 1) := by decide +kernel
theorem dX8_queued_62 : decode cX8_queued 62 = .ok (.iadd, 1) := by decide +kernel
theorem dX8_queued_63 : decode cX8_queued 63 = .ok (.iaload, 1) := by decide +kernel
theorem dX8_queued_64 : decode cX8_queued 64 = .ok (.ireturn, 1) := by decide +kernel
theorem dX8_running_0 : decode cX8_running 0 = .ok (.aload_n 0, 1) := by decide +kernel
theorem dX8_running_1 : decode cX8_running 1 = .ok (.iconst 0, 1) := by decide +kernel
theorem dX8_running_2 : decode cX8_running 2 = .ok (.putfield 38, 3) := by decide +kernel
theorem dX8_running_5 : decode cX8_running 5 = .ok (.aload_n 0, 1) := by decide +kernel
theorem dX8_running_6 : decode cX8_running 6 = .ok (.iload_n 1, 1) := by decide +kernel
theorem dX8_running_7 : decode cX8_running 7 = .ok (.invokevirtual 230, 3) := by decide +kernel
theorem dX8_running_10 : decode cX8_running 10 = .ok (.ifCond .eq 7, 3) := by decide +kernel
theorem dX8_running_13 : decode cX8_running 13 = .ok (.iconst 0, 1) := by decide +kernel
theorem dX8_running_14 : decode cX8_running 14 = .ok (.goto 14, 3) := by decide +kernel
theorem dX8_running_17 : decode cX8_running 17 = .ok (.aload_n 0, 1) := by decide +kernel
theorem dX8_running_18 : decode cX8_running 18 = .ok (.getfield 17, 3) := by decide +kernel
theorem dX8_running_21 : decode cX8_running 21 = .ok (.iload_n 1, 1) := by decide +kernel
theorem dX8_running_22 : decode cX8_running 22 = .ok (.invokestatic 41, 3) := by decide +kernel
theorem dX8_running_25 : decode cX8_running 25 = .ok (.iconst 0, 1) := by decide +kernel
theorem dX8_running_26 : decode cX8_running 26 = .ok (.iadd, 1) := by decide +kernel
theorem dX8_running_27 : decode cX8_running 27 = .ok (.iaload, 1) := by decide +kernel
theorem dX8_running_28 : decode cX8_running 28 = .ok (.ireturn, 1) := by decide +kernel
theorem dX8_remainingOf_0 : decode cX8_remainingOf 0 = .ok (.aload_n 0, 1) := by decide +kernel
theorem dX8_remainingOf_1 : decode cX8_remainingOf 1 = .ok (.getfield 17, 3) := by decide +kernel
theorem dX8_remainingOf_4 : decode cX8_remainingOf 4 = .ok (.iload_n 1, 1) := by decide +kernel
theorem dX8_remainingOf_5 : decode cX8_remainingOf 5 = .ok (.invokestatic 41, 3) := by decide +kernel
theorem dX8_remainingOf_8 : decode cX8_remainingOf 8 = .ok (.iconst 0, 1) := by decide +kernel
theorem dX8_remainingOf_9 : decode cX8_remainingOf 9 = .ok (.iadd, 1) := by decide +kernel
theorem dX8_remainingOf_10 : decode cX8_remainingOf 10 = .ok (.iaload, 1) := by decide +kernel
theorem dX8_remainingOf_11 : decode cX8_remainingOf 11 = .ok (.iconst (-1), 1) := by decide +kernel
theorem dX8_remainingOf_12 : decode cX8_remainingOf 12 = .ok (.if_icmp .ne 7, 3) := by decide +kernel
theorem dX8_remainingOf_15 : decode cX8_remainingOf 15 = .ok (.iconst 0, 1) := by decide +kernel
theorem dX8_remainingOf_16 : decode cX8_remainingOf 16 = .ok (.goto 24, 3) := by decide +kernel
theorem dX8_remainingOf_19 : decode cX8_remainingOf 19 = .ok (.aload_n 0, 1) := by decide +kernel
theorem dX8_remainingOf_20 : decode cX8_remainingOf 20 = .ok (.getfield 17, 3) := by decide +kernel
theorem dX8_remainingOf_23 : decode cX8_remainingOf 23 = .ok (.aload_n 0, 1) := by decide +kernel
theorem dX8_remainingOf_24 : decode cX8_remainingOf 24 = .ok (.getfield 17, 3) := by decide +kernel
theorem dX8_remainingOf_27 : decode cX8_remainingOf 27 = .ok (.iload_n 1, 1) := by decide +kernel
theorem dX8_remainingOf_28 : decode cX8_remainingOf 28 = .ok (.invokestatic 41, 3) := by decide +kernel
theorem dX8_remainingOf_31 : decode cX8_remainingOf 31 = .ok (.iconst 0, 1) := by decide +kernel
theorem dX8_remainingOf_32 : decode cX8_remainingOf 32 = .ok (.iadd, 1) := by decide +kernel
theorem dX8_remainingOf_33 : decode cX8_remainingOf 33 = .ok (.iaload, 1) := by decide +kernel
theorem dX8_remainingOf_34 : decode cX8_remainingOf 34 = .ok (.invokestatic 136, 3) := by decide +kernel
theorem dX8_remainingOf_37 : decode cX8_remainingOf 37 = .ok (.iconst 5, 1) := by decide +kernel
theorem dX8_remainingOf_38 : decode cX8_remainingOf 38 = .ok (.iadd, 1) := by decide +kernel
theorem dX8_remainingOf_39 : decode cX8_remainingOf 39 = .ok (.iaload, 1) := by decide +kernel
theorem dX8_remainingOf_40 : decode cX8_remainingOf 40 = .ok (.ireturn, 1) := by decide +kernel
theorem dX8_remaining_0 : decode cX8_remaining 0 = .ok (.aload_n 0, 1) := by decide +kernel
theorem dX8_remaining_1 : decode cX8_remaining 1 = .ok (.iconst 0, 1) := by decide +kernel
theorem dX8_remaining_2 : decode cX8_remaining 2 = .ok (.putfield 38, 3) := by decide +kernel
theorem dX8_remaining_5 : decode cX8_remaining 5 = .ok (.aload_n 0, 1) := by decide +kernel
theorem dX8_remaining_6 : decode cX8_remaining 6 = .ok (.iload_n 1, 1) := by decide +kernel
theorem dX8_remaining_7 : decode cX8_remaining 7 = .ok (.invokevirtual 230, 3) := by decide +kernel
theorem dX8_remaining_10 : decode cX8_remaining 10 = .ok (.ifCond .eq 7, 3) := by decide +kernel
theorem dX8_remaining_13 : decode cX8_remaining 13 = .ok (.iconst 0, 1) := by decide +kernel
theorem dX8_remaining_14 : decode cX8_remaining 14 = .ok (.goto 8, 3) := by decide +kernel
theorem dX8_remaining_17 : decode cX8_remaining 17 = .ok (.aload_n 0, 1) := by decide +kernel
theorem dX8_remaining_18 : decode cX8_remaining 18 = .ok (.iload_n 1, 1) := by decide +kernel
theorem dX8_remaining_19 : decode cX8_remaining 19 = .ok (.invokevirtual 233, 3) := by decide +kernel
theorem dX8_remaining_22 : decode cX8_remaining 22 = .ok (.ireturn, 1) := by decide +kernel
theorem dX8_busy_0 : decode cX8_busy 0 = .ok (.aload_n 0, 1) := by decide +kernel
theorem dX8_busy_1 : decode cX8_busy 1 = .ok (.iconst 0, 1) := by decide +kernel
theorem dX8_busy_2 : decode cX8_busy 2 = .ok (.putfield 38, 3) := by decide +kernel
theorem dX8_busy_5 : decode cX8_busy 5 = .ok (.aload_n 0, 1) := by decide +kernel
theorem dX8_busy_6 : decode cX8_busy 6 = .ok (.iload_n 1, 1) := by decide +kernel
theorem dX8_busy_7 : decode cX8_busy 7 = .ok (.invokevirtual 230, 3) := by decide +kernel
theorem dX8_busy_10 : decode cX8_busy 10 = .ok (.ifCond .eq 7, 3) := by decide +kernel
theorem dX8_busy_13 : decode cX8_busy 13 = .ok (.iconst 0, 1) := by decide +kernel
theorem dX8_busy_14 : decode cX8_busy 14 = .ok (.goto 14, 3) := by decide +kernel
theorem dX8_busy_17 : decode cX8_busy 17 = .ok (.aload_n 0, 1) := by decide +kernel
theorem dX8_busy_18 : decode cX8_busy 18 = .ok (.getfield 17, 3) := by decide +kernel
theorem dX8_busy_21 : decode cX8_busy 21 = .ok (.iload_n 1, 1) := by decide +kernel
theorem dX8_busy_22 : decode cX8_busy 22 = .ok (.invokestatic 41, 3) := by decide +kernel
theorem dX8_busy_25 : decode cX8_busy 25 = .ok (.iconst 1, 1) := by decide +kernel
theorem dX8_busy_26 : decode cX8_busy 26 = .ok (.iadd, 1) := by decide +kernel
theorem dX8_busy_27 : decode cX8_busy 27 = .ok (.iaload, 1) := by decide +kernel
theorem dX8_busy_28 : decode cX8_busy 28 = .ok (.ireturn, 1) := by decide +kernel
theorem dX8_steals_0 : decode cX8_steals 0 = .ok (.aload_n 0, 1) := by decide +kernel
theorem dX8_steals_1 : decode cX8_steals 1 = .ok (.iconst 0, 1) := by decide +kernel
theorem dX8_steals_2 : decode cX8_steals 2 = .ok (.putfield 38, 3) := by decide +kernel
theorem dX8_steals_5 : decode cX8_steals 5 = .ok (.aload_n 0, 1) := by decide +kernel
theorem dX8_steals_6 : decode cX8_steals 6 = .ok (.iload_n 1, 1) := by decide +kernel
theorem dX8_steals_7 : decode cX8_steals 7 = .ok (.invokevirtual 230, 3) := by decide +kernel
theorem dX8_steals_10 : decode cX8_steals 10 = .ok (.ifCond .eq 7, 3) := by decide +kernel
theorem dX8_steals_13 : decode cX8_steals 13 = .ok (.iconst 0, 1) := by decide +kernel
theorem dX8_steals_14 : decode cX8_steals 14 = .ok (.goto 14, 3) := by decide +kernel
theorem dX8_steals_17 : decode cX8_steals 17 = .ok (.aload_n 0, 1) := by decide +kernel
theorem dX8_steals_18 : decode cX8_steals 18 = .ok (.getfield 17, 3) := by decide +kernel
theorem dX8_steals_21 : decode cX8_steals 21 = .ok (.iload_n 1, 1) := by decide +kernel
theorem dX8_steals_22 : decode cX8_steals 22 = .ok (.invokestatic 41, 3) := by decide +kernel
theorem dX8_steals_25 : decode cX8_steals 25 = .ok (.iconst 2, 1) := by decide +kernel
theorem dX8_steals_26 : decode cX8_steals 26 = .ok (.iadd, 1) := by decide +kernel
theorem dX8_steals_27 : decode cX8_steals 27 = .ok (.iaload, 1) := by decide +kernel
theorem dX8_steals_28 : decode cX8_steals 28 = .ok (.ireturn, 1) := by decide +kernel
theorem dX8_isPaused_0 : decode cX8_isPaused 0 = .ok (.aload_n 0, 1) := by decide +kernel
theorem dX8_isPaused_1 : decode cX8_isPaused 1 = .ok (.iconst 0, 1) := by decide +kernel
theorem dX8_isPaused_2 : decode cX8_isPaused 2 = .ok (.putfield 38, 3) := by decide +kernel
theorem dX8_isPaused_5 : decode cX8_isPaused 5 = .ok (.aload_n 0, 1) := by decide +kernel
theorem dX8_isPaused_6 : decode cX8_isPaused 6 = .ok (.iload_n 1, 1) := by decide +kernel
theorem dX8_isPaused_7 : decode cX8_isPaused 7 = .ok (.invokevirtual 230, 3) := by decide +kernel
theorem dX8_isPaused_10 : decode cX8_isPaused 10 = .ok (.ifCond .ne 22, 3) := by decide +kernel
theorem dX8_isPaused_13 : decode cX8_isPaused 13 = .ok (.aload_n 0, 1) := by decide +kernel
theorem dX8_isPaused_14 : decode cX8_isPaused 14 = .ok (.getfield 17, 3) := by decide +kernel
theorem dX8_isPaused_17 : decode cX8_isPaused 17 = .ok (.iload_n 1, 1) := by decide +kernel
theorem dX8_isPaused_18 : decode cX8_isPaused 18 = .ok (.invokestatic 41, 3) := by decide +kernel
theorem dX8_isPaused_21 : decode cX8_isPaused 21 = .ok (.iconst 3, 1) := by decide +kernel
theorem dX8_isPaused_22 : decode cX8_isPaused 22 = .ok (.iadd, 1) := by decide +kernel
theorem dX8_isPaused_23 : decode cX8_isPaused 23 = .ok (.iaload, 1) := by decide +kernel
theorem dX8_isPaused_24 : decode cX8_isPaused 24 = .ok (.iconst 1, 1) := by decide +kernel
theorem dX8_isPaused_25 : decode cX8_isPaused 25 = .ok (.if_icmp .ne 7, 3) := by decide +kernel
theorem dX8_isPaused_28 : decode cX8_isPaused 28 = .ok (.iconst 1, 1) := by decide +kernel
theorem dX8_isPaused_29 : decode cX8_isPaused 29 = .ok (.goto 4, 3) := by decide +kernel
theorem dX8_isPaused_32 : decode cX8_isPaused 32 = .ok (.iconst 0, 1) := by decide +kernel
theorem dX8_isPaused_33 : decode cX8_isPaused 33 = .ok (.ireturn, 1) := by decide +kernel
theorem dX8_finished_0 : decode cX8_finished 0 = .ok (.aload_n 0, 1) := by decide +kernel
theorem dX8_finished_1 : decode cX8_finished 1 = .ok (.iconst 0, 1) := by decide +kernel
theorem dX8_finished_2 : decode cX8_finished 2 = .ok (.putfield 38, 3) := by decide +kernel
theorem dX8_finished_5 : decode cX8_finished 5 = .ok (.aload_n 0, 1) := by decide +kernel
theorem dX8_finished_6 : decode cX8_finished 6 = .ok (.getfield 17, 3) := by decide +kernel
theorem dX8_finished_9 : decode cX8_finished 9 = .ok (.invokestatic 236, 3) := by decide +kernel
theorem dX8_finished_12 : decode cX8_finished 12 = .ok (.ireturn, 1) := by decide +kernel
theorem dX8_isAhead_0 : decode cX8_isAhead 0 = .ok (.aload_n 0, 1) := by decide +kernel
theorem dX8_isAhead_1 : decode cX8_isAhead 1 = .ok (.getfield 17, 3) := by decide +kernel
theorem dX8_isAhead_4 : decode cX8_isAhead 4 = .ok (.iload_n 2, 1) := by decide +kernel
theorem dX8_isAhead_5 : decode cX8_isAhead 5 = .ok (.invokestatic 136, 3) := by decide +kernel
theorem dX8_isAhead_8 : decode cX8_isAhead 8 = .ok (.iconst 3, 1) := by decide +kernel
theorem dX8_isAhead_9 : decode cX8_isAhead 9 = .ok (.iadd, 1) := by decide +kernel
theorem dX8_isAhead_10 : decode cX8_isAhead 10 = .ok (.iaload, 1) := by decide +kernel
theorem dX8_isAhead_11 : decode cX8_isAhead 11 = .ok (.iload_n 1, 1) := by decide +kernel
theorem dX8_isAhead_12 : decode cX8_isAhead 12 = .ok (.ishr, 1) := by decide +kernel
theorem dX8_isAhead_13 : decode cX8_isAhead 13 = .ok (.iconst 1, 1) := by decide +kernel
theorem dX8_isAhead_14 : decode cX8_isAhead 14 = .ok (.iand, 1) := by decide +kernel
theorem dX8_isAhead_15 : decode cX8_isAhead 15 = .ok (.iconst 1, 1) := by decide +kernel
theorem dX8_isAhead_16 : decode cX8_isAhead 16 = .ok (.if_icmp .ne 5, 3) := by decide +kernel
theorem dX8_isAhead_19 : decode cX8_isAhead 19 = .ok (.iconst 1, 1) := by decide +kernel
theorem dX8_isAhead_20 : decode cX8_isAhead 20 = .ok (.ireturn, 1) := by decide +kernel
theorem dX8_isAhead_21 : decode cX8_isAhead 21 = .ok (.iconst 0, 1) := by decide +kernel
theorem dX8_isAhead_22 : decode cX8_isAhead 22 = .ok (.istore_n 3, 1) := by decide +kernel
theorem dX8_isAhead_23 : decode cX8_isAhead 23 = .ok (.iload_n 3, 1) := by decide +kernel
theorem dX8_isAhead_24 : decode cX8_isAhead 24 = .ok (.aload_n 0, 1) := by decide +kernel
theorem dX8_isAhead_25 : decode cX8_isAhead 25 = .ok (.getfield 17, 3) := by decide +kernel
theorem dX8_isAhead_28 : decode cX8_isAhead 28 = .ok (.iconst 4, 1) := by decide +kernel
theorem dX8_isAhead_29 : decode cX8_isAhead 29 = .ok (.iaload, 1) := by decide +kernel
theorem dX8_isAhead_30 : decode cX8_isAhead 30 = .ok (.if_icmp .ge 37, 3) := by decide +kernel
theorem dX8_isAhead_33 : decode cX8_isAhead 33 = .ok (.iload_n 1, 1) := by decide +kernel
theorem dX8_isAhead_34 : decode cX8_isAhead 34 = .ok (.aload_n 0, 1) := by decide +kernel
theorem dX8_isAhead_35 : decode cX8_isAhead 35 = .ok (.getfield 17, 3) := by decide +kernel
theorem dX8_isAhead_38 : decode cX8_isAhead 38 = .ok (.bipush 8, 2) := by decide +kernel
theorem dX8_isAhead_40 : decode cX8_isAhead 40 = .ok (.iload_n 3, 1) := by decide +kernel
theorem dX8_isAhead_41 : decode cX8_isAhead 41 = .ok (.iadd, 1) := by decide +kernel
theorem dX8_isAhead_42 : decode cX8_isAhead 42 = .ok (.iaload, 1) := by decide +kernel
theorem dX8_isAhead_43 : decode cX8_isAhead 43 = .ok (.if_icmp .ge 18, 3) := by decide +kernel
theorem dX8_isAhead_46 : decode cX8_isAhead 46 = .ok (.aload_n 0, 1) := by decide +kernel
theorem dX8_isAhead_47 : decode cX8_isAhead 47 = .ok (.getfield 17, 3) := by decide +kernel
theorem dX8_isAhead_50 : decode cX8_isAhead 50 = .ok (.bipush 8, 2) := by decide +kernel
theorem dX8_isAhead_52 : decode cX8_isAhead 52 = .ok (.iload_n 3, 1) := by decide +kernel
theorem dX8_isAhead_53 : decode cX8_isAhead 53 = .ok (.iadd, 1) := by decide +kernel
theorem dX8_isAhead_54 : decode cX8_isAhead 54 = .ok (.iaload, 1) := by decide +kernel
theorem dX8_isAhead_55 : decode cX8_isAhead 55 = .ok (.iload_n 2, 1) := by decide +kernel
theorem dX8_isAhead_56 : decode cX8_isAhead 56 = .ok (.if_icmp .gt 5, 3) := by decide +kernel
theorem dX8_isAhead_59 : decode cX8_isAhead 59 = .ok (.iconst 1, 1) := by decide +kernel
theorem dX8_isAhead_60 : decode cX8_isAhead 60 = .ok (.ireturn, 1) := by decide +kernel
theorem dX8_isAhead_61 : decode cX8_isAhead 61 = .ok (.iinc 3 1, 3) := by decide +kernel
theorem dX8_isAhead_64 : decode cX8_isAhead 64 = .ok (.goto (-41), 3) := by decide +kernel
theorem dX8_isAhead_67 : decode cX8_isAhead 67 = .ok (.iconst 0, 1) := by decide +kernel
theorem dX8_isAhead_68 : decode cX8_isAhead 68 = .ok (.ireturn, 1) := by decide +kernel
theorem dX8_criticalPath_0 : decode cX8_criticalPath 0 = .ok (.aload_n 0, 1) := by decide +kernel
theorem dX8_criticalPath_1 : decode cX8_criticalPath 1 = .ok (.iconst 0, 1) := by decide +kernel
theorem dX8_criticalPath_2 : decode cX8_criticalPath 2 = .ok (.putfield 38, 3) := by decide +kernel
theorem dX8_criticalPath_5 : decode cX8_criticalPath 5 = .ok (.iconst 0, 1) := by decide +kernel
theorem dX8_criticalPath_6 : decode cX8_criticalPath 6 = .ok (.istore_n 1, 1) := by decide +kernel
theorem dX8_criticalPath_7 : decode cX8_criticalPath 7 = .ok (.iconst 0, 1) := by decide +kernel
theorem dX8_criticalPath_8 : decode cX8_criticalPath 8 = .ok (.istore_n 2, 1) := by decide +kernel
theorem dX8_criticalPath_9 : decode cX8_criticalPath 9 = .ok (.iload_n 2, 1) := by decide +kernel
theorem dX8_criticalPath_10 : decode cX8_criticalPath 10 = .ok (.aload_n 0, 1) := by decide +kernel
theorem dX8_criticalPath_11 : decode cX8_criticalPath 11 = .ok (.getfield 17, 3) := by decide +kernel
theorem dX8_criticalPath_14 : decode cX8_criticalPath 14 = .ok (.iconst 3, 1) := by decide +kernel
theorem dX8_criticalPath_15 : decode cX8_criticalPath 15 = .ok (.iaload, 1) := by decide +kernel
theorem dX8_criticalPath_16 : decode cX8_criticalPath 16 = .ok (.if_icmp .ge 102, 3) := by decide +kernel
theorem dX8_criticalPath_19 : decode cX8_criticalPath 19 = .ok (.aload_n 0, 1) := by decide +kernel
theorem dX8_criticalPath_20 : decode cX8_criticalPath 20 = .ok (.getfield 35, 3) := by decide +kernel
theorem dX8_criticalPath_23 : decode cX8_criticalPath 23 = .ok (.iload_n 2, 1) := by decide +kernel
theorem dX8_criticalPath_24 : decode cX8_criticalPath 24 = .ok (.iconst 0, 1) := by decide +kernel
theorem dX8_criticalPath_25 : decode cX8_criticalPath 25 = .ok (.iastore, 1) := by decide +kernel
theorem dX8_criticalPath_26 : decode cX8_criticalPath 26 = .ok (.aload_n 0, 1) := by decide +kernel
theorem dX8_criticalPath_27 : decode cX8_criticalPath 27 = .ok (.getfield 17, 3) := by decide +kernel
theorem dX8_criticalPath_30 : decode cX8_criticalPath 30 = .ok (.iload_n 2, 1) := by decide +kernel
theorem dX8_criticalPath_31 : decode cX8_criticalPath 31 = .ok (.invokestatic 196, 3) := by decide +kernel
theorem dX8_criticalPath_34 : decode cX8_criticalPath 34 = .ok (.ifCond .eq 6, 3) := by decide +kernel
theorem dX8_criticalPath_37 : decode cX8_criticalPath 37 = .ok (.goto 75, 3) := by decide +kernel
theorem dX8_criticalPath_40 : decode cX8_criticalPath 40 = .ok (.iconst 0, 1) := by decide +kernel
theorem dX8_criticalPath_41 : decode cX8_criticalPath 41 = .ok (.istore_n 3, 1) := by decide +kernel
theorem dX8_criticalPath_42 : decode cX8_criticalPath 42 = .ok (.iload_n 3, 1) := by decide +kernel
theorem dX8_criticalPath_43 : decode cX8_criticalPath 43 = .ok (.iload_n 2, 1) := by decide +kernel
theorem dX8_criticalPath_44 : decode cX8_criticalPath 44 = .ok (.if_icmp .ge 39, 3) := by decide +kernel
theorem dX8_criticalPath_47 : decode cX8_criticalPath 47 = .ok (.aload_n 0, 1) := by decide +kernel
theorem dX8_criticalPath_48 : decode cX8_criticalPath 48 = .ok (.iload_n 3, 1) := by decide +kernel
theorem dX8_criticalPath_49 : decode cX8_criticalPath 49 = .ok (.iload_n 2, 1) := by decide +kernel
theorem dX8_criticalPath_50 : decode cX8_criticalPath 50 = .ok (.invokevirtual 239, 3) := by decide +kernel
theorem dX8_criticalPath_53 : decode cX8_criticalPath 53 = .ok (.ifCond .eq 24, 3) := by decide +kernel
theorem dX8_criticalPath_56 : decode cX8_criticalPath 56 = .ok (.aload_n 0, 1) := by decide +kernel
theorem dX8_criticalPath_57 : decode cX8_criticalPath 57 = .ok (.getfield 35, 3) := by decide +kernel
theorem dX8_criticalPath_60 : decode cX8_criticalPath 60 = .ok (.iload_n 2, 1) := by decide +kernel
theorem dX8_criticalPath_61 : decode cX8_criticalPath 61 = .ok (.aload_n 0, 1) := by decide +kernel
theorem dX8_criticalPath_62 : decode cX8_criticalPath 62 = .ok (.getfield 35, 3) := by decide +kernel
theorem dX8_criticalPath_65 : decode cX8_criticalPath 65 = .ok (.iload_n 2, 1) := by decide +kernel
theorem dX8_criticalPath_66 : decode cX8_criticalPath 66 = .ok (.iaload, 1) := by decide +kernel
theorem dX8_criticalPath_67 : decode cX8_criticalPath 67 = .ok (.aload_n 0, 1) := by decide +kernel
theorem dX8_criticalPath_68 : decode cX8_criticalPath 68 = .ok (.getfield 35, 3) := by decide +kernel
theorem dX8_criticalPath_71 : decode cX8_criticalPath 71 = .ok (.iload_n 3, 1) := by decide +kernel
theorem dX8_criticalPath_72 : decode cX8_criticalPath 72 = .ok (.iaload, 1) := by decide +kernel
theorem dX8_criticalPath_73 : decode cX8_criticalPath 73 = .ok (.invokestatic 243, 3) := by decide +kernel
theorem dX8_criticalPath_76 : decode cX8_criticalPath 76 = .ok (.iastore, 1) := by decide +kernel
theorem dX8_criticalPath_77 : decode cX8_criticalPath 77 = .ok (.iinc 3 1, 3) := by decide +kernel
theorem dX8_criticalPath_80 : decode cX8_criticalPath 80 = .ok (.goto (-38), 3) := by decide +kernel
theorem dX8_criticalPath_83 : decode cX8_criticalPath 83 = .ok (.aload_n 0, 1) := by decide +kernel
theorem dX8_criticalPath_84 : decode cX8_criticalPath 84 = .ok (.getfield 35, 3) := by decide +kernel
theorem dX8_criticalPath_87 : decode cX8_criticalPath 87 = .ok (.iload_n 2, 1) := by decide +kernel
theorem dX8_criticalPath_88 : decode cX8_criticalPath 88 = .ok (.dup2, 1) := by decide +kernel
theorem dX8_criticalPath_89 : decode cX8_criticalPath 89 = .ok (.iaload, 1) := by decide +kernel
theorem dX8_criticalPath_90 : decode cX8_criticalPath 90 = .ok (.aload_n 0, 1) := by decide +kernel
theorem dX8_criticalPath_91 : decode cX8_criticalPath 91 = .ok (.getfield 17, 3) := by decide +kernel
theorem dX8_criticalPath_94 : decode cX8_criticalPath 94 = .ok (.iload_n 2, 1) := by decide +kernel
theorem dX8_criticalPath_95 : decode cX8_criticalPath 95 = .ok (.invokestatic 136, 3) := by decide +kernel
theorem dX8_criticalPath_98 : decode cX8_criticalPath 98 = .ok (.iaload, 1) := by decide +kernel
theorem dX8_criticalPath_99 : decode cX8_criticalPath 99 = .ok (.iadd, 1) := by decide +kernel
theorem dX8_criticalPath_100 : decode cX8_criticalPath 100 = .ok (.iastore, 1) := by decide +kernel
theorem dX8_criticalPath_101 : decode cX8_criticalPath 101 = .ok (.iload_n 1, 1) := by decide +kernel
theorem dX8_criticalPath_102 : decode cX8_criticalPath 102 = .ok (.aload_n 0, 1) := by decide +kernel
theorem dX8_criticalPath_103 : decode cX8_criticalPath 103 = .ok (.getfield 35, 3) := by decide +kernel
theorem dX8_criticalPath_106 : decode cX8_criticalPath 106 = .ok (.iload_n 2, 1) := by decide +kernel
theorem dX8_criticalPath_107 : decode cX8_criticalPath 107 = .ok (.iaload, 1) := by decide +kernel
theorem dX8_criticalPath_108 : decode cX8_criticalPath 108 = .ok (.invokestatic 243, 3) := by decide +kernel
theorem dX8_criticalPath_111 : decode cX8_criticalPath 111 = .ok (.istore_n 1, 1) := by decide +kernel
theorem dX8_criticalPath_112 : decode cX8_criticalPath 112 = .ok (.iinc 2 1, 3) := by decide +kernel
theorem dX8_criticalPath_115 : decode cX8_criticalPath 115 = .ok (.goto (-106), 3) := by decide +kernel
theorem dX8_criticalPath_118 : decode cX8_criticalPath 118 = .ok (.iload_n 1, 1) := by decide +kernel
theorem dX8_criticalPath_119 : decode cX8_criticalPath 119 = .ok (.ireturn, 1) := by decide +kernel
theorem dX8_finishFuture_0 : decode cX8_finishFuture 0 = .ok (.iconst 0, 1) := by decide +kernel
theorem dX8_finishFuture_1 : decode cX8_finishFuture 1 = .ok (.istore_n 2, 1) := by decide +kernel
theorem dX8_finishFuture_2 : decode cX8_finishFuture 2 = .ok (.iload_n 2, 1) := by decide +kernel
theorem dX8_finishFuture_3 : decode cX8_finishFuture 3 = .ok (.iload_n 1, 1) := by decide +kernel
theorem dX8_finishFuture_4 : decode cX8_finishFuture 4 = .ok (.if_icmp .gt 36, 3) := by decide +kernel
theorem dX8_finishFuture_7 : decode cX8_finishFuture 7 = .ok (.aload_n 0, 1) := by decide +kernel
theorem dX8_finishFuture_8 : decode cX8_finishFuture 8 = .ok (.getfield 23, 3) := by decide +kernel
theorem dX8_finishFuture_11 : decode cX8_finishFuture 11 = .ok (.invokestatic 236, 3) := by decide +kernel
theorem dX8_finishFuture_14 : decode cX8_finishFuture 14 = .ok (.aload_n 0, 1) := by decide +kernel
theorem dX8_finishFuture_15 : decode cX8_finishFuture 15 = .ok (.getfield 23, 3) := by decide +kernel
theorem dX8_finishFuture_18 : decode cX8_finishFuture 18 = .ok (.iconst 3, 1) := by decide +kernel
theorem dX8_finishFuture_19 : decode cX8_finishFuture 19 = .ok (.iaload, 1) := by decide +kernel
theorem dX8_finishFuture_20 : decode cX8_finishFuture 20 = .ok (.if_icmp .ne 5, 3) := by decide +kernel
theorem dX8_finishFuture_23 : decode cX8_finishFuture 23 = .ok (.iload_n 2, 1) := by decide +kernel
theorem dX8_finishFuture_24 : decode cX8_finishFuture 24 = .ok (.ireturn, 1) := by decide +kernel
theorem dX8_finishFuture_25 : decode cX8_finishFuture 25 = .ok (.aload_n 0, 1) := by decide +kernel
theorem dX8_finishFuture_26 : decode cX8_finishFuture 26 = .ok (.aload_n 0, 1) := by decide +kernel
theorem dX8_finishFuture_27 : decode cX8_finishFuture 27 = .ok (.getfield 23, 3) := by decide +kernel
theorem dX8_finishFuture_30 : decode cX8_finishFuture 30 = .ok (.invokevirtual 246, 3) := by decide +kernel
theorem dX8_finishFuture_33 : decode cX8_finishFuture 33 = .ok (.pop, 1) := by decide +kernel
theorem dX8_finishFuture_34 : decode cX8_finishFuture 34 = .ok (.iinc 2 1, 3) := by decide +kernel
theorem dX8_finishFuture_37 : decode cX8_finishFuture 37 = .ok (.goto (-35), 3) := by decide +kernel
theorem dX8_finishFuture_40 : decode cX8_finishFuture 40 = .ok (.iconst (-1), 1) := by decide +kernel
theorem dX8_finishFuture_41 : decode cX8_finishFuture 41 = .ok (.ireturn, 1) := by decide +kernel
theorem dX8_finishTime_0 : decode cX8_finishTime 0 = .ok (.aload_n 0, 1) := by decide +kernel
theorem dX8_finishTime_1 : decode cX8_finishTime 1 = .ok (.iconst 0, 1) := by decide +kernel
theorem dX8_finishTime_2 : decode cX8_finishTime 2 = .ok (.putfield 38, 3) := by decide +kernel
theorem dX8_finishTime_5 : decode cX8_finishTime 5 = .ok (.aload_n 0, 1) := by decide +kernel
theorem dX8_finishTime_6 : decode cX8_finishTime 6 = .ok (.iload_n 1, 1) := by decide +kernel
theorem dX8_finishTime_7 : decode cX8_finishTime 7 = .ok (.iconst 0, 1) := by decide +kernel
theorem dX8_finishTime_8 : decode cX8_finishTime 8 = .ok (.sipush 500, 3) := by decide +kernel
theorem dX8_finishTime_11 : decode cX8_finishTime 11 = .ok (.invokestatic 63, 3) := by decide +kernel
theorem dX8_finishTime_14 : decode cX8_finishTime 14 = .ok (.ifCond .ne 7, 3) := by decide +kernel
theorem dX8_finishTime_17 : decode cX8_finishTime 17 = .ok (.iconst 1, 1) := by decide +kernel
theorem dX8_finishTime_18 : decode cX8_finishTime 18 = .ok (.goto 4, 3) := by decide +kernel
theorem dX8_finishTime_21 : decode cX8_finishTime 21 = .ok (.iconst 0, 1) := by decide +kernel
theorem dX8_finishTime_22 : decode cX8_finishTime 22 = .ok (.iconst 1, 1) := by decide +kernel
theorem dX8_finishTime_23 : decode cX8_finishTime 23 = .ok (.invokevirtual 162, 3) := by decide +kernel
theorem dX8_finishTime_26 : decode cX8_finishTime 26 = .ok (.ifCond .eq 5, 3) := by decide +kernel
theorem dX8_finishTime_29 : decode cX8_finishTime 29 = .ok (.iconst 0, 1) := by decide +kernel
theorem dX8_finishTime_30 : decode cX8_finishTime 30 = .ok (.ireturn, 1) := by decide +kernel
theorem dX8_finishTime_31 : decode cX8_finishTime 31 = .ok (.aload_n 0, 1) := by decide +kernel
theorem dX8_finishTime_32 : decode cX8_finishTime 32 = .ok (.getfield 17, 3) := by decide +kernel
theorem dX8_finishTime_35 : decode cX8_finishTime 35 = .ok (.aload_n 0, 1) := by decide +kernel
theorem dX8_finishTime_36 : decode cX8_finishTime 36 = .ok (.getfield 23, 3) := by decide +kernel
theorem dX8_finishTime_39 : decode cX8_finishTime 39 = .ok (.invokestatic 178, 3) := by decide +kernel
theorem dX8_finishTime_42 : decode cX8_finishTime 42 = .ok (.aload_n 0, 1) := by decide +kernel
theorem dX8_finishTime_43 : decode cX8_finishTime 43 = .ok (.iload_n 1, 1) := by decide +kernel
theorem dX8_finishTime_44 : decode cX8_finishTime 44 = .ok (.invokevirtual 249, 3) := by decide +kernel
theorem dX8_finishTime_47 : decode cX8_finishTime 47 = .ok (.ireturn, 1) := by decide +kernel
theorem dX8_timeOn_0 : decode cX8_timeOn 0 = .ok (.aload_n 0, 1) := by decide +kernel
theorem dX8_timeOn_1 : decode cX8_timeOn 1 = .ok (.iconst 0, 1) := by decide +kernel
theorem dX8_timeOn_2 : decode cX8_timeOn 2 = .ok (.putfield 38, 3) := by decide +kernel
theorem dX8_timeOn_5 : decode cX8_timeOn 5 = .ok (.aload_n 0, 1) := by decide +kernel
theorem dX8_timeOn_6 : decode cX8_timeOn 6 = .ok (.iload_n 1, 1) := by decide +kernel
theorem dX8_timeOn_7 : decode cX8_timeOn 7 = .ok (.iconst 1, 1) := by decide +kernel
theorem dX8_timeOn_8 : decode cX8_timeOn 8 = .ok (.iconst 4, 1) := by decide +kernel
theorem dX8_timeOn_9 : decode cX8_timeOn 9 = .ok (.invokestatic 63, 3) := by decide +kernel
theorem dX8_timeOn_12 : decode cX8_timeOn 12 = .ok (.ifCond .eq 14, 3) := by decide +kernel
theorem dX8_timeOn_15 : decode cX8_timeOn 15 = .ok (.iload_n 2, 1) := by decide +kernel
theorem dX8_timeOn_16 : decode cX8_timeOn 16 = .ok (.iconst 0, 1) := by decide +kernel
theorem dX8_timeOn_17 : decode cX8_timeOn 17 = .ok (.sipush 500, 3) := by decide +kernel
theorem dX8_timeOn_20 : decode cX8_timeOn 20 = .ok (.invokestatic 63, 3) := by decide +kernel
theorem dX8_timeOn_23 : decode cX8_timeOn 23 = .ok (.ifCond .ne 7, 3) := by decide +kernel
theorem dX8_timeOn_26 : decode cX8_timeOn 26 = .ok (.iconst 1, 1) := by decide +kernel
theorem dX8_timeOn_27 : decode cX8_timeOn 27 = .ok (.goto 4, 3) := by decide +kernel
theorem dX8_timeOn_30 : decode cX8_timeOn 30 = .ok (.iconst 0, 1) := by decide +kernel
theorem dX8_timeOn_31 : decode cX8_timeOn 31 = .ok (.iconst 1, 1) := by decide +kernel
theorem dX8_timeOn_32 : decode cX8_timeOn 32 = .ok (.invokevirtual 162, 3) := by decide +kernel
theorem dX8_timeOn_35 : decode cX8_timeOn 35 = .ok (.ifCond .ne 25, 3) := by decide +kernel
theorem dX8_timeOn_38 : decode cX8_timeOn 38 = .ok (.aload_n 0, 1) := by decide +kernel
theorem dX8_timeOn_39 : decode cX8_timeOn 39 = .ok (.aload_n 0, 1) := by decide +kernel
theorem dX8_timeOn_40 : decode cX8_timeOn 40 = .ok (.getfield 17, 3) := by decide +kernel
theorem dX8_timeOn_43 : decode cX8_timeOn 43 = .ok (.iconst 0, 1) := by decide +kernel
theorem dX8_timeOn_44 : decode cX8_timeOn 44 = .ok (.iaload, 1) := by decide +kernel
theorem dX8_timeOn_45 : decode cX8_timeOn 45 = .ok (.ifCond .ne 7, 3) := by decide +kernel
theorem dX8_timeOn_48 : decode cX8_timeOn 48 = .ok (.iconst 1, 1) := by decide +kernel
theorem dX8_timeOn_49 : decode cX8_timeOn 49 = .ok (.goto 4, 3) := by decide +kernel
theorem dX8_timeOn_52 : decode cX8_timeOn 52 = .ok (.iconst 0, 1) := by decide +kernel
theorem dX8_timeOn_53 : decode cX8_timeOn 53 = .ok (.iconst 2, 1) := by decide +kernel
theorem dX8_timeOn_54 : decode cX8_timeOn 54 = .ok (.invokevirtual 162, 3) := by decide +kernel
theorem dX8_timeOn_57 : decode cX8_timeOn 57 = .ok (.ifCond .eq 5, 3) := by decide +kernel
theorem dX8_timeOn_60 : decode cX8_timeOn 60 = .ok (.iconst 0, 1) := by decide +kernel
theorem dX8_timeOn_61 : decode cX8_timeOn 61 = .ok (.ireturn, 1) := by decide +kernel
theorem dX8_timeOn_62 : decode cX8_timeOn 62 = .ok (.aload_n 0, 1) := by decide +kernel
theorem dX8_timeOn_63 : decode cX8_timeOn 63 = .ok (.getfield 17, 3) := by decide +kernel
theorem dX8_timeOn_66 : decode cX8_timeOn 66 = .ok (.aload_n 0, 1) := by decide +kernel
theorem dX8_timeOn_67 : decode cX8_timeOn 67 = .ok (.getfield 23, 3) := by decide +kernel
theorem dX8_timeOn_70 : decode cX8_timeOn 70 = .ok (.invokestatic 178, 3) := by decide +kernel
theorem dX8_timeOn_73 : decode cX8_timeOn 73 = .ok (.aload_n 0, 1) := by decide +kernel
theorem dX8_timeOn_74 : decode cX8_timeOn 74 = .ok (.getfield 23, 3) := by decide +kernel
theorem dX8_timeOn_77 : decode cX8_timeOn 77 = .ok (.iconst 0, 1) := by decide +kernel
theorem dX8_timeOn_78 : decode cX8_timeOn 78 = .ok (.iload_n 1, 1) := by decide +kernel
theorem dX8_timeOn_79 : decode cX8_timeOn 79 = .ok (.iastore, 1) := by decide +kernel
theorem dX8_timeOn_80 : decode cX8_timeOn 80 = .ok (.aload_n 0, 1) := by decide +kernel
theorem dX8_timeOn_81 : decode cX8_timeOn 81 = .ok (.getfield 23, 3) := by decide +kernel
theorem dX8_timeOn_84 : decode cX8_timeOn 84 = .ok (.iconst 5, 1) := by decide +kernel
theorem dX8_timeOn_85 : decode cX8_timeOn 85 = .ok (.iconst 0, 1) := by decide +kernel
theorem dX8_timeOn_86 : decode cX8_timeOn 86 = .ok (.iastore, 1) := by decide +kernel
theorem dX8_timeOn_87 : decode cX8_timeOn 87 = .ok (.aload_n 0, 1) := by decide +kernel
theorem dX8_timeOn_88 : decode cX8_timeOn 88 = .ok (.getfield 23, 3) := by decide +kernel
theorem dX8_timeOn_91 : decode cX8_timeOn 91 = .ok (.invokestatic 166, 3) := by decide +kernel
theorem dX8_timeOn_94 : decode cX8_timeOn 94 = .ok (.iconst 0, 1) := by decide +kernel
theorem dX8_timeOn_95 : decode cX8_timeOn 95 = .ok (.istore_n 3, 1) := by decide +kernel
theorem dX8_timeOn_96 : decode cX8_timeOn 96 = .ok (.iload_n 3, 1) := by decide +kernel
theorem dX8_timeOn_97 : decode cX8_timeOn 97 = .ok (.aload_n 0, 1) := by decide +kernel
theorem dX8_timeOn_98 : decode cX8_timeOn 98 = .ok (.getfield 23, 3) := by decide +kernel
theorem dX8_timeOn_101 : decode cX8_timeOn 101 = .ok (.iconst 3, 1) := by decide +kernel
theorem dX8_timeOn_102 : decode cX8_timeOn 102 = .ok (.iaload, 1) := by decide +kernel
theorem dX8_timeOn_103 : decode cX8_timeOn 103 = .ok (.if_icmp .ge 47, 3) := by decide +kernel
theorem dX8_timeOn_106 : decode cX8_timeOn 106 = .ok (.aload_n 0, 1) := by decide +kernel
theorem dX8_timeOn_107 : decode cX8_timeOn 107 = .ok (.getfield 23, 3) := by decide +kernel
theorem dX8_timeOn_110 : decode cX8_timeOn 110 = .ok (.iload_n 3, 1) := by decide +kernel
theorem dX8_timeOn_111 : decode cX8_timeOn 111 = .ok (.invokestatic 136, 3) := by decide +kernel
theorem dX8_timeOn_114 : decode cX8_timeOn 114 = .ok (.iconst 2, 1) := by decide +kernel
theorem dX8_timeOn_115 : decode cX8_timeOn 115 = .ok (.iadd, 1) := by decide +kernel
theorem dX8_timeOn_116 : decode cX8_timeOn 116 = .ok (.dup2, 1) := by decide +kernel
theorem dX8_timeOn_117 : decode cX8_timeOn 117 = .ok (.iaload, 1) := by decide +kernel
theorem dX8_timeOn_118 : decode cX8_timeOn 118 = .ok (.iload_n 1, 1) := by decide +kernel
theorem dX8_timeOn_119 : decode cX8_timeOn 119 = .ok (.irem, 1) := by decide +kernel
theorem dX8_timeOn_120 : decode cX8_timeOn 120 = .ok (.iastore, 1) := by decide +kernel
theorem dX8_timeOn_121 : decode cX8_timeOn 121 = .ok (.aload_n 0, 1) := by decide +kernel
theorem dX8_timeOn_122 : decode cX8_timeOn 122 = .ok (.getfield 23, 3) := by decide +kernel
theorem dX8_timeOn_125 : decode cX8_timeOn 125 = .ok (.iload_n 3, 1) := by decide +kernel
theorem dX8_timeOn_126 : decode cX8_timeOn 126 = .ok (.invokestatic 136, 3) := by decide +kernel
theorem dX8_timeOn_129 : decode cX8_timeOn 129 = .ok (.iconst 4, 1) := by decide +kernel
theorem dX8_timeOn_130 : decode cX8_timeOn 130 = .ok (.iadd, 1) := by decide +kernel
theorem dX8_timeOn_131 : decode cX8_timeOn 131 = .ok (.iaload, 1) := by decide +kernel
theorem dX8_timeOn_132 : decode cX8_timeOn 132 = .ok (.iconst 5, 1) := by decide +kernel
theorem dX8_timeOn_133 : decode cX8_timeOn 133 = .ok (.if_icmp .eq 11, 3) := by decide +kernel
theorem dX8_timeOn_136 : decode cX8_timeOn 136 = .ok (.aload_n 0, 1) := by decide +kernel
theorem dX8_timeOn_137 : decode cX8_timeOn 137 = .ok (.getfield 23, 3) := by decide +kernel
theorem dX8_timeOn_140 : decode cX8_timeOn 140 = .ok (.iload_n 3, 1) := by decide +kernel
theorem dX8_timeOn_141 : decode cX8_timeOn 141 = .ok (.invokestatic 139, 3) := by decide +kernel
theorem dX8_timeOn_144 : decode cX8_timeOn 144 = .ok (.iinc 3 1, 3) := by decide +kernel
theorem dX8_timeOn_147 : decode cX8_timeOn 147 = .ok (.goto (-51), 3) := by decide +kernel
theorem dX8_timeOn_150 : decode cX8_timeOn 150 = .ok (.aload_n 0, 1) := by decide +kernel
theorem dX8_timeOn_151 : decode cX8_timeOn 151 = .ok (.iload_n 2, 1) := by decide +kernel
theorem dX8_timeOn_152 : decode cX8_timeOn 152 = .ok (.invokevirtual 249, 3) := by decide +kernel
theorem dX8_timeOn_155 : decode cX8_timeOn 155 = .ok (.ireturn, 1) := by decide +kernel
theorem dX8_remember_0 : decode cX8_remember 0 = .ok (.aload_n 0, 1) := by decide +kernel
theorem dX8_remember_1 : decode cX8_remember 1 = .ok (.getfield 252, 3) := by decide +kernel
theorem dX8_remember_4 : decode cX8_remember 4 = .ok (.bipush 8, 2) := by decide +kernel
theorem dX8_remember_6 : decode cX8_remember 6 = .ok (.if_icmp .ne 44, 3) := by decide +kernel
theorem dX8_remember_9 : decode cX8_remember 9 = .ok (.iconst 1, 1) := by decide +kernel
theorem dX8_remember_10 : decode cX8_remember 10 = .ok (.istore_n 1, 1) := by decide +kernel
theorem dX8_remember_11 : decode cX8_remember 11 = .ok (.iload_n 1, 1) := by decide +kernel
theorem dX8_remember_12 : decode cX8_remember 12 = .ok (.bipush 8, 2) := by decide +kernel
theorem dX8_remember_14 : decode cX8_remember 14 = .ok (.if_icmp .ge 26, 3) := by decide +kernel
theorem dX8_remember_17 : decode cX8_remember 17 = .ok (.aload_n 0, 1) := by decide +kernel
theorem dX8_remember_18 : decode cX8_remember 18 = .ok (.getfield 28, 3) := by decide +kernel
theorem dX8_remember_21 : decode cX8_remember 21 = .ok (.iload_n 1, 1) := by decide +kernel
theorem dX8_remember_22 : decode cX8_remember 22 = .ok (.aaload, 1) := by decide +kernel
theorem dX8_remember_23 : decode cX8_remember 23 = .ok (.aload_n 0, 1) := by decide +kernel
theorem dX8_remember_24 : decode cX8_remember 24 = .ok (.getfield 28, 3) := by decide +kernel
theorem dX8_remember_27 : decode cX8_remember 27 = .ok (.iload_n 1, 1) := by decide +kernel
theorem dX8_remember_28 : decode cX8_remember 28 = .ok (.iconst 1, 1) := by decide +kernel
theorem dX8_remember_29 : decode cX8_remember 29 = .ok (.isub, 1) := by decide +kernel
theorem dX8_remember_30 : decode cX8_remember 30 = .ok (.aaload, 1) := by decide +kernel
theorem dX8_remember_31 : decode cX8_remember 31 = .ok (.invokestatic 178, 3) := by decide +kernel
theorem dX8_remember_34 : decode cX8_remember 34 = .ok (.iinc 1 1, 3) := by decide +kernel
theorem dX8_remember_37 : decode cX8_remember 37 = .ok (.goto (-26), 3) := by decide +kernel
theorem dX8_remember_40 : decode cX8_remember 40 = .ok (.aload_n 0, 1) := by decide +kernel
theorem dX8_remember_41 : decode cX8_remember 41 = .ok (.dup, 1) := by decide +kernel
theorem dX8_remember_42 : decode cX8_remember 42 = .ok (.getfield 252, 3) := by decide +kernel
theorem dX8_remember_45 : decode cX8_remember 45 = .ok (.iconst 1, 1) := by decide +kernel
theorem dX8_remember_46 : decode cX8_remember 46 = .ok (.isub, 1) := by decide +kernel
theorem dX8_remember_47 : decode cX8_remember 47 = .ok (.putfield 252, 3) := by decide +kernel
theorem dX8_remember_50 : decode cX8_remember 50 = .ok (.aload_n 0, 1) := by decide +kernel
theorem dX8_remember_51 : decode cX8_remember 51 = .ok (.getfield 17, 3) := by decide +kernel
theorem dX8_remember_54 : decode cX8_remember 54 = .ok (.aload_n 0, 1) := by decide +kernel
theorem dX8_remember_55 : decode cX8_remember 55 = .ok (.getfield 28, 3) := by decide +kernel
theorem dX8_remember_58 : decode cX8_remember 58 = .ok (.aload_n 0, 1) := by decide +kernel
theorem dX8_remember_59 : decode cX8_remember 59 = .ok (.getfield 252, 3) := by decide +kernel
theorem dX8_remember_62 : decode cX8_remember 62 = .ok (.aaload, 1) := by decide +kernel
theorem dX8_remember_63 : decode cX8_remember 63 = .ok (.invokestatic 178, 3) := by decide +kernel
theorem dX8_remember_66 : decode cX8_remember 66 = .ok (.aload_n 0, 1) := by decide +kernel
theorem dX8_remember_67 : decode cX8_remember 67 = .ok (.dup, 1) := by decide +kernel
theorem dX8_remember_68 : decode cX8_remember 68 = .ok (.getfield 252, 3) := by decide +kernel
theorem dX8_remember_71 : decode cX8_remember 71 = .ok (.iconst 1, 1) := by decide +kernel
theorem dX8_remember_72 : decode cX8_remember 72 = .ok (.iadd, 1) := by decide +kernel
theorem dX8_remember_73 : decode cX8_remember 73 = .ok (.putfield 252, 3) := by decide +kernel
theorem dX8_remember_76 : decode cX8_remember 76 = .ok (.return_, 1) := by decide +kernel
theorem dX8_run_0 : decode cX8_run 0 = .ok (.aload_n 0, 1) := by decide +kernel
theorem dX8_run_1 : decode cX8_run 1 = .ok (.iconst 0, 1) := by decide +kernel
theorem dX8_run_2 : decode cX8_run 2 = .ok (.putfield 38, 3) := by decide +kernel
theorem dX8_run_5 : decode cX8_run 5 = .ok (.aload_n 0, 1) := by decide +kernel
theorem dX8_run_6 : decode cX8_run 6 = .ok (.iload_n 1, 1) := by decide +kernel
theorem dX8_run_7 : decode cX8_run 7 = .ok (.iconst 1, 1) := by decide +kernel
theorem dX8_run_8 : decode cX8_run 8 = .ok (.sipush 200, 3) := by decide +kernel
theorem dX8_run_11 : decode cX8_run 11 = .ok (.invokestatic 63, 3) := by decide +kernel
theorem dX8_run_14 : decode cX8_run 14 = .ok (.ifCond .ne 7, 3) := by decide +kernel
theorem dX8_run_17 : decode cX8_run 17 = .ok (.iconst 1, 1) := by decide +kernel
theorem dX8_run_18 : decode cX8_run 18 = .ok (.goto 4, 3) := by decide +kernel
theorem dX8_run_21 : decode cX8_run 21 = .ok (.iconst 0, 1) := by decide +kernel
theorem dX8_run_22 : decode cX8_run 22 = .ok (.iconst 1, 1) := by decide +kernel
theorem dX8_run_23 : decode cX8_run 23 = .ok (.invokevirtual 162, 3) := by decide +kernel
theorem dX8_run_26 : decode cX8_run 26 = .ok (.ifCond .ne 38, 3) := by decide +kernel
theorem dX8_run_29 : decode cX8_run 29 = .ok (.aload_n 0, 1) := by decide +kernel
theorem dX8_run_30 : decode cX8_run 30 = .ok (.aload_n 0, 1) := by decide +kernel
theorem dX8_run_31 : decode cX8_run 31 = .ok (.getfield 17, 3) := by decide +kernel
theorem dX8_run_34 : decode cX8_run 34 = .ok (.iconst 0, 1) := by decide +kernel
theorem dX8_run_35 : decode cX8_run 35 = .ok (.iaload, 1) := by decide +kernel
theorem dX8_run_36 : decode cX8_run 36 = .ok (.ifCond .eq 16, 3) := by decide +kernel
theorem dX8_run_39 : decode cX8_run 39 = .ok (.aload_n 0, 1) := by decide +kernel
theorem dX8_run_40 : decode cX8_run 40 = .ok (.getfield 17, 3) := by decide +kernel
theorem dX8_run_43 : decode cX8_run 43 = .ok (.iconst 5, 1) := by decide +kernel
theorem dX8_run_44 : decode cX8_run 44 = .ok (.iaload, 1) := by decide +kernel
theorem dX8_run_45 : decode cX8_run 45 = .ok (.iload_n 1, 1) := by decide +kernel
theorem dX8_run_46 : decode cX8_run 46 = .ok (.iadd, 1) := by decide +kernel
theorem dX8_run_47 : decode cX8_run 47 = .ok (.ldc 255, 2) := by decide +kernel
theorem dX8_run_49 : decode cX8_run 49 = .ok (.if_icmp .le 7, 3) := by decide +kernel
theorem dX8_run_52 : decode cX8_run 52 = .ok (.iconst 1, 1) := by decide +kernel
theorem dX8_run_53 : decode cX8_run 53 = .ok (.goto 4, 3) := by decide +kernel
theorem dX8_run_56 : decode cX8_run 56 = .ok (.iconst 0, 1) := by decide +kernel
theorem dX8_run_57 : decode cX8_run 57 = .ok (.iconst 2, 1) := by decide +kernel
theorem dX8_run_58 : decode cX8_run 58 = .ok (.invokevirtual 162, 3) := by decide +kernel
theorem dX8_run_61 : decode cX8_run 61 = .ok (.ifCond .eq 5, 3) := by decide +kernel
theorem dX8_run_64 : decode cX8_run 64 = .ok (.iconst 0, 1) := by decide +kernel
theorem dX8_run_65 : decode cX8_run 65 = .ok (.ireturn, 1) := by decide +kernel
theorem dX8_run_66 : decode cX8_run 66 = .ok (.aload_n 0, 1) := by decide +kernel
theorem dX8_run_67 : decode cX8_run 67 = .ok (.invokevirtual 175, 3) := by decide +kernel
theorem dX8_run_70 : decode cX8_run 70 = .ok (.iconst 0, 1) := by decide +kernel
theorem dX8_run_71 : decode cX8_run 71 = .ok (.istore_n 2, 1) := by decide +kernel
theorem dX8_run_72 : decode cX8_run 72 = .ok (.iconst 0, 1) := by decide +kernel
theorem dX8_run_73 : decode cX8_run 73 = .ok (.istore_n 3, 1) := by decide +kernel
theorem dX8_run_74 : decode cX8_run 74 = .ok (.iload_n 3, 1) := by decide +kernel
theorem dX8_run_75 : decode cX8_run 75 = .ok (.iload_n 1, 1) := by decide +kernel
theorem dX8_run_76 : decode cX8_run 76 = .ok (.if_icmp .ge 20, 3) := by decide +kernel
theorem dX8_run_79 : decode cX8_run 79 = .ok (.iload_n 2, 1) := by decide +kernel
theorem dX8_run_80 : decode cX8_run 80 = .ok (.aload_n 0, 1) := by decide +kernel
theorem dX8_run_81 : decode cX8_run 81 = .ok (.aload_n 0, 1) := by decide +kernel
theorem dX8_run_82 : decode cX8_run 82 = .ok (.getfield 17, 3) := by decide +kernel
theorem dX8_run_85 : decode cX8_run 85 = .ok (.invokevirtual 246, 3) := by decide +kernel
theorem dX8_run_88 : decode cX8_run 88 = .ok (.iadd, 1) := by decide +kernel
theorem dX8_run_89 : decode cX8_run 89 = .ok (.istore_n 2, 1) := by decide +kernel
theorem dX8_run_90 : decode cX8_run 90 = .ok (.iinc 3 1, 3) := by decide +kernel
theorem dX8_run_93 : decode cX8_run 93 = .ok (.goto (-19), 3) := by decide +kernel
theorem dX8_run_96 : decode cX8_run 96 = .ok (.iload_n 2, 1) := by decide +kernel
theorem dX8_run_97 : decode cX8_run 97 = .ok (.ireturn, 1) := by decide +kernel
theorem dX8_submit_0 : decode cX8_submit 0 = .ok (.aload_n 0, 1) := by decide +kernel
theorem dX8_submit_1 : decode cX8_submit 1 = .ok (.iconst 0, 1) := by decide +kernel
theorem dX8_submit_2 : decode cX8_submit 2 = .ok (.putfield 38, 3) := by decide +kernel
theorem dX8_submit_5 : decode cX8_submit 5 = .ok (.aload_n 0, 1) := by decide +kernel
theorem dX8_submit_6 : decode cX8_submit 6 = .ok (.iload_n 3, 1) := by decide +kernel
theorem dX8_submit_7 : decode cX8_submit 7 = .ok (.invokevirtual 230, 3) := by decide +kernel
theorem dX8_submit_10 : decode cX8_submit 10 = .ok (.ifCond .ne 60, 3) := by decide +kernel
theorem dX8_submit_13 : decode cX8_submit 13 = .ok (.aload_n 0, 1) := by decide +kernel
theorem dX8_submit_14 : decode cX8_submit 14 = .ok (.iload_n 1, 1) := by decide +kernel
theorem dX8_submit_15 : decode cX8_submit 15 = .ok (.iconst 1, 1) := by decide +kernel
theorem dX8_submit_16 : decode cX8_submit 16 = .ok (.bipush 99, 2) := by decide +kernel
theorem dX8_submit_18 : decode cX8_submit 18 = .ok (.invokestatic 63, 3) := by decide +kernel
theorem dX8_submit_21 : decode cX8_submit 21 = .ok (.ifCond .eq 13, 3) := by decide +kernel
theorem dX8_submit_24 : decode cX8_submit 24 = .ok (.iload_n 2, 1) := by decide +kernel
theorem dX8_submit_25 : decode cX8_submit 25 = .ok (.iconst 0, 1) := by decide +kernel
theorem dX8_submit_26 : decode cX8_submit 26 = .ok (.bipush 9, 2) := by decide +kernel
theorem dX8_submit_28 : decode cX8_submit 28 = .ok (.invokestatic 63, 3) := by decide +kernel
theorem dX8_submit_31 : decode cX8_submit 31 = .ok (.ifCond .ne 7, 3) := by decide +kernel
theorem dX8_submit_34 : decode cX8_submit 34 = .ok (.iconst 1, 1) := by decide +kernel
theorem dX8_submit_35 : decode cX8_submit 35 = .ok (.goto 4, 3) := by decide +kernel
theorem dX8_submit_38 : decode cX8_submit 38 = .ok (.iconst 0, 1) := by decide +kernel
theorem dX8_submit_39 : decode cX8_submit 39 = .ok (.iconst 2, 1) := by decide +kernel
theorem dX8_submit_40 : decode cX8_submit 40 = .ok (.invokevirtual 162, 3) := by decide +kernel
theorem dX8_submit_43 : decode cX8_submit 43 = .ok (.ifCond .ne 27, 3) := by decide +kernel
theorem dX8_submit_46 : decode cX8_submit 46 = .ok (.aload_n 0, 1) := by decide +kernel
theorem dX8_submit_47 : decode cX8_submit 47 = .ok (.aload_n 0, 1) := by decide +kernel
theorem dX8_submit_48 : decode cX8_submit 48 = .ok (.getfield 17, 3) := by decide +kernel
theorem dX8_submit_51 : decode cX8_submit 51 = .ok (.iconst 3, 1) := by decide +kernel
theorem dX8_submit_52 : decode cX8_submit 52 = .ok (.iaload, 1) := by decide +kernel
theorem dX8_submit_53 : decode cX8_submit 53 = .ok (.bipush 32, 2) := by decide +kernel
theorem dX8_submit_55 : decode cX8_submit 55 = .ok (.if_icmp .ne 7, 3) := by decide +kernel
theorem dX8_submit_58 : decode cX8_submit 58 = .ok (.iconst 1, 1) := by decide +kernel
theorem dX8_submit_59 : decode cX8_submit 59 = .ok (.goto 4, 3) := by decide +kernel
theorem dX8_submit_62 : decode cX8_submit 62 = .ok (.iconst 0, 1) := by decide +kernel
theorem dX8_submit_63 : decode cX8_submit 63 = .ok (.iconst 3, 1) := by decide +kernel
theorem dX8_submit_64 : decode cX8_submit 64 = .ok (.invokevirtual 162, 3) := by decide +kernel
theorem dX8_submit_67 : decode cX8_submit 67 = .ok (.ifCond .eq 5, 3) := by decide +kernel
theorem dX8_submit_70 : decode cX8_submit 70 = .ok (.iconst 0, 1) := by decide +kernel
theorem dX8_submit_71 : decode cX8_submit 71 = .ok (.ireturn, 1) := by decide +kernel
theorem dX8_submit_72 : decode cX8_submit 72 = .ok (.aload_n 0, 1) := by decide +kernel
theorem dX8_submit_73 : decode cX8_submit 73 = .ok (.invokevirtual 175, 3) := by decide +kernel
theorem dX8_submit_76 : decode cX8_submit 76 = .ok (.aload_n 0, 1) := by decide +kernel
theorem dX8_submit_77 : decode cX8_submit 77 = .ok (.getfield 17, 3) := by decide +kernel
theorem dX8_submit_80 : decode cX8_submit 80 = .ok (.iload_n 1, 1) := by decide +kernel
theorem dX8_submit_81 : decode cX8_submit 81 = .ok (.iload_n 2, 1) := by decide +kernel
theorem dX8_submit_82 : decode cX8_submit 82 = .ok (.iload_n 3, 1) := by decide +kernel
theorem dX8_submit_83 : decode cX8_submit 83 = .ok (.invokestatic 145, 3) := by decide +kernel
theorem dX8_submit_86 : decode cX8_submit 86 = .ok (.ireturn, 1) := by decide +kernel
theorem dX8_depend_0 : decode cX8_depend 0 = .ok (.aload_n 0, 1) := by decide +kernel
theorem dX8_depend_1 : decode cX8_depend 1 = .ok (.iconst 0, 1) := by decide +kernel
theorem dX8_depend_2 : decode cX8_depend 2 = .ok (.putfield 38, 3) := by decide +kernel
theorem dX8_depend_5 : decode cX8_depend 5 = .ok (.aload_n 0, 1) := by decide +kernel
theorem dX8_depend_6 : decode cX8_depend 6 = .ok (.iload_n 1, 1) := by decide +kernel
theorem dX8_depend_7 : decode cX8_depend 7 = .ok (.invokevirtual 227, 3) := by decide +kernel
theorem dX8_depend_10 : decode cX8_depend 10 = .ok (.ifCond .ne 38, 3) := by decide +kernel
theorem dX8_depend_13 : decode cX8_depend 13 = .ok (.aload_n 0, 1) := by decide +kernel
theorem dX8_depend_14 : decode cX8_depend 14 = .ok (.iload_n 2, 1) := by decide +kernel
theorem dX8_depend_15 : decode cX8_depend 15 = .ok (.ifCond .ge 7, 3) := by decide +kernel
theorem dX8_depend_18 : decode cX8_depend 18 = .ok (.iconst 1, 1) := by decide +kernel
theorem dX8_depend_19 : decode cX8_depend 19 = .ok (.goto 4, 3) := by decide +kernel
theorem dX8_depend_22 : decode cX8_depend 22 = .ok (.iconst 0, 1) := by decide +kernel
theorem dX8_depend_23 : decode cX8_depend 23 = .ok (.iconst 1, 1) := by decide +kernel
theorem dX8_depend_24 : decode cX8_depend 24 = .ok (.invokevirtual 162, 3) := by decide +kernel
theorem dX8_depend_27 : decode cX8_depend 27 = .ok (.ifCond .ne 21, 3) := by decide +kernel
theorem dX8_depend_30 : decode cX8_depend 30 = .ok (.aload_n 0, 1) := by decide +kernel
theorem dX8_depend_31 : decode cX8_depend 31 = .ok (.iload_n 2, 1) := by decide +kernel
theorem dX8_depend_32 : decode cX8_depend 32 = .ok (.iload_n 1, 1) := by decide +kernel
theorem dX8_depend_33 : decode cX8_depend 33 = .ok (.if_icmp .lt 7, 3) := by decide +kernel
theorem dX8_depend_36 : decode cX8_depend 36 = .ok (.iconst 1, 1) := by decide +kernel
theorem dX8_depend_37 : decode cX8_depend 37 = .ok (.goto 4, 3) := by decide +kernel
theorem dX8_depend_40 : decode cX8_depend 40 = .ok (.iconst 0, 1) := by decide +kernel
theorem dX8_depend_41 : decode cX8_depend 41 = .ok (.iconst 2, 1) := by decide +kernel
theorem dX8_depend_42 : decode cX8_depend 42 = .ok (.invokevirtual 162, 3) := by decide +kernel
theorem dX8_depend_45 : decode cX8_depend 45 = .ok (.ifCond .eq 5, 3) := by decide +kernel
theorem dX8_depend_48 : decode cX8_depend 48 = .ok (.iconst 0, 1) := by decide +kernel
theorem dX8_depend_49 : decode cX8_depend 49 = .ok (.ireturn, 1) := by decide +kernel
theorem dX8_depend_50 : decode cX8_depend 50 = .ok (.iload_n 1, 1) := by decide +kernel
theorem dX8_depend_51 : decode cX8_depend 51 = .ok (.invokestatic 136, 3) := by decide +kernel
theorem dX8_depend_54 : decode cX8_depend 54 = .ok (.istore_n 3, 1) := by decide +kernel
theorem dX8_depend_55 : decode cX8_depend 55 = .ok (.aload_n 0, 1) := by decide +kernel
theorem dX8_depend_56 : decode cX8_depend 56 = .ok (.aload_n 0, 1) := by decide +kernel
theorem dX8_depend_57 : decode cX8_depend 57 = .ok (.getfield 17, 3) := by decide +kernel
theorem dX8_depend_60 : decode cX8_depend 60 = .ok (.iload_n 3, 1) := by decide +kernel
theorem dX8_depend_61 : decode cX8_depend 61 = .ok (.iconst 3, 1) := by decide +kernel
theorem dX8_depend_62 : decode cX8_depend 62 = .ok (.iadd, 1) := by decide +kernel
theorem dX8_depend_63 : decode cX8_depend 63 = .ok (.iaload, 1) := by decide +kernel
theorem dX8_depend_64 : decode cX8_depend 64 = .ok (.iload_n 2, 1) := by decide +kernel
theorem dX8_depend_65 : decode cX8_depend 65 = .ok (.ishr, 1) := by decide +kernel
theorem dX8_depend_66 : decode cX8_depend 66 = .ok (.iconst 1, 1) := by decide +kernel
theorem dX8_depend_67 : decode cX8_depend 67 = .ok (.iand, 1) := by decide +kernel
theorem dX8_depend_68 : decode cX8_depend 68 = .ok (.iconst 1, 1) := by decide +kernel
theorem dX8_depend_69 : decode cX8_depend 69 = .ok (.if_icmp .ne 7, 3) := by decide +kernel
theorem dX8_depend_72 : decode cX8_depend 72 = .ok (.iconst 1, 1) := by decide +kernel
theorem dX8_depend_73 : decode cX8_depend 73 = .ok (.goto 4, 3) := by decide +kernel
theorem dX8_depend_76 : decode cX8_depend 76 = .ok (.iconst 0, 1) := by decide +kernel
theorem dX8_depend_77 : decode cX8_depend 77 = .ok (.iconst 2, 1) := by decide +kernel
theorem dX8_depend_78 : decode cX8_depend 78 = .ok (.invokevirtual 162, 3) := by decide +kernel
theorem dX8_depend_81 : decode cX8_depend 81 = .ok (.ifCond .ne 27, 3) := by decide +kernel
theorem dX8_depend_84 : decode cX8_depend 84 = .ok (.aload_n 0, 1) := by decide +kernel
theorem dX8_depend_85 : decode cX8_depend 85 = .ok (.aload_n 0, 1) := by decide +kernel
theorem dX8_depend_86 : decode cX8_depend 86 = .ok (.getfield 17, 3) := by decide +kernel
theorem dX8_depend_89 : decode cX8_depend 89 = .ok (.iload_n 3, 1) := by decide +kernel
theorem dX8_depend_90 : decode cX8_depend 90 = .ok (.iconst 4, 1) := by decide +kernel
theorem dX8_depend_91 : decode cX8_depend 91 = .ok (.iadd, 1) := by decide +kernel
theorem dX8_depend_92 : decode cX8_depend 92 = .ok (.iaload, 1) := by decide +kernel
theorem dX8_depend_93 : decode cX8_depend 93 = .ok (.ifCond .eq 7, 3) := by decide +kernel
theorem dX8_depend_96 : decode cX8_depend 96 = .ok (.iconst 1, 1) := by decide +kernel
theorem dX8_depend_97 : decode cX8_depend 97 = .ok (.goto 4, 3) := by decide +kernel
theorem dX8_depend_100 : decode cX8_depend 100 = .ok (.iconst 0, 1) := by decide +kernel
theorem dX8_depend_101 : decode cX8_depend 101 = .ok (.iconst 3, 1) := by decide +kernel
theorem dX8_depend_102 : decode cX8_depend 102 = .ok (.invokevirtual 162, 3) := by decide +kernel
theorem dX8_depend_105 : decode cX8_depend 105 = .ok (.ifCond .eq 5, 3) := by decide +kernel
theorem dX8_depend_108 : decode cX8_depend 108 = .ok (.iconst 0, 1) := by decide +kernel
theorem dX8_depend_109 : decode cX8_depend 109 = .ok (.ireturn, 1) := by decide +kernel
theorem dX8_depend_110 : decode cX8_depend 110 = .ok (.aload_n 0, 1) := by decide +kernel
theorem dX8_depend_111 : decode cX8_depend 111 = .ok (.invokevirtual 175, 3) := by decide +kernel
theorem dX8_depend_114 : decode cX8_depend 114 = .ok (.aload_n 0, 1) := by decide +kernel
theorem dX8_depend_115 : decode cX8_depend 115 = .ok (.getfield 17, 3) := by decide +kernel
theorem dX8_depend_118 : decode cX8_depend 118 = .ok (.iload_n 3, 1) := by decide +kernel
theorem dX8_depend_119 : decode cX8_depend 119 = .ok (.iconst 3, 1) := by decide +kernel
theorem dX8_depend_120 : decode cX8_depend 120 = .ok (.iadd, 1) := by decide +kernel
theorem dX8_depend_121 : decode cX8_depend 121 = .ok (.dup2, 1) := by decide +kernel
theorem dX8_depend_122 : decode cX8_depend 122 = .ok (.iaload, 1) := by decide +kernel
theorem dX8_depend_123 : decode cX8_depend 123 = .ok (.iconst 1, 1) := by decide +kernel
theorem dX8_depend_124 : decode cX8_depend 124 = .ok (.iload_n 2, 1) := by decide +kernel
theorem dX8_depend_125 : decode cX8_depend 125 = .ok (.ishl, 1) := by decide +kernel
theorem dX8_depend_126 : decode cX8_depend 126 = .ok (.ior, 1) := by decide +kernel
theorem dX8_depend_127 : decode cX8_depend 127 = .ok (.iastore, 1) := by decide +kernel
theorem dX8_depend_128 : decode cX8_depend 128 = .ok (.aload_n 0, 1) := by decide +kernel
theorem dX8_depend_129 : decode cX8_depend 129 = .ok (.getfield 17, 3) := by decide +kernel
theorem dX8_depend_132 : decode cX8_depend 132 = .ok (.iload_n 1, 1) := by decide +kernel
theorem dX8_depend_133 : decode cX8_depend 133 = .ok (.invokestatic 203, 3) := by decide +kernel
theorem dX8_depend_136 : decode cX8_depend 136 = .ok (.ireturn, 1) := by decide +kernel
theorem dX8_cancel_0 : decode cX8_cancel 0 = .ok (.aload_n 0, 1) := by decide +kernel
theorem dX8_cancel_1 : decode cX8_cancel 1 = .ok (.iconst 0, 1) := by decide +kernel
theorem dX8_cancel_2 : decode cX8_cancel 2 = .ok (.putfield 38, 3) := by decide +kernel
theorem dX8_cancel_5 : decode cX8_cancel 5 = .ok (.aload_n 0, 1) := by decide +kernel
theorem dX8_cancel_6 : decode cX8_cancel 6 = .ok (.iload_n 1, 1) := by decide +kernel
theorem dX8_cancel_7 : decode cX8_cancel 7 = .ok (.invokevirtual 227, 3) := by decide +kernel
theorem dX8_cancel_10 : decode cX8_cancel 10 = .ok (.ifCond .eq 5, 3) := by decide +kernel
theorem dX8_cancel_13 : decode cX8_cancel 13 = .ok (.iconst 0, 1) := by decide +kernel
theorem dX8_cancel_14 : decode cX8_cancel 14 = .ok (.ireturn, 1) := by decide +kernel
theorem dX8_cancel_15 : decode cX8_cancel 15 = .ok (.aload_n 0, 1) := by decide +kernel
theorem dX8_cancel_16 : decode cX8_cancel 16 = .ok (.getfield 17, 3) := by decide +kernel
theorem dX8_cancel_19 : decode cX8_cancel 19 = .ok (.iload_n 1, 1) := by decide +kernel
theorem dX8_cancel_20 : decode cX8_cancel 20 = .ok (.invokestatic 136, 3) := by decide +kernel
theorem dX8_cancel_23 : decode cX8_cancel 23 = .ok (.iconst 4, 1) := by decide +kernel
theorem dX8_cancel_24 : decode cX8_cancel 24 = .ok (.iadd, 1) := by decide +kernel
theorem dX8_cancel_25 : decode cX8_cancel 25 = .ok (.iaload, 1) := by decide +kernel
theorem dX8_cancel_26 : decode cX8_cancel 26 = .ok (.istore_n 2, 1) := by decide +kernel
theorem dX8_cancel_27 : decode cX8_cancel 27 = .ok (.aload_n 0, 1) := by decide +kernel
theorem dX8_cancel_28 : decode cX8_cancel 28 = .ok (.iload_n 2, 1) := by decide +kernel
theorem dX8_cancel_29 : decode cX8_cancel 29 = .ok (.iconst 3, 1) := by decide +kernel
theorem dX8_cancel_30 : decode cX8_cancel 30 = .ok (.if_icmp .lt 7, 3) := by decide +kernel
theorem dX8_cancel_33 : decode cX8_cancel 33 = .ok (.iconst 1, 1) := by decide +kernel
theorem dX8_cancel_34 : decode cX8_cancel 34 = .ok (.goto 4, 3) := by decide +kernel
theorem dX8_cancel_37 : decode cX8_cancel 37 = .ok (.iconst 0, 1) := by decide +kernel
theorem dX8_cancel_38 : decode cX8_cancel 38 = .ok (.iconst 2, 1) := by decide +kernel
theorem dX8_cancel_39 : decode cX8_cancel 39 = .ok (.invokevirtual 162, 3) := by decide +kernel
theorem dX8_cancel_42 : decode cX8_cancel 42 = .ok (.ifCond .eq 5, 3) := by decide +kernel
theorem dX8_cancel_45 : decode cX8_cancel 45 = .ok (.iconst 0, 1) := by decide +kernel
theorem dX8_cancel_46 : decode cX8_cancel 46 = .ok (.ireturn, 1) := by decide +kernel
theorem dX8_cancel_47 : decode cX8_cancel 47 = .ok (.aload_n 0, 1) := by decide +kernel
theorem dX8_cancel_48 : decode cX8_cancel 48 = .ok (.invokevirtual 175, 3) := by decide +kernel
theorem dX8_cancel_51 : decode cX8_cancel 51 = .ok (.iconst 0, 1) := by decide +kernel
theorem dX8_cancel_52 : decode cX8_cancel 52 = .ok (.istore_n 3, 1) := by decide +kernel
theorem dX8_cancel_53 : decode cX8_cancel 53 = .ok (.iload_n 3, 1) := by decide +kernel
theorem dX8_cancel_54 : decode cX8_cancel 54 = .ok (.aload_n 0, 1) := by decide +kernel
theorem dX8_cancel_55 : decode cX8_cancel 55 = .ok (.getfield 17, 3) := by decide +kernel
theorem dX8_cancel_58 : decode cX8_cancel 58 = .ok (.iconst 0, 1) := by decide +kernel
theorem dX8_cancel_59 : decode cX8_cancel 59 = .ok (.iaload, 1) := by decide +kernel
theorem dX8_cancel_60 : decode cX8_cancel 60 = .ok (.if_icmp .ge 69, 3) := by decide +kernel
theorem dX8_cancel_63 : decode cX8_cancel 63 = .ok (.iload_n 2, 1) := by decide +kernel
theorem dX8_cancel_64 : decode cX8_cancel 64 = .ok (.iconst 2, 1) := by decide +kernel
theorem dX8_cancel_65 : decode cX8_cancel 65 = .ok (.if_icmp .ne 64, 3) := by decide +kernel
theorem dX8_cancel_68 : decode cX8_cancel 68 = .ok (.aload_n 0, 1) := by decide +kernel
theorem dX8_cancel_69 : decode cX8_cancel 69 = .ok (.getfield 17, 3) := by decide +kernel
theorem dX8_cancel_72 : decode cX8_cancel 72 = .ok (.iload_n 3, 1) := by decide +kernel
theorem dX8_cancel_73 : decode cX8_cancel 73 = .ok (.invokestatic 41, 3) := by decide +kernel
theorem dX8_cancel_76 : decode cX8_cancel 76 = .ok (.iconst 4, 1) := by decide +kernel
theorem dX8_cancel_77 : decode cX8_cancel 77 = .ok (.iadd, 1) := by decide +kernel
theorem dX8_cancel_78 : decode cX8_cancel 78 = .ok (.iaload, 1) := by decide +kernel
theorem dX8_cancel_79 : decode cX8_cancel 79 = .ok (.iconst 1, 1) := by decide +kernel
theorem dX8_cancel_80 : decode cX8_cancel 80 = .ok (.isub, 1) := by decide +kernel
theorem dX8_cancel_81 : decode cX8_cancel 81 = .ok (.istore 4, 2) := by decide +kernel
theorem dX8_cancel_83 : decode cX8_cancel 83 = .ok (.iload 4, 2) := by decide +kernel
theorem dX8_cancel_85 : decode cX8_cancel 85 = .ok (.ifCond .lt 38, 3) := by decide +kernel
theorem dX8_cancel_88 : decode cX8_cancel 88 = .ok (.aload_n 0, 1) := by decide +kernel
theorem dX8_cancel_89 : decode cX8_cancel 89 = .ok (.getfield 17, 3) := by decide +kernel
theorem dX8_cancel_92 : decode cX8_cancel 92 = .ok (.iload_n 3, 1) := by decide +kernel
theorem dX8_cancel_93 : decode cX8_cancel 93 = .ok (.invokestatic 41, 3) := by decide +kernel
theorem dX8_cancel_96 : decode cX8_cancel 96 = .ok (.iconst 5, 1) := by decide +kernel
theorem dX8_cancel_97 : decode cX8_cancel 97 = .ok (.iadd, 1) := by decide +kernel
theorem dX8_cancel_98 : decode cX8_cancel 98 = .ok (.iload 4, 2) := by decide +kernel
theorem dX8_cancel_100 : decode cX8_cancel 100 = .ok (.iadd, 1) := by decide +kernel
theorem dX8_cancel_101 : decode cX8_cancel 101 = .ok (.iaload, 1) := by decide +kernel
theorem dX8_cancel_102 : decode cX8_cancel 102 = .ok (.iload_n 1, 1) := by decide +kernel
theorem dX8_cancel_103 : decode cX8_cancel 103 = .ok (.if_icmp .ne 14, 3) := by decide +kernel
theorem dX8_cancel_106 : decode cX8_cancel 106 = .ok (.aload_n 0, 1) := by decide +kernel
theorem dX8_cancel_107 : decode cX8_cancel 107 = .ok (.getfield 17, 3) := by decide +kernel
theorem dX8_cancel_110 : decode cX8_cancel 110 = .ok (.iload_n 3, 1) := by decide +kernel
theorem dX8_cancel_111 : decode cX8_cancel 111 = .ok (.iload 4, 2) := by decide +kernel
theorem dX8_cancel_113 : decode cX8_cancel 113 = .ok (.invokestatic 210, 3) := by decide +kernel
theorem dX8_cancel_116 : decode cX8_cancel 116 = .ok (.pop, 1) := by decide +kernel
theorem dX8_cancel_117 : decode cX8_cancel 117 = .ok (.iinc 4 (-1), 3) := by decide +kernel
theorem dX8_cancel_120 : decode cX8_cancel 120 = .ok (.goto (-37), 3) := by decide +kernel
theorem dX8_cancel_123 : decode cX8_cancel 123 = .ok (.iinc 3 1, 3) := by decide +kernel
theorem dX8_cancel_126 : decode cX8_cancel 126 = .ok (.goto (-73), 3) := by decide +kernel
theorem dX8_cancel_129 : decode cX8_cancel 129 = .ok (.aload_n 0, 1) := by decide +kernel
theorem dX8_cancel_130 : decode cX8_cancel 130 = .ok (.getfield 17, 3) := by decide +kernel
theorem dX8_cancel_133 : decode cX8_cancel 133 = .ok (.iload_n 1, 1) := by decide +kernel
theorem dX8_cancel_134 : decode cX8_cancel 134 = .ok (.invokestatic 136, 3) := by decide +kernel
theorem dX8_cancel_137 : decode cX8_cancel 137 = .ok (.iconst 4, 1) := by decide +kernel
theorem dX8_cancel_138 : decode cX8_cancel 138 = .ok (.iadd, 1) := by decide +kernel
theorem dX8_cancel_139 : decode cX8_cancel 139 = .ok (.iconst 5, 1) := by decide +kernel
theorem dX8_cancel_140 : decode cX8_cancel 140 = .ok (.iastore, 1) := by decide +kernel
theorem dX8_cancel_141 : decode cX8_cancel 141 = .ok (.iload_n 2, 1) := by decide +kernel
theorem dX8_cancel_142 : decode cX8_cancel 142 = .ok (.ireturn, 1) := by decide +kernel
theorem dX8_setPriority_0 : decode cX8_setPriority 0 = .ok (.aload_n 0, 1) := by decide +kernel
theorem dX8_setPriority_1 : decode cX8_setPriority 1 = .ok (.iconst 0, 1) := by decide +kernel
theorem dX8_setPriority_2 : decode cX8_setPriority 2 = .ok (.putfield 38, 3) := by decide +kernel
theorem dX8_setPriority_5 : decode cX8_setPriority 5 = .ok (.aload_n 0, 1) := by decide +kernel
theorem dX8_setPriority_6 : decode cX8_setPriority 6 = .ok (.iload_n 1, 1) := by decide +kernel
theorem dX8_setPriority_7 : decode cX8_setPriority 7 = .ok (.invokevirtual 227, 3) := by decide +kernel
theorem dX8_setPriority_10 : decode cX8_setPriority 10 = .ok (.ifCond .ne 26, 3) := by decide +kernel
theorem dX8_setPriority_13 : decode cX8_setPriority 13 = .ok (.aload_n 0, 1) := by decide +kernel
theorem dX8_setPriority_14 : decode cX8_setPriority 14 = .ok (.iload_n 2, 1) := by decide +kernel
theorem dX8_setPriority_15 : decode cX8_setPriority 15 = .ok (.iconst 0, 1) := by decide +kernel
theorem dX8_setPriority_16 : decode cX8_setPriority 16 = .ok (.bipush 9, 2) := by decide +kernel
theorem dX8_setPriority_18 : decode cX8_setPriority 18 = .ok (.invokestatic 63, 3) := by decide +kernel
theorem dX8_setPriority_21 : decode cX8_setPriority 21 = .ok (.ifCond .ne 7, 3) := by decide +kernel
theorem dX8_setPriority_24 : decode cX8_setPriority 24 = .ok (.iconst 1, 1) := by decide +kernel
theorem dX8_setPriority_25 : decode cX8_setPriority 25 = .ok (.goto 4, 3) := by decide +kernel
theorem dX8_setPriority_28 : decode cX8_setPriority 28 = .ok (.iconst 0, 1) := by decide +kernel
theorem dX8_setPriority_29 : decode cX8_setPriority 29 = .ok (.iconst 2, 1) := by decide +kernel
theorem dX8_setPriority_30 : decode cX8_setPriority 30 = .ok (.invokevirtual 162, 3) := by decide +kernel
theorem dX8_setPriority_33 : decode cX8_setPriority 33 = .ok (.ifCond .eq 5, 3) := by decide +kernel
theorem dX8_setPriority_36 : decode cX8_setPriority 36 = .ok (.iconst 0, 1) := by decide +kernel
theorem dX8_setPriority_37 : decode cX8_setPriority 37 = .ok (.ireturn, 1) := by decide +kernel
theorem dX8_setPriority_38 : decode cX8_setPriority 38 = .ok (.aload_n 0, 1) := by decide +kernel
theorem dX8_setPriority_39 : decode cX8_setPriority 39 = .ok (.invokevirtual 175, 3) := by decide +kernel
theorem dX8_setPriority_42 : decode cX8_setPriority 42 = .ok (.aload_n 0, 1) := by decide +kernel
theorem dX8_setPriority_43 : decode cX8_setPriority 43 = .ok (.getfield 17, 3) := by decide +kernel
theorem dX8_setPriority_46 : decode cX8_setPriority 46 = .ok (.iload_n 1, 1) := by decide +kernel
theorem dX8_setPriority_47 : decode cX8_setPriority 47 = .ok (.invokestatic 136, 3) := by decide +kernel
theorem dX8_setPriority_50 : decode cX8_setPriority 50 = .ok (.iconst 1, 1) := by decide +kernel
theorem dX8_setPriority_51 : decode cX8_setPriority 51 = .ok (.iadd, 1) := by decide +kernel
theorem dX8_setPriority_52 : decode cX8_setPriority 52 = .ok (.iaload, 1) := by decide +kernel
theorem dX8_setPriority_53 : decode cX8_setPriority 53 = .ok (.istore_n 3, 1) := by decide +kernel
theorem dX8_setPriority_54 : decode cX8_setPriority 54 = .ok (.aload_n 0, 1) := by decide +kernel
theorem dX8_setPriority_55 : decode cX8_setPriority 55 = .ok (.getfield 17, 3) := by decide +kernel
theorem dX8_setPriority_58 : decode cX8_setPriority 58 = .ok (.iload_n 1, 1) := by decide +kernel
theorem dX8_setPriority_59 : decode cX8_setPriority 59 = .ok (.invokestatic 136, 3) := by decide +kernel
theorem dX8_setPriority_62 : decode cX8_setPriority 62 = .ok (.iconst 1, 1) := by decide +kernel
theorem dX8_setPriority_63 : decode cX8_setPriority 63 = .ok (.iadd, 1) := by decide +kernel
theorem dX8_setPriority_64 : decode cX8_setPriority 64 = .ok (.iload_n 2, 1) := by decide +kernel
theorem dX8_setPriority_65 : decode cX8_setPriority 65 = .ok (.iastore, 1) := by decide +kernel
theorem dX8_setPriority_66 : decode cX8_setPriority 66 = .ok (.iload_n 3, 1) := by decide +kernel
theorem dX8_setPriority_67 : decode cX8_setPriority 67 = .ok (.ireturn, 1) := by decide +kernel
theorem dX8_pause_0 : decode cX8_pause 0 = .ok (.aload_n 0, 1) := by decide +kernel
theorem dX8_pause_1 : decode cX8_pause 1 = .ok (.iconst 0, 1) := by decide +kernel
theorem dX8_pause_2 : decode cX8_pause 2 = .ok (.putfield 38, 3) := by decide +kernel
theorem dX8_pause_5 : decode cX8_pause 5 = .ok (.aload_n 0, 1) := by decide +kernel
theorem dX8_pause_6 : decode cX8_pause 6 = .ok (.iload_n 1, 1) := by decide +kernel
theorem dX8_pause_7 : decode cX8_pause 7 = .ok (.invokevirtual 230, 3) := by decide +kernel
theorem dX8_pause_10 : decode cX8_pause 10 = .ok (.ifCond .eq 5, 3) := by decide +kernel
theorem dX8_pause_13 : decode cX8_pause 13 = .ok (.iconst 0, 1) := by decide +kernel
theorem dX8_pause_14 : decode cX8_pause 14 = .ok (.ireturn, 1) := by decide +kernel
theorem dX8_pause_15 : decode cX8_pause 15 = .ok (.aload_n 0, 1) := by decide +kernel
theorem dX8_pause_16 : decode cX8_pause 16 = .ok (.invokevirtual 175, 3) := by decide +kernel
theorem dX8_pause_19 : decode cX8_pause 19 = .ok (.aload_n 0, 1) := by decide +kernel
theorem dX8_pause_20 : decode cX8_pause 20 = .ok (.getfield 17, 3) := by decide +kernel
theorem dX8_pause_23 : decode cX8_pause 23 = .ok (.iload_n 1, 1) := by decide +kernel
theorem dX8_pause_24 : decode cX8_pause 24 = .ok (.invokestatic 41, 3) := by decide +kernel
theorem dX8_pause_27 : decode cX8_pause 27 = .ok (.iconst 3, 1) := by decide +kernel
theorem dX8_pause_28 : decode cX8_pause 28 = .ok (.iadd, 1) := by decide +kernel
theorem dX8_pause_29 : decode cX8_pause 29 = .ok (.iaload, 1) := by decide +kernel
theorem dX8_pause_30 : decode cX8_pause 30 = .ok (.iconst 1, 1) := by decide +kernel
theorem dX8_pause_31 : decode cX8_pause 31 = .ok (.if_icmp .ne 7, 3) := by decide +kernel
theorem dX8_pause_34 : decode cX8_pause 34 = .ok (.iconst 1, 1) := by decide +kernel
theorem dX8_pause_35 : decode cX8_pause 35 = .ok (.goto 4, 3) := by decide +kernel
theorem dX8_pause_38 : decode cX8_pause 38 = .ok (.iconst 0, 1) := by decide +kernel
theorem dX8_pause_39 : decode cX8_pause 39 = .ok (.istore_n 3, 1) := by decide +kernel
theorem dX8_pause_40 : decode cX8_pause 40 = .ok (.aload_n 0, 1) := by decide +kernel
theorem dX8_pause_41 : decode cX8_pause 41 = .ok (.getfield 17, 3) := by decide +kernel
theorem dX8_pause_44 : decode cX8_pause 44 = .ok (.iload_n 1, 1) := by decide +kernel
theorem dX8_pause_45 : decode cX8_pause 45 = .ok (.invokestatic 41, 3) := by decide +kernel
theorem dX8_pause_48 : decode cX8_pause 48 = .ok (.iconst 3, 1) := by decide +kernel
theorem dX8_pause_49 : decode cX8_pause 49 = .ok (.iadd, 1) := by decide +kernel
theorem dX8_pause_50 : decode cX8_pause 50 = .ok (.iload_n 2, 1) := by decide +kernel
theorem dX8_pause_51 : decode cX8_pause 51 = .ok (.ifCond .eq 7, 3) := by decide +kernel
theorem dX8_pause_54 : decode cX8_pause 54 = .ok (.iconst 1, 1) := by decide +kernel
theorem dX8_pause_55 : decode cX8_pause 55 = .ok (.goto 4, 3) := by decide +kernel
theorem dX8_pause_58 : decode cX8_pause 58 = .ok (.iconst 0, 1) := by decide +kernel
theorem dX8_pause_59 : decode cX8_pause 59 = .ok (.iastore, 1) := by decide +kernel
theorem dX8_pause_60 : decode cX8_pause 60 = .ok (.iload_n 3, 1) := by decide +kernel
theorem dX8_pause_61 : decode cX8_pause 61 = .ok (.ireturn, 1) := by decide +kernel
theorem dX8_undo_0 : decode cX8_undo 0 = .ok (.aload_n 0, 1) := by decide +kernel
theorem dX8_undo_1 : decode cX8_undo 1 = .ok (.iconst 0, 1) := by decide +kernel
theorem dX8_undo_2 : decode cX8_undo 2 = .ok (.putfield 38, 3) := by decide +kernel
theorem dX8_undo_5 : decode cX8_undo 5 = .ok (.aload_n 0, 1) := by decide +kernel
theorem dX8_undo_6 : decode cX8_undo 6 = .ok (.getfield 252, 3) := by decide +kernel
theorem dX8_undo_9 : decode cX8_undo 9 = .ok (.ifCond .ne 5, 3) := by decide +kernel
theorem dX8_undo_12 : decode cX8_undo 12 = .ok (.iconst (-1), 1) := by decide +kernel
theorem dX8_undo_13 : decode cX8_undo 13 = .ok (.ireturn, 1) := by decide +kernel
theorem dX8_undo_14 : decode cX8_undo 14 = .ok (.aload_n 0, 1) := by decide +kernel
theorem dX8_undo_15 : decode cX8_undo 15 = .ok (.dup, 1) := by decide +kernel
theorem dX8_undo_16 : decode cX8_undo 16 = .ok (.getfield 252, 3) := by decide +kernel
theorem dX8_undo_19 : decode cX8_undo 19 = .ok (.iconst 1, 1) := by decide +kernel
theorem dX8_undo_20 : decode cX8_undo 20 = .ok (.isub, 1) := by decide +kernel
theorem dX8_undo_21 : decode cX8_undo 21 = .ok (.putfield 252, 3) := by decide +kernel
theorem dX8_undo_24 : decode cX8_undo 24 = .ok (.aload_n 0, 1) := by decide +kernel
theorem dX8_undo_25 : decode cX8_undo 25 = .ok (.getfield 28, 3) := by decide +kernel
theorem dX8_undo_28 : decode cX8_undo 28 = .ok (.aload_n 0, 1) := by decide +kernel
theorem dX8_undo_29 : decode cX8_undo 29 = .ok (.getfield 252, 3) := by decide +kernel
theorem dX8_undo_32 : decode cX8_undo 32 = .ok (.aaload, 1) := by decide +kernel
theorem dX8_undo_33 : decode cX8_undo 33 = .ok (.aload_n 0, 1) := by decide +kernel
theorem dX8_undo_34 : decode cX8_undo 34 = .ok (.getfield 17, 3) := by decide +kernel
theorem dX8_undo_37 : decode cX8_undo 37 = .ok (.invokestatic 178, 3) := by decide +kernel
theorem dX8_undo_40 : decode cX8_undo 40 = .ok (.aload_n 0, 1) := by decide +kernel
theorem dX8_undo_41 : decode cX8_undo 41 = .ok (.getfield 252, 3) := by decide +kernel
theorem dX8_undo_44 : decode cX8_undo 44 = .ok (.ireturn, 1) := by decide +kernel
theorem dX8_checksum_0 : decode cX8_checksum 0 = .ok (.aload_n 0, 1) := by decide +kernel
theorem dX8_checksum_1 : decode cX8_checksum 1 = .ok (.iconst 0, 1) := by decide +kernel
theorem dX8_checksum_2 : decode cX8_checksum 2 = .ok (.putfield 38, 3) := by decide +kernel
theorem dX8_checksum_5 : decode cX8_checksum 5 = .ok (.ldc2_w 256, 3) := by decide +kernel
theorem dX8_checksum_8 : decode cX8_checksum 8 = .ok (.aload_n 0, 1) := by decide +kernel
theorem dX8_checksum_9 : decode cX8_checksum 9 = .ok (.getfield 17, 3) := by decide +kernel
theorem dX8_checksum_12 : decode cX8_checksum 12 = .ok (.iconst 5, 1) := by decide +kernel
theorem dX8_checksum_13 : decode cX8_checksum 13 = .ok (.iaload, 1) := by decide +kernel
theorem dX8_checksum_14 : decode cX8_checksum 14 = .ok (.i2l, 1) := by decide +kernel
theorem dX8_checksum_15 : decode cX8_checksum 15 = .ok (.lmul, 1) := by decide +kernel
theorem dX8_checksum_16 : decode cX8_checksum 16 = .ok (.aload_n 0, 1) := by decide +kernel
theorem dX8_checksum_17 : decode cX8_checksum 17 = .ok (.getfield 17, 3) := by decide +kernel
theorem dX8_checksum_20 : decode cX8_checksum 20 = .ok (.invokestatic 236, 3) := by decide +kernel
theorem dX8_checksum_23 : decode cX8_checksum 23 = .ok (.i2l, 1) := by decide +kernel
theorem dX8_checksum_24 : decode cX8_checksum 24 = .ok (.ladd, 1) := by decide +kernel
theorem dX8_checksum_25 : decode cX8_checksum 25 = .ok (.lstore_n 1, 1) := by decide +kernel
theorem dX8_checksum_26 : decode cX8_checksum 26 = .ok (.iconst 0, 1) := by decide +kernel
theorem dX8_checksum_27 : decode cX8_checksum 27 = .ok (.istore_n 3, 1) := by decide +kernel
theorem dX8_checksum_28 : decode cX8_checksum 28 = .ok (.iload_n 3, 1) := by decide +kernel
theorem dX8_checksum_29 : decode cX8_checksum 29 = .ok (.aload_n 0, 1) := by decide +kernel
theorem dX8_checksum_30 : decode cX8_checksum 30 = .ok (.getfield 17, 3) := by decide +kernel
theorem dX8_checksum_33 : decode cX8_checksum 33 = .ok (.iconst 3, 1) := by decide +kernel
theorem dX8_checksum_34 : decode cX8_checksum 34 = .ok (.iaload, 1) := by decide +kernel
theorem dX8_checksum_35 : decode cX8_checksum 35 = .ok (.if_icmp .ge 63, 3) := by decide +kernel
theorem dX8_checksum_38 : decode cX8_checksum 38 = .ok (.ldc2_w 256, 3) := by decide +kernel
theorem dX8_checksum_41 : decode cX8_checksum 41 = .ok (.lload_n 1, 1) := by decide +kernel
theorem dX8_checksum_42 : decode cX8_checksum 42 = .ok (.lmul, 1) := by decide +kernel
theorem dX8_checksum_43 : decode cX8_checksum 43 = .ok (.aload_n 0, 1) := by decide +kernel
theorem dX8_checksum_44 : decode cX8_checksum 44 = .ok (.getfield 17, 3) := by decide +kernel
theorem dX8_checksum_47 : decode cX8_checksum 47 = .ok (.iload_n 3, 1) := by decide +kernel
theorem dX8_checksum_48 : decode cX8_checksum 48 = .ok (.invokestatic 136, 3) := by decide +kernel
theorem dX8_checksum_51 : decode cX8_checksum 51 = .ok (.iconst 4, 1) := by decide +kernel
theorem dX8_checksum_52 : decode cX8_checksum 52 = .ok (.iadd, 1) := by decide +kernel
theorem dX8_checksum_53 : decode cX8_checksum 53 = .ok (.iaload, 1) := by decide +kernel
theorem dX8_checksum_54 : decode cX8_checksum 54 = .ok (.i2l, 1) := by decide +kernel
theorem dX8_checksum_55 : decode cX8_checksum 55 = .ok (.ladd, 1) := by decide +kernel
theorem dX8_checksum_56 : decode cX8_checksum 56 = .ok (.lstore_n 1, 1) := by decide +kernel
theorem dX8_checksum_57 : decode cX8_checksum 57 = .ok (.ldc2_w 256, 3) := by decide +kernel
theorem dX8_checksum_60 : decode cX8_checksum 60 = .ok (.lload_n 1, 1) := by decide +kernel
theorem dX8_checksum_61 : decode cX8_checksum 61 = .ok (.lmul, 1) := by decide +kernel
theorem dX8_checksum_62 : decode cX8_checksum 62 = .ok (.aload_n 0, 1) := by decide +kernel
theorem dX8_checksum_63 : decode cX8_checksum 63 = .ok (.getfield 17, 3) := by decide +kernel
theorem dX8_checksum_66 : decode cX8_checksum 66 = .ok (.iload_n 3, 1) := by decide +kernel
theorem dX8_checksum_67 : decode cX8_checksum 67 = .ok (.invokestatic 136, 3) := by decide +kernel
theorem dX8_checksum_70 : decode cX8_checksum 70 = .ok (.iconst 1, 1) := by decide +kernel
theorem dX8_checksum_71 : decode cX8_checksum 71 = .ok (.iadd, 1) := by decide +kernel
theorem dX8_checksum_72 : decode cX8_checksum 72 = .ok (.iaload, 1) := by decide +kernel
theorem dX8_checksum_73 : decode cX8_checksum 73 = .ok (.i2l, 1) := by decide +kernel
theorem dX8_checksum_74 : decode cX8_checksum 74 = .ok (.ladd, 1) := by decide +kernel
theorem dX8_checksum_75 : decode cX8_checksum 75 = .ok (.lstore_n 1, 1) := by decide +kernel
theorem dX8_checksum_76 : decode cX8_checksum 76 = .ok (.ldc2_w 256, 3) := by decide +kernel
theorem dX8_checksum_79 : decode cX8_checksum 79 = .ok (.lload_n 1, 1) := by decide +kernel
theorem dX8_checksum_80 : decode cX8_checksum 80 = .ok (.lmul, 1) := by decide +kernel
theorem dX8_checksum_81 : decode cX8_checksum 81 = .ok (.aload_n 0, 1) := by decide +kernel
theorem dX8_checksum_82 : decode cX8_checksum 82 = .ok (.getfield 17, 3) := by decide +kernel
theorem dX8_checksum_85 : decode cX8_checksum 85 = .ok (.iload_n 3, 1) := by decide +kernel
theorem dX8_checksum_86 : decode cX8_checksum 86 = .ok (.invokestatic 203, 3) := by decide +kernel
theorem dX8_checksum_89 : decode cX8_checksum 89 = .ok (.i2l, 1) := by decide +kernel
theorem dX8_checksum_90 : decode cX8_checksum 90 = .ok (.ladd, 1) := by decide +kernel
theorem dX8_checksum_91 : decode cX8_checksum 91 = .ok (.lstore_n 1, 1) := by decide +kernel
theorem dX8_checksum_92 : decode cX8_checksum 92 = .ok (.iinc 3 1, 3) := by decide +kernel
theorem dX8_checksum_95 : decode cX8_checksum 95 = .ok (.goto (-67), 3) := by decide +kernel
theorem dX8_checksum_98 : decode cX8_checksum 98 = .ok (.iconst 0, 1) := by decide +kernel
theorem dX8_checksum_99 : decode cX8_checksum 99 = .ok (.istore_n 3, 1) := by decide +kernel
theorem dX8_checksum_100 : decode cX8_checksum 100 = .ok (.iload_n 3, 1) := by decide +kernel
theorem dX8_checksum_101 : decode cX8_checksum 101 = .ok (.aload_n 0, 1) := by decide +kernel
theorem dX8_checksum_102 : decode cX8_checksum 102 = .ok (.getfield 17, 3) := by decide +kernel
theorem dX8_checksum_105 : decode cX8_checksum 105 = .ok (.iconst 0, 1) := by decide +kernel
theorem dX8_checksum_106 : decode cX8_checksum 106 = .ok (.iaload, 1) := by decide +kernel
theorem dX8_checksum_107 : decode cX8_checksum 107 = .ok (.if_icmp .ge 126, 3) := by decide +kernel
theorem dX8_checksum_110 : decode cX8_checksum 110 = .ok (.iconst 0, 1) := by decide +kernel
theorem dX8_checksum_111 : decode cX8_checksum 111 = .ok (.istore 4, 2) := by decide +kernel
theorem dX8_checksum_113 : decode cX8_checksum 113 = .ok (.iload 4, 2) := by decide +kernel
theorem dX8_checksum_115 : decode cX8_checksum 115 = .ok (.aload_n 0, 1) := by decide +kernel
theorem dX8_checksum_116 : decode cX8_checksum 116 = .ok (.getfield 17, 3) := by decide +kernel
theorem dX8_checksum_119 : decode cX8_checksum 119 = .ok (.iload_n 3, 1) := by decide +kernel
theorem dX8_checksum_120 : decode cX8_checksum 120 = .ok (.invokestatic 41, 3) := by decide +kernel
theorem dX8_checksum_123 : decode cX8_checksum 123 = .ok (.iconst 4, 1) := by decide +kernel
theorem dX8_checksum_124 : decode cX8_checksum 124 = .ok (.iadd, 1) := by decide +kernel
theorem dX8_checksum_125 : decode cX8_checksum 125 = .ok (.iaload, 1) := by decide +kernel
theorem dX8_checksum_126 : decode cX8_checksum 126 = .ok (.if_icmp .ge 31, 3) := by decide +kernel
theorem dX8_checksum_129 : decode cX8_checksum 129 = .ok (.ldc2_w 256, 3) := by decide +kernel
theorem dX8_checksum_132 : decode cX8_checksum 132 = .ok (.lload_n 1, 1) := by decide +kernel
theorem dX8_checksum_133 : decode cX8_checksum 133 = .ok (.lmul, 1) := by decide +kernel
theorem dX8_checksum_134 : decode cX8_checksum 134 = .ok (.aload_n 0, 1) := by decide +kernel
theorem dX8_checksum_135 : decode cX8_checksum 135 = .ok (.getfield 17, 3) := by decide +kernel
theorem dX8_checksum_138 : decode cX8_checksum 138 = .ok (.iload_n 3, 1) := by decide +kernel
theorem dX8_checksum_139 : decode cX8_checksum 139 = .ok (.invokestatic 41, 3) := by decide +kernel
theorem dX8_checksum_142 : decode cX8_checksum 142 = .ok (.iconst 5, 1) := by decide +kernel
theorem dX8_checksum_143 : decode cX8_checksum 143 = .ok (.iadd, 1) := by decide +kernel
theorem dX8_checksum_144 : decode cX8_checksum 144 = .ok (.iload 4, 2) := by decide +kernel
theorem dX8_checksum_146 : decode cX8_checksum 146 = .ok (.iadd, 1) := by decide +kernel
theorem dX8_checksum_147 : decode cX8_checksum 147 = .ok (.iaload, 1) := by decide +kernel
theorem dX8_checksum_148 : decode cX8_checksum 148 = .ok (.i2l, 1) := by decide +kernel
theorem dX8_checksum_149 : decode cX8_checksum 149 = .ok (.ladd, 1) := by decide +kernel
theorem dX8_checksum_150 : decode cX8_checksum 150 = .ok (.lstore_n 1, 1) := by decide +kernel
theorem dX8_checksum_151 : decode cX8_checksum 151 = .ok (.iinc 4 1, 3) := by decide +kernel
theorem dX8_checksum_154 : decode cX8_checksum 154 = .ok (.goto (-41), 3) := by decide +kernel
theorem dX8_checksum_157 : decode cX8_checksum 157 = .ok (.ldc2_w 256, 3) := by decide +kernel
theorem dX8_checksum_160 : decode cX8_checksum 160 = .ok (.lload_n 1, 1) := by decide +kernel
theorem dX8_checksum_161 : decode cX8_checksum 161 = .ok (.lmul, 1) := by decide +kernel
theorem dX8_checksum_162 : decode cX8_checksum 162 = .ok (.aload_n 0, 1) := by decide +kernel
theorem dX8_checksum_163 : decode cX8_checksum 163 = .ok (.getfield 17, 3) := by decide +kernel
theorem dX8_checksum_166 : decode cX8_checksum 166 = .ok (.iload_n 3, 1) := by decide +kernel
theorem dX8_checksum_167 : decode cX8_checksum 167 = .ok (.invokestatic 41, 3) := by decide +kernel
theorem dX8_checksum_170 : decode cX8_checksum 170 = .ok (.iconst 0, 1) := by decide +kernel
theorem dX8_checksum_171 : decode cX8_checksum 171 = .ok (.iadd, 1) := by decide +kernel
theorem dX8_checksum_172 : decode cX8_checksum 172 = .ok (.iaload, 1) := by decide +kernel
theorem dX8_checksum_173 : decode cX8_checksum 173 = .ok (.i2l, 1) := by decide +kernel
theorem dX8_checksum_174 : decode cX8_checksum 174 = .ok (.ladd, 1) := by decide +kernel
theorem dX8_checksum_175 : decode cX8_checksum 175 = .ok (.lstore_n 1, 1) := by decide +kernel
theorem dX8_checksum_176 : decode cX8_checksum 176 = .ok (.ldc2_w 256, 3) := by decide +kernel
theorem dX8_checksum_179 : decode cX8_checksum 179 = .ok (.lload_n 1, 1) := by decide +kernel
theorem dX8_checksum_180 : decode cX8_checksum 180 = .ok (.lmul, 1) := by decide +kernel
theorem dX8_checksum_181 : decode cX8_checksum 181 = .ok (.aload_n 0, 1) := by decide +kernel
theorem dX8_checksum_182 : decode cX8_checksum 182 = .ok (.iload_n 3, 1) := by decide +kernel
theorem dX8_checksum_183 : decode cX8_checksum 183 = .ok (.invokevirtual 233, 3) := by decide +kernel
theorem dX8_checksum_186 : decode cX8_checksum 186 = .ok (.i2l, 1) := by decide +kernel
theorem dX8_checksum_187 : decode cX8_checksum 187 = .ok (.ladd, 1) := by decide +kernel
theorem dX8_checksum_188 : decode cX8_checksum 188 = .ok (.lstore_n 1, 1) := by decide +kernel
theorem dX8_checksum_189 : decode cX8_checksum 189 = .ok (.ldc2_w 256, 3) := by decide +kernel
theorem dX8_checksum_192 : decode cX8_checksum 192 = .ok (.lload_n 1, 1) := by decide +kernel
theorem dX8_checksum_193 : decode cX8_checksum 193 = .ok (.lmul, 1) := by decide +kernel
theorem dX8_checksum_194 : decode cX8_checksum 194 = .ok (.aload_n 0, 1) := by decide +kernel
theorem dX8_checksum_195 : decode cX8_checksum 195 = .ok (.getfield 17, 3) := by decide +kernel
theorem dX8_checksum_198 : decode cX8_checksum 198 = .ok (.iload_n 3, 1) := by decide +kernel
theorem dX8_checksum_199 : decode cX8_checksum 199 = .ok (.invokestatic 41, 3) := by decide +kernel
theorem dX8_checksum_202 : decode cX8_checksum 202 = .ok (.iconst 1, 1) := by decide +kernel
theorem dX8_checksum_203 : decode cX8_checksum 203 = .ok (.iadd, 1) := by decide +kernel
theorem dX8_checksum_204 : decode cX8_checksum 204 = .ok (.iaload, 1) := by decide +kernel
theorem dX8_checksum_205 : decode cX8_checksum 205 = .ok (.i2l, 1) := by decide +kernel
theorem dX8_checksum_206 : decode cX8_checksum 206 = .ok (.ladd, 1) := by decide +kernel
theorem dX8_checksum_207 : decode cX8_checksum 207 = .ok (.lstore_n 1, 1) := by decide +kernel
theorem dX8_checksum_208 : decode cX8_checksum 208 = .ok (.ldc2_w 256, 3) := by decide +kernel
theorem dX8_checksum_211 : decode cX8_checksum 211 = .ok (.lload_n 1, 1) := by decide +kernel
theorem dX8_checksum_212 : decode cX8_checksum 212 = .ok (.lmul, 1) := by decide +kernel
theorem dX8_checksum_213 : decode cX8_checksum 213 = .ok (.aload_n 0, 1) := by decide +kernel
theorem dX8_checksum_214 : decode cX8_checksum 214 = .ok (.getfield 17, 3) := by decide +kernel
theorem dX8_checksum_217 : decode cX8_checksum 217 = .ok (.iload_n 3, 1) := by decide +kernel
theorem dX8_checksum_218 : decode cX8_checksum 218 = .ok (.invokestatic 41, 3) := by decide +kernel
theorem dX8_checksum_221 : decode cX8_checksum 221 = .ok (.iconst 2, 1) := by decide +kernel
theorem dX8_checksum_222 : decode cX8_checksum 222 = .ok (.iadd, 1) := by decide +kernel
theorem dX8_checksum_223 : decode cX8_checksum 223 = .ok (.iaload, 1) := by decide +kernel
theorem dX8_checksum_224 : decode cX8_checksum 224 = .ok (.i2l, 1) := by decide +kernel
theorem dX8_checksum_225 : decode cX8_checksum 225 = .ok (.ladd, 1) := by decide +kernel
theorem dX8_checksum_226 : decode cX8_checksum 226 = .ok (.lstore_n 1, 1) := by decide +kernel
theorem dX8_checksum_227 : decode cX8_checksum 227 = .ok (.iinc 3 1, 3) := by decide +kernel
theorem dX8_checksum_230 : decode cX8_checksum 230 = .ok (.goto (-130), 3) := by decide +kernel
theorem dX8_checksum_233 : decode cX8_checksum 233 = .ok (.lload_n 1, 1) := by decide +kernel
theorem dX8_checksum_234 : decode cX8_checksum 234 = .ok (.lreturn, 1) := by decide +kernel
theorem dJ6_bitCount_0f7a4_0 : decode cJ6_bitCount_0f7a4 0 = .ok (.iload_n 0, 1) := by decide +kernel
theorem dJ6_bitCount_0f7a4_1 : decode cJ6_bitCount_0f7a4 1 = .ok (.iload_n 0, 1) := by decide +kernel
theorem dJ6_bitCount_0f7a4_2 : decode cJ6_bitCount_0f7a4 2 = .ok (.iconst 1, 1) := by decide +kernel
theorem dJ6_bitCount_0f7a4_3 : decode cJ6_bitCount_0f7a4 3 = .ok (.iushr, 1) := by decide +kernel
theorem dJ6_bitCount_0f7a4_4 : decode cJ6_bitCount_0f7a4 4 = .ok (.ldc_w 265, 3) := by decide +kernel
theorem dJ6_bitCount_0f7a4_7 : decode cJ6_bitCount_0f7a4 7 = .ok (.iand, 1) := by decide +kernel
theorem dJ6_bitCount_0f7a4_8 : decode cJ6_bitCount_0f7a4 8 = .ok (.isub, 1) := by decide +kernel
theorem dJ6_bitCount_0f7a4_9 : decode cJ6_bitCount_0f7a4 9 = .ok (.istore_n 0, 1) := by decide +kernel
theorem dJ6_bitCount_0f7a4_10 : decode cJ6_bitCount_0f7a4 10 = .ok (.iload_n 0, 1) := by decide +kernel
theorem dJ6_bitCount_0f7a4_11 : decode cJ6_bitCount_0f7a4 11 = .ok (.ldc_w 266, 3) := by decide +kernel
theorem dJ6_bitCount_0f7a4_14 : decode cJ6_bitCount_0f7a4 14 = .ok (.iand, 1) := by decide +kernel
theorem dJ6_bitCount_0f7a4_15 : decode cJ6_bitCount_0f7a4 15 = .ok (.iload_n 0, 1) := by decide +kernel
theorem dJ6_bitCount_0f7a4_16 : decode cJ6_bitCount_0f7a4 16 = .ok (.iconst 2, 1) := by decide +kernel
theorem dJ6_bitCount_0f7a4_17 : decode cJ6_bitCount_0f7a4 17 = .ok (.iushr, 1) := by decide +kernel
theorem dJ6_bitCount_0f7a4_18 : decode cJ6_bitCount_0f7a4 18 = .ok (.ldc_w 266, 3) := by decide +kernel
theorem dJ6_bitCount_0f7a4_21 : decode cJ6_bitCount_0f7a4 21 = .ok (.iand, 1) := by decide +kernel
theorem dJ6_bitCount_0f7a4_22 : decode cJ6_bitCount_0f7a4 22 = .ok (.iadd, 1) := by decide +kernel
theorem dJ6_bitCount_0f7a4_23 : decode cJ6_bitCount_0f7a4 23 = .ok (.istore_n 0, 1) := by decide +kernel
theorem dJ6_bitCount_0f7a4_24 : decode cJ6_bitCount_0f7a4 24 = .ok (.iload_n 0, 1) := by decide +kernel
theorem dJ6_bitCount_0f7a4_25 : decode cJ6_bitCount_0f7a4 25 = .ok (.iload_n 0, 1) := by decide +kernel
theorem dJ6_bitCount_0f7a4_26 : decode cJ6_bitCount_0f7a4 26 = .ok (.iconst 4, 1) := by decide +kernel
theorem dJ6_bitCount_0f7a4_27 : decode cJ6_bitCount_0f7a4 27 = .ok (.iushr, 1) := by decide +kernel
theorem dJ6_bitCount_0f7a4_28 : decode cJ6_bitCount_0f7a4 28 = .ok (.iadd, 1) := by decide +kernel
theorem dJ6_bitCount_0f7a4_29 : decode cJ6_bitCount_0f7a4 29 = .ok (.ldc_w 267, 3) := by decide +kernel
theorem dJ6_bitCount_0f7a4_32 : decode cJ6_bitCount_0f7a4 32 = .ok (.iand, 1) := by decide +kernel
theorem dJ6_bitCount_0f7a4_33 : decode cJ6_bitCount_0f7a4 33 = .ok (.istore_n 0, 1) := by decide +kernel
theorem dJ6_bitCount_0f7a4_34 : decode cJ6_bitCount_0f7a4 34 = .ok (.iload_n 0, 1) := by decide +kernel
theorem dJ6_bitCount_0f7a4_35 : decode cJ6_bitCount_0f7a4 35 = .ok (.iload_n 0, 1) := by decide +kernel
theorem dJ6_bitCount_0f7a4_36 : decode cJ6_bitCount_0f7a4 36 = .ok (.bipush 8, 2) := by decide +kernel
theorem dJ6_bitCount_0f7a4_38 : decode cJ6_bitCount_0f7a4 38 = .ok (.iushr, 1) := by decide +kernel
theorem dJ6_bitCount_0f7a4_39 : decode cJ6_bitCount_0f7a4 39 = .ok (.iadd, 1) := by decide +kernel
theorem dJ6_bitCount_0f7a4_40 : decode cJ6_bitCount_0f7a4 40 = .ok (.istore_n 0, 1) := by decide +kernel
theorem dJ6_bitCount_0f7a4_41 : decode cJ6_bitCount_0f7a4 41 = .ok (.iload_n 0, 1) := by decide +kernel
theorem dJ6_bitCount_0f7a4_42 : decode cJ6_bitCount_0f7a4 42 = .ok (.iload_n 0, 1) := by decide +kernel
theorem dJ6_bitCount_0f7a4_43 : decode cJ6_bitCount_0f7a4 43 = .ok (.bipush 16, 2) := by decide +kernel
theorem dJ6_bitCount_0f7a4_45 : decode cJ6_bitCount_0f7a4 45 = .ok (.iushr, 1) := by decide +kernel
theorem dJ6_bitCount_0f7a4_46 : decode cJ6_bitCount_0f7a4 46 = .ok (.iadd, 1) := by decide +kernel
theorem dJ6_bitCount_0f7a4_47 : decode cJ6_bitCount_0f7a4 47 = .ok (.istore_n 0, 1) := by decide +kernel
theorem dJ6_bitCount_0f7a4_48 : decode cJ6_bitCount_0f7a4 48 = .ok (.iload_n 0, 1) := by decide +kernel
theorem dJ6_bitCount_0f7a4_49 : decode cJ6_bitCount_0f7a4 49 = .ok (.bipush 63, 2) := by decide +kernel
theorem dJ6_bitCount_0f7a4_51 : decode cJ6_bitCount_0f7a4 51 = .ok (.iand, 1) := by decide +kernel
theorem dJ6_bitCount_0f7a4_52 : decode cJ6_bitCount_0f7a4 52 = .ok (.ireturn, 1) := by decide +kernel
theorem dJ9_max_7cf53_0 : decode cJ9_max_7cf53 0 = .ok (.iload_n 0, 1) := by decide +kernel
theorem dJ9_max_7cf53_1 : decode cJ9_max_7cf53 1 = .ok (.iload_n 1, 1) := by decide +kernel
theorem dJ9_max_7cf53_2 : decode cJ9_max_7cf53 2 = .ok (.if_icmp .lt 7, 3) := by decide +kernel
theorem dJ9_max_7cf53_5 : decode cJ9_max_7cf53 5 = .ok (.iload_n 0, 1) := by decide +kernel
theorem dJ9_max_7cf53_6 : decode cJ9_max_7cf53 6 = .ok (.goto 4, 3) := by decide +kernel
theorem dJ9_max_7cf53_9 : decode cJ9_max_7cf53 9 = .ok (.iload_n 1, 1) := by decide +kernel
theorem dJ9_max_7cf53_10 : decode cJ9_max_7cf53 10 = .ok (.ireturn, 1) := by decide +kernel
theorem dJ9_max_f86c9_0 : decode cJ9_max_f86c9 0 = .ok (.lload_n 0, 1) := by decide +kernel
theorem dJ9_max_f86c9_1 : decode cJ9_max_f86c9 1 = .ok (.lload_n 2, 1) := by decide +kernel
theorem dJ9_max_f86c9_2 : decode cJ9_max_f86c9 2 = .ok (.lcmp, 1) := by decide +kernel
theorem dJ9_max_f86c9_3 : decode cJ9_max_f86c9 3 = .ok (.ifCond .lt 7, 3) := by decide +kernel
theorem dJ9_max_f86c9_6 : decode cJ9_max_f86c9 6 = .ok (.lload_n 0, 1) := by decide +kernel
theorem dJ9_max_f86c9_7 : decode cJ9_max_f86c9 7 = .ok (.goto 4, 3) := by decide +kernel
theorem dJ9_max_f86c9_10 : decode cJ9_max_f86c9 10 = .ok (.lload_n 2, 1) := by decide +kernel
theorem dJ9_max_f86c9_11 : decode cJ9_max_f86c9 11 = .ok (.lreturn, 1) := by decide +kernel
theorem dJ9_min_7cf53_0 : decode cJ9_min_7cf53 0 = .ok (.iload_n 0, 1) := by decide +kernel
theorem dJ9_min_7cf53_1 : decode cJ9_min_7cf53 1 = .ok (.iload_n 1, 1) := by decide +kernel
theorem dJ9_min_7cf53_2 : decode cJ9_min_7cf53 2 = .ok (.if_icmp .gt 7, 3) := by decide +kernel
theorem dJ9_min_7cf53_5 : decode cJ9_min_7cf53 5 = .ok (.iload_n 0, 1) := by decide +kernel
theorem dJ9_min_7cf53_6 : decode cJ9_min_7cf53 6 = .ok (.goto 4, 3) := by decide +kernel
theorem dJ9_min_7cf53_9 : decode cJ9_min_7cf53 9 = .ok (.iload_n 1, 1) := by decide +kernel
theorem dJ9_min_7cf53_10 : decode cJ9_min_7cf53 10 = .ok (.ireturn, 1) := by decide +kernel
theorem dJ9_min_f86c9_0 : decode cJ9_min_f86c9 0 = .ok (.lload_n 0, 1) := by decide +kernel
theorem dJ9_min_f86c9_1 : decode cJ9_min_f86c9 1 = .ok (.lload_n 2, 1) := by decide +kernel
theorem dJ9_min_f86c9_2 : decode cJ9_min_f86c9 2 = .ok (.lcmp, 1) := by decide +kernel
theorem dJ9_min_f86c9_3 : decode cJ9_min_f86c9 3 = .ok (.ifCond .gt 7, 3) := by decide +kernel
theorem dJ9_min_f86c9_6 : decode cJ9_min_f86c9 6 = .ok (.lload_n 0, 1) := by decide +kernel
end
section
theorem dJ9_min_f86c9_7 : decode cJ9_min_f86c9 7 = .ok (.goto 4, 3) := by decide +kernel
theorem dJ9_min_f86c9_10 : decode cJ9_min_f86c9 10 = .ok (.lload_n 2, 1) := by decide +kernel
theorem dJ9_min_f86c9_11 : decode cJ9_min_f86c9 11 = .ok (.lreturn, 1) := by decide +kernel
theorem dJ0_length_8abf5_0 : decode cJ0_length_8abf5 0 = .ok (.aload_n 0, 1) := by decide +kernel
theorem dJ0_length_8abf5_1 : decode cJ0_length_8abf5 1 = .ok (.getfield 9, 3) := by decide +kernel
theorem dJ0_length_8abf5_4 : decode cJ0_length_8abf5 4 = .ok (.arraylength, 1) := by decide +kernel
theorem dJ0_length_8abf5_5 : decode cJ0_length_8abf5 5 = .ok (.aload_n 0, 1) := by decide +kernel
theorem dJ0_length_8abf5_6 : decode cJ0_length_8abf5 6 = .ok (.invokevirtual 335, 3) := by decide +kernel
theorem dJ0_length_8abf5_9 : decode cJ0_length_8abf5 9 = .ok (.ishr, 1) := by decide +kernel
theorem dJ0_length_8abf5_10 : decode cJ0_length_8abf5 10 = .ok (.ireturn, 1) := by decide +kernel
theorem dJ0_charAt_5068e_0 : decode cJ0_charAt_5068e 0 = .ok (.aload_n 0, 1) := by decide +kernel
theorem dJ0_charAt_5068e_1 : decode cJ0_charAt_5068e 1 = .ok (.invokevirtual 492, 3) := by decide +kernel
theorem dJ0_charAt_5068e_4 : decode cJ0_charAt_5068e 4 = .ok (.ifCond .eq 12, 3) := by decide +kernel
theorem dJ0_charAt_5068e_7 : decode cJ0_charAt_5068e 7 = .ok (.aload_n 0, 1) := by decide +kernel
theorem dJ0_charAt_5068e_8 : decode cJ0_charAt_5068e 8 = .ok (.getfield 9, 3) := by decide +kernel
theorem dJ0_charAt_5068e_11 : decode cJ0_charAt_5068e 11 = .ok (.iload_n 1, 1) := by decide +kernel
theorem dJ0_charAt_5068e_12 : decode cJ0_charAt_5068e 12 = .ok (.invokestatic 495, 3) := by decide +kernel
theorem dJ0_charAt_5068e_15 : decode cJ0_charAt_5068e 15 = .ok (.ireturn, 1) := by decide +kernel
theorem dJ0_charAt_5068e_16 : decode cJ0_charAt_5068e 16 = .ok (.aload_n 0, 1) := by decide +kernel
theorem dJ0_charAt_5068e_17 : decode cJ0_charAt_5068e 17 = .ok (.getfield 9, 3) := by decide +kernel
theorem dJ0_charAt_5068e_20 : decode cJ0_charAt_5068e 20 = .ok (.iload_n 1, 1) := by decide +kernel
theorem dJ0_charAt_5068e_21 : decode cJ0_charAt_5068e 21 = .ok (.invokestatic 498, 3) := by decide +kernel
theorem dJ0_charAt_5068e_24 : decode cJ0_charAt_5068e 24 = .ok (.ireturn, 1) := by decide +kernel
theorem dJ0_coder_7d493_0 : decode cJ0_coder_7d493 0 = .ok (.getstatic 38, 3) := by decide +kernel
theorem dJ0_coder_7d493_3 : decode cJ0_coder_7d493 3 = .ok (.ifCond .eq 10, 3) := by decide +kernel
theorem dJ0_coder_7d493_6 : decode cJ0_coder_7d493 6 = .ok (.aload_n 0, 1) := by decide +kernel
theorem dJ0_coder_7d493_7 : decode cJ0_coder_7d493 7 = .ok (.getfield 15, 3) := by decide +kernel
theorem dJ0_coder_7d493_10 : decode cJ0_coder_7d493 10 = .ok (.goto 4, 3) := by decide +kernel
theorem dJ0_coder_7d493_13 : decode cJ0_coder_7d493 13 = .ok (.iconst 1, 1) := by decide +kernel
theorem dJ0_coder_7d493_14 : decode cJ0_coder_7d493 14 = .ok (.ireturn, 1) := by decide +kernel
theorem dJ0_isLatin1_aae02_0 : decode cJ0_isLatin1_aae02 0 = .ok (.getstatic 38, 3) := by decide +kernel
theorem dJ0_isLatin1_aae02_3 : decode cJ0_isLatin1_aae02 3 = .ok (.ifCond .eq 14, 3) := by decide +kernel
theorem dJ0_isLatin1_aae02_6 : decode cJ0_isLatin1_aae02 6 = .ok (.aload_n 0, 1) := by decide +kernel
theorem dJ0_isLatin1_aae02_7 : decode cJ0_isLatin1_aae02 7 = .ok (.getfield 15, 3) := by decide +kernel
theorem dJ0_isLatin1_aae02_10 : decode cJ0_isLatin1_aae02 10 = .ok (.ifCond .ne 7, 3) := by decide +kernel
theorem dJ0_isLatin1_aae02_13 : decode cJ0_isLatin1_aae02 13 = .ok (.iconst 1, 1) := by decide +kernel
theorem dJ0_isLatin1_aae02_14 : decode cJ0_isLatin1_aae02 14 = .ok (.goto 4, 3) := by decide +kernel
theorem dJ0_isLatin1_aae02_17 : decode cJ0_isLatin1_aae02 17 = .ok (.iconst 0, 1) := by decide +kernel
theorem dJ0_isLatin1_aae02_18 : decode cJ0_isLatin1_aae02 18 = .ok (.ireturn, 1) := by decide +kernel
theorem dJ0_checkIndex_df160_0 : decode cJ0_checkIndex_df160 0 = .ok (.iload_n 0, 1) := by decide +kernel
theorem dJ0_checkIndex_df160_1 : decode cJ0_checkIndex_df160 1 = .ok (.iload_n 1, 1) := by decide +kernel
theorem dJ0_checkIndex_df160_2 : decode cJ0_checkIndex_df160 2 = .ok (.getstatic 1053, 3) := by decide +kernel
theorem dJ0_checkIndex_df160_5 : decode cJ0_checkIndex_df160 5 = .ok (.invokestatic 1059, 3) := by decide +kernel
theorem dJ0_checkIndex_df160_8 : decode cJ0_checkIndex_df160 8 = .ok (.pop, 1) := by decide +kernel
theorem dJ0_checkIndex_df160_9 : decode cJ0_checkIndex_df160 9 = .ok (.return_, 1) := by decide +kernel
theorem dJ1_charAt_3b067_0 : decode cJ1_charAt_3b067 0 = .ok (.iload_n 1, 1) := by decide +kernel
theorem dJ1_charAt_3b067_1 : decode cJ1_charAt_3b067 1 = .ok (.aload_n 0, 1) := by decide +kernel
theorem dJ1_charAt_3b067_2 : decode cJ1_charAt_3b067 2 = .ok (.arraylength, 1) := by decide +kernel
theorem dJ1_charAt_3b067_3 : decode cJ1_charAt_3b067 3 = .ok (.invokestatic 9, 3) := by decide +kernel
theorem dJ1_charAt_3b067_6 : decode cJ1_charAt_3b067 6 = .ok (.aload_n 0, 1) := by decide +kernel
theorem dJ1_charAt_3b067_7 : decode cJ1_charAt_3b067 7 = .ok (.iload_n 1, 1) := by decide +kernel
theorem dJ1_charAt_3b067_8 : decode cJ1_charAt_3b067 8 = .ok (.baload, 1) := by decide +kernel
theorem dJ1_charAt_3b067_9 : decode cJ1_charAt_3b067 9 = .ok (.sipush 255, 3) := by decide +kernel
theorem dJ1_charAt_3b067_12 : decode cJ1_charAt_3b067 12 = .ok (.iand, 1) := by decide +kernel
theorem dJ1_charAt_3b067_13 : decode cJ1_charAt_3b067 13 = .ok (.i2c, 1) := by decide +kernel
theorem dJ1_charAt_3b067_14 : decode cJ1_charAt_3b067 14 = .ok (.ireturn, 1) := by decide +kernel
theorem dJ2_getChar_3b067_0 : decode cJ2_getChar_3b067 0 = .ok (.getstatic 44, 3) := by decide +kernel
theorem dJ2_getChar_3b067_3 : decode cJ2_getChar_3b067 3 = .ok (.ifCond .ne 25, 3) := by decide +kernel
theorem dJ2_getChar_3b067_6 : decode cJ2_getChar_3b067 6 = .ok (.iload_n 1, 1) := by decide +kernel
theorem dJ2_getChar_3b067_7 : decode cJ2_getChar_3b067 7 = .ok (.ifCond .lt 11, 3) := by decide +kernel
theorem dJ2_getChar_3b067_10 : decode cJ2_getChar_3b067 10 = .ok (.iload_n 1, 1) := by decide +kernel
theorem dJ2_getChar_3b067_11 : decode cJ2_getChar_3b067 11 = .ok (.aload_n 0, 1) := by decide +kernel
theorem dJ2_getChar_3b067_12 : decode cJ2_getChar_3b067 12 = .ok (.invokestatic 48, 3) := by decide +kernel
theorem dJ2_getChar_3b067_15 : decode cJ2_getChar_3b067 15 = .ok (.if_icmp .lt 13, 3) := by decide +kernel
theorem dJ2_getChar_3b067_18 : decode cJ2_getChar_3b067 18 = .ok (.new 52, 3) := by decide +kernel
theorem dJ2_getChar_3b067_21 : decode cJ2_getChar_3b067 21 = .ok (.dup, 1) := by decide +kernel
theorem dJ2_getChar_3b067_22 : decode cJ2_getChar_3b067 22 = .ok (.ldc 54, 2) := by decide +kernel
theorem dJ2_getChar_3b067_24 : decode cJ2_getChar_3b067 24 = .ok (.invokespecial 56, 3) := by decide +kernel
theorem dJ2_getChar_3b067_27 : decode cJ2_getChar_3b067 27 = .ok (.athrow, 1) := by decide +kernel
theorem dJ2_getChar_3b067_28 : decode cJ2_getChar_3b067 28 = .ok (.iload_n 1, 1) := by decide +kernel
theorem dJ2_getChar_3b067_29 : decode cJ2_getChar_3b067 29 = .ok (.iconst 1, 1) := by decide +kernel
theorem dJ2_getChar_3b067_30 : decode cJ2_getChar_3b067 30 = .ok (.ishl, 1) := by decide +kernel
theorem dJ2_getChar_3b067_31 : decode cJ2_getChar_3b067 31 = .ok (.istore_n 1, 1) := by decide +kernel
theorem dJ2_getChar_3b067_32 : decode cJ2_getChar_3b067 32 = .ok (.aload_n 0, 1) := by decide +kernel
theorem dJ2_getChar_3b067_33 : decode cJ2_getChar_3b067 33 = .ok (.iload_n 1, 1) := by decide +kernel
theorem dJ2_getChar_3b067_34 : decode cJ2_getChar_3b067 34 = .ok (.iinc 1 1, 3) := by decide +kernel
theorem dJ2_getChar_3b067_37 : decode cJ2_getChar_3b067 37 = .ok (.baload, 1) := by decide +kernel
theorem dJ2_getChar_3b067_38 : decode cJ2_getChar_3b067 38 = .ok (.sipush 255, 3) := by decide +kernel
theorem dJ2_getChar_3b067_41 : decode cJ2_getChar_3b067 41 = .ok (.iand, 1) := by decide +kernel
theorem dJ2_getChar_3b067_42 : decode cJ2_getChar_3b067 42 = .ok (.getstatic 59, 3) := by decide +kernel
theorem dJ2_getChar_3b067_45 : decode cJ2_getChar_3b067 45 = .ok (.ishl, 1) := by decide +kernel
theorem dJ2_getChar_3b067_46 : decode cJ2_getChar_3b067 46 = .ok (.aload_n 0, 1) := by decide +kernel
theorem dJ2_getChar_3b067_47 : decode cJ2_getChar_3b067 47 = .ok (.iload_n 1, 1) := by decide +kernel
theorem dJ2_getChar_3b067_48 : decode cJ2_getChar_3b067 48 = .ok (.baload, 1) := by decide +kernel
theorem dJ2_getChar_3b067_49 : decode cJ2_getChar_3b067 49 = .ok (.sipush 255, 3) := by decide +kernel
theorem dJ2_getChar_3b067_52 : decode cJ2_getChar_3b067 52 = .ok (.iand, 1) := by decide +kernel
theorem dJ2_getChar_3b067_53 : decode cJ2_getChar_3b067 53 = .ok (.getstatic 63, 3) := by decide +kernel
theorem dJ2_getChar_3b067_56 : decode cJ2_getChar_3b067 56 = .ok (.ishl, 1) := by decide +kernel
theorem dJ2_getChar_3b067_57 : decode cJ2_getChar_3b067 57 = .ok (.ior, 1) := by decide +kernel
theorem dJ2_getChar_3b067_58 : decode cJ2_getChar_3b067 58 = .ok (.i2c, 1) := by decide +kernel
theorem dJ2_getChar_3b067_59 : decode cJ2_getChar_3b067 59 = .ok (.ireturn, 1) := by decide +kernel
theorem dJ2_length_9d52b_0 : decode cJ2_length_9d52b 0 = .ok (.aload_n 0, 1) := by decide +kernel
theorem dJ2_length_9d52b_1 : decode cJ2_length_9d52b 1 = .ok (.arraylength, 1) := by decide +kernel
theorem dJ2_length_9d52b_2 : decode cJ2_length_9d52b 2 = .ok (.iconst 1, 1) := by decide +kernel
theorem dJ2_length_9d52b_3 : decode cJ2_length_9d52b 3 = .ok (.ishr, 1) := by decide +kernel
theorem dJ2_length_9d52b_4 : decode cJ2_length_9d52b 4 = .ok (.ireturn, 1) := by decide +kernel
theorem dJ2_charAt_3b067_0 : decode cJ2_charAt_3b067 0 = .ok (.iload_n 1, 1) := by decide +kernel
theorem dJ2_charAt_3b067_1 : decode cJ2_charAt_3b067 1 = .ok (.aload_n 0, 1) := by decide +kernel
theorem dJ2_charAt_3b067_2 : decode cJ2_charAt_3b067 2 = .ok (.invokestatic 67, 3) := by decide +kernel
theorem dJ2_charAt_3b067_5 : decode cJ2_charAt_3b067 5 = .ok (.aload_n 0, 1) := by decide +kernel
theorem dJ2_charAt_3b067_6 : decode cJ2_charAt_3b067 6 = .ok (.iload_n 1, 1) := by decide +kernel
theorem dJ2_charAt_3b067_7 : decode cJ2_charAt_3b067 7 = .ok (.invokestatic 71, 3) := by decide +kernel
theorem dJ2_charAt_3b067_10 : decode cJ2_charAt_3b067 10 = .ok (.ireturn, 1) := by decide +kernel
theorem dJ2_checkIndex_2214a_0 : decode cJ2_checkIndex_2214a 0 = .ok (.iload_n 0, 1) := by decide +kernel
theorem dJ2_checkIndex_2214a_1 : decode cJ2_checkIndex_2214a 1 = .ok (.aload_n 1, 1) := by decide +kernel
theorem dJ2_checkIndex_2214a_2 : decode cJ2_checkIndex_2214a 2 = .ok (.invokestatic 48, 3) := by decide +kernel
theorem dJ2_checkIndex_2214a_5 : decode cJ2_checkIndex_2214a 5 = .ok (.invokestatic 414, 3) := by decide +kernel
theorem dJ2_checkIndex_2214a_8 : decode cJ2_checkIndex_2214a 8 = .ok (.return_, 1) := by decide +kernel
theorem dJ7_copyOf_59c91_0 : decode cJ7_copyOf_59c91 0 = .ok (.iload_n 1, 1) := by decide +kernel
theorem dJ7_copyOf_59c91_1 : decode cJ7_copyOf_59c91 1 = .ok (.aload_n 0, 1) := by decide +kernel
theorem dJ7_copyOf_59c91_2 : decode cJ7_copyOf_59c91 2 = .ok (.arraylength, 1) := by decide +kernel
theorem dJ7_copyOf_59c91_3 : decode cJ7_copyOf_59c91 3 = .ok (.if_icmp .ne 11, 3) := by decide +kernel
theorem dJ7_copyOf_59c91_6 : decode cJ7_copyOf_59c91 6 = .ok (.aload_n 0, 1) := by decide +kernel
theorem dJ7_copyOf_59c91_7 : decode cJ7_copyOf_59c91 7 = .ok (.invokevirtual 316, 3) := by decide +kernel
theorem dJ7_copyOf_59c91_10 : decode cJ7_copyOf_59c91 10 = .ok (.checkcast 317, 3) := by decide +kernel
theorem dJ7_copyOf_59c91_13 : decode cJ7_copyOf_59c91 13 = .ok (.areturn, 1) := by decide +kernel
theorem dJ7_copyOf_59c91_14 : decode cJ7_copyOf_59c91 14 = .ok (.iload_n 1, 1) := by decide +kernel
theorem dJ7_copyOf_59c91_15 : decode cJ7_copyOf_59c91 15 = .ok (.newarray .int, 2) := by decide +kernel
theorem dJ7_copyOf_59c91_17 : decode cJ7_copyOf_59c91 17 = .ok (.astore_n 2, 1) := by decide +kernel
theorem dJ7_copyOf_59c91_18 : decode cJ7_copyOf_59c91 18 = .ok (.aload_n 0, 1) := by decide +kernel
theorem dJ7_copyOf_59c91_19 : decode cJ7_copyOf_59c91 19 = .ok (.iconst 0, 1) := by decide +kernel
theorem dJ7_copyOf_59c91_20 : decode cJ7_copyOf_59c91 20 = .ok (.aload_n 2, 1) := by decide +kernel
theorem dJ7_copyOf_59c91_21 : decode cJ7_copyOf_59c91 21 = .ok (.iconst 0, 1) := by decide +kernel
theorem dJ7_copyOf_59c91_22 : decode cJ7_copyOf_59c91 22 = .ok (.aload_n 0, 1) := by decide +kernel
theorem dJ7_copyOf_59c91_23 : decode cJ7_copyOf_59c91 23 = .ok (.arraylength, 1) := by decide +kernel
theorem dJ7_copyOf_59c91_24 : decode cJ7_copyOf_59c91 24 = .ok (.iload_n 1, 1) := by decide +kernel
theorem dJ7_copyOf_59c91_25 : decode cJ7_copyOf_59c91 25 = .ok (.invokestatic 304, 3) := by decide +kernel
theorem dJ7_copyOf_59c91_28 : decode cJ7_copyOf_59c91 28 = .ok (.invokestatic 150, 3) := by decide +kernel
theorem dJ7_copyOf_59c91_31 : decode cJ7_copyOf_59c91 31 = .ok (.aload_n 2, 1) := by decide +kernel
theorem dJ7_copyOf_59c91_32 : decode cJ7_copyOf_59c91 32 = .ok (.areturn, 1) := by decide +kernel
theorem dJ3_checkIndex_8e157_0 : decode cJ3_checkIndex_8e157 0 = .ok (.iload_n 0, 1) := by decide +kernel
theorem dJ3_checkIndex_8e157_1 : decode cJ3_checkIndex_8e157 1 = .ok (.ifCond .lt 8, 3) := by decide +kernel
theorem dJ3_checkIndex_8e157_4 : decode cJ3_checkIndex_8e157 4 = .ok (.iload_n 0, 1) := by decide +kernel
theorem dJ3_checkIndex_8e157_5 : decode cJ3_checkIndex_8e157 5 = .ok (.iload_n 1, 1) := by decide +kernel
theorem dJ3_checkIndex_8e157_6 : decode cJ3_checkIndex_8e157 6 = .ok (.if_icmp .lt 10, 3) := by decide +kernel
theorem dJ3_checkIndex_8e157_9 : decode cJ3_checkIndex_8e157 9 = .ok (.aload_n 2, 1) := by decide +kernel
theorem dJ3_checkIndex_8e157_10 : decode cJ3_checkIndex_8e157 10 = .ok (.iload_n 0, 1) := by decide +kernel
theorem dJ3_checkIndex_8e157_11 : decode cJ3_checkIndex_8e157 11 = .ok (.iload_n 1, 1) := by decide +kernel
theorem dJ3_checkIndex_8e157_12 : decode cJ3_checkIndex_8e157 12 = .ok (.invokestatic 95, 3) := by decide +kernel
theorem dJ3_checkIndex_8e157_15 : decode cJ3_checkIndex_8e157 15 = .ok (.athrow, 1) := by decide +kernel
theorem dJ3_checkIndex_8e157_16 : decode cJ3_checkIndex_8e157 16 = .ok (.iload_n 0, 1) := by decide +kernel
theorem dJ3_checkIndex_8e157_17 : decode cJ3_checkIndex_8e157 17 = .ok (.ireturn, 1) := by decide +kernel
theorem dL_load_0 : decode cL_load 0 = .ok (.aload_n 2, 1) := by decide +kernel
theorem dL_load_1 : decode cL_load 1 = .ok (.iconst 0, 1) := by decide +kernel
theorem dL_load_2 : decode cL_load 2 = .ok (.aload_n 0, 1) := by decide +kernel
theorem dL_load_3 : decode cL_load 3 = .ok (.iload_n 1, 1) := by decide +kernel
theorem dL_load_4 : decode cL_load 4 = .ok (.invokevirtual 7, 3) := by decide +kernel
theorem dL_load_7 : decode cL_load 7 = .ok (.i2l, 1) := by decide +kernel
theorem dL_load_8 : decode cL_load 8 = .ok (.lastore, 1) := by decide +kernel
theorem dL_load_9 : decode cL_load 9 = .ok (.goto 6, 3) := by decide +kernel
theorem dL_load_12 : decode cL_load 12 = .ok (.astore_n 3, 1) := by decide +kernel
theorem dL_load_13 : decode cL_load 13 = .ok (.iconst 1, 1) := by decide +kernel
theorem dL_load_14 : decode cL_load 14 = .ok (.ireturn, 1) := by decide +kernel
theorem dL_load_15 : decode cL_load 15 = .ok (.iconst 0, 1) := by decide +kernel
theorem dL_load_16 : decode cL_load 16 = .ok (.ireturn, 1) := by decide +kernel
theorem dL_state_0 : decode cL_state 0 = .ok (.aload_n 2, 1) := by decide +kernel
theorem dL_state_1 : decode cL_state 1 = .ok (.iconst 0, 1) := by decide +kernel
theorem dL_state_2 : decode cL_state 2 = .ok (.aload_n 0, 1) := by decide +kernel
theorem dL_state_3 : decode cL_state 3 = .ok (.iload_n 1, 1) := by decide +kernel
theorem dL_state_4 : decode cL_state 4 = .ok (.invokevirtual 15, 3) := by decide +kernel
theorem dL_state_7 : decode cL_state 7 = .ok (.i2l, 1) := by decide +kernel
theorem dL_state_8 : decode cL_state 8 = .ok (.lastore, 1) := by decide +kernel
theorem dL_state_9 : decode cL_state 9 = .ok (.goto 6, 3) := by decide +kernel
theorem dL_state_12 : decode cL_state 12 = .ok (.astore_n 3, 1) := by decide +kernel
theorem dL_state_13 : decode cL_state 13 = .ok (.iconst 1, 1) := by decide +kernel
theorem dL_state_14 : decode cL_state 14 = .ok (.ireturn, 1) := by decide +kernel
theorem dL_state_15 : decode cL_state 15 = .ok (.iconst 0, 1) := by decide +kernel
theorem dL_state_16 : decode cL_state 16 = .ok (.ireturn, 1) := by decide +kernel
theorem dL_counter_0 : decode cL_counter 0 = .ok (.aload_n 2, 1) := by decide +kernel
theorem dL_counter_1 : decode cL_counter 1 = .ok (.iconst 0, 1) := by decide +kernel
theorem dL_counter_2 : decode cL_counter 2 = .ok (.aload_n 0, 1) := by decide +kernel
theorem dL_counter_3 : decode cL_counter 3 = .ok (.iload_n 1, 1) := by decide +kernel
theorem dL_counter_4 : decode cL_counter 4 = .ok (.invokevirtual 20, 3) := by decide +kernel
theorem dL_counter_7 : decode cL_counter 7 = .ok (.i2l, 1) := by decide +kernel
theorem dL_counter_8 : decode cL_counter 8 = .ok (.lastore, 1) := by decide +kernel
theorem dL_counter_9 : decode cL_counter 9 = .ok (.goto 6, 3) := by decide +kernel
theorem dL_counter_12 : decode cL_counter 12 = .ok (.astore_n 3, 1) := by decide +kernel
theorem dL_counter_13 : decode cL_counter 13 = .ok (.iconst 1, 1) := by decide +kernel
theorem dL_counter_14 : decode cL_counter 14 = .ok (.ireturn, 1) := by decide +kernel
theorem dL_counter_15 : decode cL_counter 15 = .ok (.iconst 0, 1) := by decide +kernel
theorem dL_counter_16 : decode cL_counter 16 = .ok (.ireturn, 1) := by decide +kernel
theorem dL_priority_0 : decode cL_priority 0 = .ok (.aload_n 2, 1) := by decide +kernel
theorem dL_priority_1 : decode cL_priority 1 = .ok (.iconst 0, 1) := by decide +kernel
theorem dL_priority_2 : decode cL_priority 2 = .ok (.aload_n 0, 1) := by decide +kernel
theorem dL_priority_3 : decode cL_priority 3 = .ok (.iload_n 1, 1) := by decide +kernel
theorem dL_priority_4 : decode cL_priority 4 = .ok (.invokevirtual 23, 3) := by decide +kernel
theorem dL_priority_7 : decode cL_priority 7 = .ok (.i2l, 1) := by decide +kernel
theorem dL_priority_8 : decode cL_priority 8 = .ok (.lastore, 1) := by decide +kernel
theorem dL_priority_9 : decode cL_priority 9 = .ok (.goto 6, 3) := by decide +kernel
theorem dL_priority_12 : decode cL_priority 12 = .ok (.astore_n 3, 1) := by decide +kernel
theorem dL_priority_13 : decode cL_priority 13 = .ok (.iconst 1, 1) := by decide +kernel
theorem dL_priority_14 : decode cL_priority 14 = .ok (.ireturn, 1) := by decide +kernel
theorem dL_priority_15 : decode cL_priority 15 = .ok (.iconst 0, 1) := by decide +kernel
theorem dL_priority_16 : decode cL_priority 16 = .ok (.ireturn, 1) := by decide +kernel
theorem dL_coreOf_0 : decode cL_coreOf 0 = .ok (.aload_n 2, 1) := by decide +kernel
theorem dL_coreOf_1 : decode cL_coreOf 1 = .ok (.iconst 0, 1) := by decide +kernel
theorem dL_coreOf_2 : decode cL_coreOf 2 = .ok (.aload_n 0, 1) := by decide +kernel
theorem dL_coreOf_3 : decode cL_coreOf 3 = .ok (.iload_n 1, 1) := by decide +kernel
theorem dL_coreOf_4 : decode cL_coreOf 4 = .ok (.invokevirtual 26, 3) := by decide +kernel
theorem dL_coreOf_7 : decode cL_coreOf 7 = .ok (.i2l, 1) := by decide +kernel
theorem dL_coreOf_8 : decode cL_coreOf 8 = .ok (.lastore, 1) := by decide +kernel
theorem dL_coreOf_9 : decode cL_coreOf 9 = .ok (.goto 6, 3) := by decide +kernel
theorem dL_coreOf_12 : decode cL_coreOf 12 = .ok (.astore_n 3, 1) := by decide +kernel
theorem dL_coreOf_13 : decode cL_coreOf 13 = .ok (.iconst 1, 1) := by decide +kernel
theorem dL_coreOf_14 : decode cL_coreOf 14 = .ok (.ireturn, 1) := by decide +kernel
theorem dL_coreOf_15 : decode cL_coreOf 15 = .ok (.iconst 0, 1) := by decide +kernel
theorem dL_coreOf_16 : decode cL_coreOf 16 = .ok (.ireturn, 1) := by decide +kernel
theorem dL_doneAt_0 : decode cL_doneAt 0 = .ok (.aload_n 2, 1) := by decide +kernel
theorem dL_doneAt_1 : decode cL_doneAt 1 = .ok (.iconst 0, 1) := by decide +kernel
theorem dL_doneAt_2 : decode cL_doneAt 2 = .ok (.aload_n 0, 1) := by decide +kernel
theorem dL_doneAt_3 : decode cL_doneAt 3 = .ok (.iload_n 1, 1) := by decide +kernel
theorem dL_doneAt_4 : decode cL_doneAt 4 = .ok (.invokevirtual 29, 3) := by decide +kernel
theorem dL_doneAt_7 : decode cL_doneAt 7 = .ok (.i2l, 1) := by decide +kernel
theorem dL_doneAt_8 : decode cL_doneAt 8 = .ok (.lastore, 1) := by decide +kernel
theorem dL_doneAt_9 : decode cL_doneAt 9 = .ok (.goto 6, 3) := by decide +kernel
theorem dL_doneAt_12 : decode cL_doneAt 12 = .ok (.astore_n 3, 1) := by decide +kernel
theorem dL_doneAt_13 : decode cL_doneAt 13 = .ok (.iconst 1, 1) := by decide +kernel
theorem dL_doneAt_14 : decode cL_doneAt 14 = .ok (.ireturn, 1) := by decide +kernel
theorem dL_doneAt_15 : decode cL_doneAt 15 = .ok (.iconst 0, 1) := by decide +kernel
theorem dL_doneAt_16 : decode cL_doneAt 16 = .ok (.ireturn, 1) := by decide +kernel
theorem dL_isOpen_0 : decode cL_isOpen 0 = .ok (.aload_n 2, 1) := by decide +kernel
theorem dL_isOpen_1 : decode cL_isOpen 1 = .ok (.iconst 0, 1) := by decide +kernel
theorem dL_isOpen_2 : decode cL_isOpen 2 = .ok (.aload_n 0, 1) := by decide +kernel
theorem dL_isOpen_3 : decode cL_isOpen 3 = .ok (.iload_n 1, 1) := by decide +kernel
theorem dL_isOpen_4 : decode cL_isOpen 4 = .ok (.invokevirtual 32, 3) := by decide +kernel
theorem dL_isOpen_7 : decode cL_isOpen 7 = .ok (.ifCond .eq 7, 3) := by decide +kernel
theorem dL_isOpen_10 : decode cL_isOpen 10 = .ok (.lconst 1, 1) := by decide +kernel
theorem dL_isOpen_11 : decode cL_isOpen 11 = .ok (.goto 4, 3) := by decide +kernel
theorem dL_isOpen_14 : decode cL_isOpen 14 = .ok (.lconst 0, 1) := by decide +kernel
theorem dL_isOpen_15 : decode cL_isOpen 15 = .ok (.lastore, 1) := by decide +kernel
theorem dL_isOpen_16 : decode cL_isOpen 16 = .ok (.goto 6, 3) := by decide +kernel
theorem dL_isOpen_19 : decode cL_isOpen 19 = .ok (.astore_n 3, 1) := by decide +kernel
theorem dL_isOpen_20 : decode cL_isOpen 20 = .ok (.iconst 1, 1) := by decide +kernel
theorem dL_isOpen_21 : decode cL_isOpen 21 = .ok (.ireturn, 1) := by decide +kernel
theorem dL_isOpen_22 : decode cL_isOpen 22 = .ok (.iconst 0, 1) := by decide +kernel
theorem dL_isOpen_23 : decode cL_isOpen 23 = .ok (.ireturn, 1) := by decide +kernel
theorem dL_queueLength_0 : decode cL_queueLength 0 = .ok (.aload_n 2, 1) := by decide +kernel
theorem dL_queueLength_1 : decode cL_queueLength 1 = .ok (.iconst 0, 1) := by decide +kernel
theorem dL_queueLength_2 : decode cL_queueLength 2 = .ok (.aload_n 0, 1) := by decide +kernel
theorem dL_queueLength_3 : decode cL_queueLength 3 = .ok (.iload_n 1, 1) := by decide +kernel
theorem dL_queueLength_4 : decode cL_queueLength 4 = .ok (.invokevirtual 36, 3) := by decide +kernel
theorem dL_queueLength_7 : decode cL_queueLength 7 = .ok (.i2l, 1) := by decide +kernel
theorem dL_queueLength_8 : decode cL_queueLength 8 = .ok (.lastore, 1) := by decide +kernel
theorem dL_queueLength_9 : decode cL_queueLength 9 = .ok (.goto 6, 3) := by decide +kernel
theorem dL_queueLength_12 : decode cL_queueLength 12 = .ok (.astore_n 3, 1) := by decide +kernel
theorem dL_queueLength_13 : decode cL_queueLength 13 = .ok (.iconst 1, 1) := by decide +kernel
theorem dL_queueLength_14 : decode cL_queueLength 14 = .ok (.ireturn, 1) := by decide +kernel
theorem dL_queueLength_15 : decode cL_queueLength 15 = .ok (.iconst 0, 1) := by decide +kernel
theorem dL_queueLength_16 : decode cL_queueLength 16 = .ok (.ireturn, 1) := by decide +kernel
theorem dL_queued_0 : decode cL_queued 0 = .ok (.aload_n 3, 1) := by decide +kernel
theorem dL_queued_1 : decode cL_queued 1 = .ok (.iconst 0, 1) := by decide +kernel
theorem dL_queued_2 : decode cL_queued 2 = .ok (.aload_n 0, 1) := by decide +kernel
theorem dL_queued_3 : decode cL_queued 3 = .ok (.iload_n 1, 1) := by decide +kernel
theorem dL_queued_4 : decode cL_queued 4 = .ok (.iload_n 2, 1) := by decide +kernel
theorem dL_queued_5 : decode cL_queued 5 = .ok (.invokevirtual 39, 3) := by decide +kernel
theorem dL_queued_8 : decode cL_queued 8 = .ok (.i2l, 1) := by decide +kernel
theorem dL_queued_9 : decode cL_queued 9 = .ok (.lastore, 1) := by decide +kernel
theorem dL_queued_10 : decode cL_queued 10 = .ok (.goto 7, 3) := by decide +kernel
theorem dL_queued_13 : decode cL_queued 13 = .ok (.astore 4, 2) := by decide +kernel
theorem dL_queued_15 : decode cL_queued 15 = .ok (.iconst 1, 1) := by decide +kernel
theorem dL_queued_16 : decode cL_queued 16 = .ok (.ireturn, 1) := by decide +kernel
theorem dL_queued_17 : decode cL_queued 17 = .ok (.iconst 0, 1) := by decide +kernel
theorem dL_queued_18 : decode cL_queued 18 = .ok (.ireturn, 1) := by decide +kernel
theorem dL_running_0 : decode cL_running 0 = .ok (.aload_n 2, 1) := by decide +kernel
theorem dL_running_1 : decode cL_running 1 = .ok (.iconst 0, 1) := by decide +kernel
theorem dL_running_2 : decode cL_running 2 = .ok (.aload_n 0, 1) := by decide +kernel
theorem dL_running_3 : decode cL_running 3 = .ok (.iload_n 1, 1) := by decide +kernel
theorem dL_running_4 : decode cL_running 4 = .ok (.invokevirtual 43, 3) := by decide +kernel
theorem dL_running_7 : decode cL_running 7 = .ok (.i2l, 1) := by decide +kernel
theorem dL_running_8 : decode cL_running 8 = .ok (.lastore, 1) := by decide +kernel
theorem dL_running_9 : decode cL_running 9 = .ok (.goto 6, 3) := by decide +kernel
theorem dL_running_12 : decode cL_running 12 = .ok (.astore_n 3, 1) := by decide +kernel
theorem dL_running_13 : decode cL_running 13 = .ok (.iconst 1, 1) := by decide +kernel
theorem dL_running_14 : decode cL_running 14 = .ok (.ireturn, 1) := by decide +kernel
theorem dL_running_15 : decode cL_running 15 = .ok (.iconst 0, 1) := by decide +kernel
theorem dL_running_16 : decode cL_running 16 = .ok (.ireturn, 1) := by decide +kernel
theorem dL_remaining_0 : decode cL_remaining 0 = .ok (.aload_n 2, 1) := by decide +kernel
theorem dL_remaining_1 : decode cL_remaining 1 = .ok (.iconst 0, 1) := by decide +kernel
theorem dL_remaining_2 : decode cL_remaining 2 = .ok (.aload_n 0, 1) := by decide +kernel
theorem dL_remaining_3 : decode cL_remaining 3 = .ok (.iload_n 1, 1) := by decide +kernel
theorem dL_remaining_4 : decode cL_remaining 4 = .ok (.invokevirtual 46, 3) := by decide +kernel
theorem dL_remaining_7 : decode cL_remaining 7 = .ok (.i2l, 1) := by decide +kernel
theorem dL_remaining_8 : decode cL_remaining 8 = .ok (.lastore, 1) := by decide +kernel
theorem dL_remaining_9 : decode cL_remaining 9 = .ok (.goto 6, 3) := by decide +kernel
theorem dL_remaining_12 : decode cL_remaining 12 = .ok (.astore_n 3, 1) := by decide +kernel
theorem dL_remaining_13 : decode cL_remaining 13 = .ok (.iconst 1, 1) := by decide +kernel
theorem dL_remaining_14 : decode cL_remaining 14 = .ok (.ireturn, 1) := by decide +kernel
theorem dL_remaining_15 : decode cL_remaining 15 = .ok (.iconst 0, 1) := by decide +kernel
theorem dL_remaining_16 : decode cL_remaining 16 = .ok (.ireturn, 1) := by decide +kernel
theorem dL_busy_0 : decode cL_busy 0 = .ok (.aload_n 2, 1) := by decide +kernel
theorem dL_busy_1 : decode cL_busy 1 = .ok (.iconst 0, 1) := by decide +kernel
theorem dL_busy_2 : decode cL_busy 2 = .ok (.aload_n 0, 1) := by decide +kernel
theorem dL_busy_3 : decode cL_busy 3 = .ok (.iload_n 1, 1) := by decide +kernel
theorem dL_busy_4 : decode cL_busy 4 = .ok (.invokevirtual 49, 3) := by decide +kernel
theorem dL_busy_7 : decode cL_busy 7 = .ok (.i2l, 1) := by decide +kernel
theorem dL_busy_8 : decode cL_busy 8 = .ok (.lastore, 1) := by decide +kernel
theorem dL_busy_9 : decode cL_busy 9 = .ok (.goto 6, 3) := by decide +kernel
theorem dL_busy_12 : decode cL_busy 12 = .ok (.astore_n 3, 1) := by decide +kernel
theorem dL_busy_13 : decode cL_busy 13 = .ok (.iconst 1, 1) := by decide +kernel
theorem dL_busy_14 : decode cL_busy 14 = .ok (.ireturn, 1) := by decide +kernel
theorem dL_busy_15 : decode cL_busy 15 = .ok (.iconst 0, 1) := by decide +kernel
theorem dL_busy_16 : decode cL_busy 16 = .ok (.ireturn, 1) := by decide +kernel
theorem dL_steals_0 : decode cL_steals 0 = .ok (.aload_n 2, 1) := by decide +kernel
theorem dL_steals_1 : decode cL_steals 1 = .ok (.iconst 0, 1) := by decide +kernel
theorem dL_steals_2 : decode cL_steals 2 = .ok (.aload_n 0, 1) := by decide +kernel
theorem dL_steals_3 : decode cL_steals 3 = .ok (.iload_n 1, 1) := by decide +kernel
theorem dL_steals_4 : decode cL_steals 4 = .ok (.invokevirtual 52, 3) := by decide +kernel
theorem dL_steals_7 : decode cL_steals 7 = .ok (.i2l, 1) := by decide +kernel
theorem dL_steals_8 : decode cL_steals 8 = .ok (.lastore, 1) := by decide +kernel
theorem dL_steals_9 : decode cL_steals 9 = .ok (.goto 6, 3) := by decide +kernel
theorem dL_steals_12 : decode cL_steals 12 = .ok (.astore_n 3, 1) := by decide +kernel
theorem dL_steals_13 : decode cL_steals 13 = .ok (.iconst 1, 1) := by decide +kernel
theorem dL_steals_14 : decode cL_steals 14 = .ok (.ireturn, 1) := by decide +kernel
theorem dL_steals_15 : decode cL_steals 15 = .ok (.iconst 0, 1) := by decide +kernel
theorem dL_steals_16 : decode cL_steals 16 = .ok (.ireturn, 1) := by decide +kernel
theorem dL_isPaused_0 : decode cL_isPaused 0 = .ok (.aload_n 2, 1) := by decide +kernel
theorem dL_isPaused_1 : decode cL_isPaused 1 = .ok (.iconst 0, 1) := by decide +kernel
theorem dL_isPaused_2 : decode cL_isPaused 2 = .ok (.aload_n 0, 1) := by decide +kernel
theorem dL_isPaused_3 : decode cL_isPaused 3 = .ok (.iload_n 1, 1) := by decide +kernel
theorem dL_isPaused_4 : decode cL_isPaused 4 = .ok (.invokevirtual 55, 3) := by decide +kernel
theorem dL_isPaused_7 : decode cL_isPaused 7 = .ok (.ifCond .eq 7, 3) := by decide +kernel
theorem dL_isPaused_10 : decode cL_isPaused 10 = .ok (.lconst 1, 1) := by decide +kernel
theorem dL_isPaused_11 : decode cL_isPaused 11 = .ok (.goto 4, 3) := by decide +kernel
theorem dL_isPaused_14 : decode cL_isPaused 14 = .ok (.lconst 0, 1) := by decide +kernel
theorem dL_isPaused_15 : decode cL_isPaused 15 = .ok (.lastore, 1) := by decide +kernel
theorem dL_isPaused_16 : decode cL_isPaused 16 = .ok (.goto 6, 3) := by decide +kernel
theorem dL_isPaused_19 : decode cL_isPaused 19 = .ok (.astore_n 3, 1) := by decide +kernel
theorem dL_isPaused_20 : decode cL_isPaused 20 = .ok (.iconst 1, 1) := by decide +kernel
theorem dL_isPaused_21 : decode cL_isPaused 21 = .ok (.ireturn, 1) := by decide +kernel
theorem dL_isPaused_22 : decode cL_isPaused 22 = .ok (.iconst 0, 1) := by decide +kernel
theorem dL_isPaused_23 : decode cL_isPaused 23 = .ok (.ireturn, 1) := by decide +kernel
theorem dL_finishTime_0 : decode cL_finishTime 0 = .ok (.aload_n 2, 1) := by decide +kernel
theorem dL_finishTime_1 : decode cL_finishTime 1 = .ok (.iconst 0, 1) := by decide +kernel
theorem dL_finishTime_2 : decode cL_finishTime 2 = .ok (.aload_n 0, 1) := by decide +kernel
theorem dL_finishTime_3 : decode cL_finishTime 3 = .ok (.iload_n 1, 1) := by decide +kernel
theorem dL_finishTime_4 : decode cL_finishTime 4 = .ok (.invokevirtual 58, 3) := by decide +kernel
theorem dL_finishTime_7 : decode cL_finishTime 7 = .ok (.i2l, 1) := by decide +kernel
theorem dL_finishTime_8 : decode cL_finishTime 8 = .ok (.lastore, 1) := by decide +kernel
theorem dL_finishTime_9 : decode cL_finishTime 9 = .ok (.goto 6, 3) := by decide +kernel
theorem dL_finishTime_12 : decode cL_finishTime 12 = .ok (.astore_n 3, 1) := by decide +kernel
theorem dL_finishTime_13 : decode cL_finishTime 13 = .ok (.iconst 1, 1) := by decide +kernel
theorem dL_finishTime_14 : decode cL_finishTime 14 = .ok (.ireturn, 1) := by decide +kernel
theorem dL_finishTime_15 : decode cL_finishTime 15 = .ok (.iconst 0, 1) := by decide +kernel
theorem dL_finishTime_16 : decode cL_finishTime 16 = .ok (.ireturn, 1) := by decide +kernel
theorem dL_timeOn_0 : decode cL_timeOn 0 = .ok (.aload_n 3, 1) := by decide +kernel
theorem dL_timeOn_1 : decode cL_timeOn 1 = .ok (.iconst 0, 1) := by decide +kernel
theorem dL_timeOn_2 : decode cL_timeOn 2 = .ok (.aload_n 0, 1) := by decide +kernel
theorem dL_timeOn_3 : decode cL_timeOn 3 = .ok (.iload_n 1, 1) := by decide +kernel
theorem dL_timeOn_4 : decode cL_timeOn 4 = .ok (.iload_n 2, 1) := by decide +kernel
theorem dL_timeOn_5 : decode cL_timeOn 5 = .ok (.invokevirtual 61, 3) := by decide +kernel
theorem dL_timeOn_8 : decode cL_timeOn 8 = .ok (.i2l, 1) := by decide +kernel
theorem dL_timeOn_9 : decode cL_timeOn 9 = .ok (.lastore, 1) := by decide +kernel
theorem dL_timeOn_10 : decode cL_timeOn 10 = .ok (.goto 11, 3) := by decide +kernel
theorem dL_timeOn_13 : decode cL_timeOn 13 = .ok (.astore 4, 2) := by decide +kernel
theorem dL_timeOn_15 : decode cL_timeOn 15 = .ok (.iconst 1, 1) := by decide +kernel
theorem dL_timeOn_16 : decode cL_timeOn 16 = .ok (.ireturn, 1) := by decide +kernel
theorem dL_timeOn_17 : decode cL_timeOn 17 = .ok (.astore 4, 2) := by decide +kernel
theorem dL_timeOn_19 : decode cL_timeOn 19 = .ok (.iconst 2, 1) := by decide +kernel
theorem dL_timeOn_20 : decode cL_timeOn 20 = .ok (.ireturn, 1) := by decide +kernel
theorem dL_timeOn_21 : decode cL_timeOn 21 = .ok (.iconst 0, 1) := by decide +kernel
theorem dL_timeOn_22 : decode cL_timeOn 22 = .ok (.ireturn, 1) := by decide +kernel
theorem dL_run_0 : decode cL_run 0 = .ok (.aload_n 2, 1) := by decide +kernel
theorem dL_run_1 : decode cL_run 1 = .ok (.iconst 0, 1) := by decide +kernel
theorem dL_run_2 : decode cL_run 2 = .ok (.aload_n 0, 1) := by decide +kernel
theorem dL_run_3 : decode cL_run 3 = .ok (.iload_n 1, 1) := by decide +kernel
theorem dL_run_4 : decode cL_run 4 = .ok (.invokevirtual 66, 3) := by decide +kernel
theorem dL_run_7 : decode cL_run 7 = .ok (.i2l, 1) := by decide +kernel
theorem dL_run_8 : decode cL_run 8 = .ok (.lastore, 1) := by decide +kernel
theorem dL_run_9 : decode cL_run 9 = .ok (.goto 9, 3) := by decide +kernel
theorem dL_run_12 : decode cL_run 12 = .ok (.astore_n 3, 1) := by decide +kernel
theorem dL_run_13 : decode cL_run 13 = .ok (.iconst 1, 1) := by decide +kernel
theorem dL_run_14 : decode cL_run 14 = .ok (.ireturn, 1) := by decide +kernel
theorem dL_run_15 : decode cL_run 15 = .ok (.astore_n 3, 1) := by decide +kernel
theorem dL_run_16 : decode cL_run 16 = .ok (.iconst 2, 1) := by decide +kernel
theorem dL_run_17 : decode cL_run 17 = .ok (.ireturn, 1) := by decide +kernel
theorem dL_run_18 : decode cL_run 18 = .ok (.iconst 0, 1) := by decide +kernel
theorem dL_run_19 : decode cL_run 19 = .ok (.ireturn, 1) := by decide +kernel
theorem dL_submit_0 : decode cL_submit 0 = .ok (.aload 4, 2) := by decide +kernel
theorem dL_submit_2 : decode cL_submit 2 = .ok (.iconst 0, 1) := by decide +kernel
theorem dL_submit_3 : decode cL_submit 3 = .ok (.aload_n 0, 1) := by decide +kernel
theorem dL_submit_4 : decode cL_submit 4 = .ok (.iload_n 1, 1) := by decide +kernel
theorem dL_submit_5 : decode cL_submit 5 = .ok (.iload_n 2, 1) := by decide +kernel
theorem dL_submit_6 : decode cL_submit 6 = .ok (.iload_n 3, 1) := by decide +kernel
theorem dL_submit_7 : decode cL_submit 7 = .ok (.invokevirtual 69, 3) := by decide +kernel
theorem dL_submit_10 : decode cL_submit 10 = .ok (.i2l, 1) := by decide +kernel
theorem dL_submit_11 : decode cL_submit 11 = .ok (.lastore, 1) := by decide +kernel
theorem dL_submit_12 : decode cL_submit 12 = .ok (.goto 15, 3) := by decide +kernel
theorem dL_submit_15 : decode cL_submit 15 = .ok (.astore 5, 2) := by decide +kernel
theorem dL_submit_17 : decode cL_submit 17 = .ok (.iconst 1, 1) := by decide +kernel
theorem dL_submit_18 : decode cL_submit 18 = .ok (.ireturn, 1) := by decide +kernel
theorem dL_submit_19 : decode cL_submit 19 = .ok (.astore 5, 2) := by decide +kernel
theorem dL_submit_21 : decode cL_submit 21 = .ok (.iconst 2, 1) := by decide +kernel
theorem dL_submit_22 : decode cL_submit 22 = .ok (.ireturn, 1) := by decide +kernel
theorem dL_submit_23 : decode cL_submit 23 = .ok (.astore 5, 2) := by decide +kernel
theorem dL_submit_25 : decode cL_submit 25 = .ok (.iconst 3, 1) := by decide +kernel
theorem dL_submit_26 : decode cL_submit 26 = .ok (.ireturn, 1) := by decide +kernel
theorem dL_submit_27 : decode cL_submit 27 = .ok (.iconst 0, 1) := by decide +kernel
theorem dL_submit_28 : decode cL_submit 28 = .ok (.ireturn, 1) := by decide +kernel
theorem dL_depend_0 : decode cL_depend 0 = .ok (.aload_n 3, 1) := by decide +kernel
theorem dL_depend_1 : decode cL_depend 1 = .ok (.iconst 0, 1) := by decide +kernel
theorem dL_depend_2 : decode cL_depend 2 = .ok (.aload_n 0, 1) := by decide +kernel
theorem dL_depend_3 : decode cL_depend 3 = .ok (.iload_n 1, 1) := by decide +kernel
theorem dL_depend_4 : decode cL_depend 4 = .ok (.iload_n 2, 1) := by decide +kernel
theorem dL_depend_5 : decode cL_depend 5 = .ok (.invokevirtual 73, 3) := by decide +kernel
theorem dL_depend_8 : decode cL_depend 8 = .ok (.i2l, 1) := by decide +kernel
theorem dL_depend_9 : decode cL_depend 9 = .ok (.lastore, 1) := by decide +kernel
theorem dL_depend_10 : decode cL_depend 10 = .ok (.goto 15, 3) := by decide +kernel
theorem dL_depend_13 : decode cL_depend 13 = .ok (.astore 4, 2) := by decide +kernel
theorem dL_depend_15 : decode cL_depend 15 = .ok (.iconst 1, 1) := by decide +kernel
theorem dL_depend_16 : decode cL_depend 16 = .ok (.ireturn, 1) := by decide +kernel
theorem dL_depend_17 : decode cL_depend 17 = .ok (.astore 4, 2) := by decide +kernel
theorem dL_depend_19 : decode cL_depend 19 = .ok (.iconst 2, 1) := by decide +kernel
theorem dL_depend_20 : decode cL_depend 20 = .ok (.ireturn, 1) := by decide +kernel
theorem dL_depend_21 : decode cL_depend 21 = .ok (.astore 4, 2) := by decide +kernel
theorem dL_depend_23 : decode cL_depend 23 = .ok (.iconst 3, 1) := by decide +kernel
theorem dL_depend_24 : decode cL_depend 24 = .ok (.ireturn, 1) := by decide +kernel
theorem dL_depend_25 : decode cL_depend 25 = .ok (.iconst 0, 1) := by decide +kernel
theorem dL_depend_26 : decode cL_depend 26 = .ok (.ireturn, 1) := by decide +kernel
theorem dL_cancel_0 : decode cL_cancel 0 = .ok (.aload_n 2, 1) := by decide +kernel
theorem dL_cancel_1 : decode cL_cancel 1 = .ok (.iconst 0, 1) := by decide +kernel
theorem dL_cancel_2 : decode cL_cancel 2 = .ok (.aload_n 0, 1) := by decide +kernel
theorem dL_cancel_3 : decode cL_cancel 3 = .ok (.iload_n 1, 1) := by decide +kernel
theorem dL_cancel_4 : decode cL_cancel 4 = .ok (.invokevirtual 76, 3) := by decide +kernel
theorem dL_cancel_7 : decode cL_cancel 7 = .ok (.i2l, 1) := by decide +kernel
theorem dL_cancel_8 : decode cL_cancel 8 = .ok (.lastore, 1) := by decide +kernel
theorem dL_cancel_9 : decode cL_cancel 9 = .ok (.goto 9, 3) := by decide +kernel
theorem dL_cancel_12 : decode cL_cancel 12 = .ok (.astore_n 3, 1) := by decide +kernel
theorem dL_cancel_13 : decode cL_cancel 13 = .ok (.iconst 1, 1) := by decide +kernel
theorem dL_cancel_14 : decode cL_cancel 14 = .ok (.ireturn, 1) := by decide +kernel
theorem dL_cancel_15 : decode cL_cancel 15 = .ok (.astore_n 3, 1) := by decide +kernel
theorem dL_cancel_16 : decode cL_cancel 16 = .ok (.iconst 2, 1) := by decide +kernel
theorem dL_cancel_17 : decode cL_cancel 17 = .ok (.ireturn, 1) := by decide +kernel
theorem dL_cancel_18 : decode cL_cancel 18 = .ok (.iconst 0, 1) := by decide +kernel
theorem dL_cancel_19 : decode cL_cancel 19 = .ok (.ireturn, 1) := by decide +kernel
theorem dL_setPriority_0 : decode cL_setPriority 0 = .ok (.aload_n 3, 1) := by decide +kernel
theorem dL_setPriority_1 : decode cL_setPriority 1 = .ok (.iconst 0, 1) := by decide +kernel
theorem dL_setPriority_2 : decode cL_setPriority 2 = .ok (.aload_n 0, 1) := by decide +kernel
theorem dL_setPriority_3 : decode cL_setPriority 3 = .ok (.iload_n 1, 1) := by decide +kernel
theorem dL_setPriority_4 : decode cL_setPriority 4 = .ok (.iload_n 2, 1) := by decide +kernel
theorem dL_setPriority_5 : decode cL_setPriority 5 = .ok (.invokevirtual 79, 3) := by decide +kernel
theorem dL_setPriority_8 : decode cL_setPriority 8 = .ok (.i2l, 1) := by decide +kernel
theorem dL_setPriority_9 : decode cL_setPriority 9 = .ok (.lastore, 1) := by decide +kernel
theorem dL_setPriority_10 : decode cL_setPriority 10 = .ok (.goto 11, 3) := by decide +kernel
theorem dL_setPriority_13 : decode cL_setPriority 13 = .ok (.astore 4, 2) := by decide +kernel
theorem dL_setPriority_15 : decode cL_setPriority 15 = .ok (.iconst 1, 1) := by decide +kernel
theorem dL_setPriority_16 : decode cL_setPriority 16 = .ok (.ireturn, 1) := by decide +kernel
theorem dL_setPriority_17 : decode cL_setPriority 17 = .ok (.astore 4, 2) := by decide +kernel
theorem dL_setPriority_19 : decode cL_setPriority 19 = .ok (.iconst 2, 1) := by decide +kernel
theorem dL_setPriority_20 : decode cL_setPriority 20 = .ok (.ireturn, 1) := by decide +kernel
theorem dL_setPriority_21 : decode cL_setPriority 21 = .ok (.iconst 0, 1) := by decide +kernel
theorem dL_setPriority_22 : decode cL_setPriority 22 = .ok (.ireturn, 1) := by decide +kernel
theorem dL_pause_0 : decode cL_pause 0 = .ok (.aload_n 3, 1) := by decide +kernel
theorem dL_pause_1 : decode cL_pause 1 = .ok (.iconst 0, 1) := by decide +kernel
theorem dL_pause_2 : decode cL_pause 2 = .ok (.aload_n 0, 1) := by decide +kernel
theorem dL_pause_3 : decode cL_pause 3 = .ok (.iload_n 1, 1) := by decide +kernel
theorem dL_pause_4 : decode cL_pause 4 = .ok (.iload_n 2, 1) := by decide +kernel
theorem dL_pause_5 : decode cL_pause 5 = .ok (.invokevirtual 82, 3) := by decide +kernel
theorem dL_pause_8 : decode cL_pause 8 = .ok (.ifCond .eq 7, 3) := by decide +kernel
theorem dL_pause_11 : decode cL_pause 11 = .ok (.lconst 1, 1) := by decide +kernel
theorem dL_pause_12 : decode cL_pause 12 = .ok (.goto 4, 3) := by decide +kernel
theorem dL_pause_15 : decode cL_pause 15 = .ok (.lconst 0, 1) := by decide +kernel
theorem dL_pause_16 : decode cL_pause 16 = .ok (.lastore, 1) := by decide +kernel
theorem dL_pause_17 : decode cL_pause 17 = .ok (.goto 7, 3) := by decide +kernel
theorem dL_pause_20 : decode cL_pause 20 = .ok (.astore 4, 2) := by decide +kernel
theorem dL_pause_22 : decode cL_pause 22 = .ok (.iconst 1, 1) := by decide +kernel
theorem dL_pause_23 : decode cL_pause 23 = .ok (.ireturn, 1) := by decide +kernel
theorem dL_pause_24 : decode cL_pause 24 = .ok (.iconst 0, 1) := by decide +kernel
theorem dL_pause_25 : decode cL_pause 25 = .ok (.ireturn, 1) := by decide +kernel
theorem dL_law_0 : decode cL_law 0 = .ok (.new 8, 3) := by decide +kernel
theorem dL_law_3 : decode cL_law 3 = .ok (.dup, 1) := by decide +kernel
theorem dL_law_4 : decode cL_law 4 = .ok (.invokespecial 86, 3) := by decide +kernel
theorem dL_law_7 : decode cL_law 7 = .ok (.astore_n 1, 1) := by decide +kernel
theorem dL_law_8 : decode cL_law 8 = .ok (.new 87, 3) := by decide +kernel
theorem dL_law_11 : decode cL_law 11 = .ok (.dup, 1) := by decide +kernel
theorem dL_law_12 : decode cL_law 12 = .ok (.invokespecial 89, 3) := by decide +kernel
theorem dL_law_15 : decode cL_law 15 = .ok (.astore_n 2, 1) := by decide +kernel
theorem dL_law_16 : decode cL_law 16 = .ok (.iconst 1, 1) := by decide +kernel
theorem dL_law_17 : decode cL_law 17 = .ok (.newarray .long, 2) := by decide +kernel
theorem dL_law_19 : decode cL_law 19 = .ok (.astore_n 3, 1) := by decide +kernel
theorem dL_law_20 : decode cL_law 20 = .ok (.iconst 0, 1) := by decide +kernel
theorem dL_law_21 : decode cL_law 21 = .ok (.istore 4, 2) := by decide +kernel
theorem dL_law_23 : decode cL_law 23 = .ok (.iload 4, 2) := by decide +kernel
theorem dL_law_25 : decode cL_law 25 = .ok (.aload_n 0, 1) := by decide +kernel
theorem dL_law_26 : decode cL_law 26 = .ok (.arraylength, 1) := by decide +kernel
theorem dL_law_27 : decode cL_law 27 = .ok (.bipush 6, 2) := by decide +kernel
theorem dL_law_29 : decode cL_law 29 = .ok (.isub, 1) := by decide +kernel
theorem dL_law_30 : decode cL_law 30 = .ok (.if_icmp .gt 1704, 3) := by decide +kernel
theorem dL_law_33 : decode cL_law 33 = .ok (.aload_n 0, 1) := by decide +kernel
theorem dL_law_34 : decode cL_law 34 = .ok (.iload 4, 2) := by decide +kernel
theorem dL_law_36 : decode cL_law 36 = .ok (.iaload, 1) := by decide +kernel
theorem dL_law_37 : decode cL_law 37 = .ok (.bipush 31, 2) := by decide +kernel
theorem dL_law_39 : decode cL_law 39 = .ok (.iand, 1) := by decide +kernel
theorem dL_law_40 : decode cL_law 40 = .ok (.tableswitch 1688 0 31 #[144, 217, 273, 286, 299, 312, 325, 338, 394, 450, 506, 562, 618, 681, 737, 805, 861, 917, 973, 1029, 1092, 1105, 1118, 1174, 1242, 1298, 1378, 1446, 1502, 1570, 1661, 1674], 144) := by decide +kernel
theorem dL_law_184 : decode cL_law 184 = .ok (.aload_n 1, 1) := by decide +kernel
theorem dL_law_185 : decode cL_law 185 = .ok (.aload_n 0, 1) := by decide +kernel
theorem dL_law_186 : decode cL_law 186 = .ok (.iload 4, 2) := by decide +kernel
theorem dL_law_188 : decode cL_law 188 = .ok (.iconst 1, 1) := by decide +kernel
theorem dL_law_189 : decode cL_law 189 = .ok (.iadd, 1) := by decide +kernel
theorem dL_law_190 : decode cL_law 190 = .ok (.iaload, 1) := by decide +kernel
theorem dL_law_191 : decode cL_law 191 = .ok (.aload_n 0, 1) := by decide +kernel
theorem dL_law_192 : decode cL_law 192 = .ok (.iload 4, 2) := by decide +kernel
theorem dL_law_194 : decode cL_law 194 = .ok (.iconst 2, 1) := by decide +kernel
theorem dL_law_195 : decode cL_law 195 = .ok (.iadd, 1) := by decide +kernel
theorem dL_law_196 : decode cL_law 196 = .ok (.iaload, 1) := by decide +kernel
theorem dL_law_197 : decode cL_law 197 = .ok (.aload_n 0, 1) := by decide +kernel
theorem dL_law_198 : decode cL_law 198 = .ok (.iload 4, 2) := by decide +kernel
theorem dL_law_200 : decode cL_law 200 = .ok (.iconst 3, 1) := by decide +kernel
theorem dL_law_201 : decode cL_law 201 = .ok (.iadd, 1) := by decide +kernel
theorem dL_law_202 : decode cL_law 202 = .ok (.iaload, 1) := by decide +kernel
theorem dL_law_203 : decode cL_law 203 = .ok (.aload_n 0, 1) := by decide +kernel
theorem dL_law_204 : decode cL_law 204 = .ok (.iload 4, 2) := by decide +kernel
theorem dL_law_206 : decode cL_law 206 = .ok (.iconst 4, 1) := by decide +kernel
theorem dL_law_207 : decode cL_law 207 = .ok (.iadd, 1) := by decide +kernel
theorem dL_law_208 : decode cL_law 208 = .ok (.iaload, 1) := by decide +kernel
theorem dL_law_209 : decode cL_law 209 = .ok (.aload_n 0, 1) := by decide +kernel
theorem dL_law_210 : decode cL_law 210 = .ok (.iload 4, 2) := by decide +kernel
theorem dL_law_212 : decode cL_law 212 = .ok (.iconst 5, 1) := by decide +kernel
theorem dL_law_213 : decode cL_law 213 = .ok (.iadd, 1) := by decide +kernel
theorem dL_law_214 : decode cL_law 214 = .ok (.iaload, 1) := by decide +kernel
theorem dL_law_215 : decode cL_law 215 = .ok (.invokevirtual 90, 3) := by decide +kernel
theorem dL_law_218 : decode cL_law 218 = .ok (.aload_n 2, 1) := by decide +kernel
theorem dL_law_219 : decode cL_law 219 = .ok (.aload_n 0, 1) := by decide +kernel
theorem dL_law_220 : decode cL_law 220 = .ok (.iload 4, 2) := by decide +kernel
theorem dL_law_222 : decode cL_law 222 = .ok (.iconst 1, 1) := by decide +kernel
theorem dL_law_223 : decode cL_law 223 = .ok (.iadd, 1) := by decide +kernel
theorem dL_law_224 : decode cL_law 224 = .ok (.iaload, 1) := by decide +kernel
theorem dL_law_225 : decode cL_law 225 = .ok (.aload_n 0, 1) := by decide +kernel
theorem dL_law_226 : decode cL_law 226 = .ok (.iload 4, 2) := by decide +kernel
theorem dL_law_228 : decode cL_law 228 = .ok (.iconst 2, 1) := by decide +kernel
theorem dL_law_229 : decode cL_law 229 = .ok (.iadd, 1) := by decide +kernel
theorem dL_law_230 : decode cL_law 230 = .ok (.iaload, 1) := by decide +kernel
theorem dL_law_231 : decode cL_law 231 = .ok (.aload_n 0, 1) := by decide +kernel
theorem dL_law_232 : decode cL_law 232 = .ok (.iload 4, 2) := by decide +kernel
theorem dL_law_234 : decode cL_law 234 = .ok (.iconst 3, 1) := by decide +kernel
theorem dL_law_235 : decode cL_law 235 = .ok (.iadd, 1) := by decide +kernel
theorem dL_law_236 : decode cL_law 236 = .ok (.iaload, 1) := by decide +kernel
theorem dL_law_237 : decode cL_law 237 = .ok (.aload_n 0, 1) := by decide +kernel
theorem dL_law_238 : decode cL_law 238 = .ok (.iload 4, 2) := by decide +kernel
theorem dL_law_240 : decode cL_law 240 = .ok (.iconst 4, 1) := by decide +kernel
theorem dL_law_241 : decode cL_law 241 = .ok (.iadd, 1) := by decide +kernel
theorem dL_law_242 : decode cL_law 242 = .ok (.iaload, 1) := by decide +kernel
theorem dL_law_243 : decode cL_law 243 = .ok (.aload_n 0, 1) := by decide +kernel
theorem dL_law_244 : decode cL_law 244 = .ok (.iload 4, 2) := by decide +kernel
theorem dL_law_246 : decode cL_law 246 = .ok (.iconst 5, 1) := by decide +kernel
theorem dL_law_247 : decode cL_law 247 = .ok (.iadd, 1) := by decide +kernel
theorem dL_law_248 : decode cL_law 248 = .ok (.iaload, 1) := by decide +kernel
theorem dL_law_249 : decode cL_law 249 = .ok (.invokevirtual 94, 3) := by decide +kernel
theorem dL_law_252 : decode cL_law 252 = .ok (.if_icmp .eq 1476, 3) := by decide +kernel
theorem dL_law_255 : decode cL_law 255 = .ok (.iconst 0, 1) := by decide +kernel
theorem dL_law_256 : decode cL_law 256 = .ok (.ireturn, 1) := by decide +kernel
theorem dL_law_257 : decode cL_law 257 = .ok (.aload_n 1, 1) := by decide +kernel
theorem dL_law_258 : decode cL_law 258 = .ok (.aload_n 0, 1) := by decide +kernel
theorem dL_law_259 : decode cL_law 259 = .ok (.iload 4, 2) := by decide +kernel
theorem dL_law_261 : decode cL_law 261 = .ok (.iconst 1, 1) := by decide +kernel
theorem dL_law_262 : decode cL_law 262 = .ok (.iadd, 1) := by decide +kernel
theorem dL_law_263 : decode cL_law 263 = .ok (.iaload, 1) := by decide +kernel
theorem dL_law_264 : decode cL_law 264 = .ok (.aload_n 3, 1) := by decide +kernel
theorem dL_law_265 : decode cL_law 265 = .ok (.invokestatic 95, 3) := by decide +kernel
theorem dL_law_268 : decode cL_law 268 = .ok (.istore 5, 2) := by decide +kernel
theorem dL_law_270 : decode cL_law 270 = .ok (.aload_n 2, 1) := by decide +kernel
theorem dL_law_271 : decode cL_law 271 = .ok (.aload_n 0, 1) := by decide +kernel
theorem dL_law_272 : decode cL_law 272 = .ok (.iload 4, 2) := by decide +kernel
theorem dL_law_274 : decode cL_law 274 = .ok (.iconst 1, 1) := by decide +kernel
theorem dL_law_275 : decode cL_law 275 = .ok (.iadd, 1) := by decide +kernel
theorem dL_law_276 : decode cL_law 276 = .ok (.iaload, 1) := by decide +kernel
theorem dL_law_277 : decode cL_law 277 = .ok (.invokevirtual 100, 3) := by decide +kernel
theorem dL_law_280 : decode cL_law 280 = .ok (.istore 6, 2) := by decide +kernel
theorem dL_law_282 : decode cL_law 282 = .ok (.aload_n 2, 1) := by decide +kernel
theorem dL_law_283 : decode cL_law 283 = .ok (.invokevirtual 101, 3) := by decide +kernel
theorem dL_law_286 : decode cL_law 286 = .ok (.iload 5, 2) := by decide +kernel
theorem dL_law_288 : decode cL_law 288 = .ok (.if_icmp .eq 5, 3) := by decide +kernel
theorem dL_law_291 : decode cL_law 291 = .ok (.iconst 0, 1) := by decide +kernel
theorem dL_law_292 : decode cL_law 292 = .ok (.ireturn, 1) := by decide +kernel
theorem dL_law_293 : decode cL_law 293 = .ok (.iload 5, 2) := by decide +kernel
theorem dL_law_295 : decode cL_law 295 = .ok (.ifCond .ne 15, 3) := by decide +kernel
theorem dL_law_298 : decode cL_law 298 = .ok (.aload_n 3, 1) := by decide +kernel
theorem dL_law_299 : decode cL_law 299 = .ok (.iconst 0, 1) := by decide +kernel
theorem dL_law_300 : decode cL_law 300 = .ok (.laload, 1) := by decide +kernel
theorem dL_law_301 : decode cL_law 301 = .ok (.iload 6, 2) := by decide +kernel
theorem dL_law_303 : decode cL_law 303 = .ok (.i2l, 1) := by decide +kernel
theorem dL_law_304 : decode cL_law 304 = .ok (.lcmp, 1) := by decide +kernel
theorem dL_law_305 : decode cL_law 305 = .ok (.ifCond .eq 5, 3) := by decide +kernel
theorem dL_law_308 : decode cL_law 308 = .ok (.iconst 0, 1) := by decide +kernel
theorem dL_law_309 : decode cL_law 309 = .ok (.ireturn, 1) := by decide +kernel
theorem dL_law_310 : decode cL_law 310 = .ok (.goto 1418, 3) := by decide +kernel
theorem dL_law_313 : decode cL_law 313 = .ok (.aload_n 1, 1) := by decide +kernel
theorem dL_law_314 : decode cL_law 314 = .ok (.invokevirtual 105, 3) := by decide +kernel
theorem dL_law_317 : decode cL_law 317 = .ok (.aload_n 2, 1) := by decide +kernel
theorem dL_law_318 : decode cL_law 318 = .ok (.invokevirtual 108, 3) := by decide +kernel
theorem dL_law_321 : decode cL_law 321 = .ok (.if_icmp .eq 1407, 3) := by decide +kernel
theorem dL_law_324 : decode cL_law 324 = .ok (.iconst 0, 1) := by decide +kernel
theorem dL_law_325 : decode cL_law 325 = .ok (.ireturn, 1) := by decide +kernel
theorem dL_law_326 : decode cL_law 326 = .ok (.aload_n 1, 1) := by decide +kernel
theorem dL_law_327 : decode cL_law 327 = .ok (.invokevirtual 109, 3) := by decide +kernel
theorem dL_law_330 : decode cL_law 330 = .ok (.aload_n 2, 1) := by decide +kernel
theorem dL_law_331 : decode cL_law 331 = .ok (.invokevirtual 112, 3) := by decide +kernel
theorem dL_law_334 : decode cL_law 334 = .ok (.if_icmp .eq 1394, 3) := by decide +kernel
theorem dL_law_337 : decode cL_law 337 = .ok (.iconst 0, 1) := by decide +kernel
theorem dL_law_338 : decode cL_law 338 = .ok (.ireturn, 1) := by decide +kernel
theorem dL_law_339 : decode cL_law 339 = .ok (.aload_n 1, 1) := by decide +kernel
theorem dL_law_340 : decode cL_law 340 = .ok (.invokevirtual 113, 3) := by decide +kernel
theorem dL_law_343 : decode cL_law 343 = .ok (.aload_n 2, 1) := by decide +kernel
theorem dL_law_344 : decode cL_law 344 = .ok (.invokevirtual 116, 3) := by decide +kernel
theorem dL_law_347 : decode cL_law 347 = .ok (.if_icmp .eq 1381, 3) := by decide +kernel
theorem dL_law_350 : decode cL_law 350 = .ok (.iconst 0, 1) := by decide +kernel
theorem dL_law_351 : decode cL_law 351 = .ok (.ireturn, 1) := by decide +kernel
theorem dL_law_352 : decode cL_law 352 = .ok (.aload_n 1, 1) := by decide +kernel
theorem dL_law_353 : decode cL_law 353 = .ok (.invokevirtual 117, 3) := by decide +kernel
theorem dL_law_356 : decode cL_law 356 = .ok (.aload_n 2, 1) := by decide +kernel
theorem dL_law_357 : decode cL_law 357 = .ok (.invokevirtual 120, 3) := by decide +kernel
theorem dL_law_360 : decode cL_law 360 = .ok (.if_icmp .eq 1368, 3) := by decide +kernel
theorem dL_law_363 : decode cL_law 363 = .ok (.iconst 0, 1) := by decide +kernel
theorem dL_law_364 : decode cL_law 364 = .ok (.ireturn, 1) := by decide +kernel
theorem dL_law_365 : decode cL_law 365 = .ok (.aload_n 1, 1) := by decide +kernel
theorem dL_law_366 : decode cL_law 366 = .ok (.invokevirtual 121, 3) := by decide +kernel
theorem dL_law_369 : decode cL_law 369 = .ok (.aload_n 2, 1) := by decide +kernel
theorem dL_law_370 : decode cL_law 370 = .ok (.invokevirtual 124, 3) := by decide +kernel
theorem dL_law_373 : decode cL_law 373 = .ok (.if_icmp .eq 1355, 3) := by decide +kernel
theorem dL_law_376 : decode cL_law 376 = .ok (.iconst 0, 1) := by decide +kernel
theorem dL_law_377 : decode cL_law 377 = .ok (.ireturn, 1) := by decide +kernel
theorem dL_law_378 : decode cL_law 378 = .ok (.aload_n 1, 1) := by decide +kernel
theorem dL_law_379 : decode cL_law 379 = .ok (.aload_n 0, 1) := by decide +kernel
theorem dL_law_380 : decode cL_law 380 = .ok (.iload 4, 2) := by decide +kernel
theorem dL_law_382 : decode cL_law 382 = .ok (.iconst 1, 1) := by decide +kernel
theorem dL_law_383 : decode cL_law 383 = .ok (.iadd, 1) := by decide +kernel
theorem dL_law_384 : decode cL_law 384 = .ok (.iaload, 1) := by decide +kernel
theorem dL_law_385 : decode cL_law 385 = .ok (.aload_n 3, 1) := by decide +kernel
theorem dL_law_386 : decode cL_law 386 = .ok (.invokestatic 125, 3) := by decide +kernel
theorem dL_law_389 : decode cL_law 389 = .ok (.istore 5, 2) := by decide +kernel
theorem dL_law_391 : decode cL_law 391 = .ok (.aload_n 2, 1) := by decide +kernel
theorem dL_law_392 : decode cL_law 392 = .ok (.aload_n 0, 1) := by decide +kernel
theorem dL_law_393 : decode cL_law 393 = .ok (.iload 4, 2) := by decide +kernel
theorem dL_law_395 : decode cL_law 395 = .ok (.iconst 1, 1) := by decide +kernel
theorem dL_law_396 : decode cL_law 396 = .ok (.iadd, 1) := by decide +kernel
theorem dL_law_397 : decode cL_law 397 = .ok (.iaload, 1) := by decide +kernel
theorem dL_law_398 : decode cL_law 398 = .ok (.invokevirtual 127, 3) := by decide +kernel
theorem dL_law_401 : decode cL_law 401 = .ok (.istore 6, 2) := by decide +kernel
theorem dL_law_403 : decode cL_law 403 = .ok (.aload_n 2, 1) := by decide +kernel
theorem dL_law_404 : decode cL_law 404 = .ok (.invokevirtual 101, 3) := by decide +kernel
theorem dL_law_407 : decode cL_law 407 = .ok (.iload 5, 2) := by decide +kernel
theorem dL_law_409 : decode cL_law 409 = .ok (.if_icmp .eq 5, 3) := by decide +kernel
theorem dL_law_412 : decode cL_law 412 = .ok (.iconst 0, 1) := by decide +kernel
theorem dL_law_413 : decode cL_law 413 = .ok (.ireturn, 1) := by decide +kernel
theorem dL_law_414 : decode cL_law 414 = .ok (.iload 5, 2) := by decide +kernel
theorem dL_law_416 : decode cL_law 416 = .ok (.ifCond .ne 15, 3) := by decide +kernel
theorem dL_law_419 : decode cL_law 419 = .ok (.aload_n 3, 1) := by decide +kernel
theorem dL_law_420 : decode cL_law 420 = .ok (.iconst 0, 1) := by decide +kernel
theorem dL_law_421 : decode cL_law 421 = .ok (.laload, 1) := by decide +kernel
theorem dL_law_422 : decode cL_law 422 = .ok (.iload 6, 2) := by decide +kernel
theorem dL_law_424 : decode cL_law 424 = .ok (.i2l, 1) := by decide +kernel
theorem dL_law_425 : decode cL_law 425 = .ok (.lcmp, 1) := by decide +kernel
theorem dL_law_426 : decode cL_law 426 = .ok (.ifCond .eq 5, 3) := by decide +kernel
theorem dL_law_429 : decode cL_law 429 = .ok (.iconst 0, 1) := by decide +kernel
theorem dL_law_430 : decode cL_law 430 = .ok (.ireturn, 1) := by decide +kernel
theorem dL_law_431 : decode cL_law 431 = .ok (.goto 1297, 3) := by decide +kernel
theorem dL_law_434 : decode cL_law 434 = .ok (.aload_n 1, 1) := by decide +kernel
theorem dL_law_435 : decode cL_law 435 = .ok (.aload_n 0, 1) := by decide +kernel
theorem dL_law_436 : decode cL_law 436 = .ok (.iload 4, 2) := by decide +kernel
theorem dL_law_438 : decode cL_law 438 = .ok (.iconst 1, 1) := by decide +kernel
theorem dL_law_439 : decode cL_law 439 = .ok (.iadd, 1) := by decide +kernel
theorem dL_law_440 : decode cL_law 440 = .ok (.iaload, 1) := by decide +kernel
theorem dL_law_441 : decode cL_law 441 = .ok (.aload_n 3, 1) := by decide +kernel
theorem dL_law_442 : decode cL_law 442 = .ok (.invokestatic 128, 3) := by decide +kernel
theorem dL_law_445 : decode cL_law 445 = .ok (.istore 5, 2) := by decide +kernel
theorem dL_law_447 : decode cL_law 447 = .ok (.aload_n 2, 1) := by decide +kernel
theorem dL_law_448 : decode cL_law 448 = .ok (.aload_n 0, 1) := by decide +kernel
theorem dL_law_449 : decode cL_law 449 = .ok (.iload 4, 2) := by decide +kernel
theorem dL_law_451 : decode cL_law 451 = .ok (.iconst 1, 1) := by decide +kernel
theorem dL_law_452 : decode cL_law 452 = .ok (.iadd, 1) := by decide +kernel
theorem dL_law_453 : decode cL_law 453 = .ok (.iaload, 1) := by decide +kernel
theorem dL_law_454 : decode cL_law 454 = .ok (.invokevirtual 130, 3) := by decide +kernel
theorem dL_law_457 : decode cL_law 457 = .ok (.istore 6, 2) := by decide +kernel
theorem dL_law_459 : decode cL_law 459 = .ok (.aload_n 2, 1) := by decide +kernel
theorem dL_law_460 : decode cL_law 460 = .ok (.invokevirtual 101, 3) := by decide +kernel
theorem dL_law_463 : decode cL_law 463 = .ok (.iload 5, 2) := by decide +kernel
theorem dL_law_465 : decode cL_law 465 = .ok (.if_icmp .eq 5, 3) := by decide +kernel
theorem dL_law_468 : decode cL_law 468 = .ok (.iconst 0, 1) := by decide +kernel
theorem dL_law_469 : decode cL_law 469 = .ok (.ireturn, 1) := by decide +kernel
theorem dL_law_470 : decode cL_law 470 = .ok (.iload 5, 2) := by decide +kernel
theorem dL_law_472 : decode cL_law 472 = .ok (.ifCond .ne 15, 3) := by decide +kernel
theorem dL_law_475 : decode cL_law 475 = .ok (.aload_n 3, 1) := by decide +kernel
theorem dL_law_476 : decode cL_law 476 = .ok (.iconst 0, 1) := by decide +kernel
theorem dL_law_477 : decode cL_law 477 = .ok (.laload, 1) := by decide +kernel
theorem dL_law_478 : decode cL_law 478 = .ok (.iload 6, 2) := by decide +kernel
theorem dL_law_480 : decode cL_law 480 = .ok (.i2l, 1) := by decide +kernel
theorem dL_law_481 : decode cL_law 481 = .ok (.lcmp, 1) := by decide +kernel
theorem dL_law_482 : decode cL_law 482 = .ok (.ifCond .eq 5, 3) := by decide +kernel
theorem dL_law_485 : decode cL_law 485 = .ok (.iconst 0, 1) := by decide +kernel
theorem dL_law_486 : decode cL_law 486 = .ok (.ireturn, 1) := by decide +kernel
theorem dL_law_487 : decode cL_law 487 = .ok (.goto 1241, 3) := by decide +kernel
theorem dL_law_490 : decode cL_law 490 = .ok (.aload_n 1, 1) := by decide +kernel
theorem dL_law_491 : decode cL_law 491 = .ok (.aload_n 0, 1) := by decide +kernel
theorem dL_law_492 : decode cL_law 492 = .ok (.iload 4, 2) := by decide +kernel
theorem dL_law_494 : decode cL_law 494 = .ok (.iconst 1, 1) := by decide +kernel
theorem dL_law_495 : decode cL_law 495 = .ok (.iadd, 1) := by decide +kernel
theorem dL_law_496 : decode cL_law 496 = .ok (.iaload, 1) := by decide +kernel
theorem dL_law_497 : decode cL_law 497 = .ok (.aload_n 3, 1) := by decide +kernel
theorem dL_law_498 : decode cL_law 498 = .ok (.invokestatic 131, 3) := by decide +kernel
theorem dL_law_501 : decode cL_law 501 = .ok (.istore 5, 2) := by decide +kernel
theorem dL_law_503 : decode cL_law 503 = .ok (.aload_n 2, 1) := by decide +kernel
theorem dL_law_504 : decode cL_law 504 = .ok (.aload_n 0, 1) := by decide +kernel
theorem dL_law_505 : decode cL_law 505 = .ok (.iload 4, 2) := by decide +kernel
theorem dL_law_507 : decode cL_law 507 = .ok (.iconst 1, 1) := by decide +kernel
theorem dL_law_508 : decode cL_law 508 = .ok (.iadd, 1) := by decide +kernel
theorem dL_law_509 : decode cL_law 509 = .ok (.iaload, 1) := by decide +kernel
theorem dL_law_510 : decode cL_law 510 = .ok (.invokevirtual 133, 3) := by decide +kernel
theorem dL_law_513 : decode cL_law 513 = .ok (.istore 6, 2) := by decide +kernel
theorem dL_law_515 : decode cL_law 515 = .ok (.aload_n 2, 1) := by decide +kernel
theorem dL_law_516 : decode cL_law 516 = .ok (.invokevirtual 101, 3) := by decide +kernel
theorem dL_law_519 : decode cL_law 519 = .ok (.iload 5, 2) := by decide +kernel
theorem dL_law_521 : decode cL_law 521 = .ok (.if_icmp .eq 5, 3) := by decide +kernel
theorem dL_law_524 : decode cL_law 524 = .ok (.iconst 0, 1) := by decide +kernel
theorem dL_law_525 : decode cL_law 525 = .ok (.ireturn, 1) := by decide +kernel
theorem dL_law_526 : decode cL_law 526 = .ok (.iload 5, 2) := by decide +kernel
theorem dL_law_528 : decode cL_law 528 = .ok (.ifCond .ne 15, 3) := by decide +kernel
theorem dL_law_531 : decode cL_law 531 = .ok (.aload_n 3, 1) := by decide +kernel
theorem dL_law_532 : decode cL_law 532 = .ok (.iconst 0, 1) := by decide +kernel
theorem dL_law_533 : decode cL_law 533 = .ok (.laload, 1) := by decide +kernel
theorem dL_law_534 : decode cL_law 534 = .ok (.iload 6, 2) := by decide +kernel
theorem dL_law_536 : decode cL_law 536 = .ok (.i2l, 1) := by decide +kernel
theorem dL_law_537 : decode cL_law 537 = .ok (.lcmp, 1) := by decide +kernel
theorem dL_law_538 : decode cL_law 538 = .ok (.ifCond .eq 5, 3) := by decide +kernel
theorem dL_law_541 : decode cL_law 541 = .ok (.iconst 0, 1) := by decide +kernel
theorem dL_law_542 : decode cL_law 542 = .ok (.ireturn, 1) := by decide +kernel
theorem dL_law_543 : decode cL_law 543 = .ok (.goto 1185, 3) := by decide +kernel
theorem dL_law_546 : decode cL_law 546 = .ok (.aload_n 1, 1) := by decide +kernel
theorem dL_law_547 : decode cL_law 547 = .ok (.aload_n 0, 1) := by decide +kernel
theorem dL_law_548 : decode cL_law 548 = .ok (.iload 4, 2) := by decide +kernel
theorem dL_law_550 : decode cL_law 550 = .ok (.iconst 1, 1) := by decide +kernel
theorem dL_law_551 : decode cL_law 551 = .ok (.iadd, 1) := by decide +kernel
theorem dL_law_552 : decode cL_law 552 = .ok (.iaload, 1) := by decide +kernel
theorem dL_law_553 : decode cL_law 553 = .ok (.aload_n 3, 1) := by decide +kernel
theorem dL_law_554 : decode cL_law 554 = .ok (.invokestatic 134, 3) := by decide +kernel
theorem dL_law_557 : decode cL_law 557 = .ok (.istore 5, 2) := by decide +kernel
theorem dL_law_559 : decode cL_law 559 = .ok (.aload_n 2, 1) := by decide +kernel
theorem dL_law_560 : decode cL_law 560 = .ok (.aload_n 0, 1) := by decide +kernel
theorem dL_law_561 : decode cL_law 561 = .ok (.iload 4, 2) := by decide +kernel
theorem dL_law_563 : decode cL_law 563 = .ok (.iconst 1, 1) := by decide +kernel
theorem dL_law_564 : decode cL_law 564 = .ok (.iadd, 1) := by decide +kernel
theorem dL_law_565 : decode cL_law 565 = .ok (.iaload, 1) := by decide +kernel
theorem dL_law_566 : decode cL_law 566 = .ok (.invokevirtual 136, 3) := by decide +kernel
theorem dL_law_569 : decode cL_law 569 = .ok (.istore 6, 2) := by decide +kernel
theorem dL_law_571 : decode cL_law 571 = .ok (.aload_n 2, 1) := by decide +kernel
theorem dL_law_572 : decode cL_law 572 = .ok (.invokevirtual 101, 3) := by decide +kernel
theorem dL_law_575 : decode cL_law 575 = .ok (.iload 5, 2) := by decide +kernel
theorem dL_law_577 : decode cL_law 577 = .ok (.if_icmp .eq 5, 3) := by decide +kernel
theorem dL_law_580 : decode cL_law 580 = .ok (.iconst 0, 1) := by decide +kernel
theorem dL_law_581 : decode cL_law 581 = .ok (.ireturn, 1) := by decide +kernel
theorem dL_law_582 : decode cL_law 582 = .ok (.iload 5, 2) := by decide +kernel
theorem dL_law_584 : decode cL_law 584 = .ok (.ifCond .ne 15, 3) := by decide +kernel
theorem dL_law_587 : decode cL_law 587 = .ok (.aload_n 3, 1) := by decide +kernel
theorem dL_law_588 : decode cL_law 588 = .ok (.iconst 0, 1) := by decide +kernel
theorem dL_law_589 : decode cL_law 589 = .ok (.laload, 1) := by decide +kernel
theorem dL_law_590 : decode cL_law 590 = .ok (.iload 6, 2) := by decide +kernel
theorem dL_law_592 : decode cL_law 592 = .ok (.i2l, 1) := by decide +kernel
theorem dL_law_593 : decode cL_law 593 = .ok (.lcmp, 1) := by decide +kernel
theorem dL_law_594 : decode cL_law 594 = .ok (.ifCond .eq 5, 3) := by decide +kernel
theorem dL_law_597 : decode cL_law 597 = .ok (.iconst 0, 1) := by decide +kernel
theorem dL_law_598 : decode cL_law 598 = .ok (.ireturn, 1) := by decide +kernel
theorem dL_law_599 : decode cL_law 599 = .ok (.goto 1129, 3) := by decide +kernel
theorem dL_law_602 : decode cL_law 602 = .ok (.aload_n 1, 1) := by decide +kernel
theorem dL_law_603 : decode cL_law 603 = .ok (.aload_n 0, 1) := by decide +kernel
theorem dL_law_604 : decode cL_law 604 = .ok (.iload 4, 2) := by decide +kernel
theorem dL_law_606 : decode cL_law 606 = .ok (.iconst 1, 1) := by decide +kernel
theorem dL_law_607 : decode cL_law 607 = .ok (.iadd, 1) := by decide +kernel
theorem dL_law_608 : decode cL_law 608 = .ok (.iaload, 1) := by decide +kernel
theorem dL_law_609 : decode cL_law 609 = .ok (.aload_n 3, 1) := by decide +kernel
theorem dL_law_610 : decode cL_law 610 = .ok (.invokestatic 137, 3) := by decide +kernel
theorem dL_law_613 : decode cL_law 613 = .ok (.istore 5, 2) := by decide +kernel
theorem dL_law_615 : decode cL_law 615 = .ok (.aload_n 2, 1) := by decide +kernel
theorem dL_law_616 : decode cL_law 616 = .ok (.aload_n 0, 1) := by decide +kernel
theorem dL_law_617 : decode cL_law 617 = .ok (.iload 4, 2) := by decide +kernel
theorem dL_law_619 : decode cL_law 619 = .ok (.iconst 1, 1) := by decide +kernel
theorem dL_law_620 : decode cL_law 620 = .ok (.iadd, 1) := by decide +kernel
theorem dL_law_621 : decode cL_law 621 = .ok (.iaload, 1) := by decide +kernel
theorem dL_law_622 : decode cL_law 622 = .ok (.invokevirtual 139, 3) := by decide +kernel
theorem dL_law_625 : decode cL_law 625 = .ok (.istore 6, 2) := by decide +kernel
theorem dL_law_627 : decode cL_law 627 = .ok (.aload_n 2, 1) := by decide +kernel
theorem dL_law_628 : decode cL_law 628 = .ok (.invokevirtual 101, 3) := by decide +kernel
theorem dL_law_631 : decode cL_law 631 = .ok (.iload 5, 2) := by decide +kernel
theorem dL_law_633 : decode cL_law 633 = .ok (.if_icmp .eq 5, 3) := by decide +kernel
theorem dL_law_636 : decode cL_law 636 = .ok (.iconst 0, 1) := by decide +kernel
theorem dL_law_637 : decode cL_law 637 = .ok (.ireturn, 1) := by decide +kernel
theorem dL_law_638 : decode cL_law 638 = .ok (.iload 5, 2) := by decide +kernel
theorem dL_law_640 : decode cL_law 640 = .ok (.ifCond .ne 15, 3) := by decide +kernel
theorem dL_law_643 : decode cL_law 643 = .ok (.aload_n 3, 1) := by decide +kernel
theorem dL_law_644 : decode cL_law 644 = .ok (.iconst 0, 1) := by decide +kernel
theorem dL_law_645 : decode cL_law 645 = .ok (.laload, 1) := by decide +kernel
theorem dL_law_646 : decode cL_law 646 = .ok (.iload 6, 2) := by decide +kernel
theorem dL_law_648 : decode cL_law 648 = .ok (.i2l, 1) := by decide +kernel
theorem dL_law_649 : decode cL_law 649 = .ok (.lcmp, 1) := by decide +kernel
theorem dL_law_650 : decode cL_law 650 = .ok (.ifCond .eq 5, 3) := by decide +kernel
theorem dL_law_653 : decode cL_law 653 = .ok (.iconst 0, 1) := by decide +kernel
theorem dL_law_654 : decode cL_law 654 = .ok (.ireturn, 1) := by decide +kernel
theorem dL_law_655 : decode cL_law 655 = .ok (.goto 1073, 3) := by decide +kernel
theorem dL_law_658 : decode cL_law 658 = .ok (.aload_n 1, 1) := by decide +kernel
theorem dL_law_659 : decode cL_law 659 = .ok (.aload_n 0, 1) := by decide +kernel
theorem dL_law_660 : decode cL_law 660 = .ok (.iload 4, 2) := by decide +kernel
theorem dL_law_662 : decode cL_law 662 = .ok (.iconst 1, 1) := by decide +kernel
theorem dL_law_663 : decode cL_law 663 = .ok (.iadd, 1) := by decide +kernel
theorem dL_law_664 : decode cL_law 664 = .ok (.iaload, 1) := by decide +kernel
theorem dL_law_665 : decode cL_law 665 = .ok (.aload_n 3, 1) := by decide +kernel
theorem dL_law_666 : decode cL_law 666 = .ok (.invokestatic 140, 3) := by decide +kernel
theorem dL_law_669 : decode cL_law 669 = .ok (.istore 5, 2) := by decide +kernel
theorem dL_law_671 : decode cL_law 671 = .ok (.aload_n 2, 1) := by decide +kernel
theorem dL_law_672 : decode cL_law 672 = .ok (.aload_n 0, 1) := by decide +kernel
theorem dL_law_673 : decode cL_law 673 = .ok (.iload 4, 2) := by decide +kernel
theorem dL_law_675 : decode cL_law 675 = .ok (.iconst 1, 1) := by decide +kernel
theorem dL_law_676 : decode cL_law 676 = .ok (.iadd, 1) := by decide +kernel
theorem dL_law_677 : decode cL_law 677 = .ok (.iaload, 1) := by decide +kernel
theorem dL_law_678 : decode cL_law 678 = .ok (.invokevirtual 142, 3) := by decide +kernel
theorem dL_law_681 : decode cL_law 681 = .ok (.istore 6, 2) := by decide +kernel
theorem dL_law_683 : decode cL_law 683 = .ok (.aload_n 2, 1) := by decide +kernel
theorem dL_law_684 : decode cL_law 684 = .ok (.invokevirtual 101, 3) := by decide +kernel
theorem dL_law_687 : decode cL_law 687 = .ok (.iload 5, 2) := by decide +kernel
theorem dL_law_689 : decode cL_law 689 = .ok (.if_icmp .eq 5, 3) := by decide +kernel
theorem dL_law_692 : decode cL_law 692 = .ok (.iconst 0, 1) := by decide +kernel
theorem dL_law_693 : decode cL_law 693 = .ok (.ireturn, 1) := by decide +kernel
theorem dL_law_694 : decode cL_law 694 = .ok (.iload 5, 2) := by decide +kernel
theorem dL_law_696 : decode cL_law 696 = .ok (.ifCond .ne 22, 3) := by decide +kernel
theorem dL_law_699 : decode cL_law 699 = .ok (.aload_n 3, 1) := by decide +kernel
theorem dL_law_700 : decode cL_law 700 = .ok (.iconst 0, 1) := by decide +kernel
theorem dL_law_701 : decode cL_law 701 = .ok (.laload, 1) := by decide +kernel
theorem dL_law_702 : decode cL_law 702 = .ok (.iload 6, 2) := by decide +kernel
theorem dL_law_704 : decode cL_law 704 = .ok (.ifCond .eq 7, 3) := by decide +kernel
theorem dL_law_707 : decode cL_law 707 = .ok (.lconst 1, 1) := by decide +kernel
theorem dL_law_708 : decode cL_law 708 = .ok (.goto 4, 3) := by decide +kernel
theorem dL_law_711 : decode cL_law 711 = .ok (.lconst 0, 1) := by decide +kernel
theorem dL_law_712 : decode cL_law 712 = .ok (.lcmp, 1) := by decide +kernel
theorem dL_law_713 : decode cL_law 713 = .ok (.ifCond .eq 5, 3) := by decide +kernel
theorem dL_law_716 : decode cL_law 716 = .ok (.iconst 0, 1) := by decide +kernel
theorem dL_law_717 : decode cL_law 717 = .ok (.ireturn, 1) := by decide +kernel
theorem dL_law_718 : decode cL_law 718 = .ok (.goto 1010, 3) := by decide +kernel
theorem dL_law_721 : decode cL_law 721 = .ok (.aload_n 1, 1) := by decide +kernel
theorem dL_law_722 : decode cL_law 722 = .ok (.aload_n 0, 1) := by decide +kernel
theorem dL_law_723 : decode cL_law 723 = .ok (.iload 4, 2) := by decide +kernel
theorem dL_law_725 : decode cL_law 725 = .ok (.iconst 1, 1) := by decide +kernel
theorem dL_law_726 : decode cL_law 726 = .ok (.iadd, 1) := by decide +kernel
theorem dL_law_727 : decode cL_law 727 = .ok (.iaload, 1) := by decide +kernel
theorem dL_law_728 : decode cL_law 728 = .ok (.aload_n 3, 1) := by decide +kernel
theorem dL_law_729 : decode cL_law 729 = .ok (.invokestatic 143, 3) := by decide +kernel
theorem dL_law_732 : decode cL_law 732 = .ok (.istore 5, 2) := by decide +kernel
theorem dL_law_734 : decode cL_law 734 = .ok (.aload_n 2, 1) := by decide +kernel
theorem dL_law_735 : decode cL_law 735 = .ok (.aload_n 0, 1) := by decide +kernel
theorem dL_law_736 : decode cL_law 736 = .ok (.iload 4, 2) := by decide +kernel
theorem dL_law_738 : decode cL_law 738 = .ok (.iconst 1, 1) := by decide +kernel
theorem dL_law_739 : decode cL_law 739 = .ok (.iadd, 1) := by decide +kernel
theorem dL_law_740 : decode cL_law 740 = .ok (.iaload, 1) := by decide +kernel
theorem dL_law_741 : decode cL_law 741 = .ok (.invokevirtual 145, 3) := by decide +kernel
theorem dL_law_744 : decode cL_law 744 = .ok (.istore 6, 2) := by decide +kernel
theorem dL_law_746 : decode cL_law 746 = .ok (.aload_n 2, 1) := by decide +kernel
theorem dL_law_747 : decode cL_law 747 = .ok (.invokevirtual 101, 3) := by decide +kernel
theorem dL_law_750 : decode cL_law 750 = .ok (.iload 5, 2) := by decide +kernel
theorem dL_law_752 : decode cL_law 752 = .ok (.if_icmp .eq 5, 3) := by decide +kernel
theorem dL_law_755 : decode cL_law 755 = .ok (.iconst 0, 1) := by decide +kernel
theorem dL_law_756 : decode cL_law 756 = .ok (.ireturn, 1) := by decide +kernel
theorem dL_law_757 : decode cL_law 757 = .ok (.iload 5, 2) := by decide +kernel
theorem dL_law_759 : decode cL_law 759 = .ok (.ifCond .ne 15, 3) := by decide +kernel
theorem dL_law_762 : decode cL_law 762 = .ok (.aload_n 3, 1) := by decide +kernel
theorem dL_law_763 : decode cL_law 763 = .ok (.iconst 0, 1) := by decide +kernel
theorem dL_law_764 : decode cL_law 764 = .ok (.laload, 1) := by decide +kernel
theorem dL_law_765 : decode cL_law 765 = .ok (.iload 6, 2) := by decide +kernel
theorem dL_law_767 : decode cL_law 767 = .ok (.i2l, 1) := by decide +kernel
theorem dL_law_768 : decode cL_law 768 = .ok (.lcmp, 1) := by decide +kernel
theorem dL_law_769 : decode cL_law 769 = .ok (.ifCond .eq 5, 3) := by decide +kernel
theorem dL_law_772 : decode cL_law 772 = .ok (.iconst 0, 1) := by decide +kernel
theorem dL_law_773 : decode cL_law 773 = .ok (.ireturn, 1) := by decide +kernel
theorem dL_law_774 : decode cL_law 774 = .ok (.goto 954, 3) := by decide +kernel
theorem dL_law_777 : decode cL_law 777 = .ok (.aload_n 1, 1) := by decide +kernel
theorem dL_law_778 : decode cL_law 778 = .ok (.aload_n 0, 1) := by decide +kernel
theorem dL_law_779 : decode cL_law 779 = .ok (.iload 4, 2) := by decide +kernel
theorem dL_law_781 : decode cL_law 781 = .ok (.iconst 1, 1) := by decide +kernel
theorem dL_law_782 : decode cL_law 782 = .ok (.iadd, 1) := by decide +kernel
theorem dL_law_783 : decode cL_law 783 = .ok (.iaload, 1) := by decide +kernel
theorem dL_law_784 : decode cL_law 784 = .ok (.aload_n 0, 1) := by decide +kernel
theorem dL_law_785 : decode cL_law 785 = .ok (.iload 4, 2) := by decide +kernel
theorem dL_law_787 : decode cL_law 787 = .ok (.iconst 2, 1) := by decide +kernel
theorem dL_law_788 : decode cL_law 788 = .ok (.iadd, 1) := by decide +kernel
theorem dL_law_789 : decode cL_law 789 = .ok (.iaload, 1) := by decide +kernel
theorem dL_law_790 : decode cL_law 790 = .ok (.aload_n 3, 1) := by decide +kernel
theorem dL_law_791 : decode cL_law 791 = .ok (.invokestatic 146, 3) := by decide +kernel
theorem dL_law_794 : decode cL_law 794 = .ok (.istore 5, 2) := by decide +kernel
theorem dL_law_796 : decode cL_law 796 = .ok (.aload_n 2, 1) := by decide +kernel
theorem dL_law_797 : decode cL_law 797 = .ok (.aload_n 0, 1) := by decide +kernel
theorem dL_law_798 : decode cL_law 798 = .ok (.iload 4, 2) := by decide +kernel
theorem dL_law_800 : decode cL_law 800 = .ok (.iconst 1, 1) := by decide +kernel
theorem dL_law_801 : decode cL_law 801 = .ok (.iadd, 1) := by decide +kernel
theorem dL_law_802 : decode cL_law 802 = .ok (.iaload, 1) := by decide +kernel
theorem dL_law_803 : decode cL_law 803 = .ok (.aload_n 0, 1) := by decide +kernel
theorem dL_law_804 : decode cL_law 804 = .ok (.iload 4, 2) := by decide +kernel
theorem dL_law_806 : decode cL_law 806 = .ok (.iconst 2, 1) := by decide +kernel
theorem dL_law_807 : decode cL_law 807 = .ok (.iadd, 1) := by decide +kernel
theorem dL_law_808 : decode cL_law 808 = .ok (.iaload, 1) := by decide +kernel
theorem dL_law_809 : decode cL_law 809 = .ok (.invokevirtual 149, 3) := by decide +kernel
theorem dL_law_812 : decode cL_law 812 = .ok (.istore 6, 2) := by decide +kernel
theorem dL_law_814 : decode cL_law 814 = .ok (.aload_n 2, 1) := by decide +kernel
theorem dL_law_815 : decode cL_law 815 = .ok (.invokevirtual 101, 3) := by decide +kernel
theorem dL_law_818 : decode cL_law 818 = .ok (.iload 5, 2) := by decide +kernel
theorem dL_law_820 : decode cL_law 820 = .ok (.if_icmp .eq 5, 3) := by decide +kernel
theorem dL_law_823 : decode cL_law 823 = .ok (.iconst 0, 1) := by decide +kernel
theorem dL_law_824 : decode cL_law 824 = .ok (.ireturn, 1) := by decide +kernel
theorem dL_law_825 : decode cL_law 825 = .ok (.iload 5, 2) := by decide +kernel
theorem dL_law_827 : decode cL_law 827 = .ok (.ifCond .ne 15, 3) := by decide +kernel
theorem dL_law_830 : decode cL_law 830 = .ok (.aload_n 3, 1) := by decide +kernel
theorem dL_law_831 : decode cL_law 831 = .ok (.iconst 0, 1) := by decide +kernel
theorem dL_law_832 : decode cL_law 832 = .ok (.laload, 1) := by decide +kernel
theorem dL_law_833 : decode cL_law 833 = .ok (.iload 6, 2) := by decide +kernel
theorem dL_law_835 : decode cL_law 835 = .ok (.i2l, 1) := by decide +kernel
theorem dL_law_836 : decode cL_law 836 = .ok (.lcmp, 1) := by decide +kernel
theorem dL_law_837 : decode cL_law 837 = .ok (.ifCond .eq 5, 3) := by decide +kernel
theorem dL_law_840 : decode cL_law 840 = .ok (.iconst 0, 1) := by decide +kernel
theorem dL_law_841 : decode cL_law 841 = .ok (.ireturn, 1) := by decide +kernel
theorem dL_law_842 : decode cL_law 842 = .ok (.goto 886, 3) := by decide +kernel
theorem dL_law_845 : decode cL_law 845 = .ok (.aload_n 1, 1) := by decide +kernel
theorem dL_law_846 : decode cL_law 846 = .ok (.aload_n 0, 1) := by decide +kernel
theorem dL_law_847 : decode cL_law 847 = .ok (.iload 4, 2) := by decide +kernel
theorem dL_law_849 : decode cL_law 849 = .ok (.iconst 1, 1) := by decide +kernel
theorem dL_law_850 : decode cL_law 850 = .ok (.iadd, 1) := by decide +kernel
theorem dL_law_851 : decode cL_law 851 = .ok (.iaload, 1) := by decide +kernel
theorem dL_law_852 : decode cL_law 852 = .ok (.aload_n 3, 1) := by decide +kernel
theorem dL_law_853 : decode cL_law 853 = .ok (.invokestatic 150, 3) := by decide +kernel
theorem dL_law_856 : decode cL_law 856 = .ok (.istore 5, 2) := by decide +kernel
theorem dL_law_858 : decode cL_law 858 = .ok (.aload_n 2, 1) := by decide +kernel
theorem dL_law_859 : decode cL_law 859 = .ok (.aload_n 0, 1) := by decide +kernel
theorem dL_law_860 : decode cL_law 860 = .ok (.iload 4, 2) := by decide +kernel
theorem dL_law_862 : decode cL_law 862 = .ok (.iconst 1, 1) := by decide +kernel
theorem dL_law_863 : decode cL_law 863 = .ok (.iadd, 1) := by decide +kernel
theorem dL_law_864 : decode cL_law 864 = .ok (.iaload, 1) := by decide +kernel
theorem dL_law_865 : decode cL_law 865 = .ok (.invokevirtual 152, 3) := by decide +kernel
theorem dL_law_868 : decode cL_law 868 = .ok (.istore 6, 2) := by decide +kernel
theorem dL_law_870 : decode cL_law 870 = .ok (.aload_n 2, 1) := by decide +kernel
theorem dL_law_871 : decode cL_law 871 = .ok (.invokevirtual 101, 3) := by decide +kernel
theorem dL_law_874 : decode cL_law 874 = .ok (.iload 5, 2) := by decide +kernel
theorem dL_law_876 : decode cL_law 876 = .ok (.if_icmp .eq 5, 3) := by decide +kernel
theorem dL_law_879 : decode cL_law 879 = .ok (.iconst 0, 1) := by decide +kernel
theorem dL_law_880 : decode cL_law 880 = .ok (.ireturn, 1) := by decide +kernel
theorem dL_law_881 : decode cL_law 881 = .ok (.iload 5, 2) := by decide +kernel
theorem dL_law_883 : decode cL_law 883 = .ok (.ifCond .ne 15, 3) := by decide +kernel
theorem dL_law_886 : decode cL_law 886 = .ok (.aload_n 3, 1) := by decide +kernel
theorem dL_law_887 : decode cL_law 887 = .ok (.iconst 0, 1) := by decide +kernel
theorem dL_law_888 : decode cL_law 888 = .ok (.laload, 1) := by decide +kernel
theorem dL_law_889 : decode cL_law 889 = .ok (.iload 6, 2) := by decide +kernel
theorem dL_law_891 : decode cL_law 891 = .ok (.i2l, 1) := by decide +kernel
theorem dL_law_892 : decode cL_law 892 = .ok (.lcmp, 1) := by decide +kernel
theorem dL_law_893 : decode cL_law 893 = .ok (.ifCond .eq 5, 3) := by decide +kernel
theorem dL_law_896 : decode cL_law 896 = .ok (.iconst 0, 1) := by decide +kernel
theorem dL_law_897 : decode cL_law 897 = .ok (.ireturn, 1) := by decide +kernel
theorem dL_law_898 : decode cL_law 898 = .ok (.goto 830, 3) := by decide +kernel
theorem dL_law_901 : decode cL_law 901 = .ok (.aload_n 1, 1) := by decide +kernel
theorem dL_law_902 : decode cL_law 902 = .ok (.aload_n 0, 1) := by decide +kernel
theorem dL_law_903 : decode cL_law 903 = .ok (.iload 4, 2) := by decide +kernel
theorem dL_law_905 : decode cL_law 905 = .ok (.iconst 1, 1) := by decide +kernel
theorem dL_law_906 : decode cL_law 906 = .ok (.iadd, 1) := by decide +kernel
theorem dL_law_907 : decode cL_law 907 = .ok (.iaload, 1) := by decide +kernel
theorem dL_law_908 : decode cL_law 908 = .ok (.aload_n 3, 1) := by decide +kernel
theorem dL_law_909 : decode cL_law 909 = .ok (.invokestatic 153, 3) := by decide +kernel
theorem dL_law_912 : decode cL_law 912 = .ok (.istore 5, 2) := by decide +kernel
theorem dL_law_914 : decode cL_law 914 = .ok (.aload_n 2, 1) := by decide +kernel
theorem dL_law_915 : decode cL_law 915 = .ok (.aload_n 0, 1) := by decide +kernel
theorem dL_law_916 : decode cL_law 916 = .ok (.iload 4, 2) := by decide +kernel
theorem dL_law_918 : decode cL_law 918 = .ok (.iconst 1, 1) := by decide +kernel
theorem dL_law_919 : decode cL_law 919 = .ok (.iadd, 1) := by decide +kernel
theorem dL_law_920 : decode cL_law 920 = .ok (.iaload, 1) := by decide +kernel
theorem dL_law_921 : decode cL_law 921 = .ok (.invokevirtual 155, 3) := by decide +kernel
theorem dL_law_924 : decode cL_law 924 = .ok (.istore 6, 2) := by decide +kernel
theorem dL_law_926 : decode cL_law 926 = .ok (.aload_n 2, 1) := by decide +kernel
theorem dL_law_927 : decode cL_law 927 = .ok (.invokevirtual 101, 3) := by decide +kernel
theorem dL_law_930 : decode cL_law 930 = .ok (.iload 5, 2) := by decide +kernel
theorem dL_law_932 : decode cL_law 932 = .ok (.if_icmp .eq 5, 3) := by decide +kernel
theorem dL_law_935 : decode cL_law 935 = .ok (.iconst 0, 1) := by decide +kernel
theorem dL_law_936 : decode cL_law 936 = .ok (.ireturn, 1) := by decide +kernel
theorem dL_law_937 : decode cL_law 937 = .ok (.iload 5, 2) := by decide +kernel
theorem dL_law_939 : decode cL_law 939 = .ok (.ifCond .ne 15, 3) := by decide +kernel
theorem dL_law_942 : decode cL_law 942 = .ok (.aload_n 3, 1) := by decide +kernel
theorem dL_law_943 : decode cL_law 943 = .ok (.iconst 0, 1) := by decide +kernel
theorem dL_law_944 : decode cL_law 944 = .ok (.laload, 1) := by decide +kernel
theorem dL_law_945 : decode cL_law 945 = .ok (.iload 6, 2) := by decide +kernel
theorem dL_law_947 : decode cL_law 947 = .ok (.i2l, 1) := by decide +kernel
theorem dL_law_948 : decode cL_law 948 = .ok (.lcmp, 1) := by decide +kernel
theorem dL_law_949 : decode cL_law 949 = .ok (.ifCond .eq 5, 3) := by decide +kernel
theorem dL_law_952 : decode cL_law 952 = .ok (.iconst 0, 1) := by decide +kernel
theorem dL_law_953 : decode cL_law 953 = .ok (.ireturn, 1) := by decide +kernel
theorem dL_law_954 : decode cL_law 954 = .ok (.goto 774, 3) := by decide +kernel
theorem dL_law_957 : decode cL_law 957 = .ok (.aload_n 1, 1) := by decide +kernel
theorem dL_law_958 : decode cL_law 958 = .ok (.aload_n 0, 1) := by decide +kernel
theorem dL_law_959 : decode cL_law 959 = .ok (.iload 4, 2) := by decide +kernel
theorem dL_law_961 : decode cL_law 961 = .ok (.iconst 1, 1) := by decide +kernel
theorem dL_law_962 : decode cL_law 962 = .ok (.iadd, 1) := by decide +kernel
theorem dL_law_963 : decode cL_law 963 = .ok (.iaload, 1) := by decide +kernel
theorem dL_law_964 : decode cL_law 964 = .ok (.aload_n 3, 1) := by decide +kernel
theorem dL_law_965 : decode cL_law 965 = .ok (.invokestatic 156, 3) := by decide +kernel
theorem dL_law_968 : decode cL_law 968 = .ok (.istore 5, 2) := by decide +kernel
theorem dL_law_970 : decode cL_law 970 = .ok (.aload_n 2, 1) := by decide +kernel
theorem dL_law_971 : decode cL_law 971 = .ok (.aload_n 0, 1) := by decide +kernel
theorem dL_law_972 : decode cL_law 972 = .ok (.iload 4, 2) := by decide +kernel
theorem dL_law_974 : decode cL_law 974 = .ok (.iconst 1, 1) := by decide +kernel
theorem dL_law_975 : decode cL_law 975 = .ok (.iadd, 1) := by decide +kernel
theorem dL_law_976 : decode cL_law 976 = .ok (.iaload, 1) := by decide +kernel
theorem dL_law_977 : decode cL_law 977 = .ok (.invokevirtual 158, 3) := by decide +kernel
theorem dL_law_980 : decode cL_law 980 = .ok (.istore 6, 2) := by decide +kernel
theorem dL_law_982 : decode cL_law 982 = .ok (.aload_n 2, 1) := by decide +kernel
theorem dL_law_983 : decode cL_law 983 = .ok (.invokevirtual 101, 3) := by decide +kernel
theorem dL_law_986 : decode cL_law 986 = .ok (.iload 5, 2) := by decide +kernel
theorem dL_law_988 : decode cL_law 988 = .ok (.if_icmp .eq 5, 3) := by decide +kernel
theorem dL_law_991 : decode cL_law 991 = .ok (.iconst 0, 1) := by decide +kernel
theorem dL_law_992 : decode cL_law 992 = .ok (.ireturn, 1) := by decide +kernel
theorem dL_law_993 : decode cL_law 993 = .ok (.iload 5, 2) := by decide +kernel
theorem dL_law_995 : decode cL_law 995 = .ok (.ifCond .ne 15, 3) := by decide +kernel
theorem dL_law_998 : decode cL_law 998 = .ok (.aload_n 3, 1) := by decide +kernel
theorem dL_law_999 : decode cL_law 999 = .ok (.iconst 0, 1) := by decide +kernel
theorem dL_law_1000 : decode cL_law 1000 = .ok (.laload, 1) := by decide +kernel
theorem dL_law_1001 : decode cL_law 1001 = .ok (.iload 6, 2) := by decide +kernel
theorem dL_law_1003 : decode cL_law 1003 = .ok (.i2l, 1) := by decide +kernel
theorem dL_law_1004 : decode cL_law 1004 = .ok (.lcmp, 1) := by decide +kernel
theorem dL_law_1005 : decode cL_law 1005 = .ok (.ifCond .eq 5, 3) := by decide +kernel
theorem dL_law_1008 : decode cL_law 1008 = .ok (.iconst 0, 1) := by decide +kernel
theorem dL_law_1009 : decode cL_law 1009 = .ok (.ireturn, 1) := by decide +kernel
theorem dL_law_1010 : decode cL_law 1010 = .ok (.goto 718, 3) := by decide +kernel
theorem dL_law_1013 : decode cL_law 1013 = .ok (.aload_n 1, 1) := by decide +kernel
theorem dL_law_1014 : decode cL_law 1014 = .ok (.aload_n 0, 1) := by decide +kernel
theorem dL_law_1015 : decode cL_law 1015 = .ok (.iload 4, 2) := by decide +kernel
theorem dL_law_1017 : decode cL_law 1017 = .ok (.iconst 1, 1) := by decide +kernel
theorem dL_law_1018 : decode cL_law 1018 = .ok (.iadd, 1) := by decide +kernel
theorem dL_law_1019 : decode cL_law 1019 = .ok (.iaload, 1) := by decide +kernel
theorem dL_law_1020 : decode cL_law 1020 = .ok (.aload_n 3, 1) := by decide +kernel
theorem dL_law_1021 : decode cL_law 1021 = .ok (.invokestatic 159, 3) := by decide +kernel
theorem dL_law_1024 : decode cL_law 1024 = .ok (.istore 5, 2) := by decide +kernel
theorem dL_law_1026 : decode cL_law 1026 = .ok (.aload_n 2, 1) := by decide +kernel
theorem dL_law_1027 : decode cL_law 1027 = .ok (.aload_n 0, 1) := by decide +kernel
theorem dL_law_1028 : decode cL_law 1028 = .ok (.iload 4, 2) := by decide +kernel
theorem dL_law_1030 : decode cL_law 1030 = .ok (.iconst 1, 1) := by decide +kernel
theorem dL_law_1031 : decode cL_law 1031 = .ok (.iadd, 1) := by decide +kernel
theorem dL_law_1032 : decode cL_law 1032 = .ok (.iaload, 1) := by decide +kernel
theorem dL_law_1033 : decode cL_law 1033 = .ok (.invokevirtual 161, 3) := by decide +kernel
theorem dL_law_1036 : decode cL_law 1036 = .ok (.istore 6, 2) := by decide +kernel
theorem dL_law_1038 : decode cL_law 1038 = .ok (.aload_n 2, 1) := by decide +kernel
theorem dL_law_1039 : decode cL_law 1039 = .ok (.invokevirtual 101, 3) := by decide +kernel
theorem dL_law_1042 : decode cL_law 1042 = .ok (.iload 5, 2) := by decide +kernel
theorem dL_law_1044 : decode cL_law 1044 = .ok (.if_icmp .eq 5, 3) := by decide +kernel
theorem dL_law_1047 : decode cL_law 1047 = .ok (.iconst 0, 1) := by decide +kernel
theorem dL_law_1048 : decode cL_law 1048 = .ok (.ireturn, 1) := by decide +kernel
theorem dL_law_1049 : decode cL_law 1049 = .ok (.iload 5, 2) := by decide +kernel
theorem dL_law_1051 : decode cL_law 1051 = .ok (.ifCond .ne 15, 3) := by decide +kernel
theorem dL_law_1054 : decode cL_law 1054 = .ok (.aload_n 3, 1) := by decide +kernel
theorem dL_law_1055 : decode cL_law 1055 = .ok (.iconst 0, 1) := by decide +kernel
theorem dL_law_1056 : decode cL_law 1056 = .ok (.laload, 1) := by decide +kernel
theorem dL_law_1057 : decode cL_law 1057 = .ok (.iload 6, 2) := by decide +kernel
theorem dL_law_1059 : decode cL_law 1059 = .ok (.i2l, 1) := by decide +kernel
theorem dL_law_1060 : decode cL_law 1060 = .ok (.lcmp, 1) := by decide +kernel
theorem dL_law_1061 : decode cL_law 1061 = .ok (.ifCond .eq 5, 3) := by decide +kernel
theorem dL_law_1064 : decode cL_law 1064 = .ok (.iconst 0, 1) := by decide +kernel
theorem dL_law_1065 : decode cL_law 1065 = .ok (.ireturn, 1) := by decide +kernel
theorem dL_law_1066 : decode cL_law 1066 = .ok (.goto 662, 3) := by decide +kernel
theorem dL_law_1069 : decode cL_law 1069 = .ok (.aload_n 1, 1) := by decide +kernel
theorem dL_law_1070 : decode cL_law 1070 = .ok (.aload_n 0, 1) := by decide +kernel
theorem dL_law_1071 : decode cL_law 1071 = .ok (.iload 4, 2) := by decide +kernel
theorem dL_law_1073 : decode cL_law 1073 = .ok (.iconst 1, 1) := by decide +kernel
theorem dL_law_1074 : decode cL_law 1074 = .ok (.iadd, 1) := by decide +kernel
theorem dL_law_1075 : decode cL_law 1075 = .ok (.iaload, 1) := by decide +kernel
theorem dL_law_1076 : decode cL_law 1076 = .ok (.aload_n 3, 1) := by decide +kernel
theorem dL_law_1077 : decode cL_law 1077 = .ok (.invokestatic 162, 3) := by decide +kernel
theorem dL_law_1080 : decode cL_law 1080 = .ok (.istore 5, 2) := by decide +kernel
theorem dL_law_1082 : decode cL_law 1082 = .ok (.aload_n 2, 1) := by decide +kernel
theorem dL_law_1083 : decode cL_law 1083 = .ok (.aload_n 0, 1) := by decide +kernel
theorem dL_law_1084 : decode cL_law 1084 = .ok (.iload 4, 2) := by decide +kernel
theorem dL_law_1086 : decode cL_law 1086 = .ok (.iconst 1, 1) := by decide +kernel
theorem dL_law_1087 : decode cL_law 1087 = .ok (.iadd, 1) := by decide +kernel
theorem dL_law_1088 : decode cL_law 1088 = .ok (.iaload, 1) := by decide +kernel
theorem dL_law_1089 : decode cL_law 1089 = .ok (.invokevirtual 164, 3) := by decide +kernel
theorem dL_law_1092 : decode cL_law 1092 = .ok (.istore 6, 2) := by decide +kernel
theorem dL_law_1094 : decode cL_law 1094 = .ok (.aload_n 2, 1) := by decide +kernel
theorem dL_law_1095 : decode cL_law 1095 = .ok (.invokevirtual 101, 3) := by decide +kernel
theorem dL_law_1098 : decode cL_law 1098 = .ok (.iload 5, 2) := by decide +kernel
theorem dL_law_1100 : decode cL_law 1100 = .ok (.if_icmp .eq 5, 3) := by decide +kernel
theorem dL_law_1103 : decode cL_law 1103 = .ok (.iconst 0, 1) := by decide +kernel
theorem dL_law_1104 : decode cL_law 1104 = .ok (.ireturn, 1) := by decide +kernel
theorem dL_law_1105 : decode cL_law 1105 = .ok (.iload 5, 2) := by decide +kernel
theorem dL_law_1107 : decode cL_law 1107 = .ok (.ifCond .ne 22, 3) := by decide +kernel
theorem dL_law_1110 : decode cL_law 1110 = .ok (.aload_n 3, 1) := by decide +kernel
theorem dL_law_1111 : decode cL_law 1111 = .ok (.iconst 0, 1) := by decide +kernel
theorem dL_law_1112 : decode cL_law 1112 = .ok (.laload, 1) := by decide +kernel
theorem dL_law_1113 : decode cL_law 1113 = .ok (.iload 6, 2) := by decide +kernel
theorem dL_law_1115 : decode cL_law 1115 = .ok (.ifCond .eq 7, 3) := by decide +kernel
theorem dL_law_1118 : decode cL_law 1118 = .ok (.lconst 1, 1) := by decide +kernel
theorem dL_law_1119 : decode cL_law 1119 = .ok (.goto 4, 3) := by decide +kernel
theorem dL_law_1122 : decode cL_law 1122 = .ok (.lconst 0, 1) := by decide +kernel
theorem dL_law_1123 : decode cL_law 1123 = .ok (.lcmp, 1) := by decide +kernel
theorem dL_law_1124 : decode cL_law 1124 = .ok (.ifCond .eq 5, 3) := by decide +kernel
theorem dL_law_1127 : decode cL_law 1127 = .ok (.iconst 0, 1) := by decide +kernel
theorem dL_law_1128 : decode cL_law 1128 = .ok (.ireturn, 1) := by decide +kernel
theorem dL_law_1129 : decode cL_law 1129 = .ok (.goto 599, 3) := by decide +kernel
theorem dL_law_1132 : decode cL_law 1132 = .ok (.aload_n 1, 1) := by decide +kernel
theorem dL_law_1133 : decode cL_law 1133 = .ok (.invokevirtual 165, 3) := by decide +kernel
theorem dL_law_1136 : decode cL_law 1136 = .ok (.aload_n 2, 1) := by decide +kernel
theorem dL_law_1137 : decode cL_law 1137 = .ok (.invokevirtual 168, 3) := by decide +kernel
theorem dL_law_1140 : decode cL_law 1140 = .ok (.if_icmp .eq 588, 3) := by decide +kernel
theorem dL_law_1143 : decode cL_law 1143 = .ok (.iconst 0, 1) := by decide +kernel
theorem dL_law_1144 : decode cL_law 1144 = .ok (.ireturn, 1) := by decide +kernel
theorem dL_law_1145 : decode cL_law 1145 = .ok (.aload_n 1, 1) := by decide +kernel
theorem dL_law_1146 : decode cL_law 1146 = .ok (.invokevirtual 169, 3) := by decide +kernel
theorem dL_law_1149 : decode cL_law 1149 = .ok (.aload_n 2, 1) := by decide +kernel
theorem dL_law_1150 : decode cL_law 1150 = .ok (.invokevirtual 172, 3) := by decide +kernel
theorem dL_law_1153 : decode cL_law 1153 = .ok (.if_icmp .eq 575, 3) := by decide +kernel
theorem dL_law_1156 : decode cL_law 1156 = .ok (.iconst 0, 1) := by decide +kernel
theorem dL_law_1157 : decode cL_law 1157 = .ok (.ireturn, 1) := by decide +kernel
theorem dL_law_1158 : decode cL_law 1158 = .ok (.aload_n 1, 1) := by decide +kernel
theorem dL_law_1159 : decode cL_law 1159 = .ok (.aload_n 0, 1) := by decide +kernel
theorem dL_law_1160 : decode cL_law 1160 = .ok (.iload 4, 2) := by decide +kernel
theorem dL_law_1162 : decode cL_law 1162 = .ok (.iconst 1, 1) := by decide +kernel
theorem dL_law_1163 : decode cL_law 1163 = .ok (.iadd, 1) := by decide +kernel
theorem dL_law_1164 : decode cL_law 1164 = .ok (.iaload, 1) := by decide +kernel
theorem dL_law_1165 : decode cL_law 1165 = .ok (.aload_n 3, 1) := by decide +kernel
theorem dL_law_1166 : decode cL_law 1166 = .ok (.invokestatic 173, 3) := by decide +kernel
theorem dL_law_1169 : decode cL_law 1169 = .ok (.istore 5, 2) := by decide +kernel
theorem dL_law_1171 : decode cL_law 1171 = .ok (.aload_n 2, 1) := by decide +kernel
theorem dL_law_1172 : decode cL_law 1172 = .ok (.aload_n 0, 1) := by decide +kernel
theorem dL_law_1173 : decode cL_law 1173 = .ok (.iload 4, 2) := by decide +kernel
theorem dL_law_1175 : decode cL_law 1175 = .ok (.iconst 1, 1) := by decide +kernel
theorem dL_law_1176 : decode cL_law 1176 = .ok (.iadd, 1) := by decide +kernel
theorem dL_law_1177 : decode cL_law 1177 = .ok (.iaload, 1) := by decide +kernel
theorem dL_law_1178 : decode cL_law 1178 = .ok (.invokevirtual 175, 3) := by decide +kernel
theorem dL_law_1181 : decode cL_law 1181 = .ok (.istore 6, 2) := by decide +kernel
theorem dL_law_1183 : decode cL_law 1183 = .ok (.aload_n 2, 1) := by decide +kernel
theorem dL_law_1184 : decode cL_law 1184 = .ok (.invokevirtual 101, 3) := by decide +kernel
theorem dL_law_1187 : decode cL_law 1187 = .ok (.iload 5, 2) := by decide +kernel
theorem dL_law_1189 : decode cL_law 1189 = .ok (.if_icmp .eq 5, 3) := by decide +kernel
theorem dL_law_1192 : decode cL_law 1192 = .ok (.iconst 0, 1) := by decide +kernel
theorem dL_law_1193 : decode cL_law 1193 = .ok (.ireturn, 1) := by decide +kernel
theorem dL_law_1194 : decode cL_law 1194 = .ok (.iload 5, 2) := by decide +kernel
theorem dL_law_1196 : decode cL_law 1196 = .ok (.ifCond .ne 15, 3) := by decide +kernel
theorem dL_law_1199 : decode cL_law 1199 = .ok (.aload_n 3, 1) := by decide +kernel
theorem dL_law_1200 : decode cL_law 1200 = .ok (.iconst 0, 1) := by decide +kernel
theorem dL_law_1201 : decode cL_law 1201 = .ok (.laload, 1) := by decide +kernel
theorem dL_law_1202 : decode cL_law 1202 = .ok (.iload 6, 2) := by decide +kernel
theorem dL_law_1204 : decode cL_law 1204 = .ok (.i2l, 1) := by decide +kernel
theorem dL_law_1205 : decode cL_law 1205 = .ok (.lcmp, 1) := by decide +kernel
theorem dL_law_1206 : decode cL_law 1206 = .ok (.ifCond .eq 5, 3) := by decide +kernel
theorem dL_law_1209 : decode cL_law 1209 = .ok (.iconst 0, 1) := by decide +kernel
theorem dL_law_1210 : decode cL_law 1210 = .ok (.ireturn, 1) := by decide +kernel
theorem dL_law_1211 : decode cL_law 1211 = .ok (.goto 517, 3) := by decide +kernel
theorem dL_law_1214 : decode cL_law 1214 = .ok (.aload_n 1, 1) := by decide +kernel
theorem dL_law_1215 : decode cL_law 1215 = .ok (.aload_n 0, 1) := by decide +kernel
theorem dL_law_1216 : decode cL_law 1216 = .ok (.iload 4, 2) := by decide +kernel
theorem dL_law_1218 : decode cL_law 1218 = .ok (.iconst 1, 1) := by decide +kernel
theorem dL_law_1219 : decode cL_law 1219 = .ok (.iadd, 1) := by decide +kernel
theorem dL_law_1220 : decode cL_law 1220 = .ok (.iaload, 1) := by decide +kernel
theorem dL_law_1221 : decode cL_law 1221 = .ok (.aload_n 0, 1) := by decide +kernel
theorem dL_law_1222 : decode cL_law 1222 = .ok (.iload 4, 2) := by decide +kernel
theorem dL_law_1224 : decode cL_law 1224 = .ok (.iconst 2, 1) := by decide +kernel
theorem dL_law_1225 : decode cL_law 1225 = .ok (.iadd, 1) := by decide +kernel
theorem dL_law_1226 : decode cL_law 1226 = .ok (.iaload, 1) := by decide +kernel
theorem dL_law_1227 : decode cL_law 1227 = .ok (.aload_n 3, 1) := by decide +kernel
theorem dL_law_1228 : decode cL_law 1228 = .ok (.invokestatic 176, 3) := by decide +kernel
theorem dL_law_1231 : decode cL_law 1231 = .ok (.istore 5, 2) := by decide +kernel
theorem dL_law_1233 : decode cL_law 1233 = .ok (.aload_n 2, 1) := by decide +kernel
theorem dL_law_1234 : decode cL_law 1234 = .ok (.aload_n 0, 1) := by decide +kernel
theorem dL_law_1235 : decode cL_law 1235 = .ok (.iload 4, 2) := by decide +kernel
theorem dL_law_1237 : decode cL_law 1237 = .ok (.iconst 1, 1) := by decide +kernel
theorem dL_law_1238 : decode cL_law 1238 = .ok (.iadd, 1) := by decide +kernel
theorem dL_law_1239 : decode cL_law 1239 = .ok (.iaload, 1) := by decide +kernel
theorem dL_law_1240 : decode cL_law 1240 = .ok (.aload_n 0, 1) := by decide +kernel
theorem dL_law_1241 : decode cL_law 1241 = .ok (.iload 4, 2) := by decide +kernel
theorem dL_law_1243 : decode cL_law 1243 = .ok (.iconst 2, 1) := by decide +kernel
theorem dL_law_1244 : decode cL_law 1244 = .ok (.iadd, 1) := by decide +kernel
theorem dL_law_1245 : decode cL_law 1245 = .ok (.iaload, 1) := by decide +kernel
theorem dL_law_1246 : decode cL_law 1246 = .ok (.invokevirtual 178, 3) := by decide +kernel
theorem dL_law_1249 : decode cL_law 1249 = .ok (.istore 6, 2) := by decide +kernel
theorem dL_law_1251 : decode cL_law 1251 = .ok (.aload_n 2, 1) := by decide +kernel
theorem dL_law_1252 : decode cL_law 1252 = .ok (.invokevirtual 101, 3) := by decide +kernel
theorem dL_law_1255 : decode cL_law 1255 = .ok (.iload 5, 2) := by decide +kernel
theorem dL_law_1257 : decode cL_law 1257 = .ok (.if_icmp .eq 5, 3) := by decide +kernel
theorem dL_law_1260 : decode cL_law 1260 = .ok (.iconst 0, 1) := by decide +kernel
theorem dL_law_1261 : decode cL_law 1261 = .ok (.ireturn, 1) := by decide +kernel
theorem dL_law_1262 : decode cL_law 1262 = .ok (.iload 5, 2) := by decide +kernel
theorem dL_law_1264 : decode cL_law 1264 = .ok (.ifCond .ne 15, 3) := by decide +kernel
theorem dL_law_1267 : decode cL_law 1267 = .ok (.aload_n 3, 1) := by decide +kernel
theorem dL_law_1268 : decode cL_law 1268 = .ok (.iconst 0, 1) := by decide +kernel
theorem dL_law_1269 : decode cL_law 1269 = .ok (.laload, 1) := by decide +kernel
theorem dL_law_1270 : decode cL_law 1270 = .ok (.iload 6, 2) := by decide +kernel
theorem dL_law_1272 : decode cL_law 1272 = .ok (.i2l, 1) := by decide +kernel
theorem dL_law_1273 : decode cL_law 1273 = .ok (.lcmp, 1) := by decide +kernel
theorem dL_law_1274 : decode cL_law 1274 = .ok (.ifCond .eq 5, 3) := by decide +kernel
theorem dL_law_1277 : decode cL_law 1277 = .ok (.iconst 0, 1) := by decide +kernel
theorem dL_law_1278 : decode cL_law 1278 = .ok (.ireturn, 1) := by decide +kernel
theorem dL_law_1279 : decode cL_law 1279 = .ok (.goto 449, 3) := by decide +kernel
theorem dL_law_1282 : decode cL_law 1282 = .ok (.aload_n 1, 1) := by decide +kernel
theorem dL_law_1283 : decode cL_law 1283 = .ok (.aload_n 0, 1) := by decide +kernel
theorem dL_law_1284 : decode cL_law 1284 = .ok (.iload 4, 2) := by decide +kernel
theorem dL_law_1286 : decode cL_law 1286 = .ok (.iconst 1, 1) := by decide +kernel
theorem dL_law_1287 : decode cL_law 1287 = .ok (.iadd, 1) := by decide +kernel
theorem dL_law_1288 : decode cL_law 1288 = .ok (.iaload, 1) := by decide +kernel
theorem dL_law_1289 : decode cL_law 1289 = .ok (.aload_n 3, 1) := by decide +kernel
theorem dL_law_1290 : decode cL_law 1290 = .ok (.invokestatic 179, 3) := by decide +kernel
theorem dL_law_1293 : decode cL_law 1293 = .ok (.istore 5, 2) := by decide +kernel
theorem dL_law_1295 : decode cL_law 1295 = .ok (.aload_n 2, 1) := by decide +kernel
theorem dL_law_1296 : decode cL_law 1296 = .ok (.aload_n 0, 1) := by decide +kernel
theorem dL_law_1297 : decode cL_law 1297 = .ok (.iload 4, 2) := by decide +kernel
theorem dL_law_1299 : decode cL_law 1299 = .ok (.iconst 1, 1) := by decide +kernel
theorem dL_law_1300 : decode cL_law 1300 = .ok (.iadd, 1) := by decide +kernel
theorem dL_law_1301 : decode cL_law 1301 = .ok (.iaload, 1) := by decide +kernel
theorem dL_law_1302 : decode cL_law 1302 = .ok (.invokevirtual 181, 3) := by decide +kernel
theorem dL_law_1305 : decode cL_law 1305 = .ok (.istore 6, 2) := by decide +kernel
theorem dL_law_1307 : decode cL_law 1307 = .ok (.aload_n 2, 1) := by decide +kernel
theorem dL_law_1308 : decode cL_law 1308 = .ok (.invokevirtual 101, 3) := by decide +kernel
theorem dL_law_1311 : decode cL_law 1311 = .ok (.iload 5, 2) := by decide +kernel
theorem dL_law_1313 : decode cL_law 1313 = .ok (.if_icmp .eq 5, 3) := by decide +kernel
theorem dL_law_1316 : decode cL_law 1316 = .ok (.iconst 0, 1) := by decide +kernel
theorem dL_law_1317 : decode cL_law 1317 = .ok (.ireturn, 1) := by decide +kernel
theorem dL_law_1318 : decode cL_law 1318 = .ok (.iload 5, 2) := by decide +kernel
theorem dL_law_1320 : decode cL_law 1320 = .ok (.ifCond .ne 15, 3) := by decide +kernel
theorem dL_law_1323 : decode cL_law 1323 = .ok (.aload_n 3, 1) := by decide +kernel
theorem dL_law_1324 : decode cL_law 1324 = .ok (.iconst 0, 1) := by decide +kernel
theorem dL_law_1325 : decode cL_law 1325 = .ok (.laload, 1) := by decide +kernel
theorem dL_law_1326 : decode cL_law 1326 = .ok (.iload 6, 2) := by decide +kernel
theorem dL_law_1328 : decode cL_law 1328 = .ok (.i2l, 1) := by decide +kernel
theorem dL_law_1329 : decode cL_law 1329 = .ok (.lcmp, 1) := by decide +kernel
theorem dL_law_1330 : decode cL_law 1330 = .ok (.ifCond .eq 5, 3) := by decide +kernel
theorem dL_law_1333 : decode cL_law 1333 = .ok (.iconst 0, 1) := by decide +kernel
theorem dL_law_1334 : decode cL_law 1334 = .ok (.ireturn, 1) := by decide +kernel
theorem dL_law_1335 : decode cL_law 1335 = .ok (.goto 393, 3) := by decide +kernel
theorem dL_law_1338 : decode cL_law 1338 = .ok (.aload_n 1, 1) := by decide +kernel
theorem dL_law_1339 : decode cL_law 1339 = .ok (.aload_n 0, 1) := by decide +kernel
theorem dL_law_1340 : decode cL_law 1340 = .ok (.iload 4, 2) := by decide +kernel
theorem dL_law_1342 : decode cL_law 1342 = .ok (.iconst 1, 1) := by decide +kernel
theorem dL_law_1343 : decode cL_law 1343 = .ok (.iadd, 1) := by decide +kernel
theorem dL_law_1344 : decode cL_law 1344 = .ok (.iaload, 1) := by decide +kernel
theorem dL_law_1345 : decode cL_law 1345 = .ok (.aload_n 0, 1) := by decide +kernel
theorem dL_law_1346 : decode cL_law 1346 = .ok (.iload 4, 2) := by decide +kernel
theorem dL_law_1348 : decode cL_law 1348 = .ok (.iconst 2, 1) := by decide +kernel
theorem dL_law_1349 : decode cL_law 1349 = .ok (.iadd, 1) := by decide +kernel
theorem dL_law_1350 : decode cL_law 1350 = .ok (.iaload, 1) := by decide +kernel
theorem dL_law_1351 : decode cL_law 1351 = .ok (.aload_n 0, 1) := by decide +kernel
theorem dL_law_1352 : decode cL_law 1352 = .ok (.iload 4, 2) := by decide +kernel
theorem dL_law_1354 : decode cL_law 1354 = .ok (.iconst 3, 1) := by decide +kernel
theorem dL_law_1355 : decode cL_law 1355 = .ok (.iadd, 1) := by decide +kernel
theorem dL_law_1356 : decode cL_law 1356 = .ok (.iaload, 1) := by decide +kernel
theorem dL_law_1357 : decode cL_law 1357 = .ok (.aload_n 3, 1) := by decide +kernel
theorem dL_law_1358 : decode cL_law 1358 = .ok (.invokestatic 182, 3) := by decide +kernel
theorem dL_law_1361 : decode cL_law 1361 = .ok (.istore 5, 2) := by decide +kernel
theorem dL_law_1363 : decode cL_law 1363 = .ok (.aload_n 2, 1) := by decide +kernel
theorem dL_law_1364 : decode cL_law 1364 = .ok (.aload_n 0, 1) := by decide +kernel
theorem dL_law_1365 : decode cL_law 1365 = .ok (.iload 4, 2) := by decide +kernel
theorem dL_law_1367 : decode cL_law 1367 = .ok (.iconst 1, 1) := by decide +kernel
theorem dL_law_1368 : decode cL_law 1368 = .ok (.iadd, 1) := by decide +kernel
theorem dL_law_1369 : decode cL_law 1369 = .ok (.iaload, 1) := by decide +kernel
theorem dL_law_1370 : decode cL_law 1370 = .ok (.aload_n 0, 1) := by decide +kernel
theorem dL_law_1371 : decode cL_law 1371 = .ok (.iload 4, 2) := by decide +kernel
theorem dL_law_1373 : decode cL_law 1373 = .ok (.iconst 2, 1) := by decide +kernel
theorem dL_law_1374 : decode cL_law 1374 = .ok (.iadd, 1) := by decide +kernel
theorem dL_law_1375 : decode cL_law 1375 = .ok (.iaload, 1) := by decide +kernel
theorem dL_law_1376 : decode cL_law 1376 = .ok (.aload_n 0, 1) := by decide +kernel
theorem dL_law_1377 : decode cL_law 1377 = .ok (.iload 4, 2) := by decide +kernel
theorem dL_law_1379 : decode cL_law 1379 = .ok (.iconst 3, 1) := by decide +kernel
theorem dL_law_1380 : decode cL_law 1380 = .ok (.iadd, 1) := by decide +kernel
theorem dL_law_1381 : decode cL_law 1381 = .ok (.iaload, 1) := by decide +kernel
theorem dL_law_1382 : decode cL_law 1382 = .ok (.invokevirtual 185, 3) := by decide +kernel
theorem dL_law_1385 : decode cL_law 1385 = .ok (.istore 6, 2) := by decide +kernel
theorem dL_law_1387 : decode cL_law 1387 = .ok (.aload_n 2, 1) := by decide +kernel
theorem dL_law_1388 : decode cL_law 1388 = .ok (.invokevirtual 101, 3) := by decide +kernel
theorem dL_law_1391 : decode cL_law 1391 = .ok (.iload 5, 2) := by decide +kernel
theorem dL_law_1393 : decode cL_law 1393 = .ok (.if_icmp .eq 5, 3) := by decide +kernel
theorem dL_law_1396 : decode cL_law 1396 = .ok (.iconst 0, 1) := by decide +kernel
theorem dL_law_1397 : decode cL_law 1397 = .ok (.ireturn, 1) := by decide +kernel
theorem dL_law_1398 : decode cL_law 1398 = .ok (.iload 5, 2) := by decide +kernel
theorem dL_law_1400 : decode cL_law 1400 = .ok (.ifCond .ne 15, 3) := by decide +kernel
theorem dL_law_1403 : decode cL_law 1403 = .ok (.aload_n 3, 1) := by decide +kernel
theorem dL_law_1404 : decode cL_law 1404 = .ok (.iconst 0, 1) := by decide +kernel
theorem dL_law_1405 : decode cL_law 1405 = .ok (.laload, 1) := by decide +kernel
theorem dL_law_1406 : decode cL_law 1406 = .ok (.iload 6, 2) := by decide +kernel
theorem dL_law_1408 : decode cL_law 1408 = .ok (.i2l, 1) := by decide +kernel
theorem dL_law_1409 : decode cL_law 1409 = .ok (.lcmp, 1) := by decide +kernel
theorem dL_law_1410 : decode cL_law 1410 = .ok (.ifCond .eq 5, 3) := by decide +kernel
theorem dL_law_1413 : decode cL_law 1413 = .ok (.iconst 0, 1) := by decide +kernel
theorem dL_law_1414 : decode cL_law 1414 = .ok (.ireturn, 1) := by decide +kernel
theorem dL_law_1415 : decode cL_law 1415 = .ok (.goto 313, 3) := by decide +kernel
theorem dL_law_1418 : decode cL_law 1418 = .ok (.aload_n 1, 1) := by decide +kernel
theorem dL_law_1419 : decode cL_law 1419 = .ok (.aload_n 0, 1) := by decide +kernel
theorem dL_law_1420 : decode cL_law 1420 = .ok (.iload 4, 2) := by decide +kernel
theorem dL_law_1422 : decode cL_law 1422 = .ok (.iconst 1, 1) := by decide +kernel
theorem dL_law_1423 : decode cL_law 1423 = .ok (.iadd, 1) := by decide +kernel
theorem dL_law_1424 : decode cL_law 1424 = .ok (.iaload, 1) := by decide +kernel
theorem dL_law_1425 : decode cL_law 1425 = .ok (.aload_n 0, 1) := by decide +kernel
theorem dL_law_1426 : decode cL_law 1426 = .ok (.iload 4, 2) := by decide +kernel
theorem dL_law_1428 : decode cL_law 1428 = .ok (.iconst 2, 1) := by decide +kernel
theorem dL_law_1429 : decode cL_law 1429 = .ok (.iadd, 1) := by decide +kernel
theorem dL_law_1430 : decode cL_law 1430 = .ok (.iaload, 1) := by decide +kernel
theorem dL_law_1431 : decode cL_law 1431 = .ok (.aload_n 3, 1) := by decide +kernel
theorem dL_law_1432 : decode cL_law 1432 = .ok (.invokestatic 186, 3) := by decide +kernel
theorem dL_law_1435 : decode cL_law 1435 = .ok (.istore 5, 2) := by decide +kernel
theorem dL_law_1437 : decode cL_law 1437 = .ok (.aload_n 2, 1) := by decide +kernel
theorem dL_law_1438 : decode cL_law 1438 = .ok (.aload_n 0, 1) := by decide +kernel
theorem dL_law_1439 : decode cL_law 1439 = .ok (.iload 4, 2) := by decide +kernel
theorem dL_law_1441 : decode cL_law 1441 = .ok (.iconst 1, 1) := by decide +kernel
theorem dL_law_1442 : decode cL_law 1442 = .ok (.iadd, 1) := by decide +kernel
theorem dL_law_1443 : decode cL_law 1443 = .ok (.iaload, 1) := by decide +kernel
theorem dL_law_1444 : decode cL_law 1444 = .ok (.aload_n 0, 1) := by decide +kernel
theorem dL_law_1445 : decode cL_law 1445 = .ok (.iload 4, 2) := by decide +kernel
theorem dL_law_1447 : decode cL_law 1447 = .ok (.iconst 2, 1) := by decide +kernel
theorem dL_law_1448 : decode cL_law 1448 = .ok (.iadd, 1) := by decide +kernel
theorem dL_law_1449 : decode cL_law 1449 = .ok (.iaload, 1) := by decide +kernel
theorem dL_law_1450 : decode cL_law 1450 = .ok (.invokevirtual 188, 3) := by decide +kernel
theorem dL_law_1453 : decode cL_law 1453 = .ok (.istore 6, 2) := by decide +kernel
theorem dL_law_1455 : decode cL_law 1455 = .ok (.aload_n 2, 1) := by decide +kernel
theorem dL_law_1456 : decode cL_law 1456 = .ok (.invokevirtual 101, 3) := by decide +kernel
theorem dL_law_1459 : decode cL_law 1459 = .ok (.iload 5, 2) := by decide +kernel
theorem dL_law_1461 : decode cL_law 1461 = .ok (.if_icmp .eq 5, 3) := by decide +kernel
theorem dL_law_1464 : decode cL_law 1464 = .ok (.iconst 0, 1) := by decide +kernel
theorem dL_law_1465 : decode cL_law 1465 = .ok (.ireturn, 1) := by decide +kernel
theorem dL_law_1466 : decode cL_law 1466 = .ok (.iload 5, 2) := by decide +kernel
theorem dL_law_1468 : decode cL_law 1468 = .ok (.ifCond .ne 15, 3) := by decide +kernel
theorem dL_law_1471 : decode cL_law 1471 = .ok (.aload_n 3, 1) := by decide +kernel
theorem dL_law_1472 : decode cL_law 1472 = .ok (.iconst 0, 1) := by decide +kernel
theorem dL_law_1473 : decode cL_law 1473 = .ok (.laload, 1) := by decide +kernel
theorem dL_law_1474 : decode cL_law 1474 = .ok (.iload 6, 2) := by decide +kernel
theorem dL_law_1476 : decode cL_law 1476 = .ok (.i2l, 1) := by decide +kernel
theorem dL_law_1477 : decode cL_law 1477 = .ok (.lcmp, 1) := by decide +kernel
theorem dL_law_1478 : decode cL_law 1478 = .ok (.ifCond .eq 5, 3) := by decide +kernel
theorem dL_law_1481 : decode cL_law 1481 = .ok (.iconst 0, 1) := by decide +kernel
theorem dL_law_1482 : decode cL_law 1482 = .ok (.ireturn, 1) := by decide +kernel
theorem dL_law_1483 : decode cL_law 1483 = .ok (.goto 245, 3) := by decide +kernel
theorem dL_law_1486 : decode cL_law 1486 = .ok (.aload_n 1, 1) := by decide +kernel
theorem dL_law_1487 : decode cL_law 1487 = .ok (.aload_n 0, 1) := by decide +kernel
theorem dL_law_1488 : decode cL_law 1488 = .ok (.iload 4, 2) := by decide +kernel
theorem dL_law_1490 : decode cL_law 1490 = .ok (.iconst 1, 1) := by decide +kernel
theorem dL_law_1491 : decode cL_law 1491 = .ok (.iadd, 1) := by decide +kernel
theorem dL_law_1492 : decode cL_law 1492 = .ok (.iaload, 1) := by decide +kernel
theorem dL_law_1493 : decode cL_law 1493 = .ok (.aload_n 3, 1) := by decide +kernel
theorem dL_law_1494 : decode cL_law 1494 = .ok (.invokestatic 189, 3) := by decide +kernel
theorem dL_law_1497 : decode cL_law 1497 = .ok (.istore 5, 2) := by decide +kernel
theorem dL_law_1499 : decode cL_law 1499 = .ok (.aload_n 2, 1) := by decide +kernel
theorem dL_law_1500 : decode cL_law 1500 = .ok (.aload_n 0, 1) := by decide +kernel
theorem dL_law_1501 : decode cL_law 1501 = .ok (.iload 4, 2) := by decide +kernel
theorem dL_law_1503 : decode cL_law 1503 = .ok (.iconst 1, 1) := by decide +kernel
theorem dL_law_1504 : decode cL_law 1504 = .ok (.iadd, 1) := by decide +kernel
theorem dL_law_1505 : decode cL_law 1505 = .ok (.iaload, 1) := by decide +kernel
theorem dL_law_1506 : decode cL_law 1506 = .ok (.invokevirtual 191, 3) := by decide +kernel
theorem dL_law_1509 : decode cL_law 1509 = .ok (.istore 6, 2) := by decide +kernel
theorem dL_law_1511 : decode cL_law 1511 = .ok (.aload_n 2, 1) := by decide +kernel
theorem dL_law_1512 : decode cL_law 1512 = .ok (.invokevirtual 101, 3) := by decide +kernel
theorem dL_law_1515 : decode cL_law 1515 = .ok (.iload 5, 2) := by decide +kernel
theorem dL_law_1517 : decode cL_law 1517 = .ok (.if_icmp .eq 5, 3) := by decide +kernel
theorem dL_law_1520 : decode cL_law 1520 = .ok (.iconst 0, 1) := by decide +kernel
theorem dL_law_1521 : decode cL_law 1521 = .ok (.ireturn, 1) := by decide +kernel
theorem dL_law_1522 : decode cL_law 1522 = .ok (.iload 5, 2) := by decide +kernel
theorem dL_law_1524 : decode cL_law 1524 = .ok (.ifCond .ne 15, 3) := by decide +kernel
theorem dL_law_1527 : decode cL_law 1527 = .ok (.aload_n 3, 1) := by decide +kernel
theorem dL_law_1528 : decode cL_law 1528 = .ok (.iconst 0, 1) := by decide +kernel
theorem dL_law_1529 : decode cL_law 1529 = .ok (.laload, 1) := by decide +kernel
theorem dL_law_1530 : decode cL_law 1530 = .ok (.iload 6, 2) := by decide +kernel
theorem dL_law_1532 : decode cL_law 1532 = .ok (.i2l, 1) := by decide +kernel
theorem dL_law_1533 : decode cL_law 1533 = .ok (.lcmp, 1) := by decide +kernel
theorem dL_law_1534 : decode cL_law 1534 = .ok (.ifCond .eq 5, 3) := by decide +kernel
theorem dL_law_1537 : decode cL_law 1537 = .ok (.iconst 0, 1) := by decide +kernel
theorem dL_law_1538 : decode cL_law 1538 = .ok (.ireturn, 1) := by decide +kernel
theorem dL_law_1539 : decode cL_law 1539 = .ok (.goto 189, 3) := by decide +kernel
theorem dL_law_1542 : decode cL_law 1542 = .ok (.aload_n 1, 1) := by decide +kernel
theorem dL_law_1543 : decode cL_law 1543 = .ok (.aload_n 0, 1) := by decide +kernel
theorem dL_law_1544 : decode cL_law 1544 = .ok (.iload 4, 2) := by decide +kernel
theorem dL_law_1546 : decode cL_law 1546 = .ok (.iconst 1, 1) := by decide +kernel
theorem dL_law_1547 : decode cL_law 1547 = .ok (.iadd, 1) := by decide +kernel
theorem dL_law_1548 : decode cL_law 1548 = .ok (.iaload, 1) := by decide +kernel
theorem dL_law_1549 : decode cL_law 1549 = .ok (.aload_n 0, 1) := by decide +kernel
theorem dL_law_1550 : decode cL_law 1550 = .ok (.iload 4, 2) := by decide +kernel
theorem dL_law_1552 : decode cL_law 1552 = .ok (.iconst 2, 1) := by decide +kernel
theorem dL_law_1553 : decode cL_law 1553 = .ok (.iadd, 1) := by decide +kernel
theorem dL_law_1554 : decode cL_law 1554 = .ok (.iaload, 1) := by decide +kernel
theorem dL_law_1555 : decode cL_law 1555 = .ok (.aload_n 3, 1) := by decide +kernel
theorem dL_law_1556 : decode cL_law 1556 = .ok (.invokestatic 192, 3) := by decide +kernel
theorem dL_law_1559 : decode cL_law 1559 = .ok (.istore 5, 2) := by decide +kernel
theorem dL_law_1561 : decode cL_law 1561 = .ok (.aload_n 2, 1) := by decide +kernel
theorem dL_law_1562 : decode cL_law 1562 = .ok (.aload_n 0, 1) := by decide +kernel
theorem dL_law_1563 : decode cL_law 1563 = .ok (.iload 4, 2) := by decide +kernel
theorem dL_law_1565 : decode cL_law 1565 = .ok (.iconst 1, 1) := by decide +kernel
theorem dL_law_1566 : decode cL_law 1566 = .ok (.iadd, 1) := by decide +kernel
theorem dL_law_1567 : decode cL_law 1567 = .ok (.iaload, 1) := by decide +kernel
theorem dL_law_1568 : decode cL_law 1568 = .ok (.aload_n 0, 1) := by decide +kernel
theorem dL_law_1569 : decode cL_law 1569 = .ok (.iload 4, 2) := by decide +kernel
theorem dL_law_1571 : decode cL_law 1571 = .ok (.iconst 2, 1) := by decide +kernel
theorem dL_law_1572 : decode cL_law 1572 = .ok (.iadd, 1) := by decide +kernel
theorem dL_law_1573 : decode cL_law 1573 = .ok (.iaload, 1) := by decide +kernel
theorem dL_law_1574 : decode cL_law 1574 = .ok (.invokevirtual 194, 3) := by decide +kernel
theorem dL_law_1577 : decode cL_law 1577 = .ok (.istore 6, 2) := by decide +kernel
theorem dL_law_1579 : decode cL_law 1579 = .ok (.aload_n 2, 1) := by decide +kernel
theorem dL_law_1580 : decode cL_law 1580 = .ok (.invokevirtual 101, 3) := by decide +kernel
theorem dL_law_1583 : decode cL_law 1583 = .ok (.iload 5, 2) := by decide +kernel
theorem dL_law_1585 : decode cL_law 1585 = .ok (.if_icmp .eq 5, 3) := by decide +kernel
theorem dL_law_1588 : decode cL_law 1588 = .ok (.iconst 0, 1) := by decide +kernel
theorem dL_law_1589 : decode cL_law 1589 = .ok (.ireturn, 1) := by decide +kernel
theorem dL_law_1590 : decode cL_law 1590 = .ok (.iload 5, 2) := by decide +kernel
theorem dL_law_1592 : decode cL_law 1592 = .ok (.ifCond .ne 15, 3) := by decide +kernel
theorem dL_law_1595 : decode cL_law 1595 = .ok (.aload_n 3, 1) := by decide +kernel
theorem dL_law_1596 : decode cL_law 1596 = .ok (.iconst 0, 1) := by decide +kernel
theorem dL_law_1597 : decode cL_law 1597 = .ok (.laload, 1) := by decide +kernel
theorem dL_law_1598 : decode cL_law 1598 = .ok (.iload 6, 2) := by decide +kernel
theorem dL_law_1600 : decode cL_law 1600 = .ok (.i2l, 1) := by decide +kernel
theorem dL_law_1601 : decode cL_law 1601 = .ok (.lcmp, 1) := by decide +kernel
theorem dL_law_1602 : decode cL_law 1602 = .ok (.ifCond .eq 5, 3) := by decide +kernel
theorem dL_law_1605 : decode cL_law 1605 = .ok (.iconst 0, 1) := by decide +kernel
theorem dL_law_1606 : decode cL_law 1606 = .ok (.ireturn, 1) := by decide +kernel
theorem dL_law_1607 : decode cL_law 1607 = .ok (.goto 121, 3) := by decide +kernel
theorem dL_law_1610 : decode cL_law 1610 = .ok (.aload_n 1, 1) := by decide +kernel
theorem dL_law_1611 : decode cL_law 1611 = .ok (.aload_n 0, 1) := by decide +kernel
theorem dL_law_1612 : decode cL_law 1612 = .ok (.iload 4, 2) := by decide +kernel
theorem dL_law_1614 : decode cL_law 1614 = .ok (.iconst 1, 1) := by decide +kernel
theorem dL_law_1615 : decode cL_law 1615 = .ok (.iadd, 1) := by decide +kernel
theorem dL_law_1616 : decode cL_law 1616 = .ok (.iaload, 1) := by decide +kernel
theorem dL_law_1617 : decode cL_law 1617 = .ok (.aload_n 0, 1) := by decide +kernel
theorem dL_law_1618 : decode cL_law 1618 = .ok (.iload 4, 2) := by decide +kernel
theorem dL_law_1620 : decode cL_law 1620 = .ok (.iconst 2, 1) := by decide +kernel
theorem dL_law_1621 : decode cL_law 1621 = .ok (.iadd, 1) := by decide +kernel
theorem dL_law_1622 : decode cL_law 1622 = .ok (.iaload, 1) := by decide +kernel
theorem dL_law_1623 : decode cL_law 1623 = .ok (.ifCond .eq 7, 3) := by decide +kernel
theorem dL_law_1626 : decode cL_law 1626 = .ok (.iconst 1, 1) := by decide +kernel
theorem dL_law_1627 : decode cL_law 1627 = .ok (.goto 4, 3) := by decide +kernel
theorem dL_law_1630 : decode cL_law 1630 = .ok (.iconst 0, 1) := by decide +kernel
theorem dL_law_1631 : decode cL_law 1631 = .ok (.aload_n 3, 1) := by decide +kernel
theorem dL_law_1632 : decode cL_law 1632 = .ok (.invokestatic 195, 3) := by decide +kernel
theorem dL_law_1635 : decode cL_law 1635 = .ok (.istore 5, 2) := by decide +kernel
theorem dL_law_1637 : decode cL_law 1637 = .ok (.aload_n 2, 1) := by decide +kernel
theorem dL_law_1638 : decode cL_law 1638 = .ok (.aload_n 0, 1) := by decide +kernel
theorem dL_law_1639 : decode cL_law 1639 = .ok (.iload 4, 2) := by decide +kernel
theorem dL_law_1641 : decode cL_law 1641 = .ok (.iconst 1, 1) := by decide +kernel
theorem dL_law_1642 : decode cL_law 1642 = .ok (.iadd, 1) := by decide +kernel
theorem dL_law_1643 : decode cL_law 1643 = .ok (.iaload, 1) := by decide +kernel
theorem dL_law_1644 : decode cL_law 1644 = .ok (.aload_n 0, 1) := by decide +kernel
theorem dL_law_1645 : decode cL_law 1645 = .ok (.iload 4, 2) := by decide +kernel
theorem dL_law_1647 : decode cL_law 1647 = .ok (.iconst 2, 1) := by decide +kernel
theorem dL_law_1648 : decode cL_law 1648 = .ok (.iadd, 1) := by decide +kernel
theorem dL_law_1649 : decode cL_law 1649 = .ok (.iaload, 1) := by decide +kernel
theorem dL_law_1650 : decode cL_law 1650 = .ok (.ifCond .eq 7, 3) := by decide +kernel
theorem dL_law_1653 : decode cL_law 1653 = .ok (.iconst 1, 1) := by decide +kernel
theorem dL_law_1654 : decode cL_law 1654 = .ok (.goto 4, 3) := by decide +kernel
theorem dL_law_1657 : decode cL_law 1657 = .ok (.iconst 0, 1) := by decide +kernel
theorem dL_law_1658 : decode cL_law 1658 = .ok (.invokevirtual 198, 3) := by decide +kernel
theorem dL_law_1661 : decode cL_law 1661 = .ok (.istore 6, 2) := by decide +kernel
theorem dL_law_1663 : decode cL_law 1663 = .ok (.aload_n 2, 1) := by decide +kernel
theorem dL_law_1664 : decode cL_law 1664 = .ok (.invokevirtual 101, 3) := by decide +kernel
theorem dL_law_1667 : decode cL_law 1667 = .ok (.iload 5, 2) := by decide +kernel
theorem dL_law_1669 : decode cL_law 1669 = .ok (.if_icmp .eq 5, 3) := by decide +kernel
theorem dL_law_1672 : decode cL_law 1672 = .ok (.iconst 0, 1) := by decide +kernel
theorem dL_law_1673 : decode cL_law 1673 = .ok (.ireturn, 1) := by decide +kernel
theorem dL_law_1674 : decode cL_law 1674 = .ok (.iload 5, 2) := by decide +kernel
theorem dL_law_1676 : decode cL_law 1676 = .ok (.ifCond .ne 22, 3) := by decide +kernel
theorem dL_law_1679 : decode cL_law 1679 = .ok (.aload_n 3, 1) := by decide +kernel
theorem dL_law_1680 : decode cL_law 1680 = .ok (.iconst 0, 1) := by decide +kernel
theorem dL_law_1681 : decode cL_law 1681 = .ok (.laload, 1) := by decide +kernel
theorem dL_law_1682 : decode cL_law 1682 = .ok (.iload 6, 2) := by decide +kernel
theorem dL_law_1684 : decode cL_law 1684 = .ok (.ifCond .eq 7, 3) := by decide +kernel
theorem dL_law_1687 : decode cL_law 1687 = .ok (.lconst 1, 1) := by decide +kernel
theorem dL_law_1688 : decode cL_law 1688 = .ok (.goto 4, 3) := by decide +kernel
theorem dL_law_1691 : decode cL_law 1691 = .ok (.lconst 0, 1) := by decide +kernel
theorem dL_law_1692 : decode cL_law 1692 = .ok (.lcmp, 1) := by decide +kernel
theorem dL_law_1693 : decode cL_law 1693 = .ok (.ifCond .eq 5, 3) := by decide +kernel
theorem dL_law_1696 : decode cL_law 1696 = .ok (.iconst 0, 1) := by decide +kernel
theorem dL_law_1697 : decode cL_law 1697 = .ok (.ireturn, 1) := by decide +kernel
theorem dL_law_1698 : decode cL_law 1698 = .ok (.goto 30, 3) := by decide +kernel
theorem dL_law_1701 : decode cL_law 1701 = .ok (.aload_n 1, 1) := by decide +kernel
theorem dL_law_1702 : decode cL_law 1702 = .ok (.invokevirtual 199, 3) := by decide +kernel
theorem dL_law_1705 : decode cL_law 1705 = .ok (.aload_n 2, 1) := by decide +kernel
theorem dL_law_1706 : decode cL_law 1706 = .ok (.invokevirtual 202, 3) := by decide +kernel
theorem dL_law_1709 : decode cL_law 1709 = .ok (.if_icmp .eq 19, 3) := by decide +kernel
theorem dL_law_1712 : decode cL_law 1712 = .ok (.iconst 0, 1) := by decide +kernel
theorem dL_law_1713 : decode cL_law 1713 = .ok (.ireturn, 1) := by decide +kernel
theorem dL_law_1714 : decode cL_law 1714 = .ok (.aload_n 1, 1) := by decide +kernel
theorem dL_law_1715 : decode cL_law 1715 = .ok (.invokevirtual 203, 3) := by decide +kernel
theorem dL_law_1718 : decode cL_law 1718 = .ok (.aload_n 2, 1) := by decide +kernel
theorem dL_law_1719 : decode cL_law 1719 = .ok (.invokevirtual 207, 3) := by decide +kernel
theorem dL_law_1722 : decode cL_law 1722 = .ok (.lcmp, 1) := by decide +kernel
theorem dL_law_1723 : decode cL_law 1723 = .ok (.ifCond .eq 5, 3) := by decide +kernel
theorem dL_law_1726 : decode cL_law 1726 = .ok (.iconst 0, 1) := by decide +kernel
theorem dL_law_1727 : decode cL_law 1727 = .ok (.ireturn, 1) := by decide +kernel
theorem dL_law_1728 : decode cL_law 1728 = .ok (.iinc 4 6, 3) := by decide +kernel
theorem dL_law_1731 : decode cL_law 1731 = .ok (.goto (-1708), 3) := by decide +kernel
theorem dL_law_1734 : decode cL_law 1734 = .ok (.iconst 1, 1) := by decide +kernel
theorem dL_law_1735 : decode cL_law 1735 = .ok (.ireturn, 1) := by decide +kernel
end
section
/-! ===== pure cells: int arrays and objects by PLACES; an address map ad takes a place to its address ===== -/
abbrev PV : Type := Int ⊕ Option Nat
abbrev PC : Type := (Nat × List Int) ⊕ (Nat × List PV)
abbrev PH : Type := List PC
/-- tables of the run: class numbers and slots, array classes, the first address of ours, the literals' addresses, their bytes' addresses -/
abbrev GP : Type := va_G × (Nat → ClassId) × Nat × (Nat → Nat) × (Nat → Nat)
def w32 (x : Int) : Int := (Int32.ofInt x).toInt
def w64 (x : Int) : Int := (Int64.ofInt x).toInt
theorem w32_eq {x : Int} (h1 : -2147483648 ≤ x) (h2 : x < 2147483648) : w32 x = x := by
  unfold w32
  rw [Int32.toInt_ofInt]
  simp only [Int32.size]
  exact Int.bmod_eq_of_le (by omega) (by omega)
theorem w64_eq {x : Int} (h1 : -9223372036854775808 ≤ x) (h2 : x < 9223372036854775808) : w64 x = x := by
  unfold w64
  rw [Int64.toInt_ofInt]
  simp only [Int64.size]
  exact Int.bmod_eq_of_le (by omega) (by omega)
theorem w32_of (x : Int) : Int32.ofInt (w32 x) = Int32.ofInt x := by unfold w32; exact Int32.ofInt_toInt _
theorem w64_of (x : Int) : Int64.ofInt (w64 x) = Int64.ofInt x := by unfold w64; exact Int64.ofInt_toInt _
theorem o32_inj {x y : Int} : Int32.ofInt x = Int32.ofInt y ↔ w32 x = w32 y := by
  unfold w32
  exact ⟨fun h => by rw [h], fun h => Int32.toInt_inj.mp h⟩
theorem o32_lt {x y : Int} : Int32.ofInt x < Int32.ofInt y ↔ w32 x < w32 y := by unfold w32; exact Int32.lt_iff_toInt_lt
theorem o32_le {x y : Int} : Int32.ofInt x ≤ Int32.ofInt y ↔ w32 x ≤ w32 y := by unfold w32; exact Int32.le_iff_toInt_le
def vl (ad : Nat → Nat) : PV → Value
  | .inl x => .int (Int32.ofInt x)
  | .inr none => .null
  | .inr (some k) => .ref (ad k)
def rl (ad : Nat → Nat) : PV → Option Nat
  | .inr (some k) => some (ad k)
  | _ => none
def cv (g : GP) (ad : Nat → Nat) : PC → va_E
  | .inl q => if q.1 = 3 then .inl (g.2.1 3, q.2.length, .inr (.inl (fun j => Int64.ofInt (q.2.getD j 0)))) else .inl (g.2.1 q.1, q.2.length, .inl (fun j => Int32.ofInt (q.2.getD j 0)))
  | .inr q => if q.1 < 9 then .inr (q.1, q.2.map (vl ad)) else .inl (g.2.1 (q.1 - 5), q.2.length, .inr (.inr (.inr (.inr (fun j => rl ad (q.2.getD j (.inr none)))))))
def wsOf (g : GP) (ad : Nat → Nat) (h : PH) : va_W := h.mapIdx (fun k c => (ad k, cv g ad c))
theorem wsOf_get {g : GP} {ad : Nat → Nat} {h : PH} {a : Nat} {c : PC} (e : h[a]? = some c) : (wsOf g ad h)[a]? = some (ad a, cv g ad c) := by
  unfold wsOf
  rw [List.getElem?_mapIdx, e]
  rfl
theorem wsOf_set {g : GP} {ad : Nat → Nat} {h : PH} {a : Nat} {c : PC} : (wsOf g ad h).set a (ad a, cv g ad c) = wsOf g ad (h.set a c) := by
  unfold wsOf
  apply List.ext_getElem?
  intro i
  simp only [List.getElem?_set, List.getElem?_mapIdx, List.length_mapIdx]
  by_cases hi : a = i
  · subst hi
    by_cases hl : a < h.length
    · simp [hl]
    · simp [hl]
  · simp [hi]
theorem wsOf_len {g : GP} {ad : Nat → Nat} {h : PH} : (wsOf g ad h).length = h.length := by unfold wsOf; exact List.length_mapIdx
/-- the references that a cell holds are places of the heap -/
def wfH (h : PH) : Prop := (∀ (k c : Nat) (fs : List PV), h[k]? = some (.inr (c, fs)) → ∀ a : Nat, (.inr (some a) : PV) ∈ fs → a < h.length) ∧ ∀ (a : Nat) (q : Nat × List Int), h[a]? = some (.inl q) → q.2.length < 2147483648
def gA (g : GP) : Nat → Prop := fun q => g.2.2.1 ≤ q
def tysOf (g : GP) : List (ClassId × FieldType) := [(g.2.1 0, .int), (g.2.1 1, .byte), (g.2.1 2, .boolean), (g.2.1 3, .long), (g.2.1 4, .object "HardwareTaskQueue$Machine"), (g.2.1 5, .array .int)]
/-- the world: the heap H holds h at ad; since H0 nothing of others has changed -/
def Rl (g : GP) (ad : Nat → Nat) (h : PH) (H0 H : Heap) (locs : List Loc) : Prop :=
  va_P g.1 vwCl (wsOf g ad h) H ∧ va_D (gA g) (wsOf g ad h) ∧ va_S (gA g) H0 H locs ∧ wfH h
/-! ===== what the code does to pure cells ===== -/
/-- a load out of an array of type t: 0 int, 1 byte, 2 boolean, 3 long -/
def ald (t : Nat) (h : PH) (a : Nat) (i : Int) : Option Int := match h[a]? with
  | some (.inl q) => if q.1 = t ∧ 0 ≤ i then q.2[i.toNat]? else none
  | _ => none
def alen (h : PH) (a : Nat) : Option Int := match h[a]? with
  | some (.inl q) => if q.1 < 4 then some (q.2.length : Int) else none
  | _ => none
/-- a store -/
def ast (t : Nat) (h : PH) (a : Nat) (i x : Int) : Option PH := match h[a]? with
  | some (.inl q) => if (q.1 = t ∧ 0 ≤ i ∧ i < (q.2.length : Int)) ∧ (t = 1 → -128 ≤ x ∧ x < 128) ∧ (t = 2 → 0 ≤ x ∧ x < 2) then some (h.set a (.inl (t, q.2.set i.toNat x))) else none
  | _ => none
def gfi (h : PH) (c a k : Nat) : Option Int := match h[a]? with
  | some (.inr q) => if q.1 = c then (match q.2[k]? with | some (.inl x) => some x | _ => none) else none
  | _ => none
def gfr (h : PH) (c a k : Nat) : Option Nat := match h[a]? with
  | some (.inr q) => if q.1 = c then (match q.2[k]? with | some (.inr (some x)) => some x | _ => none) else none
  | _ => none
def pfi (h : PH) (c a k : Nat) (x : Int) : Option PH := match h[a]? with
  | some (.inr q) => if q.1 = c ∧ k < q.2.length then some (h.set a (.inr (q.1, q.2.set k (.inl x)))) else none
  | _ => none
def pfr (h : PH) (c a k : Nat) (v : Nat) : Option PH := match h[a]? with
  | some (.inr q) => if (q.1 = c ∧ k < q.2.length) ∧ v < h.length then some (h.set a (.inr (q.1, q.2.set k (.inr (some v))))) else none
  | _ => none
/-- an array of references -/
def rld (h : PH) (c a : Nat) (i : Int) : Option Nat := match h[a]? with
  | some (.inr q) => if q.1 = c ∧ 0 ≤ i then (match q.2[i.toNat]? with | some (.inr (some x)) => some x | _ => none) else none
  | _ => none
def lp {σ ρ : Type} (f : σ → Option (σ ⊕ ρ)) : Nat → σ → Option ρ
  | 0, _ => none
  | n + 1, s => match f s with
    | none => none
    | some (.inl s') => lp f n s'
    | some (.inr r) => some r
theorem lp_rule {σ ρ : Type} {f : σ → Option (σ ⊕ ρ)} {Ph : σ → Prop} {Px : ρ → Prop} (body : ∀ s o, f s = some o → Sum.elim Ph Px o → Ph s) : ∀ (n : Nat) (s : σ) (r : ρ), lp f n s = some r → Px r → Ph s := by
  intro n
  induction n with
  | zero => intro s r h; cases h
  | succ n ih =>
    intro s r h hx
    rw [lp] at h
    cases hf : f s with
    | none => rw [hf] at h; cases h
    | some o =>
      rw [hf] at h
      cases o with
      | inl s' => exact body s _ hf (ih s' r h hx)
      | inr r' => cases h; exact body s _ hf hx
theorem bnd {α β : Type} {o : Option α} {k : α → Option β} {r : β} (h : o.bind k = some r) : ∃ x, o = some x ∧ k x = some r := by
  cases o with
  | none => cases h
  | some x => exact ⟨x, rfl, h⟩
theorem ald_spec {t : Nat} {h : PH} {a : Nat} {i x : Int} (e : ald t h a i = some x) : ∃ xs : List Int, h[a]? = some (.inl (t, xs)) ∧ 0 ≤ i ∧ i < (xs.length : Int) ∧ xs[i.toNat]? = some x := by
  unfold ald at e
  split at e
  · rename_i q hq
    split at e
    · rename_i h0
      obtain ⟨t', xs⟩ := q
      obtain ⟨h1, h2⟩ := h0
      cases h1
      have hl := (List.getElem?_eq_some_iff.mp e).1
      exact ⟨xs, hq, h2, by simp only at hl; omega, e⟩
    · cases e
  · cases e
theorem alen_spec {h : PH} {a : Nat} {x : Int} (e : alen h a = some x) : ∃ q : Nat × List Int, h[a]? = some (.inl q) ∧ q.1 < 4 ∧ x = (q.2.length : Int) := by
  unfold alen at e
  split at e
  · rename_i q hq
    split at e
    · rename_i h0
      cases e
      exact ⟨q, hq, h0, rfl⟩
    · cases e
  · cases e
theorem ast_spec {t : Nat} {h h' : PH} {a : Nat} {i x : Int} (e : ast t h a i x = some h') : ∃ xs : List Int, h[a]? = some (.inl (t, xs)) ∧ (0 ≤ i ∧ i < (xs.length : Int)) ∧ (t = 1 → -128 ≤ x ∧ x < 128) ∧ (t = 2 → 0 ≤ x ∧ x < 2) ∧ h' = h.set a (.inl (t, xs.set i.toNat x)) := by
  unfold ast at e
  split at e
  · rename_i q hq
    split at e
    · rename_i h0
      obtain ⟨t', xs⟩ := q
      obtain ⟨⟨h1, h2⟩, h3, h4⟩ := h0
      cases h1
      cases e
      exact ⟨xs, hq, h2, h3, h4, rfl⟩
    · cases e
  · cases e
theorem gfi_spec {h : PH} {c a k : Nat} {x : Int} (e : gfi h c a k = some x) : ∃ fs : List PV, h[a]? = some (.inr (c, fs)) ∧ fs[k]? = some (.inl x) := by
  unfold gfi at e
  split at e
  · rename_i q hq
    split at e
    · rename_i h0
      split at e
      · rename_i y hy
        cases e
        obtain ⟨c', fs⟩ := q
        cases h0
        exact ⟨fs, hq, hy⟩
      · cases e
    · cases e
  · cases e
theorem gfr_spec {h : PH} {c a k : Nat} {x : Nat} (e : gfr h c a k = some x) : ∃ fs : List PV, h[a]? = some (.inr (c, fs)) ∧ fs[k]? = some (.inr (some x)) := by
  unfold gfr at e
  split at e
  · rename_i q hq
    split at e
    · rename_i h0
      split at e
      · rename_i y hy
        cases e
        obtain ⟨c', fs⟩ := q
        cases h0
        exact ⟨fs, hq, hy⟩
      · cases e
    · cases e
  · cases e
theorem pfi_spec {h h' : PH} {c a k : Nat} {x : Int} (e : pfi h c a k x = some h') : ∃ fs : List PV, h[a]? = some (.inr (c, fs)) ∧ k < fs.length ∧ h' = h.set a (.inr (c, fs.set k (.inl x))) := by
  unfold pfi at e
  split at e
  · rename_i q hq
    split at e
    · rename_i h0
      cases e
      obtain ⟨c', fs⟩ := q
      obtain ⟨h1, h2⟩ := h0
      cases h1
      exact ⟨fs, hq, h2, rfl⟩
    · cases e
  · cases e
theorem pfr_spec {h h' : PH} {c a k v : Nat} (e : pfr h c a k v = some h') : ∃ fs : List PV, h[a]? = some (.inr (c, fs)) ∧ k < fs.length ∧ v < h.length ∧ h' = h.set a (.inr (c, fs.set k (.inr (some v)))) := by
  unfold pfr at e
  split at e
  · rename_i q hq
    split at e
    · rename_i h0
      cases e
      obtain ⟨c', fs⟩ := q
      obtain ⟨⟨h1, h2⟩, h3⟩ := h0
      cases h1
      exact ⟨fs, hq, h2, h3, rfl⟩
    · cases e
  · cases e
theorem rld_spec {h : PH} {c a : Nat} {i : Int} {x : Nat} (e : rld h c a i = some x) : ∃ fs : List PV, h[a]? = some (.inr (c, fs)) ∧ 0 ≤ i ∧ i < (fs.length : Int) ∧ fs[i.toNat]? = some (.inr (some x)) := by
  unfold rld at e
  split at e
  · rename_i q hq
    split at e
    · rename_i h0
      split at e
      · rename_i y hy
        cases e
        obtain ⟨c', fs⟩ := q
        obtain ⟨h1, h2⟩ := h0
        cases h1
        have hl := (List.getElem?_eq_some_iff.mp hy).1
        exact ⟨fs, hq, h2, by simp only at hl; omega, hy⟩
      · cases e
    · cases e
  · cases e
theorem wfH_set_arr {h : PH} {a : Nat} {q : Nat × List Int} (hw : wfH h) (hq : q.2.length < 2147483648) : wfH (h.set a (.inl q)) := by
  refine ⟨?_, ?_⟩
  · intro k c fs e x hx
    rw [List.length_set]
    by_cases hk : a = k
    · subst hk
      rw [List.getElem?_set] at e
      simp only [if_true] at e
      split at e
      · cases e
      · cases e
    · rw [List.getElem?_set_ne hk] at e
      exact hw.1 k c fs e x hx
  · intro k q2 e
    by_cases hk : a = k
    · subst hk
      rw [List.getElem?_set] at e
      simp only [if_true] at e
      split at e
      · cases e; exact hq
      · cases e
    · rw [List.getElem?_set_ne hk] at e
      exact hw.2 k q2 e
theorem wfH_set_fld {h : PH} {a c k : Nat} {fs : List PV} {v : PV} (hw : wfH h) (he : h[a]? = some (.inr (c, fs))) (hv : ∀ x, v = .inr (some x) → x < h.length) : wfH (h.set a (.inr (c, fs.set k v))) := by
  refine ⟨?_, ?_⟩
  · intro k2 c2 fs2 e x hx
    rw [List.length_set]
    by_cases hk : a = k2
    · subst hk
      rw [List.getElem?_set] at e
      simp only [if_true] at e
      split at e
      · cases e
        rcases List.mem_or_eq_of_mem_set hx with h1 | h1
        · exact hw.1 a c fs he x h1
        · exact hv x h1.symm
      · cases e
    · rw [List.getElem?_set_ne hk] at e
      exact hw.1 k2 c2 fs2 e x hx
  · intro k2 q2 e
    by_cases hk : a = k2
    · subst hk
      rw [List.getElem?_set] at e
      simp only [if_true] at e
      split at e
      · cases e
      · cases e
    · rw [List.getElem?_set_ne hk] at e
      exact hw.2 k2 q2 e
end
section
/-! ===== the tables' words that every method has ===== -/
def TBg : List Cond := lw_tbl.filter goodWord
theorem TBg_in {w : Cond} (h : w ∈ lw_tbl) (hg : goodWord w = true) : w ∈ TBg := List.mem_filter.mpr ⟨h, hg⟩
theorem TBg_t {w : Cond} (i : Nat) (h : tables_1[i]? = some w) (hg : goodWord w = true) : w ∈ TBg := TBg_in (List.mem_append_right _ (List.mem_of_getElem? h)) hg
theorem TBg_s {y : MethodName} {n : Nat} (i : Nat) (h : lw_privs[i]? = some (y, n)) : Cond.selects y.cls y y ∈ TBg := TBg_in (List.mem_append_left _ (List.mem_map.mpr ⟨(y, n), List.mem_of_getElem? h, rfl⟩)) rfl
theorem TBg_good : GoodIn TBg TBg := fun w h => ⟨h, good_of_word (List.mem_filter.mp h).2⟩
theorem TBg_cons {y : MethodName} {b : ByteArray} {n : Nat} {r : Option FieldType} (h : Cond.code y b n r ∈ TBg) : GoodIn TBg (Cond.code y b n r :: TBg) := fun w hw => by
  rcases List.mem_cons.mp hw with e | e
  · rw [e]; exact TBg_good _ h
  · exact TBg_good _ e
/-- links to private constructors and methods of nest mates -/
def nstW : List (String × Nat × MethodName) := [("HardwareTaskQueue", 9, yX4_init), ("HardwareTaskQueue$SetupReader", 11, yX5_init), ("HardwareTaskQueue", 18, yX3_init), ("HardwareTaskQueue$Machine", 11, yX6_init), ("HardwareTaskQueue$Machine", 20, yX0_init), ("HardwareTaskQueue$History", 24, yX3_init), ("HardwareTaskQueue$TaskTable", 66, yX7_hasBit), ("HardwareTaskQueue$SetupReader", 150, yX7_hasBit)]
def Nst (U : State) : Prop := (∀ q ∈ nstW, va_Nw (.methodLinkNest q.1 q.2.1 q.2.2 "HardwareTaskQueue") U) ∧ va_AO "HardwareTaskQueue$Machine" U ∧ va_AOA .int U
theorem Nst.warm {s U : State} (hW : s.WarmedH U.vm) (h : Nst s) : Nst U := ⟨fun q hq => va_Nw.warmM hW (h.1 q hq), va_AO.moved hW.alike h.2.1, va_AOA.moved hW.alike h.2.2⟩
/-- literals, and what a throw asks of the tables -/
def Sts (g : GP) (U : State) : Prop := True
theorem Sts.go {g : GP} {s U : State} {locs : List Loc} (hW : s.WarmedH U.vm) (hS : va_S (gA g) s.heap U.heap locs) (h : Sts g s) : Sts g U := trivial
/-- what the tables say at every state of the run -/
def Kf (g : GP) (U : State) : Prop := va_K g.1 vwCl (tysOf g) U ∧ Nst U ∧ Sts g U ∧ g.2.2.1 ≤ U.heap.size
theorem Kf.go {g : GP} {s U : State} {locs : List Loc} (hW : s.WarmedH U.vm) (hS : va_S (gA g) s.heap U.heap locs) (h : Kf g s) : Kf g U :=
  ⟨va_K.moved hW.alike h.1, h.2.1.warm hW, h.2.2.1.go hW hS, Nat.le_trans h.2.2.2 hS.1⟩
/-- the frame of a body: machine, code, words, tables -/
def Cx (g : GP) (p : Program) (s : State) (m : MethodId) (args : Array Value) (meth : Method) (c : Code) (cc : ByteArray) (nL : Nat) (own : String) (ret : Option FieldType) : Prop :=
  p.tables.exec = Jvm.exec ∧ c.code = cc ∧ c.maxLocals = nL ∧ s.vm.findClass own = some m.cls ∧ (∀ w ∈ TBg, w.before args s = true) ∧ Kf g s ∧ meth.locks = false ∧ meth.sig.returnType = ret
/-- a method's start: arguments, tables, the heap h -/
def PcN (g : GP) (ad : Nat → Nat) (h : PH) (av : List Value) : Array Value → State → Prop := fun v U => v = av.toArray ∧ Kf g U ∧ va_P g.1 vwCl (wsOf g ad h) U.heap ∧ va_D (gA g) (wsOf g ad h) ∧ wfH h
/-- its end: the answer, the heap h' -/
def QcN (g : GP) (ad : Nat → Nat) (h' : PH) (rv : Option Value) : Array Value → State → Outcome → State → Prop := fun _ st o t => o = .returned rv ∧ (va_P g.1 vwCl (wsOf g ad h') t.heap ∧ va_D (gA g) (wsOf g ad h') ∧ wfH h') ∧ va_F (gA g) st t
/-- .. where cells are made: the map grows -/
def QcA (g : GP) (ad : Nat → Nat) (h h' : PH) (rv : (Nat → Nat) → Option Value) : Array Value → State → Outcome → State → Prop := fun _ st o t => ∃ ad' : Nat → Nat, (∀ k, k < h.length → ad' k = ad k) ∧ o = .returned (rv ad') ∧ (va_P g.1 vwCl (wsOf g ad' h') t.heap ∧ va_D (gA g) (wsOf g ad' h') ∧ wfH h') ∧ va_F (gA g) st t
theorem PcN_blind {g : GP} {ad : Nat → Nat} {h : PH} {av : List Value} : FrameBlind (PcN g ad h av) := fun a U gg mk q => ⟨q.1, Kf.go (s := U) (U := U.calling gg mk a) (locs := []) (State.WarmedH.refl U) va_S.rf q.2.1, q.2.2⟩
abbrev CN (g : GP) (l : Launch) (y : MethodName) (cc : ByteArray) (maxL : Nat) (ret : Option FieldType) (rm : Room) (ad : Nat → Nat) (h : PH) (av : List Value) (rv : Option Value) (h' : PH) : Prop :=
  Met l y (Cond.code y cc maxL ret :: TBg) rm (PcN g ad h av) (QcN g ad h' rv) rm.cells rm.slots (gA g)
abbrev CA (g : GP) (l : Launch) (y : MethodName) (cc : ByteArray) (maxL : Nat) (ret : Option FieldType) (rm : Room) (ad : Nat → Nat) (h : PH) (av : List Value) (rv : (Nat → Nat) → Option Value) (h' : PH) : Prop :=
  Met l y (Cond.code y cc maxL ret :: TBg) rm (PcN g ad h av) (QcA g ad h h' rv) rm.cells rm.slots (gA g)
/-- a field's link -/
def FlP (own : String) (index ci k : Nat) (ty : FieldType) (fin : Bool) : Prop := ∃ (cn : String) (T : u_T) (N : Nat) (ty0 : Nat → FieldType), vwCl[ci]? = some (cn, T, N) ∧ (∀ w ∈ u_ws cn T N, w ∈ TBg) ∧ k < N ∧ Cond.fieldLink own index (T k).1 (T k).2.1 (T k).2.2.1 ∈ TBg ∧ (∀ k, k < N → parseFieldDescriptor (T k).2.2.1 = some (ty0 k)) ∧ (∀ a, a < N → ∀ b, b < N → a ≠ b → (T a).2.1 ≠ (T b).2.1) ∧ ty0 k = ty ∧ (T k).2.2.2 = fin ∧ (fin = true → (T k).1 = own) ∧ ci < 9
/-- a static call's link -/
def SlP (own : String) (index : Nat) (y : MethodName) (b : ByteArray) (maxL : Nat) (ret : Option FieldType) (n : Nat) : Prop := Cond.methodLink own index y ∈ TBg ∧ Cond.static y ∈ TBg ∧ Cond.initialized y.cls ∈ TBg ∧ Cond.code y b maxL ret ∈ TBg ∧ y.cls ≠ "java/lang/invoke/MethodHandle" ∧ y.cls ≠ "java/lang/invoke/VarHandle" ∧ (parseMethodDescriptor y.desc).map (fun d => d.parameters.length) = some n
/-- a virtual call's link -/
def VlP (own : String) (index : Nat) (y : MethodName) (b : ByteArray) (maxL : Nat) (ret : Option FieldType) (n ci : Nat) : Prop := Cond.methodLink own index y ∈ TBg ∧ Cond.instanceMethod y ∈ TBg ∧ Cond.selects y.cls y y ∈ TBg ∧ Cond.initialized y.cls ∈ TBg ∧ Cond.code y b maxL ret ∈ TBg ∧ y.cls ≠ "java/lang/invoke/MethodHandle" ∧ y.cls ≠ "java/lang/invoke/VarHandle" ∧ (parseMethodDescriptor y.desc).map (fun d => d.parameters.length) = some n ∧ (∃ T N, vwCl[ci]? = some (y.cls, T, N)) ∧ ci < 9
section PW
variable {p : Program} {l : Launch} {e : Env} {R : Room} {s : State} {m : MethodId} {args : Array Value} {below : List Frame} {meth : Method} {c : Code} {H : Heap} {locs : List Loc} {cells slots : Nat} {Q : State → Prop}
variable {cc : ByteArray} {pc : Nat} {ls : Array Slot} {rest : List Value} {g : GP} {ad : Nat → Nat} {h h' : PH} {own : String} {nL : Nat} {ret : Option FieldType}
theorem Rl.mk1 {H1 : Heap} {locs1 : List Loc} {a : Nat} {c0 : PC} (hR : Rl g ad h s.heap H locs) (e : wfH (h.set a c0)) (h1 : va_P g.1 vwCl ((wsOf g ad h).set a (ad a, cv g ad c0)) H1) (h2 : va_D (gA g) ((wsOf g ad h).set a (ad a, cv g ad c0))) (h3 : va_S (gA g) s.heap H1 locs1) : Rl g ad (h.set a c0) s.heap H1 locs1 := by
  rw [wsOf_set] at h1 h2
  exact ⟨h1, h2, h3, e⟩
theorem pw_hA (C : Cx g p s m args meth c cc nL own ret) : ∀ q, s.heap.size ≤ q → gA g q := fun q hq => Nat.le_trans C.2.2.2.2.2.1.2.2.2 hq
/-- getfield of a number -/
theorem pw_gfi (C : Cx g p s m args meth c cc nL own ret) (hR : Rl g ad h s.heap H locs) {ci k a index : Nat} {x : Int} {ty : FieldType} {fin : Bool} (e1 : gfi h ci a k = some x) (F : FlP own index ci k ty fin) (hdg : decode cc pc = .ok (.getfield index, 3))
    (kk : W p l e R s m args below meth c H locs cells slots Q (F0 m (pc + 3) ls (.int (Int32.ofInt x) :: rest))) : W p l e R s m args below meth c H locs cells slots Q (F0 m pc ls (.ref (ad a) :: rest)) := by
  obtain ⟨fs, g1, g2⟩ := gfi_spec e1
  obtain ⟨cn, T, N, ty0, f1, f2, f3, f4, f5, f6, f7, f8, f9, f10⟩ := F
  have hw := wsOf_get (g := g) (ad := ad) g1
  simp only [cv, if_pos f10] at hw
  exact va_get C.1 C.2.1 C.2.2.2.2.1 f2 C.2.2.2.1 C.2.2.2.2.2.1.1 hR.1 a hw f1 k f3 (C.2.2.2.2.1 _ f4) (fun _ q => q) (v := .int (Int32.ofInt x)) (by rw [List.getElem?_map, g2]; rfl) hdg kk
/-- getfield of a reference -/
theorem pw_gfr (C : Cx g p s m args meth c cc nL own ret) (hR : Rl g ad h s.heap H locs) {ci k a index x : Nat} {ty : FieldType} {fin : Bool} (e1 : gfr h ci a k = some x) (F : FlP own index ci k ty fin) (hdg : decode cc pc = .ok (.getfield index, 3))
    (kk : W p l e R s m args below meth c H locs cells slots Q (F0 m (pc + 3) ls (.ref (ad x) :: rest))) : W p l e R s m args below meth c H locs cells slots Q (F0 m pc ls (.ref (ad a) :: rest)) := by
  obtain ⟨fs, g1, g2⟩ := gfr_spec e1
  obtain ⟨cn, T, N, ty0, f1, f2, f3, f4, f5, f6, f7, f8, f9, f10⟩ := F
  have hw := wsOf_get (g := g) (ad := ad) g1
  simp only [cv, if_pos f10] at hw
  exact va_get C.1 C.2.1 C.2.2.2.2.1 f2 C.2.2.2.1 C.2.2.2.2.2.1.1 hR.1 a hw f1 k f3 (C.2.2.2.2.1 _ f4) (fun _ q => q) (v := .ref (ad x)) (by rw [List.getElem?_map, g2]; rfl) hdg kk
theorem pw_putx (C : Cx g p s m args meth c cc nL own ret) (hR : Rl g ad h s.heap H locs) {ci k a index : Nat} {v : PV} {fs : List PV} {ty : FieldType} {fin : Bool} (g1 : h[a]? = some (.inr (ci, fs))) (hk : k < fs.length) (hv : ∀ x, v = .inr (some x) → x < h.length) (F : FlP own index ci k ty fin) (hfin : fin = false ∨ meth.name = "<init>") (hn : narrow ty (vl ad v) = vl ad v) (hfit : fits ty (vl ad v) = true) (hdg : decode cc pc = .ok (.putfield index, 3))
    (kk : ∀ (H1 : Heap) (locs1 : List Loc), Rl g ad (h.set a (.inr (ci, fs.set k v))) s.heap H1 locs1 → W p l e R s m args below meth c H1 locs1 cells slots Q (F0 m (pc + 3) ls rest)) : W p l e R s m args below meth c H locs cells slots Q (F0 m pc ls (vl ad v :: .ref (ad a) :: rest)) := by
  obtain ⟨cn, T, N, ty0, f1, f2, f3, f4, f5, f6, f7, f8, f9, f10⟩ := F
  have hw := wsOf_get (g := g) (ad := ad) g1
  simp only [cv, if_pos f10] at hw
  have key : ∀ (H1 : Heap) (locs1 : List Loc), va_P g.1 vwCl ((wsOf g ad h).set a (ad a, .inr (ci, (fs.map (vl ad)).set k (vl ad v)))) H1 → va_D (gA g) ((wsOf g ad h).set a (ad a, .inr (ci, (fs.map (vl ad)).set k (vl ad v)))) → va_S (gA g) s.heap H1 locs1 → W p l e R s m args below meth c H1 locs1 cells slots Q (F0 m (pc + 3) ls rest) := by
    intro H1 locs1 h1 h2 h3
    have hc : (.inr (ci, (fs.map (vl ad)).set k (vl ad v)) : va_E) = cv g ad (.inr (ci, fs.set k v)) := by
      simp only [cv, if_pos f10, List.map_set]
    rw [hc] at h1 h2
    exact kk H1 locs1 (hR.mk1 (wfH_set_fld hR.2.2.2 g1 hv) h1 h2 h3)
  have hd : parseFieldDescriptor (T k).2.2.1 = some ty := by rw [f5 k f3, f7]
  cases fin with
  | false => exact va_put C.1 C.2.1 C.2.2.2.2.1 f2 ty0 f5 f6 C.2.2.2.1 C.2.2.2.2.2.1.1 hR.1 hR.2.1 hR.2.2.1 a hw f1 k f3 (C.2.2.2.2.1 _ f4) (fun _ q => q) f8 hd hn hfit (by rw [List.length_map]; exact hk) hdg key
  | true =>
    have hm : meth.name = "<init>" := by rcases hfin with q | q; cases q; exact q
    exact va_putF C.1 C.2.1 C.2.2.2.2.1 f2 ty0 f5 f6 C.2.2.2.1 C.2.2.2.2.2.1.1 hR.1 hR.2.1 hR.2.2.1 a hw f1 k f3 (C.2.2.2.2.1 _ f4) (fun _ q => q) f8 hm (f9 rfl) hd hn hfit (by rw [List.length_map]; exact hk) hdg key
/-- putfield of an int -/
theorem pw_pfi (C : Cx g p s m args meth c cc nL own ret) (hR : Rl g ad h s.heap H locs) {ci k a index : Nat} {x : Int} {fin : Bool} (e1 : pfi h ci a k x = some h') (F : FlP own index ci k .int fin) (hfin : fin = false ∨ meth.name = "<init>") (hdg : decode cc pc = .ok (.putfield index, 3))
    (kk : ∀ (H1 : Heap) (locs1 : List Loc), Rl g ad h' s.heap H1 locs1 → W p l e R s m args below meth c H1 locs1 cells slots Q (F0 m (pc + 3) ls rest)) : W p l e R s m args below meth c H locs cells slots Q (F0 m pc ls (.int (Int32.ofInt x) :: .ref (ad a) :: rest)) := by
  obtain ⟨fs, g1, g2, rfl⟩ := pfi_spec e1
  exact pw_putx (v := .inl x) C hR g1 g2 (fun _ q => by cases q) F hfin rfl rfl hdg kk
/-- putfield of a boolean -/
theorem pw_pfz (C : Cx g p s m args meth c cc nL own ret) (hR : Rl g ad h s.heap H locs) {ci k a index : Nat} {x : Int} {fin : Bool} (e1 : pfi h ci a k x = some h') (hx : x = 0 ∨ x = 1) (F : FlP own index ci k .boolean fin) (hfin : fin = false ∨ meth.name = "<init>") (hdg : decode cc pc = .ok (.putfield index, 3))
    (kk : ∀ (H1 : Heap) (locs1 : List Loc), Rl g ad h' s.heap H1 locs1 → W p l e R s m args below meth c H1 locs1 cells slots Q (F0 m (pc + 3) ls rest)) : W p l e R s m args below meth c H locs cells slots Q (F0 m pc ls (.int (Int32.ofInt x) :: .ref (ad a) :: rest)) := by
  obtain ⟨fs, g1, g2, rfl⟩ := pfi_spec e1
  rcases hx with rfl | rfl
  · exact pw_putx (v := .inl 0) C hR g1 g2 (fun _ q => by cases q) F hfin rfl rfl hdg kk
  · exact pw_putx (v := .inl 1) C hR g1 g2 (fun _ q => by cases q) F hfin rfl rfl hdg kk
/-- putfield of a reference -/
theorem pw_pfr (C : Cx g p s m args meth c cc nL own ret) (hR : Rl g ad h s.heap H locs) {ci k a index x : Nat} {ty : FieldType} {fin : Bool} (e1 : pfr h ci a k x = some h') (F : FlP own index ci k ty fin) (hty : ty.isReference = true) (hfin : fin = false ∨ meth.name = "<init>") (hdg : decode cc pc = .ok (.putfield index, 3))
    (kk : ∀ (H1 : Heap) (locs1 : List Loc), Rl g ad h' s.heap H1 locs1 → W p l e R s m args below meth c H1 locs1 cells slots Q (F0 m (pc + 3) ls rest)) : W p l e R s m args below meth c H locs cells slots Q (F0 m pc ls (.ref (ad x) :: .ref (ad a) :: rest)) := by
  obtain ⟨fs, g1, g2, g3, rfl⟩ := pfr_spec e1
  have hn : narrow ty (.ref (ad x)) = .ref (ad x) := by cases ty <;> first | rfl | cases hty
  have hf : fits ty (.ref (ad x)) = true := by cases ty <;> first | rfl | cases hty
  exact pw_putx (v := .inr (some x)) C hR g1 g2 (fun _ q => by cases q; exact g3) F hfin hn hf hdg kk
theorem nat_o32 {i : Int} {n : Nat} (h0 : 0 ≤ i) (h1 : i < (n : Int)) (hn : n < 2147483648) : (Int32.ofInt i).toNatClampNeg = i.toNat := by
  show (Int32.ofInt i).toInt.toNat = i.toNat
  have h : w32 i = i := w32_eq (by omega) (by omega)
  unfold w32 at h
  rw [h]
theorem vp_in_o32 {i : Int} {n : Nat} (h0 : 0 ≤ i) (h1 : i < (n : Int)) (hn : n < 2147483648) : vp_in (Int32.ofInt i) n := by
  have h : w32 i = i := w32_eq (by omega) (by omega)
  intro q
  rcases q with q | q
  · rw [Int32.lt_iff_toInt_lt] at q
    have : w32 i < 0 := q
    omega
  · rw [nat_o32 h0 h1 hn] at q
    omega
end PW
end
section
section PW
variable {p : Program} {l : Launch} {e : Env} {R : Room} {s : State} {m : MethodId} {args : Array Value} {below : List Frame} {meth : Method} {c : Code} {H : Heap} {locs : List Loc} {cells slots : Nat} {Q : State → Prop}
variable {cc : ByteArray} {pc : Nat} {ls : Array Slot} {rest : List Value} {g : GP} {ad : Nat → Nat} {h h' : PH} {own : String} {nL : Nat} {ret : Option FieldType}
theorem cv_arr {g : GP} {ad : Nat → Nat} {t : Nat} {xs : List Int} (ht : t ≠ 3) : cv g ad (.inl (t, xs)) = .inl (g.2.1 t, xs.length, .inl (fun j => Int32.ofInt (xs.getD j 0))) := by simp [cv, ht]
theorem cv_arrL {g : GP} {ad : Nat → Nat} {xs : List Int} : cv g ad (.inl (3, xs)) = .inl (g.2.1 3, xs.length, .inr (.inl (fun j => Int64.ofInt (xs.getD j 0)))) := by simp [cv]
theorem getD_of {xs : List Int} {n : Nat} {x : Int} (h : xs[n]? = some x) : xs.getD n 0 = x := by simp [List.getD, h]
theorem upd_set {xs : List Int} {n : Nat} (hn : n < xs.length) (x : Int) : upd (fun j => Int32.ofInt (xs.getD j 0)) n (Int32.ofInt x) = fun j => Int32.ofInt ((xs.set n x).getD j 0) := by
  funext j
  unfold upd
  by_cases hj : j = n
  · subst hj
    simp [List.getD, hn]
  · rw [if_neg hj]
    simp [List.getD, List.getElem?_set_ne (Ne.symm hj)]
theorem updL_set {xs : List Int} {n : Nat} (hn : n < xs.length) (x : Int) : vp_updL (fun j => Int64.ofInt (xs.getD j 0)) n (Int64.ofInt x) = fun j => Int64.ofInt ((xs.set n x).getD j 0) := by
  funext j
  unfold vp_updL
  by_cases hj : j = n
  · subst hj
    simp [List.getD, hn]
  · rw [if_neg hj]
    simp [List.getD, List.getElem?_set_ne (Ne.symm hj)]
/-- iaload -/
theorem pw_iald (C : Cx g p s m args meth c cc nL own ret) (hR : Rl g ad h s.heap H locs) {a : Nat} {i x : Int} (e1 : ald 0 h a i = some x) (hdg : decode cc pc = .ok (.iaload, 1))
    (kk : W p l e R s m args below meth c H locs cells slots Q (F0 m (pc + 1) ls (.int (Int32.ofInt x) :: rest))) : W p l e R s m args below meth c H locs cells slots Q (F0 m pc ls (.int (Int32.ofInt i) :: .ref (ad a) :: rest)) := by
  obtain ⟨xs, g1, g2, g3, g4⟩ := ald_spec e1
  have hl := hR.2.2.2.2 a _ g1
  have hw := wsOf_get (g := g) (ad := ad) g1
  rw [cv_arr (by decide)] at hw
  refine va_iald C.1 C.2.1 C.2.2.2.2.2.1.1 hR.1 a 0 hw rfl (vp_in_o32 g2 g3 hl) hdg ?_
  rw [nat_o32 g2 g3 hl, getD_of g4]
  exact kk
/-- baload of bytes -/
theorem pw_bald (C : Cx g p s m args meth c cc nL own ret) (hR : Rl g ad h s.heap H locs) {a : Nat} {i x : Int} (e1 : ald 1 h a i = some x) (hdg : decode cc pc = .ok (.baload, 1))
    (kk : W p l e R s m args below meth c H locs cells slots Q (F0 m (pc + 1) ls (.int (Int32.ofInt x) :: rest))) : W p l e R s m args below meth c H locs cells slots Q (F0 m pc ls (.int (Int32.ofInt i) :: .ref (ad a) :: rest)) := by
  obtain ⟨xs, g1, g2, g3, g4⟩ := ald_spec e1
  have hl := hR.2.2.2.2 a _ g1
  have hw := wsOf_get (g := g) (ad := ad) g1
  rw [cv_arr (by decide)] at hw
  refine va_bald C.1 C.2.1 C.2.2.2.2.2.1.1 hR.1 a 1 hw rfl (vp_in_o32 g2 g3 hl) hdg ?_
  rw [nat_o32 g2 g3 hl, getD_of g4]
  exact kk
/-- baload of booleans -/
theorem pw_zald (C : Cx g p s m args meth c cc nL own ret) (hR : Rl g ad h s.heap H locs) {a : Nat} {i x : Int} (e1 : ald 2 h a i = some x) (hdg : decode cc pc = .ok (.baload, 1))
    (kk : W p l e R s m args below meth c H locs cells slots Q (F0 m (pc + 1) ls (.int (Int32.ofInt x) :: rest))) : W p l e R s m args below meth c H locs cells slots Q (F0 m pc ls (.int (Int32.ofInt i) :: .ref (ad a) :: rest)) := by
  obtain ⟨xs, g1, g2, g3, g4⟩ := ald_spec e1
  have hl := hR.2.2.2.2 a _ g1
  have hw := wsOf_get (g := g) (ad := ad) g1
  rw [cv_arr (by decide)] at hw
  refine va_zald C.1 C.2.1 C.2.2.2.2.2.1.1 hR.1 a 2 hw rfl (vp_in_o32 g2 g3 hl) hdg ?_
  rw [nat_o32 g2 g3 hl, getD_of g4]
  exact kk
/-- laload -/
theorem pw_lald (C : Cx g p s m args meth c cc nL own ret) (hR : Rl g ad h s.heap H locs) {a : Nat} {i x : Int} (e1 : ald 3 h a i = some x) (hdg : decode cc pc = .ok (.laload, 1))
    (kk : W p l e R s m args below meth c H locs cells slots Q (F0 m (pc + 1) ls (.long (Int64.ofInt x) :: rest))) : W p l e R s m args below meth c H locs cells slots Q (F0 m pc ls (.int (Int32.ofInt i) :: .ref (ad a) :: rest)) := by
  obtain ⟨xs, g1, g2, g3, g4⟩ := ald_spec e1
  have hl := hR.2.2.2.2 a _ g1
  have hw := wsOf_get (g := g) (ad := ad) g1
  rw [cv_arrL] at hw
  refine va_lald C.1 C.2.1 C.2.2.2.2.2.1.1 hR.1 a 3 hw rfl (vp_in_o32 g2 g3 hl) hdg ?_
  rw [nat_o32 g2 g3 hl, getD_of g4]
  exact kk
/-- iastore -/
theorem pw_iast (C : Cx g p s m args meth c cc nL own ret) (hR : Rl g ad h s.heap H locs) {a : Nat} {i x : Int} (e1 : ast 0 h a i x = some h') (hdg : decode cc pc = .ok (.iastore, 1))
    (kk : ∀ (H1 : Heap) (locs1 : List Loc), Rl g ad h' s.heap H1 locs1 → W p l e R s m args below meth c H1 locs1 cells slots Q (F0 m (pc + 1) ls rest)) : W p l e R s m args below meth c H locs cells slots Q (F0 m pc ls (.int (Int32.ofInt x) :: .int (Int32.ofInt i) :: .ref (ad a) :: rest)) := by
  obtain ⟨xs, g1, ⟨g2, g3⟩, -, -, rfl⟩ := ast_spec e1
  have hl := hR.2.2.2.2 a _ g1
  have hw := wsOf_get (g := g) (ad := ad) g1
  rw [cv_arr (by decide)] at hw
  refine va_iast C.1 C.2.1 C.2.2.2.2.2.1.1 hR.1 hR.2.1 hR.2.2.1 a 0 hw rfl (vp_in_o32 g2 g3 hl) hdg (fun H1 locs1 h1 h2 h3 => ?_)
  rw [nat_o32 g2 g3 hl, upd_set (by omega)] at h1 h2
  refine kk H1 locs1 (hR.mk1 (wfH_set_arr hR.2.2.2 (by simpa using hl)) ?_ ?_ h3)
  · rw [cv_arr (by decide), List.length_set]; exact h1
  · rw [cv_arr (by decide), List.length_set]; exact h2
/-- lastore -/
theorem pw_last (C : Cx g p s m args meth c cc nL own ret) (hR : Rl g ad h s.heap H locs) {a : Nat} {i x : Int} (e1 : ast 3 h a i x = some h') (hdg : decode cc pc = .ok (.lastore, 1))
    (kk : ∀ (H1 : Heap) (locs1 : List Loc), Rl g ad h' s.heap H1 locs1 → W p l e R s m args below meth c H1 locs1 cells slots Q (F0 m (pc + 1) ls rest)) : W p l e R s m args below meth c H locs cells slots Q (F0 m pc ls (.long (Int64.ofInt x) :: .int (Int32.ofInt i) :: .ref (ad a) :: rest)) := by
  obtain ⟨xs, g1, ⟨g2, g3⟩, -, -, rfl⟩ := ast_spec e1
  have hl := hR.2.2.2.2 a _ g1
  have hw := wsOf_get (g := g) (ad := ad) g1
  rw [cv_arrL] at hw
  refine va_last C.1 C.2.1 C.2.2.2.2.2.1.1 hR.1 hR.2.1 hR.2.2.1 a 3 hw rfl (vp_in_o32 g2 g3 hl) hdg (fun H1 locs1 h1 h2 h3 => ?_)
  rw [nat_o32 g2 g3 hl, updL_set (by omega)] at h1 h2
  refine kk H1 locs1 (hR.mk1 (wfH_set_arr hR.2.2.2 (by simpa using hl)) ?_ ?_ h3)
  · rw [cv_arrL, List.length_set]; exact h1
  · rw [cv_arrL, List.length_set]; exact h2
theorem nar_byte {x : Int} (h1 : -128 ≤ x) (h2 : x < 128) : vp_nar .byte (Int32.ofInt x) = Int32.ofInt x := by
  have : ∀ n : Nat, n < 256 → vp_nar .byte (Int32.ofInt ((n : Int) - 128)) = Int32.ofInt ((n : Int) - 128) := by decide +kernel
  have h := this (x + 128).toNat (by omega)
  rw [show (((x + 128).toNat : Nat) : Int) - 128 = x by omega] at h
  exact h
theorem nar_bool {x : Int} (h1 : 0 ≤ x) (h2 : x < 2) : vp_nar .boolean (Int32.ofInt x) = Int32.ofInt x := by
  rcases (show x = 0 ∨ x = 1 by omega) with rfl | rfl
  · decide +kernel
  · decide +kernel
/-- bastore of bytes -/
theorem pw_bast (C : Cx g p s m args meth c cc nL own ret) (hR : Rl g ad h s.heap H locs) {a : Nat} {i x : Int} (e1 : ast 1 h a i x = some h') (hdg : decode cc pc = .ok (.bastore, 1))
    (kk : ∀ (H1 : Heap) (locs1 : List Loc), Rl g ad h' s.heap H1 locs1 → W p l e R s m args below meth c H1 locs1 cells slots Q (F0 m (pc + 1) ls rest)) : W p l e R s m args below meth c H locs cells slots Q (F0 m pc ls (.int (Int32.ofInt x) :: .int (Int32.ofInt i) :: .ref (ad a) :: rest)) := by
  obtain ⟨xs, g1, ⟨g2, g3⟩, hx, -, rfl⟩ := ast_spec e1
  have hl := hR.2.2.2.2 a _ g1
  have hw := wsOf_get (g := g) (ad := ad) g1
  rw [cv_arr (by decide)] at hw
  refine va_bast C.1 C.2.1 C.2.2.2.2.2.1.1 hR.1 hR.2.1 hR.2.2.1 a 1 hw rfl (vp_in_o32 g2 g3 hl) hdg (fun H1 locs1 h1 h2 h3 => ?_)
  rw [nar_byte (hx rfl).1 (hx rfl).2, nat_o32 g2 g3 hl, upd_set (by omega)] at h1 h2
  refine kk H1 locs1 (hR.mk1 (wfH_set_arr hR.2.2.2 (by simpa using hl)) ?_ ?_ h3)
  · rw [cv_arr (by decide), List.length_set]; exact h1
  · rw [cv_arr (by decide), List.length_set]; exact h2
/-- bastore of booleans -/
theorem pw_zast (C : Cx g p s m args meth c cc nL own ret) (hR : Rl g ad h s.heap H locs) {a : Nat} {i x : Int} (e1 : ast 2 h a i x = some h') (hdg : decode cc pc = .ok (.bastore, 1))
    (kk : ∀ (H1 : Heap) (locs1 : List Loc), Rl g ad h' s.heap H1 locs1 → W p l e R s m args below meth c H1 locs1 cells slots Q (F0 m (pc + 1) ls rest)) : W p l e R s m args below meth c H locs cells slots Q (F0 m pc ls (.int (Int32.ofInt x) :: .int (Int32.ofInt i) :: .ref (ad a) :: rest)) := by
  obtain ⟨xs, g1, ⟨g2, g3⟩, -, hx, rfl⟩ := ast_spec e1
  have hl := hR.2.2.2.2 a _ g1
  have hw := wsOf_get (g := g) (ad := ad) g1
  rw [cv_arr (by decide)] at hw
  refine va_zast C.1 C.2.1 C.2.2.2.2.2.1.1 hR.1 hR.2.1 hR.2.2.1 a 2 hw rfl (vp_in_o32 g2 g3 hl) hdg (fun H1 locs1 h1 h2 h3 => ?_)
  rw [nar_bool (hx rfl).1 (hx rfl).2, nat_o32 g2 g3 hl, upd_set (by omega)] at h1 h2
  refine kk H1 locs1 (hR.mk1 (wfH_set_arr hR.2.2.2 (by simpa using hl)) ?_ ?_ h3)
  · rw [cv_arr (by decide), List.length_set]; exact h1
  · rw [cv_arr (by decide), List.length_set]; exact h2
/-- arraylength -/
theorem pw_alen (C : Cx g p s m args meth c cc nL own ret) (hR : Rl g ad h s.heap H locs) {a : Nat} {x : Int} (e1 : alen h a = some x) (hdg : decode cc pc = .ok (.arraylength, 1))
    (kk : W p l e R s m args below meth c H locs cells slots Q (F0 m (pc + 1) ls (.int (Int32.ofInt x) :: rest))) : W p l e R s m args below meth c H locs cells slots Q (F0 m pc ls (.ref (ad a) :: rest)) := by
  obtain ⟨⟨t, xs⟩, g1, g2, rfl⟩ := alen_spec e1
  have hw := wsOf_get (g := g) (ad := ad) g1
  rcases (show t = 0 ∨ t = 1 ∨ t = 2 ∨ t = 3 by omega) with rfl | rfl | rfl | rfl
  · rw [cv_arr (by decide)] at hw
    exact va_alen C.1 C.2.1 C.2.2.2.2.2.1.1 hR.1 a 0 hw (ty := .int) rfl (v := Int32.ofInt (xs.length : Int)) (Int32.ofInt_eq_ofNat).symm hdg kk
  · rw [cv_arr (by decide)] at hw
    exact va_alen C.1 C.2.1 C.2.2.2.2.2.1.1 hR.1 a 1 hw (ty := .byte) rfl (v := Int32.ofInt (xs.length : Int)) (Int32.ofInt_eq_ofNat).symm hdg kk
  · rw [cv_arr (by decide)] at hw
    exact va_alen C.1 C.2.1 C.2.2.2.2.2.1.1 hR.1 a 2 hw (ty := .boolean) rfl (v := Int32.ofInt (xs.length : Int)) (Int32.ofInt_eq_ofNat).symm hdg kk
  · rw [cv_arrL] at hw
    exact va_alen C.1 C.2.1 C.2.2.2.2.2.1.1 hR.1 a 3 hw (ty := .long) rfl (v := Int32.ofInt (xs.length : Int)) (Int32.ofInt_eq_ofNat).symm hdg kk
end PW
end
section
section PW
variable {p : Program} {l : Launch} {e : Env} {R : Room} {s : State} {m : MethodId} {args : Array Value} {below : List Frame} {meth : Method} {c : Code} {H : Heap} {locs : List Loc} {cells slots : Nat} {Q : State → Prop}
variable {cc : ByteArray} {pc : Nat} {ls : Array Slot} {rest : List Value} {g : GP} {ad : Nat → Nat} {h h' : PH} {own : String} {nL : Nat} {ret : Option FieldType}
def andI (x y : Int) : Int := (Int32.ofInt x &&& Int32.ofInt y).toInt
def orI (x y : Int) : Int := (Int32.ofInt x ||| Int32.ofInt y).toInt
def shlI (x y : Int) : Int := (Int32.ofInt x <<< (Int32.ofInt y &&& 31)).toInt
def shrI (x y : Int) : Int := (Int32.ofInt x >>> (Int32.ofInt y &&& 31)).toInt
def ushrI (x y : Int) : Int := ((Int32.ofInt x).toUInt32 >>> ((Int32.ofInt y).toUInt32 &&& Int32.toUInt32 31)).toInt32.toInt
def remI (x y : Int) : Int := (Int32.ofInt x - Int32.ofInt x / Int32.ofInt y * Int32.ofInt y).toInt
def divL (x y : Int) : Int := (Int64.ofInt x / Int64.ofInt y).toInt
def sbI (x : Int) : Int := (Int32.ofInt x).toInt8.toInt32.toInt
def cmpL (x y : Int) : Int := if w64 x < w64 y then -1 else if w64 x = w64 y then 0 else 1
theorem pw_iadd (C : Cx g p s m args meth c cc nL own ret) {x y : Int} (hdg : decode cc pc = .ok (.iadd, 1))
    (kk : W p l e R s m args below meth c H locs cells slots Q (F0 m (pc + 1) ls (.int (Int32.ofInt (x + y)) :: rest))) : W p l e R s m args below meth c H locs cells slots Q (F0 m pc ls (.int (Int32.ofInt y) :: .int (Int32.ofInt x) :: rest)) := lv_iadd C.1 C.2.1 hdg (by rw [← Int32.ofInt_add]; exact kk)
theorem pw_isub (C : Cx g p s m args meth c cc nL own ret) {x y : Int} (hdg : decode cc pc = .ok (.isub, 1))
    (kk : W p l e R s m args below meth c H locs cells slots Q (F0 m (pc + 1) ls (.int (Int32.ofInt (x - y)) :: rest))) : W p l e R s m args below meth c H locs cells slots Q (F0 m pc ls (.int (Int32.ofInt y) :: .int (Int32.ofInt x) :: rest)) := lv_isub C.1 C.2.1 hdg (by rw [← Int32.ofInt_sub]; exact kk)
theorem pw_imul (C : Cx g p s m args meth c cc nL own ret) {x y : Int} (hdg : decode cc pc = .ok (.imul, 1))
    (kk : W p l e R s m args below meth c H locs cells slots Q (F0 m (pc + 1) ls (.int (Int32.ofInt (x * y)) :: rest))) : W p l e R s m args below meth c H locs cells slots Q (F0 m pc ls (.int (Int32.ofInt y) :: .int (Int32.ofInt x) :: rest)) := lv_imul C.1 C.2.1 hdg (by rw [← Int32.ofInt_mul]; exact kk)
theorem pw_ladd (C : Cx g p s m args meth c cc nL own ret) {x y : Int} (hdg : decode cc pc = .ok (.ladd, 1))
    (kk : W p l e R s m args below meth c H locs cells slots Q (F0 m (pc + 1) ls (.long (Int64.ofInt (x + y)) :: rest))) : W p l e R s m args below meth c H locs cells slots Q (F0 m pc ls (.long (Int64.ofInt y) :: .long (Int64.ofInt x) :: rest)) := lv_ladd C.1 C.2.1 hdg (by rw [← Int64.ofInt_add]; exact kk)
theorem pw_lsub (C : Cx g p s m args meth c cc nL own ret) {x y : Int} (hdg : decode cc pc = .ok (.lsub, 1))
    (kk : W p l e R s m args below meth c H locs cells slots Q (F0 m (pc + 1) ls (.long (Int64.ofInt (x - y)) :: rest))) : W p l e R s m args below meth c H locs cells slots Q (F0 m pc ls (.long (Int64.ofInt y) :: .long (Int64.ofInt x) :: rest)) := lv_lsub C.1 C.2.1 hdg (by rw [← Int64.ofInt_sub]; exact kk)
theorem pw_lmul (C : Cx g p s m args meth c cc nL own ret) {x y : Int} (hdg : decode cc pc = .ok (.lmul, 1))
    (kk : W p l e R s m args below meth c H locs cells slots Q (F0 m (pc + 1) ls (.long (Int64.ofInt (x * y)) :: rest))) : W p l e R s m args below meth c H locs cells slots Q (F0 m pc ls (.long (Int64.ofInt y) :: .long (Int64.ofInt x) :: rest)) := lv_lmul C.1 C.2.1 hdg (by rw [← Int64.ofInt_mul]; exact kk)
theorem pw_iand (C : Cx g p s m args meth c cc nL own ret) {x y : Int} (hdg : decode cc pc = .ok (.iand, 1))
    (kk : W p l e R s m args below meth c H locs cells slots Q (F0 m (pc + 1) ls (.int (Int32.ofInt (andI x y)) :: rest))) : W p l e R s m args below meth c H locs cells slots Q (F0 m pc ls (.int (Int32.ofInt y) :: .int (Int32.ofInt x) :: rest)) := lv_iand C.1 C.2.1 hdg (by unfold andI at kk; rw [Int32.ofInt_toInt] at kk; exact kk)
theorem pw_ior (C : Cx g p s m args meth c cc nL own ret) {x y : Int} (hdg : decode cc pc = .ok (.ior, 1))
    (kk : W p l e R s m args below meth c H locs cells slots Q (F0 m (pc + 1) ls (.int (Int32.ofInt (orI x y)) :: rest))) : W p l e R s m args below meth c H locs cells slots Q (F0 m pc ls (.int (Int32.ofInt y) :: .int (Int32.ofInt x) :: rest)) := lv_ior C.1 C.2.1 hdg (by unfold orI at kk; rw [Int32.ofInt_toInt] at kk; exact kk)
theorem pw_ishl (C : Cx g p s m args meth c cc nL own ret) {x y : Int} (hdg : decode cc pc = .ok (.ishl, 1))
    (kk : W p l e R s m args below meth c H locs cells slots Q (F0 m (pc + 1) ls (.int (Int32.ofInt (shlI x y)) :: rest))) : W p l e R s m args below meth c H locs cells slots Q (F0 m pc ls (.int (Int32.ofInt y) :: .int (Int32.ofInt x) :: rest)) := lv_ishl C.1 C.2.1 hdg (by unfold shlI at kk; rw [Int32.ofInt_toInt] at kk; exact kk)
theorem pw_ishr (C : Cx g p s m args meth c cc nL own ret) {x y : Int} (hdg : decode cc pc = .ok (.ishr, 1))
    (kk : W p l e R s m args below meth c H locs cells slots Q (F0 m (pc + 1) ls (.int (Int32.ofInt (shrI x y)) :: rest))) : W p l e R s m args below meth c H locs cells slots Q (F0 m pc ls (.int (Int32.ofInt y) :: .int (Int32.ofInt x) :: rest)) := lv_ishr C.1 C.2.1 hdg (by unfold shrI at kk; rw [Int32.ofInt_toInt] at kk; exact kk)
theorem pw_iushr (C : Cx g p s m args meth c cc nL own ret) {x y : Int} (hdg : decode cc pc = .ok (.iushr, 1))
    (kk : W p l e R s m args below meth c H locs cells slots Q (F0 m (pc + 1) ls (.int (Int32.ofInt (ushrI x y)) :: rest))) : W p l e R s m args below meth c H locs cells slots Q (F0 m pc ls (.int (Int32.ofInt y) :: .int (Int32.ofInt x) :: rest)) := lv_iushr C.1 C.2.1 hdg rfl (by unfold ushrI at kk; rw [Int32.ofInt_toInt] at kk; exact kk)
theorem pw_irem (C : Cx g p s m args meth c cc nL own ret) {x y : Int} (hne : w32 y ≠ 0) (hdg : decode cc pc = .ok (.irem, 1))
    (kk : W p l e R s m args below meth c H locs cells slots Q (F0 m (pc + 1) ls (.int (Int32.ofInt (remI x y)) :: rest))) : W p l e R s m args below meth c H locs cells slots Q (F0 m pc ls (.int (Int32.ofInt y) :: .int (Int32.ofInt x) :: rest)) := lv_irem C.1 C.2.1 hdg (fun q => hne (by unfold w32; rw [q]; rfl)) (by unfold remI at kk; rw [Int32.ofInt_toInt] at kk; exact kk)
theorem pw_ldiv (C : Cx g p s m args meth c cc nL own ret) {x y : Int} (hne : w64 y ≠ 0) (hdg : decode cc pc = .ok (.ldiv, 1))
    (kk : W p l e R s m args below meth c H locs cells slots Q (F0 m (pc + 1) ls (.long (Int64.ofInt (divL x y)) :: rest))) : W p l e R s m args below meth c H locs cells slots Q (F0 m pc ls (.long (Int64.ofInt y) :: .long (Int64.ofInt x) :: rest)) := lv_ldiv C.1 C.2.1 hdg (fun q => hne (by unfold w64; rw [q]; rfl)) (by unfold divL at kk; rw [Int64.ofInt_toInt] at kk; exact kk)
theorem pw_i2l (C : Cx g p s m args meth c cc nL own ret) {x : Int} (hdg : decode cc pc = .ok (.i2l, 1))
    (kk : W p l e R s m args below meth c H locs cells slots Q (F0 m (pc + 1) ls (.long (Int64.ofInt (w32 x)) :: rest))) : W p l e R s m args below meth c H locs cells slots Q (F0 m pc ls (.int (Int32.ofInt x) :: rest)) := lv_i2l C.1 C.2.1 hdg (v := Int64.ofInt (w32 x)) (by unfold w32; first | rw [Int64.ofInt_int32ToInt] | rw [Int32.toInt64, Int64.ofInt] | simp) kk
theorem pw_l2i (C : Cx g p s m args meth c cc nL own ret) {x : Int} (hdg : decode cc pc = .ok (.l2i, 1))
    (kk : W p l e R s m args below meth c H locs cells slots Q (F0 m (pc + 1) ls (.int (Int32.ofInt x) :: rest))) : W p l e R s m args below meth c H locs cells slots Q (F0 m pc ls (.long (Int64.ofInt x) :: rest)) := lv_l2i C.1 C.2.1 hdg (v := Int32.ofInt x) (by first | rw [Int64.toInt32_ofInt] | simp) kk
theorem pw_i2b (C : Cx g p s m args meth c cc nL own ret) {x : Int} (hdg : decode cc pc = .ok (.i2b, 1))
    (kk : W p l e R s m args below meth c H locs cells slots Q (F0 m (pc + 1) ls (.int (Int32.ofInt (sbI x)) :: rest))) : W p l e R s m args below meth c H locs cells slots Q (F0 m pc ls (.int (Int32.ofInt x) :: rest)) := lv_i2b C.1 C.2.1 hdg (v := Int32.ofInt (sbI x)) (by unfold sbI; rw [Int32.ofInt_toInt]) kk
theorem pw_iconst (C : Cx g p s m args meth c cc nL own ret) {n : Int} (hdg : decode cc pc = .ok (.iconst n, 1))
    (kk : W p l e R s m args below meth c H locs cells slots Q (F0 m (pc + 1) ls (.int (Int32.ofInt n) :: rest))) : W p l e R s m args below meth c H locs cells slots Q (F0 m pc ls rest) := lv_iconst C.1 C.2.1 hdg rfl kk
theorem pw_bipush (C : Cx g p s m args meth c cc nL own ret) {n : Int} (hdg : decode cc pc = .ok (.bipush n, 2)) (hn : (Int8.ofInt n).toInt32 = Int32.ofInt n)
    (kk : W p l e R s m args below meth c H locs cells slots Q (F0 m (pc + 2) ls (.int (Int32.ofInt n) :: rest))) : W p l e R s m args below meth c H locs cells slots Q (F0 m pc ls rest) := lv_bipush C.1 C.2.1 hdg hn kk
theorem pw_sipush (C : Cx g p s m args meth c cc nL own ret) {n : Int} (hdg : decode cc pc = .ok (.sipush n, 3)) (hn : (Int16.ofInt n).toInt32 = Int32.ofInt n)
    (kk : W p l e R s m args below meth c H locs cells slots Q (F0 m (pc + 3) ls (.int (Int32.ofInt n) :: rest))) : W p l e R s m args below meth c H locs cells slots Q (F0 m pc ls rest) := lv_sipush C.1 C.2.1 hdg hn kk
theorem pw_lconst (C : Cx g p s m args meth c cc nL own ret) {n : Fin 2} (hdg : decode cc pc = .ok (.lconst n, 1))
    (kk : W p l e R s m args below meth c H locs cells slots Q (F0 m (pc + 1) ls (.long (Int64.ofInt (n : Nat)) :: rest))) : W p l e R s m args below meth c H locs cells slots Q (F0 m pc ls rest) := lv_lconst C.1 C.2.1 hdg (v := Int64.ofInt (n : Nat)) Int64.ofInt_eq_ofNat.symm kk
theorem pw_ldc (C : Cx g p s m args meth c cc nL own ret) {index : Nat} (n : Int) (hw : Cond.constant own index (Int32.ofInt n) ∈ TBg) (hdg : decode cc pc = .ok (.ldc index, 2))
    (kk : W p l e R s m args below meth c H locs cells slots Q (F0 m (pc + 2) ls (.int (Int32.ofInt n) :: rest))) : W p l e R s m args below meth c H locs cells slots Q (F0 m pc ls rest) := lv_ldc C.1 C.2.1 C.2.2.2.1 (C.2.2.2.2.1 _ hw) hdg kk
theorem pw_ldc2 (C : Cx g p s m args meth c cc nL own ret) {index : Nat} (n : Int) (hw : Cond.constantLong own index (Int64.ofInt n) ∈ TBg) (hdg : decode cc pc = .ok (.ldc2_w index, 3))
    (kk : W p l e R s m args below meth c H locs cells slots Q (F0 m (pc + 3) ls (.long (Int64.ofInt n) :: rest))) : W p l e R s m args below meth c H locs cells slots Q (F0 m pc ls rest) := lv_ldc2 C.1 C.2.1 C.2.2.2.1 (C.2.2.2.2.1 _ hw) hdg kk
theorem pw_goto (C : Cx g p s m args meth c cc nL own ret) {off : Int} (tgt : Nat) (hdg : decode cc pc = .ok (.goto off, 3)) (ht : (pc : Int) + off = (tgt : Int)) (kk : W p l e R s m args below meth c H locs cells slots Q (F0 m tgt ls rest)) : W p l e R s m args below meth c H locs cells slots Q (F0 m pc ls rest) := lv_goto C.1 C.2.1 hdg ht kk
theorem pw_iinc (C : Cx g p s m args meth c cc nL own ret) {i nL' k : Nat} {n x : Int} {lv lv' : List (Nat × Value)} (h : lv_has ls nL' lv) (k : Nat) (hdg : decode cc pc = .ok (.iinc i n, 3)) (hk : lv[k]? = some (i, .int (Int32.ofInt x))) (hn : i < nL') (hl : (i, Value.int (Int32.ofInt (x + n))) :: lv.filter (fun q => !(q.1 == i) && !(q.1 + 1 == i && q.2.category == 2)) = lv')
    (kk : ∀ ls' : Array Slot, lv_has ls' nL' lv' → W p l e R s m args below meth c H locs cells slots Q (F0 m (pc + 3) ls' rest)) : W p l e R s m args below meth c H locs cells slots Q (F0 m pc ls rest) := lv_iinc C.1 C.2.1 hdg h hk (v := Int32.ofInt (x + n)) (by rw [Int32.ofInt_add]) hn hl kk
theorem z32 {x : Int} : Int32.ofInt x = 0 ↔ w32 x = 0 := by
  rw [show (0 : Int32) = Int32.ofInt 0 from rfl, o32_inj, w32_eq (x := 0) (by decide) (by decide)]
theorem z32lt {x : Int} : Int32.ofInt x < 0 ↔ w32 x < 0 := by
  rw [show (0 : Int32) = Int32.ofInt 0 from rfl, o32_lt, w32_eq (x := 0) (by decide) (by decide)]
theorem z32le {x : Int} : Int32.ofInt x ≤ 0 ↔ w32 x ≤ 0 := by
  rw [show (0 : Int32) = Int32.ofInt 0 from rfl, o32_le, w32_eq (x := 0) (by decide) (by decide)]
theorem z32gt {x : Int} : 0 < Int32.ofInt x ↔ 0 < w32 x := by
  rw [show (0 : Int32) = Int32.ofInt 0 from rfl, o32_lt, w32_eq (x := 0) (by decide) (by decide)]
theorem z32ge {x : Int} : 0 ≤ Int32.ofInt x ↔ 0 ≤ w32 x := by
  rw [show (0 : Int32) = Int32.ofInt 0 from rfl, o32_le, w32_eq (x := 0) (by decide) (by decide)]
theorem pw_ifeq (C : Cx g p s m args meth c cc nL own ret) {x off : Int} (tgt : Nat) (hdg : decode cc pc = .ok (.ifCond .eq off, 3)) (ht : (pc : Int) + off = (tgt : Int))
    (kt : w32 x = 0 → W p l e R s m args below meth c H locs cells slots Q (F0 m tgt ls rest)) (kf : ¬ (w32 x = 0) → W p l e R s m args below meth c H locs cells slots Q (F0 m (pc + 3) ls rest)) : W p l e R s m args below meth c H locs cells slots Q (F0 m pc ls (.int (Int32.ofInt x) :: rest)) :=
  lv_if_eq C.1 C.2.1 hdg ht (fun q => kt (by have q := q; simp only [ne_eq, ge_iff_le, gt_iff_lt, Decidable.not_not, z32, z32lt, z32le, z32gt, z32ge] at q; omega)) (fun q => kf (by have q := q; simp only [ne_eq, ge_iff_le, gt_iff_lt, Decidable.not_not, z32, z32lt, z32le, z32gt, z32ge] at q; omega))
theorem pw_ifne (C : Cx g p s m args meth c cc nL own ret) {x off : Int} (tgt : Nat) (hdg : decode cc pc = .ok (.ifCond .ne off, 3)) (ht : (pc : Int) + off = (tgt : Int))
    (kt : ¬ (w32 x = 0) → W p l e R s m args below meth c H locs cells slots Q (F0 m tgt ls rest)) (kf : w32 x = 0 → W p l e R s m args below meth c H locs cells slots Q (F0 m (pc + 3) ls rest)) : W p l e R s m args below meth c H locs cells slots Q (F0 m pc ls (.int (Int32.ofInt x) :: rest)) :=
  lv_if_ne C.1 C.2.1 hdg ht (fun q => kt (by have q := q; simp only [ne_eq, ge_iff_le, gt_iff_lt, Decidable.not_not, z32, z32lt, z32le, z32gt, z32ge] at q; omega)) (fun q => kf (by have q := q; simp only [ne_eq, ge_iff_le, gt_iff_lt, Decidable.not_not, z32, z32lt, z32le, z32gt, z32ge] at q; omega))
theorem pw_iflt (C : Cx g p s m args meth c cc nL own ret) {x off : Int} (tgt : Nat) (hdg : decode cc pc = .ok (.ifCond .lt off, 3)) (ht : (pc : Int) + off = (tgt : Int))
    (kt : w32 x < 0 → W p l e R s m args below meth c H locs cells slots Q (F0 m tgt ls rest)) (kf : ¬ (w32 x < 0) → W p l e R s m args below meth c H locs cells slots Q (F0 m (pc + 3) ls rest)) : W p l e R s m args below meth c H locs cells slots Q (F0 m pc ls (.int (Int32.ofInt x) :: rest)) :=
  lv_if_lt C.1 C.2.1 hdg ht (fun q => kt (by have q := q; simp only [ne_eq, ge_iff_le, gt_iff_lt, Decidable.not_not, z32, z32lt, z32le, z32gt, z32ge] at q; omega)) (fun q => kf (by have q := q; simp only [ne_eq, ge_iff_le, gt_iff_lt, Decidable.not_not, z32, z32lt, z32le, z32gt, z32ge] at q; omega))
theorem pw_ifge (C : Cx g p s m args meth c cc nL own ret) {x off : Int} (tgt : Nat) (hdg : decode cc pc = .ok (.ifCond .ge off, 3)) (ht : (pc : Int) + off = (tgt : Int))
    (kt : ¬ (w32 x < 0) → W p l e R s m args below meth c H locs cells slots Q (F0 m tgt ls rest)) (kf : w32 x < 0 → W p l e R s m args below meth c H locs cells slots Q (F0 m (pc + 3) ls rest)) : W p l e R s m args below meth c H locs cells slots Q (F0 m pc ls (.int (Int32.ofInt x) :: rest)) :=
  lv_if_ge C.1 C.2.1 hdg ht (fun q => kt (by have q := q; simp only [ne_eq, ge_iff_le, gt_iff_lt, Decidable.not_not, z32, z32lt, z32le, z32gt, z32ge] at q; omega)) (fun q => kf (by have q := q; simp only [ne_eq, ge_iff_le, gt_iff_lt, Decidable.not_not, z32, z32lt, z32le, z32gt, z32ge] at q; omega))
theorem pw_ifgt (C : Cx g p s m args meth c cc nL own ret) {x off : Int} (tgt : Nat) (hdg : decode cc pc = .ok (.ifCond .gt off, 3)) (ht : (pc : Int) + off = (tgt : Int))
    (kt : 0 < w32 x → W p l e R s m args below meth c H locs cells slots Q (F0 m tgt ls rest)) (kf : ¬ (0 < w32 x) → W p l e R s m args below meth c H locs cells slots Q (F0 m (pc + 3) ls rest)) : W p l e R s m args below meth c H locs cells slots Q (F0 m pc ls (.int (Int32.ofInt x) :: rest)) :=
  lv_if_gt C.1 C.2.1 hdg ht (fun q => kt (by have q := q; simp only [ne_eq, ge_iff_le, gt_iff_lt, Decidable.not_not, z32, z32lt, z32le, z32gt, z32ge] at q; omega)) (fun q => kf (by have q := q; simp only [ne_eq, ge_iff_le, gt_iff_lt, Decidable.not_not, z32, z32lt, z32le, z32gt, z32ge] at q; omega))
theorem pw_ifle (C : Cx g p s m args meth c cc nL own ret) {x off : Int} (tgt : Nat) (hdg : decode cc pc = .ok (.ifCond .le off, 3)) (ht : (pc : Int) + off = (tgt : Int))
    (kt : ¬ (0 < w32 x) → W p l e R s m args below meth c H locs cells slots Q (F0 m tgt ls rest)) (kf : 0 < w32 x → W p l e R s m args below meth c H locs cells slots Q (F0 m (pc + 3) ls rest)) : W p l e R s m args below meth c H locs cells slots Q (F0 m pc ls (.int (Int32.ofInt x) :: rest)) :=
  lv_if_le C.1 C.2.1 hdg ht (fun q => kt (by have q := q; simp only [ne_eq, ge_iff_le, gt_iff_lt, Decidable.not_not, z32, z32lt, z32le, z32gt, z32ge] at q; omega)) (fun q => kf (by have q := q; simp only [ne_eq, ge_iff_le, gt_iff_lt, Decidable.not_not, z32, z32lt, z32le, z32gt, z32ge] at q; omega))
theorem pw_icmpeq (C : Cx g p s m args meth c cc nL own ret) {x y off : Int} (tgt : Nat) (hdg : decode cc pc = .ok (.if_icmp .eq off, 3)) (ht : (pc : Int) + off = (tgt : Int))
    (kt : w32 x = w32 y → W p l e R s m args below meth c H locs cells slots Q (F0 m tgt ls rest)) (kf : ¬ (w32 x = w32 y) → W p l e R s m args below meth c H locs cells slots Q (F0 m (pc + 3) ls rest)) : W p l e R s m args below meth c H locs cells slots Q (F0 m pc ls (.int (Int32.ofInt y) :: .int (Int32.ofInt x) :: rest)) :=
  lv_icmp_eq C.1 C.2.1 hdg ht (fun q => kt (by have q := q; simp only [ne_eq, ge_iff_le, gt_iff_lt, Decidable.not_not, o32_inj, o32_lt, o32_le] at q; omega)) (fun q => kf (by have q := q; simp only [ne_eq, ge_iff_le, gt_iff_lt, Decidable.not_not, o32_inj, o32_lt, o32_le] at q; omega))
theorem pw_icmpne (C : Cx g p s m args meth c cc nL own ret) {x y off : Int} (tgt : Nat) (hdg : decode cc pc = .ok (.if_icmp .ne off, 3)) (ht : (pc : Int) + off = (tgt : Int))
    (kt : ¬ (w32 x = w32 y) → W p l e R s m args below meth c H locs cells slots Q (F0 m tgt ls rest)) (kf : w32 x = w32 y → W p l e R s m args below meth c H locs cells slots Q (F0 m (pc + 3) ls rest)) : W p l e R s m args below meth c H locs cells slots Q (F0 m pc ls (.int (Int32.ofInt y) :: .int (Int32.ofInt x) :: rest)) :=
  lv_icmp_ne C.1 C.2.1 hdg ht (fun q => kt (by have q := q; simp only [ne_eq, ge_iff_le, gt_iff_lt, Decidable.not_not, o32_inj, o32_lt, o32_le] at q; omega)) (fun q => kf (by have q := q; simp only [ne_eq, ge_iff_le, gt_iff_lt, Decidable.not_not, o32_inj, o32_lt, o32_le] at q; omega))
theorem pw_icmplt (C : Cx g p s m args meth c cc nL own ret) {x y off : Int} (tgt : Nat) (hdg : decode cc pc = .ok (.if_icmp .lt off, 3)) (ht : (pc : Int) + off = (tgt : Int))
    (kt : w32 x < w32 y → W p l e R s m args below meth c H locs cells slots Q (F0 m tgt ls rest)) (kf : ¬ (w32 x < w32 y) → W p l e R s m args below meth c H locs cells slots Q (F0 m (pc + 3) ls rest)) : W p l e R s m args below meth c H locs cells slots Q (F0 m pc ls (.int (Int32.ofInt y) :: .int (Int32.ofInt x) :: rest)) :=
  lv_icmp_lt C.1 C.2.1 hdg ht (fun q => kt (by have q := q; simp only [ne_eq, ge_iff_le, gt_iff_lt, Decidable.not_not, o32_inj, o32_lt, o32_le] at q; omega)) (fun q => kf (by have q := q; simp only [ne_eq, ge_iff_le, gt_iff_lt, Decidable.not_not, o32_inj, o32_lt, o32_le] at q; omega))
theorem pw_icmpge (C : Cx g p s m args meth c cc nL own ret) {x y off : Int} (tgt : Nat) (hdg : decode cc pc = .ok (.if_icmp .ge off, 3)) (ht : (pc : Int) + off = (tgt : Int))
    (kt : ¬ (w32 x < w32 y) → W p l e R s m args below meth c H locs cells slots Q (F0 m tgt ls rest)) (kf : w32 x < w32 y → W p l e R s m args below meth c H locs cells slots Q (F0 m (pc + 3) ls rest)) : W p l e R s m args below meth c H locs cells slots Q (F0 m pc ls (.int (Int32.ofInt y) :: .int (Int32.ofInt x) :: rest)) :=
  lv_icmp_ge C.1 C.2.1 hdg ht (fun q => kt (by have q := q; simp only [ne_eq, ge_iff_le, gt_iff_lt, Decidable.not_not, o32_inj, o32_lt, o32_le] at q; omega)) (fun q => kf (by have q := q; simp only [ne_eq, ge_iff_le, gt_iff_lt, Decidable.not_not, o32_inj, o32_lt, o32_le] at q; omega))
theorem pw_icmpgt (C : Cx g p s m args meth c cc nL own ret) {x y off : Int} (tgt : Nat) (hdg : decode cc pc = .ok (.if_icmp .gt off, 3)) (ht : (pc : Int) + off = (tgt : Int))
    (kt : w32 y < w32 x → W p l e R s m args below meth c H locs cells slots Q (F0 m tgt ls rest)) (kf : ¬ (w32 y < w32 x) → W p l e R s m args below meth c H locs cells slots Q (F0 m (pc + 3) ls rest)) : W p l e R s m args below meth c H locs cells slots Q (F0 m pc ls (.int (Int32.ofInt y) :: .int (Int32.ofInt x) :: rest)) :=
  lv_icmp_gt C.1 C.2.1 hdg ht (fun q => kt (by have q := q; simp only [ne_eq, ge_iff_le, gt_iff_lt, Decidable.not_not, o32_inj, o32_lt, o32_le] at q; omega)) (fun q => kf (by have q := q; simp only [ne_eq, ge_iff_le, gt_iff_lt, Decidable.not_not, o32_inj, o32_lt, o32_le] at q; omega))
theorem pw_icmple (C : Cx g p s m args meth c cc nL own ret) {x y off : Int} (tgt : Nat) (hdg : decode cc pc = .ok (.if_icmp .le off, 3)) (ht : (pc : Int) + off = (tgt : Int))
    (kt : ¬ (w32 y < w32 x) → W p l e R s m args below meth c H locs cells slots Q (F0 m tgt ls rest)) (kf : w32 y < w32 x → W p l e R s m args below meth c H locs cells slots Q (F0 m (pc + 3) ls rest)) : W p l e R s m args below meth c H locs cells slots Q (F0 m pc ls (.int (Int32.ofInt y) :: .int (Int32.ofInt x) :: rest)) :=
  lv_icmp_le C.1 C.2.1 hdg ht (fun q => kt (by have q := q; simp only [ne_eq, ge_iff_le, gt_iff_lt, Decidable.not_not, o32_inj, o32_lt, o32_le] at q; omega)) (fun q => kf (by have q := q; simp only [ne_eq, ge_iff_le, gt_iff_lt, Decidable.not_not, o32_inj, o32_lt, o32_le] at q; omega))
theorem pw_lcmp (C : Cx g p s m args meth c cc nL own ret) {x y : Int} (hdg : decode cc pc = .ok (.lcmp, 1))
    (kk : W p l e R s m args below meth c H locs cells slots Q (F0 m (pc + 1) ls (.int (Int32.ofInt (cmpL x y)) :: rest))) : W p l e R s m args below meth c H locs cells slots Q (F0 m pc ls (.long (Int64.ofInt y) :: .long (Int64.ofInt x) :: rest)) := by
  refine W.lcmp C.1 C.2.1 hdg ?_
  have e : lg_cmp (Int64.ofInt x) (Int64.ofInt y) = Int32.ofInt (cmpL x y) := by
    unfold cmpL lg_cmp w64
    by_cases h1 : (Int64.ofInt x).toInt < (Int64.ofInt y).toInt
    · have h2 : Int64.ofInt x < Int64.ofInt y := Int64.lt_iff_toInt_lt.mpr h1
      have h3 : ¬ Int64.ofInt y < Int64.ofInt x := fun q => by have := Int64.lt_iff_toInt_lt.mp q; omega
      have h4 : ¬ Int64.ofInt x = Int64.ofInt y := fun q => by rw [q] at h1; omega
      rw [if_neg h3, if_neg h4, if_pos h1]
      rfl
    · by_cases h5 : (Int64.ofInt x).toInt = (Int64.ofInt y).toInt
      · have h6 : Int64.ofInt x = Int64.ofInt y := Int64.toInt_inj.mp h5
        rw [if_neg (fun q : Int64.ofInt x > Int64.ofInt y => by have := Int64.lt_iff_toInt_lt.mp q; omega), if_pos h6, if_neg h1, if_pos h5]
        rfl
      · have h2 : ¬ Int64.ofInt x < Int64.ofInt y := fun q => h1 (Int64.lt_iff_toInt_lt.mp q)
        have h3 : Int64.ofInt y < Int64.ofInt x := Int64.lt_iff_toInt_lt.mpr (by omega)
        have h4 : ¬ Int64.ofInt x = Int64.ofInt y := fun q => h5 (by rw [q])
        rw [if_pos h3, if_neg h1, if_neg h5]
        rfl
  rw [e]
  exact kk
end PW
end
section
section PW
variable {p : Program} {l : Launch} {e : Env} {R : Room} {s : State} {m : MethodId} {args : Array Value} {below : List Frame} {meth : Method} {c : Code} {H : Heap} {locs : List Loc} {cells slots : Nat} {Q : State → Prop}
variable {cc : ByteArray} {pc : Nat} {ls : Array Slot} {rest : List Value} {g : GP} {ad : Nat → Nat} {h h' : PH} {own : String} {nL : Nat} {ret : Option FieldType}
theorem pw_call {mc ms : Nat} {st0 : List Value} {a : Array Value} {rv : Option Value} (hR : Rl g ad h s.heap H locs) (hr : va_Run p l e R s m args below meth c H locs cells slots mc ms (F0 m pc ls st0) rest (QcN g ad h' rv a) (gA g))
    (kk : ∀ (H1 : Heap) (locs1 : List Loc), Rl g ad h' s.heap H1 locs1 → W p l e R s m args below meth c H1 locs1 (cells + mc) (slots + ms) Q (F0 m (pc + 3) ls (rv.toList ++ rest))) : W p l e R s m args below meth c H locs cells slots Q (F0 m pc ls st0) := by
  intro T hT X
  obtain ⟨v, st₀, t, T', L, h0, X', hL, e1, e2, ⟨hv, ⟨hp, hd, hw⟩, hz, hk⟩, st⟩ := hr T hT X
  cases hv
  rw [h0] at hz hk
  obtain ⟨-, -, hS, -⟩ := hR
  obtain ⟨t2, a1, b1⟩ := kk T'.heap (locs ++ L) ⟨by rw [e1]; exact hp, hd, ⟨Nat.le_trans hS.1 (by rw [e1]; exact hz), fun q h1 h2 => by rw [e1, hk q (Nat.lt_of_lt_of_le h1 hS.1) h2]; exact hS.2.1 q h1 h2, fun q hq => by
      rcases List.mem_append.mp hq with h | h
      · exact hS.2.2 q h
      · exact hL q h⟩, hw⟩ T' rfl X'
  exact ⟨t2, st t2 a1, b1⟩
theorem pw_callA {mc ms : Nat} {st0 : List Value} {a : Array Value} {rv : (Nat → Nat) → Option Value} (hR : Rl g ad h s.heap H locs) (hr : va_Run p l e R s m args below meth c H locs cells slots mc ms (F0 m pc ls st0) rest (QcA g ad h h' rv a) (gA g))
    (kk : ∀ (ad' : Nat → Nat) (H1 : Heap) (locs1 : List Loc), (∀ k, k < h.length → ad' k = ad k) → Rl g ad' h' s.heap H1 locs1 → W p l e R s m args below meth c H1 locs1 (cells + mc) (slots + ms) Q (F0 m (pc + 3) ls ((rv ad').toList ++ rest))) : W p l e R s m args below meth c H locs cells slots Q (F0 m pc ls st0) := by
  intro T hT X
  obtain ⟨v, st₀, t, T', L, h0, X', hL, e1, e2, ⟨ad', hag, hv, ⟨hp, hd, hw⟩, hz, hk⟩, st⟩ := hr T hT X
  cases hv
  rw [h0] at hz hk
  obtain ⟨-, -, hS, -⟩ := hR
  obtain ⟨t2, a1, b1⟩ := kk ad' T'.heap (locs ++ L) hag ⟨by rw [e1]; exact hp, hd, ⟨Nat.le_trans hS.1 (by rw [e1]; exact hz), fun q h1 h2 => by rw [e1, hk q (Nat.lt_of_lt_of_le h1 hS.1) h2]; exact hS.2.1 q h1 h2, fun q hq => by
      rcases List.mem_append.mp hq with h | h
      · exact hS.2.2 q h
      · exact hL q h⟩, hw⟩ T' rfl X'
  exact ⟨t2, st t2 a1, b1⟩
theorem pw_pre (C : Cx g p s m args meth c cc nL own ret) (hR : Rl g ad h s.heap H locs) (As : List Value) : PreS s H (PcN g ad h As) As :=
  ⟨PcN_blind, fun U hU hW => ⟨rfl, Kf.go hW (by rw [hU]; exact hR.2.2.1) C.2.2.2.2.2.1, by rw [hU]; exact hR.1, hR.2.1, hR.2.2.2⟩⟩
theorem pw_fix (C : Cx g p s m args meth c cc nL own ret) : CallFix p m c cc nL s args TBg own := ⟨C.1, C.2.1, C.2.2.1, C.2.2.2.1, C.2.2.2.2.1⟩
/-- a static call -/
theorem pw_runS {y : MethodName} {b : ByteArray} {maxL n index : Nat} {r : Option FieldType} {rm : Room} {Qc : Array Value → State → Outcome → State → Prop} {As st0 : List Value} (C : Cx g p s m args meth c cc nL own ret) (hR : Rl g ad h s.heap H locs) (S : SlP own index y b maxL r n)
    (hM : Met l y (Cond.code y b maxL r :: TBg) rm (PcN g ad h As) Qc rm.cells rm.slots (gA g)) (hn : As.length = n) (hsz : ls.size = nL) (hst : st0 = As.reverse ++ rest) (hroom : rm.frames + 1 ≤ R.frames ∧ 8 + (maxL + 11) + rm.locals ≤ R.locals) (hcat : (rest.map fun v => v.category).sum ≤ 8) (hdg : decode cc pc = .ok (.invokestatic index, 3)) (hf : cells + rm.cells ≤ R.cells ∧ slots + rm.slots ≤ R.slots) :
    va_Run p l e R s m args below meth c H locs cells slots rm.cells rm.slots (F0 m pc ls st0) rest (Qc As.toArray) (gA g) := by
  obtain ⟨s1, s2, s3, s4, s5, s6, s7⟩ := S
  refine va_runS (As := As) (rest := rest) (pw_fix C) hM ⟨callB_of n C.2.2.2.2.1 (TBg_cons s4) rfl rfl rfl (C.2.2.2.2.1 _ s3) (C.2.2.2.2.1 _ s1) ⟨s5, s6, s7⟩ hroom, C.2.2.2.2.1 _ s2⟩ (pw_pre C hR As) rfl hn hsz hst (lv_room hcat) hdg hf
/-- a virtual call -/
theorem pw_runV {y : MethodName} {b : ByteArray} {maxL n index ci o : Nat} {fs : List PV} {r : Option FieldType} {rm : Room} {Qc : Array Value → State → Outcome → State → Prop} {As st0 : List Value} (C : Cx g p s m args meth c cc nL own ret) (hR : Rl g ad h s.heap H locs) (S : VlP own index y b maxL r n ci) (ho : h[o]? = some (.inr (ci, fs)))
    (hM : Met l y (Cond.code y b maxL r :: TBg) rm (PcN g ad h (.ref (ad o) :: As)) Qc rm.cells rm.slots (gA g)) (hn : As.length = n) (hsz : ls.size = nL) (hst : st0 = As.reverse ++ .ref (ad o) :: rest) (hroom : rm.frames + 1 ≤ R.frames ∧ 8 + (maxL + 11) + rm.locals ≤ R.locals) (hcat : (rest.map fun v => v.category).sum ≤ 8) (hdg : decode cc pc = .ok (.invokevirtual index, 3)) (hf : cells + rm.cells ≤ R.cells ∧ slots + rm.slots ≤ R.slots) :
    va_Run p l e R s m args below meth c H locs cells slots rm.cells rm.slots (F0 m pc ls st0) rest (Qc (Value.ref (ad o) :: As).toArray) (gA g) := by
  obtain ⟨s1, s2, s3, s4, s5, s6, s7, s8, ⟨T, N, s9⟩, s10⟩ := S
  have hw := wsOf_get (g := g) (ad := ad) ho
  simp only [cv, if_pos s10] at hw
  have hp := pw_pre C hR (.ref (ad o) :: As)
  refine va_runV (C := y.cls) (As := As) (rest := rest) (pw_fix C) hM ⟨callB_of n C.2.2.2.2.1 (TBg_cons s5) rfl rfl rfl (C.2.2.2.2.1 _ s4) (C.2.2.2.2.1 _ s1) ⟨s6, s7, s8⟩ hroom, C.2.2.2.2.1 _ s2, C.2.2.2.2.1 _ s3⟩ ⟨hp.1, va_recv C.2.2.2.2.2.1.1 hR.1 (ci := ci) (q0 := o) s9 hw, hp.2⟩ rfl hn hsz hst (lv_room hcat) hdg hf
/-- a static call of a nest mate's private method -/
theorem pw_runSN {y : MethodName} {b : ByteArray} {maxL n index : Nat} {r : Option FieldType} {rm : Room} {Qc : Array Value → State → Outcome → State → Prop} {As st0 : List Value} (C : Cx g p s m args meth c cc nL own ret) (hR : Rl g ad h s.heap H locs) (hq : (own, index, y) ∈ nstW)
    (S : Cond.static y ∈ TBg ∧ Cond.initialized y.cls ∈ TBg ∧ Cond.code y b maxL r ∈ TBg ∧ y.cls ≠ "java/lang/invoke/MethodHandle" ∧ y.cls ≠ "java/lang/invoke/VarHandle" ∧ (parseMethodDescriptor y.desc).map (fun d => d.parameters.length) = some n)
    (hM : Met l y (Cond.code y b maxL r :: TBg) rm (PcN g ad h As) Qc rm.cells rm.slots (gA g)) (hn : As.length = n) (hsz : ls.size = nL) (hst : st0 = As.reverse ++ rest) (hroom : rm.frames + 1 ≤ R.frames ∧ 8 + (maxL + 11) + rm.locals ≤ R.locals) (hcat : (rest.map fun v => v.category).sum ≤ 8) (hdg : decode cc pc = .ok (.invokestatic index, 3)) (hf : cells + rm.cells ≤ R.cells ∧ slots + rm.slots ≤ R.slots) :
    va_Run p l e R s m args below meth c H locs cells slots rm.cells rm.slots (F0 m pc ls st0) rest (Qc As.toArray) (gA g) := by
  obtain ⟨s2, s3, s4, s5, s6, s7⟩ := S
  refine va_runSN (host := "HardwareTaskQueue") (As := As) (rest := rest) (pw_fix C) hM ⟨va_cnB n C.2.2.2.2.1 (TBg_cons s4) rfl rfl rfl (C.2.2.2.2.2.1.2.1.1 _ hq) (C.2.2.2.2.1 _ s3) ⟨s5, s6, s7⟩ hroom, C.2.2.2.2.1 _ s2, trivial⟩ (pw_pre C hR As) rfl hn hsz hst (lv_room hcat) hdg hf
/-- a constructor -/
theorem pw_runI {y : MethodName} {b : ByteArray} {maxL n index o : Nat} {rm : Room} {Qc : Array Value → State → Outcome → State → Prop} {As st0 : List Value} (C : Cx g p s m args meth c cc nL own ret) (hR : Rl g ad h s.heap H locs)
    (S : Cond.methodLink own index y ∈ TBg ∧ Cond.instanceMethod y ∈ TBg ∧ Cond.initialized y.cls ∈ TBg ∧ Cond.code y b maxL none ∈ TBg ∧ y.name = "<init>" ∧ y.cls ≠ "java/lang/invoke/MethodHandle" ∧ y.cls ≠ "java/lang/invoke/VarHandle" ∧ (parseMethodDescriptor y.desc).map (fun d => d.parameters.length) = some n)
    (hM : Met l y (Cond.code y b maxL none :: TBg) rm (PcN g ad h (.ref (ad o) :: As)) Qc rm.cells rm.slots (gA g)) (hn : As.length = n) (hsz : ls.size = nL) (hst : st0 = As.reverse ++ .ref (ad o) :: rest) (hroom : rm.frames + 1 ≤ R.frames ∧ 8 + (maxL + 11) + rm.locals ≤ R.locals) (hcat : (rest.map fun v => v.category).sum ≤ 8) (hdg : decode cc pc = .ok (.invokespecial index, 3)) (hf : cells + rm.cells ≤ R.cells ∧ slots + rm.slots ≤ R.slots) :
    va_Run p l e R s m args below meth c H locs cells slots rm.cells rm.slots (F0 m pc ls st0) rest (Qc (Value.ref (ad o) :: As).toArray) (gA g) := by
  obtain ⟨s1, s2, s3, s4, s5, s6, s7, s8⟩ := S
  refine va_runI (As := As) (rest := rest) (pw_fix C) hM ⟨callB_of n C.2.2.2.2.1 (TBg_cons s4) rfl rfl rfl (C.2.2.2.2.1 _ s3) (C.2.2.2.2.1 _ s1) ⟨s6, s7, s8⟩ hroom, s5, C.2.2.2.2.1 _ s2⟩ (pw_pre C hR (.ref (ad o) :: As)) rfl hn hsz hst (lv_room hcat) hdg hf
/-- a nest mate's private constructor -/
theorem pw_runIN {y : MethodName} {b : ByteArray} {maxL n index o : Nat} {rm : Room} {Qc : Array Value → State → Outcome → State → Prop} {As st0 : List Value} (C : Cx g p s m args meth c cc nL own ret) (hR : Rl g ad h s.heap H locs) (hq : (own, index, y) ∈ nstW)
    (S : Cond.instanceMethod y ∈ TBg ∧ Cond.initialized y.cls ∈ TBg ∧ Cond.code y b maxL none ∈ TBg ∧ y.name = "<init>" ∧ y.cls ≠ "java/lang/invoke/MethodHandle" ∧ y.cls ≠ "java/lang/invoke/VarHandle" ∧ (parseMethodDescriptor y.desc).map (fun d => d.parameters.length) = some n)
    (hM : Met l y (Cond.code y b maxL none :: TBg) rm (PcN g ad h (.ref (ad o) :: As)) Qc rm.cells rm.slots (gA g)) (hn : As.length = n) (hsz : ls.size = nL) (hst : st0 = As.reverse ++ .ref (ad o) :: rest) (hroom : rm.frames + 1 ≤ R.frames ∧ 8 + (maxL + 11) + rm.locals ≤ R.locals) (hcat : (rest.map fun v => v.category).sum ≤ 8) (hdg : decode cc pc = .ok (.invokespecial index, 3)) (hf : cells + rm.cells ≤ R.cells ∧ slots + rm.slots ≤ R.slots) :
    va_Run p l e R s m args below meth c H locs cells slots rm.cells rm.slots (F0 m pc ls st0) rest (Qc (Value.ref (ad o) :: As).toArray) (gA g) := by
  obtain ⟨s2, s3, s4, s5, s6, s7, s8⟩ := S
  refine va_runIN (host := "HardwareTaskQueue") (As := As) (rest := rest) (pw_fix C) hM ⟨va_cnB n C.2.2.2.2.1 (TBg_cons s4) rfl rfl rfl (C.2.2.2.2.2.1.2.1.1 _ hq) (C.2.2.2.2.1 _ s3) ⟨s6, s7, s8⟩ hroom, s5, C.2.2.2.2.1 _ s2⟩ (pw_pre C hR (.ref (ad o) :: As)) rfl hn hsz hst (lv_room hcat) hdg hf
theorem pw_q (hR : Rl g ad h s.heap H locs) {rv : Option Value} {a : Array Value} : ∀ t : State, t.heap = H → s.WarmedH t.vm → QcN g ad h rv a s (.returned rv) t := fun t ht _ => ⟨rfl, ⟨by rw [ht]; exact hR.1, hR.2.1, hR.2.2.2⟩, hR.2.2.1.F ht⟩
theorem pw_iret (C : Cx g p s m args meth c cc nL own (some .int)) (hR : Rl g ad h s.heap H locs) {x : Int} (hdg : decode cc pc = .ok (.ireturn, 1)) : W p l e R s m args below meth c H locs cells slots (MQ below (QcN g ad h (some (.int (Int32.ofInt x)))) args s cells slots (gA g)) (F0 m pc ls [.int (Int32.ofInt x)]) :=
  W.iret C.1 C.2.1 C.2.2.2.2.2.2.2 (pw_q hR) hR.2.2.1.2.2 hdg C.2.2.2.2.2.2.1
theorem nar_boolv {x : Int} (h : x = 0 ∨ x = 1) : narrow .boolean (.int (Int32.ofInt x)) = .int (Int32.ofInt x) := by rcases h with rfl | rfl <;> rfl
theorem pw_zret (C : Cx g p s m args meth c cc nL own (some .boolean)) (hR : Rl g ad h s.heap H locs) {x : Int} (hx : x = 0 ∨ x = 1) (hdg : decode cc pc = .ok (.ireturn, 1)) : W p l e R s m args below meth c H locs cells slots (MQ below (QcN g ad h (some (.int (Int32.ofInt x)))) args s cells slots (gA g)) (F0 m pc ls [.int (Int32.ofInt x)]) :=
  W.zret C.1 C.2.1 C.2.2.2.2.2.2.2 (nar_boolv hx) (pw_q hR) hR.2.2.1.2.2 hdg C.2.2.2.2.2.2.1
theorem pw_lret (C : Cx g p s m args meth c cc nL own (some .long)) (hR : Rl g ad h s.heap H locs) {x : Int} (hdg : decode cc pc = .ok (.lreturn, 1)) : W p l e R s m args below meth c H locs cells slots (MQ below (QcN g ad h (some (.long (Int64.ofInt x)))) args s cells slots (gA g)) (F0 m pc ls [.long (Int64.ofInt x)]) :=
  W.lret C.1 C.2.1 C.2.2.2.2.2.2.2 (pw_q hR) hR.2.2.1.2.2 hdg C.2.2.2.2.2.2.1
theorem pw_vret (C : Cx g p s m args meth c cc nL own none) (hR : Rl g ad h s.heap H locs) (hdg : decode cc pc = .ok (.return_, 1)) : W p l e R s m args below meth c H locs cells slots (MQ below (QcN g ad h none) args s cells slots (gA g)) (F0 m pc ls []) :=
  W.vret C.1 C.2.1 C.2.2.2.2.2.2.2 (pw_q hR) hR.2.2.1.2.2 hdg C.2.2.2.2.2.2.1
end PW
/-- a contract out of the walk of a body -/
theorem pw_met {g : GP} {l : Launch} {y : MethodName} {cc : ByteArray} {maxL : Nat} {ret : Option FieldType} {rm : Room} {Pa : List Value} {ad : Nat → Nat} {h : PH} {Qc : Array Value → State → Outcome → State → Prop} (hy : plainName y.cls = true) (hlen : (lg_sl Pa).length ≤ maxL)
    (body : ∀ (p : Program) (e : Env) (s : State) (m : MethodId) (below : List Frame) (meth : Method) (c : Code) (ls : Array Slot), Cx g p s m Pa.toArray meth c cc maxL y.cls ret → meth.name = y.name → Rl g ad h s.heap s.heap [] → lv_has ls maxL (lv_args 0 Pa) →
      W p l e rm s m Pa.toArray below meth c s.heap [] 0 0 (MQ below Qc Pa.toArray s rm.cells rm.slots (gA g)) (F0 m 0 ls [])) :
    Met l y (Cond.code y cc maxL ret :: TBg) rm (PcN g ad h Pa) Qc rm.cells rm.slots (gA g) := by
  refine Met.ofW (cc := cc) (maxL := maxL) (ret := ret) hy rfl ?_
  intro p e s m args below meth c s₁ B hml hv
  obtain ⟨rfl, hK, hP, hD, hw⟩ := hv
  have hts := atoms_spec (ws := Cond.code y cc maxL ret :: TBg) B.pre
  have hl := lv_entry Pa (n := maxL) hlen
  rw [lg_entry_eq]
  exact body p e s m below meth c _ ⟨B.exec, B.bytes, hml, findClass_of_methodNamed B.named, fun w h => hts w (List.mem_cons_of_mem _ h), hK, B.notSynchronized, B.returns⟩ (name_of_methodNamed B.named B.method).1 ⟨hP, hD, va_S.rf, hw⟩ hl
end
