/-! ===== making cells ===== -/
def dflt (c : Nat) : List PV := match c with
  | 0 => [.inl 0, .inl 0, .inl 0, .inr none, .inr none, .inr none, .inr none, .inr none, .inr none, .inr none]
  | 1 => [.inr none, .inr none]
  | 2 => [.inr none, .inl 0, .inl 0]
  | 3 => [.inr none, .inr none, .inr none, .inl 0]
  | 4 => [.inr none, .inl 0, .inl 0, .inr none, .inl 0, .inl 0]
  | 5 => [.inr none, .inl 0, .inl 0, .inl 0, .inl 0, .inl 0, .inl 0]
  | 6 => [.inl 0, .inl 0, .inr none, .inr none, .inr none, .inr none, .inr none, .inr none, .inr none, .inr none, .inr none]
  | 7 => [.inr none, .inr none, .inr none, .inr none, .inl 0]
  | _ => [.inl 0, .inr none, .inl 0, .inl 0, .inl 0, .inl 0, .inl 0, .inl 0, .inr none, .inr none, .inr none, .inr none, .inl 0, .inl 0, .inl 0, .inl 0, .inr none, .inr none]
/-- the live references are places, the heap at the start is no longer -/
def gdL (h0 h : PH) (vs : List Nat) : Option Unit := if h0.length ≤ h.length ∧ ∀ v ∈ vs, v < h.length then some () else none
theorem gdL_spec {h0 h : PH} {vs : List Nat} {u : Unit} (e : gdL h0 h vs = some u) : h0.length ≤ h.length ∧ ∀ v ∈ vs, v < h.length := by
  unfold gdL at e
  split at e
  · assumption
  · cases e
def nwo (h : PH) (c : Nat) : Option PH := some (h ++ [.inr (c, dflt c)])
def nwa (h : PH) (t : Nat) (n : Int) : Option PH := if 0 ≤ n ∧ n ≤ 4000 then some (h ++ [.inl (t, List.replicate n.toNat 0)]) else none
def nwq (h : PH) (n : Int) : Option PH := if 0 ≤ n ∧ n ≤ 4000 then some (h ++ [.inr (9, List.replicate n.toNat (.inr none))]) else none
/-- new int[8][n] -/
def nwm (h : PH) (n : Int) : Option PH := if 0 ≤ n ∧ n ≤ 4000 then some (h ++ .inr (10, (List.range 8).map (fun i => .inr (some (h.length + 1 + i)))) :: List.replicate 8 (.inl (0, List.replicate n.toNat 0))) else none
def upA (ad : Nat → Nat) (k q : Nat) : Nat → Nat := fun j => if j = k then q else ad j
theorem upA_lt {ad : Nat → Nat} {k q j : Nat} (h : j < k) : upA ad k q j = ad j := if_neg (by omega)
theorem upA_eq {ad : Nat → Nat} {k q : Nat} : upA ad k q k = q := if_pos rfl
theorem cv_ext {g : GP} {ad ad' : Nat → Nat} {n : Nat} (hag : ∀ k, k < n → ad' k = ad k) {c : PC} (hc : ∀ (t : Nat) (fs : List PV), c = .inr (t, fs) → ∀ a : Nat, (.inr (some a) : PV) ∈ fs → a < n) : cv g ad' c = cv g ad c := by
  have hv : ∀ v : PV, (∀ a : Nat, v = .inr (some a) → a < n) → vl ad' v = vl ad v ∧ rl ad' v = rl ad v := by
    intro v hv
    rcases v with x | o
    · exact ⟨rfl, rfl⟩
    · rcases o with - | a
      · exact ⟨rfl, rfl⟩
      · have := hag a (hv a rfl)
        simp [vl, rl, this]
  rcases c with q | ⟨t, fs⟩
  · rfl
  · have hm : fs.map (vl ad') = fs.map (vl ad) := List.map_congr_left (fun v hm => (hv v (fun a e => hc t fs rfl a (e ▸ hm))).1)
    have hr : (fun j => rl ad' (fs.getD j (.inr none))) = fun j => rl ad (fs.getD j (.inr none)) := by
      funext j
      refine (hv _ (fun a e => ?_)).2
      simp only [List.getD_eq_getElem?_getD] at e
      cases hj : fs[j]? with
      | none => rw [hj] at e; cases e
      | some v =>
        rw [hj] at e
        simp only [Option.getD_some] at e
        exact hc t fs rfl a (e ▸ List.mem_of_getElem? hj)
    simp only [cv, hm, hr]
theorem wsOf_ext {g : GP} {ad ad' : Nat → Nat} {h : PH} (hw : wfH h) (hag : ∀ k, k < h.length → ad' k = ad k) : wsOf g ad' h = wsOf g ad h := by
  unfold wsOf
  apply List.ext_getElem?
  intro i
  simp only [List.getElem?_mapIdx]
  cases hi : h[i]? with
  | none => rfl
  | some c =>
    have hl := (List.getElem?_eq_some_iff.mp hi).1
    simp only [Option.map_some]
    rw [hag i hl, cv_ext (n := h.length) hag (fun t fs e a ha => hw.1 i t fs (by rw [hi, e]) a ha)]
theorem wsOf_app {g : GP} {ad : Nat → Nat} {h : PH} {c : PC} : wsOf g ad (h ++ [c]) = wsOf g ad h ++ [(ad h.length, cv g ad c)] := by
  unfold wsOf
  rw [List.mapIdx_append]
  simp
theorem wfH_app {h : PH} {c : PC} (hw : wfH h) (hr : ∀ (t : Nat) (fs : List PV), c = .inr (t, fs) → ∀ a : Nat, (.inr (some a) : PV) ∈ fs → a < h.length + 1) (hl : ∀ q : Nat × List Int, c = .inl q → q.2.length < 2147483648) : wfH (h ++ [c]) := by
  refine ⟨fun k t fs e a ha => ?_, fun k q e => ?_⟩
  · rw [List.length_append, List.length_singleton]
    by_cases hk : k < h.length
    · rw [List.getElem?_append_left hk] at e
      have := hw.1 k t fs e a ha
      omega
    · rw [List.getElem?_append_right (by omega)] at e
      have hz : k - h.length < 1 := (List.getElem?_eq_some_iff.mp e).1
      rw [show k - h.length = 0 by omega] at e
      simp only [List.getElem?_cons_zero, Option.some.injEq] at e
      exact hr t fs e a ha
  · by_cases hk : k < h.length
    · rw [List.getElem?_append_left hk] at e
      exact hw.2 k q e
    · rw [List.getElem?_append_right (by omega)] at e
      have hz : k - h.length < 1 := (List.getElem?_eq_some_iff.mp e).1
      rw [show k - h.length = 0 by omega] at e
      simp only [List.getElem?_cons_zero, Option.some.injEq] at e
      exact hl q e
/-- a class that can be made -/
def NwP (own : String) (index ci N : Nat) : Prop := ∃ (cn : String) (T : u_T) (ty0 : Nat → FieldType), vwCl[ci]? = some (cn, T, N) ∧ (∀ w ∈ u_ws cn T N, w ∈ TBg) ∧ (∀ k, k < N → parseFieldDescriptor (T k).2.2.1 = some (ty0 k)) ∧ Cond.classLink own index cn ∈ TBg ∧ Cond.instantiable cn N ∈ TBg ∧ Cond.initialized cn ∈ TBg ∧ ci < 9 ∧ (∀ j, j < N → defaultValue (ty0 j) = vp_V ((dflt ci).map (vl (fun _ => 0))) j)
theorem dflt_nul : ∀ c : Nat, ∀ a : Nat, (.inr (some a) : PV) ∉ dflt c := by
  intro c a
  unfold dflt
  split <;> simp
theorem dflt_map (c : Nat) (ad ad' : Nat → Nat) : (dflt c).map (vl ad) = (dflt c).map (vl ad') := by
  apply List.map_congr_left
  intro v hv
  rcases v with x | o
  · rfl
  · rcases o with - | a
    · rfl
    · exact absurd hv (dflt_nul c a)
section PW
variable {p : Program} {l : Launch} {e : Env} {R : Room} {s : State} {m : MethodId} {args : Array Value} {below : List Frame} {meth : Method} {c : Code} {H : Heap} {locs : List Loc} {cells slots : Nat} {Q : State → Prop}
variable {cc : ByteArray} {pc : Nat} {ls : Array Slot} {rest : List Value} {g : GP} {ad : Nat → Nat} {h h' : PH} {own : String} {nL : Nat} {ret : Option FieldType}
theorem Rl.push {H1 : Heap} {q : Nat} {c0 : PC} (hR : Rl g ad h s.heap H locs) (hw : wfH (h ++ [c0])) (hn : ∀ (t : Nat) (fs : List PV), c0 = .inr (t, fs) → ∀ a : Nat, (.inr (some a) : PV) ∈ fs → a < h.length)
    (h1 : va_P g.1 vwCl (wsOf g ad h ++ [(q, cv g ad c0)]) H1) (h2 : va_D (gA g) (wsOf g ad h ++ [(q, cv g ad c0)])) (h3 : va_S (gA g) s.heap H1 locs) : Rl g (upA ad h.length q) (h ++ [c0]) s.heap H1 locs := by
  have hag : ∀ k, k < h.length → upA ad h.length q k = ad k := fun k hk => upA_lt hk
  have e : wsOf g (upA ad h.length q) (h ++ [c0]) = wsOf g ad h ++ [(q, cv g ad c0)] := by
    rw [wsOf_app, wsOf_ext hR.2.2.2 hag, upA_eq, cv_ext (n := h.length) hag hn]
  exact ⟨by rw [e]; exact h1, by rw [e]; exact h2, h3, hw⟩
/-- new -/
theorem pw_new (C : Cx g p s m args meth c cc nL own ret) (hR : Rl g ad h s.heap H locs) {ci N index : Nat} (e1 : nwo h ci = some h') (S : NwP own index ci N) (hdg : decode cc pc = .ok (.new index, 3)) (hc : cells + 1 ≤ R.cells) (hs : slots + N ≤ R.slots)
    (kk : ∀ (ad' : Nat → Nat) (H1 : Heap), (∀ k, k < h.length → ad' k = ad k) → Rl g ad' h' s.heap H1 locs → W p l e R s m args below meth c H1 locs (cells + 1) (slots + N) Q (F0 m (pc + 3) ls (.ref (ad' h.length) :: rest))) : W p l e R s m args below meth c H locs cells slots Q (F0 m pc ls rest) := by
  cases e1
  obtain ⟨cn, T, ty0, f1, f2, f3, f4, f5, f6, f7, f8⟩ := S
  refine va_new (fs := (dflt ci).map (vl ad)) C.1 C.2.1 C.2.2.2.2.1 f2 ty0 f3 C.2.2.2.1 (C.2.2.2.2.1 _ f4) (C.2.2.2.2.1 _ f5) (C.2.2.2.2.1 _ f6) C.2.2.2.2.2.1.1 hR.1 hR.2.1 hR.2.2.1 (pw_hA C) f1 (fun j hj => by rw [f8 j hj, dflt_map ci (fun _ => 0) ad]) hc hs hdg (fun q H1 h1 h2 h3 => ?_)
  have ecv : cv g ad (.inr (ci, dflt ci)) = .inr (ci, (dflt ci).map (vl ad)) := by simp [cv, f7]
  have hR1 := hR.push (q := q) (c0 := .inr (ci, dflt ci)) (wfH_app hR.2.2.2 (fun t fs e a ha => by cases e; exact absurd ha (dflt_nul ci a)) (fun q e => by cases e)) (fun t fs e a ha => by cases e; exact absurd ha (dflt_nul ci a)) (by rw [ecv]; exact h1) (by rw [ecv]; exact h2) h3
  have := kk _ H1 (fun k hk => upA_lt hk) hR1
  rw [upA_eq] at this
  exact this
theorem RA_at (C : Cx g p s m args meth c cc nL own ret) {t : Nat} {ty : FieldType} {cA : ClassId} (ht : (tysOf g)[t]? = some (g.2.1 t, ty)) (hprim : ∀ C : String, ty ≠ .object C) (hK : va_K g.1 vwCl (tysOf g ++ [(cA, ty)]) s) : cA = g.2.1 t := by
  have h1 := (C.2.2.2.2.2.1.1.2 t _ ht).2
  have h2 := (hK.2 (tysOf g).length (cA, ty) (by rw [List.getElem?_append_right (Nat.le_refl _), Nat.sub_self]; rfl)).2
  have key : ∀ cB : ClassId, va_RA s cB ty → s.vm.findClass ("[" ++ ty.toString) = some cB := by
    intro cB hB
    cases ty <;> first | exact hB | exact absurd rfl (hprim _)
  have e1 := key _ h1
  have e2 := key _ h2
  rw [e1] at e2
  exact (Option.some.inj e2).symm
theorem nat_n {n : Int} (h0 : 0 ≤ n) (h1 : n ≤ 4000) : (Int32.ofInt n).toNatClampNeg = n.toNat ∧ ¬ Int32.ofInt n < 0 := by
  have hw : w32 n = n := w32_eq (by omega) (by omega)
  refine ⟨?_, fun q => ?_⟩
  · show (Int32.ofInt n).toInt.toNat = n.toNat
    unfold w32 at hw
    rw [hw]
  · have := z32lt.mp q
    omega
theorem rep_fun (n : Nat) : (fun j => Int32.ofInt ((List.replicate n (0 : Int)).getD j 0)) = fun _ => (0 : Int32) := by
  funext j
  simp only [List.getD_eq_getElem?_getD, List.getElem?_replicate]
  split <;> rfl
theorem rep_funL (n : Nat) : (fun j => Int64.ofInt ((List.replicate n (0 : Int)).getD j 0)) = fun _ => (0 : Int64) := by
  funext j
  simp only [List.getD_eq_getElem?_getD, List.getElem?_replicate]
  split <;> rfl
/-- newarray -/
theorem pw_newa (C : Cx g p s m args meth c cc nL own ret) (hR : Rl g ad h s.heap H locs) {t : Nat} {n : Int} {atype : ArrayType} {ty : FieldType} (e1 : nwa h t n = some h') (harr : Cond.arrayClass ty ∈ TBg) (ht : (tysOf g)[t]? = some (g.2.1 t, ty)) (hk : (t = 0 ∧ ty = .int ∧ atype = .int) ∨ (t = 1 ∧ ty = .byte ∧ atype = .byte) ∨ (t = 2 ∧ ty = .boolean ∧ atype = .boolean) ∨ (t = 3 ∧ ty = .long ∧ atype = .long)) (hdg : decode cc pc = .ok (.newarray atype, 2)) (hc : cells + 1 ≤ R.cells) (hs : slots + n.toNat ≤ R.slots)
    (kk : ∀ (ad' : Nat → Nat) (H1 : Heap), (∀ k, k < h.length → ad' k = ad k) → Rl g ad' h' s.heap H1 locs → W p l e R s m args below meth c H1 locs (cells + 1) (slots + n.toNat) Q (F0 m (pc + 2) ls (.ref (ad' h.length) :: rest))) : W p l e R s m args below meth c H locs cells slots Q (F0 m pc ls (.int (Int32.ofInt n) :: rest)) := by
  unfold nwa at e1
  split at e1
  · rename_i hn
    cases e1
    obtain ⟨q1, q2⟩ := nat_n hn.1 hn.2
    have fin : ∀ (q : Nat) (cA : ClassId) (H1 : Heap) (x : vp_A), cv g ad (.inl (t, List.replicate n.toNat 0)) = .inl (g.2.1 t, x) → cA = g.2.1 t → va_P g.1 vwCl (wsOf g ad h ++ [(q, .inl (cA, x))]) H1 → va_D (gA g) (wsOf g ad h ++ [(q, .inl (cA, x))]) → va_S (gA g) s.heap H1 locs → W p l e R s m args below meth c H1 locs (cells + 1) (slots + n.toNat) Q (F0 m (pc + 2) ls (.ref q :: rest)) := by
      intro q cA H1 x ex ec h1 h2 h3
      subst ec
      rw [← ex] at h1 h2
      have hR1 := hR.push (q := q) (c0 := .inl (t, List.replicate n.toNat 0)) (wfH_app hR.2.2.2 (fun t fs e => by cases e) (fun q e => by cases e; rw [List.length_replicate]; omega)) (fun t fs e => by cases e) h1 h2 h3
      have := kk _ H1 (fun k hk => upA_lt hk) hR1
      rw [upA_eq] at this
      exact this
    rcases hk with ⟨rfl, rfl, rfl⟩ | ⟨rfl, rfl, rfl⟩ | ⟨rfl, rfl, rfl⟩ | ⟨rfl, rfl, rfl⟩
    · exact va_newa (atype := .int) (a0 := (n.toNat, .inl (fun _ => 0))) C.1 C.2.1 (C.2.2.2.2.1 _ harr) rfl C.2.2.2.2.2.1.1 hR.1 hR.2.1 hR.2.2.1 (pw_hA C) (fun cA => rfl) q2 q1 (by show n.toNat * 4 ≤ 536870912; omega) hc hs hdg (fun q cA H1 hK h1 h2 h3 => fin q cA H1 _ (by rw [cv_arr (by decide), rep_fun, List.length_replicate]) (RA_at C ht (by intro _ q; cases q) hK) h1 h2 h3)
    · exact va_newa (atype := .byte) (a0 := (n.toNat, .inl (fun _ => 0))) C.1 C.2.1 (C.2.2.2.2.1 _ harr) rfl C.2.2.2.2.2.1.1 hR.1 hR.2.1 hR.2.2.1 (pw_hA C) (fun cA => rfl) q2 q1 (by show n.toNat * 1 ≤ 536870912; omega) hc hs hdg (fun q cA H1 hK h1 h2 h3 => fin q cA H1 _ (by rw [cv_arr (by decide), rep_fun, List.length_replicate]) (RA_at C ht (by intro _ q; cases q) hK) h1 h2 h3)
    · exact va_newa (atype := .boolean) (a0 := (n.toNat, .inl (fun _ => 0))) C.1 C.2.1 (C.2.2.2.2.1 _ harr) rfl C.2.2.2.2.2.1.1 hR.1 hR.2.1 hR.2.2.1 (pw_hA C) (fun cA => rfl) q2 q1 (by show n.toNat * 1 ≤ 536870912; omega) hc hs hdg (fun q cA H1 hK h1 h2 h3 => fin q cA H1 _ (by rw [cv_arr (by decide), rep_fun, List.length_replicate]) (RA_at C ht (by intro _ q; cases q) hK) h1 h2 h3)
    · exact va_newa (atype := .long) (a0 := (n.toNat, .inr (.inl (fun _ => 0)))) C.1 C.2.1 (C.2.2.2.2.1 _ harr) rfl C.2.2.2.2.2.1.1 hR.1 hR.2.1 hR.2.2.1 (pw_hA C) (fun cA => rfl) q2 q1 (by show n.toNat * 8 ≤ 536870912; omega) hc hs hdg (fun q cA H1 hK h1 h2 h3 => fin q cA H1 _ (by rw [cv_arrL, rep_funL, List.length_replicate]) (RA_at C ht (by intro _ q; cases q) hK) h1 h2 h3)
  · cases e1
end PW
