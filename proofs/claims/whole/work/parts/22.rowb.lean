section PW
variable {p : Program} {l : Launch} {e : Env} {R : Room} {s : State} {m : MethodId} {args : Array Value} {below : List Frame} {meth : Method} {c : Code} {H : Heap} {locs : List Loc} {cells slots : Nat} {Q : State → Prop}
variable {cc : ByteArray} {pc : Nat} {ls : Array Slot} {rest : List Value} {g : GP} {ad : Nat → Nat} {h h' : PH} {own : String} {nL : Nat} {ret : Option FieldType}
/-- Object's constructor -/
theorem pw_oinit (C : Cx g p s m args meth c cc nL own ret) (hsz : ls.size = nL) {index a : Nat} (h1 : Cond.methodLink own index Lib.objectInit ∈ TBg) (h2 : Cond.instanceMethod Lib.objectInit ∈ TBg) (h3 : Cond.code Lib.objectInit ⟨#[0xb1]⟩ 1 none ∈ TBg) (hdg : decode cc pc = .ok (.invokespecial index, 3)) (hf : 1 ≤ R.frames) (hl : (rest.map fun v => v.category).sum + 12 ≤ R.locals)
    (kk : W p l e R s m args below meth c H locs cells slots Q (F0 m (pc + 3) ls rest)) : W p l e R s m args below meth c H locs cells slots Q (F0 m pc ls (.ref a :: rest)) :=
  W.objInit C.1 C.2.1 C.2.2.2.1 (C.2.2.2.2.1 _ h1) (C.2.2.2.2.1 _ h2) (C.2.2.2.2.1 _ h3) rfl (hsz.trans C.2.2.1.symm) rfl hdg hf (by show 2 * 0 + _ + 12 ≤ _; omega) kk
theorem repq_fun (ad : Nat → Nat) (n : Nat) : (fun j => rl ad ((List.replicate n (.inr none : PV)).getD j (.inr none))) = fun _ => none := by
  funext j
  simp only [List.getD_eq_getElem?_getD, List.getElem?_replicate]
  split <;> rfl
/-- new Machine[n] -/
theorem pw_newq (C : Cx g p s m args meth c cc nL own ret) (hR : Rl g ad h s.heap H locs) {n : Int} {index : Nat} (e1 : nwq h n = some h') (hcl : Cond.classLink own index "HardwareTaskQueue$Machine" ∈ TBg) (hdg : decode cc pc = .ok (.anewarray index, 3)) (hc : cells + 1 ≤ R.cells) (hs : slots + n.toNat ≤ R.slots)
    (kk : ∀ (ad' : Nat → Nat) (H1 : Heap), (∀ k, k < h.length → ad' k = ad k) → Rl g ad' h' s.heap H1 locs → W p l e R s m args below meth c H1 locs (cells + 1) (slots + n.toNat) Q (F0 m (pc + 3) ls (.ref (ad' h.length) :: rest))) : W p l e R s m args below meth c H locs cells slots Q (F0 m pc ls (.int (Int32.ofInt n) :: rest)) := by
  unfold nwq at e1
  split at e1
  · rename_i hn
    cases e1
    obtain ⟨q1, q2⟩ := nat_n hn.1 hn.2
    refine va_newq C.1 C.2.1 C.2.2.2.1 (C.2.2.2.2.1 _ hcl) C.2.2.2.2.2.1.2.1.2.1 C.2.2.2.2.2.1.1 hR.1 hR.2.1 hR.2.2.1 (pw_hA C) q2 q1 (by omega) hc hs hdg (fun q cA H1 hK h1 h2 h3 => ?_)
    have ec : cA = g.2.1 4 := by
      obtain ⟨-, -, -, -, -, k1⟩ := (C.2.2.2.2.2.1.1.2 4 (g.2.1 4, .object "HardwareTaskQueue$Machine") rfl).2
      obtain ⟨-, -, -, -, -, k2⟩ := (hK.2 (tysOf g).length (cA, .object "HardwareTaskQueue$Machine") (by rw [List.getElem?_append_right (Nat.le_refl _), Nat.sub_self]; rfl)).2
      rw [k1] at k2
      exact (Option.some.inj k2).symm
    subst ec
    have ecv : cv g ad (.inr (9, List.replicate n.toNat (.inr none))) = .inl (g.2.1 4, n.toNat, .inr (.inr (.inr (.inr (fun _ => none))))) := by
      rw [cv_ref (by decide), repq_fun, List.length_replicate]
    have nn : ∀ (t : Nat) (fs : List PV), (.inr (9, List.replicate n.toNat (.inr none)) : PC) = .inr (t, fs) → ∀ a : Nat, (.inr (some a) : PV) ∈ fs → False := by
      intro t fs e a ha
      cases e
      have := (List.mem_replicate.mp ha).2
      cases this
    have hR1 := hR.push (q := q) (c0 := .inr (9, List.replicate n.toNat (.inr none))) (wfH_app hR.2.2.2 (fun t fs e a ha => (nn t fs e a ha).elim) (fun q e => by cases e)) (fun t fs e a ha => (nn t fs e a ha).elim) (by rw [ecv]; exact h1) (by rw [ecv]; exact h2) h3
    have := kk _ H1 (fun k hk => upA_lt hk) hR1
    rw [upA_eq] at this
    exact this
  · cases e1
/-- aastore of a Machine -/
def rst (h : PH) (a : Nat) (i : Int) (v : Nat) : Option PH := match h[a]?, h[v]? with
  | some (.inr q), some (.inr r) => if (q.1 = 9 ∧ r.1 = 3) ∧ (0 ≤ i ∧ i < 4000) ∧ i < (q.2.length : Int) ∧ v < h.length then some (h.set a (.inr (9, q.2.set i.toNat (.inr (some v))))) else none
  | _, _ => none
theorem rst_spec {a v : Nat} {i : Int} (e : rst h a i v = some h') : ∃ fs vs : List PV, h[a]? = some (.inr (9, fs)) ∧ h[v]? = some (.inr (3, vs)) ∧ (0 ≤ i ∧ i < 4000) ∧ i < (fs.length : Int) ∧ v < h.length ∧ h' = h.set a (.inr (9, fs.set i.toNat (.inr (some v)))) := by
  unfold rst at e
  split at e
  · rename_i q r hq hr
    split at e
    · rename_i h0
      obtain ⟨t1, fs⟩ := q
      obtain ⟨t2, vs⟩ := r
      obtain ⟨⟨h1, h2⟩, h3, h4, h5⟩ := h0
      cases h1
      cases h2
      cases e
      exact ⟨fs, vs, hq, hr, h3, h4, h5, rfl⟩
    · cases e
  · cases e
theorem pw_rast (C : Cx g p s m args meth c cc nL own ret) (hR : Rl g ad h s.heap H locs) {a v : Nat} {i : Int} (e1 : rst h a i v = some h') (hdg : decode cc pc = .ok (.aastore, 1))
    (kk : ∀ (H1 : Heap) (locs1 : List Loc), Rl g ad h' s.heap H1 locs1 → W p l e R s m args below meth c H1 locs1 cells slots Q (F0 m (pc + 1) ls rest)) : W p l e R s m args below meth c H locs cells slots Q (F0 m pc ls (.ref (ad v) :: .int (Int32.ofInt i) :: .ref (ad a) :: rest)) := by
  obtain ⟨fs, vs, g1, g2, ⟨g3, g4⟩, g5, g6, rfl⟩ := rst_spec e1
  have hw := wsOf_get (g := g) (ad := ad) g1
  rw [cv_ref (by decide)] at hw
  have hv := wsOf_get (g := g) (ad := ad) g2
  simp only [cv, if_pos (show 3 < 9 by decide)] at hv
  obtain ⟨q1, q2⟩ := vp_in_o32b g3 (by omega) g5
  refine va_astq C.1 C.2.1 C.2.2.2.2.2.1.1 hR.1 hR.2.1 hR.2.2.1 a 4 v 3 (r := (RX3, TX3, 4)) hw rfl hv rfl q1 hdg (fun H1 locs1 h1 h2 h3 => ?_)
  have ef : va_up (fun j => rl ad (fs.getD j (.inr none))) i.toNat (some (ad v)) = fun j => rl ad ((fs.set i.toNat (.inr (some v))).getD j (.inr none)) := by
    funext j
    unfold va_up
    by_cases hj : j = i.toNat
    · subst hj
      have hlt : i.toNat < fs.length := by omega
      simp [List.getD_eq_getElem?_getD, hlt, rl]
    · rw [if_neg hj]
      simp [List.getD_eq_getElem?_getD, List.getElem?_set_ne (Ne.symm hj)]
  rw [q2, ef] at h1 h2
  refine kk H1 locs1 (hR.mk1 (wfH_set_fld hR.2.2.2 g1 (fun x e => by cases e; exact g6)) ?_ ?_ h3)
  · rw [cv_ref (by decide), List.length_set]; exact h1
  · rw [cv_ref (by decide), List.length_set]; exact h2
/-- a constructor that makes cells -/
theorem pw_cIA {y : MethodName} {b : ByteArray} {maxL n index o : Nat} {rm : Room} {As st0 : List Value} (C : Cx g p s m args meth c cc nL own ret) (hR : Rl g ad h s.heap H locs)
    (S : Cond.methodLink own index y ∈ TBg ∧ Cond.instanceMethod y ∈ TBg ∧ Cond.initialized y.cls ∈ TBg ∧ Cond.code y b maxL none ∈ TBg ∧ y.name = "<init>" ∧ y.cls ≠ "java/lang/invoke/MethodHandle" ∧ y.cls ≠ "java/lang/invoke/VarHandle" ∧ (parseMethodDescriptor y.desc).map (fun d => d.parameters.length) = some n)
    (hM : CA g l y b maxL none rm ad h (.ref (ad o) :: As) (fun _ => none) h') (hn : As.length = n) (hsz : ls.size = nL) (hst : st0 = As.reverse ++ .ref (ad o) :: rest) (hroom : rm.frames + 1 ≤ R.frames ∧ 8 + (maxL + 11) + rm.locals ≤ R.locals) (hcat : (rest.map fun v => v.category).sum ≤ 8) (hdg : decode cc pc = .ok (.invokespecial index, 3)) (hf : cells + rm.cells ≤ R.cells ∧ slots + rm.slots ≤ R.slots)
    (kk : ∀ (ad' : Nat → Nat) (H1 : Heap) (locs1 : List Loc), (∀ k, k < h.length → ad' k = ad k) → Rl g ad' h' s.heap H1 locs1 → W p l e R s m args below meth c H1 locs1 (cells + rm.cells) (slots + rm.slots) Q (F0 m (pc + 3) ls rest)) : W p l e R s m args below meth c H locs cells slots Q (F0 m pc ls st0) :=
  pw_callA hR (pw_runI C hR S hM hn hsz hst hroom hcat hdg hf) kk
theorem pw_cINA {y : MethodName} {b : ByteArray} {maxL n index o : Nat} {rm : Room} {As st0 : List Value} (C : Cx g p s m args meth c cc nL own ret) (hR : Rl g ad h s.heap H locs) (hq : (own, index, y) ∈ nstW)
    (S : Cond.instanceMethod y ∈ TBg ∧ Cond.initialized y.cls ∈ TBg ∧ Cond.code y b maxL none ∈ TBg ∧ y.name = "<init>" ∧ y.cls ≠ "java/lang/invoke/MethodHandle" ∧ y.cls ≠ "java/lang/invoke/VarHandle" ∧ (parseMethodDescriptor y.desc).map (fun d => d.parameters.length) = some n)
    (hM : CA g l y b maxL none rm ad h (.ref (ad o) :: As) (fun _ => none) h') (hn : As.length = n) (hsz : ls.size = nL) (hst : st0 = As.reverse ++ .ref (ad o) :: rest) (hroom : rm.frames + 1 ≤ R.frames ∧ 8 + (maxL + 11) + rm.locals ≤ R.locals) (hcat : (rest.map fun v => v.category).sum ≤ 8) (hdg : decode cc pc = .ok (.invokespecial index, 3)) (hf : cells + rm.cells ≤ R.cells ∧ slots + rm.slots ≤ R.slots)
    (kk : ∀ (ad' : Nat → Nat) (H1 : Heap) (locs1 : List Loc), (∀ k, k < h.length → ad' k = ad k) → Rl g ad' h' s.heap H1 locs1 → W p l e R s m args below meth c H1 locs1 (cells + rm.cells) (slots + rm.slots) Q (F0 m (pc + 3) ls rest)) : W p l e R s m args below meth c H locs cells slots Q (F0 m pc ls st0) :=
  pw_callA hR (pw_runIN C hR hq S hM hn hsz hst hroom hcat hdg hf) kk
theorem pw_qA {ad0 : Nat → Nat} {h0 : PH} (hA : ∀ k, k < h0.length → ad k = ad0 k) (hR : Rl g ad h s.heap H locs) {rv : Option Value} {a : Array Value} : ∀ t : State, t.heap = H → s.WarmedH t.vm → QcA g ad0 h0 h (fun _ => rv) a s (.returned rv) t := fun t ht _ => ⟨ad, hA, rfl, ⟨by rw [ht]; exact hR.1, hR.2.1, hR.2.2.2⟩, hR.2.2.1.F ht⟩
theorem pw_vretA {ad0 : Nat → Nat} {h0 : PH} {mc ms : Nat} (C : Cx g p s m args meth c cc nL own none) (hA : ∀ k, k < h0.length → ad k = ad0 k) (hR : Rl g ad h s.heap H locs) (hc : cells ≤ mc) (hs : slots ≤ ms) (hdg : decode cc pc = .ok (.return_, 1)) : W p l e R s m args below meth c H locs cells slots (MQ below (QcA g ad0 h0 h (fun _ => none)) args s mc ms (gA g)) (F0 m pc ls []) :=
  W.widen hc hs (W.vret C.1 C.2.1 C.2.2.2.2.2.2.2 (pw_qA hA hR) hR.2.2.1.2.2 hdg C.2.2.2.2.2.2.1)
theorem pw_zretA {ad0 : Nat → Nat} {h0 : PH} {mc ms : Nat} (C : Cx g p s m args meth c cc nL own (some .boolean)) (hA : ∀ k, k < h0.length → ad k = ad0 k) (hR : Rl g ad h s.heap H locs) {x : Int} (hx : x = 0 ∨ x = 1) (hc : cells ≤ mc) (hs : slots ≤ ms) (hdg : decode cc pc = .ok (.ireturn, 1)) : W p l e R s m args below meth c H locs cells slots (MQ below (QcA g ad0 h0 h (fun _ => some (.int (Int32.ofInt x)))) args s mc ms (gA g)) (F0 m pc ls [.int (Int32.ofInt x)]) :=
  W.widen hc hs (W.zret C.1 C.2.1 C.2.2.2.2.2.2.2 (nar_boolv hx) (pw_qA hA hR) hR.2.2.1.2.2 hdg C.2.2.2.2.2.2.1)
def upM (ad : Nat → Nat) (n q : Nat) (r : Nat → Nat) : Nat → Nat := fun j => if j < n then ad j else if j = n then q else r (j - n - 1)
theorem inner_ok (c : ClassId) (K : Nat) : Jvm.Free.Multi.innerC c K (defaultValue .int) = vp_cell c (K, .inl (fun _ => 0)) := by
  rw [vp_cell_i]
  exact arrV_new c K _
/-- new int[8][n] -/
theorem pw_mna (C : Cx g p s m args meth c cc nL own ret) (hR : Rl g ad h s.heap H locs) {index : Nat} {n : Int} (e1 : nwm h n = some h') (hcl : Cond.classLink own index "[[I" ∈ TBg) (harr : Cond.arrayClass .int ∈ TBg) (hdg : decode cc pc = .ok (.multianewarray index 2, 4)) (hc : cells + 9 ≤ R.cells) (hs : slots + (8 + 8 * n.toNat) ≤ R.slots)
    (kk : ∀ (ad' : Nat → Nat) (H1 : Heap), (∀ k, k < h.length → ad' k = ad k) → Rl g ad' h' s.heap H1 locs → W p l e R s m args below meth c H1 locs (cells + 9) (slots + (8 + 8 * n.toNat)) Q (F0 m (pc + 4) ls (.ref (ad' h.length) :: rest))) : W p l e R s m args below meth c H locs cells slots Q (F0 m pc ls (.int (Int32.ofInt n) :: .int (Int32.ofInt 8) :: rest)) := by
  unfold nwm at e1
  split at e1
  · rename_i hn
    cases e1
    obtain ⟨nq1, nq2⟩ := nat_n hn.1 hn.2
    have hK4 : n.toNat ≤ 4000 := by omega
    generalize n.toNat = K at *
    have hcy : s.vm.findClass (FieldType.array .int).toString = some (g.2.1 0) := (C.2.2.2.2.2.1.1.2 0 (g.2.1 0, .int) rfl).2
    refine va_mna (X := wsOf g ad h) (L := []) (f := fun _ => .inr (0, [])) (ty := .int) (N' := 8) (K' := K) (z := (K, .inl (fun _ => 0))) C.1 C.2.1 C.2.2.2.1 (C.2.2.2.2.1 _ hcl) C.2.2.2.2.2.1.2.1.2.2 (C.2.2.2.2.1 _ harr) hcy C.2.2.2.2.2.1.1 (by simpa [va_pl] using hR.1) (by simpa [va_pl] using hR.2.1) hR.2.2.1 (pw_hA C) (by decide) nq2 (by decide) nq1 (by decide) (by show K * 4 ≤ 536870912; omega) (by omega) rfl rfl hc hs (fun c => inner_ok c K) hdg (fun q r cA H1 hr1 hr2 hK h1 h2 h3 => ?_)
    have ec : cA = g.2.1 5 := RA_at (t := 5) C rfl (by intro _ q; cases q) hK
    subst ec
    have hlist : va_pl ([] ++ (List.range 8).map r) (vr_up (fun _ => .inr (0, [])) ((List.range 8).map r) (.inl (g.2.1 0, K, .inl (fun _ => 0)))) = (List.range 8).map (fun i => (r i, (.inl (g.2.1 0, K, .inl (fun _ => 0)) : va_E))) := by
      rw [List.nil_append]
      unfold va_pl
      rw [List.map_map]
      apply List.map_congr_left
      intro i hi
      show (r i, vr_up _ _ _ (r i)) = _
      rw [vr_up_in (List.mem_map_of_mem hi)]
    rw [hlist] at h1 h2
    have hag : ∀ k, k < h.length → upM ad h.length q r k = ad k := fun k hk => if_pos hk
    have eh : (h ++ .inr (10, (List.range 8).map (fun i => .inr (some (h.length + 1 + i)))) :: List.replicate 8 (.inl (0, List.replicate K 0)) : PH) = (h ++ [.inr (10, (List.range 8).map (fun i => .inr (some (h.length + 1 + i))))]) ++ List.replicate 8 (.inl (0, List.replicate K 0)) := List.append_cons _ _ _
    have ews : wsOf g (upM ad h.length q r) (h ++ .inr (10, (List.range 8).map (fun i => .inr (some (h.length + 1 + i)))) :: List.replicate 8 (.inl (0, List.replicate K 0))) = (wsOf g ad h ++ [(q, .inl (g.2.1 5, 8, .inr (.inr (.inr (.inr (fun i => if i < 8 then some (r i) else none))))))]) ++ (List.range 8).map (fun i => (r i, (.inl (g.2.1 0, K, .inl (fun _ => 0)) : va_E))) := by
      rw [eh]
      have e2 : wsOf g (upM ad h.length q r) (h ++ [.inr (10, (List.range 8).map (fun i => .inr (some (h.length + 1 + i))))]) = wsOf g ad h ++ [(q, .inl (g.2.1 5, 8, .inr (.inr (.inr (.inr (fun i => if i < 8 then some (r i) else none))))))] := by
        rw [wsOf_app, wsOf_ext hR.2.2.2 hag]
        congr 2
        rw [cv_ref (by decide)]
        have e3 : upM ad h.length q r h.length = q := by simp [upM]
        rw [e3]
        congr 4
        have e4 : (fun j => rl (upM ad h.length q r) (((List.range 8).map (fun i => (.inr (some (h.length + 1 + i)) : PV))).getD j (.inr none))) = fun i => if i < 8 then some (r i) else none := by
          funext j
          by_cases hj : j < 8
          · rw [if_pos hj]
            simp only [List.getD_eq_getElem?_getD, List.getElem?_map, List.getElem?_range hj, Option.map_some, Option.getD_some]
            simp only [rl, upM]
            rw [if_neg (by omega), if_neg (by omega), show h.length + 1 + j - h.length - 1 = j by omega]
          · rw [if_neg hj]
            have : (List.range 8)[j]? = none := by rw [List.getElem?_eq_none_iff, List.length_range]; omega
            simp only [List.getD_eq_getElem?_getD, List.getElem?_map, this]
            rfl
        rw [e4]
        try rfl
      unfold wsOf at e2 ⊢
      rw [List.mapIdx_append, e2]
      congr 1
      apply List.ext_getElem?
      intro i
      simp only [List.getElem?_mapIdx, List.getElem?_replicate, List.getElem?_map]
      by_cases hi : i < 8
      · rw [if_pos hi, List.getElem?_range hi]
        simp only [Option.map_some, List.length_append, List.length_singleton]
        rw [cv_arr (by decide), rep_fun, List.length_replicate]
        congr 2
        simp only [upM]
        rw [if_neg (by omega), if_neg (by omega)]
        congr 1
        omega
      · rw [if_neg hi]
        have : (List.range 8)[i]? = none := by rw [List.getElem?_eq_none_iff, List.length_range]; omega
        rw [this]
        rfl
    have hwf : wfH (h ++ .inr (10, (List.range 8).map (fun i => .inr (some (h.length + 1 + i)))) :: List.replicate 8 (.inl (0, List.replicate K 0))) := by
      refine ⟨fun k t fs e a ha => ?_, fun k q e => ?_⟩
      · simp only [List.length_append, List.length_cons, List.length_replicate]
        rcases List.mem_append.mp (List.mem_of_getElem? e) with hm | hm
        · obtain ⟨i, hi⟩ := List.getElem?_of_mem hm
          have := hR.2.2.2.1 i t fs hi a ha
          omega
        · rcases List.mem_cons.mp hm with hm | hm
          · cases hm
            obtain ⟨i, hi, ei⟩ := List.mem_map.mp ha
            have := List.mem_range.mp hi
            cases ei
            omega
          · have := (List.mem_replicate.mp hm).2
            cases this
      · rcases List.mem_append.mp (List.mem_of_getElem? e) with hm | hm
        · obtain ⟨i, hi⟩ := List.getElem?_of_mem hm
          exact hR.2.2.2.2 i q hi
        · rcases List.mem_cons.mp hm with hm | hm
          · cases hm
          · have := (List.mem_replicate.mp hm).2
            cases this
            rw [List.length_replicate]
            omega
    have := kk (upM ad h.length q r) H1 hag ⟨by rw [ews]; exact h1, by rw [ews]; exact h2, h3, hwf⟩
    rw [show upM ad h.length q r h.length = q by simp [upM], show cells + 9 = cells + 1 + 8 by omega, show slots + (8 + 8 * K) = slots + 8 + 8 * K by omega] at this
    exact this
  · cases e1
end PW
def QcTA (g : GP) (ad0 : Nat → Nat) (h0 : PH) (k : Nat) (h' : PH) (rv : Option Value) : Array Value → State → Outcome → State → Prop := fun a st o t => k = 0 ∧ QcA g ad0 h0 h' (fun _ => rv) a st o t
def XcTA (g : GP) (ad0 : Nat → Nat) (h0 : PH) (k : Nat) (h' : PH) : String → State → State → Prop := fun E st t => ∃ ad' : Nat → Nat, (∀ j, j < h0.length → ad' j = ad0 j) ∧ XcT g ad' k h' E st t
theorem vx_monoX {p : Program} {l : Launch} {e : Env} {R : Room} {s : State} {m : MethodId} {args : Array Value} {below : List Frame} {meth : Method} {c : Code} {H : Heap} {locs : List Loc} {cells slots mc ms : Nat} {Qc : Array Value → State → Outcome → State → Prop} {XC XC' : String → State → State → Prop} {free : Addr → Prop} {f : JFrame} (hm : ∀ E st t, XC E st t → XC' E st t)
    (k : W p l e R s m args below meth c H locs cells slots (vx_MQ below Qc XC args s mc ms free) f) : W p l e R s m args below meth c H locs cells slots (vx_MQ below Qc XC' args s mc ms free) f := by
  intro T hT X
  obtain ⟨t, a1, o, b1, b2, b3⟩ := k T hT X
  refine ⟨t, a1, o, b1, b2, ?_⟩
  rcases b3 with b3 | ⟨q, rfl, E, ce, L, hx, hr⟩
  · exact Or.inl b3
  · exact Or.inr ⟨q, rfl, E, ce, L, hm _ _ _ hx, hr⟩
abbrev CTA (g : GP) (l : Launch) (y : MethodName) (cc : ByteArray) (maxL : Nat) (ret : Option FieldType) (rm : Room) (ad : Nat → Nat) (h : PH) (av : List Value) (k : Nat) (rv : Option Value) (h' : PH) : Prop :=
  vx_Met l y (Cond.code y cc maxL ret :: TBg) rm (PcN g ad h av) (QcTA g ad h k h' rv) (XcTA g ad h k h') rm.cells rm.slots (gA g)
section PW
variable {p : Program} {l : Launch} {e : Env} {R : Room} {s : State} {m : MethodId} {args : Array Value} {below : List Frame} {meth : Method} {c : Code} {H : Heap} {locs : List Loc} {cells slots : Nat} {Q : State → Prop}
variable {cc : ByteArray} {pc : Nat} {ls : Array Slot} {rest : List Value} {g : GP} {ad : Nat → Nat} {h h' : PH} {own : String} {nL : Nat} {ret : Option FieldType}
theorem pw_iretTA {ad0 : Nat → Nat} {h0 : PH} {XC : String → State → State → Prop} {mc ms : Nat} (C : Cx g p s m args meth c cc nL own (some .int)) (hA : ∀ k, k < h0.length → ad k = ad0 k) (hR : Rl g ad h s.heap H locs) {x : Int} (hc : cells ≤ mc) (hs : slots ≤ ms) (hdg : decode cc pc = .ok (.ireturn, 1)) : W p l e R s m args below meth c H locs cells slots (vx_MQ below (QcTA g ad0 h0 0 h (some (.int (Int32.ofInt x)))) XC args s mc ms (gA g)) (F0 m pc ls [.int (Int32.ofInt x)]) :=
  W.widen hc hs (vx_ret (W.iret C.1 C.2.1 C.2.2.2.2.2.2.2 (fun t ht hW => ⟨rfl, pw_qA hA hR t ht hW⟩) hR.2.2.1.2.2 hdg C.2.2.2.2.2.2.1))
/-- a virtual call that makes cells and answers an int -/
theorem pw_cVAi {y : MethodName} {b : ByteArray} {maxL n index ci o : Nat} {fs : List PV} {r : Option FieldType} {rm : Room} {x : Int} {As st0 : List Value} (C : Cx g p s m args meth c cc nL own ret) (hR : Rl g ad h s.heap H locs) (S : VlP own index y b maxL r n ci) (ho : h[o]? = some (.inr (ci, fs))) (hM : CA g l y b maxL r rm ad h (.ref (ad o) :: As) (fun _ => some (.int (Int32.ofInt x))) h') (hn : As.length = n) (hsz : ls.size = nL) (hst : st0 = As.reverse ++ .ref (ad o) :: rest) (hroom : rm.frames + 1 ≤ R.frames ∧ 8 + (maxL + 11) + rm.locals ≤ R.locals) (hcat : (rest.map fun v => v.category).sum ≤ 8) (hdg : decode cc pc = .ok (.invokevirtual index, 3)) (hf : cells + rm.cells ≤ R.cells ∧ slots + rm.slots ≤ R.slots)
    (kk : ∀ (ad' : Nat → Nat) (H1 : Heap) (locs1 : List Loc), (∀ k, k < h.length → ad' k = ad k) → Rl g ad' h' s.heap H1 locs1 → W p l e R s m args below meth c H1 locs1 (cells + rm.cells) (slots + rm.slots) Q (F0 m (pc + 3) ls (.int (Int32.ofInt x) :: rest))) : W p l e R s m args below meth c H locs cells slots Q (F0 m pc ls st0) :=
  pw_callA hR (pw_runV C hR S ho hM hn hsz hst hroom hcat hdg hf) kk
end PW
