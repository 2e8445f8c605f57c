section PW
variable {p : Program} {l : Launch} {e : Env} {R : Room} {s : State} {m : MethodId} {args : Array Value} {below : List Frame} {meth : Method} {c : Code} {H : Heap} {locs : List Loc} {cells slots : Nat} {Q : State → Prop}
variable {cc : ByteArray} {pc : Nat} {ls : Array Slot} {rest : List Value} {g : GP} {ad : Nat → Nat} {h h' : PH} {own : String} {nL : Nat} {ret : Option FieldType}
theorem cv_arr {g : GP} {ad : Nat → Nat} {t : Nat} {xs : List Int} (ht : t ≠ 3) : cv g ad (.inl (t, xs)) = .inl (g.2.1 t, xs.length, .inl (fun j => Int32.ofInt (xs.getD j 0))) := by simp [cv, ht]
theorem cv_arrL {g : GP} {ad : Nat → Nat} {xs : List Int} : cv g ad (.inl (3, xs)) = .inl (g.2.1 3, xs.length, .inr (.inl (fun j => Int64.ofInt (xs.getD j 0)))) := by simp [cv]
theorem getD_of {xs : List Int} {n : Nat} {x : Int} (h : xs[n]? = some x) : xs.getD n 0 = x := by simp [List.getD, h]
theorem upd_set {xs : List Int} {n : Nat} (hn : n < xs.length) (x : Int) : upd (fun j => Int32.ofInt (xs.getD j 0)) n (Int32.ofInt x) = fun j => Int32.ofInt ((xs.set n x).getD j 0) := by
  funext j
  unfold upd
  by_cases hj : j = n
  · subst hj
    simp [List.getD, hn]
  · rw [if_neg hj]
    simp [List.getD, List.getElem?_set_ne (Ne.symm hj)]
theorem updL_set {xs : List Int} {n : Nat} (hn : n < xs.length) (x : Int) : vp_updL (fun j => Int64.ofInt (xs.getD j 0)) n (Int64.ofInt x) = fun j => Int64.ofInt ((xs.set n x).getD j 0) := by
  funext j
  unfold vp_updL
  by_cases hj : j = n
  · subst hj
    simp [List.getD, hn]
  · rw [if_neg hj]
    simp [List.getD, List.getElem?_set_ne (Ne.symm hj)]
/-- iaload -/
theorem pw_iald (C : Cx g p s m args meth c cc nL own ret) (hR : Rl g ad h s.heap H locs) {a : Nat} {i x : Int} (e1 : ald 0 h a i = some x) (hdg : decode cc pc = .ok (.iaload, 1))
    (kk : W p l e R s m args below meth c H locs cells slots Q (F0 m (pc + 1) ls (.int (Int32.ofInt x) :: rest))) : W p l e R s m args below meth c H locs cells slots Q (F0 m pc ls (.int (Int32.ofInt i) :: .ref (ad a) :: rest)) := by
  obtain ⟨xs, g1, g2, g3, g4⟩ := ald_spec e1
  have hl := hR.2.2.2.2 a _ g1
  have hw := wsOf_get (g := g) (ad := ad) g1
  rw [cv_arr (by decide)] at hw
  refine va_iald C.1 C.2.1 C.2.2.2.2.2.1.1 hR.1 a 0 hw rfl (vp_in_o32 g2 g3 hl) hdg ?_
  rw [nat_o32 g2 g3 hl, getD_of g4]
  exact kk
/-- baload of bytes -/
theorem pw_bald (C : Cx g p s m args meth c cc nL own ret) (hR : Rl g ad h s.heap H locs) {a : Nat} {i x : Int} (e1 : ald 1 h a i = some x) (hdg : decode cc pc = .ok (.baload, 1))
    (kk : W p l e R s m args below meth c H locs cells slots Q (F0 m (pc + 1) ls (.int (Int32.ofInt x) :: rest))) : W p l e R s m args below meth c H locs cells slots Q (F0 m pc ls (.int (Int32.ofInt i) :: .ref (ad a) :: rest)) := by
  obtain ⟨xs, g1, g2, g3, g4⟩ := ald_spec e1
  have hl := hR.2.2.2.2 a _ g1
  have hw := wsOf_get (g := g) (ad := ad) g1
  rw [cv_arr (by decide)] at hw
  refine va_bald C.1 C.2.1 C.2.2.2.2.2.1.1 hR.1 a 1 hw rfl (vp_in_o32 g2 g3 hl) hdg ?_
  rw [nat_o32 g2 g3 hl, getD_of g4]
  exact kk
/-- baload of booleans -/
theorem pw_zald (C : Cx g p s m args meth c cc nL own ret) (hR : Rl g ad h s.heap H locs) {a : Nat} {i x : Int} (e1 : ald 2 h a i = some x) (hdg : decode cc pc = .ok (.baload, 1))
    (kk : W p l e R s m args below meth c H locs cells slots Q (F0 m (pc + 1) ls (.int (Int32.ofInt x) :: rest))) : W p l e R s m args below meth c H locs cells slots Q (F0 m pc ls (.int (Int32.ofInt i) :: .ref (ad a) :: rest)) := by
  obtain ⟨xs, g1, g2, g3, g4⟩ := ald_spec e1
  have hl := hR.2.2.2.2 a _ g1
  have hw := wsOf_get (g := g) (ad := ad) g1
  rw [cv_arr (by decide)] at hw
  refine va_zald C.1 C.2.1 C.2.2.2.2.2.1.1 hR.1 a 2 hw rfl (vp_in_o32 g2 g3 hl) hdg ?_
  rw [nat_o32 g2 g3 hl, getD_of g4]
  exact kk
/-- laload -/
theorem pw_lald (C : Cx g p s m args meth c cc nL own ret) (hR : Rl g ad h s.heap H locs) {a : Nat} {i x : Int} (e1 : ald 3 h a i = some x) (hdg : decode cc pc = .ok (.laload, 1))
    (kk : W p l e R s m args below meth c H locs cells slots Q (F0 m (pc + 1) ls (.long (Int64.ofInt x) :: rest))) : W p l e R s m args below meth c H locs cells slots Q (F0 m pc ls (.int (Int32.ofInt i) :: .ref (ad a) :: rest)) := by
  obtain ⟨xs, g1, g2, g3, g4⟩ := ald_spec e1
  have hl := hR.2.2.2.2 a _ g1
  have hw := wsOf_get (g := g) (ad := ad) g1
  rw [cv_arrL] at hw
  refine va_lald C.1 C.2.1 C.2.2.2.2.2.1.1 hR.1 a 3 hw rfl (vp_in_o32 g2 g3 hl) hdg ?_
  rw [nat_o32 g2 g3 hl, getD_of g4]
  exact kk
/-- iastore -/
theorem pw_iast (C : Cx g p s m args meth c cc nL own ret) (hR : Rl g ad h s.heap H locs) {a : Nat} {i x : Int} (e1 : ast 0 h a i x = some h') (hdg : decode cc pc = .ok (.iastore, 1))
    (kk : ∀ (H1 : Heap) (locs1 : List Loc), Rl g ad h' s.heap H1 locs1 → W p l e R s m args below meth c H1 locs1 cells slots Q (F0 m (pc + 1) ls rest)) : W p l e R s m args below meth c H locs cells slots Q (F0 m pc ls (.int (Int32.ofInt x) :: .int (Int32.ofInt i) :: .ref (ad a) :: rest)) := by
  obtain ⟨xs, g1, ⟨g2, g3⟩, -, -, rfl⟩ := ast_spec e1
  have hl := hR.2.2.2.2 a _ g1
  have hw := wsOf_get (g := g) (ad := ad) g1
  rw [cv_arr (by decide)] at hw
  refine va_iast C.1 C.2.1 C.2.2.2.2.2.1.1 hR.1 hR.2.1 hR.2.2.1 a 0 hw rfl (vp_in_o32 g2 g3 hl) hdg (fun H1 locs1 h1 h2 h3 => ?_)
  rw [nat_o32 g2 g3 hl, upd_set (by omega)] at h1 h2
  refine kk H1 locs1 (hR.mk1 (wfH_set_arr hR.2.2.2 (by simpa using hl)) ?_ ?_ h3)
  · rw [cv_arr (by decide), List.length_set]; exact h1
  · rw [cv_arr (by decide), List.length_set]; exact h2
/-- lastore -/
theorem pw_last (C : Cx g p s m args meth c cc nL own ret) (hR : Rl g ad h s.heap H locs) {a : Nat} {i x : Int} (e1 : ast 3 h a i x = some h') (hdg : decode cc pc = .ok (.lastore, 1))
    (kk : ∀ (H1 : Heap) (locs1 : List Loc), Rl g ad h' s.heap H1 locs1 → W p l e R s m args below meth c H1 locs1 cells slots Q (F0 m (pc + 1) ls rest)) : W p l e R s m args below meth c H locs cells slots Q (F0 m pc ls (.long (Int64.ofInt x) :: .int (Int32.ofInt i) :: .ref (ad a) :: rest)) := by
  obtain ⟨xs, g1, ⟨g2, g3⟩, -, -, rfl⟩ := ast_spec e1
  have hl := hR.2.2.2.2 a _ g1
  have hw := wsOf_get (g := g) (ad := ad) g1
  rw [cv_arrL] at hw
  refine va_last C.1 C.2.1 C.2.2.2.2.2.1.1 hR.1 hR.2.1 hR.2.2.1 a 3 hw rfl (vp_in_o32 g2 g3 hl) hdg (fun H1 locs1 h1 h2 h3 => ?_)
  rw [nat_o32 g2 g3 hl, updL_set (by omega)] at h1 h2
  refine kk H1 locs1 (hR.mk1 (wfH_set_arr hR.2.2.2 (by simpa using hl)) ?_ ?_ h3)
  · rw [cv_arrL, List.length_set]; exact h1
  · rw [cv_arrL, List.length_set]; exact h2
theorem nar_byte {x : Int} (h1 : -128 ≤ x) (h2 : x < 128) : vp_nar .byte (Int32.ofInt x) = Int32.ofInt x := by
  have : ∀ n : Nat, n < 256 → vp_nar .byte (Int32.ofInt ((n : Int) - 128)) = Int32.ofInt ((n : Int) - 128) := by decide +kernel
  have h := this (x + 128).toNat (by omega)
  rw [show (((x + 128).toNat : Nat) : Int) - 128 = x by omega] at h
  exact h
theorem nar_bool {x : Int} (h1 : 0 ≤ x) (h2 : x < 2) : vp_nar .boolean (Int32.ofInt x) = Int32.ofInt x := by
  rcases (show x = 0 ∨ x = 1 by omega) with rfl | rfl
  · decide +kernel
  · decide +kernel
/-- bastore of bytes -/
theorem pw_bast (C : Cx g p s m args meth c cc nL own ret) (hR : Rl g ad h s.heap H locs) {a : Nat} {i x : Int} (e1 : ast 1 h a i x = some h') (hdg : decode cc pc = .ok (.bastore, 1))
    (kk : ∀ (H1 : Heap) (locs1 : List Loc), Rl g ad h' s.heap H1 locs1 → W p l e R s m args below meth c H1 locs1 cells slots Q (F0 m (pc + 1) ls rest)) : W p l e R s m args below meth c H locs cells slots Q (F0 m pc ls (.int (Int32.ofInt x) :: .int (Int32.ofInt i) :: .ref (ad a) :: rest)) := by
  obtain ⟨xs, g1, ⟨g2, g3⟩, hx, -, rfl⟩ := ast_spec e1
  have hl := hR.2.2.2.2 a _ g1
  have hw := wsOf_get (g := g) (ad := ad) g1
  rw [cv_arr (by decide)] at hw
  refine va_bast C.1 C.2.1 C.2.2.2.2.2.1.1 hR.1 hR.2.1 hR.2.2.1 a 1 hw rfl (vp_in_o32 g2 g3 hl) hdg (fun H1 locs1 h1 h2 h3 => ?_)
  rw [nar_byte (hx rfl).1 (hx rfl).2, nat_o32 g2 g3 hl, upd_set (by omega)] at h1 h2
  refine kk H1 locs1 (hR.mk1 (wfH_set_arr hR.2.2.2 (by simpa using hl)) ?_ ?_ h3)
  · rw [cv_arr (by decide), List.length_set]; exact h1
  · rw [cv_arr (by decide), List.length_set]; exact h2
/-- bastore of booleans -/
theorem pw_zast (C : Cx g p s m args meth c cc nL own ret) (hR : Rl g ad h s.heap H locs) {a : Nat} {i x : Int} (e1 : ast 2 h a i x = some h') (hdg : decode cc pc = .ok (.bastore, 1))
    (kk : ∀ (H1 : Heap) (locs1 : List Loc), Rl g ad h' s.heap H1 locs1 → W p l e R s m args below meth c H1 locs1 cells slots Q (F0 m (pc + 1) ls rest)) : W p l e R s m args below meth c H locs cells slots Q (F0 m pc ls (.int (Int32.ofInt x) :: .int (Int32.ofInt i) :: .ref (ad a) :: rest)) := by
  obtain ⟨xs, g1, ⟨g2, g3⟩, -, hx, rfl⟩ := ast_spec e1
  have hl := hR.2.2.2.2 a _ g1
  have hw := wsOf_get (g := g) (ad := ad) g1
  rw [cv_arr (by decide)] at hw
  refine va_zast C.1 C.2.1 C.2.2.2.2.2.1.1 hR.1 hR.2.1 hR.2.2.1 a 2 hw rfl (vp_in_o32 g2 g3 hl) hdg (fun H1 locs1 h1 h2 h3 => ?_)
  rw [nar_bool (hx rfl).1 (hx rfl).2, nat_o32 g2 g3 hl, upd_set (by omega)] at h1 h2
  refine kk H1 locs1 (hR.mk1 (wfH_set_arr hR.2.2.2 (by simpa using hl)) ?_ ?_ h3)
  · rw [cv_arr (by decide), List.length_set]; exact h1
  · rw [cv_arr (by decide), List.length_set]; exact h2
/-- arraylength -/
theorem pw_alen (C : Cx g p s m args meth c cc nL own ret) (hR : Rl g ad h s.heap H locs) {a : Nat} {x : Int} (e1 : alen h a = some x) (hdg : decode cc pc = .ok (.arraylength, 1))
    (kk : W p l e R s m args below meth c H locs cells slots Q (F0 m (pc + 1) ls (.int (Int32.ofInt x) :: rest))) : W p l e R s m args below meth c H locs cells slots Q (F0 m pc ls (.ref (ad a) :: rest)) := by
  obtain ⟨⟨t, xs⟩, g1, g2, rfl⟩ := alen_spec e1
  have hw := wsOf_get (g := g) (ad := ad) g1
  rcases (show t = 0 ∨ t = 1 ∨ t = 2 ∨ t = 3 by omega) with rfl | rfl | rfl | rfl
  · rw [cv_arr (by decide)] at hw
    exact va_alen C.1 C.2.1 C.2.2.2.2.2.1.1 hR.1 a 0 hw (ty := .int) rfl (v := Int32.ofInt (xs.length : Int)) (Int32.ofInt_eq_ofNat).symm hdg kk
  · rw [cv_arr (by decide)] at hw
    exact va_alen C.1 C.2.1 C.2.2.2.2.2.1.1 hR.1 a 1 hw (ty := .byte) rfl (v := Int32.ofInt (xs.length : Int)) (Int32.ofInt_eq_ofNat).symm hdg kk
  · rw [cv_arr (by decide)] at hw
    exact va_alen C.1 C.2.1 C.2.2.2.2.2.1.1 hR.1 a 2 hw (ty := .boolean) rfl (v := Int32.ofInt (xs.length : Int)) (Int32.ofInt_eq_ofNat).symm hdg kk
  · rw [cv_arrL] at hw
    exact va_alen C.1 C.2.1 C.2.2.2.2.2.1.1 hR.1 a 3 hw (ty := .long) rfl (v := Int32.ofInt (xs.length : Int)) (Int32.ofInt_eq_ofNat).symm hdg kk
end PW
