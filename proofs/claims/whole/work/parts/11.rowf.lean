section PW
variable {p : Program} {l : Launch} {e : Env} {R : Room} {s : State} {m : MethodId} {args : Array Value} {below : List Frame} {meth : Method} {c : Code} {H : Heap} {locs : List Loc} {cells slots : Nat} {Q : State → Prop}
variable {cc : ByteArray} {pc : Nat} {ls : Array Slot} {rest : List Value} {g : GP} {ad : Nat → Nat} {h h' : PH} {own : String} {nL : Nat} {ret : Option FieldType}
/-- a call of Math's, by its words -/
def MlP (own : String) (index : Nat) (y : MethodName) (b : ByteArray) (n : Nat) (ty : FieldType) : Prop := Cond.methodLink own index y ∈ TBg ∧ Cond.static y ∈ TBg ∧ Cond.initialized "java/lang/Math" ∈ TBg ∧ Cond.code y b n (some ty) ∈ TBg
theorem pw_maxI (C : Cx g p s m args meth c cc nL own ret) (hsz : ls.size = nL) {index : Nat} {x y : Int} (M : MlP own index Lib.Math.max.name Lib.Math.max.code 2 .int) (h1 : 1 ≤ R.frames) (h2 : (rest.map fun v => v.category).sum + 13 ≤ R.locals) (hdg : decode cc pc = .ok (.invokestatic index, 3)) (hcs : cells ≤ R.cells ∧ slots ≤ R.slots)
    (kk : W p l e R s m args below meth c H locs cells slots Q (F0 m (pc + 3) ls (.int (Int32.ofInt (maxI x y)) :: rest))) : W p l e R s m args below meth c H locs cells slots Q (F0 m pc ls (.int (Int32.ofInt y) :: .int (Int32.ofInt x) :: rest)) := by
  refine va_mmax C.1 C.2.1 (C.2.2.1.trans hsz.symm) C.2.2.2.1 (C.2.2.2.2.1 _ M.1) (C.2.2.2.2.1 _ M.2.1) (C.2.2.2.2.1 _ M.2.2.1) (C.2.2.2.2.1 _ M.2.2.2) h1 h2 hcs.1 hcs.2 hdg ?_
  have e1 : (if Int32.ofInt x < Int32.ofInt y then Int32.ofInt y else Int32.ofInt x) = Int32.ofInt (maxI x y) := by
    unfold maxI
    by_cases hq : w32 x < w32 y
    · rw [if_pos hq, if_pos (o32_lt.mpr hq)]
    · rw [if_neg hq, if_neg (fun z => hq (o32_lt.mp z))]
  rw [e1]
  exact kk
theorem pw_minI (C : Cx g p s m args meth c cc nL own ret) (hsz : ls.size = nL) {index : Nat} {x y : Int} (M : MlP own index Lib.Math.min.name Lib.Math.min.code 2 .int) (h1 : 1 ≤ R.frames) (h2 : (rest.map fun v => v.category).sum + 13 ≤ R.locals) (hdg : decode cc pc = .ok (.invokestatic index, 3)) (hcs : cells ≤ R.cells ∧ slots ≤ R.slots)
    (kk : W p l e R s m args below meth c H locs cells slots Q (F0 m (pc + 3) ls (.int (Int32.ofInt (minI x y)) :: rest))) : W p l e R s m args below meth c H locs cells slots Q (F0 m pc ls (.int (Int32.ofInt y) :: .int (Int32.ofInt x) :: rest)) := by
  refine va_mmin C.1 C.2.1 (C.2.2.1.trans hsz.symm) C.2.2.2.1 (C.2.2.2.2.1 _ M.1) (C.2.2.2.2.1 _ M.2.1) (C.2.2.2.2.1 _ M.2.2.1) (C.2.2.2.2.1 _ M.2.2.2) h1 h2 hcs.1 hcs.2 hdg ?_
  have e1 : (if Int32.ofInt y < Int32.ofInt x then Int32.ofInt y else Int32.ofInt x) = Int32.ofInt (minI x y) := by
    unfold minI
    by_cases hq : w32 y < w32 x
    · rw [if_pos hq, if_pos (o32_lt.mpr hq)]
    · rw [if_neg hq, if_neg (fun z => hq (o32_lt.mp z))]
  rw [e1]
  exact kk
theorem pw_maxL (C : Cx g p s m args meth c cc nL own ret) (hsz : ls.size = nL) {index : Nat} {x y : Int} (M : MlP own index Lib.MathLoose.max_long.x Lib.MathLoose.max_long.code 4 .long) (h1 : 1 ≤ R.frames) (h2 : (rest.map fun v => v.category).sum + 15 ≤ R.locals) (hdg : decode cc pc = .ok (.invokestatic index, 3)) (hcs : cells ≤ R.cells ∧ slots ≤ R.slots)
    (kk : W p l e R s m args below meth c H locs cells slots Q (F0 m (pc + 3) ls (.long (Int64.ofInt (maxL64 x y)) :: rest))) : W p l e R s m args below meth c H locs cells slots Q (F0 m pc ls (.long (Int64.ofInt y) :: .long (Int64.ofInt x) :: rest)) := by
  refine va_mmax_long C.1 C.2.1 (C.2.2.1.trans hsz.symm) C.2.2.2.1 (C.2.2.2.2.1 _ M.1) (C.2.2.2.2.1 _ M.2.1) (C.2.2.2.2.1 _ M.2.2.1) (C.2.2.2.2.1 _ M.2.2.2) h1 h2 hcs.1 hcs.2 hdg ?_
  have e1 : (if Int64.ofInt y < Int64.ofInt x then Int64.ofInt x else Int64.ofInt y) = Int64.ofInt (maxL64 x y) := by
    unfold maxL64
    by_cases hq : w64 y < w64 x
    · rw [if_pos hq, if_pos (Int64.lt_iff_toInt_lt.mpr hq)]
    · rw [if_neg hq, if_neg (fun z => hq (Int64.lt_iff_toInt_lt.mp z))]
  rw [e1]
  exact kk
theorem pw_minL (C : Cx g p s m args meth c cc nL own ret) (hsz : ls.size = nL) {index : Nat} {x y : Int} (M : MlP own index Lib.MathLoose.min_long.x Lib.MathLoose.min_long.code 4 .long) (h1 : 1 ≤ R.frames) (h2 : (rest.map fun v => v.category).sum + 15 ≤ R.locals) (hdg : decode cc pc = .ok (.invokestatic index, 3)) (hcs : cells ≤ R.cells ∧ slots ≤ R.slots)
    (kk : W p l e R s m args below meth c H locs cells slots Q (F0 m (pc + 3) ls (.long (Int64.ofInt (minL64 x y)) :: rest))) : W p l e R s m args below meth c H locs cells slots Q (F0 m pc ls (.long (Int64.ofInt y) :: .long (Int64.ofInt x) :: rest)) := by
  refine va_mmin_long C.1 C.2.1 (C.2.2.1.trans hsz.symm) C.2.2.2.1 (C.2.2.2.2.1 _ M.1) (C.2.2.2.2.1 _ M.2.1) (C.2.2.2.2.1 _ M.2.2.1) (C.2.2.2.2.1 _ M.2.2.2) h1 h2 hcs.1 hcs.2 hdg ?_
  have e1 : (if Int64.ofInt y < Int64.ofInt x then Int64.ofInt y else Int64.ofInt x) = Int64.ofInt (minL64 x y) := by
    unfold minL64
    by_cases hq : w64 y < w64 x
    · rw [if_pos hq, if_pos (Int64.lt_iff_toInt_lt.mpr hq)]
    · rw [if_neg hq, if_neg (fun z => hq (Int64.lt_iff_toInt_lt.mp z))]
  rw [e1]
  exact kk
def AlP (own : String) (index : Nat) : Prop := Cond.methodLink own index arraycopyName ∈ TBg ∧ Cond.native arraycopyName ∈ TBg ∧ Cond.static arraycopyName ∈ TBg ∧ Cond.initialized "java/lang/System" ∈ TBg
theorem acpy_spec {h h' : PH} {a b : Nat} {sp dp n : Int} (e : acpy h a sp b dp n = some h') : ∃ xs ys : List Int, h[a]? = some (.inl (0, xs)) ∧ h[b]? = some (.inl (0, ys)) ∧ a ≠ b ∧ (0 ≤ sp ∧ 0 ≤ dp ∧ 0 ≤ n) ∧ sp + n ≤ (xs.length : Int) ∧ dp + n ≤ (ys.length : Int) ∧ h' = h.set b (.inl (0, ys.take dp.toNat ++ (xs.drop sp.toNat).take n.toNat ++ ys.drop (dp.toNat + n.toNat))) := by
  unfold acpy at e
  split at e
  · rename_i q r hq hr
    split at e
    · rename_i h0
      obtain ⟨t1, xs⟩ := q
      obtain ⟨t2, ys⟩ := r
      obtain ⟨⟨h1, h2, h3⟩, h4, h5, h6⟩ := h0
      cases h1
      cases h2
      cases e
      exact ⟨xs, ys, hq, hr, h3, h4, h5, h6, rfl⟩
    · cases e
  · cases e
theorem cpy_list {xs ys : List Int} {sp dp n : Nat} (h1 : sp + n ≤ xs.length) (h2 : dp + n ≤ ys.length) : va_cpy (fun j => Int32.ofInt (xs.getD j 0)) (fun j => Int32.ofInt (ys.getD j 0)) sp dp n = fun j => Int32.ofInt ((ys.take dp ++ (xs.drop sp).take n ++ ys.drop (dp + n)).getD j 0) := by
  funext j
  unfold va_cpy
  have hl : (ys.take dp).length = dp := by rw [List.length_take]; omega
  have hm : ((xs.drop sp).take n).length = n := by rw [List.length_take, List.length_drop]; omega
  by_cases hj : j < dp
  · rw [if_neg (by omega)]
    congr 1
    simp only [List.getD_eq_getElem?_getD]
    rw [List.append_assoc, List.getElem?_append_left (by omega), List.getElem?_take, if_pos hj]
  · by_cases hk : j < dp + n
    · rw [if_pos ⟨by omega, hk⟩]
      congr 1
      simp only [List.getD_eq_getElem?_getD]
      rw [List.append_assoc, List.getElem?_append_right (by omega), List.getElem?_append_left (by omega), List.getElem?_take, if_pos (by omega), List.getElem?_drop, hl]
    · rw [if_neg (by omega)]
      congr 1
      simp only [List.getD_eq_getElem?_getD]
      rw [List.getElem?_append_right (by rw [List.length_append, hl, hm]; omega), List.getElem?_drop, List.length_append, hl, hm, show dp + n + (j - (dp + n)) = j by omega]
theorem pw_acpy (C : Cx g p s m args meth c cc nL own ret) (hsz : ls.size = nL) (hR : Rl g ad h s.heap H locs) {a b index : Nat} {sp dp n : Int} (e1 : acpy h a sp b dp n = some h') (M : AlP own index) (h1 : 1 ≤ R.frames) (h2 : (rest.map fun v => v.category).sum + (nativeFrameWords "java/lang/System" "arraycopy" 5 + 11) ≤ R.locals) (hdg : decode cc pc = .ok (.invokestatic index, 3))
    (kk : ∀ (H1 : Heap) (locs1 : List Loc), Rl g ad h' s.heap H1 locs1 → W p l e R s m args below meth c H1 locs1 cells slots Q (F0 m (pc + 3) ls rest)) : W p l e R s m args below meth c H locs cells slots Q (F0 m pc ls (.int (Int32.ofInt n) :: .int (Int32.ofInt dp) :: .ref (ad b) :: .int (Int32.ofInt sp) :: .ref (ad a) :: rest)) := by
  obtain ⟨xs, ys, g1, g2, g3, ⟨g4, g5, g6⟩, g7, g8, rfl⟩ := acpy_spec e1
  have hlx := hR.2.2.2.2 a _ g1
  have hly := hR.2.2.2.2 b _ g2
  simp only at hlx hly
  have hwa := wsOf_get (g := g) (ad := ad) g1
  have hwb := wsOf_get (g := g) (ad := ad) g2
  rw [cv_arr (by decide)] at hwa hwb
  have nat : ∀ z : Int, 0 ≤ z → z < 2147483648 → (Int32.ofInt z).toNatClampNeg = z.toNat ∧ ¬ Int32.ofInt z < 0 := by
    intro z hz hz2
    have hw : w32 z = z := w32_eq (by omega) (by omega)
    refine ⟨?_, fun q => ?_⟩
    · show (Int32.ofInt z).toInt.toNat = z.toNat
      unfold w32 at hw
      rw [hw]
    · have := z32lt.mp q
      omega
  obtain ⟨n1, p1⟩ := nat sp g4 (by omega)
  obtain ⟨n2, p2⟩ := nat dp g5 (by omega)
  obtain ⟨n3, p3⟩ := nat n g6 (by omega)
  refine va_copyi C.1 C.2.1 (C.2.2.1.trans hsz.symm) C.2.2.2.1 (C.2.2.2.2.1 _ M.1) (C.2.2.2.2.1 _ M.2.1) (C.2.2.2.2.1 _ M.2.2.1) (C.2.2.2.2.1 _ M.2.2.2) C.2.2.2.2.2.1.1 hR.1 hR.2.1 hR.2.2.1 a b 0 0 (ty := .int) hwa hwb rfl rfl rfl p1 p2 p3 (by rw [n1, n3]; omega) (by rw [n2, n3]; omega) (fun _ _ => rfl) h1 h2 hdg (fun H1 locs1 k1 k2 k3 => ?_)
  rw [n1, n2, n3, cpy_list (by omega) (by omega)] at k1 k2
  have hlen : (ys.take dp.toNat ++ (xs.drop sp.toNat).take n.toNat ++ ys.drop (dp.toNat + n.toNat)).length = ys.length := by
    simp only [List.length_append, List.length_take, List.length_drop]
    omega
  refine kk H1 locs1 (hR.mk1 (wfH_set_arr hR.2.2.2 (by simp only [hlen]; exact hly)) ?_ ?_ k3)
  · rw [cv_arr (by decide), hlen]; exact k1
  · rw [cv_arr (by decide), hlen]; exact k2
theorem cv_ref {g : GP} {ad : Nat → Nat} {k : Nat} {fs : List PV} (hk : ¬ k < 9) : cv g ad (.inr (k, fs)) = .inl (g.2.1 (k - 5), fs.length, .inr (.inr (.inr (.inr (fun j => rl ad (fs.getD j (.inr none))))))) := by simp [cv, hk]
theorem vp_in_o32b {i : Int} {n : Nat} (h0 : 0 ≤ i) (hi : i < 2147483648) (h1 : i < (n : Int)) : vp_in (Int32.ofInt i) n ∧ (Int32.ofInt i).toNatClampNeg = i.toNat := by
  have h : w32 i = i := w32_eq (by omega) (by omega)
  have hn : (Int32.ofInt i).toNatClampNeg = i.toNat := by
    show (Int32.ofInt i).toInt.toNat = i.toNat
    unfold w32 at h
    rw [h]
  refine ⟨fun q => ?_, hn⟩
  rcases q with q | q
  · have := z32lt.mp q
    omega
  · rw [hn] at q
    omega
/-- aaload out of Machine[]: what is there isn't null -/
theorem pw_rald9 (C : Cx g p s m args meth c cc nL own ret) (hR : Rl g ad h s.heap H locs) {a x : Nat} {i : Int} (e1 : rld h 9 a i = some x) (hdg : decode cc pc = .ok (.aaload, 1))
    (kk : W p l e R s m args below meth c H locs cells slots Q (F0 m (pc + 1) ls (.ref (ad x) :: rest))) : W p l e R s m args below meth c H locs cells slots Q (F0 m pc ls (.int (Int32.ofInt i) :: .ref (ad a) :: rest)) := by
  obtain ⟨fs, g1, ⟨g2, g5⟩, g3, g4⟩ := rld_spec e1
  have hw := wsOf_get (g := g) (ad := ad) g1
  rw [cv_ref (by decide)] at hw
  obtain ⟨q1, q2⟩ := vp_in_o32b g2 g5 g3
  refine va_aldq C.1 C.2.1 C.2.2.2.2.2.1.1 hR.1 a 4 hw rfl q1 hdg ?_
  rw [q2]
  have e2 : va_rf (rl ad (fs.getD i.toNat (.inr none))) = .ref (ad x) := by
    simp only [List.getD_eq_getElem?_getD, g4]
    rfl
  rw [e2]
  exact kk
/-- aaload out of int[][] -/
theorem pw_rald10 (C : Cx g p s m args meth c cc nL own ret) (hR : Rl g ad h s.heap H locs) {a x : Nat} {i : Int} (e1 : rld h 10 a i = some x) (hdg : decode cc pc = .ok (.aaload, 1))
    (kk : W p l e R s m args below meth c H locs cells slots Q (F0 m (pc + 1) ls (.ref (ad x) :: rest))) : W p l e R s m args below meth c H locs cells slots Q (F0 m pc ls (.int (Int32.ofInt i) :: .ref (ad a) :: rest)) := by
  obtain ⟨fs, g1, ⟨g2, g5⟩, g3, g4⟩ := rld_spec e1
  have hw := wsOf_get (g := g) (ad := ad) g1
  rw [cv_ref (by decide)] at hw
  obtain ⟨q1, q2⟩ := vp_in_o32b g2 g5 g3
  have hat : H[ad a]? = some (vp_cell (g.2.1 5) (fs.length, .inr (.inr (.inr (.inr (fun j => rl ad (fs.getD j (.inr none)))))))) := hR.1 a _ hw
  rw [vp_cell_q] at hat
  have harr := (C.2.2.2.2.2.1.1.2 5 (g.2.1 5, .array .int) rfl).1 fs.length (fun j => va_rf (rl ad (fs.getD j (.inr none))))
  refine W.aald C.1 C.2.1 (v := .ref (ad x)) hat harr rfl (by intro q; cases q) ?_ ?_ rfl rfl hdg kk
  · intro q
    refine q1 ?_
    rcases q with q | q
    · exact Or.inl q
    · refine Or.inr ?_
      simpa [arrV] using q
  · rw [q2]
    have hlt : i.toNat < fs.length := by omega
    have e2 : va_rf (rl ad (fs.getD i.toNat (.inr none))) = .ref (ad x) := by
      simp only [List.getD_eq_getElem?_getD, g4]
      rfl
    simp [arrV, hlt]
    obtain ⟨hh, e3⟩ := List.getElem?_eq_some_iff.mp g4
    rw [e3]
    rfl
end PW
