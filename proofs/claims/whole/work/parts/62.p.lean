set_option linter.unusedVariables false
set_option linter.unusedSimpArgs false
/-! ===== reading and writing the fixed cells ===== -/
section
variable {h : PH} {a : Nat}
theorem z0_O {e : Int} (z : h[a]? = some (c0 e)) : isO h 7 a = some () := by unfold isO; rw [z]; rfl
theorem z0_r0 {e : Int} (z : h[a]? = some (c0 e)) : gfr h 7 a 0 = some 1 := by unfold gfr; rw [z]; rfl
theorem z0_r1 {e : Int} (z : h[a]? = some (c0 e)) : gfr h 7 a 1 = some 5 := by unfold gfr; rw [z]; rfl
theorem z0_r2 {e : Int} (z : h[a]? = some (c0 e)) : gfr h 7 a 2 = some 27 := by unfold gfr; rw [z]; rfl
theorem z0_r3 {e : Int} (z : h[a]? = some (c0 e)) : gfr h 7 a 3 = some 49 := by unfold gfr; rw [z]; rfl
theorem z0_i4 {e : Int} (z : h[a]? = some (c0 e)) : gfi h 7 a 4 = some (e) := by unfold gfi; rw [z]; rfl
theorem z0_w4 {e : Int} (z : h[a]? = some (c0 e)) {x : Int} : pfi h 7 a 4 x = some (h.set a (c0 x)) := by unfold pfi; rw [z]; rfl
theorem z1_O {r : Nat → Int} (z : h[a]? = some (c1 r)) : isO h 4 a = some () := by unfold isO; rw [z]; rfl
theorem z1_r0 {r : Nat → Int} (z : h[a]? = some (c1 r)) : gfr h 4 a 0 = some 2 := by unfold gfr; rw [z]; rfl
theorem z1_i1 {r : Nat → Int} (z : h[a]? = some (c1 r)) : gfi h 4 a 1 = some (r 1) := by unfold gfi; rw [z]; rfl
theorem z1_w1 {r : Nat → Int} (z : h[a]? = some (c1 r)) {x : Int} : pfi h 4 a 1 x = some (h.set a (c1 (upf r 1 x))) := by unfold pfi; rw [z]; rfl
theorem z1_i2 {r : Nat → Int} (z : h[a]? = some (c1 r)) : gfi h 4 a 2 = some (r 2) := by unfold gfi; rw [z]; rfl
theorem z1_w2 {r : Nat → Int} (z : h[a]? = some (c1 r)) {x : Int} : pfi h 4 a 2 x = some (h.set a (c1 (upf r 2 x))) := by unfold pfi; rw [z]; rfl
theorem z1_r3 {r : Nat → Int} (z : h[a]? = some (c1 r)) : gfr h 4 a 3 = some 4 := by unfold gfr; rw [z]; rfl
theorem z1_i4 {r : Nat → Int} (z : h[a]? = some (c1 r)) : gfi h 4 a 4 = some (r 4) := by unfold gfi; rw [z]; rfl
theorem z1_w4 {r : Nat → Int} (z : h[a]? = some (c1 r)) {x : Int} : pfi h 4 a 4 x = some (h.set a (c1 (upf r 4 x))) := by unfold pfi; rw [z]; rfl
theorem z1_i5 {r : Nat → Int} (z : h[a]? = some (c1 r)) : gfi h 4 a 5 = some (r 5) := by unfold gfi; rw [z]; rfl
theorem z1_w5 {r : Nat → Int} (z : h[a]? = some (c1 r)) {x : Int} : pfi h 4 a 5 x = some (h.set a (c1 (upf r 5 x))) := by unfold pfi; rw [z]; rfl
theorem z2_O {r : Nat → Int} (z : h[a]? = some (c2 r)) : isO h 5 a = some () := by unfold isO; rw [z]; rfl
theorem z2_r0 {r : Nat → Int} (z : h[a]? = some (c2 r)) : gfr h 5 a 0 = some 3 := by unfold gfr; rw [z]; rfl
theorem z2_i1 {r : Nat → Int} (z : h[a]? = some (c2 r)) : gfi h 5 a 1 = some (r 1) := by unfold gfi; rw [z]; rfl
theorem z2_w1 {r : Nat → Int} (z : h[a]? = some (c2 r)) {x : Int} : pfi h 5 a 1 x = some (h.set a (c2 (upf r 1 x))) := by unfold pfi; rw [z]; rfl
theorem z2_i2 {r : Nat → Int} (z : h[a]? = some (c2 r)) : gfi h 5 a 2 = some (r 2) := by unfold gfi; rw [z]; rfl
theorem z2_w2 {r : Nat → Int} (z : h[a]? = some (c2 r)) {x : Int} : pfi h 5 a 2 x = some (h.set a (c2 (upf r 2 x))) := by unfold pfi; rw [z]; rfl
theorem z2_i3 {r : Nat → Int} (z : h[a]? = some (c2 r)) : gfi h 5 a 3 = some (r 3) := by unfold gfi; rw [z]; rfl
theorem z2_w3 {r : Nat → Int} (z : h[a]? = some (c2 r)) {x : Int} : pfi h 5 a 3 x = some (h.set a (c2 (upf r 3 x))) := by unfold pfi; rw [z]; rfl
theorem z2_i4 {r : Nat → Int} (z : h[a]? = some (c2 r)) : gfi h 5 a 4 = some (r 4) := by unfold gfi; rw [z]; rfl
theorem z2_w4 {r : Nat → Int} (z : h[a]? = some (c2 r)) {x : Int} : pfi h 5 a 4 x = some (h.set a (c2 (upf r 4 x))) := by unfold pfi; rw [z]; rfl
theorem z2_i5 {r : Nat → Int} (z : h[a]? = some (c2 r)) : gfi h 5 a 5 = some (r 5) := by unfold gfi; rw [z]; rfl
theorem z2_w5 {r : Nat → Int} (z : h[a]? = some (c2 r)) {x : Int} : pfi h 5 a 5 x = some (h.set a (c2 (upf r 5 x))) := by unfold pfi; rw [z]; rfl
theorem z2_i6 {r : Nat → Int} (z : h[a]? = some (c2 r)) : gfi h 5 a 6 = some (r 6) := by unfold gfi; rw [z]; rfl
theorem z2_w6 {r : Nat → Int} (z : h[a]? = some (c2 r)) {x : Int} : pfi h 5 a 6 x = some (h.set a (c2 (upf r 6 x))) := by unfold pfi; rw [z]; rfl
theorem z49_O {nx ct : Int} (z : h[a]? = some (c49 nx ct)) : isO h 2 a = some () := by unfold isO; rw [z]; rfl
theorem z49_r0 {nx ct : Int} (z : h[a]? = some (c49 nx ct)) : gfr h 2 a 0 = some 50 := by unfold gfr; rw [z]; rfl
theorem z49_i1 {nx ct : Int} (z : h[a]? = some (c49 nx ct)) : gfi h 2 a 1 = some (nx) := by unfold gfi; rw [z]; rfl
theorem z49_w1 {nx ct : Int} (z : h[a]? = some (c49 nx ct)) {x : Int} : pfi h 2 a 1 x = some (h.set a (c49 x ct)) := by unfold pfi; rw [z]; rfl
theorem z49_i2 {nx ct : Int} (z : h[a]? = some (c49 nx ct)) : gfi h 2 a 2 = some (ct) := by unfold gfi; rw [z]; rfl
theorem z49_w2 {nx ct : Int} (z : h[a]? = some (c49 nx ct)) {x : Int} : pfi h 2 a 2 x = some (h.set a (c49 nx x)) := by unfold pfi; rw [z]; rfl
theorem z8_O {u : Nat → Int} (z : h[a]? = some (mdl u)) : isO h 8 a = some () := by unfold isO; rw [z]; rfl
theorem z8_i0 {u : Nat → Int} (z : h[a]? = some (mdl u)) : gfi h 8 a 0 = some (u 0) := by unfold gfi; rw [z]; rfl
theorem z8_w0 {u : Nat → Int} (z : h[a]? = some (mdl u)) {x : Int} : pfi h 8 a 0 x = some (h.set a (mdl (upf u 0 x))) := by unfold pfi; rw [z]; rfl
theorem z8_r1 {u : Nat → Int} (z : h[a]? = some (mdl u)) : gfr h 8 a 1 = some 228 := by unfold gfr; rw [z]; rfl
theorem z8_i2 {u : Nat → Int} (z : h[a]? = some (mdl u)) : gfi h 8 a 2 = some (u 2) := by unfold gfi; rw [z]; rfl
theorem z8_w2 {u : Nat → Int} (z : h[a]? = some (mdl u)) {x : Int} : pfi h 8 a 2 x = some (h.set a (mdl (upf u 2 x))) := by unfold pfi; rw [z]; rfl
theorem z8_i3 {u : Nat → Int} (z : h[a]? = some (mdl u)) : gfi h 8 a 3 = some (u 3) := by unfold gfi; rw [z]; rfl
theorem z8_w3 {u : Nat → Int} (z : h[a]? = some (mdl u)) {x : Int} : pfi h 8 a 3 x = some (h.set a (mdl (upf u 3 x))) := by unfold pfi; rw [z]; rfl
theorem z8_i4 {u : Nat → Int} (z : h[a]? = some (mdl u)) : gfi h 8 a 4 = some (u 4) := by unfold gfi; rw [z]; rfl
theorem z8_w4 {u : Nat → Int} (z : h[a]? = some (mdl u)) {x : Int} : pfi h 8 a 4 x = some (h.set a (mdl (upf u 4 x))) := by unfold pfi; rw [z]; rfl
theorem z8_i5 {u : Nat → Int} (z : h[a]? = some (mdl u)) : gfi h 8 a 5 = some (u 5) := by unfold gfi; rw [z]; rfl
theorem z8_w5 {u : Nat → Int} (z : h[a]? = some (mdl u)) {x : Int} : pfi h 8 a 5 x = some (h.set a (mdl (upf u 5 x))) := by unfold pfi; rw [z]; rfl
theorem z8_i6 {u : Nat → Int} (z : h[a]? = some (mdl u)) : gfi h 8 a 6 = some (u 6) := by unfold gfi; rw [z]; rfl
theorem z8_w6 {u : Nat → Int} (z : h[a]? = some (mdl u)) {x : Int} : pfi h 8 a 6 x = some (h.set a (mdl (upf u 6 x))) := by unfold pfi; rw [z]; rfl
theorem z8_i7 {u : Nat → Int} (z : h[a]? = some (mdl u)) : gfi h 8 a 7 = some (u 7) := by unfold gfi; rw [z]; rfl
theorem z8_w7 {u : Nat → Int} (z : h[a]? = some (mdl u)) {x : Int} : pfi h 8 a 7 x = some (h.set a (mdl (upf u 7 x))) := by unfold pfi; rw [z]; rfl
theorem z8_r8 {u : Nat → Int} (z : h[a]? = some (mdl u)) : gfr h 8 a 8 = some 229 := by unfold gfr; rw [z]; rfl
theorem z8_r9 {u : Nat → Int} (z : h[a]? = some (mdl u)) : gfr h 8 a 9 = some 230 := by unfold gfr; rw [z]; rfl
theorem z8_r10 {u : Nat → Int} (z : h[a]? = some (mdl u)) : gfr h 8 a 10 = some 231 := by unfold gfr; rw [z]; rfl
theorem z8_r11 {u : Nat → Int} (z : h[a]? = some (mdl u)) : gfr h 8 a 11 = some 232 := by unfold gfr; rw [z]; rfl
theorem z8_i12 {u : Nat → Int} (z : h[a]? = some (mdl u)) : gfi h 8 a 12 = some (u 12) := by unfold gfi; rw [z]; rfl
theorem z8_w12 {u : Nat → Int} (z : h[a]? = some (mdl u)) {x : Int} : pfi h 8 a 12 x = some (h.set a (mdl (upf u 12 x))) := by unfold pfi; rw [z]; rfl
theorem z8_i13 {u : Nat → Int} (z : h[a]? = some (mdl u)) : gfi h 8 a 13 = some (u 13) := by unfold gfi; rw [z]; rfl
theorem z8_w13 {u : Nat → Int} (z : h[a]? = some (mdl u)) {x : Int} : pfi h 8 a 13 x = some (h.set a (mdl (upf u 13 x))) := by unfold pfi; rw [z]; rfl
theorem z8_i14 {u : Nat → Int} (z : h[a]? = some (mdl u)) : gfi h 8 a 14 = some (u 14) := by unfold gfi; rw [z]; rfl
theorem z8_w14 {u : Nat → Int} (z : h[a]? = some (mdl u)) {x : Int} : pfi h 8 a 14 x = some (h.set a (mdl (upf u 14 x))) := by unfold pfi; rw [z]; rfl
theorem z8_i15 {u : Nat → Int} (z : h[a]? = some (mdl u)) : gfi h 8 a 15 = some (u 15) := by unfold gfi; rw [z]; rfl
theorem z8_w15 {u : Nat → Int} (z : h[a]? = some (mdl u)) {x : Int} : pfi h 8 a 15 x = some (h.set a (mdl (upf u 15 x))) := by unfold pfi; rw [z]; rfl
theorem z8_r16 {u : Nat → Int} (z : h[a]? = some (mdl u)) : gfr h 8 a 16 = some 241 := by unfold gfr; rw [z]; rfl
theorem z8_r17 {u : Nat → Int} (z : h[a]? = some (mdl u)) : gfr h 8 a 17 = some 242 := by unfold gfr; rw [z]; rfl
theorem z50_l {i : Nat} (z : h[a]? = some c50) (hi : i < 8) : rld h 9 a i = some (51 + 22 * i) := by
  unfold rld
  rw [z]
  simp only [c50]
  rw [if_pos (by simp; omega)]
  simp [hi, rf]
theorem z232_l {i : Nat} (z : h[a]? = some c232) (hi : i < 8) : rld h 10 a i = some (233 + i) := by
  unfold rld
  rw [z]
  simp only [c232]
  rw [if_pos (by simp; omega)]
  simp [hi, rf]
theorem arr_l {t n : Nat} {b : Nat → Int} {i : Int} (z : h[a]? = some (.inl (t, (List.range n).map b))) (h0 : 0 ≤ i) (h1 : i < n) : ald t h a i = some (b i.toNat) := by
  unfold ald
  rw [z]
  simp only [true_and, h0, if_true]
  rw [List.getElem?_map, List.getElem?_range (by omega)]; rfl
theorem arr_s {t n : Nat} {b : Nat → Int} {i x : Int} (z : h[a]? = some (.inl (t, (List.range n).map b))) (h0 : 0 ≤ i) (h1 : i < n) (h2 : t = 1 → -128 ≤ x ∧ x < 128) (h3 : t = 2 → 0 ≤ x ∧ x < 2) : ast t h a i x = some (h.set a (.inl (t, (List.range n).map (upf b i.toNat x)))) := by
  unfold ast
  rw [z]
  simp only [List.length_map, List.length_range]
  rw [if_pos ⟨⟨trivial, h0, h1⟩, h2, h3⟩, map_upf]
theorem z3_l {b : Nat → Int} {i : Int} (z : h[a]? = some (c3 b)) (h0 : 0 ≤ i) (h1 : i < 900) : ald 1 h a i = some (b i.toNat) := arr_l z h0 h1
theorem z3_s {b : Nat → Int} {i x : Int} (z : h[a]? = some (c3 b)) (h0 : 0 ≤ i) (h1 : i < 900) (h2 : -128 ≤ x) (h3 : x < 128) : ast 1 h a i x = some (h.set a (c3 (upf b i.toNat x))) := arr_s z h0 h1 (fun _ => ⟨h2, h3⟩) (fun q => by cases q)
theorem z4_l {b : Nat → Int} {i : Int} (z : h[a]? = some (c4 b)) (h0 : 0 ≤ i) (h1 : i < 900) : ald 0 h a i = some (b i.toNat) := arr_l z h0 h1
theorem z4_s {b : Nat → Int} {i x : Int} (z : h[a]? = some (c4 b)) (h0 : 0 ≤ i) (h1 : i < 900) : ast 0 h a i x = some (h.set a (c4 (upf b i.toNat x))) := arr_s z h0 h1 (fun q => by cases q) (fun q => by cases q)
theorem z242_l {b : Nat → Int} {i : Int} (z : h[a]? = some (c242 b)) (h0 : 0 ≤ i) (h1 : i < 32) : ald 0 h a i = some (b i.toNat) := arr_l z h0 h1
theorem z242_s {b : Nat → Int} {i x : Int} (z : h[a]? = some (c242 b)) (h0 : 0 ≤ i) (h1 : i < 32) : ast 0 h a i x = some (h.set a (c242 (upf b i.toNat x))) := arr_s z h0 h1 (fun q => by cases q) (fun q => by cases q)
theorem z243_l {x : Int} (z : h[a]? = some (c243 x)) : ald 3 h a 0 = some x := by unfold ald; rw [z]; rfl
theorem z243_s {x y : Int} (z : h[a]? = some (c243 x)) : ast 3 h a 0 y = some (h.set a (c243 y)) := by
  unfold ast; rw [z]
  simp only [c243]
  rw [if_pos (by simp)]; rfl
theorem zd_l {d : Int → Int} {i : Int} (z : h[a]? = some (dcell d)) (h0 : 0 ≤ i) (h1 : i < 1824) : ald 0 h a i = some (d i) := by
  have hl : a < h.length := by
    rcases Nat.lt_or_ge a h.length with q | q
    · exact q
    · rw [List.getElem?_eq_none q] at z; cases z
  have := md_ald (h := h) (a := a) (d := d) hl h0 h1
  rw [show sd h a d = h from set_same z] at this
  exact this
theorem zd_s {d : Int → Int} {i x : Int} (z : h[a]? = some (dcell d)) (h0 : 0 ≤ i) (h1 : i < 1824) : ast 0 h a i x = some (h.set a (dcell (ud d i x))) := by
  have hl : a < h.length := by
    rcases Nat.lt_or_ge a h.length with q | q
    · exact q
    · rw [List.getElem?_eq_none q] at z; cases z
  have := md_ast (h := h) (a := a) (d := d) (x := x) hl h0 h1
  rw [show sd h a d = h from set_same z] at this
  exact this
end
