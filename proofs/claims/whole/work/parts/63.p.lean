set_option linter.unusedVariables false
set_option linter.unusedSimpArgs false
/-! ===== the present machine's cells, by number ===== -/
section
variable {h : PH} {M : MM}
theorem b5_O0 (t : At h 5 M) : isO h 3 5 = some () := by have := pm_isO0 (h := h) (p := 5) (M := M) t.1; rw [At_put t] at this; exact this
theorem b5_O1 (t : At h 5 M) : isO h 6 6 = some () := by have := pm_isO1 (h := h) (p := 5) (M := M) t.1; rw [At_put t] at this; exact this
theorem b5_O11 (t : At h 5 M) : isO h 0 16 = some () := by have := pm_isO11 (h := h) (p := 5) (M := M) t.1; rw [At_put t] at this; exact this
theorem b5_gfr0_0 (t : At h 5 M) : gfr h 3 5 0 = some 6 := at_gfr0_0 t
theorem b5_gfr0_1 (t : At h 5 M) : gfr h 3 5 1 = some 16 := at_gfr0_1 t
theorem b5_gfr0_2 (t : At h 5 M) : gfr h 3 5 2 = some (M 0 2).toNat := at_gfr0_2 t
theorem b5_gfi0_3 (t : At h 5 M) : gfi h 3 5 3 = some (M 0 3) := at_gfi0_3 t
theorem b5_gfi1_0 (t : At h 5 M) : gfi h 6 6 0 = some (M 1 0) := at_gfi1_0 t
theorem b5_gfi1_1 (t : At h 5 M) : gfi h 6 6 1 = some (M 1 1) := at_gfi1_1 t
theorem b5_gfr1_2 (t : At h 5 M) : gfr h 6 6 2 = some 7 := at_gfr1_2 t
theorem b5_gfr1_3 (t : At h 5 M) : gfr h 6 6 3 = some 8 := at_gfr1_3 t
theorem b5_gfr1_4 (t : At h 5 M) : gfr h 6 6 4 = some 9 := at_gfr1_4 t
theorem b5_gfr1_5 (t : At h 5 M) : gfr h 6 6 5 = some 10 := at_gfr1_5 t
theorem b5_gfr1_6 (t : At h 5 M) : gfr h 6 6 6 = some 11 := at_gfr1_6 t
theorem b5_gfr1_7 (t : At h 5 M) : gfr h 6 6 7 = some 12 := at_gfr1_7 t
theorem b5_gfr1_8 (t : At h 5 M) : gfr h 6 6 8 = some 13 := at_gfr1_8 t
theorem b5_gfr1_9 (t : At h 5 M) : gfr h 6 6 9 = some 14 := at_gfr1_9 t
theorem b5_gfr1_10 (t : At h 5 M) : gfr h 6 6 10 = some 15 := at_gfr1_10 t
theorem b5_gfi11_0 (t : At h 5 M) : gfi h 0 16 0 = some (M 11 0) := at_gfi11_0 t
theorem b5_gfi11_1 (t : At h 5 M) : gfi h 0 16 1 = some (M 11 1) := at_gfi11_1 t
theorem b5_gfi11_2 (t : At h 5 M) : gfi h 0 16 2 = some (M 11 2) := at_gfi11_2 t
theorem b5_gfr11_3 (t : At h 5 M) : gfr h 0 16 3 = some 17 := at_gfr11_3 t
theorem b5_gfr11_4 (t : At h 5 M) : gfr h 0 16 4 = some 18 := at_gfr11_4 t
theorem b5_gfr11_5 (t : At h 5 M) : gfr h 0 16 5 = some 19 := at_gfr11_5 t
theorem b5_gfr11_6 (t : At h 5 M) : gfr h 0 16 6 = some 20 := at_gfr11_6 t
theorem b5_gfr11_7 (t : At h 5 M) : gfr h 0 16 7 = some 21 := at_gfr11_7 t
theorem b5_gfr11_8 (t : At h 5 M) : gfr h 0 16 8 = some 22 := at_gfr11_8 t
theorem b5_gfr11_9 (t : At h 5 M) : gfr h 0 16 9 = some 23 := at_gfr11_9 t
theorem b5_a2 {i : Int} (t : At h 5 M) (h0 : 0 ≤ i) (h1 : i < 32) : ald 0 h 7 i = some (M 2 i.toNat) := at_a2 t h0 h1
theorem b5_s2 {i x : Int} (t : At h 5 M) (h0 : 0 ≤ i) (h1 : i < 32) : ast 0 h 7 i x = some (putM h 5 (up M 2 i.toNat x)) := by have := ps2 (h := h) (p := 5) (M := M) (x := x) t.1 h0 h1; rw [At_put t] at this; exact this
theorem b5_a3 {i : Int} (t : At h 5 M) (h0 : 0 ≤ i) (h1 : i < 32) : ald 0 h 8 i = some (M 3 i.toNat) := at_a3 t h0 h1
theorem b5_s3 {i x : Int} (t : At h 5 M) (h0 : 0 ≤ i) (h1 : i < 32) : ast 0 h 8 i x = some (putM h 5 (up M 3 i.toNat x)) := by have := ps3 (h := h) (p := 5) (M := M) (x := x) t.1 h0 h1; rw [At_put t] at this; exact this
theorem b5_a4 {i : Int} (t : At h 5 M) (h0 : 0 ≤ i) (h1 : i < 32) : ald 0 h 9 i = some (M 4 i.toNat) := at_a4 t h0 h1
theorem b5_s4 {i x : Int} (t : At h 5 M) (h0 : 0 ≤ i) (h1 : i < 32) : ast 0 h 9 i x = some (putM h 5 (up M 4 i.toNat x)) := by have := ps4 (h := h) (p := 5) (M := M) (x := x) t.1 h0 h1; rw [At_put t] at this; exact this
theorem b5_a5 {i : Int} (t : At h 5 M) (h0 : 0 ≤ i) (h1 : i < 32) : ald 0 h 10 i = some (M 5 i.toNat) := at_a5 t h0 h1
theorem b5_s5 {i x : Int} (t : At h 5 M) (h0 : 0 ≤ i) (h1 : i < 32) : ast 0 h 10 i x = some (putM h 5 (up M 5 i.toNat x)) := by have := ps5 (h := h) (p := 5) (M := M) (x := x) t.1 h0 h1; rw [At_put t] at this; exact this
theorem b5_a6 {i : Int} (t : At h 5 M) (h0 : 0 ≤ i) (h1 : i < 32) : ald 0 h 11 i = some (M 6 i.toNat) := at_a6 t h0 h1
theorem b5_s6 {i x : Int} (t : At h 5 M) (h0 : 0 ≤ i) (h1 : i < 32) : ast 0 h 11 i x = some (putM h 5 (up M 6 i.toNat x)) := by have := ps6 (h := h) (p := 5) (M := M) (x := x) t.1 h0 h1; rw [At_put t] at this; exact this
theorem b5_a7 {i : Int} (t : At h 5 M) (h0 : 0 ≤ i) (h1 : i < 32) : ald 0 h 12 i = some (M 7 i.toNat) := at_a7 t h0 h1
theorem b5_s7 {i x : Int} (t : At h 5 M) (h0 : 0 ≤ i) (h1 : i < 32) : ast 0 h 12 i x = some (putM h 5 (up M 7 i.toNat x)) := by have := ps7 (h := h) (p := 5) (M := M) (x := x) t.1 h0 h1; rw [At_put t] at this; exact this
theorem b5_a8 {i : Int} (t : At h 5 M) (h0 : 0 ≤ i) (h1 : i < 32) : ald 0 h 13 i = some (M 8 i.toNat) := at_a8 t h0 h1
theorem b5_s8 {i x : Int} (t : At h 5 M) (h0 : 0 ≤ i) (h1 : i < 32) : ast 0 h 13 i x = some (putM h 5 (up M 8 i.toNat x)) := by have := ps8 (h := h) (p := 5) (M := M) (x := x) t.1 h0 h1; rw [At_put t] at this; exact this
theorem b5_a9 {i : Int} (t : At h 5 M) (h0 : 0 ≤ i) (h1 : i < 8) : ald 0 h 14 i = some (M 9 i.toNat) := at_a9 t h0 h1
theorem b5_s9 {i x : Int} (t : At h 5 M) (h0 : 0 ≤ i) (h1 : i < 8) : ast 0 h 14 i x = some (putM h 5 (up M 9 i.toNat x)) := by have := ps9 (h := h) (p := 5) (M := M) (x := x) t.1 h0 h1; rw [At_put t] at this; exact this
theorem b5_a10 {i : Int} (t : At h 5 M) (h0 : 0 ≤ i) (h1 : i < 32) : ald 0 h 15 i = some (M 10 i.toNat) := at_a10 t h0 h1
theorem b5_s10 {i x : Int} (t : At h 5 M) (h0 : 0 ≤ i) (h1 : i < 32) : ast 0 h 15 i x = some (putM h 5 (up M 10 i.toNat x)) := by have := ps10 (h := h) (p := 5) (M := M) (x := x) t.1 h0 h1; rw [At_put t] at this; exact this
theorem b5_a12 {i : Int} (t : At h 5 M) (h0 : 0 ≤ i) (h1 : i < 32) : ald 0 h 17 i = some (M 12 i.toNat) := at_a12 t h0 h1
theorem b5_s12 {i x : Int} (t : At h 5 M) (h0 : 0 ≤ i) (h1 : i < 32) : ast 0 h 17 i x = some (putM h 5 (up M 12 i.toNat x)) := by have := ps12 (h := h) (p := 5) (M := M) (x := x) t.1 h0 h1; rw [At_put t] at this; exact this
theorem b5_a13 {i : Int} (t : At h 5 M) (h0 : 0 ≤ i) (h1 : i < 4) : ald 0 h 18 i = some (M 13 i.toNat) := at_a13 t h0 h1
theorem b5_s13 {i x : Int} (t : At h 5 M) (h0 : 0 ≤ i) (h1 : i < 4) : ast 0 h 18 i x = some (putM h 5 (up M 13 i.toNat x)) := by have := ps13 (h := h) (p := 5) (M := M) (x := x) t.1 h0 h1; rw [At_put t] at this; exact this
theorem b5_a14 {i : Int} (t : At h 5 M) (h0 : 0 ≤ i) (h1 : i < 4) : ald 0 h 19 i = some (M 14 i.toNat) := at_a14 t h0 h1
theorem b5_s14 {i x : Int} (t : At h 5 M) (h0 : 0 ≤ i) (h1 : i < 4) : ast 0 h 19 i x = some (putM h 5 (up M 14 i.toNat x)) := by have := ps14 (h := h) (p := 5) (M := M) (x := x) t.1 h0 h1; rw [At_put t] at this; exact this
theorem b5_a15 {i : Int} (t : At h 5 M) (h0 : 0 ≤ i) (h1 : i < 4) : ald 0 h 20 i = some (M 15 i.toNat) := at_a15 t h0 h1
theorem b5_s15 {i x : Int} (t : At h 5 M) (h0 : 0 ≤ i) (h1 : i < 4) : ast 0 h 20 i x = some (putM h 5 (up M 15 i.toNat x)) := by have := ps15 (h := h) (p := 5) (M := M) (x := x) t.1 h0 h1; rw [At_put t] at this; exact this
theorem b5_a16 {i : Int} (t : At h 5 M) (h0 : 0 ≤ i) (h1 : i < 4) : ald 0 h 21 i = some (M 16 i.toNat) := at_a16 t h0 h1
theorem b5_s16 {i x : Int} (t : At h 5 M) (h0 : 0 ≤ i) (h1 : i < 4) : ast 0 h 21 i x = some (putM h 5 (up M 16 i.toNat x)) := by have := ps16 (h := h) (p := 5) (M := M) (x := x) t.1 h0 h1; rw [At_put t] at this; exact this
theorem b5_a17 {i : Int} (t : At h 5 M) (h0 : 0 ≤ i) (h1 : i < 4) : ald 0 h 22 i = some (M 17 i.toNat) := at_a17 t h0 h1
theorem b5_s17 {i x : Int} (t : At h 5 M) (h0 : 0 ≤ i) (h1 : i < 4) : ast 0 h 22 i x = some (putM h 5 (up M 17 i.toNat x)) := by have := ps17 (h := h) (p := 5) (M := M) (x := x) t.1 h0 h1; rw [At_put t] at this; exact this
theorem b5_a18 {i : Int} (t : At h 5 M) (h0 : 0 ≤ i) (h1 : i < 4) : ald 2 h 23 i = some (M 18 i.toNat) := at_a18 t h0 h1
theorem b5_s18 {i x : Int} (t : At h 5 M) (h0 : 0 ≤ i) (h1 : i < 4) (h2 : 0 ≤ x) (h3 : x < 2) : ast 2 h 23 i x = some (putM h 5 (up M 18 i.toNat x)) := by have := ps18 (h := h) (p := 5) (M := M) (x := x) t.1 h0 h1 h2 h3; rw [At_put t] at this; exact this
theorem b5_w0_3 {x : Int} (t : At h 5 M) : pfi h 3 5 3 x = some (putM h 5 (up M 0 3 x)) := by have := pm_pfi0_3 (h := h) (p := 5) (M := M) (x := x) t.1; rw [At_put t] at this; exact this
theorem b5_w0_2 {v : Nat} (t : At h 5 M) (hv : v < h.length) : pfr h 3 5 2 v = some (putM h 5 (up M 0 2 v)) := by have := pm_pfr0_2 (h := h) (p := 5) (M := M) (v := v) t.1 hv; rw [At_put t] at this; exact this
theorem b5_w1_0 {x : Int} (t : At h 5 M) : pfi h 6 6 0 x = some (putM h 5 (up M 1 0 x)) := by have := pm_pfi1_0 (h := h) (p := 5) (M := M) (x := x) t.1; rw [At_put t] at this; exact this
theorem b5_w1_1 {x : Int} (t : At h 5 M) : pfi h 6 6 1 x = some (putM h 5 (up M 1 1 x)) := by have := pm_pfi1_1 (h := h) (p := 5) (M := M) (x := x) t.1; rw [At_put t] at this; exact this
theorem b5_w11_0 {x : Int} (t : At h 5 M) : pfi h 0 16 0 x = some (putM h 5 (up M 11 0 x)) := by have := pm_pfi11_0 (h := h) (p := 5) (M := M) (x := x) t.1; rw [At_put t] at this; exact this
theorem b5_w11_1 {x : Int} (t : At h 5 M) : pfi h 0 16 1 x = some (putM h 5 (up M 11 1 x)) := by have := pm_pfi11_1 (h := h) (p := 5) (M := M) (x := x) t.1; rw [At_put t] at this; exact this
theorem b5_w11_2 {x : Int} (t : At h 5 M) : pfi h 0 16 2 x = some (putM h 5 (up M 11 2 x)) := by have := pm_pfi11_2 (h := h) (p := 5) (M := M) (x := x) t.1; rw [At_put t] at this; exact this
theorem b5_unf (t : At h 5 M) (ok : OkT M) : ∃ x, FX6_unfinishedBits h 6 = some x ∧ isU M x := by have := r_unf (h := h) (p := 5) (M := M) t.1 ok; rw [At_put t] at this; exact this
theorem b5_opn {x : Int} {f : Nat} (t : At h 5 M) (ok : OkT M) (hx : isU M x) (hf : (f : Int) < M 1 1) : FX6_opens h 6 f x = some (if opn M f then 1 else 0) := by have := r_opn (h := h) (p := 5) (M := M) t.1 ok hx hf; rw [At_put t] at this; exact this
theorem b5_ctr {x : Int} {f : Nat} (t : At h 5 M) (ok : OkT M) (hx : isU M x) (hf : f < 32) : FX6_counterOf h 6 f x = some (ctr M f : Int) := by have := r_ctr (h := h) (p := 5) (M := M) t.1 ok hx hf; rw [At_put t] at this; exact this
theorem b5_fin (t : At h 5 M) (ok : OkT M) : FX6_finishedTotal h 6 = some (M 1 0 - cnt (unf M) (M 1 0).toNat) := by have := r_fin (h := h) (p := 5) (M := M) t.1 ok; rw [At_put t] at this; exact this
theorem b5_chain (t : At h 5 M) (ok : Ok M) : FX6_longestChain h 6 = some (lgs M (M 1 0).toNat, putM h 5 (chs M (M 1 0).toNat)) := by have := r_chain (h := h) (p := 5) (M := M) t.1 ok; rw [At_put t] at this; exact this
theorem b5_add {d pr ho be : Int} (t : At h 5 M) (h0 : 0 ≤ M 1 0) (h1 : M 1 0 < 32) : FX6_add h 6 d pr ho be = some (putM h 5 (addM M d pr ho be)) := by have := r_add (h := h) (p := 5) (M := M) (d := d) (pr := pr) (ho := ho) (be := be) t.1 h0 h1; rw [At_put t] at this; exact this
theorem b5_sa {c : Nat} (t : At h 5 M) (ok : OkT M) (hc : 1 ≤ c ∧ c ≤ 4) : FX3_startAgainOn h 5 c = some (putM h 5 (saM M c)) := by have := r_saM (h := h) (p := 5) (M := M) (c := c) t.1 ok hc; rw [At_put t] at this; exact this
theorem b27_O0 (t : At h 27 M) : isO h 3 27 = some () := by have := pm_isO0 (h := h) (p := 27) (M := M) t.1; rw [At_put t] at this; exact this
theorem b27_O1 (t : At h 27 M) : isO h 6 28 = some () := by have := pm_isO1 (h := h) (p := 27) (M := M) t.1; rw [At_put t] at this; exact this
theorem b27_O11 (t : At h 27 M) : isO h 0 38 = some () := by have := pm_isO11 (h := h) (p := 27) (M := M) t.1; rw [At_put t] at this; exact this
theorem b27_gfr0_0 (t : At h 27 M) : gfr h 3 27 0 = some 28 := at_gfr0_0 t
theorem b27_gfr0_1 (t : At h 27 M) : gfr h 3 27 1 = some 38 := at_gfr0_1 t
theorem b27_gfr0_2 (t : At h 27 M) : gfr h 3 27 2 = some (M 0 2).toNat := at_gfr0_2 t
theorem b27_gfi0_3 (t : At h 27 M) : gfi h 3 27 3 = some (M 0 3) := at_gfi0_3 t
theorem b27_gfi1_0 (t : At h 27 M) : gfi h 6 28 0 = some (M 1 0) := at_gfi1_0 t
theorem b27_gfi1_1 (t : At h 27 M) : gfi h 6 28 1 = some (M 1 1) := at_gfi1_1 t
theorem b27_gfr1_2 (t : At h 27 M) : gfr h 6 28 2 = some 29 := at_gfr1_2 t
theorem b27_gfr1_3 (t : At h 27 M) : gfr h 6 28 3 = some 30 := at_gfr1_3 t
theorem b27_gfr1_4 (t : At h 27 M) : gfr h 6 28 4 = some 31 := at_gfr1_4 t
theorem b27_gfr1_5 (t : At h 27 M) : gfr h 6 28 5 = some 32 := at_gfr1_5 t
theorem b27_gfr1_6 (t : At h 27 M) : gfr h 6 28 6 = some 33 := at_gfr1_6 t
theorem b27_gfr1_7 (t : At h 27 M) : gfr h 6 28 7 = some 34 := at_gfr1_7 t
theorem b27_gfr1_8 (t : At h 27 M) : gfr h 6 28 8 = some 35 := at_gfr1_8 t
theorem b27_gfr1_9 (t : At h 27 M) : gfr h 6 28 9 = some 36 := at_gfr1_9 t
theorem b27_gfr1_10 (t : At h 27 M) : gfr h 6 28 10 = some 37 := at_gfr1_10 t
theorem b27_gfi11_0 (t : At h 27 M) : gfi h 0 38 0 = some (M 11 0) := at_gfi11_0 t
theorem b27_gfi11_1 (t : At h 27 M) : gfi h 0 38 1 = some (M 11 1) := at_gfi11_1 t
theorem b27_gfi11_2 (t : At h 27 M) : gfi h 0 38 2 = some (M 11 2) := at_gfi11_2 t
theorem b27_gfr11_3 (t : At h 27 M) : gfr h 0 38 3 = some 39 := at_gfr11_3 t
theorem b27_gfr11_4 (t : At h 27 M) : gfr h 0 38 4 = some 40 := at_gfr11_4 t
theorem b27_gfr11_5 (t : At h 27 M) : gfr h 0 38 5 = some 41 := at_gfr11_5 t
theorem b27_gfr11_6 (t : At h 27 M) : gfr h 0 38 6 = some 42 := at_gfr11_6 t
theorem b27_gfr11_7 (t : At h 27 M) : gfr h 0 38 7 = some 43 := at_gfr11_7 t
theorem b27_gfr11_8 (t : At h 27 M) : gfr h 0 38 8 = some 44 := at_gfr11_8 t
theorem b27_gfr11_9 (t : At h 27 M) : gfr h 0 38 9 = some 45 := at_gfr11_9 t
theorem b27_a2 {i : Int} (t : At h 27 M) (h0 : 0 ≤ i) (h1 : i < 32) : ald 0 h 29 i = some (M 2 i.toNat) := at_a2 t h0 h1
theorem b27_s2 {i x : Int} (t : At h 27 M) (h0 : 0 ≤ i) (h1 : i < 32) : ast 0 h 29 i x = some (putM h 27 (up M 2 i.toNat x)) := by have := ps2 (h := h) (p := 27) (M := M) (x := x) t.1 h0 h1; rw [At_put t] at this; exact this
theorem b27_a3 {i : Int} (t : At h 27 M) (h0 : 0 ≤ i) (h1 : i < 32) : ald 0 h 30 i = some (M 3 i.toNat) := at_a3 t h0 h1
theorem b27_s3 {i x : Int} (t : At h 27 M) (h0 : 0 ≤ i) (h1 : i < 32) : ast 0 h 30 i x = some (putM h 27 (up M 3 i.toNat x)) := by have := ps3 (h := h) (p := 27) (M := M) (x := x) t.1 h0 h1; rw [At_put t] at this; exact this
theorem b27_a4 {i : Int} (t : At h 27 M) (h0 : 0 ≤ i) (h1 : i < 32) : ald 0 h 31 i = some (M 4 i.toNat) := at_a4 t h0 h1
theorem b27_s4 {i x : Int} (t : At h 27 M) (h0 : 0 ≤ i) (h1 : i < 32) : ast 0 h 31 i x = some (putM h 27 (up M 4 i.toNat x)) := by have := ps4 (h := h) (p := 27) (M := M) (x := x) t.1 h0 h1; rw [At_put t] at this; exact this
theorem b27_a5 {i : Int} (t : At h 27 M) (h0 : 0 ≤ i) (h1 : i < 32) : ald 0 h 32 i = some (M 5 i.toNat) := at_a5 t h0 h1
theorem b27_s5 {i x : Int} (t : At h 27 M) (h0 : 0 ≤ i) (h1 : i < 32) : ast 0 h 32 i x = some (putM h 27 (up M 5 i.toNat x)) := by have := ps5 (h := h) (p := 27) (M := M) (x := x) t.1 h0 h1; rw [At_put t] at this; exact this
theorem b27_a6 {i : Int} (t : At h 27 M) (h0 : 0 ≤ i) (h1 : i < 32) : ald 0 h 33 i = some (M 6 i.toNat) := at_a6 t h0 h1
theorem b27_s6 {i x : Int} (t : At h 27 M) (h0 : 0 ≤ i) (h1 : i < 32) : ast 0 h 33 i x = some (putM h 27 (up M 6 i.toNat x)) := by have := ps6 (h := h) (p := 27) (M := M) (x := x) t.1 h0 h1; rw [At_put t] at this; exact this
theorem b27_a7 {i : Int} (t : At h 27 M) (h0 : 0 ≤ i) (h1 : i < 32) : ald 0 h 34 i = some (M 7 i.toNat) := at_a7 t h0 h1
theorem b27_s7 {i x : Int} (t : At h 27 M) (h0 : 0 ≤ i) (h1 : i < 32) : ast 0 h 34 i x = some (putM h 27 (up M 7 i.toNat x)) := by have := ps7 (h := h) (p := 27) (M := M) (x := x) t.1 h0 h1; rw [At_put t] at this; exact this
theorem b27_a8 {i : Int} (t : At h 27 M) (h0 : 0 ≤ i) (h1 : i < 32) : ald 0 h 35 i = some (M 8 i.toNat) := at_a8 t h0 h1
theorem b27_s8 {i x : Int} (t : At h 27 M) (h0 : 0 ≤ i) (h1 : i < 32) : ast 0 h 35 i x = some (putM h 27 (up M 8 i.toNat x)) := by have := ps8 (h := h) (p := 27) (M := M) (x := x) t.1 h0 h1; rw [At_put t] at this; exact this
theorem b27_a9 {i : Int} (t : At h 27 M) (h0 : 0 ≤ i) (h1 : i < 8) : ald 0 h 36 i = some (M 9 i.toNat) := at_a9 t h0 h1
theorem b27_s9 {i x : Int} (t : At h 27 M) (h0 : 0 ≤ i) (h1 : i < 8) : ast 0 h 36 i x = some (putM h 27 (up M 9 i.toNat x)) := by have := ps9 (h := h) (p := 27) (M := M) (x := x) t.1 h0 h1; rw [At_put t] at this; exact this
theorem b27_a10 {i : Int} (t : At h 27 M) (h0 : 0 ≤ i) (h1 : i < 32) : ald 0 h 37 i = some (M 10 i.toNat) := at_a10 t h0 h1
theorem b27_s10 {i x : Int} (t : At h 27 M) (h0 : 0 ≤ i) (h1 : i < 32) : ast 0 h 37 i x = some (putM h 27 (up M 10 i.toNat x)) := by have := ps10 (h := h) (p := 27) (M := M) (x := x) t.1 h0 h1; rw [At_put t] at this; exact this
theorem b27_a12 {i : Int} (t : At h 27 M) (h0 : 0 ≤ i) (h1 : i < 32) : ald 0 h 39 i = some (M 12 i.toNat) := at_a12 t h0 h1
theorem b27_s12 {i x : Int} (t : At h 27 M) (h0 : 0 ≤ i) (h1 : i < 32) : ast 0 h 39 i x = some (putM h 27 (up M 12 i.toNat x)) := by have := ps12 (h := h) (p := 27) (M := M) (x := x) t.1 h0 h1; rw [At_put t] at this; exact this
theorem b27_a13 {i : Int} (t : At h 27 M) (h0 : 0 ≤ i) (h1 : i < 4) : ald 0 h 40 i = some (M 13 i.toNat) := at_a13 t h0 h1
theorem b27_s13 {i x : Int} (t : At h 27 M) (h0 : 0 ≤ i) (h1 : i < 4) : ast 0 h 40 i x = some (putM h 27 (up M 13 i.toNat x)) := by have := ps13 (h := h) (p := 27) (M := M) (x := x) t.1 h0 h1; rw [At_put t] at this; exact this
theorem b27_a14 {i : Int} (t : At h 27 M) (h0 : 0 ≤ i) (h1 : i < 4) : ald 0 h 41 i = some (M 14 i.toNat) := at_a14 t h0 h1
theorem b27_s14 {i x : Int} (t : At h 27 M) (h0 : 0 ≤ i) (h1 : i < 4) : ast 0 h 41 i x = some (putM h 27 (up M 14 i.toNat x)) := by have := ps14 (h := h) (p := 27) (M := M) (x := x) t.1 h0 h1; rw [At_put t] at this; exact this
theorem b27_a15 {i : Int} (t : At h 27 M) (h0 : 0 ≤ i) (h1 : i < 4) : ald 0 h 42 i = some (M 15 i.toNat) := at_a15 t h0 h1
theorem b27_s15 {i x : Int} (t : At h 27 M) (h0 : 0 ≤ i) (h1 : i < 4) : ast 0 h 42 i x = some (putM h 27 (up M 15 i.toNat x)) := by have := ps15 (h := h) (p := 27) (M := M) (x := x) t.1 h0 h1; rw [At_put t] at this; exact this
theorem b27_a16 {i : Int} (t : At h 27 M) (h0 : 0 ≤ i) (h1 : i < 4) : ald 0 h 43 i = some (M 16 i.toNat) := at_a16 t h0 h1
theorem b27_s16 {i x : Int} (t : At h 27 M) (h0 : 0 ≤ i) (h1 : i < 4) : ast 0 h 43 i x = some (putM h 27 (up M 16 i.toNat x)) := by have := ps16 (h := h) (p := 27) (M := M) (x := x) t.1 h0 h1; rw [At_put t] at this; exact this
theorem b27_a17 {i : Int} (t : At h 27 M) (h0 : 0 ≤ i) (h1 : i < 4) : ald 0 h 44 i = some (M 17 i.toNat) := at_a17 t h0 h1
theorem b27_s17 {i x : Int} (t : At h 27 M) (h0 : 0 ≤ i) (h1 : i < 4) : ast 0 h 44 i x = some (putM h 27 (up M 17 i.toNat x)) := by have := ps17 (h := h) (p := 27) (M := M) (x := x) t.1 h0 h1; rw [At_put t] at this; exact this
theorem b27_a18 {i : Int} (t : At h 27 M) (h0 : 0 ≤ i) (h1 : i < 4) : ald 2 h 45 i = some (M 18 i.toNat) := at_a18 t h0 h1
theorem b27_s18 {i x : Int} (t : At h 27 M) (h0 : 0 ≤ i) (h1 : i < 4) (h2 : 0 ≤ x) (h3 : x < 2) : ast 2 h 45 i x = some (putM h 27 (up M 18 i.toNat x)) := by have := ps18 (h := h) (p := 27) (M := M) (x := x) t.1 h0 h1 h2 h3; rw [At_put t] at this; exact this
theorem b27_w0_3 {x : Int} (t : At h 27 M) : pfi h 3 27 3 x = some (putM h 27 (up M 0 3 x)) := by have := pm_pfi0_3 (h := h) (p := 27) (M := M) (x := x) t.1; rw [At_put t] at this; exact this
theorem b27_w0_2 {v : Nat} (t : At h 27 M) (hv : v < h.length) : pfr h 3 27 2 v = some (putM h 27 (up M 0 2 v)) := by have := pm_pfr0_2 (h := h) (p := 27) (M := M) (v := v) t.1 hv; rw [At_put t] at this; exact this
theorem b27_w1_0 {x : Int} (t : At h 27 M) : pfi h 6 28 0 x = some (putM h 27 (up M 1 0 x)) := by have := pm_pfi1_0 (h := h) (p := 27) (M := M) (x := x) t.1; rw [At_put t] at this; exact this
theorem b27_w1_1 {x : Int} (t : At h 27 M) : pfi h 6 28 1 x = some (putM h 27 (up M 1 1 x)) := by have := pm_pfi1_1 (h := h) (p := 27) (M := M) (x := x) t.1; rw [At_put t] at this; exact this
theorem b27_w11_0 {x : Int} (t : At h 27 M) : pfi h 0 38 0 x = some (putM h 27 (up M 11 0 x)) := by have := pm_pfi11_0 (h := h) (p := 27) (M := M) (x := x) t.1; rw [At_put t] at this; exact this
theorem b27_w11_1 {x : Int} (t : At h 27 M) : pfi h 0 38 1 x = some (putM h 27 (up M 11 1 x)) := by have := pm_pfi11_1 (h := h) (p := 27) (M := M) (x := x) t.1; rw [At_put t] at this; exact this
theorem b27_w11_2 {x : Int} (t : At h 27 M) : pfi h 0 38 2 x = some (putM h 27 (up M 11 2 x)) := by have := pm_pfi11_2 (h := h) (p := 27) (M := M) (x := x) t.1; rw [At_put t] at this; exact this
theorem b27_unf (t : At h 27 M) (ok : OkT M) : ∃ x, FX6_unfinishedBits h 28 = some x ∧ isU M x := by have := r_unf (h := h) (p := 27) (M := M) t.1 ok; rw [At_put t] at this; exact this
theorem b27_opn {x : Int} {f : Nat} (t : At h 27 M) (ok : OkT M) (hx : isU M x) (hf : (f : Int) < M 1 1) : FX6_opens h 28 f x = some (if opn M f then 1 else 0) := by have := r_opn (h := h) (p := 27) (M := M) t.1 ok hx hf; rw [At_put t] at this; exact this
theorem b27_ctr {x : Int} {f : Nat} (t : At h 27 M) (ok : OkT M) (hx : isU M x) (hf : f < 32) : FX6_counterOf h 28 f x = some (ctr M f : Int) := by have := r_ctr (h := h) (p := 27) (M := M) t.1 ok hx hf; rw [At_put t] at this; exact this
theorem b27_fin (t : At h 27 M) (ok : OkT M) : FX6_finishedTotal h 28 = some (M 1 0 - cnt (unf M) (M 1 0).toNat) := by have := r_fin (h := h) (p := 27) (M := M) t.1 ok; rw [At_put t] at this; exact this
theorem b27_chain (t : At h 27 M) (ok : Ok M) : FX6_longestChain h 28 = some (lgs M (M 1 0).toNat, putM h 27 (chs M (M 1 0).toNat)) := by have := r_chain (h := h) (p := 27) (M := M) t.1 ok; rw [At_put t] at this; exact this
theorem b27_add {d pr ho be : Int} (t : At h 27 M) (h0 : 0 ≤ M 1 0) (h1 : M 1 0 < 32) : FX6_add h 28 d pr ho be = some (putM h 27 (addM M d pr ho be)) := by have := r_add (h := h) (p := 27) (M := M) (d := d) (pr := pr) (ho := ho) (be := be) t.1 h0 h1; rw [At_put t] at this; exact this
theorem b27_sa {c : Nat} (t : At h 27 M) (ok : OkT M) (hc : 1 ≤ c ∧ c ≤ 4) : FX3_startAgainOn h 27 c = some (putM h 27 (saM M c)) := by have := r_saM (h := h) (p := 27) (M := M) (c := c) t.1 ok hc; rw [At_put t] at this; exact this
end
