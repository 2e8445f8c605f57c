set_option linter.unusedVariables false
/-! ===== bits ===== -/
def cnt (f : Nat → Bool) : Nat → Nat
  | 0 => 0
  | n + 1 => cnt f n + if f n then 1 else 0
theorem cnt_congr {f g : Nat → Bool} : ∀ {n : Nat}, (∀ i, i < n → f i = g i) → cnt f n = cnt g n := by
  intro n
  induction n with
  | zero => intro _; rfl
  | succ n ih => intro h; simp only [cnt]; rw [ih (fun i hi => h i (by omega)), h n (by omega)]
theorem cnt_le {f : Nat → Bool} : ∀ n : Nat, cnt f n ≤ n := by
  intro n
  induction n with
  | zero => exact Nat.le_refl _
  | succ n ih => simp only [cnt]; split <;> omega
theorem cnt_add {f : Nat → Bool} (a : Nat) : ∀ b : Nat, cnt f (a + b) = cnt f a + cnt (fun i => f (a + i)) b := by
  intro b
  induction b with
  | zero => rfl
  | succ b ih => rw [← Nat.add_assoc]; simp only [cnt]; rw [ih]; omega
theorem cnt_zero {f : Nat → Bool} : ∀ {n : Nat}, (cnt f n = 0 ↔ ∀ i, i < n → f i = false) := by
  intro n
  induction n with
  | zero => simp [cnt]
  | succ n ih =>
    simp only [cnt, Nat.add_eq_zero_iff, ih]
    constructor
    · rintro ⟨h1, h2⟩ i hi
      rcases Nat.lt_succ_iff_lt_or_eq.mp hi with h | rfl
      · exact h1 i h
      · revert h2; cases f i <;> simp
    · intro h
      exact ⟨fun i hi => h i (by omega), by rw [h n (by omega)]; rfl⟩
theorem and256 {x m : Nat} (y n : Nat) (hx : x < 256) (hm : m < 256) : (256 * y + x) &&& (256 * n + m) = 256 * (y &&& n) + (x &&& m) := by
  apply Nat.eq_of_testBit_eq
  intro j
  have h1 := Nat.testBit_two_pow_mul_add y (i := 8) (b := x) hx j
  have h2 := Nat.testBit_two_pow_mul_add n (i := 8) (b := m) hm j
  have h3 := Nat.testBit_two_pow_mul_add (y &&& n) (i := 8) (b := x &&& m) (Nat.and_lt_two_pow _ hm) j
  simp only [show (2 : Nat) ^ 8 = 256 from rfl] at h1 h2 h3
  rw [Nat.testBit_and, h1, h2, h3]
  split <;> rw [Nat.testBit_and]
def s1 (x : Nat) : Nat := x - ((x / 2) &&& 85)
def s2 (x : Nat) : Nat := (x &&& 51) + ((x / 4) &&& 51)
def s3 (x : Nat) : Nat := (x + x / 16) &&& 15
theorem s1_cross : ∀ x : Nat, x < 256 → ∀ b : Nat, b < 2 → ((x + 256 * b) / 2) &&& 85 = (x / 2) &&& 85 := by decide +kernel
theorem s1_le : ∀ x : Nat, x < 256 → (x / 2) &&& 85 ≤ x := by decide +kernel
theorem s2_cross : ∀ x : Nat, x < 256 → ∀ b : Nat, b < 4 → ((x + 256 * b) / 4) &&& 51 = (x / 4) &&& 51 := by decide +kernel
theorem s12_b : ∀ x : Nat, x < 256 → s1 x < 256 ∧ s2 (s1 x) < 256 ∧ s2 (s1 x) ≤ 68 ∧ s2 (s1 x) % 16 ≤ 4 := by decide +kernel
theorem s3_cross : ∀ x : Nat, x ≤ 68 → ∀ c : Nat, c ≤ 4 → (x + (x + 256 * c) / 16) &&& 15 = s3 x ∧ x + (x + 256 * c) / 16 < 256 := by decide +kernel
theorem pc8 : ∀ x : Nat, x < 256 → s3 (s2 (s1 x)) = cnt (fun i => x.testBit i) 8 := by decide +kernel
theorem t1 (y n : Nat) {x : Nat} (hx : x < 256) (hy : (y / 2) &&& n ≤ y) : (256 * y + x) - (((256 * y + x) / 2) &&& (256 * n + 85)) = 256 * (y - ((y / 2) &&& n)) + s1 x ∧ ((256 * y + x) / 2) &&& (256 * n + 85) ≤ 256 * y + x := by
  have e : (256 * y + x) / 2 = 256 * (y / 2) + (x + 256 * (y % 2)) / 2 := by omega
  have h1 := s1_cross x hx (y % 2) (by omega)
  have h2 := s1_le x hx
  rw [e, and256 _ _ (by omega) (by decide), h1]
  unfold s1
  omega
theorem t2 (y n : Nat) {x : Nat} (hx : x < 256) : ((256 * y + x) &&& (256 * n + 51)) + (((256 * y + x) / 4) &&& (256 * n + 51)) = 256 * ((y &&& n) + ((y / 4) &&& n)) + s2 x := by
  have e : (256 * y + x) / 4 = 256 * (y / 4) + (x + 256 * (y % 4)) / 4 := by omega
  have h1 := s2_cross x hx (y % 4) (by omega)
  rw [e, and256 _ _ hx (by decide), and256 _ _ (by omega) (by decide), h1]
  unfold s2
  omega
theorem t3 (y n : Nat) {x : Nat} (hx : x ≤ 68) (hy : y % 16 ≤ 4) : ((256 * y + x) + (256 * y + x) / 16) &&& (256 * n + 15) = 256 * ((y + y / 16) &&& n) + s3 x := by
  obtain ⟨h1, h2⟩ := s3_cross x hx (y % 16) hy
  have e : (256 * y + x) + (256 * y + x) / 16 = 256 * (y + y / 16) + (x + (x + 256 * (y % 16)) / 16) := by omega
  rw [e, and256 _ _ h2 (by decide), h1]
def pcN (n : Nat) : Nat :=
  let a := n - ((n / 2) &&& 1431655765)
  let b := (a &&& 858993459) + ((a / 4) &&& 858993459)
  let c := (b + b / 16) &&& 252645135
  let d := c + c / 256
  (d + d / 65536) % 64
theorem cnt8 (y : Nat) {x k : Nat} (hx : x < 256) : cnt (fun i => (256 * y + x).testBit i) (8 + k) = cnt (fun i => x.testBit i) 8 + cnt (fun i => y.testBit i) k := by
  rw [cnt_add]
  congr 1
  · refine cnt_congr (fun i hi => ?_)
    have h1 := Nat.testBit_two_pow_mul_add y (i := 8) (b := x) hx i
    simp only [show (2 : Nat) ^ 8 = 256 from rfl] at h1
    rw [h1, if_pos hi]
  · refine cnt_congr (fun i hi => ?_)
    have h1 := Nat.testBit_two_pow_mul_add y (i := 8) (b := x) hx (8 + i)
    simp only [show (2 : Nat) ^ 8 = 256 from rfl] at h1
    rw [h1, if_neg (by omega)]
    congr 1; omega
theorem pc_last {a b c d : Nat} (ha : a ≤ 8) (hb : b ≤ 8) (hc : c ≤ 8) (hd : d ≤ 8) : (256 * (256 * (256 * d + c) + b) + a + (256 * (256 * (256 * d + c) + b) + a) / 256 + (256 * (256 * (256 * d + c) + b) + a + (256 * (256 * (256 * d + c) + b) + a) / 256) / 65536) % 64 = a + (b + (c + d)) := by
  have e1 : (256 * (256 * (256 * d + c) + b) + a) / 256 = 256 * (256 * d + c) + b := by omega
  rw [e1]
  have e2 : (256 * (256 * (256 * d + c) + b) + a + (256 * (256 * d + c) + b)) / 65536 = 256 * d + c + d := by omega
  rw [e2]
  omega
theorem pc_bytes {a b c d : Nat} (ha : a < 256) (hb : b < 256) (hc : c < 256) (hd : d < 256) : pcN (256 * (256 * (256 * d + c) + b) + a) = cnt (fun i => (256 * (256 * (256 * d + c) + b) + a).testBit i) 32 ∧ (((256 * (256 * (256 * d + c) + b) + a) / 2) &&& 1431655765 ≤ 256 * (256 * (256 * d + c) + b) + a) := by
  have z1 := t1 (256 * (256 * d + c) + b) 5592405 ha (t1 (256 * d + c) 21845 hb (t1 d 85 hc (by simpa using s1_le d hd)).2).2
  have z1b := (t1 (256 * d + c) 21845 hb (t1 d 85 hc (s1_le d hd)).2)
  have z1c := (t1 d 85 hc (s1_le d hd))
  have e1 : (256 * (256 * (256 * d + c) + b) + a) - (((256 * (256 * (256 * d + c) + b) + a) / 2) &&& 1431655765) = 256 * (256 * (256 * s1 d + s1 c) + s1 b) + s1 a := by
    have := z1.1
    rw [z1b.1, z1c.1] at this
    exact this
  obtain ⟨a1, a2, a3, a4⟩ := s12_b a ha
  obtain ⟨b1, b2, b3, b4⟩ := s12_b b hb
  obtain ⟨c1, c2, c3, c4⟩ := s12_b c hc
  obtain ⟨d1, d2, d3, d4⟩ := s12_b d hd
  refine ⟨?_, z1.2⟩
  have e2 : ((256 * (256 * (256 * s1 d + s1 c) + s1 b) + s1 a) &&& 858993459) + (((256 * (256 * (256 * s1 d + s1 c) + s1 b) + s1 a) / 4) &&& 858993459) = 256 * (256 * (256 * s2 (s1 d) + s2 (s1 c)) + s2 (s1 b)) + s2 (s1 a) := by
    have := t2 (256 * (256 * s1 d + s1 c) + s1 b) 3355443 a1
    rw [t2 (256 * s1 d + s1 c) 13107 b1, t2 (s1 d) 51 c1] at this
    exact this
  have e3 : ((256 * (256 * (256 * s2 (s1 d) + s2 (s1 c)) + s2 (s1 b)) + s2 (s1 a)) + (256 * (256 * (256 * s2 (s1 d) + s2 (s1 c)) + s2 (s1 b)) + s2 (s1 a)) / 16) &&& 252645135 = 256 * (256 * (256 * s3 (s2 (s1 d)) + s3 (s2 (s1 c))) + s3 (s2 (s1 b))) + s3 (s2 (s1 a)) := by
    have := t3 (256 * (256 * s2 (s1 d) + s2 (s1 c)) + s2 (s1 b)) 986895 a3 (by omega)
    rw [t3 (256 * s2 (s1 d) + s2 (s1 c)) 3855 b3 (by omega), t3 (s2 (s1 d)) 15 c3 (by omega)] at this
    exact this
  unfold pcN
  simp only [e1, e2, e3]
  rw [cnt8 (k := 24) _ ha, cnt8 (k := 16) _ hb, cnt8 (k := 8) _ hc, pc8 a ha, pc8 b hb, pc8 c hc, pc8 d hd]
  have ka := cnt_le (f := fun i => a.testBit i) 8
  have kb := cnt_le (f := fun i => b.testBit i) 8
  have kc := cnt_le (f := fun i => c.testBit i) 8
  have kd := cnt_le (f := fun i => d.testBit i) 8
  exact pc_last ka kb kc kd
theorem pcN_eq {n : Nat} (hn : n < 4294967296) : pcN n = cnt (fun i => n.testBit i) 32 ∧ ((n / 2) &&& 1431655765 ≤ n) := by
  have e : n = 256 * (256 * (256 * (n / 16777216) + n / 65536 % 256) + n / 256 % 256) + n % 256 := by omega
  have := pc_bytes (a := n % 256) (b := n / 256 % 256) (c := n / 65536 % 256) (d := n / 16777216) (by omega) (by omega) (by omega) (by omega)
  rw [← e] at this
  exact this
/-- the bits of an int -/
def bv (x : Int) : BitVec 32 := (Int32.ofInt x).toBitVec
def tb (x : Int) (i : Nat) : Bool := (bv x).getLsbD i
theorem bv_toInt (x : Int32) : bv x.toInt = x.toBitVec := by unfold bv; rw [Int32.ofInt_toInt]
theorem bv_and (x y : Int) : bv (andI x y) = bv x &&& bv y := by unfold andI; rw [bv_toInt, Int32.toBitVec_and]; rfl
theorem bv_or (x y : Int) : bv (orI x y) = bv x ||| bv y := by unfold orI; rw [bv_toInt, Int32.toBitVec_or]; rfl
theorem bv_add (x y : Int) : bv (x + y) = bv x + bv y := by unfold bv; rw [Int32.ofInt_add, Int32.toBitVec_add]
theorem bv_sub (x y : Int) : bv (x - y) = bv x - bv y := by unfold bv; rw [Int32.ofInt_sub, Int32.toBitVec_sub]
theorem sh_lit : ∀ t : Nat, t < 32 → ((Int32.ofInt (t : Int)).toUInt32 &&& Int32.toUInt32 31).toBitVec % 32 = BitVec.ofNat 32 t := by decide +kernel
theorem sh_lit2 : ∀ t : Nat, t < 32 → (Int32.ofInt (t : Int) &&& 31).toBitVec.smod 32 = BitVec.ofNat 32 t := by decide +kernel
theorem bv_ushr (x : Int) {t : Nat} (ht : t < 32) : bv (ushrI x (t : Int)) = bv x >>> t := by
  unfold ushrI
  rw [bv_toInt, UInt32.toBitVec_toInt32, UInt32.toBitVec_shiftRight, sh_lit t ht, Int32.toBitVec_toUInt32]
  unfold bv
  rw [BitVec.ushiftRight_eq']
  congr 1
  simp; omega
theorem bv_shr (x : Int) {t : Nat} (ht : t < 32) : bv (shrI x (t : Int)) = (bv x).sshiftRight t := by
  unfold shrI
  rw [bv_toInt, Int32.toBitVec_shiftRight, sh_lit2 t ht]
  unfold bv
  rw [BitVec.sshiftRight_eq']
  congr 1
  simp; omega
theorem bv_shl (x : Int) {t : Nat} (ht : t < 32) : bv (shlI x (t : Int)) = bv x <<< t := by
  unfold shlI
  rw [bv_toInt, Int32.toBitVec_shiftLeft, sh_lit2 t ht]
  unfold bv
  rw [BitVec.shiftLeft_eq']
  congr 1
  simp; omega
theorem bv_inj {x y : Int} : bv x = bv y ↔ w32 x = w32 y := by
  unfold bv w32
  constructor
  · intro h
    have : Int32.ofInt x = Int32.ofInt y := Int32.toBitVec_inj.mp h
    rw [this]
  · intro h
    have : Int32.ofInt x = Int32.ofInt y := Int32.toInt_inj.mp h
    rw [this]
theorem w32_bv (x : Int) : w32 x = (bv x).toInt := rfl
theorem andI_w (x y : Int) : w32 (andI x y) = andI x y := by unfold andI w32; rw [Int32.ofInt_toInt]
theorem tb_and (x y : Int) (i : Nat) : tb (andI x y) i = (tb x i && tb y i) := by unfold tb; rw [bv_and, BitVec.getLsbD_and]
theorem tb_or (x y : Int) (i : Nat) : tb (orI x y) i = (tb x i || tb y i) := by unfold tb; rw [bv_or, BitVec.getLsbD_or]
theorem tb_bit {t i : Nat} (ht : t < 32) (hi : i < 32) : tb (shlI 1 (t : Int)) i = decide (i = t) := by
  unfold tb
  rw [bv_shl 1 ht]
  have : ∀ t : Nat, t < 32 → ∀ i : Nat, i < 32 → (bv 1 <<< t).getLsbD i = decide (i = t) := by decide +kernel
  exact this t ht i hi
theorem tb_zero (i : Nat) : tb 0 i = false := by
  unfold tb
  rw [show bv 0 = 0#32 from rfl]
  exact BitVec.getLsbD_zero
/-- the test of one bit -/
theorem bit1 (b : BitVec 32) : b &&& 1#32 = if b.getLsbD 0 then 1#32 else 0#32 := by
  apply BitVec.eq_of_getLsbD_eq
  intro i hi
  rw [BitVec.getLsbD_and]
  cases h : b.getLsbD 0
  · by_cases h0 : i = 0
    · subst h0; rw [h]; simp
    · simp [h0]
  · by_cases h0 : i = 0
    · subst h0; rw [h]; simp
    · simp [h0]
theorem ushr_bit (x : Int) {t : Nat} (ht : t < 32) : andI (ushrI x (t : Int)) 1 = if tb x t then 1 else 0 := by
  rw [← andI_w, w32_bv, bv_and, bv_ushr x ht, show bv 1 = 1#32 from rfl, bit1]
  unfold tb
  rw [BitVec.getLsbD_ushiftRight, Nat.add_zero]
  cases (bv x).getLsbD t <;> rfl
theorem shr_bit (x : Int) {t : Nat} (ht : t < 32) : andI (shrI x (t : Int)) 1 = if tb x t then 1 else 0 := by
  rw [← andI_w, w32_bv, bv_and, bv_shr x ht, show bv 1 = 1#32 from rfl, bit1]
  unfold tb
  rw [BitVec.getLsbD_sshiftRight]
  simp only [Nat.add_zero, ht, if_true]
  cases (bv x).getLsbD t <;> rfl
/-- an int is 0 where no bit is set -/
theorem tb_eq0 (x : Int) : w32 x = 0 ↔ ∀ i, i < 32 → tb x i = false := by
  rw [show (0 : Int) = w32 0 from rfl, ← bv_inj]
  constructor
  · intro h i _
    have := tb_zero i
    unfold tb at this ⊢
    rw [h]; exact this
  · intro h
    apply BitVec.eq_of_getLsbD_eq
    intro i hi
    have := tb_zero i
    unfold tb at this
    rw [this]
    exact h i hi
theorem and_le2 (a b : Nat) : a &&& b ≤ b := Nat.and_le_right
theorem pcB (b A B C D : BitVec 32) (hA : A = b - (b >>> 1 &&& 1431655765#32)) (hB : B = (A &&& 858993459#32) + (A >>> 2 &&& 858993459#32)) (hC : C = (B + B >>> 4) &&& 252645135#32) (hD : D = C + C >>> 8) : ((D + D >>> 16) &&& 63#32).toNat = pcN b.toNat := by
  obtain ⟨-, hle⟩ := pcN_eq b.isLt
  have nA : A.toNat = b.toNat - ((b.toNat / 2) &&& 1431655765) := by
    have hb := b.isLt
    rw [hA, BitVec.toNat_sub, BitVec.toNat_and, BitVec.toNat_ushiftRight, BitVec.toNat_ofNat, Nat.shiftRight_eq_div_pow]
    simp only [show 1431655765 % 2 ^ 32 = 1431655765 from rfl, Nat.pow_one]
    omega
  have nB : B.toNat = (A.toNat &&& 858993459) + ((A.toNat / 4) &&& 858993459) := by
    have h1 := and_le2 A.toNat 858993459
    have h2 := and_le2 (A.toNat / 4) 858993459
    rw [hB, BitVec.toNat_add, BitVec.toNat_and, BitVec.toNat_and, BitVec.toNat_ushiftRight, BitVec.toNat_ofNat, Nat.shiftRight_eq_div_pow]
    simp only [show 858993459 % 2 ^ 32 = 858993459 from rfl, show 2 ^ 2 = 4 from rfl]
    omega
  have bB : B.toNat ≤ 1717986918 := by
    have h1 := and_le2 A.toNat 858993459
    have h2 := and_le2 (A.toNat / 4) 858993459
    omega
  have nC : C.toNat = (B.toNat + B.toNat / 16) &&& 252645135 := by
    rw [hC, BitVec.toNat_and, BitVec.toNat_add, BitVec.toNat_ushiftRight, BitVec.toNat_ofNat, Nat.shiftRight_eq_div_pow]
    simp only [show 252645135 % 2 ^ 32 = 252645135 from rfl, show 2 ^ 4 = 16 from rfl]
    rw [Nat.mod_eq_of_lt (by omega)]
  have bC : C.toNat ≤ 252645135 := by rw [nC]; exact and_le2 _ _
  have nD : D.toNat = C.toNat + C.toNat / 256 := by
    rw [hD, BitVec.toNat_add, BitVec.toNat_ushiftRight, Nat.shiftRight_eq_div_pow]
    simp only [show 2 ^ 8 = 256 from rfl]
    omega
  rw [BitVec.toNat_and, BitVec.toNat_add, BitVec.toNat_ushiftRight, BitVec.toNat_ofNat, Nat.shiftRight_eq_div_pow]
  simp only [show 63 % 2 ^ 32 = 2 ^ 6 - 1 from rfl, show 2 ^ 16 = 65536 from rfl]
  rw [Nat.mod_eq_of_lt (show D.toNat + D.toNat / 65536 < 2 ^ 32 by omega), Nat.and_two_pow_sub_one_eq_mod, nD, nC, nB, nA]
  rfl
theorem bitCount_eq (h : PH) (x : Int) : FJ6_bitCount_0f7a4 h x = some ((cnt (tb x) 32 : Nat) : Int) := by
  unfold FJ6_bitCount_0f7a4
  congr 1
  rw [← andI_w, w32_bv]
  simp only [bv_and, bv_add, bv_sub]
  rw [show (1 : Int) = ((1 : Nat) : Int) from rfl, show (2 : Int) = ((2 : Nat) : Int) from rfl, show (4 : Int) = ((4 : Nat) : Int) from rfl, show (8 : Int) = ((8 : Nat) : Int) from rfl, show (16 : Int) = ((16 : Nat) : Int) from rfl]
  simp only [bv_ushr _ (show 1 < 32 by decide), bv_ushr _ (show 2 < 32 by decide), bv_ushr _ (show 4 < 32 by decide), bv_ushr _ (show 8 < 32 by decide), bv_ushr _ (show 16 < 32 by decide), bv_and, bv_add, bv_sub]
  rw [show bv 1431655765 = 1431655765#32 from rfl, show bv 858993459 = 858993459#32 from rfl, show bv 252645135 = 252645135#32 from rfl, show bv 63 = 63#32 from rfl]
  have e := pcB (bv x) _ _ _ _ rfl rfl rfl rfl
  have e2 := (pcN_eq (bv x).isLt).1
  have e3 : cnt (fun i => (bv x).toNat.testBit i) 32 = cnt (tb x) 32 := cnt_congr (fun i hi => BitVec.testBit_toNat _)
  have e4 := cnt_le (f := tb x) 32
  rw [BitVec.toInt_eq_toNat_of_lt (by rw [e, e2, e3]; omega), e, e2, e3]
