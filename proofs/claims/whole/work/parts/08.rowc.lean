section PW
variable {p : Program} {l : Launch} {e : Env} {R : Room} {s : State} {m : MethodId} {args : Array Value} {below : List Frame} {meth : Method} {c : Code} {H : Heap} {locs : List Loc} {cells slots : Nat} {Q : State → Prop}
variable {cc : ByteArray} {pc : Nat} {ls : Array Slot} {rest : List Value} {g : GP} {ad : Nat → Nat} {h h' : PH} {own : String} {nL : Nat} {ret : Option FieldType}
def andI (x y : Int) : Int := (Int32.ofInt x &&& Int32.ofInt y).toInt
def orI (x y : Int) : Int := (Int32.ofInt x ||| Int32.ofInt y).toInt
def shlI (x y : Int) : Int := (Int32.ofInt x <<< (Int32.ofInt y &&& 31)).toInt
def shrI (x y : Int) : Int := (Int32.ofInt x >>> (Int32.ofInt y &&& 31)).toInt
def ushrI (x y : Int) : Int := ((Int32.ofInt x).toUInt32 >>> ((Int32.ofInt y).toUInt32 &&& Int32.toUInt32 31)).toInt32.toInt
def remI (x y : Int) : Int := (Int32.ofInt x - Int32.ofInt x / Int32.ofInt y * Int32.ofInt y).toInt
def divL (x y : Int) : Int := (Int64.ofInt x / Int64.ofInt y).toInt
def sbI (x : Int) : Int := (Int32.ofInt x).toInt8.toInt32.toInt
def cmpL (x y : Int) : Int := if w64 x < w64 y then -1 else if w64 x = w64 y then 0 else 1
theorem pw_iadd (C : Cx g p s m args meth c cc nL own ret) {x y : Int} (hdg : decode cc pc = .ok (.iadd, 1))
    (kk : W p l e R s m args below meth c H locs cells slots Q (F0 m (pc + 1) ls (.int (Int32.ofInt (x + y)) :: rest))) : W p l e R s m args below meth c H locs cells slots Q (F0 m pc ls (.int (Int32.ofInt y) :: .int (Int32.ofInt x) :: rest)) := lv_iadd C.1 C.2.1 hdg (by rw [← Int32.ofInt_add]; exact kk)
theorem pw_isub (C : Cx g p s m args meth c cc nL own ret) {x y : Int} (hdg : decode cc pc = .ok (.isub, 1))
    (kk : W p l e R s m args below meth c H locs cells slots Q (F0 m (pc + 1) ls (.int (Int32.ofInt (x - y)) :: rest))) : W p l e R s m args below meth c H locs cells slots Q (F0 m pc ls (.int (Int32.ofInt y) :: .int (Int32.ofInt x) :: rest)) := lv_isub C.1 C.2.1 hdg (by rw [← Int32.ofInt_sub]; exact kk)
theorem pw_imul (C : Cx g p s m args meth c cc nL own ret) {x y : Int} (hdg : decode cc pc = .ok (.imul, 1))
    (kk : W p l e R s m args below meth c H locs cells slots Q (F0 m (pc + 1) ls (.int (Int32.ofInt (x * y)) :: rest))) : W p l e R s m args below meth c H locs cells slots Q (F0 m pc ls (.int (Int32.ofInt y) :: .int (Int32.ofInt x) :: rest)) := lv_imul C.1 C.2.1 hdg (by rw [← Int32.ofInt_mul]; exact kk)
theorem pw_ladd (C : Cx g p s m args meth c cc nL own ret) {x y : Int} (hdg : decode cc pc = .ok (.ladd, 1))
    (kk : W p l e R s m args below meth c H locs cells slots Q (F0 m (pc + 1) ls (.long (Int64.ofInt (x + y)) :: rest))) : W p l e R s m args below meth c H locs cells slots Q (F0 m pc ls (.long (Int64.ofInt y) :: .long (Int64.ofInt x) :: rest)) := lv_ladd C.1 C.2.1 hdg (by rw [← Int64.ofInt_add]; exact kk)
theorem pw_lsub (C : Cx g p s m args meth c cc nL own ret) {x y : Int} (hdg : decode cc pc = .ok (.lsub, 1))
    (kk : W p l e R s m args below meth c H locs cells slots Q (F0 m (pc + 1) ls (.long (Int64.ofInt (x - y)) :: rest))) : W p l e R s m args below meth c H locs cells slots Q (F0 m pc ls (.long (Int64.ofInt y) :: .long (Int64.ofInt x) :: rest)) := lv_lsub C.1 C.2.1 hdg (by rw [← Int64.ofInt_sub]; exact kk)
theorem pw_lmul (C : Cx g p s m args meth c cc nL own ret) {x y : Int} (hdg : decode cc pc = .ok (.lmul, 1))
    (kk : W p l e R s m args below meth c H locs cells slots Q (F0 m (pc + 1) ls (.long (Int64.ofInt (x * y)) :: rest))) : W p l e R s m args below meth c H locs cells slots Q (F0 m pc ls (.long (Int64.ofInt y) :: .long (Int64.ofInt x) :: rest)) := lv_lmul C.1 C.2.1 hdg (by rw [← Int64.ofInt_mul]; exact kk)
theorem pw_iand (C : Cx g p s m args meth c cc nL own ret) {x y : Int} (hdg : decode cc pc = .ok (.iand, 1))
    (kk : W p l e R s m args below meth c H locs cells slots Q (F0 m (pc + 1) ls (.int (Int32.ofInt (andI x y)) :: rest))) : W p l e R s m args below meth c H locs cells slots Q (F0 m pc ls (.int (Int32.ofInt y) :: .int (Int32.ofInt x) :: rest)) := lv_iand C.1 C.2.1 hdg (by unfold andI at kk; rw [Int32.ofInt_toInt] at kk; exact kk)
theorem pw_ior (C : Cx g p s m args meth c cc nL own ret) {x y : Int} (hdg : decode cc pc = .ok (.ior, 1))
    (kk : W p l e R s m args below meth c H locs cells slots Q (F0 m (pc + 1) ls (.int (Int32.ofInt (orI x y)) :: rest))) : W p l e R s m args below meth c H locs cells slots Q (F0 m pc ls (.int (Int32.ofInt y) :: .int (Int32.ofInt x) :: rest)) := lv_ior C.1 C.2.1 hdg (by unfold orI at kk; rw [Int32.ofInt_toInt] at kk; exact kk)
theorem pw_ishl (C : Cx g p s m args meth c cc nL own ret) {x y : Int} (hdg : decode cc pc = .ok (.ishl, 1))
    (kk : W p l e R s m args below meth c H locs cells slots Q (F0 m (pc + 1) ls (.int (Int32.ofInt (shlI x y)) :: rest))) : W p l e R s m args below meth c H locs cells slots Q (F0 m pc ls (.int (Int32.ofInt y) :: .int (Int32.ofInt x) :: rest)) := lv_ishl C.1 C.2.1 hdg (by unfold shlI at kk; rw [Int32.ofInt_toInt] at kk; exact kk)
theorem pw_ishr (C : Cx g p s m args meth c cc nL own ret) {x y : Int} (hdg : decode cc pc = .ok (.ishr, 1))
    (kk : W p l e R s m args below meth c H locs cells slots Q (F0 m (pc + 1) ls (.int (Int32.ofInt (shrI x y)) :: rest))) : W p l e R s m args below meth c H locs cells slots Q (F0 m pc ls (.int (Int32.ofInt y) :: .int (Int32.ofInt x) :: rest)) := lv_ishr C.1 C.2.1 hdg (by unfold shrI at kk; rw [Int32.ofInt_toInt] at kk; exact kk)
theorem pw_iushr (C : Cx g p s m args meth c cc nL own ret) {x y : Int} (hdg : decode cc pc = .ok (.iushr, 1))
    (kk : W p l e R s m args below meth c H locs cells slots Q (F0 m (pc + 1) ls (.int (Int32.ofInt (ushrI x y)) :: rest))) : W p l e R s m args below meth c H locs cells slots Q (F0 m pc ls (.int (Int32.ofInt y) :: .int (Int32.ofInt x) :: rest)) := lv_iushr C.1 C.2.1 hdg rfl (by unfold ushrI at kk; rw [Int32.ofInt_toInt] at kk; exact kk)
theorem pw_irem (C : Cx g p s m args meth c cc nL own ret) {x y : Int} (hne : w32 y ≠ 0) (hdg : decode cc pc = .ok (.irem, 1))
    (kk : W p l e R s m args below meth c H locs cells slots Q (F0 m (pc + 1) ls (.int (Int32.ofInt (remI x y)) :: rest))) : W p l e R s m args below meth c H locs cells slots Q (F0 m pc ls (.int (Int32.ofInt y) :: .int (Int32.ofInt x) :: rest)) := lv_irem C.1 C.2.1 hdg (fun q => hne (by unfold w32; rw [q]; rfl)) (by unfold remI at kk; rw [Int32.ofInt_toInt] at kk; exact kk)
theorem pw_ldiv (C : Cx g p s m args meth c cc nL own ret) {x y : Int} (hne : w64 y ≠ 0) (hdg : decode cc pc = .ok (.ldiv, 1))
    (kk : W p l e R s m args below meth c H locs cells slots Q (F0 m (pc + 1) ls (.long (Int64.ofInt (divL x y)) :: rest))) : W p l e R s m args below meth c H locs cells slots Q (F0 m pc ls (.long (Int64.ofInt y) :: .long (Int64.ofInt x) :: rest)) := lv_ldiv C.1 C.2.1 hdg (fun q => hne (by unfold w64; rw [q]; rfl)) (by unfold divL at kk; rw [Int64.ofInt_toInt] at kk; exact kk)
theorem pw_i2l (C : Cx g p s m args meth c cc nL own ret) {x : Int} (hdg : decode cc pc = .ok (.i2l, 1))
    (kk : W p l e R s m args below meth c H locs cells slots Q (F0 m (pc + 1) ls (.long (Int64.ofInt (w32 x)) :: rest))) : W p l e R s m args below meth c H locs cells slots Q (F0 m pc ls (.int (Int32.ofInt x) :: rest)) := lv_i2l C.1 C.2.1 hdg (v := Int64.ofInt (w32 x)) (by unfold w32; first | rw [Int64.ofInt_int32ToInt] | rw [Int32.toInt64, Int64.ofInt] | simp) kk
theorem pw_l2i (C : Cx g p s m args meth c cc nL own ret) {x : Int} (hdg : decode cc pc = .ok (.l2i, 1))
    (kk : W p l e R s m args below meth c H locs cells slots Q (F0 m (pc + 1) ls (.int (Int32.ofInt x) :: rest))) : W p l e R s m args below meth c H locs cells slots Q (F0 m pc ls (.long (Int64.ofInt x) :: rest)) := lv_l2i C.1 C.2.1 hdg (v := Int32.ofInt x) (by first | rw [Int64.toInt32_ofInt] | simp) kk
theorem pw_i2b (C : Cx g p s m args meth c cc nL own ret) {x : Int} (hdg : decode cc pc = .ok (.i2b, 1))
    (kk : W p l e R s m args below meth c H locs cells slots Q (F0 m (pc + 1) ls (.int (Int32.ofInt (sbI x)) :: rest))) : W p l e R s m args below meth c H locs cells slots Q (F0 m pc ls (.int (Int32.ofInt x) :: rest)) := lv_i2b C.1 C.2.1 hdg (v := Int32.ofInt (sbI x)) (by unfold sbI; rw [Int32.ofInt_toInt]) kk
theorem pw_iconst (C : Cx g p s m args meth c cc nL own ret) {n : Int} (hdg : decode cc pc = .ok (.iconst n, 1))
    (kk : W p l e R s m args below meth c H locs cells slots Q (F0 m (pc + 1) ls (.int (Int32.ofInt n) :: rest))) : W p l e R s m args below meth c H locs cells slots Q (F0 m pc ls rest) := lv_iconst C.1 C.2.1 hdg rfl kk
theorem pw_bipush (C : Cx g p s m args meth c cc nL own ret) {n : Int} (hdg : decode cc pc = .ok (.bipush n, 2)) (hn : (Int8.ofInt n).toInt32 = Int32.ofInt n)
    (kk : W p l e R s m args below meth c H locs cells slots Q (F0 m (pc + 2) ls (.int (Int32.ofInt n) :: rest))) : W p l e R s m args below meth c H locs cells slots Q (F0 m pc ls rest) := lv_bipush C.1 C.2.1 hdg hn kk
theorem pw_sipush (C : Cx g p s m args meth c cc nL own ret) {n : Int} (hdg : decode cc pc = .ok (.sipush n, 3)) (hn : (Int16.ofInt n).toInt32 = Int32.ofInt n)
    (kk : W p l e R s m args below meth c H locs cells slots Q (F0 m (pc + 3) ls (.int (Int32.ofInt n) :: rest))) : W p l e R s m args below meth c H locs cells slots Q (F0 m pc ls rest) := lv_sipush C.1 C.2.1 hdg hn kk
theorem pw_lconst (C : Cx g p s m args meth c cc nL own ret) {n : Fin 2} (x : Int) (hdg : decode cc pc = .ok (.lconst n, 1)) (hx : Int64.ofNat (n : Nat) = Int64.ofInt x)
    (kk : W p l e R s m args below meth c H locs cells slots Q (F0 m (pc + 1) ls (.long (Int64.ofInt x) :: rest))) : W p l e R s m args below meth c H locs cells slots Q (F0 m pc ls rest) := lv_lconst C.1 C.2.1 hdg (v := Int64.ofInt x) hx kk
theorem pw_ldc (C : Cx g p s m args meth c cc nL own ret) {index : Nat} (n : Int) (hw : Cond.constant own index (Int32.ofInt n) ∈ TBg) (hdg : decode cc pc = .ok (.ldc index, 2))
    (kk : W p l e R s m args below meth c H locs cells slots Q (F0 m (pc + 2) ls (.int (Int32.ofInt n) :: rest))) : W p l e R s m args below meth c H locs cells slots Q (F0 m pc ls rest) := lv_ldc C.1 C.2.1 C.2.2.2.1 (C.2.2.2.2.1 _ hw) hdg kk
theorem pw_ldcw (C : Cx g p s m args meth c cc nL own ret) {index : Nat} (n : Int) (hw : Cond.constant own index (Int32.ofInt n) ∈ TBg) (hdg : decode cc pc = .ok (.ldc_w index, 3))
    (kk : W p l e R s m args below meth c H locs cells slots Q (F0 m (pc + 3) ls (.int (Int32.ofInt n) :: rest))) : W p l e R s m args below meth c H locs cells slots Q (F0 m pc ls rest) := lv_ldcw C.1 C.2.1 C.2.2.2.1 (C.2.2.2.2.1 _ hw) hdg kk
theorem pw_ldc2 (C : Cx g p s m args meth c cc nL own ret) {index : Nat} (n : Int) (hw : Cond.constantLong own index (Int64.ofInt n) ∈ TBg) (hdg : decode cc pc = .ok (.ldc2_w index, 3))
    (kk : W p l e R s m args below meth c H locs cells slots Q (F0 m (pc + 3) ls (.long (Int64.ofInt n) :: rest))) : W p l e R s m args below meth c H locs cells slots Q (F0 m pc ls rest) := lv_ldc2 C.1 C.2.1 C.2.2.2.1 (C.2.2.2.2.1 _ hw) hdg kk
theorem pw_goto (C : Cx g p s m args meth c cc nL own ret) {off : Int} (tgt : Nat) (hdg : decode cc pc = .ok (.goto off, 3)) (ht : (pc : Int) + off = (tgt : Int)) (kk : W p l e R s m args below meth c H locs cells slots Q (F0 m tgt ls rest)) : W p l e R s m args below meth c H locs cells slots Q (F0 m pc ls rest) := lv_goto C.1 C.2.1 hdg ht kk
theorem pw_iinc (C : Cx g p s m args meth c cc nL own ret) {i nL' : Nat} {n x : Int} {lv lv' : List (Nat × Value)} (h : lv_has ls nL' lv) (k : Nat) (hdg : decode cc pc = .ok (.iinc i n, 3)) (hk : lv[k]? = some (i, .int (Int32.ofInt x))) (hn : i < nL') (hl : (i, Value.int (Int32.ofInt (x + n))) :: lv.filter (fun q => !(q.1 == i) && !(q.1 + 1 == i && q.2.category == 2)) = lv')
    (kk : ∀ ls' : Array Slot, lv_has ls' nL' lv' → W p l e R s m args below meth c H locs cells slots Q (F0 m (pc + 3) ls' rest)) : W p l e R s m args below meth c H locs cells slots Q (F0 m pc ls rest) := lv_iinc C.1 C.2.1 hdg h hk (v := Int32.ofInt (x + n)) (by rw [Int32.ofInt_add]) hn hl kk
theorem z32 {x : Int} : Int32.ofInt x = 0 ↔ w32 x = 0 := by
  rw [show (0 : Int32) = Int32.ofInt 0 from rfl, o32_inj, w32_eq (x := 0) (by decide) (by decide)]
theorem z32lt {x : Int} : Int32.ofInt x < 0 ↔ w32 x < 0 := by
  rw [show (0 : Int32) = Int32.ofInt 0 from rfl, o32_lt, w32_eq (x := 0) (by decide) (by decide)]
theorem z32le {x : Int} : Int32.ofInt x ≤ 0 ↔ w32 x ≤ 0 := by
  rw [show (0 : Int32) = Int32.ofInt 0 from rfl, o32_le, w32_eq (x := 0) (by decide) (by decide)]
theorem z32gt {x : Int} : 0 < Int32.ofInt x ↔ 0 < w32 x := by
  rw [show (0 : Int32) = Int32.ofInt 0 from rfl, o32_lt, w32_eq (x := 0) (by decide) (by decide)]
theorem z32ge {x : Int} : 0 ≤ Int32.ofInt x ↔ 0 ≤ w32 x := by
  rw [show (0 : Int32) = Int32.ofInt 0 from rfl, o32_le, w32_eq (x := 0) (by decide) (by decide)]
theorem pw_ifeq (C : Cx g p s m args meth c cc nL own ret) {x off : Int} (tgt : Nat) (hdg : decode cc pc = .ok (.ifCond .eq off, 3)) (ht : (pc : Int) + off = (tgt : Int))
    (kt : w32 x = 0 → W p l e R s m args below meth c H locs cells slots Q (F0 m tgt ls rest)) (kf : ¬ (w32 x = 0) → W p l e R s m args below meth c H locs cells slots Q (F0 m (pc + 3) ls rest)) : W p l e R s m args below meth c H locs cells slots Q (F0 m pc ls (.int (Int32.ofInt x) :: rest)) :=
  lv_if_eq C.1 C.2.1 hdg ht (fun q => kt (by have q := q; simp only [ne_eq, ge_iff_le, gt_iff_lt, Decidable.not_not, z32, z32lt, z32le, z32gt, z32ge] at q; omega)) (fun q => kf (by have q := q; simp only [ne_eq, ge_iff_le, gt_iff_lt, Decidable.not_not, z32, z32lt, z32le, z32gt, z32ge] at q; omega))
theorem pw_ifne (C : Cx g p s m args meth c cc nL own ret) {x off : Int} (tgt : Nat) (hdg : decode cc pc = .ok (.ifCond .ne off, 3)) (ht : (pc : Int) + off = (tgt : Int))
    (kt : ¬ (w32 x = 0) → W p l e R s m args below meth c H locs cells slots Q (F0 m tgt ls rest)) (kf : w32 x = 0 → W p l e R s m args below meth c H locs cells slots Q (F0 m (pc + 3) ls rest)) : W p l e R s m args below meth c H locs cells slots Q (F0 m pc ls (.int (Int32.ofInt x) :: rest)) :=
  lv_if_ne C.1 C.2.1 hdg ht (fun q => kt (by have q := q; simp only [ne_eq, ge_iff_le, gt_iff_lt, Decidable.not_not, z32, z32lt, z32le, z32gt, z32ge] at q; omega)) (fun q => kf (by have q := q; simp only [ne_eq, ge_iff_le, gt_iff_lt, Decidable.not_not, z32, z32lt, z32le, z32gt, z32ge] at q; omega))
theorem pw_iflt (C : Cx g p s m args meth c cc nL own ret) {x off : Int} (tgt : Nat) (hdg : decode cc pc = .ok (.ifCond .lt off, 3)) (ht : (pc : Int) + off = (tgt : Int))
    (kt : w32 x < 0 → W p l e R s m args below meth c H locs cells slots Q (F0 m tgt ls rest)) (kf : ¬ (w32 x < 0) → W p l e R s m args below meth c H locs cells slots Q (F0 m (pc + 3) ls rest)) : W p l e R s m args below meth c H locs cells slots Q (F0 m pc ls (.int (Int32.ofInt x) :: rest)) :=
  lv_if_lt C.1 C.2.1 hdg ht (fun q => kt (by have q := q; simp only [ne_eq, ge_iff_le, gt_iff_lt, Decidable.not_not, z32, z32lt, z32le, z32gt, z32ge] at q; omega)) (fun q => kf (by have q := q; simp only [ne_eq, ge_iff_le, gt_iff_lt, Decidable.not_not, z32, z32lt, z32le, z32gt, z32ge] at q; omega))
theorem pw_ifge (C : Cx g p s m args meth c cc nL own ret) {x off : Int} (tgt : Nat) (hdg : decode cc pc = .ok (.ifCond .ge off, 3)) (ht : (pc : Int) + off = (tgt : Int))
    (kt : ¬ (w32 x < 0) → W p l e R s m args below meth c H locs cells slots Q (F0 m tgt ls rest)) (kf : w32 x < 0 → W p l e R s m args below meth c H locs cells slots Q (F0 m (pc + 3) ls rest)) : W p l e R s m args below meth c H locs cells slots Q (F0 m pc ls (.int (Int32.ofInt x) :: rest)) :=
  lv_if_ge C.1 C.2.1 hdg ht (fun q => kt (by have q := q; simp only [ne_eq, ge_iff_le, gt_iff_lt, Decidable.not_not, z32, z32lt, z32le, z32gt, z32ge] at q; omega)) (fun q => kf (by have q := q; simp only [ne_eq, ge_iff_le, gt_iff_lt, Decidable.not_not, z32, z32lt, z32le, z32gt, z32ge] at q; omega))
theorem pw_ifgt (C : Cx g p s m args meth c cc nL own ret) {x off : Int} (tgt : Nat) (hdg : decode cc pc = .ok (.ifCond .gt off, 3)) (ht : (pc : Int) + off = (tgt : Int))
    (kt : 0 < w32 x → W p l e R s m args below meth c H locs cells slots Q (F0 m tgt ls rest)) (kf : ¬ (0 < w32 x) → W p l e R s m args below meth c H locs cells slots Q (F0 m (pc + 3) ls rest)) : W p l e R s m args below meth c H locs cells slots Q (F0 m pc ls (.int (Int32.ofInt x) :: rest)) :=
  lv_if_gt C.1 C.2.1 hdg ht (fun q => kt (by have q := q; simp only [ne_eq, ge_iff_le, gt_iff_lt, Decidable.not_not, z32, z32lt, z32le, z32gt, z32ge] at q; omega)) (fun q => kf (by have q := q; simp only [ne_eq, ge_iff_le, gt_iff_lt, Decidable.not_not, z32, z32lt, z32le, z32gt, z32ge] at q; omega))
theorem pw_ifle (C : Cx g p s m args meth c cc nL own ret) {x off : Int} (tgt : Nat) (hdg : decode cc pc = .ok (.ifCond .le off, 3)) (ht : (pc : Int) + off = (tgt : Int))
    (kt : ¬ (0 < w32 x) → W p l e R s m args below meth c H locs cells slots Q (F0 m tgt ls rest)) (kf : 0 < w32 x → W p l e R s m args below meth c H locs cells slots Q (F0 m (pc + 3) ls rest)) : W p l e R s m args below meth c H locs cells slots Q (F0 m pc ls (.int (Int32.ofInt x) :: rest)) :=
  lv_if_le C.1 C.2.1 hdg ht (fun q => kt (by have q := q; simp only [ne_eq, ge_iff_le, gt_iff_lt, Decidable.not_not, z32, z32lt, z32le, z32gt, z32ge] at q; omega)) (fun q => kf (by have q := q; simp only [ne_eq, ge_iff_le, gt_iff_lt, Decidable.not_not, z32, z32lt, z32le, z32gt, z32ge] at q; omega))
theorem pw_icmpeq (C : Cx g p s m args meth c cc nL own ret) {x y off : Int} (tgt : Nat) (hdg : decode cc pc = .ok (.if_icmp .eq off, 3)) (ht : (pc : Int) + off = (tgt : Int))
    (kt : w32 x = w32 y → W p l e R s m args below meth c H locs cells slots Q (F0 m tgt ls rest)) (kf : ¬ (w32 x = w32 y) → W p l e R s m args below meth c H locs cells slots Q (F0 m (pc + 3) ls rest)) : W p l e R s m args below meth c H locs cells slots Q (F0 m pc ls (.int (Int32.ofInt y) :: .int (Int32.ofInt x) :: rest)) :=
  lv_icmp_eq C.1 C.2.1 hdg ht (fun q => kt (by have q := q; simp only [ne_eq, ge_iff_le, gt_iff_lt, Decidable.not_not, o32_inj, o32_lt, o32_le] at q; omega)) (fun q => kf (by have q := q; simp only [ne_eq, ge_iff_le, gt_iff_lt, Decidable.not_not, o32_inj, o32_lt, o32_le] at q; omega))
theorem pw_icmpne (C : Cx g p s m args meth c cc nL own ret) {x y off : Int} (tgt : Nat) (hdg : decode cc pc = .ok (.if_icmp .ne off, 3)) (ht : (pc : Int) + off = (tgt : Int))
    (kt : ¬ (w32 x = w32 y) → W p l e R s m args below meth c H locs cells slots Q (F0 m tgt ls rest)) (kf : w32 x = w32 y → W p l e R s m args below meth c H locs cells slots Q (F0 m (pc + 3) ls rest)) : W p l e R s m args below meth c H locs cells slots Q (F0 m pc ls (.int (Int32.ofInt y) :: .int (Int32.ofInt x) :: rest)) :=
  lv_icmp_ne C.1 C.2.1 hdg ht (fun q => kt (by have q := q; simp only [ne_eq, ge_iff_le, gt_iff_lt, Decidable.not_not, o32_inj, o32_lt, o32_le] at q; omega)) (fun q => kf (by have q := q; simp only [ne_eq, ge_iff_le, gt_iff_lt, Decidable.not_not, o32_inj, o32_lt, o32_le] at q; omega))
theorem pw_icmplt (C : Cx g p s m args meth c cc nL own ret) {x y off : Int} (tgt : Nat) (hdg : decode cc pc = .ok (.if_icmp .lt off, 3)) (ht : (pc : Int) + off = (tgt : Int))
    (kt : w32 x < w32 y → W p l e R s m args below meth c H locs cells slots Q (F0 m tgt ls rest)) (kf : ¬ (w32 x < w32 y) → W p l e R s m args below meth c H locs cells slots Q (F0 m (pc + 3) ls rest)) : W p l e R s m args below meth c H locs cells slots Q (F0 m pc ls (.int (Int32.ofInt y) :: .int (Int32.ofInt x) :: rest)) :=
  lv_icmp_lt C.1 C.2.1 hdg ht (fun q => kt (by have q := q; simp only [ne_eq, ge_iff_le, gt_iff_lt, Decidable.not_not, o32_inj, o32_lt, o32_le] at q; omega)) (fun q => kf (by have q := q; simp only [ne_eq, ge_iff_le, gt_iff_lt, Decidable.not_not, o32_inj, o32_lt, o32_le] at q; omega))
theorem pw_icmpge (C : Cx g p s m args meth c cc nL own ret) {x y off : Int} (tgt : Nat) (hdg : decode cc pc = .ok (.if_icmp .ge off, 3)) (ht : (pc : Int) + off = (tgt : Int))
    (kt : ¬ (w32 x < w32 y) → W p l e R s m args below meth c H locs cells slots Q (F0 m tgt ls rest)) (kf : w32 x < w32 y → W p l e R s m args below meth c H locs cells slots Q (F0 m (pc + 3) ls rest)) : W p l e R s m args below meth c H locs cells slots Q (F0 m pc ls (.int (Int32.ofInt y) :: .int (Int32.ofInt x) :: rest)) :=
  lv_icmp_ge C.1 C.2.1 hdg ht (fun q => kt (by have q := q; simp only [ne_eq, ge_iff_le, gt_iff_lt, Decidable.not_not, o32_inj, o32_lt, o32_le] at q; omega)) (fun q => kf (by have q := q; simp only [ne_eq, ge_iff_le, gt_iff_lt, Decidable.not_not, o32_inj, o32_lt, o32_le] at q; omega))
theorem pw_icmpgt (C : Cx g p s m args meth c cc nL own ret) {x y off : Int} (tgt : Nat) (hdg : decode cc pc = .ok (.if_icmp .gt off, 3)) (ht : (pc : Int) + off = (tgt : Int))
    (kt : w32 y < w32 x → W p l e R s m args below meth c H locs cells slots Q (F0 m tgt ls rest)) (kf : ¬ (w32 y < w32 x) → W p l e R s m args below meth c H locs cells slots Q (F0 m (pc + 3) ls rest)) : W p l e R s m args below meth c H locs cells slots Q (F0 m pc ls (.int (Int32.ofInt y) :: .int (Int32.ofInt x) :: rest)) :=
  lv_icmp_gt C.1 C.2.1 hdg ht (fun q => kt (by have q := q; simp only [ne_eq, ge_iff_le, gt_iff_lt, Decidable.not_not, o32_inj, o32_lt, o32_le] at q; omega)) (fun q => kf (by have q := q; simp only [ne_eq, ge_iff_le, gt_iff_lt, Decidable.not_not, o32_inj, o32_lt, o32_le] at q; omega))
theorem pw_icmple (C : Cx g p s m args meth c cc nL own ret) {x y off : Int} (tgt : Nat) (hdg : decode cc pc = .ok (.if_icmp .le off, 3)) (ht : (pc : Int) + off = (tgt : Int))
    (kt : ¬ (w32 y < w32 x) → W p l e R s m args below meth c H locs cells slots Q (F0 m tgt ls rest)) (kf : w32 y < w32 x → W p l e R s m args below meth c H locs cells slots Q (F0 m (pc + 3) ls rest)) : W p l e R s m args below meth c H locs cells slots Q (F0 m pc ls (.int (Int32.ofInt y) :: .int (Int32.ofInt x) :: rest)) :=
  lv_icmp_le C.1 C.2.1 hdg ht (fun q => kt (by have q := q; simp only [ne_eq, ge_iff_le, gt_iff_lt, Decidable.not_not, o32_inj, o32_lt, o32_le] at q; omega)) (fun q => kf (by have q := q; simp only [ne_eq, ge_iff_le, gt_iff_lt, Decidable.not_not, o32_inj, o32_lt, o32_le] at q; omega))
theorem pw_lcmp (C : Cx g p s m args meth c cc nL own ret) {x y : Int} (hdg : decode cc pc = .ok (.lcmp, 1))
    (kk : W p l e R s m args below meth c H locs cells slots Q (F0 m (pc + 1) ls (.int (Int32.ofInt (cmpL x y)) :: rest))) : W p l e R s m args below meth c H locs cells slots Q (F0 m pc ls (.long (Int64.ofInt y) :: .long (Int64.ofInt x) :: rest)) := by
  refine W.lcmp C.1 C.2.1 hdg ?_
  have e : lg_cmp (Int64.ofInt x) (Int64.ofInt y) = Int32.ofInt (cmpL x y) := by
    unfold cmpL lg_cmp w64
    by_cases h1 : (Int64.ofInt x).toInt < (Int64.ofInt y).toInt
    · have h2 : Int64.ofInt x < Int64.ofInt y := Int64.lt_iff_toInt_lt.mpr h1
      have h3 : ¬ Int64.ofInt y < Int64.ofInt x := fun q => by have := Int64.lt_iff_toInt_lt.mp q; omega
      have h4 : ¬ Int64.ofInt x = Int64.ofInt y := fun q => by rw [q] at h1; omega
      rw [if_neg h3, if_neg h4, if_pos h1]
      rfl
    · by_cases h5 : (Int64.ofInt x).toInt = (Int64.ofInt y).toInt
      · have h6 : Int64.ofInt x = Int64.ofInt y := Int64.toInt_inj.mp h5
        rw [if_neg (fun q : Int64.ofInt x > Int64.ofInt y => by have := Int64.lt_iff_toInt_lt.mp q; omega), if_pos h6, if_neg h1, if_pos h5]
        rfl
      · have h2 : ¬ Int64.ofInt x < Int64.ofInt y := fun q => h1 (Int64.lt_iff_toInt_lt.mp q)
        have h3 : Int64.ofInt y < Int64.ofInt x := Int64.lt_iff_toInt_lt.mpr (by omega)
        have h4 : ¬ Int64.ofInt x = Int64.ofInt y := fun q => h5 (by rw [q])
        rw [if_pos h3, if_neg h1, if_neg h5]
        rfl
  rw [e]
  exact kk
end PW
