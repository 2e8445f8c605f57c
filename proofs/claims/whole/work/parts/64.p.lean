set_option linter.unusedVariables false
set_option linter.unusedSimpArgs false
/-! ===== what holds of the world's numbers ===== -/
/-- the place of the ring that keeps the j-th of the k machines -/
def plc (n k j : Nat) : Nat := (n + 8 - k + j) % 8
def clkOk (M : MM) : Prop := 0 ≤ M 0 3 ∧ M 0 3 ≤ 100000
def byR (b f : Int) : Prop := (-128 ≤ b ∧ b < 128) ∧ f = if b < 0 then b + 256 else b
/-- the fences lie in order; no queue but those of the cores -/
def OkF (M : MM) : Prop := (∀ f g : Nat, f ≤ g → (g : Int) < M 1 1 → M 9 f ≤ M 9 g) ∧ ∀ c : Nat, c < 4 → M 11 0 ≤ c → M 13 c = 0
def Pair (M : MM) (d : Int → Int) : Prop := IvM M ∧ Rel M d ∧ RelX M d ∧ clkOk M ∧ OkF M
def WR (M S : MM) (Mk : Nat → MM) (e : Int) (n k : Nat) (tx bs u bf : Nat → Int) (d : Int → Int) (dh : Nat → Int → Int) : Prop :=
  Pair M d ∧ IvM S ∧ u 7 = e ∧ u 2 = tx 1 ∧ (0 ≤ tx 1 ∧ tx 1 ≤ 900) ∧ (∀ i, i < 900 → byR (bs i) (bf i)) ∧ (n < 8 ∧ k ≤ 8 ∧ u 12 = k) ∧ (∀ j, j < k → Pair (Mk (plc n k j)) (dh j)) ∧ ∀ i, i < 8 → ∀ c : Nat, c < 4 → Mk i 18 c = 0 ∨ Mk i 18 c = 1
/-- the world between two calls -/
def Wld (h : PH) : Prop := ∃ M S Mk e n k rr tx bs sp u bf d dr df dh, WS h M S Mk e (n : Nat) (k : Nat) rr tx bs sp u bf d dr df dh ∧ WR M S Mk e n k tx bs u bf d dh
theorem upf_ne {f : Nat → Int} {i j : Nat} {x : Int} (h : j ≠ i) : upf f i x j = f j := by simp [upf, h]
theorem upf_eq {f : Nat → Int} {i : Nat} {x : Int} : upf f i x i = x := by simp [upf]
theorem upf_up {f : Nat → Int} {i : Nat} {x y : Int} : upf (upf f i x) i y = upf f i y := by funext j; unfold upf; split <;> rfl
theorem WR_u {M S : MM} {Mk : Nat → MM} {e : Int} {n k : Nat} {tx bs u bf : Nat → Int} {d : Int → Int} {dh : Nat → Int → Int} {x : Int} (r : WR M S Mk e n k tx bs u bf d dh) : WR M S Mk e n k tx bs (upf u 0 x) bf d dh := by
  unfold WR at r ⊢
  rw [upf_ne (by decide), upf_ne (by decide), upf_ne (by decide)]
  exact r
/-! ===== the reference: bounds and failures ===== -/
section
variable {h : PH} {a : Nat}
theorem m_in {v lo hi : Int} (hv : -2147483648 ≤ v ∧ v < 2147483648) (hl : -2147483648 ≤ lo ∧ lo < 2147483648) (hh : -2147483648 ≤ hi ∧ hi < 2147483648) : FX8_in h v lo hi = some (if lo ≤ v ∧ v ≤ hi then 1 else 0) := by
  unfold FX8_in JX8_in_14 JX8_in_15
  rw [w32_eq hv.1 hv.2, w32_eq hl.1 hl.2, w32_eq hh.1 hh.2]
  by_cases c1 : v < lo
  · rw [if_pos c1, if_pos (Or.inl rfl), if_neg (by omega)]
  · rw [if_neg c1]
    by_cases c2 : hi < v
    · rw [if_pos c2, if_pos (Or.inl rfl), if_neg (by omega)]
    · rw [if_neg c2, if_pos (Or.inr rfl), if_pos (by omega)]
theorem m_fails0 {u : Nat → Int} {x : Int} (z : h[a]? = some (mdl u)) (h0 : u 0 = 0) : FX8_fails h a 0 x = some (0, h) := by
  unfold FX8_fails JX8_fails_16 JX8_fails_28
  rw [z8_O z, Option.bind_some, if_pos (show w32 0 = 0 by decide), z8_i0 z, Option.bind_some, h0, if_pos (show w32 0 = 0 by decide), if_pos (Or.inl rfl)]
theorem m_fails1 {u : Nat → Int} {x : Int} (z : h[a]? = some (mdl u)) (h0 : u 0 = 0) (hx : 1 ≤ x ∧ x ≤ 3) : FX8_fails h a 1 x = some (1, h.set a (mdl (upf u 0 x))) := by
  have hl : a < h.length := by
    rcases Nat.lt_or_ge a h.length with q | q
    · exact q
    · rw [List.getElem?_eq_none q] at z; cases z
  have z' : (h.set a (mdl (upf u 0 x)))[a]? = some (mdl (upf u 0 x)) := by simp [hl]
  unfold FX8_fails JX8_fails_16 JX8_fails_28
  rw [z8_O z, Option.bind_some, if_neg (show ¬ w32 1 = 0 by decide), z8_i0 z, Option.bind_some, h0, if_pos (show w32 0 = 0 by decide), z8_w0 z, Option.bind_some, z8_i0 z', Option.bind_some, upf_eq, w32_eq (by omega) (by omega), if_neg (by omega), if_pos (Or.inr rfl)]
theorem m_noTask {u : Nat → Int} {d : Int → Int} {v : Int} (z : h[a]? = some (mdl u)) (h0 : u 0 = 0) (zd : h[229]? = some (dcell d)) (hv : -2147483648 ≤ v ∧ v < 2147483648) (hd : 0 ≤ d 3 ∧ d 3 ≤ 32) : FX8_noTask h a v = some (if 0 ≤ v ∧ v < d 3 then (0, h) else (1, h.set a (mdl (upf u 0 1)))) := by
  unfold FX8_noTask JX8_noTask_22
  rw [z8_O z, Option.bind_some, z8_r8 z, Option.bind_some, zd_l zd (by omega) (by omega), Option.bind_some, m_in hv (by omega) (by omega), Option.bind_some]
  by_cases c : 0 ≤ v ∧ v < d 3
  · rw [if_pos c, if_pos (show 0 ≤ v ∧ v ≤ d 3 - 1 by omega), if_neg (show ¬ w32 1 = 0 by decide), m_fails0 z h0, Option.bind_some, if_pos (Or.inl rfl)]
  · rw [if_neg c, if_neg (show ¬ (0 ≤ v ∧ v ≤ d 3 - 1) by omega), if_pos (show w32 0 = 0 by decide), m_fails1 z h0 (by omega), Option.bind_some, if_pos (Or.inr rfl)]
theorem m_noCore {u : Nat → Int} {d : Int → Int} {v : Int} (z : h[a]? = some (mdl u)) (h0 : u 0 = 0) (zd : h[229]? = some (dcell d)) (hv : -2147483648 ≤ v ∧ v < 2147483648) (hd : 0 ≤ d 0 ∧ d 0 ≤ 32) : FX8_noCore h a v = some (if 0 ≤ v ∧ v < d 0 then (0, h) else (1, h.set a (mdl (upf u 0 1)))) := by
  unfold FX8_noCore JX8_noCore_22
  rw [z8_O z, Option.bind_some, z8_r8 z, Option.bind_some, zd_l zd (by omega) (by omega), Option.bind_some, m_in hv (by omega) (by omega), Option.bind_some]
  by_cases c : 0 ≤ v ∧ v < d 0
  · rw [if_pos c, if_pos (show 0 ≤ v ∧ v ≤ d 0 - 1 by omega), if_neg (show ¬ w32 1 = 0 by decide), m_fails0 z h0, Option.bind_some, if_pos (Or.inl rfl)]
  · rw [if_neg c, if_neg (show ¬ (0 ≤ v ∧ v ≤ d 0 - 1) by omega), if_pos (show w32 0 = 0 by decide), m_fails1 z h0 (by omega), Option.bind_some, if_pos (Or.inr rfl)]
end
/-! ===== the class: bounds ===== -/
section
variable {h : PH} {M : MM} {e v : Int}
theorem r_rT (z : h[0]? = some (c0 e)) (t : At h 5 M) (hv : -2147483648 ≤ v ∧ v < 2147483648) (hT : 0 ≤ M 1 0 ∧ M 1 0 ≤ 32) : FX7_requireTask h 0 v = some (if 0 ≤ v ∧ v < M 1 0 then 0 else 1) := by
  unfold FX7_requireTask JX7_requireTask_18
  rw [z0_O z, Option.bind_some, z0_r1 z, Option.bind_some, b5_gfr0_0 t, Option.bind_some, b5_gfi1_0 t, Option.bind_some, w32_eq hv.1 hv.2, w32_eq (by omega) (by omega)]
  by_cases c : v < 0
  · rw [if_pos c, if_neg (by omega)]
  · rw [if_neg c]
    by_cases c2 : v < M 1 0
    · rw [if_pos c2, if_pos (by omega)]
    · rw [if_neg c2, if_neg (by omega)]
theorem r_rC (z : h[0]? = some (c0 e)) (t : At h 5 M) (hv : -2147483648 ≤ v ∧ v < 2147483648) (hT : 0 ≤ M 11 0 ∧ M 11 0 ≤ 4) : FX7_requireCore h 0 v = some (if 0 ≤ v ∧ v < M 11 0 then 0 else 1) := by
  unfold FX7_requireCore JX7_requireCore_18
  rw [z0_O z, Option.bind_some, z0_r1 z, Option.bind_some, b5_gfr0_1 t, Option.bind_some, b5_gfi11_0 t, Option.bind_some, w32_eq hv.1 hv.2, w32_eq (by omega) (by omega)]
  by_cases c : v < 0
  · rw [if_pos c, if_neg (by omega)]
  · rw [if_neg c]
    by_cases c2 : v < M 11 0
    · rw [if_pos c2, if_pos (by omega)]
    · rw [if_neg c2, if_neg (by omega)]
theorem r_rL (hv : -2147483648 ≤ v ∧ v < 2147483648) : FX7_requireLimit h v = some (if 0 ≤ v ∧ v ≤ 500 then 0 else 2) := by
  unfold FX7_requireLimit JX7_requireLimit_11
  rw [w32_eq hv.1 hv.2, show w32 500 = 500 from rfl]
  by_cases c : v < 0
  · rw [if_pos c, if_neg (by omega)]
  · rw [if_neg c]
    by_cases c2 : 500 < v
    · rw [if_pos c2, if_neg (by omega)]
    · rw [if_neg c2, if_pos (by omega)]
theorem r_rP (hv : -2147483648 ≤ v ∧ v < 2147483648) : FX7_requirePriority h v = some (if 0 ≤ v ∧ v ≤ 9 then 0 else 2) := by
  unfold FX7_requirePriority JX7_requirePriority_10
  rw [w32_eq hv.1 hv.2, show w32 9 = 9 from rfl]
  by_cases c : v < 0
  · rw [if_pos c, if_neg (by omega)]
  · rw [if_neg c]
    by_cases c2 : 9 < v
    · rw [if_pos c2, if_neg (by omega)]
    · rw [if_neg c2, if_pos (by omega)]
theorem r_rS (z : h[0]? = some (c0 e)) (t : At h 5 M) (hT : 0 ≤ M 11 0 ∧ M 11 0 ≤ 4) : FX7_requireSetup h 0 = some (if M 11 0 = 0 then 3 else 0) := by
  unfold FX7_requireSetup
  rw [z0_O z, Option.bind_some, z0_r1 z, Option.bind_some, b5_gfr0_1 t, Option.bind_some, b5_gfi11_0 t, Option.bind_some, w32_eq (by omega) (by omega)]
  by_cases c : M 11 0 = 0
  · rw [if_pos c, if_pos c]
  · rw [if_neg c, if_neg c]
end
/-! ===== a call's shape in the law ===== -/
def LCk (q2 : Int) (q4 : Int × PH) : Option PH :=
  (FX8_thrown q4.2 227).bind fun x5 =>
  if w32 x5 = w32 q2 then (
    if w32 q2 = 0 then (
      (ald 3 q4.2 243 0).bind fun x6 =>
      if w32 (cmpL x6 (w32 q4.1)) = 0 then some q4.2 else none
    ) else some q4.2
  ) else none
def LCb (q2 : Int) (q4 : Int × PH) : Option PH :=
  (FX8_thrown q4.2 227).bind fun x5 =>
  if w32 x5 = w32 q2 then (
    if w32 q2 = 0 then (
      (ald 3 q4.2 243 0).bind fun x6 =>
      if w32 q4.1 = 0 then (if w32 (cmpL x6 0) = 0 then some q4.2 else none) else (if w32 (cmpL x6 1) = 0 then some q4.2 else none)
    ) else some q4.2
  ) else none
theorem cmpL_same {x y : Int} (h : x = y) : w32 (cmpL x y) = 0 := by
  subst h
  unfold cmpL
  rw [if_neg (Int.lt_irrefl _), if_pos rfl]; rfl
theorem lck_ok {h : PH} {u : Nat → Int} {q v : Int} (z : h[227]? = some (mdl u)) (h0 : u 0 = q) (ho : w32 q = 0 → h[243]? = some (c243 (w32 v))) : LCk q (v, h) = some h := by
  unfold LCk FX8_thrown
  rw [z8_O z, Option.bind_some, z8_i0 z, Option.bind_some, Option.bind_some, h0, if_pos rfl]
  by_cases c : w32 q = 0
  · rw [if_pos c, z243_l (ho c), Option.bind_some, if_pos (cmpL_same rfl)]
  · rw [if_neg c]
theorem lcb_ok {h : PH} {u : Nat → Int} {q v : Int} (z : h[227]? = some (mdl u)) (h0 : u 0 = q) (hv : v = 0 ∨ v = 1) (ho : w32 q = 0 → h[243]? = some (c243 v)) : LCb q (v, h) = some h := by
  unfold LCb FX8_thrown
  rw [z8_O z, Option.bind_some, z8_i0 z, Option.bind_some, Option.bind_some, h0, if_pos rfl]
  by_cases c : w32 q = 0
  · rw [if_pos c, z243_l (ho c), Option.bind_some]
    rcases hv with rfl | rfl
    · rw [if_pos (show w32 0 = 0 by decide), if_pos (cmpL_same rfl)]
    · rw [if_neg (show ¬ w32 1 = 0 by decide), if_pos (cmpL_same rfl)]
  · rw [if_neg c]
/-- what a read-only method's answer becomes -/
def ans1 (h : PH) (q1 : Nat × Int) : Option (Int × PH) :=
  if q1.1 = 0 then ((ast 3 h 243 0 (w32 q1.2)).bind fun h2 => some (0, h2)) else if q1.1 = 1 then some (1, h) else none
def ansb (h : PH) (q1 : Nat × Int) : Option (Int × PH) :=
  if q1.1 = 0 then (if w32 q1.2 = 0 then ((ast 3 h 243 0 0).bind fun h2 => some (0, h2)) else ((ast 3 h 243 0 1).bind fun h2 => some (0, h2))) else if q1.1 = 1 then some (1, h) else none
section
variable {h : PH} {M S : MM} {Mk : Nat → MM} {e : Int} {n k : Nat} {rr tx bs sp u bf : Nat → Int} {d dr df : Int → Int} {dh : Nat → Int → Int}
/-- a read-only call with an answer of type int -/
theorem lc_get {A : Option (Nat × Int)} {B : PH → Option (Int × PH)} {v : Int} {q : Nat} (w : WS h M S Mk e (n : Nat) (k : Nat) rr tx bs sp u bf d dr df dh) (r : WR M S Mk e n k tx bs u bf d dh) (hA : A = some (q, v)) (hq : q = 0 ∨ q = 1)
    (hB : ∀ h1, WS h1 M S Mk e (n : Nat) (k : Nat) rr tx bs sp u bf d dr df dh → B h1 = some (v, h1.set 227 (mdl (upf u 0 q)))) :
    ∃ h', (A.bind (ans1 h)).bind (fun q2 => (B q2.2).bind (LCk q2.1)) = some h' ∧ Wld h' := by
  obtain ⟨x, hx⟩ := w_g243 w
  rw [hA, Option.bind_some]
  rcases hq with rfl | rfl
  · unfold ans1
    rw [if_pos rfl, z243_s hx, Option.bind_some, Option.bind_some]
    have w1 := ws_243 (x := w32 v) w
    dsimp only
    rw [hB _ w1, Option.bind_some]
    have w2 := ws_227 (x := upf u 0 ((0 : Nat) : Int)) w1
    refine ⟨_, lck_ok (w_g227 w2) upf_eq (fun _ => ?_), M, S, Mk, e, n, k, rr, tx, bs, sp, _, bf, d, dr, df, dh, w2, WR_u r⟩
    rw [List.getElem?_set, if_neg (by decide), List.getElem?_set, if_pos rfl, if_pos (by have := w_len w; omega)]
  · unfold ans1
    rw [if_neg (show ¬ (1 : Nat) = 0 by decide), if_pos rfl, Option.bind_some]
    dsimp only
    rw [hB _ w, Option.bind_some]
    have w2 := ws_227 (x := upf u 0 ((1 : Nat) : Int)) w
    exact ⟨_, lck_ok (w_g227 w2) upf_eq (fun q => absurd q (by decide)), M, S, Mk, e, n, k, rr, tx, bs, sp, _, bf, d, dr, df, dh, w2, WR_u r⟩
theorem lc_getb {A : Option (Nat × Int)} {B : PH → Option (Int × PH)} {v : Int} {q : Nat} (w : WS h M S Mk e (n : Nat) (k : Nat) rr tx bs sp u bf d dr df dh) (r : WR M S Mk e n k tx bs u bf d dh) (hA : A = some (q, v)) (hq : q = 0 ∨ q = 1) (hv : v = 0 ∨ v = 1)
    (hB : ∀ h1, WS h1 M S Mk e (n : Nat) (k : Nat) rr tx bs sp u bf d dr df dh → B h1 = some (v, h1.set 227 (mdl (upf u 0 q)))) :
    ∃ h', (A.bind (ansb h)).bind (fun q2 => (B q2.2).bind (LCb q2.1)) = some h' ∧ Wld h' := by
  obtain ⟨x, hx⟩ := w_g243 w
  rw [hA, Option.bind_some]
  rcases hq with rfl | rfl
  · have hs : ansb h (0, v) = some (0, h.set 243 (c243 v)) := by
      unfold ansb
      rw [if_pos rfl]
      rcases hv with rfl | rfl
      · rw [if_pos (show w32 0 = 0 by decide), z243_s hx, Option.bind_some]
      · rw [if_neg (show ¬ w32 1 = 0 by decide), z243_s hx, Option.bind_some]
    rw [hs, Option.bind_some]
    have w1 := ws_243 (x := v) w
    dsimp only
    rw [hB _ w1, Option.bind_some]
    have w2 := ws_227 (x := upf u 0 ((0 : Nat) : Int)) w1
    refine ⟨_, lcb_ok (w_g227 w2) upf_eq hv (fun _ => ?_), M, S, Mk, e, n, k, rr, tx, bs, sp, _, bf, d, dr, df, dh, w2, WR_u r⟩
    rw [List.getElem?_set, if_neg (by decide), List.getElem?_set, if_pos rfl, if_pos (by have := w_len w; omega)]
  · unfold ansb
    rw [if_neg (show ¬ (1 : Nat) = 0 by decide), if_pos rfl, Option.bind_some]
    dsimp only
    rw [hB _ w, Option.bind_some]
    have w2 := ws_227 (x := upf u 0 ((1 : Nat) : Int)) w
    exact ⟨_, lcb_ok (w_g227 w2) upf_eq hv (fun q => absurd q (by decide)), M, S, Mk, e, n, k, rr, tx, bs, sp, _, bf, d, dr, df, dh, w2, WR_u r⟩
end
