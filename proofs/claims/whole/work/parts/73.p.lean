set_option linter.unusedVariables false
set_option linter.unusedSimpArgs false
/-! ===== the history ===== -/
def HR (Mk : Nat → MM) (n k : Nat) (dh : Nat → Int → Int) : Prop := ∀ j, j < k → Pair (Mk (plc n k j)) (dh j)
def nxt (n : Nat) : Nat := if n + 1 < 8 then n + 1 else 0
def prv (n : Nat) : Nat := if 0 < n then n - 1 else 7
def cup (k : Nat) : Nat := if k < 8 then k + 1 else 8
def dhr (dh : Nat → Int → Int) (k : Nat) (d : Int → Int) : Nat → Int → Int := if k < 8 then uk dh k d else uk (fun i => if i + 1 < 8 then dh (i + 1) else dh i) 7 d
theorem hr_rem {Mk : Nat → MM} {n k : Nat} {dh : Nat → Int → Int} {M : MM} {d : Int → Int} (hr : HR Mk n k dh) (p : Pair M d) (hn : n < 8) (hk : k ≤ 8) : HR (uk Mk n (cpM (Mk n) M)) (nxt n) (cup k) (dhr dh k d) := by
  have pc : Pair (cpM (Mk n) M) d := pair_10 (fun x hx => cp_ne hx) p
  intro j hj
  by_cases c : k < 8
  · have hj : j < k + 1 := by unfold cup at hj; rw [if_pos c] at hj; exact hj
    have e : plc (nxt n) (cup k) j = plc n k j := by unfold plc nxt cup; rw [if_pos c]; split <;> omega
    rw [e]
    unfold dhr
    rw [if_pos c]
    by_cases ej : j = k
    · subst ej
      rw [uk_eq, show plc n j j = n by unfold plc; omega, uk_eq]; exact pc
    · rw [uk_ne ej, uk_ne (by unfold plc; omega)]; exact hr j (by omega)
  · have hk8 : k = 8 := by omega
    subst hk8
    have hj : j < 8 := by unfold cup at hj; rw [if_neg c] at hj; exact hj
    unfold dhr
    rw [if_neg c]
    by_cases ej : j = 7
    · subst ej
      rw [uk_eq, show plc (nxt n) (cup 8) 7 = n by unfold plc nxt cup; rw [if_neg c]; split <;> omega, uk_eq]; exact pc
    · rw [uk_ne ej, if_pos (by omega), show plc (nxt n) (cup 8) j = plc n 8 (j + 1) by unfold plc nxt cup; rw [if_neg c]; split <;> omega, uk_ne (by unfold plc; omega)]; exact hr (j + 1) (by omega)
theorem hr_undo {Mk : Nat → MM} {n k : Nat} {dh : Nat → Int → Int} (hr : HR Mk n (k + 1) dh) (hn : n < 8) (hk : k + 1 ≤ 8) : HR Mk (prv n) k dh ∧ Pair (Mk (prv n)) (dh k) := by
  refine ⟨fun j hj => ?_, ?_⟩
  · have e : plc (prv n) k j = plc n (k + 1) j := by unfold plc prv; split <;> omega
    rw [e]; exact hr j (by omega)
  · have := hr k (by omega)
    rw [show plc n (k + 1) k = prv n by unfold plc prv; split <;> omega] at this
    exact this
section
variable {h : PH} {M S : MM} {Mk : Nat → MM} {e nx ct : Int} {n k : Nat} {rr tx bs sp u bf : Nat → Int} {d dr df : Int → Int} {dh : Nat → Int → Int}
theorem k_rem (w : WS h M S Mk e (n : Nat) (k : Nat) rr tx bs sp u bf d dr df dh) (iv : IvM M) (hn : n < 8) (hk : k ≤ 8) : ∃ h', FX2_remember h 49 5 = some h' ∧ WS h' M S (uk Mk n (cpM (Mk n) M)) e (nxt n : Nat) (cup k : Nat) rr tx bs sp u bf d dr df dh := by
  have cp := k_cpy (w_aK w n hn) (w_a5 w) (by unfold apart; omega) (w_f5 w) iv.1.2.1.2.2.2.2.2
  have w1 := ws_K (N := cpM (Mk n) M) hn w (FM_congr (by rw [cp_ne (by decide)]) (cp_ne (by decide)) (w_f5 w))
  have w2 := ws_49 (x := (nxt n : Nat)) (y := (k : Nat)) w1
  have w3 := ws_49 (x := (nxt n : Nat)) (y := (cup k : Nat)) w2
  unfold FX2_remember JX2_remember_35
  rw [z49_O (w_e49 w), Option.bind_some, z49_r0 (w_e49 w), Option.bind_some, z49_i1 (w_e49 w), Option.bind_some, z50_l (w_e50 w) hn, Option.bind_some, cp, Option.bind_some, z49_i1 (w_e49 w1), Option.bind_some, show w32 8 = 8 from rfl, w32_eq (by omega) (by omega)]
  have hcup : minI ((k : Int) + 1) 8 = (cup k : Nat) := by
    unfold minI cup
    rw [show w32 8 = 8 from rfl, w32_eq (by omega) (by omega)]
    by_cases c : k < 8
    · rw [if_neg (by omega), if_pos c]; omega
    · rw [if_pos (by omega), if_neg c]; rfl
  by_cases c : n + 1 < 8
  · have e1 : nxt n = n + 1 := by unfold nxt; rw [if_pos c]
    rw [if_pos (by omega), Option.bind_some, z49_w1 (w_e49 w1), Option.bind_some]
    rw [e1] at w2 w3
    rw [show ((n : Int) + 1) = ((n + 1 : Nat) : Int) from by omega, z49_i2 (w_e49 w2), Option.bind_some, z49_w2 (w_e49 w2), Option.bind_some, hcup]
    exact ⟨_, rfl, by rw [e1]; exact w3⟩
  · have e1 : nxt n = 0 := by unfold nxt; rw [if_neg c]
    rw [if_neg (by omega), z49_w1 (w_e49 w1), Option.bind_some]
    rw [e1] at w2 w3
    rw [show (0 : Int) = ((0 : Nat) : Int) from rfl, z49_i2 (w_e49 w2), Option.bind_some, z49_w2 (w_e49 w2), Option.bind_some, hcup]
    exact ⟨_, rfl, by rw [e1]; exact w3⟩
theorem k_mrem50 (w : WS h M S Mk e nx ct rr tx bs sp u bf d dr df dh) (hk : k < 8) (hu : u 12 = k) : ∃ h', JX8_remember_50 h 227 = some h' ∧ WS h' M S Mk e nx ct rr tx bs sp (upf u 12 ((k + 1 : Nat) : Int)) bf d dr df (uk dh k d) ∧ h'[243]? = h[243]? := by
  have w1 := ws_H (x := d) hk w
  have w2 := ws_227 (x := upf u 12 ((k + 1 : Nat) : Int)) w1
  unfold JX8_remember_50
  rw [z8_r8 (w_g227 w), Option.bind_some, z8_r11 (w_g227 w), Option.bind_some, z8_i12 (w_g227 w), Option.bind_some, hu, z232_l (w_g232 w) hk, Option.bind_some, m_copy (w_g229 w) (w_gH w k hk) (by omega), Option.bind_some, z8_i12 (w_g227 w1), Option.bind_some, z8_w12 (w_g227 w1), Option.bind_some, hu]
  refine ⟨_, rfl, w2, ?_⟩
  rw [List.getElem?_set, if_neg (by decide), List.getElem?_set, if_neg (by omega)]
theorem k_mrem (w : WS h M S Mk e nx ct rr tx bs sp u bf d dr df dh) (hk : k ≤ 8) (hu : u 12 = k) : ∃ h', FX8_remember h 227 = some h' ∧ WS h' M S Mk e nx ct rr tx bs sp (upf u 12 ((cup k : Nat) : Int)) bf d dr df (dhr dh k d) ∧ h'[243]? = h[243]? := by
  unfold FX8_remember
  rw [z8_O (w_g227 w), Option.bind_some, z8_i12 (w_g227 w), Option.bind_some, hu, show w32 8 = 8 from rfl, w32_nat (by omega)]
  by_cases c : k < 8
  · rw [if_neg (by omega)]
    obtain ⟨h', e1, e2, e3⟩ := k_mrem50 w c hu
    unfold dhr cup
    rw [if_pos c, if_pos c]
    exact ⟨h', e1, e2, e3⟩
  · have hk8 : k = 8 := by omega
    subst hk8
    rw [if_pos (by omega)]
    have := lp_for (f := fun st : Int × PH => LX8_remember_11 227 st.1 st.2) (fun j st => ∃ h', st = ((j : Int), h') ∧ WS h' M S Mk e nx ct rr tx bs sp u bf d dr df (fun i => if i + 1 < j then dh (i + 1) else dh i) ∧ h'[243]? = h[243]?) (fun q => WS q M S Mk e nx ct rr tx bs sp u bf d dr df (fun i => if i + 1 < 8 then dh (i + 1) else dh i) ∧ q[243]? = h[243]?) (a := 1) (b := 8) (s := (1, h)) (by omega) (by omega) ⟨h, rfl, by
      rw [show (fun i => if i + 1 < 1 then dh (i + 1) else dh i) = dh by funext i; rw [if_neg (by omega)]]; exact w, rfl⟩ (fun j st h1 h2 hI => ?_) (fun st hI => ?_)
    · obtain ⟨q, e1, w1, e2⟩ := this
      have w2 := ws_227 (x := upf u 12 7) w1
      obtain ⟨h', f1, f2, f3⟩ := k_mrem50 (k := 7) w2 (by omega) upf_eq
      rw [e1, Option.bind_some, z8_i12 (w_g227 w1), Option.bind_some, z8_w12 (w_g227 w1), Option.bind_some, hu]
      refine ⟨h', f1, ?_, ?_⟩
      · rw [upf_up] at f2
        unfold dhr cup
        rw [if_neg c, if_neg c]
        exact f2
      · rw [f3, List.getElem?_set, if_neg (by decide)]; exact e2
    · obtain ⟨h', rfl, w1, e2⟩ := hI
      refine Or.inr ?_
      dsimp only
      unfold LX8_remember_11
      obtain ⟨i, rfl⟩ : ∃ i, j = i + 1 := ⟨j - 1, by omega⟩
      rw [show w32 8 = 8 from rfl, w32_nat (by omega), if_pos (by omega), z8_r11 (w_g227 w1), Option.bind_some, z232_l (w_g232 w1) h2, Option.bind_some, Option.bind_some, show ((i + 1 : Nat) : Int) - 1 = (i : Int) by omega, z232_l (w_g232 w1) (by omega), Option.bind_some, m_copy (w_gH w1 (i + 1) h2) (w_gH w1 i (by omega)) (by omega), Option.bind_some]
      refine ⟨_, rfl, _, rfl, ?_, ?_⟩
      · have w2 := ws_H (j := i) (x := dh (i + 1)) (by omega) w1
        rw [show uk (fun j => if j + 1 < i + 1 then dh (j + 1) else dh j) i (dh (i + 1)) = (fun j => if j + 1 < i + 1 + 1 then dh (j + 1) else dh j) by
          funext q
          by_cases eq : q = i
          · subst eq; rw [uk_eq, if_pos (by omega)]
          · rw [uk_ne eq]
            by_cases c1 : q + 1 < i + 1
            · rw [if_pos c1, if_pos (by omega)]
            · rw [if_neg c1, if_neg (by omega)]] at w2
        rw [if_neg (by omega)]
        exact w2
      · rw [List.getElem?_set, if_neg (by omega)]; exact e2
    · obtain ⟨h', rfl, w1, e2⟩ := hI
      dsimp only
      unfold LX8_remember_11
      rw [if_neg (show ¬ w32 ((8 : Nat) : Int) < w32 8 by decide)]
      exact ⟨_, rfl, w1, e2⟩
end
section
variable {h : PH} {xs : Nat → Int} {L : Nat} {v4 : Int}
theorem lc30 (w : Wld h) : ∃ h', LC30 xs L 0 227 243 v4 h = some h' ∧ Wld h' := by
  obtain ⟨M, S, Mk, e, n, k, rr, tx, bs, sp, u, bf, d, dr, df, dh, w, r⟩ := w
  obtain ⟨r1, r2, r3, r4, r5, r6, ⟨r7, r8, r9⟩, r10, r11⟩ := r
  unfold LC30 FX7_undo FX2_restoreLatest
  rw [z0_O (w_e0 w), Option.bind_some, z0_r3 (w_e0 w), Option.bind_some, z0_r1 (w_e0 w), Option.bind_some, z49_O (w_e49 w), Option.bind_some, z49_i2 (w_e49 w), Option.bind_some, w32_nat (by omega)]
  cases k with
  | zero =>
    rw [if_pos (show ((0 : Nat) : Int) = 0 from rfl), Option.bind_some, Option.bind_some]
    have w2 := ws_227 (x := upf u 0 0) w
    unfold FX8_undo
    dsimp only
    rw [z8_O (w_g227 w), Option.bind_some, z8_w0 (w_g227 w), Option.bind_some, z8_i12 (w_g227 w2), Option.bind_some, upf_ne (by decide), r9, if_pos (by decide), Option.bind_some, if_pos rfl]
    exact ⟨_, rfl, M, S, Mk, e, n, 0, rr, tx, bs, sp, _, bf, d, dr, df, dh, w2, WR_u ⟨r1, r2, r3, r4, r5, r6, ⟨r7, r8, r9⟩, r10, r11⟩⟩
  | succ k =>
    rw [if_neg (by omega), z49_i1 (w_e49 w), Option.bind_some, w32_nat (by omega)]
    have hp8 : prv n < 8 := by unfold prv; split <;> omega
    obtain ⟨hr1, hr2⟩ := hr_undo (k := k) r10 r7 r8
    have w1 := ws_49 (x := (prv n : Nat)) (y := ((k + 1 : Nat) : Int)) w
    have cp := k_cpy (w_a5 w1) (w_aK w1 (prv n) hp8) (by unfold apart; omega) (w_fK w1 (prv n) hp8) (r11 _ hp8)
    have w2 := ws_M (N := cpM M (Mk (prv n))) w1 (FM_congr (by rw [cp_ne (by decide)]) (cp_ne (by decide)) (w_fK w1 (prv n) hp8))
    have w3 := ws_49 (x := (prv n : Nat)) (y := (k : Nat)) w2
    have J : JX2_restoreLatest_28 h 49 5 (prv n : Nat) 49 = some ((k : Int), (putM (h.set 49 (c49 (prv n : Nat) ((k + 1 : Nat) : Int))) 5 (cpM M (Mk (prv n)))).set 49 (c49 (prv n : Nat) (k : Nat))) := by
      unfold JX2_restoreLatest_28
      rw [z49_w1 (w_e49 w), Option.bind_some, z49_r0 (w_e49 w1), Option.bind_some, z49_i1 (w_e49 w1), Option.bind_some, z50_l (w_e50 w1) hp8, Option.bind_some, cp, Option.bind_some, z49_i2 (w_e49 w2), Option.bind_some, show ((k + 1 : Nat) : Int) - 1 = (k : Int) by omega, z49_w2 (w_e49 w2), Option.bind_some, z49_i2 (w_e49 w3), Option.bind_some]
    have J2 : (if 0 < (n : Int) then (some (n : Int)).bind fun x11 => JX2_restoreLatest_28 h 49 5 (x11 - 1) 49 else JX2_restoreLatest_28 h 49 5 7 49) = JX2_restoreLatest_28 h 49 5 (prv n : Nat) 49 := by
      unfold prv
      by_cases c : 0 < n
      · rw [if_pos (by omega), if_pos c, Option.bind_some, show (n : Int) - 1 = ((n - 1 : Nat) : Int) by omega]
      · rw [if_neg (by omega), if_neg c]; rfl
    rw [J2, J, Option.bind_some, Option.bind_some]
    dsimp only
    have w4 := ws_227 (x := upf u 0 0) w3
    have w5 := ws_227 (x := upf (upf u 0 0) 12 (k : Nat)) w4
    have w6 := ws_229 (x := dh k) w5
    have hk8 : k < 8 := by omega
    unfold FX8_undo
    rw [z8_O (w_g227 w3), Option.bind_some, z8_w0 (w_g227 w3), Option.bind_some, z8_i12 (w_g227 w4), Option.bind_some, upf_ne (by decide), r9, w32_nat (by omega), if_neg (by omega), Option.bind_some, show ((k + 1 : Nat) : Int) - 1 = (k : Int) by omega, z8_w12 (w_g227 w4), Option.bind_some, z8_r11 (w_g227 w5), Option.bind_some, z8_i12 (w_g227 w5), Option.bind_some, upf_eq, z232_l (w_g232 w5) hk8, Option.bind_some, z8_r8 (w_g227 w5), Option.bind_some, m_copy (w_gH w5 k hk8) (w_g229 w5) (by omega), Option.bind_some, z8_i12 (w_g227 w6), Option.bind_some, upf_eq, Option.bind_some, if_pos rfl]
    refine ⟨_, rfl, _, S, Mk, e, prv n, k, rr, tx, bs, sp, _, bf, dh k, dr, df, dh, w6, ?_⟩
    refine ⟨pair_10 (fun x hx => cp_ne hx) hr2, r2, ?_, ?_, r5, r6, ⟨hp8, by omega, upf_eq⟩, hr1, r11⟩
    · rw [upf_ne (by decide), upf_ne (by decide)]; exact r3
    · rw [upf_ne (by decide), upf_ne (by decide)]; exact r4
end
