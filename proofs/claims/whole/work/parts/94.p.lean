set_option linter.unusedVariables false
set_option linter.unusedSimpArgs false
/-! ===== all statements ===== -/
section
variable {X : XC} {Y : YM} {f : Nat → Int} {n : Nat}
theorem body_fail {h h' : PH} {c : Nat} {rr tx sp : Nat → Int} {S : MM} (w : CWd X h S rr tx sp) (hc : c < 900) (hk : w32 (tx 3) ≠ 0) (e : RCs h = some (0, h')) : LX4_readSetup_35 1 27 (c : Nat) h = some (.inr (.inl h')) := by
  unfold LX4_readSetup_35
  rw [w32_nat (by omega), show w32 900 = 900 from rfl, if_pos (by omega), z1_r0 (cw_e1 w), Option.bind_some, z2_i3 (cw_e2 w), Option.bind_some, if_neg hk]
  unfold RCs at e
  obtain ⟨q9, e1, e2⟩ := bnd e
  rw [e1, Option.bind_some]
  by_cases z : w32 q9.1 = 0
  · rw [if_pos z] at e2 ⊢
    cases e2; rfl
  · rw [if_neg z] at e2 ⊢
    rw [e2, Option.bind_some, if_pos (show w32 0 = 0 by decide)]
theorem body_go {h h' : PH} {c : Nat} {rr tx sp : Nat → Int} {S : MM} (w : CWd X h S rr tx sp) (hc : c < 900) (hk : w32 (tx 3) ≠ 0) (e : RCs h = some (1, h')) : LX4_readSetup_35 1 27 (c : Nat) h = some (.inl (((c + 1 : Nat) : Int), h')) := by
  unfold LX4_readSetup_35
  rw [w32_nat (by omega), show w32 900 = 900 from rfl, if_pos (by omega), z1_r0 (cw_e1 w), Option.bind_some, z2_i3 (cw_e2 w), Option.bind_some, if_neg hk]
  unfold RCs at e
  obtain ⟨q9, e1, e2⟩ := bnd e
  rw [e1, Option.bind_some]
  by_cases z : w32 q9.1 = 0
  · rw [if_pos z] at e2
    cases e2
  · rw [if_neg z] at e2 ⊢
    rw [e2, Option.bind_some, if_neg (show ¬ w32 1 = 0 by decide), show (c : Int) + 1 = ((c + 1 : Nat) : Int) by omega]
theorem loopOK (tX : TX X f n) : ∀ (m s : Nat) (S : MM) (dr : Int → Int) (ls : Int) (ss : List Int) (c : Nat), n - s ≤ m → st f n s → PF S dr → EXS ls ss dr → c + 1 ≤ s →
    (∃ q, (∀ h rr tx sp, CWd X h S rr tx sp → TOK f n tx s → STP rr sp ss → rr 5 = ls → ∃ h', lp (fun st : Int × PH => LX4_readSetup_35 1 27 st.1 st.2) (m + 2) ((c : Nat), h) = some (.inl h') ∧ CF X h' (tx 1) q) ∧
      (∀ (Y : YM), RT Y f n → ∀ g u, MW Y g u dr → POS f n u s → u 14 = 0 → u 15 = ls → ∃ g', lp (fun st : PH => LX8_load_159 227 st) (m + 2) g = some g' ∧ MF Y g' u q)) ∨
    (∃ S' dr' ls' ss', PF S' dr' ∧ EXS ls' ss' dr' ∧
      (∀ h rr tx sp, CWd X h S rr tx sp → TOK f n tx s → STP rr sp ss → rr 5 = ls → ∃ h' rr' tx' sp', lp (fun st : Int × PH => LX4_readSetup_35 1 27 st.1 st.2) (m + 2) ((c : Nat), h) = some (.inr h') ∧ CWd X h' S' rr' tx' sp' ∧ STP rr' sp' ss' ∧ tx' 1 = tx 1) ∧
      (∀ (Y : YM), RT Y f n → ∀ g u, MW Y g u dr → POS f n u s → u 14 = 0 → u 15 = ls → ∃ g' u', lp (fun st : PH => LX8_load_159 227 st) (m + 2) g = some g' ∧ MW Y g' u' dr' ∧ u' 5 = 0 ∧ keepU u u')) := by
  have hn := tX.1
  -- the end
  have endC : ∀ (s : Nat) (S : MM) (ls : Int) (ss : List Int) (c m : Nat), s = n → c < 900 → ∀ h rr tx sp, CWd X h S rr tx sp → TOK f n tx s → lp (fun st : Int × PH => LX4_readSetup_35 1 27 st.1 st.2) (m + 2) ((c : Nat), h) = some (.inr h) := by
    intro s S ls ss c m hs hc h rr tx sp wC tk
    have hk : kd f n s = 0 := by unfold kd; rw [if_neg (by omega)]
    rw [lp]
    dsimp only
    unfold LX4_readSetup_35
    rw [w32_nat (by omega), show w32 900 = 900 from rfl, if_pos (by omega), z1_r0 (cw_e1 wC), Option.bind_some, z2_i3 (cw_e2 wC), Option.bind_some, tk.2.1, hk, if_pos (show w32 ((0 : Nat) : Int) = 0 by decide)]
  have endM : ∀ (s m : Nat), s = n → ∀ (Y : YM), RT Y f n → ∀ g u dr, MW Y g u dr → POS f n u s → ∃ g', lp (fun st : PH => LX8_load_159 227 st) (m + 2) g = some g' ∧ MW Y g' (upf u 4 (s : Nat)) dr := by
    intro s m hs Y rY g u dr wM ps
    obtain ⟨g1, e1, w1⟩ := m_next wM rY ps
    have hb : bt f n s = -1 := by unfold bt; rw [if_neg (by omega)]
    refine ⟨g1, ?_, w1⟩
    rw [lp]
    unfold LX8_load_159
    rw [m_good wM ps.2.1, Option.bind_some, if_neg (show ¬ w32 1 = 0 by decide), e1, Option.bind_some]
    dsimp only
    rw [hb, if_pos rfl]
  intro m
  induction m with
  | zero =>
    intro s S dr ls ss c hm hst pf ex hc
    have hs := hst.1
    refine Or.inr ⟨S, dr, ls, ss, pf, ex, ?_, ?_⟩
    · intro h rr tx sp wC tk stp hls
      exact ⟨h, rr, tx, sp, endC s S ls ss c 0 (by omega) (by omega) h rr tx sp wC tk, wC, stp, rfl⟩
    · intro Y rY g u wM ps h14 h15
      obtain ⟨g1, e1, w1⟩ := endM s 0 (by omega) Y rY g u dr wM ps
      exact ⟨g1, _, e1, w1, by rw [upf_ne (by decide)]; exact ps.2.1, keep_up (by omega)⟩
  | succ m ih =>
    intro s S dr ls ss c hm hst pf ex hc
    have hs := hst.1
    by_cases hsn : s < n
    · have hk : ∀ tx, TOK f n tx s → w32 (tx 3) ≠ 0 := fun tx tk => by
        have a := kd_le (f := f) (n := n) (s := s)
        have b : kd f n s ≠ 0 := by unfold kd; rw [if_pos hsn]; split; · decide
                                    · split <;> decide
        rw [tk.2.1, w32_nat (by omega)]; omega
      have hbt : ¬ w32 (bt f n s) = w32 (-1) := by
        have a := tX.2.2 s (by omega)
        unfold bt
        rw [if_pos hsn, w32_eq (by omega) (by omega), show w32 (-1) = -1 from rfl]; omega
      have stM : ∀ (Y : YM), RT Y f n → ∀ g u, MW Y g u dr → POS f n u s → ∃ g1, MW Y g1 (upf u 4 (s : Nat)) dr ∧ POS f n (upf u 4 (s : Nat)) s ∧ LX8_load_159 227 g = (FX8_statement g1 227).bind fun h30 => some (.inl h30) := by
        intro Y rY g u wM ps
        obtain ⟨g1, e1, w1⟩ := m_next wM rY ps
        refine ⟨g1, w1, pos_at ps.1 ps.2.1 hs (st_sk hst), ?_⟩
        unfold LX8_load_159
        rw [m_good wM ps.2.1, Option.bind_some, if_neg (show ¬ w32 1 = 0 by decide), e1, Option.bind_some]
        dsimp only
        rw [if_neg hbt]
      rcases stmtOK tX pf ex hst with ⟨q, jC, jM⟩ | ⟨s1, S1, dr1, l1, ss1, r1, r2, r3, r4, jC, jM⟩
      · refine Or.inl ⟨q, ?_, ?_⟩
        · intro h rr tx sp wC tk stp hls
          obtain ⟨h1, a1, f1⟩ := jC h rr tx sp wC tk stp hls
          refine ⟨h1, ?_, f1⟩
          rw [lp]
          dsimp only
          rw [body_fail wC (by omega) (hk tx tk) a1]
        · intro Y rY g u wM ps h14 h15
          obtain ⟨g1, w1, ps1, e1⟩ := stM Y rY g u wM ps
          obtain ⟨g2, a1, m2⟩ := jM Y rY g1 _ w1 ps1 (by rw [upf_ne (by decide)]; exact h14) (by rw [upf_ne (by decide)]; exact h15)
          have a1 : FX8_statement g1 227 = some g2 := a1
          refine ⟨g2, ?_, MF_keep (keep_up (by omega)) m2⟩
          rw [lp]
          try dsimp only
          rw [e1, a1, Option.bind_some]
          dsimp only
          rw [lp]
          unfold LX8_load_159
          rw [mf_bad m2, Option.bind_some, if_pos (show w32 0 = 0 by decide)]
      · rcases ih s1 S1 dr1 l1 ss1 (c + 1) (by omega) r2 r3 r4 (by omega) with ⟨q, kC, kM⟩ | ⟨S', dr', ls', ss', p1, p2, kC, kM⟩
        · refine Or.inl ⟨q, ?_, ?_⟩
          · intro h rr tx sp wC tk stp hls
            obtain ⟨h1, rr1, tx1, sp1, a1, c1, t1, st1, z1, y1⟩ := jC h rr tx sp wC tk stp hls
            obtain ⟨h2, a2, f2⟩ := kC h1 rr1 tx1 sp1 c1 t1 st1 z1
            refine ⟨h2, ?_, by rw [← y1]; exact f2⟩
            rw [lp]
            dsimp only
            rw [body_go wC (by omega) (hk tx tk) a1]
            exact a2
          · intro Y rY g u wM ps h14 h15
            obtain ⟨g1, w1, ps1, e1⟩ := stM Y rY g u wM ps
            obtain ⟨g2, u2, a1, w2, ps2, n2, se2, ku2⟩ := jM Y rY g1 _ w1 ps1 (by rw [upf_ne (by decide)]; exact h14) (by rw [upf_ne (by decide)]; exact h15)
            have a1 : FX8_statement g1 227 = some g2 := a1
            obtain ⟨g3, a3, m3⟩ := kM Y rY g2 u2 w2 ps2 n2 se2
            refine ⟨g3, ?_, MF_keep (keep_trans (keep_up (by omega)) ku2) m3⟩
            rw [lp]
            try dsimp only
            rw [e1, a1, Option.bind_some]
            exact a3
        · refine Or.inr ⟨S', dr', ls', ss', p1, p2, ?_, ?_⟩
          · intro h rr tx sp wC tk stp hls
            obtain ⟨h1, rr1, tx1, sp1, a1, c1, t1, st1, z1, y1⟩ := jC h rr tx sp wC tk stp hls
            obtain ⟨h2, rr2, tx2, sp2, a2, c2, st2, y2⟩ := kC h1 rr1 tx1 sp1 c1 t1 st1 z1
            refine ⟨h2, rr2, tx2, sp2, ?_, c2, st2, by rw [y2, y1]⟩
            rw [lp]
            dsimp only
            rw [body_go wC (by omega) (hk tx tk) a1]
            exact a2
          · intro Y rY g u wM ps h14 h15
            obtain ⟨g1, w1, ps1, e1⟩ := stM Y rY g u wM ps
            obtain ⟨g2, u2, a1, w2, ps2, n2, se2, ku2⟩ := jM Y rY g1 _ w1 ps1 (by rw [upf_ne (by decide)]; exact h14) (by rw [upf_ne (by decide)]; exact h15)
            have a1 : FX8_statement g1 227 = some g2 := a1
            obtain ⟨g3, u3, a3, w3, u5, ku3⟩ := kM Y rY g2 u2 w2 ps2 n2 se2
            refine ⟨g3, u3, ?_, w3, u5, keep_trans (keep_trans (keep_up (by omega)) ku2) ku3⟩
            rw [lp]
            try dsimp only
            rw [e1, a1, Option.bind_some]
            exact a3
    · refine Or.inr ⟨S, dr, ls, ss, pf, ex, ?_, ?_⟩
      · intro h rr tx sp wC tk stp hls
        exact ⟨h, rr, tx, sp, endC s S ls ss c (m + 1) (by omega) (by omega) h rr tx sp wC tk, wC, stp, rfl⟩
      · intro Y rY g u wM ps h14 h15
        obtain ⟨g1, e1, w1⟩ := endM s (m + 1) (by omega) Y rY g u dr wM ps
        exact ⟨g1, _, e1, w1, by rw [upf_ne (by decide)]; exact ps.2.1, keep_up (by omega)⟩
end
/-! ===== the queue line ===== -/
def d00 : Int → Int := clc (fun _ => 0) 4
def dqu (c k s : Int) : Int → Int := ud (ud (ud d00 0 c) 1 k) 2 s
/-- the spare machine behind the queue line -/
def squ (S : MM) (c : Nat) (k s : Int) : MM := up (up (saM (up (up S 1 0 0) 1 1 0) c) 11 1 k) 11 2 s
theorem iv_cap {A : MM} {k s : Int} (iv : IvM A) (hk : 1 ≤ k ∧ k ≤ 8) (hs : 0 ≤ s ∧ s ≤ 20) : IvM (up (up A 11 1 k) 11 2 s) := by
  have e : ∀ x, x ≠ 11 → up (up A 11 1 k) 11 2 s x = A x := fun x hx => by rw [up_ne hx, up_ne hx]
  have e0 : up (up A 11 1 k) 11 2 s 11 0 = A 11 0 := by rw [up_ni (by decide), up_ni (by decide)]
  have e1 : up (up A 11 1 k) 11 2 s 11 1 = k := by rw [up_ni (by decide), up_eq]
  have e2 : up (up A 11 1 k) 11 2 s 11 2 = s := up_eq
  obtain ⟨⟨okT, okC, okP⟩, oq, kr, os, ob, oh⟩ := iv
  refine ⟨⟨?_, ?_, ?_⟩, ?_, ?_, ?_, ?_, ?_⟩
  · unfold OkT at okT ⊢; rw [e 1 (by decide), e 2 (by decide), e 9 (by decide)]; exact okT
  · unfold OkC runOk at okC ⊢
    rw [e 13 (by decide), e 14 (by decide), e 15 (by decide), e 1 (by decide), e 18 (by decide), e0, e1, e2]
    exact ⟨okC.1, by omega, hs, okC.2.2.2⟩
  · unfold OkP at okP ⊢; rw [e 1 (by decide), e 4 (by decide), e 5 (by decide), e 3 (by decide)]; exact okP
  · unfold OkQ at oq ⊢; rw [e 13 (by decide), e 12 (by decide), e 1 (by decide)]; exact oq
  · unfold OkR at kr ⊢; rw [e0, e 14 (by decide)]; exact kr
  · unfold OkS at os ⊢; rw [e 13 (by decide), e 12 (by decide), e 2 (by decide), e0, e 14 (by decide)]; exact os
  · exact okB_congr (e 1 (by decide)) (e 6 (by decide)) ob
  · unfold OkH at oh ⊢; rw [e 1 (by decide), e 5 (by decide), e0]; exact oh
theorem d00_lo {i : Int} (h : i < 272 ∨ 324 ≤ i) : d00 i = 0 := by unfold d00 clc; rw [if_neg (by omega)]
theorem pf_queue {S : MM} {c : Nat} {k s : Int} (iv : IvM S) (hc : 1 ≤ c ∧ c ≤ 4) (hk : 1 ≤ k ∧ k ≤ 8) (hs : 0 ≤ s ∧ s ≤ 20) : PF (squ S c k s) (dqu c k s) := by
  have N1 : (up (up S 1 0 0) 1 1 0) 1 0 = 0 := by rw [up_ni (by decide), up_eq]
  have N2 : (up (up S 1 0 0) 1 1 0) 1 1 = 0 := up_eq
  have Nk : ∀ x, x ≠ 1 → (up (up S 1 0 0) 1 1 0) x = S x := fun x hx => by rw [up_ne hx, up_ne hx]
  have pre : PreSa (up (up S 1 0 0) 1 1 0) := by
    refine ⟨⟨by rw [N1]; omega, by rw [N2]; omega, by rw [Nk 2 (by decide)]; exact iv.1.1.2.2.1, fun f hf hf2 => by rw [N2] at hf2; omega⟩, fun t ht => by rw [N1] at ht; omega, fun t ht => by rw [N1] at ht; omega, ?_, ?_⟩
    · rw [Nk 11 (by decide)]; exact iv.1.2.1.2.1
    · rw [Nk 11 (by decide)]; exact iv.1.2.1.2.2.1
  have ivA := iv_sa pre hc
  have A1 : saM (up (up S 1 0 0) 1 1 0) c 1 = up (up S 1 0 0) 1 1 0 1 := sa_r (by decide) (by decide) (by decide) (by decide) (by omega)
  have A10 : saM (up (up S 1 0 0) 1 1 0) c 1 0 = 0 := by rw [A1]; exact N1
  have A11 : saM (up (up S 1 0 0) 1 1 0) c 1 1 = 0 := by rw [A1]; exact N2
  have Ac : saM (up (up S 1 0 0) 1 1 0) c 11 0 = c := by rw [sa_11, if_pos rfl]
  have As : ∀ x i, 13 ≤ x ∧ x ≤ 18 → i < 4 → saM (up (up S 1 0 0) 1 1 0) c x i = if x = 14 then -1 else 0 := fun x i hx hi => sa_c hx hi
  have A03 : saM (up (up S 1 0 0) 1 1 0) c 0 3 = 0 := by rw [sa_0, if_pos rfl]
  unfold squ
  generalize saM (up (up S 1 0 0) 1 1 0) c = A at *
  have ivB := iv_cap ivA hk hs
  have e : ∀ x, x ≠ 11 → up (up A 11 1 k) 11 2 s x = A x := fun x hx => by rw [up_ne hx, up_ne hx]
  have e0 : up (up A 11 1 k) 11 2 s 11 0 = c := by rw [up_ni (by decide), up_ni (by decide)]; exact Ac
  have e1 : up (up A 11 1 k) 11 2 s 11 1 = k := by rw [up_ni (by decide), up_eq]
  have e2 : up (up A 11 1 k) 11 2 s 11 2 = s := up_eq
  generalize up (up A 11 1 k) 11 2 s = B at *
  have dl : ∀ i : Int, 2 < i → dqu c k s i = d00 i := fun i hi => by unfold dqu; rw [ud_ne (by omega), ud_ne (by omega), ud_ne (by omega)]
  refine ⟨ivB, ⟨⟨?_, ?_, ?_, ?_, ?_, ?_, fun i hi => ?_⟩, fun f hf => ?_, fun t ht => ?_, fun q hq => ?_⟩, fun t ht => ?_, ⟨fun a b hab hb => ?_, fun q hq hcq => ?_⟩, ?_, ?_⟩
  · rw [gh_ne (by decide), e0]; unfold dqu; rw [ud_ne (by omega), ud_ne (by omega), ud_eq]
  · rw [gh_ne (by decide), e1]; unfold dqu; rw [ud_ne (by omega), ud_eq]
  · rw [gh_ne (by decide), e2]; unfold dqu; rw [ud_eq]
  · rw [gh_ne (by decide), e 1 (by decide), A10, dl _ (by omega), d00_lo (by omega)]
  · rw [gh_ne (by decide), e 1 (by decide), A11, dl _ (by omega), d00_lo (by omega)]
  · rw [gh_ne (by decide), e 0 (by decide), A03, dl _ (by omega), d00_lo (by omega)]
  · unfold gh; rw [if_pos rfl, show ((i.toNat : Nat) : Int) = i by omega]
  · rw [gh_ne (by decide), e 1 (by decide), A11] at hf; omega
  · rw [gh_ne (by decide), e 1 (by decide), A10] at ht; omega
  · rw [gh_ne (by decide), e0] at hq
    have hq4 : q < 4 := by omega
    rw [gh_ne (show 14 ≠ 19 by decide), gh_ne (show 16 ≠ 19 by decide), gh_ne (show 17 ≠ 19 by decide), gh_ne (show 18 ≠ 19 by decide), gh_ne (show 13 ≠ 19 by decide), e 14 (by decide), e 16 (by decide), e 17 (by decide), e 18 (by decide), e 13 (by decide), As 14 q (by omega) hq4, As 16 q (by omega) hq4, As 17 q (by omega) hq4, As 18 q (by omega) hq4, As 13 q (by omega) hq4, if_pos rfl, if_neg (by decide), if_neg (by decide), if_neg (by decide), if_neg (by decide)]
    refine ⟨?_, ?_, ?_, ?_, ?_, fun j hj => ?_, fun hr => ?_⟩
    · rw [dl _ (by omega)]; unfold d00 clc; rw [if_pos (by omega), if_pos (by omega)]
    · rw [dl _ (by omega)]; unfold d00 clc; rw [if_pos (by omega), if_neg (by omega)]
    · rw [dl _ (by omega)]; unfold d00 clc; rw [if_pos (by omega), if_neg (by omega)]
    · rw [dl _ (by omega)]; unfold d00 clc; rw [if_pos (by omega), if_neg (by omega)]
    · rw [dl _ (by omega)]; unfold d00 clc; rw [if_pos (by omega), if_neg (by omega)]
    · omega
    · omega
  · rw [e 1 (by decide), A10] at ht; omega
  · rw [e 1 (by decide), A11] at hb; omega
  · rw [e 13 (by decide), As 13 q (by omega) hq, if_neg (by decide)]
  · rw [e 0 (by decide)]; exact A03
  · rw [e0]; omega
theorem exs_queue {c k s : Int} : EXS 0 [-1] (dqu c k s) := by
  refine Or.inl ⟨rfl, rfl, ?_, ?_⟩
  · unfold dqu; rw [ud_ne (by omega), ud_ne (by omega), ud_ne (by omega), d00_lo (by omega)]
  · unfold dqu; rw [ud_ne (by omega), ud_ne (by omega), ud_ne (by omega), d00_lo (by omega)]
