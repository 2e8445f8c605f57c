set_option linter.unusedVariables false
set_option linter.unusedSimpArgs false
/-! ===== cancel ===== -/
def rm1 (M : MM) (t c k : Nat) : MM := if M 12 (8 * c + k) = t then tkM M c k else M
def rmk (t c : Nat) : Nat → MM → MM
  | 0, M => M
  | k + 1, M => rmk t c k (rm1 M t c k)
def rmc (M : MM) (t : Nat) : Nat → MM
  | 0 => M
  | c + 1 => rmk t c (rmc M t c 13 c).toNat (rmc M t c)
theorem iv_tk {M : MM} {c k : Nat} (iv : IvM M) (hc : c < 4) (hk : (k : Int) < M 13 c) : IvM (tkM M c k) := by
  obtain ⟨⟨okT, okC, okP⟩, oq, kr, ⟨s1, s2, s3⟩, ob, oh⟩ := iv
  have h8 := okC.2.2.2.1
  have e : ∀ x, x ≠ 12 → x ≠ 13 → tkM M c k x = M x := fun x h1 h2 => tk_ne h1 h2
  have hq2 := tk_okq okC oq hc hk
  refine ⟨⟨?_, ?_, ?_⟩, hq2, okR_congr (e 11 (by decide) (by decide)) (e 14 (by decide) (by decide)) kr, ⟨fun q j hq hj => ?_, ?_, fun q j q' j' hq hq' hj hj' he => ?_⟩, okB_congr (e 1 (by decide) (by decide)) (e 6 (by decide) (by decide)) ob, okH_congr (e 1 (by decide) (by decide)) (e 5 (by decide) (by decide)) (e 11 (by decide) (by decide)) oh⟩
  · unfold OkT at okT ⊢; rw [e 1 (by decide) (by decide), e 2 (by decide) (by decide), e 9 (by decide) (by decide)]; exact okT
  · unfold OkC runOk at okC ⊢
    rw [e 11 (by decide) (by decide), e 14 (by decide) (by decide), e 15 (by decide) (by decide), e 1 (by decide) (by decide), e 18 (by decide) (by decide)]
    refine ⟨okC.1, okC.2.1, okC.2.2.1, fun q hq => ?_, okC.2.2.2.2⟩
    have h1 := h8 q hq
    have h2 := h8 c hc
    rw [tk_13]; split <;> omega
  · unfold OkP at okP ⊢; rw [e 1 (by decide) (by decide), e 4 (by decide) (by decide), e 5 (by decide) (by decide), e 3 (by decide) (by decide)]; exact okP
  · obtain ⟨j', e1, e2, -⟩ := tk_old h8 hc hq hk hj
    rw [e1, e 2 (by decide) (by decide)]; exact s1 q j' hq e2
  · rw [e 11 (by decide) (by decide), e 14 (by decide) (by decide), e 2 (by decide) (by decide)]; exact s2
  · obtain ⟨i, e1, e2, e3, e4, e5⟩ := tk_old h8 hc hq hk hj
    obtain ⟨i', f1, f2, f3, f4, f5⟩ := tk_old h8 hc hq' hk hj'
    rw [e1, f1] at he
    obtain ⟨g1, g2⟩ := s3 q i q' i' hq hq' e2 f2 he
    refine ⟨g1, ?_⟩
    subst g1
    by_cases z : q = c
    · have a1 := e4 z
      have a2 := f4 z
      by_cases x : k ≤ j <;> by_cases y : k ≤ j'
      · rw [if_pos x] at a1; rw [if_pos y] at a2; omega
      · rw [if_pos x] at a1; rw [if_neg y] at a2; omega
      · rw [if_neg x] at a1; rw [if_pos y] at a2; omega
      · rw [if_neg x] at a1; rw [if_neg y] at a2; omega
    · rw [← e5 z, ← f5 z]; exact g2
/-- no place of the queue from k on holds the task -/
def NL (M : MM) (t c k : Nat) : Prop := ∀ j : Nat, k ≤ j → (j : Int) < M 13 c → M 12 (8 * c + j) ≠ t
/-- what a scan of a queue leaves -/
def Sc (M N : MM) (c : Nat) : Prop := (∀ x, x ≠ 12 → x ≠ 13 → N x = M x) ∧ ∀ q : Nat, q ≠ c → q < 4 → N 13 q = M 13 q ∧ ∀ j : Nat, (j : Int) < M 13 q → N 12 (8 * q + j) = M 12 (8 * q + j)
theorem Sc_refl {M : MM} {c : Nat} : Sc M M c := ⟨fun _ _ _ => rfl, fun _ _ _ => ⟨rfl, fun _ _ => rfl⟩⟩
theorem Sc_trans {M N O : MM} {c : Nat} (a : Sc M N c) (b : Sc N O c) : Sc M O c := by
  refine ⟨fun x h1 h2 => (b.1 x h1 h2).trans (a.1 x h1 h2), fun q hq hq4 => ?_⟩
  obtain ⟨a1, a2⟩ := a.2 q hq hq4
  obtain ⟨b1, b2⟩ := b.2 q hq hq4
  exact ⟨b1.trans a1, fun j hj => (b2 j (by rw [a1]; exact hj)).trans (a2 j hj)⟩
theorem Sc_tk {M : MM} {c k : Nat} (h8 : ∀ c : Nat, c < 4 → 0 ≤ M 13 c ∧ M 13 c ≤ 8) (hc : c < 4) : Sc M (tkM M c k) c := by
  refine ⟨fun x h1 h2 => tk_ne h1 h2, fun q hq hq4 => ⟨by rw [tk_13, if_neg hq], fun j hj => ?_⟩⟩
  have h1 := h8 q hq4
  have h2 := h8 c hc
  rw [tk_12, if_neg (by omega)]
theorem rm1_ok {M : MM} {t c k : Nat} (iv : IvM M) (hc : c < 4) (hk : (k : Int) < M 13 c) (nl : NL M t c (k + 1)) : IvM (rm1 M t c k) ∧ Sc M (rm1 M t c k) c ∧ NL (rm1 M t c k) t c k ∧ (k : Int) ≤ rm1 M t c k 13 c := by
  have h8 := iv.1.2.1.2.2.2.1
  have h1 := h8 c hc
  unfold rm1
  by_cases z : M 12 (8 * c + k) = t
  · rw [if_pos z]
    refine ⟨iv_tk iv hc hk, Sc_tk h8 hc, fun j hj hj2 => ?_, by rw [tk_13, if_pos rfl]; omega⟩
    rw [tk_13, if_pos rfl] at hj2
    rw [tk_12, if_pos (by omega)]
    exact nl (j + 1) (by omega) (by omega)
  · rw [if_neg z]
    refine ⟨iv, Sc_refl, fun j hj hj2 => ?_, by omega⟩
    by_cases e : j = k
    · subst e; exact z
    · exact nl j (by omega) hj2
theorem rmk_ok {t c : Nat} (hc : c < 4) : ∀ {k : Nat} {M : MM}, IvM M → (k : Int) ≤ M 13 c → NL M t c k → IvM (rmk t c k M) ∧ Sc M (rmk t c k M) c ∧ NL (rmk t c k M) t c 0 := by
  intro k
  induction k with
  | zero => intro M iv _ nl; exact ⟨iv, Sc_refl, nl⟩
  | succ k ih =>
    intro M iv hk nl
    obtain ⟨a1, a2, a3, a4⟩ := rm1_ok iv hc (by omega) nl
    obtain ⟨b1, b2, b3⟩ := ih a1 a4 a3
    exact ⟨b1, Sc_trans a2 b2, b3⟩
theorem rmk_none {t c : Nat} : ∀ {k : Nat} {M : MM}, (∀ j : Nat, j < k → M 12 (8 * c + j) ≠ t) → rmk t c k M = M := by
  intro k
  induction k with
  | zero => intro M _; rfl
  | succ k ih =>
    intro M h
    have : rm1 M t c k = M := by unfold rm1; rw [if_neg (h k (by omega))]
    show rmk t c k (rm1 M t c k) = M
    rw [this]; exact ih (fun j hj => h j (by omega))
theorem rmc_ok {M : MM} {t : Nat} (iv : IvM M) : ∀ {c : Nat}, (c : Int) ≤ M 11 0 → IvM (rmc M t c) ∧ (∀ x, x ≠ 12 → x ≠ 13 → rmc M t c x = M x) ∧ (∀ q : Nat, q < c → NL (rmc M t c) t q 0) ∧ (∀ q : Nat, c ≤ q → q < 4 → rmc M t c 13 q = M 13 q) := by
  have h4 := iv.1.2.1.1
  intro c
  induction c with
  | zero => intro _; exact ⟨iv, fun _ _ _ => rfl, fun q hq => by omega, fun _ _ _ => rfl⟩
  | succ c ih =>
    intro hc
    obtain ⟨a1, a2, a3, a4⟩ := ih (by omega)
    have h8 := a1.1.2.1.2.2.2.1 c (by omega)
    obtain ⟨b1, b2, b3⟩ := rmk_ok (t := t) (c := c) (by omega) (k := (rmc M t c 13 c).toNat) a1 (by omega) (fun j hj hj2 => by omega)
    refine ⟨b1, fun x h1 h2 => (b2.1 x h1 h2).trans (a2 x h1 h2), fun q hq => ?_, fun q hq hq4 => ?_⟩
    · by_cases e : q = c
      · subst e; exact b3
      · obtain ⟨u1, u2⟩ := b2.2 q e (by omega)
        have v := a3 q (by omega)
        intro j hj hj2
        have hj2 : (j : Int) < rmk t c (rmc M t c 13 c).toNat (rmc M t c) 13 q := hj2
        rw [u1] at hj2
        show rmk t c (rmc M t c 13 c).toNat (rmc M t c) 12 (8 * q + j) ≠ t
        rw [u2 j hj2]; exact v j hj hj2
    · exact ((b2.2 q (by omega) hq4).1).trans (a4 q (by omega) hq4)
theorem rmc_none {M : MM} {t : Nat} (iv : IvM M) (hn : ∀ c k : Nat, c < 4 → (k : Int) < M 13 c → M 12 (8 * c + k) ≠ t) : ∀ {c : Nat}, (c : Int) ≤ M 11 0 → rmc M t c = M := by
  have h4 := iv.1.2.1.1
  intro c
  induction c with
  | zero => intro _; rfl
  | succ c ih =>
    intro hc
    have e := ih (by omega)
    have h8 := iv.1.2.1.2.2.2.1 c (by omega)
    show rmk t c (rmc M t c 13 c).toNat (rmc M t c) = M
    rw [e]
    exact rmk_none (fun j hj => hn c j (by omega) (by omega))
section
variable {h : PH} {p : Nat} {M : MM}
theorem r_rmk {t c : Nat} (hp : p + 19 ≤ h.length) (iv : IvM M) (hc : (c : Int) < M 11 0) (ht : t < 32) : lp (fun st : Int × PH => LX0_removeFromQueues_19 (p + 11) t c st.1 st.2) FU (M 13 c - 1, putM h p M) = some (putM h p (rmk t c (M 13 c).toNat M)) := by
  have h4 := iv.1.2.1.1
  have h8 := iv.1.2.1.2.2.2.1 c (by omega)
  obtain ⟨n, hn⟩ := Int.eq_ofNat_of_zero_le h8.1
  rw [hn, Int.toNat_natCast]
  have := lp_for (f := fun st : Int × PH => LX0_removeFromQueues_19 (p + 11) t c st.1 st.2) (fun i st => ∃ N, st = ((n : Int) - 1 - i, putM h p N) ∧ IvM N ∧ N 1 = M 1 ∧ ((n - i : Nat) : Int) ≤ N 13 c ∧ NL N t c (n - i) ∧ rmk t c (n - i) N = rmk t c n M) (fun q => q = putM h p (rmk t c n M)) (a := 0) (b := n) (s := ((n : Int) - 1, putM h p M)) (by omega) (by omega) ⟨M, by simp, iv, rfl, by omega, fun j hj hj2 => by omega, rfl⟩ (fun i st h1 h2 hI => ?_) (fun st hI => ?_)
  · obtain ⟨q, e1, rfl⟩ := this
    exact e1
  · obtain ⟨N, rfl, ivN, n1, hsz, nl, hq⟩ := hI
    obtain ⟨k, hk⟩ : ∃ k, n - i = k + 1 := ⟨n - i - 1, by omega⟩
    rw [hk] at hsz nl hq
    obtain ⟨a1, a2, a3, a4⟩ := rm1_ok ivN (by omega) (by omega) nl
    have oq := ivN.2.1 c (by omega) k (by omega)
    have hT := ivN.1.1.1
    refine Or.inr ?_
    dsimp only
    rw [show (n : Int) - 1 - i = (k : Int) by omega]
    unfold LX0_removeFromQueues_19 JX0_removeFromQueues_45
    simp (disch := omega) only [pm_isO0 hp, pm_gfr0_0 hp, pm_gfr0_1 hp, pm_gfr0_2 hp, pm_gfi0_3 hp, pm_pfi0_3 hp, pm_isO1 hp, pm_gfi1_0 hp, pm_pfi1_0 hp, pm_gfi1_1 hp, pm_pfi1_1 hp, pm_gfr1_2 hp, pm_gfr1_3 hp, pm_gfr1_4 hp, pm_gfr1_5 hp, pm_gfr1_6 hp, pm_gfr1_7 hp, pm_gfr1_8 hp, pm_gfr1_9 hp, pm_gfr1_10 hp, pm_isO11 hp, pm_gfi11_0 hp, pm_pfi11_0 hp, pm_gfi11_1 hp, pm_pfi11_1 hp, pm_gfi11_2 hp, pm_pfi11_2 hp, pm_gfr11_3 hp, pm_gfr11_4 hp, pm_gfr11_5 hp, pm_gfr11_6 hp, pm_gfr11_7 hp, pm_gfr11_8 hp, pm_gfr11_9 hp, pa2 hp, ps2 hp, pa3 hp, ps3 hp, pa4 hp, ps4 hp, pa5 hp, ps5 hp, pa6 hp, ps6 hp, pa7 hp, ps7 hp, pa8 hp, ps8 hp, pa9 hp, ps9 hp, pa10 hp, ps10 hp, pa12 hp, ps12 hp, pa13 hp, ps13 hp, pa14 hp, ps14 hp, pa15 hp, ps15 hp, pa16 hp, ps16 hp, pa17 hp, ps17 hp, pa18 hp, ps18 hp, Option.bind_some, w32_eq, Int.toNat_natCast, if_true, if_false]
    rw [if_neg (by omega), show ((c : Int) * 8 + k).toNat = 8 * c + k by omega, w32_eq (x := N 12 (8 * c + k)) (by omega) (by omega)]
    have e1 : rm1 N t c k 1 = M 1 := (a2.1 1 (by decide) (by decide)).trans n1
    have hq : rmk t c k (rm1 N t c k) = rmk t c n M := hq
    have hq' : rmk t c (n - (i + 1)) (rm1 N t c k) = rmk t c n M := by rw [show n - (i + 1) = k by omega]; exact hq
    have a3' : NL (rm1 N t c k) t c (n - (i + 1)) := by rw [show n - (i + 1) = k by omega]; exact a3
    have a4' : ((n - (i + 1) : Nat) : Int) ≤ rm1 N t c k 13 c := by rw [show n - (i + 1) = k by omega]; exact a4
    by_cases z : N 12 (8 * c + k) = t
    · rw [if_pos z, r_take hp ivN.1.2.1 (by omega) (by omega), Option.bind_some]
      refine ⟨_, rfl, rm1 N t c k, ?_, a1, e1, a4', a3', hq'⟩
      unfold rm1
      rw [if_pos z, show (n : Int) - 1 - ((i + 1 : Nat) : Int) = (k : Int) + -1 by omega]
    · rw [if_neg z]
      refine ⟨_, rfl, rm1 N t c k, ?_, a1, e1, a4', a3', hq'⟩
      unfold rm1
      rw [if_neg z, show (n : Int) - 1 - ((i + 1 : Nat) : Int) = (k : Int) + -1 by omega]
  · obtain ⟨N, rfl, ivN, n1, hsz, nl, hq⟩ := hI
    dsimp only
    unfold LX0_removeFromQueues_19
    rw [show (n : Int) - 1 - n = -1 by omega, if_pos (show w32 (-1) < 0 by decide)]
    refine ⟨_, rfl, ?_⟩
    rw [Nat.sub_self] at hq
    rw [← hq]; rfl
theorem r_rm {t : Nat} (hp : p + 19 ≤ h.length) (iv : IvM M) (ht : t < 32) : FX0_removeFromQueues (putM h p M) (p + 11) t = some (putM h p (rmc M t (M 11 0).toNat)) := by
  have h4 := iv.1.2.1.1
  obtain ⟨n, hn⟩ := Int.eq_ofNat_of_zero_le h4.1
  unfold FX0_removeFromQueues
  rw [pm_isO11 hp, Option.bind_some]
  have L := lp_det (f := fun st : Int × PH => LX0_removeFromQueues_2 (p + 11) t st.1 st.2) (fun c => ((c : Int), putM h p (rmc M t c))) (a := 0) (b := n) (r := putM h p (rmc M t n)) (by omega) (by omega) (fun c h1 h2 => ?_) ?_
  · have L : lp (fun st : Int × PH => LX0_removeFromQueues_2 (p + 11) t st.1 st.2) FU (0, putM h p M) = some (putM h p (rmc M t n)) := L
    rw [L, hn, Int.toNat_natCast]; rfl
  · obtain ⟨a1, a2, a3, a4⟩ := rmc_ok (t := t) iv (c := c) (by omega)
    have e11 : rmc M t c 11 0 = n := by rw [a2 11 (by decide) (by decide)]; exact hn
    have h8 := a1.1.2.1.2.2.2.1 c (by omega)
    unfold LX0_removeFromQueues_2
    simp (disch := omega) only [pm_isO0 hp, pm_gfr0_0 hp, pm_gfr0_1 hp, pm_gfr0_2 hp, pm_gfi0_3 hp, pm_pfi0_3 hp, pm_isO1 hp, pm_gfi1_0 hp, pm_pfi1_0 hp, pm_gfi1_1 hp, pm_pfi1_1 hp, pm_gfr1_2 hp, pm_gfr1_3 hp, pm_gfr1_4 hp, pm_gfr1_5 hp, pm_gfr1_6 hp, pm_gfr1_7 hp, pm_gfr1_8 hp, pm_gfr1_9 hp, pm_gfr1_10 hp, pm_isO11 hp, pm_gfi11_0 hp, pm_pfi11_0 hp, pm_gfi11_1 hp, pm_pfi11_1 hp, pm_gfi11_2 hp, pm_pfi11_2 hp, pm_gfr11_3 hp, pm_gfr11_4 hp, pm_gfr11_5 hp, pm_gfr11_6 hp, pm_gfr11_7 hp, pm_gfr11_8 hp, pm_gfr11_9 hp, pa2 hp, ps2 hp, pa3 hp, ps3 hp, pa4 hp, ps4 hp, pa5 hp, ps5 hp, pa6 hp, ps6 hp, pa7 hp, ps7 hp, pa8 hp, ps8 hp, pa9 hp, ps9 hp, pa10 hp, ps10 hp, pa12 hp, ps12 hp, pa13 hp, ps13 hp, pa14 hp, ps14 hp, pa15 hp, ps15 hp, pa16 hp, ps16 hp, pa17 hp, ps17 hp, pa18 hp, ps18 hp, Option.bind_some, w32_eq, Int.toNat_natCast, if_true, if_false, e11]
    rw [if_pos (by omega), r_rmk hp a1 (by omega) ht, Option.bind_some]
    rfl
  · obtain ⟨a1, a2, a3, a4⟩ := rmc_ok (t := t) iv (c := n) (by omega)
    have e11 : rmc M t n 11 0 = n := by rw [a2 11 (by decide) (by decide)]; exact hn
    unfold LX0_removeFromQueues_2
    simp (disch := omega) only [pm_isO0 hp, pm_gfr0_0 hp, pm_gfr0_1 hp, pm_gfr0_2 hp, pm_gfi0_3 hp, pm_pfi0_3 hp, pm_isO1 hp, pm_gfi1_0 hp, pm_pfi1_0 hp, pm_gfi1_1 hp, pm_pfi1_1 hp, pm_gfr1_2 hp, pm_gfr1_3 hp, pm_gfr1_4 hp, pm_gfr1_5 hp, pm_gfr1_6 hp, pm_gfr1_7 hp, pm_gfr1_8 hp, pm_gfr1_9 hp, pm_gfr1_10 hp, pm_isO11 hp, pm_gfi11_0 hp, pm_pfi11_0 hp, pm_gfi11_1 hp, pm_pfi11_1 hp, pm_gfi11_2 hp, pm_pfi11_2 hp, pm_gfr11_3 hp, pm_gfr11_4 hp, pm_gfr11_5 hp, pm_gfr11_6 hp, pm_gfr11_7 hp, pm_gfr11_8 hp, pm_gfr11_9 hp, pa2 hp, ps2 hp, pa3 hp, ps3 hp, pa4 hp, ps4 hp, pa5 hp, ps5 hp, pa6 hp, ps6 hp, pa7 hp, ps7 hp, pa8 hp, ps8 hp, pa9 hp, ps9 hp, pa10 hp, ps10 hp, pa12 hp, ps12 hp, pa13 hp, ps13 hp, pa14 hp, ps14 hp, pa15 hp, ps15 hp, pa16 hp, ps16 hp, pa17 hp, ps17 hp, pa18 hp, ps18 hp, Option.bind_some, w32_eq, Int.toNat_natCast, if_true, if_false, e11]
    rw [if_neg (by omega)]
end
/-! the reference -/
theorem relX_dtk {M : MM} {d : Int → Int} {c k : Nat} (hT : M 1 0 ≤ 32) (rx : RelX M d) : RelX (tkM M c k) (dtk M d c k) := by
  intro t ht
  rw [tk_ne (by decide) (by decide)] at ht
  rw [tk_ne (show 7 ≠ 12 by decide) (by decide), tk_ne (show 8 ≠ 12 by decide) (by decide)]
  unfold dtk
  rw [dsh_out (by omega), ud_ne (by omega), dsh_out (by omega), ud_ne (by omega)]
  exact rx t ht
section
variable {h : PH} {u : Nat → Int} {d : Int → Int} {M : MM}
theorem m_rmk {t c : Nat} {v2 : Int} (z : h[227]? = some (mdl u)) (zd : h[229]? = some (dcell d)) (iv : IvM M) (r : Rel M d) (rx : RelX M d) (hc : (c : Int) < M 11 0) (ht : t < 32) : ∃ d', lp (fun st : Int × PH => LX8_cancel_83 227 t v2 c st.1 st.2) FU (M 13 c - 1, h) = some (h.set 229 (dcell d')) ∧ Rel (rmk t c (M 13 c).toNat M) d' ∧ RelX (rmk t c (M 13 c).toNat M) d' := by
  have h4 := iv.1.2.1.1
  have h8 := iv.1.2.1.2.2.2.1 c (by omega)
  obtain ⟨n, hn⟩ := Int.eq_ofNat_of_zero_le h8.1
  have hl : 229 < h.length := by
    rcases Nat.lt_or_ge 229 h.length with q | q
    · exact q
    · rw [List.getElem?_eq_none q] at zd; cases zd
  have Z : ∀ x, (h.set 229 (dcell x))[229]? = some (dcell x) := fun x => by simp [hl]
  have Z8 : ∀ x, (h.set 229 (dcell x))[227]? = some (mdl u) := fun x => by rw [List.getElem?_set, if_neg (by decide)]; exact z
  rw [hn, Int.toNat_natCast]
  have := lp_for (f := fun st : Int × PH => LX8_cancel_83 227 t v2 c st.1 st.2) (fun i st => ∃ N d', st = ((n : Int) - 1 - i, h.set 229 (dcell d')) ∧ IvM N ∧ N 11 = M 11 ∧ ((n - i : Nat) : Int) ≤ N 13 c ∧ NL N t c (n - i) ∧ rmk t c (n - i) N = rmk t c n M ∧ Rel N d' ∧ RelX N d') (fun q => ∃ d', q = h.set 229 (dcell d') ∧ Rel (rmk t c n M) d' ∧ RelX (rmk t c n M) d') (a := 0) (b := n) (s := ((n : Int) - 1, h)) (by omega) (by omega) ⟨M, d, by rw [set_same zd]; simp, iv, rfl, by omega, fun j hj hj2 => by omega, rfl, r, rx⟩ (fun i st h1 h2 hI => ?_) (fun st hI => ?_)
  · obtain ⟨q, e1, d', rfl, e2, e3⟩ := this
    exact ⟨d', e1, e2, e3⟩
  · obtain ⟨N, d1, rfl, ivN, n11, hsz, nl, hq, r1, rx1⟩ := hI
    obtain ⟨k, hk⟩ : ∃ k, n - i = k + 1 := ⟨n - i - 1, by omega⟩
    rw [hk] at hsz nl hq
    obtain ⟨a1, a2, a3, a4⟩ := rm1_ok ivN (by omega) (by omega) nl
    have oq := ivN.2.1 c (by omega) k (by omega)
    have hT := ivN.1.1.1
    have hcN : (c : Int) < N 11 0 := by rw [n11]; exact hc
    have e5 := (r1.2.2.2 c hcN).2.2.2.2.2.1 k (by omega)
    refine Or.inr ?_
    dsimp only
    rw [show (n : Int) - 1 - i = (k : Int) by omega]
    unfold LX8_cancel_83 JX8_cancel_117 FX8_core
    rw [w32_nat (by omega), if_neg (by omega), z8_r8 (Z8 _), Option.bind_some, Option.bind_some, zd_l (Z _) (by omega) (by omega), Option.bind_some, e5, w32_eq (by omega) (by omega), w32_nat (by omega)]
    have e11 : rm1 N t c k 11 = M 11 := (a2.1 11 (by decide) (by decide)).trans n11
    have hq : rmk t c k (rm1 N t c k) = rmk t c n M := hq
    have hq' : rmk t c (n - (i + 1)) (rm1 N t c k) = rmk t c n M := by rw [show n - (i + 1) = k by omega]; exact hq
    have a3' : NL (rm1 N t c k) t c (n - (i + 1)) := by rw [show n - (i + 1) = k by omega]; exact a3
    have a4' : ((n - (i + 1) : Nat) : Int) ≤ rm1 N t c k 13 c := by rw [show n - (i + 1) = k by omega]; exact a4
    by_cases y : N 12 (8 * c + k) = t
    · have mt := m_takeOut (h := h) (a := 229) hl (Sd_of ivN.1) r1 hcN (k := k) (by omega)
      have mt : FX8_takeOut (h.set 229 (dcell d1)) 229 c k = some (N 12 (8 * c + k), h.set 229 (dcell (dtk N d1 c k))) := mt
      rw [if_pos y, Option.bind_some, mt, Option.bind_some]
      refine ⟨_, rfl, rm1 N t c k, dtk N d1 c k, ?_, a1, e11, a4', a3', hq', ?_, ?_⟩
      · rw [show (n : Int) - 1 - ((i + 1 : Nat) : Int) = (k : Int) + -1 by omega]
      · unfold rm1; rw [if_pos y]; exact rel_tk (Sd_of ivN.1) ivN.1.1.2.1.1 r1 hcN (by omega)
      · unfold rm1; rw [if_pos y]; exact relX_dtk hT.2 rx1
    · rw [if_neg y]
      refine ⟨_, rfl, rm1 N t c k, d1, ?_, a1, e11, a4', a3', hq', ?_, ?_⟩
      · rw [show (n : Int) - 1 - ((i + 1 : Nat) : Int) = (k : Int) + -1 by omega]
      · unfold rm1; rw [if_neg y]; exact r1
      · unfold rm1; rw [if_neg y]; exact rx1
  · obtain ⟨N, d1, rfl, ivN, n11, hsz, nl, hq, r1, rx1⟩ := hI
    dsimp only
    unfold LX8_cancel_83
    rw [show (n : Int) - 1 - n = -1 by omega, if_pos (show w32 (-1) < 0 by decide)]
    rw [Nat.sub_self] at hq
    have hq : N = rmk t c n M := hq
    exact ⟨_, rfl, d1, rfl, by rw [← hq]; exact r1, by rw [← hq]; exact rx1⟩
theorem m_rm {t : Nat} {v2 : Int} (z : h[227]? = some (mdl u)) (zd : h[229]? = some (dcell d)) (iv : IvM M) (r : Rel M d) (rx : RelX M d) (ht : t < 32) (hv : v2 = M 2 t) (hv2 : 0 ≤ v2 ∧ v2 ≤ 5) : ∃ d', lp (fun st : Int × PH => LX8_cancel_53 227 t v2 st.1 st.2) FU (0, h) = some (h.set 229 (dcell d')) ∧ Rel (rmc M t (M 11 0).toNat) d' ∧ RelX (rmc M t (M 11 0).toNat) d' := by
  have h4 := iv.1.2.1.1
  obtain ⟨n, hn⟩ := Int.eq_ofNat_of_zero_le h4.1
  have hl : 229 < h.length := by
    rcases Nat.lt_or_ge 229 h.length with q | q
    · exact q
    · rw [List.getElem?_eq_none q] at zd; cases zd
  have Z : ∀ x, (h.set 229 (dcell x))[229]? = some (dcell x) := fun x => by simp [hl]
  have Z8 : ∀ x, (h.set 229 (dcell x))[227]? = some (mdl u) := fun x => by rw [List.getElem?_set, if_neg (by decide)]; exact z
  by_cases c2 : v2 = 2
  · have := lp_for (f := fun st : Int × PH => LX8_cancel_53 227 t v2 st.1 st.2) (fun c st => ∃ d', st = ((c : Int), h.set 229 (dcell d')) ∧ Rel (rmc M t c) d' ∧ RelX (rmc M t c) d') (fun q => ∃ d', q = h.set 229 (dcell d') ∧ Rel (rmc M t n) d' ∧ RelX (rmc M t n) d') (a := 0) (b := n) (s := (0, h)) (by omega) (by omega) ⟨d, by rw [set_same zd]; rfl, r, rx⟩ (fun c st h1 h2 hI => ?_) (fun st hI => ?_)
    · obtain ⟨q, e1, d', rfl, e2⟩ := this
      rw [hn, Int.toNat_natCast]
      exact ⟨d', e1, e2⟩
    · obtain ⟨d1, rfl, r1, rx1⟩ := hI
      obtain ⟨a1, a2, a3, a4⟩ := rmc_ok (t := t) iv (c := c) (by omega)
      have e11 : rmc M t c 11 0 = n := by rw [a2 11 (by decide) (by decide)]; exact hn
      have h8 := a1.1.2.1.2.2.2.1 c (by omega)
      have k0 := r1.1.1
      have e13 := (r1.2.2.2 c (by omega)).2.2.2.2.1
      obtain ⟨d2, g1, g2, g3⟩ := m_rmk (v2 := v2) (Z8 d1) (Z d1) a1 r1 rx1 (c := c) (by omega) ht
      refine Or.inr ?_
      dsimp only
      unfold LX8_cancel_53 FX8_core
      rw [z8_r8 (Z8 _), Option.bind_some, zd_l (Z _) (by omega) (by omega), Option.bind_some, k0, e11, w32_nat (by omega), w32_nat (by omega), if_pos (by omega), c2, if_pos rfl, Option.bind_some, Option.bind_some, zd_l (Z _) (by omega) (by omega), Option.bind_some, e13, ← c2, g1, Option.bind_some, List.set_set]
      exact ⟨_, rfl, d2, rfl, g2, g3⟩
    · obtain ⟨d1, rfl, r1, rx1⟩ := hI
      obtain ⟨a1, a2, a3, a4⟩ := rmc_ok (t := t) iv (c := n) (by omega)
      have e11 : rmc M t n 11 0 = n := by rw [a2 11 (by decide) (by decide)]; exact hn
      dsimp only
      unfold LX8_cancel_53
      rw [z8_r8 (Z8 _), Option.bind_some, zd_l (Z _) (by omega) (by omega), Option.bind_some, r1.1.1, e11, if_neg (Int.lt_irrefl _)]
      exact ⟨_, rfl, d1, rfl, r1, rx1⟩
  · have en : rmc M t (M 11 0).toNat = M := rmc_none iv (fun c k hc hk e => by
      have := iv.2.2.2.1.1 c k hc hk
      rw [e, Int.toNat_natCast] at this; omega) (by omega)
    rw [en]
    refine ⟨d, ?_, r, rx⟩
    rw [set_same zd]
    have key : LX8_cancel_53 227 t v2 0 h = some (.inr h) := by
      unfold LX8_cancel_53
      rw [z8_r8 z, Option.bind_some, zd_l zd (by omega) (by omega), Option.bind_some, w32_eq (x := v2) (by omega) (by omega), show w32 2 = 2 from rfl, if_neg c2, ite_self]
    unfold FU
    rw [lp]
    dsimp only
    rw [key]
end
theorem pair_cancel {M : MM} {d d' : Int → Int} {t : Nat} (p : Pair M d) (ht : (t : Int) < M 1 0) (hs : M 2 t = 0 ∨ M 2 t = 1 ∨ M 2 t = 2) (r : Rel (rmc M t (M 11 0).toNat) d') (rx : RelX (rmc M t (M 11 0).toNat) d') : Pair (up (rmc M t (M 11 0).toNat) 2 t 5) (ud d' (16 + 8 * (t : Int) + 4) 5) := by
  obtain ⟨iv, -, -, ck, of⟩ := p
  have hC := iv.1.2.1.1
  have hT := iv.1.1.1
  obtain ⟨a1, a2, a3, a4⟩ := rmc_ok (t := t) iv (c := (M 11 0).toNat) (by omega)
  generalize rmc M t (M 11 0).toNat = N at *
  have s := Sd_of a1.1
  have n1 : N 1 = M 1 := a2 1 (by decide) (by decide)
  have n2 : N 2 = M 2 := a2 2 (by decide) (by decide)
  have n11 : N 11 = M 11 := a2 11 (by decide) (by decide)
  obtain ⟨⟨⟨t1, t2, t3, t4⟩, okC, okP⟩, oq, kr, ⟨s1, s2, s3⟩, ob, oh⟩ := a1
  have ek : ∀ b, b ≠ 2 → up N 2 t 5 b = N b := fun b hb => up_ne hb
  refine ⟨⟨⟨⟨by rw [ek 1 (by decide)]; exact t1, by rw [ek 1 (by decide)]; exact t2, fun q hq => ?_, by rw [ek 1 (by decide), ek 9 (by decide)]; exact t4⟩, ?_, ?_⟩, ?_, okR_congr (ek 11 (by decide)) (ek 14 (by decide)) kr, ⟨fun q j hq hj => ?_, fun q hq h0 => ?_, ?_⟩, okB_congr (ek 1 (by decide)) (ek 6 (by decide)) ob, okH_congr (ek 1 (by decide)) (ek 5 (by decide)) (ek 11 (by decide)) oh⟩, rel_st s.1 s.2.1 s.2.2.1 s.2.2.2.1 r s.2.2.2.2 (by rw [n1]; exact ht), fun q hq => ?_, ?_, ?_⟩
  · have := t3 q hq
    by_cases e : q = t
    · subst e; rw [up_eq]; omega
    · rw [up_ni e]; exact this
  · unfold OkC runOk at okC ⊢; rw [ek 11 (by decide), ek 13 (by decide), ek 14 (by decide), ek 15 (by decide), ek 1 (by decide), ek 18 (by decide)]; exact okC
  · unfold OkP at okP ⊢; rw [ek 1 (by decide), ek 4 (by decide), ek 5 (by decide), ek 3 (by decide)]; exact okP
  · unfold OkQ at oq ⊢; rw [ek 13 (by decide), ek 12 (by decide), ek 1 (by decide)]; exact oq
  · rw [ek 13 (by decide)] at hj
    rw [ek 12 (by decide)]
    have h1 := s1 q j hq hj
    have h2 := oq q hq j hj
    by_cases hqc : q < (M 11 0).toNat
    · have h3 := a3 q hqc j (by omega) hj
      rw [up_ni (by omega)]; exact h1
    · have h3 := a4 q (by omega) hq
      have h4 := of.2 q hq (by omega)
      omega
  · rw [ek 11 (by decide)] at hq
    rw [ek 14 (by decide)] at h0 ⊢
    have h1 := s2 q hq h0
    rw [up_ni (by intro e; rw [e, n2] at h1; omega)]; exact h1
  · rw [ek 13 (by decide), ek 12 (by decide)]; exact s3
  · rw [ek 1 (by decide), n1] at hq
    rw [ek 7 (by decide), ek 8 (by decide), ud_ne (by omega), ud_ne (by omega)]; exact rx q (by rw [n1]; exact hq)
  · unfold clkOk at ck ⊢; rw [ek 0 (by decide), a2 0 (by decide) (by decide)]; exact ck
  · refine ⟨by rw [ek 1 (by decide), ek 9 (by decide), n1, a2 9 (by decide) (by decide)]; exact of.1, fun c hc h => ?_⟩
    rw [ek 11 (by decide), n11] at h
    rw [ek 13 (by decide), a4 c (by omega) hc]; exact of.2 c hc h
section
variable {h : PH} {xs : Nat → Int} {L : Nat} {v4 : Int}
theorem lc27 (hs : ∀ j, j < L → -2147483648 ≤ xs j ∧ xs j < 2147483648) (h0 : 0 ≤ v4) (hL : v4 + 6 ≤ L) (w : Wld h) : ∃ h', LC27 xs L 0 227 243 v4 h = some h' ∧ Wld h' := by
  obtain ⟨M, S, Mk, e, n, k, rr, tx, bs, sp, u, bf, d, dr, df, dh, w, r⟩ := w
  obtain ⟨x, hx, hr⟩ := sld_ok (i := v4 + 1) hs (by omega) (by omega)
  have iv := r.1.1
  have rl := r.1.2.1
  have hT := iv.1.1.1
  have hC := iv.1.2.1.1
  have z := w_g227 w
  have w4 := ws_227 (x := upf u 0 0) w
  have z4 := w_g227 w4
  unfold LC27 FL_cancel
  simp only [hx, Option.bind_some]
  by_cases c : 0 ≤ x ∧ x < M 1 0
  · obtain ⟨t, ht⟩ := Int.eq_ofNat_of_zero_le c.1
    have hst := iv.1.1.2.2.1 t (by omega)
    have e2 := (rl.2.2.1 t (by omega)).2.2.2.2
    by_cases c2 : M 2 t < 3
    · have c3 : M 2 t = 0 ∨ M 2 t = 1 ∨ M 2 t = 2 := by omega
      obtain ⟨h1, e1, w1⟩ := k_rem w iv r.2.2.2.2.2.2.1.1 r.2.2.2.2.2.2.1.2.1
      obtain ⟨a1, a2, a3, a4⟩ := rmc_ok (t := t) iv (c := (M 11 0).toNat) (by omega)
      have rm := r_rm (h := h1) (p := 5) (M := M) (t := t) (w_a5 w1).1 iv (by omega)
      rw [At_put (w_a5 w1)] at rm
      have rm : FX0_removeFromQueues h1 16 t = some (putM h1 5 (rmc M t (M 11 0).toNat)) := rm
      have w2 := ws_M (N := rmc M t (M 11 0).toNat) w1 (FM_congr (by rw [a2 0 (by decide) (by decide)]) (a2 19 (by decide) (by decide)) (w_f5 w1))
      have w2b := ws_M (N := up (rmc M t (M 11 0).toNat) 2 t 5) w2 (FM_congr (by rw [up_ne (by decide)]) (up_ne (by decide)) (w_f5 w2))
      obtain ⟨x0, zx⟩ := w_g243 w2b
      have w3 := ws_243 (x := w32 (M 2 t)) w2b
      have J : JX7_cancel_42 h 0 x (M 2 t) = some (0, M 2 t, putM (putM h1 5 (rmc M t (M 11 0).toNat)) 5 (up (rmc M t (M 11 0).toNat) 2 t 5)) := by
        unfold JX7_cancel_42
        rw [z0_r3 (w_e0 w), Option.bind_some, z0_r1 (w_e0 w), Option.bind_some, e1, Option.bind_some, z0_r1 (w_e0 w1), Option.bind_some, b5_gfr0_1 (w_a5 w1), Option.bind_some, ht, rm, Option.bind_some, z0_r1 (w_e0 w2), Option.bind_some, b5_gfr0_0 (w_a5 w2), Option.bind_some, b5_gfr1_2 (w_a5 w2), Option.bind_some, b5_s2 (w_a5 w2) (by omega) (by omega), Option.bind_some, Int.toNat_natCast]
      have eA : FX7_cancel h 0 x = some (0, M 2 t, putM (putM h1 5 (rmc M t (M 11 0).toNat)) 5 (up (rmc M t (M 11 0).toNat) 2 t 5)) := by
        unfold FX7_cancel
        rw [z0_O (w_e0 w), Option.bind_some, r_rT (w_e0 w) (w_a5 w) hr hT, Option.bind_some, if_pos c, if_pos rfl, z0_r1 (w_e0 w), Option.bind_some, b5_gfr0_0 (w_a5 w), Option.bind_some, b5_gfr1_2 (w_a5 w), Option.bind_some, b5_a2 (w_a5 w) (by omega) (by omega), Option.bind_some, show x.toNat = t by omega, J, w32_eq (by omega) (by omega), show w32 1 = 1 from rfl, show w32 2 = 2 from rfl]
        rcases c3 with q | q | q
        · rw [if_pos q]
        · rw [if_neg (by omega), if_pos q]
        · rw [if_neg (by omega), if_neg (by omega), if_pos q]
      rw [eA, Option.bind_some, if_pos rfl, z243_s zx, Option.bind_some, Option.bind_some]
      dsimp only
      have z := w_g227 w3
      have w4 := ws_227 (x := upf u 0 0) w3
      have z4 := w_g227 w4
      obtain ⟨h5, f1, w5, f2⟩ := k_mrem (k := k) w4 r.2.2.2.2.2.2.1.2.1 (by rw [upf_ne (by decide)]; exact r.2.2.2.2.2.2.1.2.2)
      obtain ⟨d6, m1, m2, m3⟩ := m_rm (t := t) (v2 := M 2 t) (w_g227 w5) (w_g229 w5) iv rl r.1.2.2.1 (by omega) rfl hst
      have w6 := ws_229 (x := d6) w5
      have w7 := ws_229 (x := ud d6 (16 + 8 * (t : Int) + 4) 5) w6
      have eB : FX8_cancel ((putM (putM h1 5 (rmc M t (M 11 0).toNat)) 5 (up (rmc M t (M 11 0).toNat) 2 t 5)).set 243 (c243 (w32 (M 2 t)))) 227 x = some (M 2 t, (h5.set 229 (dcell d6)).set 229 (dcell (ud d6 (16 + 8 * (t : Int) + 4) 5))) := by
        unfold FX8_cancel JX8_cancel_38 JX8_cancel_129 FX8_task
        rw [z8_O z, Option.bind_some, z8_w0 z, Option.bind_some, m_noTask z4 upf_eq (w_g229 w4) hr (by rw [rl.1.2.2.2.1]; omega), Option.bind_some, rl.1.2.2.2.1, if_pos c, if_pos (show w32 0 = 0 by decide)]
        dsimp only
        rw [z8_r8 z4, Option.bind_some, Option.bind_some, zd_l (w_g229 w4) (by omega) (by omega), Option.bind_some, ht, e2, if_pos (show w32 (M 2 t) < w32 3 by rw [w32_eq (by omega) (by omega), show w32 3 = 3 from rfl]; exact c2), m_fails0 z4 upf_eq, Option.bind_some, if_pos (show w32 0 = 0 by decide)]
        dsimp only
        rw [f1, Option.bind_some, m1, Option.bind_some, z8_r8 (w_g227 w6), Option.bind_some, Option.bind_some, zd_s (w_g229 w6) (by omega) (by omega), Option.bind_some]
      rw [eB, Option.bind_some]
      refine ⟨_, lck_ok (w_g227 w7) (by rw [upf_ne (by decide)]; exact upf_eq) (fun _ => ?_), _, S, _, e, nxt n, cup k, rr, tx, bs, sp, _, bf, _, dr, df, _, w7, WR_mut r (pair_cancel r.1 (by omega) c3 m2 m3)⟩
      rw [List.getElem?_set, if_neg (by decide), List.getElem?_set, if_neg (by decide), f2, List.getElem?_set, if_neg (by decide), List.getElem?_set, if_pos rfl, if_pos (by have := w_len w2b; omega)]
    · have eA : FX7_cancel h 0 x = some (3, 0, h) := by
        unfold FX7_cancel
        rw [z0_O (w_e0 w), Option.bind_some, r_rT (w_e0 w) (w_a5 w) hr hT, Option.bind_some, if_pos c, if_pos rfl, z0_r1 (w_e0 w), Option.bind_some, b5_gfr0_0 (w_a5 w), Option.bind_some, b5_gfr1_2 (w_a5 w), Option.bind_some, b5_a2 (w_a5 w) (by omega) (by omega), Option.bind_some, show x.toNat = t by omega, w32_eq (by omega) (by omega), show w32 1 = 1 from rfl, show w32 2 = 2 from rfl, if_neg (by omega), if_neg (by omega), if_neg (by omega)]
      rw [eA, Option.bind_some, if_neg (show ¬ (3 : Nat) = 0 by decide), if_neg (show ¬ (3 : Nat) = 1 by decide), if_pos rfl, Option.bind_some]
      dsimp only
      have w5 := ws_227 (x := upf u 0 2) w
      have eB : FX8_cancel h 227 x = some (0, h.set 227 (mdl (upf u 0 2))) := by
        unfold FX8_cancel JX8_cancel_38 FX8_task
        rw [z8_O z, Option.bind_some, z8_w0 z, Option.bind_some, m_noTask z4 upf_eq (w_g229 w4) hr (by rw [rl.1.2.2.2.1]; omega), Option.bind_some, rl.1.2.2.2.1, if_pos c, if_pos (show w32 0 = 0 by decide)]
        dsimp only
        rw [z8_r8 z4, Option.bind_some, Option.bind_some, zd_l (w_g229 w4) (by omega) (by omega), Option.bind_some, ht, e2, w32_eq (by omega) (by omega), show w32 3 = 3 from rfl, if_neg c2, m_fails1 z4 upf_eq (by omega), Option.bind_some, if_neg (show ¬ w32 1 = 0 by decide), List.set_set, upf_up]
      rw [eB, Option.bind_some]
      exact ⟨_, lck_ok (w_g227 w5) upf_eq (fun q => absurd q (by decide)), M, S, Mk, e, n, k, rr, tx, bs, sp, _, bf, d, dr, df, dh, w5, WR_u r⟩
  · have eA : FX7_cancel h 0 x = some (1, 0, h) := by
      unfold FX7_cancel
      rw [z0_O (w_e0 w), Option.bind_some, r_rT (w_e0 w) (w_a5 w) hr hT, Option.bind_some, if_neg c, if_neg (by decide)]
    rw [eA, Option.bind_some, if_neg (show ¬ (1 : Nat) = 0 by decide), if_pos rfl, Option.bind_some]
    dsimp only
    have w5 := ws_227 (x := upf u 0 1) w
    have eB : FX8_cancel h 227 x = some (0, h.set 227 (mdl (upf u 0 1))) := by
      unfold FX8_cancel
      rw [z8_O z, Option.bind_some, z8_w0 z, Option.bind_some, m_noTask z4 upf_eq (w_g229 w4) hr (by rw [rl.1.2.2.2.1]; omega), Option.bind_some, rl.1.2.2.2.1, if_neg c, if_neg (show ¬ w32 1 = 0 by decide), List.set_set, upf_up]
    rw [eB, Option.bind_some]
    exact ⟨_, lck_ok (w_g227 w5) upf_eq (fun q => absurd q (by decide)), M, S, Mk, e, n, k, rr, tx, bs, sp, _, bf, d, dr, df, dh, w5, WR_u r⟩
end
