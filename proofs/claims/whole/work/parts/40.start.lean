set_option linter.unusedVariables false
set_option linter.unusedSimpArgs false
/-! ===== tasks that start ===== -/
def dstp (top : Nat) (s : Int) : Nat := if s ≤ -5 then (if top < 2 then top else top - 1) else if top < 11 then top + 1 else top
def dF (ss : List Int) : Nat := ss.foldl dstp 0
theorem evF_top {v : Int → Int} : ∀ {ss : List Int} {q : Nat × (Nat → Int)}, (evF v ss q).1 = ss.foldl dstp q.1 := by
  intro ss
  induction ss with
  | nil => intro q; rfl
  | cons s ss ih =>
    intro q
    show (evF v ss (stp v q s)).1 = ss.foldl dstp (dstp q.1 s)
    rw [ih]
    congr 1
    unfold stp dstp
    split
    · split <;> rfl
    · split <;> rfl
theorem evF_agree {v : Int → Int} : ∀ {ss : List Int} {top : Nat} {K K' : Nat → Int}, (∀ i, i < top → K i = K' i) → ∀ i, i < (evF v ss (top, K)).1 → (evF v ss (top, K)).2 i = (evF v ss (top, K')).2 i := by
  intro ss
  induction ss with
  | nil => intro top K K' h i hi; exact h i hi
  | cons s ss ih =>
    intro top K K' h
    show ∀ i, i < (evF v ss (stp v (top, K) s)).1 → (evF v ss (stp v (top, K) s)).2 i = (evF v ss (stp v (top, K') s)).2 i
    unfold stp
    dsimp only
    split
    · split
      · exact ih h
      · refine ih (fun i hi => ?_)
        unfold upf
        rw [h (top - 2) (by omega), h (top - 1) (by omega)]
        split
        · rfl
        · exact h i (by omega)
    · split
      · refine ih (fun i hi => ?_)
        unfold upf
        split
        · rfl
        · exact h i (by omega)
      · exact ih h
def lnF (v : Int → Int) (ss : List Int) : Int := lenF v ss (fun _ => 0)
theorem lenF_any {v : Int → Int} {ss : List Int} {K : Nat → Int} (h : 1 ≤ dF ss) : lenF v ss K = lnF v ss := by
  unfold lnF lenF
  rw [evF_agree (K := K) (K' := fun _ => 0) (fun i hi => by omega) 0 (by rw [evF_top]; exact h)]
theorem lnF_in {v : Int → Int} {ss : List Int} : 1 ≤ lnF v ss ∧ lnF v ss ≤ 999 := by
  unfold lnF lenF
  split
  · omega
  · split <;> omega
/-- a place outside a machine's cells -/
def outM (p a : Nat) : Prop := a < p ∨ p + 19 ≤ a
/-- a machine's formula lies in the heap -/
def FZ (h : PH) (p fo : Nat) (ss : List Int) (sk : Nat) : Prop := ∃ st, h[fo]? = some (.inr (1, [rf st, rf sk])) ∧ h[st]? = some (.inl (0, ss)) ∧ sk < h.length ∧ (outM p fo ∧ outM p st ∧ outM p sk) ∧ st ≠ sk ∧ fo ≠ sk ∧ ssOk ss ∧ 1 ≤ dF ss
theorem putM_skc {h : PH} {p sk : Nat} {M : MM} {c : PC} (ho : outM p sk) : (putM h p M).set sk c = putM (h.set sk c) p M := by
  apply List.ext_getElem?
  intro a
  by_cases ha : a < p ∨ p + 19 ≤ a
  · rw [putM_out ha, List.getElem?_set, List.getElem?_set, putM_out ha, putM_len]
  · have hne : sk ≠ a := by unfold outM at ho; omega
    rw [List.getElem?_set, if_neg hne]
    simp only [putM, List.getElem?_mapIdx, List.getElem?_set, if_neg hne]
theorem r_lenM {h : PH} {p fo sk : Nat} {M : MM} {ss : List Int} {K : Nat → Int} {d pr c l : Int} (hz : FZ h p fo ss sk) (hd : inR d) (hpr : inR pr) (hc : inR c) (hl : inR l) :
    ∃ K', FX1_lengthFor (putM (h.set sk (skc K)) p M) fo d pr c l = some (lnF (fval d pr c l) ss, putM (h.set sk (skc K')) p M) := by
  obtain ⟨st, h1, h2, h3, ⟨o1, o2, o3⟩, n1, n2, hs, ht⟩ := hz
  have hv : ∀ s ∈ ss, -5 < s → inR (fval d pr c l s) := by
    intro s hm _
    have := hs.2 s hm
    unfold fval
    split
    · unfold inR; omega
    · split
      · exact hd
      · split
        · exact hpr
        · split
          · exact hc
          · exact hl
  have := r_len (h := putM (h.set sk (skc K)) p M) (fo := fo) (st := st) (sk := sk) (ss := ss) (K := K) (d := d) (pr := pr) (c := c) (l := l)
    (by rw [putM_out o1, List.getElem?_set, if_neg (Ne.symm n2), h1]) (by rw [putM_out o2, List.getElem?_set, if_neg (Ne.symm n1), h2]) (by rw [putM_out o3]; simp [h3]) n1 n2 hs hv (by rw [evF_top]; exact ht)
  rw [lenF_any ht, putM_skc o3, List.set_set] at this
  exact ⟨_, this⟩
def lqs (M : MM) : Nat → Nat
  | 0 => 0
  | n + 1 => if M 13 (lqs M n) < M 13 n then n else lqs M n
theorem lqs_is (M : MM) : ∀ n, isL M (n + 1) (lqs M (n + 1)) := by
  intro n
  induction n with
  | zero =>
    unfold lqs
    rw [show lqs M 0 = 0 from rfl, if_neg (Int.lt_irrefl _)]
    exact ⟨by omega, fun c hc => Or.inr ⟨by rw [show c = 0 by omega], by omega⟩⟩
  | succ n ih =>
    unfold lqs
    obtain ⟨h1, h2⟩ := ih
    split
    · refine ⟨by omega, fun c hc => ?_⟩
      by_cases e : c = n + 1
      · subst e; exact Or.inr ⟨rfl, Nat.le_refl _⟩
      · rcases h2 c (by omega) with h | h <;> exact Or.inl (by omega)
    · refine ⟨by omega, fun c hc => ?_⟩
      by_cases e : c = n + 1
      · subst e
        by_cases d : M 13 (n + 1) = M 13 (lqs M (n + 1))
        · exact Or.inr ⟨d, by omega⟩
        · exact Or.inl (by omega)
      · exact h2 c (by omega)
theorem isL_one {M : MM} {n b b' : Nat} (h : isL M n b) (h' : isL M n b') : b = b' := by
  obtain ⟨h1, h2⟩ := h
  obtain ⟨h1', h2'⟩ := h'
  rcases h2 b' h1' with h | h <;> rcases h2' b h1 with h' | h' <;> omega
def srcM (M : MM) (c : Nat) : Nat := if M 13 c = 0 then lqs M (M 11 0).toNat else c
def plcM (M : MM) (c : Nat) : Nat := if M 13 c = 0 then (M 13 (srcM M c)).toNat - 1 else 0
def stT (M : MM) (c : Nat) : Nat := (M 12 (8 * srcM M c + plcM M c)).toNat
def stN (M : MM) (c : Nat) : MM := tkM M (srcM M c) (plcM M c)
def stL (ss : List Int) (M : MM) (c : Nat) : Int := lnF (fval (M 3 (stT M c)) (M 4 (stT M c)) c (stN M c 13 c)) ss
def staM (ss : List Int) (M : MM) (c : Nat) : MM :=
  if M 13 (srcM M c) = 0 then M else
  if M 13 c = 0 then up (up (up (up (up (up (stN M c) 2 (stT M c) 3) 7 (stT M c) c) 14 c (stT M c)) 15 c (stL ss M c)) 15 c (stL ss M c + M 11 2)) 17 c (M 17 c + 1)
  else up (up (up (up (stN M c) 2 (stT M c) 3) 7 (stT M c) c) 14 c (stT M c)) 15 c (stL ss M c)
def OkQ (M : MM) : Prop := ∀ c : Nat, c < 4 → ∀ k : Nat, (k : Int) < M 13 c → 0 ≤ M 12 (8 * c + k) ∧ M 12 (8 * c + k) < M 1 0
theorem tk_ne {M : MM} {c k a : Nat} (h1 : a ≠ 12) (h2 : a ≠ 13) : tkM M c k a = M a := by
  funext i
  unfold tkM up shM
  rw [if_neg (by omega), if_neg (by omega)]
theorem tk_13 {M : MM} {c k i : Nat} : tkM M c k 13 i = if i = c then M 13 c - 1 else M 13 i := by
  unfold tkM up shM
  by_cases h : i = c
  · simp [h]
  · simp [h]
theorem src_lt {M : MM} {c : Nat} (ok : OkC M) (hc : (c : Int) < M 11 0) : srcM M c < 4 := by
  obtain ⟨o1, -⟩ := ok
  unfold srcM
  split
  · obtain ⟨n, hn⟩ : ∃ n, (M 11 0).toNat = n + 1 := ⟨(M 11 0).toNat - 1, by omega⟩
    rw [hn]
    have := (lqs_is M n).1
    omega
  · omega
section
variable {h : PH} {p sk : Nat} {M : MM} {ss : List Int} {K : Nat → Int}
theorem r_take0 (hp : p + 19 ≤ h.length) {c : Nat} {k : Int} (hk : k < 0 ∧ -100 < k) : FX0_takeAt (putM h p M) (p + 11) c k = some (-1, putM h p M) := by
  unfold FX0_takeAt JX0_takeAt_14
  simp (disch := omega) only [pm_isO0 hp, pm_gfr0_0 hp, pm_gfr0_1 hp, pm_gfr0_2 hp, pm_gfi0_3 hp, pm_pfi0_3 hp, pm_isO1 hp, pm_gfi1_0 hp, pm_pfi1_0 hp, pm_gfi1_1 hp, pm_pfi1_1 hp, pm_gfr1_2 hp, pm_gfr1_3 hp, pm_gfr1_4 hp, pm_gfr1_5 hp, pm_gfr1_6 hp, pm_gfr1_7 hp, pm_gfr1_8 hp, pm_gfr1_9 hp, pm_gfr1_10 hp, pm_isO11 hp, pm_gfi11_0 hp, pm_pfi11_0 hp, pm_gfi11_1 hp, pm_pfi11_1 hp, pm_gfi11_2 hp, pm_pfi11_2 hp, pm_gfr11_3 hp, pm_gfr11_4 hp, pm_gfr11_5 hp, pm_gfr11_6 hp, pm_gfr11_7 hp, pm_gfr11_8 hp, pm_gfr11_9 hp, pa2 hp, ps2 hp, pa3 hp, ps3 hp, pa4 hp, ps4 hp, pa5 hp, ps5 hp, pa6 hp, ps6 hp, pa7 hp, ps7 hp, pa8 hp, ps8 hp, pa9 hp, ps9 hp, pa10 hp, ps10 hp, pa12 hp, ps12 hp, pa13 hp, ps13 hp, pa14 hp, ps14 hp, pa15 hp, ps15 hp, pa16 hp, ps16 hp, pa17 hp, ps17 hp, pa18 hp, ps18 hp, Option.bind_some, w32_eq, Int.toNat_natCast, if_true, if_false]
  rw [if_pos (by omega)]
theorem r_st58 {ssv : Int} (hp : p + 19 ≤ h.length) (ok : Ok M) (oq : OkQ M) (hz : FZ h p (M 0 2).toNat ss sk) {c s k : Nat} (hc : c < 4) (hs : s < 4) (hk : (k : Int) < M 13 s) (hsv : ssv = 0 ∨ ssv = 1) :
    ∃ K', JX3_startTask_58 (putM (h.set sk (skc K)) p M) p c ssv k s (p + 11) = some (putM (h.set sk (skc K')) p (
      if ssv = 0 then up (up (up (up (tkM M s k) 2 (M 12 (8 * s + k)).toNat 3) 7 (M 12 (8 * s + k)).toNat c) 14 c (M 12 (8 * s + k))) 15 c (lnF (fval (M 3 (M 12 (8 * s + k)).toNat) (M 4 (M 12 (8 * s + k)).toNat) c (tkM M s k 13 c)) ss)
      else up (up (up (up (up (up (tkM M s k) 2 (M 12 (8 * s + k)).toNat 3) 7 (M 12 (8 * s + k)).toNat c) 14 c (M 12 (8 * s + k))) 15 c (lnF (fval (M 3 (M 12 (8 * s + k)).toNat) (M 4 (M 12 (8 * s + k)).toNat) c (tkM M s k 13 c)) ss)) 15 c (lnF (fval (M 3 (M 12 (8 * s + k)).toNat) (M 4 (M 12 (8 * s + k)).toNat) c (tkM M s k 13 c)) ss + M 11 2)) 17 c (M 17 c + 1))) := by
  obtain ⟨okT, okC, okP⟩ := ok
  have hq := oq s hs k hk
  have h13 := okC.2.2.2.1 c hc
  have h13s := okC.2.2.2.1 s hs
  obtain ⟨t, ht⟩ := Int.eq_ofNat_of_zero_le hq.1
  have hpt := okP t (by omega)
  have hT32 := okT.1
  have hsl : (h.set sk (skc K)).length = h.length := by simp
  have e13 : -1 ≤ tkM M s k 13 c ∧ tkM M s k 13 c ≤ 8 := by rw [tk_13]; split <;> omega
  obtain ⟨K', hK⟩ := r_lenM (h := h) (p := p) (sk := sk) (M := tkM M s k) (K := K) (c := (c : Int)) (l := tkM M s k 13 c) (d := M 3 t) (pr := M 4 t) hz (by unfold inR; omega) (by unfold inR; omega) (by unfold inR; omega) (by unfold inR; omega)
  refine ⟨K', ?_⟩
  unfold JX3_startTask_58 JX3_startTask_188
  rw [r_take (h := h.set sk (skc K)) (by rw [hsl]; exact hp) okC hs hk, Option.bind_some]
  dsimp only
  rw [ht]
  have hp1 : p + 19 ≤ (h.set sk (skc K)).length := by rw [hsl]; exact hp
  have hp2 : p + 19 ≤ (h.set sk (skc K')).length := by simpa using hp
  rw [w32_nat (by omega), if_neg (by omega)]
  have hp := hp1
  simp (disch := omega) only [pm_isO0 hp, pm_gfr0_0 hp, pm_gfr0_1 hp, pm_gfr0_2 hp, pm_gfi0_3 hp, pm_pfi0_3 hp, pm_isO1 hp, pm_gfi1_0 hp, pm_pfi1_0 hp, pm_gfi1_1 hp, pm_pfi1_1 hp, pm_gfr1_2 hp, pm_gfr1_3 hp, pm_gfr1_4 hp, pm_gfr1_5 hp, pm_gfr1_6 hp, pm_gfr1_7 hp, pm_gfr1_8 hp, pm_gfr1_9 hp, pm_gfr1_10 hp, pm_isO11 hp, pm_gfi11_0 hp, pm_pfi11_0 hp, pm_gfi11_1 hp, pm_pfi11_1 hp, pm_gfi11_2 hp, pm_pfi11_2 hp, pm_gfr11_3 hp, pm_gfr11_4 hp, pm_gfr11_5 hp, pm_gfr11_6 hp, pm_gfr11_7 hp, pm_gfr11_8 hp, pm_gfr11_9 hp, pa2 hp, ps2 hp, pa3 hp, ps3 hp, pa4 hp, ps4 hp, pa5 hp, ps5 hp, pa6 hp, ps6 hp, pa7 hp, ps7 hp, pa8 hp, ps8 hp, pa9 hp, ps9 hp, pa10 hp, ps10 hp, pa12 hp, ps12 hp, pa13 hp, ps13 hp, pa14 hp, ps14 hp, pa15 hp, ps15 hp, pa16 hp, ps16 hp, pa17 hp, ps17 hp, pa18 hp, ps18 hp, Option.bind_some, w32_eq, Int.toNat_natCast, if_true, if_false, tk_ne (M := M) (c := s) (k := k) (show 0 ≠ 12 by decide) (show 0 ≠ 13 by decide), tk_ne (M := M) (c := s) (k := k) (show 3 ≠ 12 by decide) (show 3 ≠ 13 by decide), tk_ne (M := M) (c := s) (k := k) (show 4 ≠ 12 by decide) (show 4 ≠ 13 by decide)]
  rw [hK, Option.bind_some]
  have hp := hp2
  simp (disch := omega) only [pm_isO0 hp, pm_gfr0_0 hp, pm_gfr0_1 hp, pm_gfr0_2 hp, pm_gfi0_3 hp, pm_pfi0_3 hp, pm_isO1 hp, pm_gfi1_0 hp, pm_pfi1_0 hp, pm_gfi1_1 hp, pm_pfi1_1 hp, pm_gfr1_2 hp, pm_gfr1_3 hp, pm_gfr1_4 hp, pm_gfr1_5 hp, pm_gfr1_6 hp, pm_gfr1_7 hp, pm_gfr1_8 hp, pm_gfr1_9 hp, pm_gfr1_10 hp, pm_isO11 hp, pm_gfi11_0 hp, pm_pfi11_0 hp, pm_gfi11_1 hp, pm_pfi11_1 hp, pm_gfi11_2 hp, pm_pfi11_2 hp, pm_gfr11_3 hp, pm_gfr11_4 hp, pm_gfr11_5 hp, pm_gfr11_6 hp, pm_gfr11_7 hp, pm_gfr11_8 hp, pm_gfr11_9 hp, pa2 hp, ps2 hp, pa3 hp, ps3 hp, pa4 hp, ps4 hp, pa5 hp, ps5 hp, pa6 hp, ps6 hp, pa7 hp, ps7 hp, pa8 hp, ps8 hp, pa9 hp, ps9 hp, pa10 hp, ps10 hp, pa12 hp, ps12 hp, pa13 hp, ps13 hp, pa14 hp, ps14 hp, pa15 hp, ps15 hp, pa16 hp, ps16 hp, pa17 hp, ps17 hp, pa18 hp, ps18 hp, Option.bind_some, w32_eq, Int.toNat_natCast, if_true, if_false, up_eq, up_ne (show (11 : Nat) ≠ 15 by decide), up_ne (show (11 : Nat) ≠ 14 by decide), up_ne (show (11 : Nat) ≠ 7 by decide), up_ne (show (11 : Nat) ≠ 2 by decide), up_ne (show (17 : Nat) ≠ 15 by decide), up_ne (show (17 : Nat) ≠ 14 by decide), up_ne (show (17 : Nat) ≠ 7 by decide), up_ne (show (17 : Nat) ≠ 2 by decide), tk_ne (M := M) (c := s) (k := k) (show 11 ≠ 12 by decide) (show 11 ≠ 13 by decide), tk_ne (M := M) (c := s) (k := k) (show 17 ≠ 12 by decide) (show 17 ≠ 13 by decide)]
  rcases hsv with rfl | rfl
  · rfl
  · rfl
end
