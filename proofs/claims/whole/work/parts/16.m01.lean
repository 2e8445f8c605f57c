section
variable {p : Program} {l : Launch} {e : Env} {s : State} {m : MethodId} {args : Array Value} {below : List Frame} {meth : Method} {c : Code} {H : Heap} {locs : List Loc} {ls : Array Slot} {g : GP} {ad : Nat → Nat}
def JX8_term_68 (rec : Nat → PH → Nat → Option PH) (h : PH) (v0 : Nat) (s0 : Int) (s1 : Nat) : Option ((PH) ⊕ (PH)) :=
  (FX8_emit h s1 s0).bind fun h8 =>
  some (.inl h8)
set_option maxHeartbeats 4000000 in
set_option maxRecDepth 100000 in
theorem BX8_term_68 {rec : Nat → PH → Nat → Option PH} {N : Nat} (hrec : RecM g l N rec) {h : PH} {v0 : Nat} {s0 : Int} {s1 : Nat} (hC : Cx g p s m args meth c cX8_term 2 RX8 none) (hR : Rl g ad h s.heap H locs) (hl : lv_has ls 2 [(0, .ref (ad v0))]) {Q : State → Prop} {o : (PH) ⊕ (PH)} (hF : JX8_term_68 rec h v0 s0 s1 = some o) (hK : Sum.elim (fun st : PH => ∀ (H : Heap) (locs : List Loc) (ls : Array Slot), Rl g ad st s.heap H locs → lv_has ls 2 [(0, .ref (ad v0))] → W p l e (rmG (N + 1)) s m args below meth c H locs 0 0 Q (F0 m 4 ls [])) (fun ex : PH => ∀ (H : Heap) (locs : List Loc) (ls : Array Slot), Rl g ad ex s.heap H locs → lv_has ls 2 [] → W p l e (rmG (N + 1)) s m args below meth c H locs 0 0 Q (F0 m 74 ls [])) o) : W p l e (rmG (N + 1)) s m args below meth c H locs 0 0 Q (F0 m 68 ls [.int (Int32.ofInt s0), .ref (ad s1)]) := by
  unfold JX8_term_68 at hF
  obtain ⟨h8, e8, hF⟩ := bnd hF
  obtain ⟨fs8, ho8⟩ := OX8_emit e8
  refine pw_cVv (rest := []) hC hR lvX8_124 ho8 (CX8_emit e8) ⟨rfl, rfl⟩ rfl hl.1 rfl ⟨rg_f (Nat.le_of_ble_eq_true rfl), rg_l (Nat.le_of_ble_eq_true rfl)⟩ (Nat.le_of_ble_eq_true rfl) dX8_term_68 ⟨Nat.zero_le _, Nat.zero_le _⟩ (fun H locs hR => ?_)
  refine pw_goto hC 4 dX8_term_71 (by decide) ?_
  cases hF
  exact hK _ _ _ hR (lv_sub hl [0] rfl)
def JX8_term_43 (rec : Nat → PH → Nat → Option PH) (h : PH) (v0 : Nat) (s0 : Int) : Option ((PH) ⊕ (PH)) :=
  (gfi h 8 v0 4).bind fun x5 =>
  (pfi h 8 v0 4 (x5 + 1)).bind fun h6 =>
  (rec 2 h6 v0).bind fun h7 =>
  if w32 s0 = 0 then (
    JX8_term_68 rec h7 v0 5 v0
  ) else (
    JX8_term_68 rec h7 v0 4 v0
  )
set_option maxHeartbeats 4000000 in
set_option maxRecDepth 100000 in
theorem BX8_term_43 {rec : Nat → PH → Nat → Option PH} {N : Nat} (hrec : RecM g l N rec) {h : PH} {v0 : Nat} {s0 : Int} (hC : Cx g p s m args meth c cX8_term 2 RX8 none) (hR : Rl g ad h s.heap H locs) (hl : lv_has ls 2 [(0, .ref (ad v0))]) {Q : State → Prop} {o : (PH) ⊕ (PH)} (hF : JX8_term_43 rec h v0 s0 = some o) (hK : Sum.elim (fun st : PH => ∀ (H : Heap) (locs : List Loc) (ls : Array Slot), Rl g ad st s.heap H locs → lv_has ls 2 [(0, .ref (ad v0))] → W p l e (rmG (N + 1)) s m args below meth c H locs 0 0 Q (F0 m 4 ls [])) (fun ex : PH => ∀ (H : Heap) (locs : List Loc) (ls : Array Slot), Rl g ad ex s.heap H locs → lv_has ls 2 [] → W p l e (rmG (N + 1)) s m args below meth c H locs 0 0 Q (F0 m 74 ls [])) o) : W p l e (rmG (N + 1)) s m args below meth c H locs 0 0 Q (F0 m 43 ls [.int (Int32.ofInt s0)]) := by
  unfold JX8_term_43 at hF
  refine lv_istore_n (lv' := [(1, .int (Int32.ofInt s0)), (0, .ref (ad v0))]) hC.1 hC.2.1 dX8_term_43 rfl hl (by decide) rfl (fun ls hl => ?_)
  refine lv_aload_n hC.1 hC.2.1 dX8_term_44 rfl (lv_at hl 1 rfl) ?_
  refine lv_dup hC.1 hC.2.1 dX8_term_45 rfl ?_
  obtain ⟨x5, e5, hF⟩ := bnd hF
  refine pw_gfi hC hR e5 flX8_51 dX8_term_46 ?_
  refine pw_iconst hC dX8_term_49 ?_
  refine pw_iadd hC dX8_term_50 ?_
  obtain ⟨h6, e6, hF⟩ := bnd hF
  refine pw_pfi hC hR e6 fpX8_51 (Or.inl rfl) dX8_term_51 (fun H locs hR => ?_)
  refine lv_aload_n hC.1 hC.2.1 dX8_term_54 rfl (lv_at hl 1 rfl) ?_
  obtain ⟨h7, e7, hF⟩ := bnd hF
  obtain ⟨fs7, ho7⟩ := RecM_o2 hrec e7
  refine pw_cVv (rest := []) hC hR lvX8_127 ho7 (RecM_c2 hrec e7) ⟨rfl, rfl⟩ rfl hl.1 rfl (rg_s (by decide)) (Nat.le_of_ble_eq_true rfl) dX8_term_55 ⟨Nat.zero_le _, Nat.zero_le _⟩ (fun H locs hR => ?_)
  refine lv_aload_n hC.1 hC.2.1 dX8_term_58 rfl (lv_at hl 1 rfl) ?_
  refine lv_iload_n hC.1 hC.2.1 dX8_term_59 rfl (lv_at hl 0 rfl) ?_
  refine pw_ifeq hC 67 dX8_term_60 (by decide) (fun hc => ?_) (fun hc => ?_)
  · rw [if_pos hc] at hF
    refine pw_iconst hC dX8_term_67 ?_
    exact BX8_term_68 hrec hC hR (lv_sub hl [1] rfl) hF hK
  · rw [if_neg hc] at hF
    refine pw_iconst hC dX8_term_63 ?_
    refine pw_goto hC 68 dX8_term_64 (by decide) ?_
    exact BX8_term_68 hrec hC hR (lv_sub hl [1] rfl) hF hK
def JX8_term_29 (rec : Nat → PH → Nat → Option PH) (h : PH) (v0 : Nat) : Option ((PH) ⊕ (PH)) :=
  (FX8_next h v0).bind fun q4 =>
  if w32 q4.1 = w32 42 then (
    JX8_term_43 rec q4.2 v0 1
  ) else (
    JX8_term_43 rec q4.2 v0 0
  )
set_option maxHeartbeats 4000000 in
set_option maxRecDepth 100000 in
theorem BX8_term_29 {rec : Nat → PH → Nat → Option PH} {N : Nat} (hrec : RecM g l N rec) {h : PH} {v0 : Nat} (hC : Cx g p s m args meth c cX8_term 2 RX8 none) (hR : Rl g ad h s.heap H locs) (hl : lv_has ls 2 [(0, .ref (ad v0))]) {Q : State → Prop} {o : (PH) ⊕ (PH)} (hF : JX8_term_29 rec h v0 = some o) (hK : Sum.elim (fun st : PH => ∀ (H : Heap) (locs : List Loc) (ls : Array Slot), Rl g ad st s.heap H locs → lv_has ls 2 [(0, .ref (ad v0))] → W p l e (rmG (N + 1)) s m args below meth c H locs 0 0 Q (F0 m 4 ls [])) (fun ex : PH => ∀ (H : Heap) (locs : List Loc) (ls : Array Slot), Rl g ad ex s.heap H locs → lv_has ls 2 [] → W p l e (rmG (N + 1)) s m args below meth c H locs 0 0 Q (F0 m 74 ls [])) o) : W p l e (rmG (N + 1)) s m args below meth c H locs 0 0 Q (F0 m 29 ls []) := by
  unfold JX8_term_29 at hF
  refine lv_aload_n hC.1 hC.2.1 dX8_term_29 rfl (lv_at hl 0 rfl) ?_
  obtain ⟨q4, e4, hF⟩ := bnd hF
  obtain ⟨fs4, ho4⟩ := OX8_next e4
  refine pw_cVi (rest := []) hC hR lvX8_71 ho4 (CX8_next e4) ⟨rfl, rfl⟩ rfl hl.1 rfl ⟨rg_f (Nat.le_of_ble_eq_true rfl), rg_l (Nat.le_of_ble_eq_true rfl)⟩ (Nat.le_of_ble_eq_true rfl) dX8_term_30 ⟨Nat.zero_le _, Nat.zero_le _⟩ (fun H locs hR => ?_)
  refine pw_bipush hC dX8_term_33 rfl ?_
  refine pw_icmpne hC 42 dX8_term_35 (by decide) (fun hc => ?_) (fun hc => ?_)
  · rw [if_neg hc] at hF
    refine pw_iconst hC dX8_term_42 ?_
    exact BX8_term_43 hrec hC hR (lv_sub hl [0] rfl) hF hK
  · rw [if_pos hc] at hF
    refine pw_iconst hC dX8_term_38 ?_
    refine pw_goto hC 43 dX8_term_39 (by decide) ?_
    exact BX8_term_43 hrec hC hR (lv_sub hl [0] rfl) hF hK
def LX8_term_4 (rec : Nat → PH → Nat → Option PH) (v0 : Nat) (h : PH) : Option ((PH) ⊕ (PH)) :=
  (FX8_isGood h v0).bind fun x2 =>
  if w32 x2 = 0 then (
    some (.inr h)
  ) else (
    (FX8_next h v0).bind fun q3 =>
    if w32 q3.1 = w32 42 then (
      JX8_term_29 rec q3.2 v0
    ) else (
      (FX8_next q3.2 v0).bind fun q9 =>
      if w32 q9.1 = w32 47 then (
        JX8_term_29 rec q9.2 v0
      ) else (
        some (.inr q9.2)
      )
    )
  )
set_option maxHeartbeats 4000000 in
set_option maxRecDepth 100000 in
theorem LRX8_term_4 {rec : Nat → PH → Nat → Option PH} {N : Nat} (hrec : RecM g l N rec) {v0 : Nat} {Q : State → Prop} (hC : Cx g p s m args meth c cX8_term 2 RX8 none) : ∀ (n : Nat) (st : PH) (ex : PH), lp (fun st : PH => LX8_term_4 rec v0 st) n st = some ex → (fun ex : PH => ∀ (H : Heap) (locs : List Loc) (ls : Array Slot), Rl g ad ex s.heap H locs → lv_has ls 2 [] → W p l e (rmG (N + 1)) s m args below meth c H locs 0 0 Q (F0 m 74 ls [])) ex → ∀ (H : Heap) (locs : List Loc) (ls : Array Slot), Rl g ad st s.heap H locs → lv_has ls 2 [(0, .ref (ad v0))] → W p l e (rmG (N + 1)) s m args below meth c H locs 0 0 Q (F0 m 4 ls []) := by
  refine lp_rule (Ph := (fun st : PH => ∀ (H : Heap) (locs : List Loc) (ls : Array Slot), Rl g ad st s.heap H locs → lv_has ls 2 [(0, .ref (ad v0))] → W p l e (rmG (N + 1)) s m args below meth c H locs 0 0 Q (F0 m 4 ls []))) (Px := (fun ex : PH => ∀ (H : Heap) (locs : List Loc) (ls : Array Slot), Rl g ad ex s.heap H locs → lv_has ls 2 [] → W p l e (rmG (N + 1)) s m args below meth c H locs 0 0 Q (F0 m 74 ls []))) ?_
  rintro h o hF hK H locs ls hR hl
  have hR : Rl g ad h s.heap H locs := hR
  have hl : lv_has ls 2 [(0, .ref (ad v0))] := hl
  have hF : LX8_term_4 rec v0 h = some o := hF
  unfold LX8_term_4 at hF
  refine lv_aload_n hC.1 hC.2.1 dX8_term_4 rfl (lv_at hl 0 rfl) ?_
  obtain ⟨x2, e2, hF⟩ := bnd hF
  obtain ⟨fs2, ho2⟩ := OX8_isGood e2
  refine pw_cVi (rest := []) hC hR lvX8_67 ho2 (CX8_isGood e2) ⟨rfl, rfl⟩ rfl hl.1 rfl ⟨rg_f (Nat.le_of_ble_eq_true rfl), rg_l (Nat.le_of_ble_eq_true rfl)⟩ (Nat.le_of_ble_eq_true rfl) dX8_term_5 ⟨Nat.zero_le _, Nat.zero_le _⟩ (fun H locs hR => ?_)
  refine pw_ifeq hC 74 dX8_term_8 (by decide) (fun hc => ?_) (fun hc => ?_)
  · rw [if_pos hc] at hF
    cases hF
    exact hK _ _ _ hR (lv_sub hl [] rfl)
  · rw [if_neg hc] at hF
    refine lv_aload_n hC.1 hC.2.1 dX8_term_11 rfl (lv_at hl 0 rfl) ?_
    obtain ⟨q3, e3, hF⟩ := bnd hF
    obtain ⟨fs3, ho3⟩ := OX8_next e3
    refine pw_cVi (rest := []) hC hR lvX8_71 ho3 (CX8_next e3) ⟨rfl, rfl⟩ rfl hl.1 rfl ⟨rg_f (Nat.le_of_ble_eq_true rfl), rg_l (Nat.le_of_ble_eq_true rfl)⟩ (Nat.le_of_ble_eq_true rfl) dX8_term_12 ⟨Nat.zero_le _, Nat.zero_le _⟩ (fun H locs hR => ?_)
    refine pw_bipush hC dX8_term_15 rfl ?_
    refine pw_icmpeq hC 29 dX8_term_17 (by decide) (fun hc => ?_) (fun hc => ?_)
    · rw [if_pos hc] at hF
      exact BX8_term_29 hrec hC hR (lv_sub hl [0] rfl) hF hK
    · rw [if_neg hc] at hF
      refine lv_aload_n hC.1 hC.2.1 dX8_term_20 rfl (lv_at hl 0 rfl) ?_
      obtain ⟨q9, e9, hF⟩ := bnd hF
      obtain ⟨fs9, ho9⟩ := OX8_next e9
      refine pw_cVi (rest := []) hC hR lvX8_71 ho9 (CX8_next e9) ⟨rfl, rfl⟩ rfl hl.1 rfl ⟨rg_f (Nat.le_of_ble_eq_true rfl), rg_l (Nat.le_of_ble_eq_true rfl)⟩ (Nat.le_of_ble_eq_true rfl) dX8_term_21 ⟨Nat.zero_le _, Nat.zero_le _⟩ (fun H locs hR => ?_)
      refine pw_bipush hC dX8_term_24 rfl ?_
      refine pw_icmpne hC 74 dX8_term_26 (by decide) (fun hc => ?_) (fun hc => ?_)
      · rw [if_neg hc] at hF
        cases hF
        exact hK _ _ _ hR (lv_sub hl [] rfl)
      · rw [if_pos hc] at hF
        exact BX8_term_29 hrec hC hR (lv_sub hl [0] rfl) hF hK
def JX8_term_74 (rec : Nat → PH → Nat → Option PH) (h : PH) : Option (PH) :=
  some h
set_option maxHeartbeats 4000000 in
set_option maxRecDepth 100000 in
theorem BX8_term_74 {rec : Nat → PH → Nat → Option PH} {N : Nat} (hrec : RecM g l N rec) {h : PH} (hC : Cx g p s m args meth c cX8_term 2 RX8 none) (hR : Rl g ad h s.heap H locs) (hl : lv_has ls 2 []) {q : PH} (hF : JX8_term_74 rec h  = some q) : W p l e (rmG (N + 1)) s m args below meth c H locs 0 0 (MQ below (QcN g ad q none) args s 0 0 (gA g)) (F0 m 74 ls []) := by
  unfold JX8_term_74 at hF
  cases hF
  exact pw_vret hC hR dX8_term_74
def FX8_term (rec : Nat → PH → Nat → Option PH) (h : PH) (v0 : Nat) : Option (PH) :=
  (isO h 8 v0).bind fun _ =>
  (rec 2 h v0).bind fun h1 =>
  (lp (fun st : PH => LX8_term_4 rec v0 st) FU h1).bind fun ex10 =>
  JX8_term_74 rec ex10
theorem OX8_term {rec : Nat → PH → Nat → Option PH} {h : PH} {v0 : Nat} {q : PH} (hF : FX8_term rec h v0 = some q) : ∃ fs : List PV, h[v0]? = some (.inr (8, fs)) := by
  unfold FX8_term at hF
  obtain ⟨u0, e0, -⟩ := bnd hF
  exact isO_spec e0
set_option maxHeartbeats 4000000 in
set_option maxRecDepth 100000 in
theorem CX8_term {rec : Nat → PH → Nat → Option PH} {N : Nat} {g : GP} {l : Launch} (hrec : RecM g l N rec) {ad : Nat → Nat} {h : PH} {v0 : Nat} {q : PH} (hF : FX8_term rec h v0 = some q) : CN g l yX8_term cX8_term 2 none (rmG (N + 1)) ad h [.ref (ad v0)] none q := by
  refine pw_met (by decide) (Nat.le_of_ble_eq_true rfl) ?_
  intro p e s m args below meth c ls hC hN hR hl
  have hl : lv_has ls 2 [(0, .ref (ad v0))] := hl
  unfold FX8_term at hF
  obtain ⟨u0, e0, hF⟩ := bnd hF
  refine lv_aload_n hC.1 hC.2.1 dX8_term_0 rfl (lv_at hl 0 rfl) ?_
  obtain ⟨h1, e1, hF⟩ := bnd hF
  obtain ⟨fs1, ho1⟩ := RecM_o2 hrec e1
  refine pw_cVv (rest := []) hC hR lvX8_127 ho1 (RecM_c2 hrec e1) ⟨rfl, rfl⟩ rfl hl.1 rfl (rg_s (by decide)) (Nat.le_of_ble_eq_true rfl) dX8_term_1 ⟨Nat.zero_le _, Nat.zero_le _⟩ (fun H locs hR => ?_)
  obtain ⟨ex10, e10, hF⟩ := bnd hF
  refine LRX8_term_4 hrec hC FU _ ex10 e10 ?_ _ _ _ hR (lv_sub hl [0] rfl)
  intro H locs ls hR hl
  exact BX8_term_74 hrec hC hR (lv_sub hl [] rfl) hF
def JX8_factor_170 (rec : Nat → PH → Nat → Option PH) (h : PH) (v0 : Nat) (v3 : Int) (s0 : Int) (s1 : Nat) : Option (PH) :=
  (FX8_emit h s1 s0).bind fun h8 =>
  (FX8_emit h8 v0 v3).bind fun h9 =>
  some h9
set_option maxHeartbeats 4000000 in
set_option maxRecDepth 100000 in
theorem BX8_factor_170 {rec : Nat → PH → Nat → Option PH} {N : Nat} (hrec : RecM g l N rec) {h : PH} {v0 : Nat} {v3 : Int} {s0 : Int} {s1 : Nat} (hC : Cx g p s m args meth c cX8_factor 4 RX8 none) (hR : Rl g ad h s.heap H locs) (hl : lv_has ls 4 [(0, .ref (ad v0)), (3, .int (Int32.ofInt v3))]) {q : PH} (hF : JX8_factor_170 rec h v0 v3 s0 s1 = some q) : W p l e (rmG (N + 1)) s m args below meth c H locs 0 0 (MQ below (QcN g ad q none) args s 0 0 (gA g)) (F0 m 170 ls [.int (Int32.ofInt s0), .ref (ad s1)]) := by
  unfold JX8_factor_170 at hF
  obtain ⟨h8, e8, hF⟩ := bnd hF
  obtain ⟨fs8, ho8⟩ := OX8_emit e8
  refine pw_cVv (rest := []) hC hR lvX8_124 ho8 (CX8_emit e8) ⟨rfl, rfl⟩ rfl hl.1 rfl ⟨rg_f (Nat.le_of_ble_eq_true rfl), rg_l (Nat.le_of_ble_eq_true rfl)⟩ (Nat.le_of_ble_eq_true rfl) dX8_factor_170 ⟨Nat.zero_le _, Nat.zero_le _⟩ (fun H locs hR => ?_)
  refine lv_aload_n hC.1 hC.2.1 dX8_factor_173 rfl (lv_at hl 0 rfl) ?_
  refine lv_iload_n hC.1 hC.2.1 dX8_factor_174 rfl (lv_at hl 1 rfl) ?_
  obtain ⟨h9, e9, hF⟩ := bnd hF
  obtain ⟨fs9, ho9⟩ := OX8_emit e9
  refine pw_cVv (rest := []) hC hR lvX8_124 ho9 (CX8_emit e9) ⟨rfl, rfl⟩ rfl hl.1 rfl ⟨rg_f (Nat.le_of_ble_eq_true rfl), rg_l (Nat.le_of_ble_eq_true rfl)⟩ (Nat.le_of_ble_eq_true rfl) dX8_factor_175 ⟨Nat.zero_le _, Nat.zero_le _⟩ (fun H locs hR => ?_)
  cases hF
  exact pw_vret hC hR dX8_factor_178
def JX8_factor_159 (rec : Nat → PH → Nat → Option PH) (h : PH) (v0 : Nat) (v2 : Int) (s0 : Int) : Option (PH) :=
  if w32 v2 < 0 then (
    JX8_factor_170 rec h v0 s0 0 v0
  ) else (
    JX8_factor_170 rec h v0 s0 1 v0
  )
set_option maxHeartbeats 4000000 in
set_option maxRecDepth 100000 in
theorem BX8_factor_159 {rec : Nat → PH → Nat → Option PH} {N : Nat} (hrec : RecM g l N rec) {h : PH} {v0 : Nat} {v2 : Int} {s0 : Int} (hC : Cx g p s m args meth c cX8_factor 4 RX8 none) (hR : Rl g ad h s.heap H locs) (hl : lv_has ls 4 [(0, .ref (ad v0)), (2, .int (Int32.ofInt v2))]) {q : PH} (hF : JX8_factor_159 rec h v0 v2 s0 = some q) : W p l e (rmG (N + 1)) s m args below meth c H locs 0 0 (MQ below (QcN g ad q none) args s 0 0 (gA g)) (F0 m 159 ls [.int (Int32.ofInt s0)]) := by
  unfold JX8_factor_159 at hF
  refine lv_istore_n (lv' := [(3, .int (Int32.ofInt s0)), (0, .ref (ad v0)), (2, .int (Int32.ofInt v2))]) hC.1 hC.2.1 dX8_factor_159 rfl hl (by decide) rfl (fun ls hl => ?_)
  refine lv_aload_n hC.1 hC.2.1 dX8_factor_160 rfl (lv_at hl 1 rfl) ?_
  refine lv_iload_n hC.1 hC.2.1 dX8_factor_161 rfl (lv_at hl 2 rfl) ?_
  refine pw_ifge hC 169 dX8_factor_162 (by decide) (fun hc => ?_) (fun hc => ?_)
  · rw [if_neg hc] at hF
    refine pw_iconst hC dX8_factor_169 ?_
    exact BX8_factor_170 hrec hC hR (lv_sub hl [1, 0] rfl) hF
  · rw [if_pos hc] at hF
    refine pw_iconst hC dX8_factor_165 ?_
    refine pw_goto hC 170 dX8_factor_166 (by decide) ?_
    exact BX8_factor_170 hrec hC hR (lv_sub hl [1, 0] rfl) hF
def JX8_factor_142 (rec : Nat → PH → Nat → Option PH) (h : PH) (v0 : Nat) (s0 : Int) : Option (PH) :=
  if w32 s0 < 0 then (
    (FX8_number h v0 0 9999).bind fun q10 =>
    JX8_factor_159 rec q10.2 v0 s0 q10.1
  ) else (
    JX8_factor_159 rec h v0 s0 s0
  )
set_option maxHeartbeats 4000000 in
set_option maxRecDepth 100000 in
theorem BX8_factor_142 {rec : Nat → PH → Nat → Option PH} {N : Nat} (hrec : RecM g l N rec) {h : PH} {v0 : Nat} {s0 : Int} (hC : Cx g p s m args meth c cX8_factor 4 RX8 none) (hR : Rl g ad h s.heap H locs) (hl : lv_has ls 4 [(0, .ref (ad v0))]) {q : PH} (hF : JX8_factor_142 rec h v0 s0 = some q) : W p l e (rmG (N + 1)) s m args below meth c H locs 0 0 (MQ below (QcN g ad q none) args s 0 0 (gA g)) (F0 m 142 ls [.int (Int32.ofInt s0)]) := by
  unfold JX8_factor_142 at hF
  refine lv_istore_n (lv' := [(2, .int (Int32.ofInt s0)), (0, .ref (ad v0))]) hC.1 hC.2.1 dX8_factor_142 rfl hl (by decide) rfl (fun ls hl => ?_)
  refine lv_iload_n hC.1 hC.2.1 dX8_factor_143 rfl (lv_at hl 0 rfl) ?_
  refine pw_ifge hC 158 dX8_factor_144 (by decide) (fun hc => ?_) (fun hc => ?_)
  · rw [if_neg hc] at hF
    refine lv_iload_n hC.1 hC.2.1 dX8_factor_158 rfl (lv_at hl 0 rfl) ?_
    exact BX8_factor_159 hrec hC hR (lv_sub hl [1, 0] rfl) hF
  · rw [if_pos hc] at hF
    refine lv_aload_n hC.1 hC.2.1 dX8_factor_147 rfl (lv_at hl 1 rfl) ?_
    refine pw_iconst hC dX8_factor_148 ?_
    refine pw_sipush hC dX8_factor_149 rfl ?_
    obtain ⟨q10, e10, hF⟩ := bnd hF
    obtain ⟨fs10, ho10⟩ := OX8_number e10
    refine pw_cVi (rest := []) hC hR lvX8_121 ho10 (CX8_number e10) ⟨rfl, rfl⟩ rfl hl.1 rfl ⟨rg_f (Nat.le_of_ble_eq_true rfl), rg_l (Nat.le_of_ble_eq_true rfl)⟩ (Nat.le_of_ble_eq_true rfl) dX8_factor_152 ⟨Nat.zero_le _, Nat.zero_le _⟩ (fun H locs hR => ?_)
    refine pw_goto hC 159 dX8_factor_155 (by decide) ?_
    exact BX8_factor_159 hrec hC hR (lv_sub hl [1, 0] rfl) hF
def JX8_factor_37 (rec : Nat → PH → Nat → Option PH) (h : PH) (v0 : Nat) : Option (PH) :=
  (gfi h 8 v0 4).bind fun x12 =>
  (pfi h 8 v0 4 (x12 + 1)).bind fun h13 =>
  (gfi h13 8 v0 14).bind fun x14 =>
  (pfi h13 8 v0 14 (x14 + 1)).bind fun h15 =>
  (rec 0 h15 v0).bind fun h16 =>
  (FX8_expect h16 v0 41).bind fun h17 =>
  (gfi h17 8 v0 14).bind fun x18 =>
  (pfi h17 8 v0 14 (x18 - 1)).bind fun h19 =>
  some h19
set_option maxHeartbeats 4000000 in
set_option maxRecDepth 100000 in
theorem BX8_factor_37 {rec : Nat → PH → Nat → Option PH} {N : Nat} (hrec : RecM g l N rec) {h : PH} {v0 : Nat} (hC : Cx g p s m args meth c cX8_factor 4 RX8 none) (hR : Rl g ad h s.heap H locs) (hl : lv_has ls 4 [(0, .ref (ad v0))]) {q : PH} (hF : JX8_factor_37 rec h v0 = some q) : W p l e (rmG (N + 1)) s m args below meth c H locs 0 0 (MQ below (QcN g ad q none) args s 0 0 (gA g)) (F0 m 37 ls []) := by
  unfold JX8_factor_37 at hF
  refine lv_aload_n hC.1 hC.2.1 dX8_factor_37 rfl (lv_at hl 0 rfl) ?_
  refine lv_dup hC.1 hC.2.1 dX8_factor_38 rfl ?_
  obtain ⟨x12, e12, hF⟩ := bnd hF
  refine pw_gfi hC hR e12 flX8_51 dX8_factor_39 ?_
  refine pw_iconst hC dX8_factor_42 ?_
  refine pw_iadd hC dX8_factor_43 ?_
  obtain ⟨h13, e13, hF⟩ := bnd hF
  refine pw_pfi hC hR e13 fpX8_51 (Or.inl rfl) dX8_factor_44 (fun H locs hR => ?_)
  refine lv_aload_n hC.1 hC.2.1 dX8_factor_47 rfl (lv_at hl 0 rfl) ?_
  refine lv_dup hC.1 hC.2.1 dX8_factor_48 rfl ?_
  obtain ⟨x14, e14, hF⟩ := bnd hF
  refine pw_gfi hC hR e14 flX8_100 dX8_factor_49 ?_
  refine pw_iconst hC dX8_factor_52 ?_
  refine pw_iadd hC dX8_factor_53 ?_
  obtain ⟨h15, e15, hF⟩ := bnd hF
  refine pw_pfi hC hR e15 fpX8_100 (Or.inl rfl) dX8_factor_54 (fun H locs hR => ?_)
  refine lv_aload_n hC.1 hC.2.1 dX8_factor_57 rfl (lv_at hl 0 rfl) ?_
  obtain ⟨h16, e16, hF⟩ := bnd hF
  obtain ⟨fs16, ho16⟩ := RecM_o0 hrec e16
  refine pw_cVv (rest := []) hC hR lvX8_103 ho16 (RecM_c0 hrec e16) ⟨rfl, rfl⟩ rfl hl.1 rfl (rg_s (by decide)) (Nat.le_of_ble_eq_true rfl) dX8_factor_58 ⟨Nat.zero_le _, Nat.zero_le _⟩ (fun H locs hR => ?_)
  refine lv_aload_n hC.1 hC.2.1 dX8_factor_61 rfl (lv_at hl 0 rfl) ?_
  refine pw_bipush hC dX8_factor_62 rfl ?_
  obtain ⟨h17, e17, hF⟩ := bnd hF
  obtain ⟨fs17, ho17⟩ := OX8_expect e17
  refine pw_cVv (rest := []) hC hR lvX8_106 ho17 (CX8_expect e17) ⟨rfl, rfl⟩ rfl hl.1 rfl ⟨rg_f (Nat.le_of_ble_eq_true rfl), rg_l (Nat.le_of_ble_eq_true rfl)⟩ (Nat.le_of_ble_eq_true rfl) dX8_factor_64 ⟨Nat.zero_le _, Nat.zero_le _⟩ (fun H locs hR => ?_)
  refine lv_aload_n hC.1 hC.2.1 dX8_factor_67 rfl (lv_at hl 0 rfl) ?_
  refine lv_dup hC.1 hC.2.1 dX8_factor_68 rfl ?_
  obtain ⟨x18, e18, hF⟩ := bnd hF
  refine pw_gfi hC hR e18 flX8_100 dX8_factor_69 ?_
  refine pw_iconst hC dX8_factor_72 ?_
  refine pw_isub hC dX8_factor_73 ?_
  obtain ⟨h19, e19, hF⟩ := bnd hF
  refine pw_pfi hC hR e19 fpX8_100 (Or.inl rfl) dX8_factor_74 (fun H locs hR => ?_)
  cases hF
  exact pw_vret hC hR dX8_factor_77
def FX8_factor (rec : Nat → PH → Nat → Option PH) (h : PH) (v0 : Nat) : Option (PH) :=
  (isO h 8 v0).bind fun _ =>
  (FX8_isGood h v0).bind fun x1 =>
  if w32 x1 = 0 then (
    some h
  ) else (
    (FX8_next h v0).bind fun q2 =>
    if w32 q2.1 = w32 40 then (
      (gfi q2.2 8 v0 14).bind fun x11 =>
      if w32 x11 = w32 4 then (
        (gfi q2.2 8 v0 4).bind fun x20 =>
        (FX8_report q2.2 v0 (-5) x20).bind fun h21 =>
        JX8_factor_37 rec h21 v0
      ) else (
        JX8_factor_37 rec q2.2 v0
      )
    ) else (
      (FX8_isDigit q2.2 q2.1).bind fun x3 =>
      if w32 x3 = 0 then (
        (FX8_takeWord q2.2 v0 6).bind fun q4 =>
        if w32 q4.1 = 0 then (
          (FX8_takeWord q4.2 v0 7).bind fun q5 =>
          if w32 q5.1 = 0 then (
            (FX8_takeWord q5.2 v0 2).bind fun q6 =>
            if w32 q6.1 = 0 then (
              (FX8_takeWord q6.2 v0 8).bind fun q7 =>
              if w32 q7.1 = 0 then (
                JX8_factor_142 rec q7.2 v0 (-1)
              ) else (
                JX8_factor_142 rec q7.2 v0 3
              )
            ) else (
              JX8_factor_142 rec q6.2 v0 2
            )
          ) else (
            JX8_factor_142 rec q5.2 v0 1
          )
        ) else (
          JX8_factor_142 rec q4.2 v0 0
        )
      ) else (
        JX8_factor_142 rec q2.2 v0 (-1)
      )
    )
  )
theorem OX8_factor {rec : Nat → PH → Nat → Option PH} {h : PH} {v0 : Nat} {q : PH} (hF : FX8_factor rec h v0 = some q) : ∃ fs : List PV, h[v0]? = some (.inr (8, fs)) := by
  unfold FX8_factor at hF
  obtain ⟨u0, e0, -⟩ := bnd hF
  exact isO_spec e0
set_option maxHeartbeats 4000000 in
set_option maxRecDepth 100000 in
theorem CX8_factor {rec : Nat → PH → Nat → Option PH} {N : Nat} {g : GP} {l : Launch} (hrec : RecM g l N rec) {ad : Nat → Nat} {h : PH} {v0 : Nat} {q : PH} (hF : FX8_factor rec h v0 = some q) : CN g l yX8_factor cX8_factor 4 none (rmG (N + 1)) ad h [.ref (ad v0)] none q := by
  refine pw_met (by decide) (Nat.le_of_ble_eq_true rfl) ?_
  intro p e s m args below meth c ls hC hN hR hl
  have hl : lv_has ls 4 [(0, .ref (ad v0))] := hl
  unfold FX8_factor at hF
  obtain ⟨u0, e0, hF⟩ := bnd hF
  refine lv_aload_n hC.1 hC.2.1 dX8_factor_0 rfl (lv_at hl 0 rfl) ?_
  obtain ⟨x1, e1, hF⟩ := bnd hF
  obtain ⟨fs1, ho1⟩ := OX8_isGood e1
  refine pw_cVi (rest := []) hC hR lvX8_67 ho1 (CX8_isGood e1) ⟨rfl, rfl⟩ rfl hl.1 rfl ⟨rg_f (Nat.le_of_ble_eq_true rfl), rg_l (Nat.le_of_ble_eq_true rfl)⟩ (Nat.le_of_ble_eq_true rfl) dX8_factor_1 ⟨Nat.zero_le _, Nat.zero_le _⟩ (fun H locs hR => ?_)
  refine pw_ifne hC 8 dX8_factor_4 (by decide) (fun hc => ?_) (fun hc => ?_)
  · rw [if_neg hc] at hF
    refine lv_aload_n hC.1 hC.2.1 dX8_factor_8 rfl (lv_at hl 0 rfl) ?_
    obtain ⟨q2, e2, hF⟩ := bnd hF
    obtain ⟨fs2, ho2⟩ := OX8_next e2
    refine pw_cVi (rest := []) hC hR lvX8_71 ho2 (CX8_next e2) ⟨rfl, rfl⟩ rfl hl.1 rfl ⟨rg_f (Nat.le_of_ble_eq_true rfl), rg_l (Nat.le_of_ble_eq_true rfl)⟩ (Nat.le_of_ble_eq_true rfl) dX8_factor_9 ⟨Nat.zero_le _, Nat.zero_le _⟩ (fun H locs hR => ?_)
    refine lv_istore_n (lv' := [(1, .int (Int32.ofInt q2.1)), (0, .ref (ad v0))]) hC.1 hC.2.1 dX8_factor_12 rfl hl (by decide) rfl (fun ls hl => ?_)
    refine lv_iload_n hC.1 hC.2.1 dX8_factor_13 rfl (lv_at hl 0 rfl) ?_
    refine pw_bipush hC dX8_factor_14 rfl ?_
    refine pw_icmpne hC 78 dX8_factor_16 (by decide) (fun hc => ?_) (fun hc => ?_)
    · rw [if_neg hc] at hF
      refine lv_iload_n hC.1 hC.2.1 dX8_factor_78 rfl (lv_at hl 0 rfl) ?_
      obtain ⟨x3, e3, hF⟩ := bnd hF
      refine pw_cSi (rest := []) hC hR lsX8_88 (CX8_isDigit e3) ⟨rfl, rfl⟩ rfl hl.1 rfl ⟨rg_f (Nat.le_of_ble_eq_true rfl), rg_l (Nat.le_of_ble_eq_true rfl)⟩ (Nat.le_of_ble_eq_true rfl) dX8_factor_79 ⟨Nat.zero_le _, Nat.zero_le _⟩ (fun H locs hR => ?_)
      refine pw_ifeq hC 89 dX8_factor_82 (by decide) (fun hc => ?_) (fun hc => ?_)
      · rw [if_pos hc] at hF
        refine lv_aload_n hC.1 hC.2.1 dX8_factor_89 rfl (lv_at hl 1 rfl) ?_
        refine pw_ldcs hC 6 (tx := "duration") (by decide +kernel) dX8_factor_90 ?_
        obtain ⟨q4, e4, hF⟩ := bnd hF
        obtain ⟨fs4, ho4⟩ := OX8_takeWord e4
        refine pw_cVi (rest := []) hC hR lvX8_112 ho4 (CX8_takeWord e4) ⟨rfl, rfl⟩ rfl hl.1 rfl ⟨rg_f (Nat.le_of_ble_eq_true rfl), rg_l (Nat.le_of_ble_eq_true rfl)⟩ (Nat.le_of_ble_eq_true rfl) dX8_factor_92 ⟨Nat.zero_le _, Nat.zero_le _⟩ (fun H locs hR => ?_)
        refine pw_ifeq hC 102 dX8_factor_95 (by decide) (fun hc => ?_) (fun hc => ?_)
        · rw [if_pos hc] at hF
          refine lv_aload_n hC.1 hC.2.1 dX8_factor_102 rfl (lv_at hl 1 rfl) ?_
          refine pw_ldcs hC 7 (tx := "priority") (by decide +kernel) dX8_factor_103 ?_
          obtain ⟨q5, e5, hF⟩ := bnd hF
          obtain ⟨fs5, ho5⟩ := OX8_takeWord e5
          refine pw_cVi (rest := []) hC hR lvX8_112 ho5 (CX8_takeWord e5) ⟨rfl, rfl⟩ rfl hl.1 rfl ⟨rg_f (Nat.le_of_ble_eq_true rfl), rg_l (Nat.le_of_ble_eq_true rfl)⟩ (Nat.le_of_ble_eq_true rfl) dX8_factor_105 ⟨Nat.zero_le _, Nat.zero_le _⟩ (fun H locs hR => ?_)
          refine pw_ifeq hC 115 dX8_factor_108 (by decide) (fun hc => ?_) (fun hc => ?_)
          · rw [if_pos hc] at hF
            refine lv_aload_n hC.1 hC.2.1 dX8_factor_115 rfl (lv_at hl 1 rfl) ?_
            refine pw_ldcs hC 2 (tx := "core") (by decide +kernel) dX8_factor_116 ?_
            obtain ⟨q6, e6, hF⟩ := bnd hF
            obtain ⟨fs6, ho6⟩ := OX8_takeWord e6
            refine pw_cVi (rest := []) hC hR lvX8_112 ho6 (CX8_takeWord e6) ⟨rfl, rfl⟩ rfl hl.1 rfl ⟨rg_f (Nat.le_of_ble_eq_true rfl), rg_l (Nat.le_of_ble_eq_true rfl)⟩ (Nat.le_of_ble_eq_true rfl) dX8_factor_118 ⟨Nat.zero_le _, Nat.zero_le _⟩ (fun H locs hR => ?_)
            refine pw_ifeq hC 128 dX8_factor_121 (by decide) (fun hc => ?_) (fun hc => ?_)
            · rw [if_pos hc] at hF
              refine lv_aload_n hC.1 hC.2.1 dX8_factor_128 rfl (lv_at hl 1 rfl) ?_
              refine pw_ldcs hC 8 (tx := "load") (by decide +kernel) dX8_factor_129 ?_
              obtain ⟨q7, e7, hF⟩ := bnd hF
              obtain ⟨fs7, ho7⟩ := OX8_takeWord e7
              refine pw_cVi (rest := []) hC hR lvX8_112 ho7 (CX8_takeWord e7) ⟨rfl, rfl⟩ rfl hl.1 rfl ⟨rg_f (Nat.le_of_ble_eq_true rfl), rg_l (Nat.le_of_ble_eq_true rfl)⟩ (Nat.le_of_ble_eq_true rfl) dX8_factor_131 ⟨Nat.zero_le _, Nat.zero_le _⟩ (fun H locs hR => ?_)
              refine pw_ifeq hC 141 dX8_factor_134 (by decide) (fun hc => ?_) (fun hc => ?_)
              · rw [if_pos hc] at hF
                refine pw_iconst hC dX8_factor_141 ?_
                exact BX8_factor_142 hrec hC hR (lv_sub hl [1] rfl) hF
              · rw [if_neg hc] at hF
                refine pw_iconst hC dX8_factor_137 ?_
                refine pw_goto hC 142 dX8_factor_138 (by decide) ?_
                exact BX8_factor_142 hrec hC hR (lv_sub hl [1] rfl) hF
            · rw [if_neg hc] at hF
              refine pw_iconst hC dX8_factor_124 ?_
              refine pw_goto hC 142 dX8_factor_125 (by decide) ?_
              exact BX8_factor_142 hrec hC hR (lv_sub hl [1] rfl) hF
          · rw [if_neg hc] at hF
            refine pw_iconst hC dX8_factor_111 ?_
            refine pw_goto hC 142 dX8_factor_112 (by decide) ?_
            exact BX8_factor_142 hrec hC hR (lv_sub hl [1] rfl) hF
        · rw [if_neg hc] at hF
          refine pw_iconst hC dX8_factor_98 ?_
          refine pw_goto hC 142 dX8_factor_99 (by decide) ?_
          exact BX8_factor_142 hrec hC hR (lv_sub hl [1] rfl) hF
      · rw [if_neg hc] at hF
        refine pw_iconst hC dX8_factor_85 ?_
        refine pw_goto hC 142 dX8_factor_86 (by decide) ?_
        exact BX8_factor_142 hrec hC hR (lv_sub hl [1] rfl) hF
    · rw [if_pos hc] at hF
      refine lv_aload_n hC.1 hC.2.1 dX8_factor_19 rfl (lv_at hl 1 rfl) ?_
      obtain ⟨x11, e11, hF⟩ := bnd hF
      refine pw_gfi hC hR e11 flX8_100 dX8_factor_20 ?_
      refine pw_iconst hC dX8_factor_23 ?_
      refine pw_icmpne hC 37 dX8_factor_24 (by decide) (fun hc => ?_) (fun hc => ?_)
      · rw [if_neg hc] at hF
        exact BX8_factor_37 hrec hC hR (lv_sub hl [1] rfl) hF
      · rw [if_pos hc] at hF
        refine lv_aload_n hC.1 hC.2.1 dX8_factor_27 rfl (lv_at hl 1 rfl) ?_
        refine pw_bipush hC dX8_factor_28 rfl ?_
        refine lv_aload_n hC.1 hC.2.1 dX8_factor_30 rfl (lv_at hl 1 rfl) ?_
        obtain ⟨x20, e20, hF⟩ := bnd hF
        refine pw_gfi hC hR e20 flX8_51 dX8_factor_31 ?_
        obtain ⟨h21, e21, hF⟩ := bnd hF
        obtain ⟨fs21, ho21⟩ := OX8_report e21
        refine pw_cVv (rest := []) hC hR lvX8_84 ho21 (CX8_report e21) ⟨rfl, rfl⟩ rfl hl.1 rfl ⟨rg_f (Nat.le_of_ble_eq_true rfl), rg_l (Nat.le_of_ble_eq_true rfl)⟩ (Nat.le_of_ble_eq_true rfl) dX8_factor_34 ⟨Nat.zero_le _, Nat.zero_le _⟩ (fun H locs hR => ?_)
        exact BX8_factor_37 hrec hC hR (lv_sub hl [1] rfl) hF
  · rw [if_pos hc] at hF
    cases hF
    exact pw_vret hC hR dX8_factor_7
def FRRecM : Nat → Nat → PH → Nat → Option PH
  | 0 => fun _ _ _ => none
  | n + 1 => fun k h v0 => if k = 0 then FX8_sum (FRRecM n) h v0 else if k = 1 then FX8_term (FRRecM n) h v0 else FX8_factor (FRRecM n) h v0
theorem RecM_all {g : GP} {l : Launch} : ∀ N : Nat, RecM g l N (FRRecM N)
  | 0 => ⟨(fun _ _ _ e => by cases e), (fun _ _ _ e => by cases e), (fun _ _ _ e => by cases e)⟩
  | N + 1 => ⟨fun h v0 q e => ⟨OX8_sum (show FX8_sum (FRRecM N) h v0 = some q from e), fun ad => CX8_sum (RecM_all N) (show FX8_sum (FRRecM N) h v0 = some q from e)⟩, fun h v0 q e => ⟨OX8_term (show FX8_term (FRRecM N) h v0 = some q from e), fun ad => CX8_term (RecM_all N) (show FX8_term (FRRecM N) h v0 = some q from e)⟩, fun h v0 q e => ⟨OX8_factor (show FX8_factor (FRRecM N) h v0 = some q from e), fun ad => CX8_factor (RecM_all N) (show FX8_factor (FRRecM N) h v0 = some q from e)⟩⟩
theorem CX8_sumR {g : GP} {l : Launch} {ad : Nat → Nat} {h : PH} {v0 : Nat} {q : PH} (e : FRRecM 40 0 h v0 = some q) : CN g l yX8_sum cX8_sum 2 none (rmG 40) ad h [.ref (ad v0)] none q := RecM_c0 (RecM_all 40) e
theorem OX8_sumR {h : PH} {v0 : Nat} {q : PH} (e : FRRecM 40 0 h v0 = some q) : ∃ fs : List PV, h[v0]? = some (.inr (8, fs)) := by
  unfold FRRecM at e
  exact OX8_sum e
theorem CX8_termR {g : GP} {l : Launch} {ad : Nat → Nat} {h : PH} {v0 : Nat} {q : PH} (e : FRRecM 40 1 h v0 = some q) : CN g l yX8_term cX8_term 2 none (rmG 40) ad h [.ref (ad v0)] none q := RecM_c1 (RecM_all 40) e
theorem OX8_termR {h : PH} {v0 : Nat} {q : PH} (e : FRRecM 40 1 h v0 = some q) : ∃ fs : List PV, h[v0]? = some (.inr (8, fs)) := by
  unfold FRRecM at e
  exact OX8_term e
theorem CX8_factorR {g : GP} {l : Launch} {ad : Nat → Nat} {h : PH} {v0 : Nat} {q : PH} (e : FRRecM 40 2 h v0 = some q) : CN g l yX8_factor cX8_factor 4 none (rmG 40) ad h [.ref (ad v0)] none q := RecM_c2 (RecM_all 40) e
theorem OX8_factorR {h : PH} {v0 : Nat} {q : PH} (e : FRRecM 40 2 h v0 = some q) : ∃ fs : List PV, h[v0]? = some (.inr (8, fs)) := by
  unfold FRRecM at e
  exact OX8_factor e
def RecS (g : GP) (l : Launch) (N : Nat) (rec : Nat → PH → Nat → Int → Option (Int × PH)) : Prop := (∀ (h : PH) (v0 : Nat) (v1 : Int) (q : Int × PH), rec 0 h v0 v1 = some q → (∃ fs : List PV, h[v0]? = some (.inr (4, fs))) ∧ ∀ ad : Nat → Nat, CN g l yX4_readSum cX4_readSum 5 (some .boolean) (rmG N) ad h [.ref (ad v0), .int (Int32.ofInt v1)] (some (.int (Int32.ofInt q.1))) q.2) ∧ (∀ (h : PH) (v0 : Nat) (v1 : Int) (q : Int × PH), rec 1 h v0 v1 = some q → (∃ fs : List PV, h[v0]? = some (.inr (4, fs))) ∧ ∀ ad : Nat → Nat, CN g l yX4_readTerm cX4_readTerm 5 (some .boolean) (rmG N) ad h [.ref (ad v0), .int (Int32.ofInt v1)] (some (.int (Int32.ofInt q.1))) q.2) ∧ (∀ (h : PH) (v0 : Nat) (v1 : Int) (q : Int × PH), rec 2 h v0 v1 = some q → (∃ fs : List PV, h[v0]? = some (.inr (4, fs))) ∧ ∀ ad : Nat → Nat, CN g l yX4_readFactor cX4_readFactor 2 (some .boolean) (rmG N) ad h [.ref (ad v0), .int (Int32.ofInt v1)] (some (.int (Int32.ofInt q.1))) q.2)
theorem RecS_c0 {g : GP} {l : Launch} {N : Nat} {rec : Nat → PH → Nat → Int → Option (Int × PH)} (H : RecS g l N rec) {ad : Nat → Nat} {h : PH} {v0 : Nat} {v1 : Int} {q : Int × PH} (e : rec 0 h v0 v1 = some q) : CN g l yX4_readSum cX4_readSum 5 (some .boolean) (rmG N) ad h [.ref (ad v0), .int (Int32.ofInt v1)] (some (.int (Int32.ofInt q.1))) q.2 := (H.1 h v0 v1 q e).2 ad
theorem RecS_o0 {g : GP} {l : Launch} {N : Nat} {rec : Nat → PH → Nat → Int → Option (Int × PH)} (H : RecS g l N rec) {h : PH} {v0 : Nat} {v1 : Int} {q : Int × PH} (e : rec 0 h v0 v1 = some q) : ∃ fs : List PV, h[v0]? = some (.inr (4, fs)) := (H.1 h v0 v1 q e).1
theorem RecS_c1 {g : GP} {l : Launch} {N : Nat} {rec : Nat → PH → Nat → Int → Option (Int × PH)} (H : RecS g l N rec) {ad : Nat → Nat} {h : PH} {v0 : Nat} {v1 : Int} {q : Int × PH} (e : rec 1 h v0 v1 = some q) : CN g l yX4_readTerm cX4_readTerm 5 (some .boolean) (rmG N) ad h [.ref (ad v0), .int (Int32.ofInt v1)] (some (.int (Int32.ofInt q.1))) q.2 := (H.2.1 h v0 v1 q e).2 ad
theorem RecS_o1 {g : GP} {l : Launch} {N : Nat} {rec : Nat → PH → Nat → Int → Option (Int × PH)} (H : RecS g l N rec) {h : PH} {v0 : Nat} {v1 : Int} {q : Int × PH} (e : rec 1 h v0 v1 = some q) : ∃ fs : List PV, h[v0]? = some (.inr (4, fs)) := (H.2.1 h v0 v1 q e).1
theorem RecS_c2 {g : GP} {l : Launch} {N : Nat} {rec : Nat → PH → Nat → Int → Option (Int × PH)} (H : RecS g l N rec) {ad : Nat → Nat} {h : PH} {v0 : Nat} {v1 : Int} {q : Int × PH} (e : rec 2 h v0 v1 = some q) : CN g l yX4_readFactor cX4_readFactor 2 (some .boolean) (rmG N) ad h [.ref (ad v0), .int (Int32.ofInt v1)] (some (.int (Int32.ofInt q.1))) q.2 := (H.2.2 h v0 v1 q e).2 ad
theorem RecS_o2 {g : GP} {l : Launch} {N : Nat} {rec : Nat → PH → Nat → Int → Option (Int × PH)} (H : RecS g l N rec) {h : PH} {v0 : Nat} {v1 : Int} {q : Int × PH} (e : rec 2 h v0 v1 = some q) : ∃ fs : List PV, h[v0]? = some (.inr (4, fs)) := (H.2.2 h v0 v1 q e).1
def JX4_readSum_75 (rec : Nat → PH → Nat → Int → Option (Int × PH)) (h : PH) (v0 : Nat) (v1 : Int) (v2 : Int) (v3 : Int) (s0 : Int) (s1 : Nat) : Option ((Int × Int × PH) ⊕ (((PH) ⊕ (Int × PH)))) :=
  (FX4_addStep h s1 s0).bind fun h7 =>
  some (.inl (v2, (v3 + 1), h7))
set_option maxHeartbeats 4000000 in
set_option maxRecDepth 100000 in
theorem BX4_readSum_75 {rec : Nat → PH → Nat → Int → Option (Int × PH)} {N : Nat} (hrec : RecS g l N rec) {h : PH} {v0 : Nat} {v1 : Int} {v2 : Int} {v3 : Int} {s0 : Int} {s1 : Nat} (hC : Cx g p s m args meth c cX4_readSum 5 RX4 (some .boolean)) (hR : Rl g ad h s.heap H locs) (hl : lv_has ls 5 [(0, .ref (ad v0)), (1, .int (Int32.ofInt v1)), (2, .int (Int32.ofInt v2)), (3, .int (Int32.ofInt v3))]) {Q : State → Prop} {o : (Int × Int × PH) ⊕ (((PH) ⊕ (Int × PH)))} (hF : JX4_readSum_75 rec h v0 v1 v2 v3 s0 s1 = some o) (hK : Sum.elim (fun st : Int × Int × PH => ∀ (H : Heap) (locs : List Loc) (ls : Array Slot), Rl g ad st.2.2 s.heap H locs → lv_has ls 5 [(0, .ref (ad v0)), (1, .int (Int32.ofInt v1)), (2, .int (Int32.ofInt st.1)), (3, .int (Int32.ofInt st.2.1))] → W p l e (rmG (N + 1)) s m args below meth c H locs 0 0 Q (F0 m 8 ls [])) (Sum.elim (fun ex : PH => ∀ (H : Heap) (locs : List Loc) (ls : Array Slot), Rl g ad ex s.heap H locs → lv_has ls 5 [] → W p l e (rmG (N + 1)) s m args below meth c H locs 0 0 Q (F0 m 47 ls [])) (fun ex : Int × PH => ∀ (H : Heap) (locs : List Loc) (ls : Array Slot), Rl g ad ex.2 s.heap H locs → lv_has ls 5 [(2, .int (Int32.ofInt ex.1))] → W p l e (rmG (N + 1)) s m args below meth c H locs 0 0 Q (F0 m 84 ls []))) o) : W p l e (rmG (N + 1)) s m args below meth c H locs 0 0 Q (F0 m 75 ls [.int (Int32.ofInt s0), .ref (ad s1)]) := by
  unfold JX4_readSum_75 at hF
  obtain ⟨h7, e7, hF⟩ := bnd hF
  obtain ⟨fs7, ho7⟩ := OX4_addStep e7
  refine pw_cVv (rest := []) hC hR lvX4_38 ho7 (CX4_addStep e7) ⟨rfl, rfl⟩ rfl hl.1 rfl ⟨rg_f (Nat.le_of_ble_eq_true rfl), rg_l (Nat.le_of_ble_eq_true rfl)⟩ (Nat.le_of_ble_eq_true rfl) dX4_readSum_75 ⟨Nat.zero_le _, Nat.zero_le _⟩ (fun H locs hR => ?_)
  refine pw_iinc (lv' := [(3, .int (Int32.ofInt (v3 + 1))), (0, .ref (ad v0)), (1, .int (Int32.ofInt v1)), (2, .int (Int32.ofInt v2))]) hC hl 3 dX4_readSum_78 rfl (by decide) rfl (fun ls hl => ?_)
  refine pw_goto hC 8 dX4_readSum_81 (by decide) ?_
  cases hF
  exact hK _ _ _ hR (lv_sub hl [1, 2, 3, 0] rfl)
def JX4_readSum_49 (rec : Nat → PH → Nat → Int → Option (Int × PH)) (h : PH) (v0 : Nat) (v1 : Int) (v3 : Int) (v4 : Int) : Option ((Int × Int × PH) ⊕ (((PH) ⊕ (Int × PH)))) :=
  (gfr h 4 v0 0).bind fun x4 =>
  (FX5_advance h x4).bind fun h5 =>
  (rec 1 h5 v0 v1).bind fun q6 =>
  if w32 v4 = 0 then (
    JX4_readSum_75 rec q6.2 v0 v1 q6.1 v3 (-6) v0
  ) else (
    JX4_readSum_75 rec q6.2 v0 v1 q6.1 v3 (-5) v0
  )
set_option maxHeartbeats 4000000 in
set_option maxRecDepth 100000 in
theorem BX4_readSum_49 {rec : Nat → PH → Nat → Int → Option (Int × PH)} {N : Nat} (hrec : RecS g l N rec) {h : PH} {v0 : Nat} {v1 : Int} {v3 : Int} {v4 : Int} (hC : Cx g p s m args meth c cX4_readSum 5 RX4 (some .boolean)) (hR : Rl g ad h s.heap H locs) (hl : lv_has ls 5 [(0, .ref (ad v0)), (1, .int (Int32.ofInt v1)), (3, .int (Int32.ofInt v3)), (4, .int (Int32.ofInt v4))]) {Q : State → Prop} {o : (Int × Int × PH) ⊕ (((PH) ⊕ (Int × PH)))} (hF : JX4_readSum_49 rec h v0 v1 v3 v4 = some o) (hK : Sum.elim (fun st : Int × Int × PH => ∀ (H : Heap) (locs : List Loc) (ls : Array Slot), Rl g ad st.2.2 s.heap H locs → lv_has ls 5 [(0, .ref (ad v0)), (1, .int (Int32.ofInt v1)), (2, .int (Int32.ofInt st.1)), (3, .int (Int32.ofInt st.2.1))] → W p l e (rmG (N + 1)) s m args below meth c H locs 0 0 Q (F0 m 8 ls [])) (Sum.elim (fun ex : PH => ∀ (H : Heap) (locs : List Loc) (ls : Array Slot), Rl g ad ex s.heap H locs → lv_has ls 5 [] → W p l e (rmG (N + 1)) s m args below meth c H locs 0 0 Q (F0 m 47 ls [])) (fun ex : Int × PH => ∀ (H : Heap) (locs : List Loc) (ls : Array Slot), Rl g ad ex.2 s.heap H locs → lv_has ls 5 [(2, .int (Int32.ofInt ex.1))] → W p l e (rmG (N + 1)) s m args below meth c H locs 0 0 Q (F0 m 84 ls []))) o) : W p l e (rmG (N + 1)) s m args below meth c H locs 0 0 Q (F0 m 49 ls []) := by
  unfold JX4_readSum_49 at hF
  refine lv_aload_n hC.1 hC.2.1 dX4_readSum_49 rfl (lv_at hl 0 rfl) ?_
  obtain ⟨x4, e4, hF⟩ := bnd hF
  refine pw_gfr hC hR e4 flX4_12 dX4_readSum_50 ?_
  obtain ⟨h5, e5, hF⟩ := bnd hF
  obtain ⟨fs5, ho5⟩ := OX5_advance e5
  refine pw_cVv (rest := []) hC hR lvX4_84 ho5 (CX5_advance e5) ⟨rfl, rfl⟩ rfl hl.1 rfl ⟨rg_f (Nat.le_of_ble_eq_true rfl), rg_l (Nat.le_of_ble_eq_true rfl)⟩ (Nat.le_of_ble_eq_true rfl) dX4_readSum_53 ⟨Nat.zero_le _, Nat.zero_le _⟩ (fun H locs hR => ?_)
  refine lv_aload_n hC.1 hC.2.1 dX4_readSum_56 rfl (lv_at hl 0 rfl) ?_
  refine lv_iload_n hC.1 hC.2.1 dX4_readSum_57 rfl (lv_at hl 1 rfl) ?_
  obtain ⟨q6, e6, hF⟩ := bnd hF
  obtain ⟨fs6, ho6⟩ := RecS_o1 hrec e6
  refine pw_cVi (rest := []) hC hR lvX4_154 ho6 (RecS_c1 hrec e6) ⟨rfl, rfl⟩ rfl hl.1 rfl (rg_s (by decide)) (Nat.le_of_ble_eq_true rfl) dX4_readSum_58 ⟨Nat.zero_le _, Nat.zero_le _⟩ (fun H locs hR => ?_)
  refine lv_istore_n (lv' := [(2, .int (Int32.ofInt q6.1)), (0, .ref (ad v0)), (1, .int (Int32.ofInt v1)), (3, .int (Int32.ofInt v3)), (4, .int (Int32.ofInt v4))]) hC.1 hC.2.1 dX4_readSum_61 rfl hl (by decide) rfl (fun ls hl => ?_)
  refine lv_aload_n hC.1 hC.2.1 dX4_readSum_62 rfl (lv_at hl 1 rfl) ?_
  refine lv_iload hC.1 hC.2.1 dX4_readSum_63 (lv_at hl 4 rfl) ?_
  refine pw_ifeq hC 73 dX4_readSum_65 (by decide) (fun hc => ?_) (fun hc => ?_)
  · rw [if_pos hc] at hF
    refine pw_bipush hC dX4_readSum_73 rfl ?_
    exact BX4_readSum_75 hrec hC hR (lv_sub hl [1, 2, 0, 3] rfl) hF hK
  · rw [if_neg hc] at hF
    refine pw_bipush hC dX4_readSum_68 rfl ?_
    refine pw_goto hC 75 dX4_readSum_70 (by decide) ?_
    exact BX4_readSum_75 hrec hC hR (lv_sub hl [1, 2, 0, 3] rfl) hF hK
def LX4_readSum_8 (rec : Nat → PH → Nat → Int → Option (Int × PH)) (v0 : Nat) (v1 : Int) (v2 : Int) (v3 : Int) (h : PH) : Option ((Int × Int × PH) ⊕ (((PH) ⊕ (Int × PH)))) :=
  if w32 v3 < w32 900 then (
    if w32 v2 = 0 then (
      some (.inr (.inr (v2, h)))
    ) else (
      (gfr h 4 v0 0).bind fun x2 =>
      (FX5_isMark h x2 43).bind fun x3 =>
      if w32 x3 = 0 then (
        (gfr h 4 v0 0).bind fun x8 =>
        (FX5_isMark h x8 45).bind fun x9 =>
        if w32 x9 = 0 then (
          some (.inr (.inl h))
        ) else (
          JX4_readSum_49 rec h v0 v1 v3 x3
        )
      ) else (
        JX4_readSum_49 rec h v0 v1 v3 x3
      )
    )
  ) else (
    some (.inr (.inr (v2, h)))
  )
set_option maxHeartbeats 4000000 in
set_option maxRecDepth 100000 in
theorem LRX4_readSum_8 {rec : Nat → PH → Nat → Int → Option (Int × PH)} {N : Nat} (hrec : RecS g l N rec) {v0 : Nat} {v1 : Int} {Q : State → Prop} (hC : Cx g p s m args meth c cX4_readSum 5 RX4 (some .boolean)) : ∀ (n : Nat) (st : Int × Int × PH) (ex : ((PH) ⊕ (Int × PH))), lp (fun st : Int × Int × PH => LX4_readSum_8 rec v0 v1 st.1 st.2.1 st.2.2) n st = some ex → (Sum.elim (fun ex : PH => ∀ (H : Heap) (locs : List Loc) (ls : Array Slot), Rl g ad ex s.heap H locs → lv_has ls 5 [] → W p l e (rmG (N + 1)) s m args below meth c H locs 0 0 Q (F0 m 47 ls [])) (fun ex : Int × PH => ∀ (H : Heap) (locs : List Loc) (ls : Array Slot), Rl g ad ex.2 s.heap H locs → lv_has ls 5 [(2, .int (Int32.ofInt ex.1))] → W p l e (rmG (N + 1)) s m args below meth c H locs 0 0 Q (F0 m 84 ls []))) ex → ∀ (H : Heap) (locs : List Loc) (ls : Array Slot), Rl g ad st.2.2 s.heap H locs → lv_has ls 5 [(0, .ref (ad v0)), (1, .int (Int32.ofInt v1)), (2, .int (Int32.ofInt st.1)), (3, .int (Int32.ofInt st.2.1))] → W p l e (rmG (N + 1)) s m args below meth c H locs 0 0 Q (F0 m 8 ls []) := by
  refine lp_rule (Ph := (fun st : Int × Int × PH => ∀ (H : Heap) (locs : List Loc) (ls : Array Slot), Rl g ad st.2.2 s.heap H locs → lv_has ls 5 [(0, .ref (ad v0)), (1, .int (Int32.ofInt v1)), (2, .int (Int32.ofInt st.1)), (3, .int (Int32.ofInt st.2.1))] → W p l e (rmG (N + 1)) s m args below meth c H locs 0 0 Q (F0 m 8 ls []))) (Px := (Sum.elim (fun ex : PH => ∀ (H : Heap) (locs : List Loc) (ls : Array Slot), Rl g ad ex s.heap H locs → lv_has ls 5 [] → W p l e (rmG (N + 1)) s m args below meth c H locs 0 0 Q (F0 m 47 ls [])) (fun ex : Int × PH => ∀ (H : Heap) (locs : List Loc) (ls : Array Slot), Rl g ad ex.2 s.heap H locs → lv_has ls 5 [(2, .int (Int32.ofInt ex.1))] → W p l e (rmG (N + 1)) s m args below meth c H locs 0 0 Q (F0 m 84 ls [])))) ?_
  rintro ⟨v2, v3, h⟩ o hF hK H locs ls hR hl
  have hR : Rl g ad h s.heap H locs := hR
  have hl : lv_has ls 5 [(0, .ref (ad v0)), (1, .int (Int32.ofInt v1)), (2, .int (Int32.ofInt v2)), (3, .int (Int32.ofInt v3))] := hl
  have hF : LX4_readSum_8 rec v0 v1 v2 v3 h = some o := hF
  unfold LX4_readSum_8 at hF
  refine lv_iload_n hC.1 hC.2.1 dX4_readSum_8 rfl (lv_at hl 3 rfl) ?_
  refine pw_sipush hC dX4_readSum_9 rfl ?_
  refine pw_icmpge hC 84 dX4_readSum_12 (by decide) (fun hc => ?_) (fun hc => ?_)
  · rw [if_neg hc] at hF
    cases hF
    exact hK _ _ _ hR (lv_sub hl [2] rfl)
  · rw [if_pos hc] at hF
    refine lv_iload_n hC.1 hC.2.1 dX4_readSum_15 rfl (lv_at hl 2 rfl) ?_
    refine pw_ifeq hC 84 dX4_readSum_16 (by decide) (fun hc => ?_) (fun hc => ?_)
    · rw [if_pos hc] at hF
      cases hF
      exact hK _ _ _ hR (lv_sub hl [2] rfl)
    · rw [if_neg hc] at hF
      refine lv_aload_n hC.1 hC.2.1 dX4_readSum_19 rfl (lv_at hl 0 rfl) ?_
      obtain ⟨x2, e2, hF⟩ := bnd hF
      refine pw_gfr hC hR e2 flX4_12 dX4_readSum_20 ?_
      refine pw_bipush hC dX4_readSum_23 rfl ?_
      obtain ⟨x3, e3, hF⟩ := bnd hF
      obtain ⟨fs3, ho3⟩ := OX5_isMark e3
      refine pw_cVi (rest := []) hC hR lvX4_157 ho3 (CX5_isMark e3) ⟨rfl, rfl⟩ rfl hl.1 rfl ⟨rg_f (Nat.le_of_ble_eq_true rfl), rg_l (Nat.le_of_ble_eq_true rfl)⟩ (Nat.le_of_ble_eq_true rfl) dX4_readSum_25 ⟨Nat.zero_le _, Nat.zero_le _⟩ (fun H locs hR => ?_)
      refine lv_istore (lv' := [(4, .int (Int32.ofInt x3)), (0, .ref (ad v0)), (1, .int (Int32.ofInt v1)), (2, .int (Int32.ofInt v2)), (3, .int (Int32.ofInt v3))]) hC.1 hC.2.1 dX4_readSum_28 hl (by decide) rfl (fun ls hl => ?_)
      refine lv_iload hC.1 hC.2.1 dX4_readSum_30 (lv_at hl 0 rfl) ?_
      refine pw_ifne hC 49 dX4_readSum_32 (by decide) (fun hc => ?_) (fun hc => ?_)
      · rw [if_neg hc] at hF
        exact BX4_readSum_49 hrec hC hR (lv_sub hl [1, 2, 4, 0] rfl) hF hK
      · rw [if_pos hc] at hF
        refine lv_aload_n hC.1 hC.2.1 dX4_readSum_35 rfl (lv_at hl 1 rfl) ?_
        obtain ⟨x8, e8, hF⟩ := bnd hF
        refine pw_gfr hC hR e8 flX4_12 dX4_readSum_36 ?_
        refine pw_bipush hC dX4_readSum_39 rfl ?_
        obtain ⟨x9, e9, hF⟩ := bnd hF
        obtain ⟨fs9, ho9⟩ := OX5_isMark e9
        refine pw_cVi (rest := []) hC hR lvX4_157 ho9 (CX5_isMark e9) ⟨rfl, rfl⟩ rfl hl.1 rfl ⟨rg_f (Nat.le_of_ble_eq_true rfl), rg_l (Nat.le_of_ble_eq_true rfl)⟩ (Nat.le_of_ble_eq_true rfl) dX4_readSum_41 ⟨Nat.zero_le _, Nat.zero_le _⟩ (fun H locs hR => ?_)
        refine pw_ifne hC 49 dX4_readSum_44 (by decide) (fun hc => ?_) (fun hc => ?_)
        · rw [if_neg hc] at hF
          exact BX4_readSum_49 hrec hC hR (lv_sub hl [1, 2, 4, 0] rfl) hF hK
        · rw [if_pos hc] at hF
          cases hF
          exact hK _ _ _ hR (lv_sub hl [] rfl)
def JX4_readSum_84 (rec : Nat → PH → Nat → Int → Option (Int × PH)) (h : PH) (v2 : Int) : Option (Int × PH) :=
  if v2 = 0 ∨ v2 = 1 then some (v2, h) else none
set_option maxHeartbeats 4000000 in
set_option maxRecDepth 100000 in
theorem BX4_readSum_84 {rec : Nat → PH → Nat → Int → Option (Int × PH)} {N : Nat} (hrec : RecS g l N rec) {h : PH} {v2 : Int} (hC : Cx g p s m args meth c cX4_readSum 5 RX4 (some .boolean)) (hR : Rl g ad h s.heap H locs) (hl : lv_has ls 5 [(2, .int (Int32.ofInt v2))]) {q : Int × PH} (hF : JX4_readSum_84 rec h v2 = some q) : W p l e (rmG (N + 1)) s m args below meth c H locs 0 0 (MQ below (QcN g ad q.2 (some (.int (Int32.ofInt q.1)))) args s 0 0 (gA g)) (F0 m 84 ls []) := by
  unfold JX4_readSum_84 at hF
  refine lv_iload_n hC.1 hC.2.1 dX4_readSum_84 rfl (lv_at hl 0 rfl) ?_
  by_cases hb11 : v2 = 0 ∨ v2 = 1
  · rw [if_pos hb11] at hF
    cases hF
    exact pw_zret hC hR hb11 dX4_readSum_85
  · rw [if_neg hb11] at hF; cases hF
def FX4_readSum (rec : Nat → PH → Nat → Int → Option (Int × PH)) (h : PH) (v0 : Nat) (v1 : Int) : Option (Int × PH) :=
  (isO h 4 v0).bind fun _ =>
  (rec 1 h v0 v1).bind fun q1 =>
  (lp (fun st : Int × Int × PH => LX4_readSum_8 rec v0 v1 st.1 st.2.1 st.2.2) FU (q1.1, 0, q1.2)).bind fun ex10 =>
  Sum.elim (fun ex10 => (
    some (1, ex10)
  )) (fun ex10 => (
    JX4_readSum_84 rec ex10.2 ex10.1
  )) ex10
theorem OX4_readSum {rec : Nat → PH → Nat → Int → Option (Int × PH)} {h : PH} {v0 : Nat} {v1 : Int} {q : Int × PH} (hF : FX4_readSum rec h v0 v1 = some q) : ∃ fs : List PV, h[v0]? = some (.inr (4, fs)) := by
  unfold FX4_readSum at hF
  obtain ⟨u0, e0, -⟩ := bnd hF
  exact isO_spec e0
set_option maxHeartbeats 4000000 in
set_option maxRecDepth 100000 in
theorem CX4_readSum {rec : Nat → PH → Nat → Int → Option (Int × PH)} {N : Nat} {g : GP} {l : Launch} (hrec : RecS g l N rec) {ad : Nat → Nat} {h : PH} {v0 : Nat} {v1 : Int} {q : Int × PH} (hF : FX4_readSum rec h v0 v1 = some q) : CN g l yX4_readSum cX4_readSum 5 (some .boolean) (rmG (N + 1)) ad h [.ref (ad v0), .int (Int32.ofInt v1)] (some (.int (Int32.ofInt q.1))) q.2 := by
  refine pw_met (by decide) (Nat.le_of_ble_eq_true rfl) ?_
  intro p e s m args below meth c ls hC hN hR hl
  have hl : lv_has ls 5 [(0, .ref (ad v0)), (1, .int (Int32.ofInt v1))] := hl
  unfold FX4_readSum at hF
  obtain ⟨u0, e0, hF⟩ := bnd hF
  refine lv_aload_n hC.1 hC.2.1 dX4_readSum_0 rfl (lv_at hl 0 rfl) ?_
  refine lv_iload_n hC.1 hC.2.1 dX4_readSum_1 rfl (lv_at hl 1 rfl) ?_
  obtain ⟨q1, e1, hF⟩ := bnd hF
  obtain ⟨fs1, ho1⟩ := RecS_o1 hrec e1
  refine pw_cVi (rest := []) hC hR lvX4_154 ho1 (RecS_c1 hrec e1) ⟨rfl, rfl⟩ rfl hl.1 rfl (rg_s (by decide)) (Nat.le_of_ble_eq_true rfl) dX4_readSum_2 ⟨Nat.zero_le _, Nat.zero_le _⟩ (fun H locs hR => ?_)
  refine lv_istore_n (lv' := [(2, .int (Int32.ofInt q1.1)), (0, .ref (ad v0)), (1, .int (Int32.ofInt v1))]) hC.1 hC.2.1 dX4_readSum_5 rfl hl (by decide) rfl (fun ls hl => ?_)
  refine pw_iconst hC dX4_readSum_6 ?_
  refine lv_istore_n (lv' := [(3, .int (Int32.ofInt 0)), (2, .int (Int32.ofInt q1.1)), (0, .ref (ad v0)), (1, .int (Int32.ofInt v1))]) hC.1 hC.2.1 dX4_readSum_7 rfl hl (by decide) rfl (fun ls hl => ?_)
  obtain ⟨ex10, e10, hF⟩ := bnd hF
  refine LRX4_readSum_8 hrec hC FU _ ex10 e10 ?_ _ _ _ hR (lv_sub hl [2, 3, 1, 0] rfl)
  rcases ex10 with ex10 | ex10
  · dsimp only [Sum.elim_inl, Sum.elim_inr] at hF
    intro H locs ls hR hl
    refine pw_iconst hC dX4_readSum_47 ?_
    cases hF
    exact pw_zret hC hR (Or.inr rfl) dX4_readSum_48
  · dsimp only [Sum.elim_inl, Sum.elim_inr] at hF
    intro H locs ls hR hl
    exact BX4_readSum_84 hrec hC hR (lv_sub hl [0] rfl) hF
def JX4_readTerm_75 (rec : Nat → PH → Nat → Int → Option (Int × PH)) (h : PH) (v0 : Nat) (v1 : Int) (v2 : Int) (v3 : Int) (s0 : Int) (s1 : Nat) : Option ((Int × Int × PH) ⊕ (((PH) ⊕ (Int × PH)))) :=
  (FX4_addStep h s1 s0).bind fun h7 =>
  some (.inl (v2, (v3 + 1), h7))
set_option maxHeartbeats 4000000 in
set_option maxRecDepth 100000 in
theorem BX4_readTerm_75 {rec : Nat → PH → Nat → Int → Option (Int × PH)} {N : Nat} (hrec : RecS g l N rec) {h : PH} {v0 : Nat} {v1 : Int} {v2 : Int} {v3 : Int} {s0 : Int} {s1 : Nat} (hC : Cx g p s m args meth c cX4_readTerm 5 RX4 (some .boolean)) (hR : Rl g ad h s.heap H locs) (hl : lv_has ls 5 [(0, .ref (ad v0)), (1, .int (Int32.ofInt v1)), (2, .int (Int32.ofInt v2)), (3, .int (Int32.ofInt v3))]) {Q : State → Prop} {o : (Int × Int × PH) ⊕ (((PH) ⊕ (Int × PH)))} (hF : JX4_readTerm_75 rec h v0 v1 v2 v3 s0 s1 = some o) (hK : Sum.elim (fun st : Int × Int × PH => ∀ (H : Heap) (locs : List Loc) (ls : Array Slot), Rl g ad st.2.2 s.heap H locs → lv_has ls 5 [(0, .ref (ad v0)), (1, .int (Int32.ofInt v1)), (2, .int (Int32.ofInt st.1)), (3, .int (Int32.ofInt st.2.1))] → W p l e (rmG (N + 1)) s m args below meth c H locs 0 0 Q (F0 m 8 ls [])) (Sum.elim (fun ex : PH => ∀ (H : Heap) (locs : List Loc) (ls : Array Slot), Rl g ad ex s.heap H locs → lv_has ls 5 [] → W p l e (rmG (N + 1)) s m args below meth c H locs 0 0 Q (F0 m 47 ls [])) (fun ex : Int × PH => ∀ (H : Heap) (locs : List Loc) (ls : Array Slot), Rl g ad ex.2 s.heap H locs → lv_has ls 5 [(2, .int (Int32.ofInt ex.1))] → W p l e (rmG (N + 1)) s m args below meth c H locs 0 0 Q (F0 m 84 ls []))) o) : W p l e (rmG (N + 1)) s m args below meth c H locs 0 0 Q (F0 m 75 ls [.int (Int32.ofInt s0), .ref (ad s1)]) := by
  unfold JX4_readTerm_75 at hF
  obtain ⟨h7, e7, hF⟩ := bnd hF
  obtain ⟨fs7, ho7⟩ := OX4_addStep e7
  refine pw_cVv (rest := []) hC hR lvX4_38 ho7 (CX4_addStep e7) ⟨rfl, rfl⟩ rfl hl.1 rfl ⟨rg_f (Nat.le_of_ble_eq_true rfl), rg_l (Nat.le_of_ble_eq_true rfl)⟩ (Nat.le_of_ble_eq_true rfl) dX4_readTerm_75 ⟨Nat.zero_le _, Nat.zero_le _⟩ (fun H locs hR => ?_)
  refine pw_iinc (lv' := [(3, .int (Int32.ofInt (v3 + 1))), (0, .ref (ad v0)), (1, .int (Int32.ofInt v1)), (2, .int (Int32.ofInt v2))]) hC hl 3 dX4_readTerm_78 rfl (by decide) rfl (fun ls hl => ?_)
  refine pw_goto hC 8 dX4_readTerm_81 (by decide) ?_
  cases hF
  exact hK _ _ _ hR (lv_sub hl [1, 2, 3, 0] rfl)
def JX4_readTerm_49 (rec : Nat → PH → Nat → Int → Option (Int × PH)) (h : PH) (v0 : Nat) (v1 : Int) (v3 : Int) (v4 : Int) : Option ((Int × Int × PH) ⊕ (((PH) ⊕ (Int × PH)))) :=
  (gfr h 4 v0 0).bind fun x4 =>
  (FX5_advance h x4).bind fun h5 =>
  (rec 2 h5 v0 v1).bind fun q6 =>
  if w32 v4 = 0 then (
    JX4_readTerm_75 rec q6.2 v0 v1 q6.1 v3 (-8) v0
  ) else (
    JX4_readTerm_75 rec q6.2 v0 v1 q6.1 v3 (-7) v0
  )
set_option maxHeartbeats 4000000 in
set_option maxRecDepth 100000 in
theorem BX4_readTerm_49 {rec : Nat → PH → Nat → Int → Option (Int × PH)} {N : Nat} (hrec : RecS g l N rec) {h : PH} {v0 : Nat} {v1 : Int} {v3 : Int} {v4 : Int} (hC : Cx g p s m args meth c cX4_readTerm 5 RX4 (some .boolean)) (hR : Rl g ad h s.heap H locs) (hl : lv_has ls 5 [(0, .ref (ad v0)), (1, .int (Int32.ofInt v1)), (3, .int (Int32.ofInt v3)), (4, .int (Int32.ofInt v4))]) {Q : State → Prop} {o : (Int × Int × PH) ⊕ (((PH) ⊕ (Int × PH)))} (hF : JX4_readTerm_49 rec h v0 v1 v3 v4 = some o) (hK : Sum.elim (fun st : Int × Int × PH => ∀ (H : Heap) (locs : List Loc) (ls : Array Slot), Rl g ad st.2.2 s.heap H locs → lv_has ls 5 [(0, .ref (ad v0)), (1, .int (Int32.ofInt v1)), (2, .int (Int32.ofInt st.1)), (3, .int (Int32.ofInt st.2.1))] → W p l e (rmG (N + 1)) s m args below meth c H locs 0 0 Q (F0 m 8 ls [])) (Sum.elim (fun ex : PH => ∀ (H : Heap) (locs : List Loc) (ls : Array Slot), Rl g ad ex s.heap H locs → lv_has ls 5 [] → W p l e (rmG (N + 1)) s m args below meth c H locs 0 0 Q (F0 m 47 ls [])) (fun ex : Int × PH => ∀ (H : Heap) (locs : List Loc) (ls : Array Slot), Rl g ad ex.2 s.heap H locs → lv_has ls 5 [(2, .int (Int32.ofInt ex.1))] → W p l e (rmG (N + 1)) s m args below meth c H locs 0 0 Q (F0 m 84 ls []))) o) : W p l e (rmG (N + 1)) s m args below meth c H locs 0 0 Q (F0 m 49 ls []) := by
  unfold JX4_readTerm_49 at hF
  refine lv_aload_n hC.1 hC.2.1 dX4_readTerm_49 rfl (lv_at hl 0 rfl) ?_
  obtain ⟨x4, e4, hF⟩ := bnd hF
  refine pw_gfr hC hR e4 flX4_12 dX4_readTerm_50 ?_
  obtain ⟨h5, e5, hF⟩ := bnd hF
  obtain ⟨fs5, ho5⟩ := OX5_advance e5
  refine pw_cVv (rest := []) hC hR lvX4_84 ho5 (CX5_advance e5) ⟨rfl, rfl⟩ rfl hl.1 rfl ⟨rg_f (Nat.le_of_ble_eq_true rfl), rg_l (Nat.le_of_ble_eq_true rfl)⟩ (Nat.le_of_ble_eq_true rfl) dX4_readTerm_53 ⟨Nat.zero_le _, Nat.zero_le _⟩ (fun H locs hR => ?_)
  refine lv_aload_n hC.1 hC.2.1 dX4_readTerm_56 rfl (lv_at hl 0 rfl) ?_
  refine lv_iload_n hC.1 hC.2.1 dX4_readTerm_57 rfl (lv_at hl 1 rfl) ?_
  obtain ⟨q6, e6, hF⟩ := bnd hF
  obtain ⟨fs6, ho6⟩ := RecS_o2 hrec e6
  refine pw_cVi (rest := []) hC hR lvX4_160 ho6 (RecS_c2 hrec e6) ⟨rfl, rfl⟩ rfl hl.1 rfl (rg_s (by decide)) (Nat.le_of_ble_eq_true rfl) dX4_readTerm_58 ⟨Nat.zero_le _, Nat.zero_le _⟩ (fun H locs hR => ?_)
  refine lv_istore_n (lv' := [(2, .int (Int32.ofInt q6.1)), (0, .ref (ad v0)), (1, .int (Int32.ofInt v1)), (3, .int (Int32.ofInt v3)), (4, .int (Int32.ofInt v4))]) hC.1 hC.2.1 dX4_readTerm_61 rfl hl (by decide) rfl (fun ls hl => ?_)
  refine lv_aload_n hC.1 hC.2.1 dX4_readTerm_62 rfl (lv_at hl 1 rfl) ?_
  refine lv_iload hC.1 hC.2.1 dX4_readTerm_63 (lv_at hl 4 rfl) ?_
  refine pw_ifeq hC 73 dX4_readTerm_65 (by decide) (fun hc => ?_) (fun hc => ?_)
  · rw [if_pos hc] at hF
    refine pw_bipush hC dX4_readTerm_73 rfl ?_
    exact BX4_readTerm_75 hrec hC hR (lv_sub hl [1, 2, 0, 3] rfl) hF hK
  · rw [if_neg hc] at hF
    refine pw_bipush hC dX4_readTerm_68 rfl ?_
    refine pw_goto hC 75 dX4_readTerm_70 (by decide) ?_
    exact BX4_readTerm_75 hrec hC hR (lv_sub hl [1, 2, 0, 3] rfl) hF hK
def LX4_readTerm_8 (rec : Nat → PH → Nat → Int → Option (Int × PH)) (v0 : Nat) (v1 : Int) (v2 : Int) (v3 : Int) (h : PH) : Option ((Int × Int × PH) ⊕ (((PH) ⊕ (Int × PH)))) :=
  if w32 v3 < w32 900 then (
    if w32 v2 = 0 then (
      some (.inr (.inr (v2, h)))
    ) else (
      (gfr h 4 v0 0).bind fun x2 =>
      (FX5_isMark h x2 42).bind fun x3 =>
      if w32 x3 = 0 then (
        (gfr h 4 v0 0).bind fun x8 =>
        (FX5_isMark h x8 47).bind fun x9 =>
        if w32 x9 = 0 then (
          some (.inr (.inl h))
        ) else (
          JX4_readTerm_49 rec h v0 v1 v3 x3
        )
      ) else (
        JX4_readTerm_49 rec h v0 v1 v3 x3
      )
    )
  ) else (
    some (.inr (.inr (v2, h)))
  )
set_option maxHeartbeats 4000000 in
set_option maxRecDepth 100000 in
theorem LRX4_readTerm_8 {rec : Nat → PH → Nat → Int → Option (Int × PH)} {N : Nat} (hrec : RecS g l N rec) {v0 : Nat} {v1 : Int} {Q : State → Prop} (hC : Cx g p s m args meth c cX4_readTerm 5 RX4 (some .boolean)) : ∀ (n : Nat) (st : Int × Int × PH) (ex : ((PH) ⊕ (Int × PH))), lp (fun st : Int × Int × PH => LX4_readTerm_8 rec v0 v1 st.1 st.2.1 st.2.2) n st = some ex → (Sum.elim (fun ex : PH => ∀ (H : Heap) (locs : List Loc) (ls : Array Slot), Rl g ad ex s.heap H locs → lv_has ls 5 [] → W p l e (rmG (N + 1)) s m args below meth c H locs 0 0 Q (F0 m 47 ls [])) (fun ex : Int × PH => ∀ (H : Heap) (locs : List Loc) (ls : Array Slot), Rl g ad ex.2 s.heap H locs → lv_has ls 5 [(2, .int (Int32.ofInt ex.1))] → W p l e (rmG (N + 1)) s m args below meth c H locs 0 0 Q (F0 m 84 ls []))) ex → ∀ (H : Heap) (locs : List Loc) (ls : Array Slot), Rl g ad st.2.2 s.heap H locs → lv_has ls 5 [(0, .ref (ad v0)), (1, .int (Int32.ofInt v1)), (2, .int (Int32.ofInt st.1)), (3, .int (Int32.ofInt st.2.1))] → W p l e (rmG (N + 1)) s m args below meth c H locs 0 0 Q (F0 m 8 ls []) := by
  refine lp_rule (Ph := (fun st : Int × Int × PH => ∀ (H : Heap) (locs : List Loc) (ls : Array Slot), Rl g ad st.2.2 s.heap H locs → lv_has ls 5 [(0, .ref (ad v0)), (1, .int (Int32.ofInt v1)), (2, .int (Int32.ofInt st.1)), (3, .int (Int32.ofInt st.2.1))] → W p l e (rmG (N + 1)) s m args below meth c H locs 0 0 Q (F0 m 8 ls []))) (Px := (Sum.elim (fun ex : PH => ∀ (H : Heap) (locs : List Loc) (ls : Array Slot), Rl g ad ex s.heap H locs → lv_has ls 5 [] → W p l e (rmG (N + 1)) s m args below meth c H locs 0 0 Q (F0 m 47 ls [])) (fun ex : Int × PH => ∀ (H : Heap) (locs : List Loc) (ls : Array Slot), Rl g ad ex.2 s.heap H locs → lv_has ls 5 [(2, .int (Int32.ofInt ex.1))] → W p l e (rmG (N + 1)) s m args below meth c H locs 0 0 Q (F0 m 84 ls [])))) ?_
  rintro ⟨v2, v3, h⟩ o hF hK H locs ls hR hl
  have hR : Rl g ad h s.heap H locs := hR
  have hl : lv_has ls 5 [(0, .ref (ad v0)), (1, .int (Int32.ofInt v1)), (2, .int (Int32.ofInt v2)), (3, .int (Int32.ofInt v3))] := hl
  have hF : LX4_readTerm_8 rec v0 v1 v2 v3 h = some o := hF
  unfold LX4_readTerm_8 at hF
  refine lv_iload_n hC.1 hC.2.1 dX4_readTerm_8 rfl (lv_at hl 3 rfl) ?_
  refine pw_sipush hC dX4_readTerm_9 rfl ?_
  refine pw_icmpge hC 84 dX4_readTerm_12 (by decide) (fun hc => ?_) (fun hc => ?_)
  · rw [if_neg hc] at hF
    cases hF
    exact hK _ _ _ hR (lv_sub hl [2] rfl)
  · rw [if_pos hc] at hF
    refine lv_iload_n hC.1 hC.2.1 dX4_readTerm_15 rfl (lv_at hl 2 rfl) ?_
    refine pw_ifeq hC 84 dX4_readTerm_16 (by decide) (fun hc => ?_) (fun hc => ?_)
    · rw [if_pos hc] at hF
      cases hF
      exact hK _ _ _ hR (lv_sub hl [2] rfl)
    · rw [if_neg hc] at hF
      refine lv_aload_n hC.1 hC.2.1 dX4_readTerm_19 rfl (lv_at hl 0 rfl) ?_
      obtain ⟨x2, e2, hF⟩ := bnd hF
      refine pw_gfr hC hR e2 flX4_12 dX4_readTerm_20 ?_
      refine pw_bipush hC dX4_readTerm_23 rfl ?_
      obtain ⟨x3, e3, hF⟩ := bnd hF
      obtain ⟨fs3, ho3⟩ := OX5_isMark e3
      refine pw_cVi (rest := []) hC hR lvX4_157 ho3 (CX5_isMark e3) ⟨rfl, rfl⟩ rfl hl.1 rfl ⟨rg_f (Nat.le_of_ble_eq_true rfl), rg_l (Nat.le_of_ble_eq_true rfl)⟩ (Nat.le_of_ble_eq_true rfl) dX4_readTerm_25 ⟨Nat.zero_le _, Nat.zero_le _⟩ (fun H locs hR => ?_)
      refine lv_istore (lv' := [(4, .int (Int32.ofInt x3)), (0, .ref (ad v0)), (1, .int (Int32.ofInt v1)), (2, .int (Int32.ofInt v2)), (3, .int (Int32.ofInt v3))]) hC.1 hC.2.1 dX4_readTerm_28 hl (by decide) rfl (fun ls hl => ?_)
      refine lv_iload hC.1 hC.2.1 dX4_readTerm_30 (lv_at hl 0 rfl) ?_
      refine pw_ifne hC 49 dX4_readTerm_32 (by decide) (fun hc => ?_) (fun hc => ?_)
      · rw [if_neg hc] at hF
        exact BX4_readTerm_49 hrec hC hR (lv_sub hl [1, 2, 4, 0] rfl) hF hK
      · rw [if_pos hc] at hF
        refine lv_aload_n hC.1 hC.2.1 dX4_readTerm_35 rfl (lv_at hl 1 rfl) ?_
        obtain ⟨x8, e8, hF⟩ := bnd hF
        refine pw_gfr hC hR e8 flX4_12 dX4_readTerm_36 ?_
        refine pw_bipush hC dX4_readTerm_39 rfl ?_
        obtain ⟨x9, e9, hF⟩ := bnd hF
        obtain ⟨fs9, ho9⟩ := OX5_isMark e9
        refine pw_cVi (rest := []) hC hR lvX4_157 ho9 (CX5_isMark e9) ⟨rfl, rfl⟩ rfl hl.1 rfl ⟨rg_f (Nat.le_of_ble_eq_true rfl), rg_l (Nat.le_of_ble_eq_true rfl)⟩ (Nat.le_of_ble_eq_true rfl) dX4_readTerm_41 ⟨Nat.zero_le _, Nat.zero_le _⟩ (fun H locs hR => ?_)
        refine pw_ifne hC 49 dX4_readTerm_44 (by decide) (fun hc => ?_) (fun hc => ?_)
        · rw [if_neg hc] at hF
          exact BX4_readTerm_49 hrec hC hR (lv_sub hl [1, 2, 4, 0] rfl) hF hK
        · rw [if_pos hc] at hF
          cases hF
          exact hK _ _ _ hR (lv_sub hl [] rfl)
def JX4_readTerm_84 (rec : Nat → PH → Nat → Int → Option (Int × PH)) (h : PH) (v2 : Int) : Option (Int × PH) :=
  if v2 = 0 ∨ v2 = 1 then some (v2, h) else none
set_option maxHeartbeats 4000000 in
set_option maxRecDepth 100000 in
theorem BX4_readTerm_84 {rec : Nat → PH → Nat → Int → Option (Int × PH)} {N : Nat} (hrec : RecS g l N rec) {h : PH} {v2 : Int} (hC : Cx g p s m args meth c cX4_readTerm 5 RX4 (some .boolean)) (hR : Rl g ad h s.heap H locs) (hl : lv_has ls 5 [(2, .int (Int32.ofInt v2))]) {q : Int × PH} (hF : JX4_readTerm_84 rec h v2 = some q) : W p l e (rmG (N + 1)) s m args below meth c H locs 0 0 (MQ below (QcN g ad q.2 (some (.int (Int32.ofInt q.1)))) args s 0 0 (gA g)) (F0 m 84 ls []) := by
  unfold JX4_readTerm_84 at hF
  refine lv_iload_n hC.1 hC.2.1 dX4_readTerm_84 rfl (lv_at hl 0 rfl) ?_
  by_cases hb11 : v2 = 0 ∨ v2 = 1
  · rw [if_pos hb11] at hF
    cases hF
    exact pw_zret hC hR hb11 dX4_readTerm_85
  · rw [if_neg hb11] at hF; cases hF
def FX4_readTerm (rec : Nat → PH → Nat → Int → Option (Int × PH)) (h : PH) (v0 : Nat) (v1 : Int) : Option (Int × PH) :=
  (isO h 4 v0).bind fun _ =>
  (rec 2 h v0 v1).bind fun q1 =>
  (lp (fun st : Int × Int × PH => LX4_readTerm_8 rec v0 v1 st.1 st.2.1 st.2.2) FU (q1.1, 0, q1.2)).bind fun ex10 =>
  Sum.elim (fun ex10 => (
    some (1, ex10)
  )) (fun ex10 => (
    JX4_readTerm_84 rec ex10.2 ex10.1
  )) ex10
theorem OX4_readTerm {rec : Nat → PH → Nat → Int → Option (Int × PH)} {h : PH} {v0 : Nat} {v1 : Int} {q : Int × PH} (hF : FX4_readTerm rec h v0 v1 = some q) : ∃ fs : List PV, h[v0]? = some (.inr (4, fs)) := by
  unfold FX4_readTerm at hF
  obtain ⟨u0, e0, -⟩ := bnd hF
  exact isO_spec e0
set_option maxHeartbeats 4000000 in
set_option maxRecDepth 100000 in
theorem CX4_readTerm {rec : Nat → PH → Nat → Int → Option (Int × PH)} {N : Nat} {g : GP} {l : Launch} (hrec : RecS g l N rec) {ad : Nat → Nat} {h : PH} {v0 : Nat} {v1 : Int} {q : Int × PH} (hF : FX4_readTerm rec h v0 v1 = some q) : CN g l yX4_readTerm cX4_readTerm 5 (some .boolean) (rmG (N + 1)) ad h [.ref (ad v0), .int (Int32.ofInt v1)] (some (.int (Int32.ofInt q.1))) q.2 := by
  refine pw_met (by decide) (Nat.le_of_ble_eq_true rfl) ?_
  intro p e s m args below meth c ls hC hN hR hl
  have hl : lv_has ls 5 [(0, .ref (ad v0)), (1, .int (Int32.ofInt v1))] := hl
  unfold FX4_readTerm at hF
  obtain ⟨u0, e0, hF⟩ := bnd hF
  refine lv_aload_n hC.1 hC.2.1 dX4_readTerm_0 rfl (lv_at hl 0 rfl) ?_
  refine lv_iload_n hC.1 hC.2.1 dX4_readTerm_1 rfl (lv_at hl 1 rfl) ?_
  obtain ⟨q1, e1, hF⟩ := bnd hF
  obtain ⟨fs1, ho1⟩ := RecS_o2 hrec e1
  refine pw_cVi (rest := []) hC hR lvX4_160 ho1 (RecS_c2 hrec e1) ⟨rfl, rfl⟩ rfl hl.1 rfl (rg_s (by decide)) (Nat.le_of_ble_eq_true rfl) dX4_readTerm_2 ⟨Nat.zero_le _, Nat.zero_le _⟩ (fun H locs hR => ?_)
  refine lv_istore_n (lv' := [(2, .int (Int32.ofInt q1.1)), (0, .ref (ad v0)), (1, .int (Int32.ofInt v1))]) hC.1 hC.2.1 dX4_readTerm_5 rfl hl (by decide) rfl (fun ls hl => ?_)
  refine pw_iconst hC dX4_readTerm_6 ?_
  refine lv_istore_n (lv' := [(3, .int (Int32.ofInt 0)), (2, .int (Int32.ofInt q1.1)), (0, .ref (ad v0)), (1, .int (Int32.ofInt v1))]) hC.1 hC.2.1 dX4_readTerm_7 rfl hl (by decide) rfl (fun ls hl => ?_)
  obtain ⟨ex10, e10, hF⟩ := bnd hF
  refine LRX4_readTerm_8 hrec hC FU _ ex10 e10 ?_ _ _ _ hR (lv_sub hl [2, 3, 1, 0] rfl)
  rcases ex10 with ex10 | ex10
  · dsimp only [Sum.elim_inl, Sum.elim_inr] at hF
    intro H locs ls hR hl
    refine pw_iconst hC dX4_readTerm_47 ?_
    cases hF
    exact pw_zret hC hR (Or.inr rfl) dX4_readTerm_48
  · dsimp only [Sum.elim_inl, Sum.elim_inr] at hF
    intro H locs ls hR hl
    exact BX4_readTerm_84 hrec hC hR (lv_sub hl [0] rfl) hF
def JX4_readFactor_185 (rec : Nat → PH → Nat → Int → Option (Int × PH)) (h : PH) (v0 : Nat) : Option (Int × PH) :=
  (gfr h 4 v0 0).bind fun x16 =>
  (FX5_advance h x16).bind fun h17 =>
  some (1, h17)
set_option maxHeartbeats 4000000 in
set_option maxRecDepth 100000 in
theorem BX4_readFactor_185 {rec : Nat → PH → Nat → Int → Option (Int × PH)} {N : Nat} (hrec : RecS g l N rec) {h : PH} {v0 : Nat} (hC : Cx g p s m args meth c cX4_readFactor 2 RX4 (some .boolean)) (hR : Rl g ad h s.heap H locs) (hl : lv_has ls 2 [(0, .ref (ad v0))]) {q : Int × PH} (hF : JX4_readFactor_185 rec h v0 = some q) : W p l e (rmG (N + 1)) s m args below meth c H locs 0 0 (MQ below (QcN g ad q.2 (some (.int (Int32.ofInt q.1)))) args s 0 0 (gA g)) (F0 m 185 ls []) := by
  unfold JX4_readFactor_185 at hF
  refine lv_aload_n hC.1 hC.2.1 dX4_readFactor_185 rfl (lv_at hl 0 rfl) ?_
  obtain ⟨x16, e16, hF⟩ := bnd hF
  refine pw_gfr hC hR e16 flX4_12 dX4_readFactor_186 ?_
  obtain ⟨h17, e17, hF⟩ := bnd hF
  obtain ⟨fs17, ho17⟩ := OX5_advance e17
  refine pw_cVv (rest := []) hC hR lvX4_84 ho17 (CX5_advance e17) ⟨rfl, rfl⟩ rfl hl.1 rfl ⟨rg_f (Nat.le_of_ble_eq_true rfl), rg_l (Nat.le_of_ble_eq_true rfl)⟩ (Nat.le_of_ble_eq_true rfl) dX4_readFactor_189 ⟨Nat.zero_le _, Nat.zero_le _⟩ (fun H locs hR => ?_)
  refine pw_iconst hC dX4_readFactor_192 ?_
  cases hF
  exact pw_zret hC hR (Or.inr rfl) dX4_readFactor_193
def JX4_readFactor_94 (rec : Nat → PH → Nat → Int → Option (Int × PH)) (h : PH) (s0 : Int) : Option (Int × PH) :=
  if s0 = 0 ∨ s0 = 1 then some (s0, h) else none
set_option maxHeartbeats 4000000 in
set_option maxRecDepth 100000 in
theorem BX4_readFactor_94 {rec : Nat → PH → Nat → Int → Option (Int × PH)} {N : Nat} (hrec : RecS g l N rec) {h : PH} {s0 : Int} (hC : Cx g p s m args meth c cX4_readFactor 2 RX4 (some .boolean)) (hR : Rl g ad h s.heap H locs) (hl : lv_has ls 2 []) {q : Int × PH} (hF : JX4_readFactor_94 rec h s0 = some q) : W p l e (rmG (N + 1)) s m args below meth c H locs 0 0 (MQ below (QcN g ad q.2 (some (.int (Int32.ofInt q.1)))) args s 0 0 (gA g)) (F0 m 94 ls [.int (Int32.ofInt s0)]) := by
  unfold JX4_readFactor_94 at hF
  by_cases hb24 : s0 = 0 ∨ s0 = 1
  · rw [if_pos hb24] at hF
    cases hF
    exact pw_zret hC hR hb24 dX4_readFactor_94
  · rw [if_neg hb24] at hF; cases hF
def JX4_readFactor_93 (rec : Nat → PH → Nat → Int → Option (Int × PH)) (h : PH) : Option (Int × PH) :=
  JX4_readFactor_94 rec h 0
set_option maxHeartbeats 4000000 in
set_option maxRecDepth 100000 in
theorem BX4_readFactor_93 {rec : Nat → PH → Nat → Int → Option (Int × PH)} {N : Nat} (hrec : RecS g l N rec) {h : PH} (hC : Cx g p s m args meth c cX4_readFactor 2 RX4 (some .boolean)) (hR : Rl g ad h s.heap H locs) (hl : lv_has ls 2 []) {q : Int × PH} (hF : JX4_readFactor_93 rec h  = some q) : W p l e (rmG (N + 1)) s m args below meth c H locs 0 0 (MQ below (QcN g ad q.2 (some (.int (Int32.ofInt q.1)))) args s 0 0 (gA g)) (F0 m 93 ls []) := by
  unfold JX4_readFactor_93 at hF
  refine pw_iconst hC dX4_readFactor_93 ?_
  exact BX4_readFactor_94 hrec hC hR (lv_sub hl [] rfl) hF
def JX4_readFactor_38 (rec : Nat → PH → Nat → Int → Option (Int × PH)) (h : PH) (s0 : Int) : Option (Int × PH) :=
  if s0 = 0 ∨ s0 = 1 then some (s0, h) else none
set_option maxHeartbeats 4000000 in
set_option maxRecDepth 100000 in
theorem BX4_readFactor_38 {rec : Nat → PH → Nat → Int → Option (Int × PH)} {N : Nat} (hrec : RecS g l N rec) {h : PH} {s0 : Int} (hC : Cx g p s m args meth c cX4_readFactor 2 RX4 (some .boolean)) (hR : Rl g ad h s.heap H locs) (hl : lv_has ls 2 []) {q : Int × PH} (hF : JX4_readFactor_38 rec h s0 = some q) : W p l e (rmG (N + 1)) s m args below meth c H locs 0 0 (MQ below (QcN g ad q.2 (some (.int (Int32.ofInt q.1)))) args s 0 0 (gA g)) (F0 m 38 ls [.int (Int32.ofInt s0)]) := by
  unfold JX4_readFactor_38 at hF
  by_cases hb32 : s0 = 0 ∨ s0 = 1
  · rw [if_pos hb32] at hF
    cases hF
    exact pw_zret hC hR hb32 dX4_readFactor_38
  · rw [if_neg hb32] at hF; cases hF
def FX4_readFactor (rec : Nat → PH → Nat → Int → Option (Int × PH)) (h : PH) (v0 : Nat) (v1 : Int) : Option (Int × PH) :=
  (isO h 4 v0).bind fun _ =>
  (gfr h 4 v0 0).bind fun x1 =>
  (gfi h 5 x1 3).bind fun x2 =>
  if w32 x2 = w32 1 then (
    (gfr h 4 v0 0).bind fun x28 =>
    (gfi h 5 x28 6).bind fun x29 =>
    (FX4_addStep h v0 x29).bind fun h30 =>
    (FX4_takeNumber h30 v0 0 9999).bind fun q31 =>
    if w32 q31.1 < 0 then (
      JX4_readFactor_38 rec q31.2 0
    ) else (
      JX4_readFactor_38 rec q31.2 1
    )
  ) else (
    (gfr h 4 v0 0).bind fun x3 =>
    (FX5_isMark h x3 40).bind fun x4 =>
    if w32 x4 = 0 then (
      (gfr h 4 v0 0).bind fun x5 =>
      (FX5_isWord h x5 6).bind fun x6 =>
      if w32 x6 = 0 then (
        (gfr h 4 v0 0).bind fun x7 =>
        (FX5_isWord h x7 7).bind fun x8 =>
        if w32 x8 = 0 then (
          (gfr h 4 v0 0).bind fun x9 =>
          (FX5_isWord h x9 2).bind fun x10 =>
          if w32 x10 = 0 then (
            (gfr h 4 v0 0).bind fun x11 =>
            (FX5_isWord h x11 8).bind fun x12 =>
            if w32 x12 = 0 then (
              (FX4_fail h v0 (-2)).bind fun q13 =>
              if q13.1 = 0 ∨ q13.1 = 1 then some (q13.1, q13.2) else none
            ) else (
              (FX4_addStep h v0 (-4)).bind fun h15 =>
              JX4_readFactor_185 rec h15 v0
            )
          ) else (
            (FX4_addStep h v0 (-3)).bind fun h18 =>
            JX4_readFactor_185 rec h18 v0
          )
        ) else (
          (FX4_addStep h v0 (-2)).bind fun h19 =>
          JX4_readFactor_185 rec h19 v0
        )
      ) else (
        (FX4_addStep h v0 (-1)).bind fun h20 =>
        JX4_readFactor_185 rec h20 v0
      )
    ) else (
      if w32 v1 < w32 4 then (
        (gfr h 4 v0 0).bind fun x21 =>
        (FX5_advance h x21).bind fun h22 =>
        (rec 0 h22 v0 (v1 + 1)).bind fun q23 =>
        if w32 q23.1 = 0 then (
          JX4_readFactor_93 rec q23.2
        ) else (
          (FX4_takeMark q23.2 v0 41).bind fun q25 =>
          if w32 q25.1 = 0 then (
            JX4_readFactor_93 rec q25.2
          ) else (
            JX4_readFactor_94 rec q25.2 1
          )
        )
      ) else (
        (FX4_fail h v0 (-5)).bind fun q26 =>
        if q26.1 = 0 ∨ q26.1 = 1 then some (q26.1, q26.2) else none
      )
    )
  )
theorem OX4_readFactor {rec : Nat → PH → Nat → Int → Option (Int × PH)} {h : PH} {v0 : Nat} {v1 : Int} {q : Int × PH} (hF : FX4_readFactor rec h v0 v1 = some q) : ∃ fs : List PV, h[v0]? = some (.inr (4, fs)) := by
  unfold FX4_readFactor at hF
  obtain ⟨u0, e0, -⟩ := bnd hF
  exact isO_spec e0
set_option maxHeartbeats 4000000 in
set_option maxRecDepth 100000 in
theorem CX4_readFactor {rec : Nat → PH → Nat → Int → Option (Int × PH)} {N : Nat} {g : GP} {l : Launch} (hrec : RecS g l N rec) {ad : Nat → Nat} {h : PH} {v0 : Nat} {v1 : Int} {q : Int × PH} (hF : FX4_readFactor rec h v0 v1 = some q) : CN g l yX4_readFactor cX4_readFactor 2 (some .boolean) (rmG (N + 1)) ad h [.ref (ad v0), .int (Int32.ofInt v1)] (some (.int (Int32.ofInt q.1))) q.2 := by
  refine pw_met (by decide) (Nat.le_of_ble_eq_true rfl) ?_
  intro p e s m args below meth c ls hC hN hR hl
  have hl : lv_has ls 2 [(0, .ref (ad v0)), (1, .int (Int32.ofInt v1))] := hl
  unfold FX4_readFactor at hF
  obtain ⟨u0, e0, hF⟩ := bnd hF
  refine lv_aload_n hC.1 hC.2.1 dX4_readFactor_0 rfl (lv_at hl 0 rfl) ?_
  obtain ⟨x1, e1, hF⟩ := bnd hF
  refine pw_gfr hC hR e1 flX4_12 dX4_readFactor_1 ?_
  obtain ⟨x2, e2, hF⟩ := bnd hF
  refine pw_gfi hC hR e2 flX4_49 dX4_readFactor_4 ?_
  refine pw_iconst hC dX4_readFactor_7 ?_
  refine pw_icmpne hC 39 dX4_readFactor_8 (by decide) (fun hc => ?_) (fun hc => ?_)
  · rw [if_neg hc] at hF
    refine lv_aload_n hC.1 hC.2.1 dX4_readFactor_39 rfl (lv_at hl 0 rfl) ?_
    obtain ⟨x3, e3, hF⟩ := bnd hF
    refine pw_gfr hC hR e3 flX4_12 dX4_readFactor_40 ?_
    refine pw_bipush hC dX4_readFactor_43 rfl ?_
    obtain ⟨x4, e4, hF⟩ := bnd hF
    obtain ⟨fs4, ho4⟩ := OX5_isMark e4
    refine pw_cVi (rest := []) hC hR lvX4_157 ho4 (CX5_isMark e4) ⟨rfl, rfl⟩ rfl hl.1 rfl ⟨rg_f (Nat.le_of_ble_eq_true rfl), rg_l (Nat.le_of_ble_eq_true rfl)⟩ (Nat.le_of_ble_eq_true rfl) dX4_readFactor_45 ⟨Nat.zero_le _, Nat.zero_le _⟩ (fun H locs hR => ?_)
    refine pw_ifeq hC 95 dX4_readFactor_48 (by decide) (fun hc => ?_) (fun hc => ?_)
    · rw [if_pos hc] at hF
      refine lv_aload_n hC.1 hC.2.1 dX4_readFactor_95 rfl (lv_at hl 0 rfl) ?_
      obtain ⟨x5, e5, hF⟩ := bnd hF
      refine pw_gfr hC hR e5 flX4_12 dX4_readFactor_96 ?_
      refine pw_ldcs hC 6 (tx := "duration") (by decide +kernel) dX4_readFactor_99 ?_
      obtain ⟨x6, e6, hF⟩ := bnd hF
      obtain ⟨fs6, ho6⟩ := OX5_isWord e6
      refine pw_cVi (rest := []) hC hR lvX4_76 ho6 (CX5_isWord e6) ⟨rfl, rfl⟩ rfl hl.1 rfl ⟨rg_f (Nat.le_of_ble_eq_true rfl), rg_l (Nat.le_of_ble_eq_true rfl)⟩ (Nat.le_of_ble_eq_true rfl) dX4_readFactor_101 ⟨Nat.zero_le _, Nat.zero_le _⟩ (fun H locs hR => ?_)
      refine pw_ifeq hC 115 dX4_readFactor_104 (by decide) (fun hc => ?_) (fun hc => ?_)
      · rw [if_pos hc] at hF
        refine lv_aload_n hC.1 hC.2.1 dX4_readFactor_115 rfl (lv_at hl 0 rfl) ?_
        obtain ⟨x7, e7, hF⟩ := bnd hF
        refine pw_gfr hC hR e7 flX4_12 dX4_readFactor_116 ?_
        refine pw_ldcs hC 7 (tx := "priority") (by decide +kernel) dX4_readFactor_119 ?_
        obtain ⟨x8, e8, hF⟩ := bnd hF
        obtain ⟨fs8, ho8⟩ := OX5_isWord e8
        refine pw_cVi (rest := []) hC hR lvX4_76 ho8 (CX5_isWord e8) ⟨rfl, rfl⟩ rfl hl.1 rfl ⟨rg_f (Nat.le_of_ble_eq_true rfl), rg_l (Nat.le_of_ble_eq_true rfl)⟩ (Nat.le_of_ble_eq_true rfl) dX4_readFactor_121 ⟨Nat.zero_le _, Nat.zero_le _⟩ (fun H locs hR => ?_)
        refine pw_ifeq hC 136 dX4_readFactor_124 (by decide) (fun hc => ?_) (fun hc => ?_)
        · rw [if_pos hc] at hF
          refine lv_aload_n hC.1 hC.2.1 dX4_readFactor_136 rfl (lv_at hl 0 rfl) ?_
          obtain ⟨x9, e9, hF⟩ := bnd hF
          refine pw_gfr hC hR e9 flX4_12 dX4_readFactor_137 ?_
          refine pw_ldcs hC 2 (tx := "core") (by decide +kernel) dX4_readFactor_140 ?_
          obtain ⟨x10, e10, hF⟩ := bnd hF
          obtain ⟨fs10, ho10⟩ := OX5_isWord e10
          refine pw_cVi (rest := []) hC hR lvX4_76 ho10 (CX5_isWord e10) ⟨rfl, rfl⟩ rfl hl.1 rfl ⟨rg_f (Nat.le_of_ble_eq_true rfl), rg_l (Nat.le_of_ble_eq_true rfl)⟩ (Nat.le_of_ble_eq_true rfl) dX4_readFactor_142 ⟨Nat.zero_le _, Nat.zero_le _⟩ (fun H locs hR => ?_)
          refine pw_ifeq hC 157 dX4_readFactor_145 (by decide) (fun hc => ?_) (fun hc => ?_)
          · rw [if_pos hc] at hF
            refine lv_aload_n hC.1 hC.2.1 dX4_readFactor_157 rfl (lv_at hl 0 rfl) ?_
            obtain ⟨x11, e11, hF⟩ := bnd hF
            refine pw_gfr hC hR e11 flX4_12 dX4_readFactor_158 ?_
            refine pw_ldcs hC 8 (tx := "load") (by decide +kernel) dX4_readFactor_161 ?_
            obtain ⟨x12, e12, hF⟩ := bnd hF
            obtain ⟨fs12, ho12⟩ := OX5_isWord e12
            refine pw_cVi (rest := []) hC hR lvX4_76 ho12 (CX5_isWord e12) ⟨rfl, rfl⟩ rfl hl.1 rfl ⟨rg_f (Nat.le_of_ble_eq_true rfl), rg_l (Nat.le_of_ble_eq_true rfl)⟩ (Nat.le_of_ble_eq_true rfl) dX4_readFactor_163 ⟨Nat.zero_le _, Nat.zero_le _⟩ (fun H locs hR => ?_)
            refine pw_ifeq hC 178 dX4_readFactor_166 (by decide) (fun hc => ?_) (fun hc => ?_)
            · rw [if_pos hc] at hF
              refine lv_aload_n hC.1 hC.2.1 dX4_readFactor_178 rfl (lv_at hl 0 rfl) ?_
              refine pw_bipush hC dX4_readFactor_179 rfl ?_
              obtain ⟨q13, e13, hF⟩ := bnd hF
              obtain ⟨fs13, ho13⟩ := OX4_fail e13
              refine pw_cVi (rest := []) hC hR lvX4_80 ho13 (CX4_fail e13) ⟨rfl, rfl⟩ rfl hl.1 rfl ⟨rg_f (Nat.le_of_ble_eq_true rfl), rg_l (Nat.le_of_ble_eq_true rfl)⟩ (Nat.le_of_ble_eq_true rfl) dX4_readFactor_181 ⟨Nat.zero_le _, Nat.zero_le _⟩ (fun H locs hR => ?_)
              by_cases hb14 : q13.1 = 0 ∨ q13.1 = 1
              · rw [if_pos hb14] at hF
                cases hF
                exact pw_zret hC hR hb14 dX4_readFactor_184
              · rw [if_neg hb14] at hF; cases hF
            · rw [if_neg hc] at hF
              refine lv_aload_n hC.1 hC.2.1 dX4_readFactor_169 rfl (lv_at hl 0 rfl) ?_
              refine pw_bipush hC dX4_readFactor_170 rfl ?_
              obtain ⟨h15, e15, hF⟩ := bnd hF
              obtain ⟨fs15, ho15⟩ := OX4_addStep e15
              refine pw_cVv (rest := []) hC hR lvX4_38 ho15 (CX4_addStep e15) ⟨rfl, rfl⟩ rfl hl.1 rfl ⟨rg_f (Nat.le_of_ble_eq_true rfl), rg_l (Nat.le_of_ble_eq_true rfl)⟩ (Nat.le_of_ble_eq_true rfl) dX4_readFactor_172 ⟨Nat.zero_le _, Nat.zero_le _⟩ (fun H locs hR => ?_)
              refine pw_goto hC 185 dX4_readFactor_175 (by decide) ?_
              exact BX4_readFactor_185 hrec hC hR (lv_sub hl [0] rfl) hF
          · rw [if_neg hc] at hF
            refine lv_aload_n hC.1 hC.2.1 dX4_readFactor_148 rfl (lv_at hl 0 rfl) ?_
            refine pw_bipush hC dX4_readFactor_149 rfl ?_
            obtain ⟨h18, e18, hF⟩ := bnd hF
            obtain ⟨fs18, ho18⟩ := OX4_addStep e18
            refine pw_cVv (rest := []) hC hR lvX4_38 ho18 (CX4_addStep e18) ⟨rfl, rfl⟩ rfl hl.1 rfl ⟨rg_f (Nat.le_of_ble_eq_true rfl), rg_l (Nat.le_of_ble_eq_true rfl)⟩ (Nat.le_of_ble_eq_true rfl) dX4_readFactor_151 ⟨Nat.zero_le _, Nat.zero_le _⟩ (fun H locs hR => ?_)
            refine pw_goto hC 185 dX4_readFactor_154 (by decide) ?_
            exact BX4_readFactor_185 hrec hC hR (lv_sub hl [0] rfl) hF
        · rw [if_neg hc] at hF
          refine lv_aload_n hC.1 hC.2.1 dX4_readFactor_127 rfl (lv_at hl 0 rfl) ?_
          refine pw_bipush hC dX4_readFactor_128 rfl ?_
          obtain ⟨h19, e19, hF⟩ := bnd hF
          obtain ⟨fs19, ho19⟩ := OX4_addStep e19
          refine pw_cVv (rest := []) hC hR lvX4_38 ho19 (CX4_addStep e19) ⟨rfl, rfl⟩ rfl hl.1 rfl ⟨rg_f (Nat.le_of_ble_eq_true rfl), rg_l (Nat.le_of_ble_eq_true rfl)⟩ (Nat.le_of_ble_eq_true rfl) dX4_readFactor_130 ⟨Nat.zero_le _, Nat.zero_le _⟩ (fun H locs hR => ?_)
          refine pw_goto hC 185 dX4_readFactor_133 (by decide) ?_
          exact BX4_readFactor_185 hrec hC hR (lv_sub hl [0] rfl) hF
      · rw [if_neg hc] at hF
        refine lv_aload_n hC.1 hC.2.1 dX4_readFactor_107 rfl (lv_at hl 0 rfl) ?_
        refine pw_iconst hC dX4_readFactor_108 ?_
        obtain ⟨h20, e20, hF⟩ := bnd hF
        obtain ⟨fs20, ho20⟩ := OX4_addStep e20
        refine pw_cVv (rest := []) hC hR lvX4_38 ho20 (CX4_addStep e20) ⟨rfl, rfl⟩ rfl hl.1 rfl ⟨rg_f (Nat.le_of_ble_eq_true rfl), rg_l (Nat.le_of_ble_eq_true rfl)⟩ (Nat.le_of_ble_eq_true rfl) dX4_readFactor_109 ⟨Nat.zero_le _, Nat.zero_le _⟩ (fun H locs hR => ?_)
        refine pw_goto hC 185 dX4_readFactor_112 (by decide) ?_
        exact BX4_readFactor_185 hrec hC hR (lv_sub hl [0] rfl) hF
    · rw [if_neg hc] at hF
      refine lv_iload_n hC.1 hC.2.1 dX4_readFactor_51 rfl (lv_at hl 1 rfl) ?_
      refine pw_iconst hC dX4_readFactor_52 ?_
      refine pw_icmplt hC 63 dX4_readFactor_53 (by decide) (fun hc => ?_) (fun hc => ?_)
      · rw [if_pos hc] at hF
        refine lv_aload_n hC.1 hC.2.1 dX4_readFactor_63 rfl (lv_at hl 0 rfl) ?_
        obtain ⟨x21, e21, hF⟩ := bnd hF
        refine pw_gfr hC hR e21 flX4_12 dX4_readFactor_64 ?_
        obtain ⟨h22, e22, hF⟩ := bnd hF
        obtain ⟨fs22, ho22⟩ := OX5_advance e22
        refine pw_cVv (rest := []) hC hR lvX4_84 ho22 (CX5_advance e22) ⟨rfl, rfl⟩ rfl hl.1 rfl ⟨rg_f (Nat.le_of_ble_eq_true rfl), rg_l (Nat.le_of_ble_eq_true rfl)⟩ (Nat.le_of_ble_eq_true rfl) dX4_readFactor_67 ⟨Nat.zero_le _, Nat.zero_le _⟩ (fun H locs hR => ?_)
        refine lv_aload_n hC.1 hC.2.1 dX4_readFactor_70 rfl (lv_at hl 0 rfl) ?_
        refine lv_iload_n hC.1 hC.2.1 dX4_readFactor_71 rfl (lv_at hl 1 rfl) ?_
        refine pw_iconst hC dX4_readFactor_72 ?_
        refine pw_iadd hC dX4_readFactor_73 ?_
        obtain ⟨q23, e23, hF⟩ := bnd hF
        obtain ⟨fs23, ho23⟩ := RecS_o0 hrec e23
        refine pw_cVi (rest := []) hC hR lvX4_132 ho23 (RecS_c0 hrec e23) ⟨rfl, rfl⟩ rfl hl.1 rfl (rg_s (by decide)) (Nat.le_of_ble_eq_true rfl) dX4_readFactor_74 ⟨Nat.zero_le _, Nat.zero_le _⟩ (fun H locs hR => ?_)
        refine pw_ifeq hC 93 dX4_readFactor_77 (by decide) (fun hc => ?_) (fun hc => ?_)
        · rw [if_pos hc] at hF
          exact BX4_readFactor_93 hrec hC hR (lv_sub hl [] rfl) hF
        · rw [if_neg hc] at hF
          refine lv_aload_n hC.1 hC.2.1 dX4_readFactor_80 rfl (lv_at hl 0 rfl) ?_
          refine pw_bipush hC dX4_readFactor_81 rfl ?_
          obtain ⟨q25, e25, hF⟩ := bnd hF
          obtain ⟨fs25, ho25⟩ := OX4_takeMark e25
          refine pw_cVi (rest := []) hC hR lvX4_55 ho25 (CX4_takeMark e25) ⟨rfl, rfl⟩ rfl hl.1 rfl ⟨rg_f (Nat.le_of_ble_eq_true rfl), rg_l (Nat.le_of_ble_eq_true rfl)⟩ (Nat.le_of_ble_eq_true rfl) dX4_readFactor_83 ⟨Nat.zero_le _, Nat.zero_le _⟩ (fun H locs hR => ?_)
          refine pw_ifeq hC 93 dX4_readFactor_86 (by decide) (fun hc => ?_) (fun hc => ?_)
          · rw [if_pos hc] at hF
            exact BX4_readFactor_93 hrec hC hR (lv_sub hl [] rfl) hF
          · rw [if_neg hc] at hF
            refine pw_iconst hC dX4_readFactor_89 ?_
            refine pw_goto hC 94 dX4_readFactor_90 (by decide) ?_
            exact BX4_readFactor_94 hrec hC hR (lv_sub hl [] rfl) hF
      · rw [if_neg hc] at hF
        refine lv_aload_n hC.1 hC.2.1 dX4_readFactor_56 rfl (lv_at hl 0 rfl) ?_
        refine pw_bipush hC dX4_readFactor_57 rfl ?_
        obtain ⟨q26, e26, hF⟩ := bnd hF
        obtain ⟨fs26, ho26⟩ := OX4_fail e26
        refine pw_cVi (rest := []) hC hR lvX4_80 ho26 (CX4_fail e26) ⟨rfl, rfl⟩ rfl hl.1 rfl ⟨rg_f (Nat.le_of_ble_eq_true rfl), rg_l (Nat.le_of_ble_eq_true rfl)⟩ (Nat.le_of_ble_eq_true rfl) dX4_readFactor_59 ⟨Nat.zero_le _, Nat.zero_le _⟩ (fun H locs hR => ?_)
        by_cases hb27 : q26.1 = 0 ∨ q26.1 = 1
        · rw [if_pos hb27] at hF
          cases hF
          exact pw_zret hC hR hb27 dX4_readFactor_62
        · rw [if_neg hb27] at hF; cases hF
  · rw [if_pos hc] at hF
    refine lv_aload_n hC.1 hC.2.1 dX4_readFactor_11 rfl (lv_at hl 0 rfl) ?_
    refine lv_aload_n hC.1 hC.2.1 dX4_readFactor_12 rfl (lv_at hl 0 rfl) ?_
    obtain ⟨x28, e28, hF⟩ := bnd hF
    refine pw_gfr hC hR e28 flX4_12 dX4_readFactor_13 ?_
    obtain ⟨x29, e29, hF⟩ := bnd hF
    refine pw_gfi hC hR e29 flX4_147 dX4_readFactor_16 ?_
    obtain ⟨h30, e30, hF⟩ := bnd hF
    obtain ⟨fs30, ho30⟩ := OX4_addStep e30
    refine pw_cVv (rest := []) hC hR lvX4_38 ho30 (CX4_addStep e30) ⟨rfl, rfl⟩ rfl hl.1 rfl ⟨rg_f (Nat.le_of_ble_eq_true rfl), rg_l (Nat.le_of_ble_eq_true rfl)⟩ (Nat.le_of_ble_eq_true rfl) dX4_readFactor_19 ⟨Nat.zero_le _, Nat.zero_le _⟩ (fun H locs hR => ?_)
    refine lv_aload_n hC.1 hC.2.1 dX4_readFactor_22 rfl (lv_at hl 0 rfl) ?_
    refine pw_iconst hC dX4_readFactor_23 ?_
    refine pw_sipush hC dX4_readFactor_24 rfl ?_
    obtain ⟨q31, e31, hF⟩ := bnd hF
    obtain ⟨fs31, ho31⟩ := OX4_takeNumber e31
    refine pw_cVi (rest := []) hC hR lvX4_87 ho31 (CX4_takeNumber e31) ⟨rfl, rfl⟩ rfl hl.1 rfl ⟨rg_f (Nat.le_of_ble_eq_true rfl), rg_l (Nat.le_of_ble_eq_true rfl)⟩ (Nat.le_of_ble_eq_true rfl) dX4_readFactor_27 ⟨Nat.zero_le _, Nat.zero_le _⟩ (fun H locs hR => ?_)
    refine pw_iflt hC 37 dX4_readFactor_30 (by decide) (fun hc => ?_) (fun hc => ?_)
    · rw [if_pos hc] at hF
      refine pw_iconst hC dX4_readFactor_37 ?_
      exact BX4_readFactor_38 hrec hC hR (lv_sub hl [] rfl) hF
    · rw [if_neg hc] at hF
      refine pw_iconst hC dX4_readFactor_33 ?_
      refine pw_goto hC 38 dX4_readFactor_34 (by decide) ?_
      exact BX4_readFactor_38 hrec hC hR (lv_sub hl [] rfl) hF
def FRRecS : Nat → Nat → PH → Nat → Int → Option (Int × PH)
  | 0 => fun _ _ _ _ => none
  | n + 1 => fun k h v0 v1 => if k = 0 then FX4_readSum (FRRecS n) h v0 v1 else if k = 1 then FX4_readTerm (FRRecS n) h v0 v1 else FX4_readFactor (FRRecS n) h v0 v1
theorem RecS_all {g : GP} {l : Launch} : ∀ N : Nat, RecS g l N (FRRecS N)
  | 0 => ⟨(fun _ _ _ _ e => by cases e), (fun _ _ _ _ e => by cases e), (fun _ _ _ _ e => by cases e)⟩
  | N + 1 => ⟨fun h v0 v1 q e => ⟨OX4_readSum (show FX4_readSum (FRRecS N) h v0 v1 = some q from e), fun ad => CX4_readSum (RecS_all N) (show FX4_readSum (FRRecS N) h v0 v1 = some q from e)⟩, fun h v0 v1 q e => ⟨OX4_readTerm (show FX4_readTerm (FRRecS N) h v0 v1 = some q from e), fun ad => CX4_readTerm (RecS_all N) (show FX4_readTerm (FRRecS N) h v0 v1 = some q from e)⟩, fun h v0 v1 q e => ⟨OX4_readFactor (show FX4_readFactor (FRRecS N) h v0 v1 = some q from e), fun ad => CX4_readFactor (RecS_all N) (show FX4_readFactor (FRRecS N) h v0 v1 = some q from e)⟩⟩
theorem CX4_readSumR {g : GP} {l : Launch} {ad : Nat → Nat} {h : PH} {v0 : Nat} {v1 : Int} {q : Int × PH} (e : FRRecS 40 0 h v0 v1 = some q) : CN g l yX4_readSum cX4_readSum 5 (some .boolean) (rmG 40) ad h [.ref (ad v0), .int (Int32.ofInt v1)] (some (.int (Int32.ofInt q.1))) q.2 := RecS_c0 (RecS_all 40) e
theorem OX4_readSumR {h : PH} {v0 : Nat} {v1 : Int} {q : Int × PH} (e : FRRecS 40 0 h v0 v1 = some q) : ∃ fs : List PV, h[v0]? = some (.inr (4, fs)) := by
  unfold FRRecS at e
  exact OX4_readSum e
theorem CX4_readTermR {g : GP} {l : Launch} {ad : Nat → Nat} {h : PH} {v0 : Nat} {v1 : Int} {q : Int × PH} (e : FRRecS 40 1 h v0 v1 = some q) : CN g l yX4_readTerm cX4_readTerm 5 (some .boolean) (rmG 40) ad h [.ref (ad v0), .int (Int32.ofInt v1)] (some (.int (Int32.ofInt q.1))) q.2 := RecS_c1 (RecS_all 40) e
theorem OX4_readTermR {h : PH} {v0 : Nat} {v1 : Int} {q : Int × PH} (e : FRRecS 40 1 h v0 v1 = some q) : ∃ fs : List PV, h[v0]? = some (.inr (4, fs)) := by
  unfold FRRecS at e
  exact OX4_readTerm e
theorem CX4_readFactorR {g : GP} {l : Launch} {ad : Nat → Nat} {h : PH} {v0 : Nat} {v1 : Int} {q : Int × PH} (e : FRRecS 40 2 h v0 v1 = some q) : CN g l yX4_readFactor cX4_readFactor 2 (some .boolean) (rmG 40) ad h [.ref (ad v0), .int (Int32.ofInt v1)] (some (.int (Int32.ofInt q.1))) q.2 := RecS_c2 (RecS_all 40) e
theorem OX4_readFactorR {h : PH} {v0 : Nat} {v1 : Int} {q : Int × PH} (e : FRRecS 40 2 h v0 v1 = some q) : ∃ fs : List PV, h[v0]? = some (.inr (4, fs)) := by
  unfold FRRecS at e
  exact OX4_readFactor e
end
