section
variable {p : Program} {l : Launch} {e : Env} {s : State} {m : MethodId} {args : Array Value} {below : List Frame} {meth : Method} {c : Code} {H : Heap} {locs : List Loc} {ls : Array Slot} {g : GP} {ad : Nat → Nat}
abbrev rmX0_init : Room := { frames := 1, cells := 7, slots := 56, locals := 20 }
def FX0_init (h : PH) (v0 : Nat) : Option (PH) :=
  (isO h 0 v0).bind fun _ =>
  (pfi h 0 v0 0 0).bind fun h1 =>
  (pfi h1 0 v0 1 0).bind fun h2 =>
  (pfi h2 0 v0 2 0).bind fun h3 =>
  (gdL h h3 [v0]).bind fun _ =>
  (nwa h3 0 32).bind fun h5 =>
  (pfr h5 0 v0 3 h3.length).bind fun h6 =>
  (gdL h h6 [v0]).bind fun _ =>
  (nwa h6 0 4).bind fun h8 =>
  (pfr h8 0 v0 4 h6.length).bind fun h9 =>
  (gdL h h9 [v0]).bind fun _ =>
  (nwa h9 0 4).bind fun h11 =>
  (pfr h11 0 v0 5 h9.length).bind fun h12 =>
  (gdL h h12 [v0]).bind fun _ =>
  (nwa h12 0 4).bind fun h14 =>
  (pfr h14 0 v0 6 h12.length).bind fun h15 =>
  (gdL h h15 [v0]).bind fun _ =>
  (nwa h15 0 4).bind fun h17 =>
  (pfr h17 0 v0 7 h15.length).bind fun h18 =>
  (gdL h h18 [v0]).bind fun _ =>
  (nwa h18 0 4).bind fun h20 =>
  (pfr h20 0 v0 8 h18.length).bind fun h21 =>
  (gdL h h21 [v0]).bind fun _ =>
  (nwa h21 2 4).bind fun h23 =>
  (pfr h23 0 v0 9 h21.length).bind fun h24 =>
  some h24
theorem OX0_init {h : PH} {v0 : Nat} {q : PH} (hF : FX0_init h v0 = some q) : ∃ fs : List PV, h[v0]? = some (.inr (0, fs)) := by
  unfold FX0_init at hF
  obtain ⟨u0, e0, -⟩ := bnd hF
  exact isO_spec e0
set_option maxHeartbeats 4000000 in
set_option maxRecDepth 100000 in
theorem CX0_init {g : GP} {l : Launch} {ad : Nat → Nat} {h : PH} {v0 : Nat} {q : PH} (hF : FX0_init h v0 = some q) : CA g l yX0_init cX0_init 1 none rmX0_init ad h [.ref (ad v0)] (fun _ => none) q := by
  refine pw_met (by decide) (Nat.le_of_ble_eq_true rfl) ?_
  intro p e s m args below meth c ls hC hN hR hl
  have hl : lv_has ls 1 [(0, .ref (ad v0))] := hl
  unfold FX0_init at hF
  obtain ⟨u0, e0, hF⟩ := bnd hF
  have hA : ∀ k, k < h.length → ad k = ad k := fun _ _ => rfl
  refine lv_aload_n hC.1 hC.2.1 dX0_init_0 rfl (lv_at hl 0 rfl) ?_
  refine pw_oinit hC hl.1 kmX0_3 oiI oiC dX0_init_1 (Nat.le_of_ble_eq_true rfl) (Nat.le_of_ble_eq_true rfl) ?_
  refine lv_aload_n hC.1 hC.2.1 dX0_init_4 rfl (lv_at hl 0 rfl) ?_
  refine pw_iconst hC dX0_init_5 ?_
  obtain ⟨h1, e1, hF⟩ := bnd hF
  refine pw_pfi hC hR e1 fpX0_9 (Or.inl rfl) dX0_init_6 (fun H locs hR => ?_)
  refine lv_aload_n hC.1 hC.2.1 dX0_init_9 rfl (lv_at hl 0 rfl) ?_
  refine pw_iconst hC dX0_init_10 ?_
  obtain ⟨h2, e2, hF⟩ := bnd hF
  refine pw_pfi hC hR e2 fpX0_15 (Or.inl rfl) dX0_init_11 (fun H locs hR => ?_)
  refine lv_aload_n hC.1 hC.2.1 dX0_init_14 rfl (lv_at hl 0 rfl) ?_
  refine pw_iconst hC dX0_init_15 ?_
  obtain ⟨h3, e3, hF⟩ := bnd hF
  refine pw_pfi hC hR e3 fpX0_18 (Or.inl rfl) dX0_init_16 (fun H locs hR => ?_)
  refine lv_aload_n hC.1 hC.2.1 dX0_init_19 rfl (lv_at hl 0 rfl) ?_
  refine pw_bipush hC dX0_init_20 rfl ?_
  obtain ⟨u4, eu4, hF⟩ := bnd hF
  have hg4 := gdL_spec eu4
  have hl : lv_has ls 1 [(0, .ref (ad v0))] := lv_sub hl [0] rfl
  obtain ⟨h5, e5, hF⟩ := bnd hF
  refine pw_newa hC hR e5 acI rfl (Or.inl ⟨rfl, rfl, rfl⟩) dX0_init_22 (Nat.le_of_ble_eq_true rfl) (Nat.le_of_ble_eq_true rfl) (fun ad5 H hag hR => ?_)
  have hA : ∀ k, k < h.length → ad5 k = ad k := fun k hk => (hag k (Nat.lt_of_lt_of_le hk hg4.1)).trans (hA k hk)
  rw [← hag v0 (hg4.2 _ (by simp))] at hl
  rw [← hag v0 (hg4.2 _ (by simp))]
  obtain ⟨h6, e6, hF⟩ := bnd hF
  refine pw_pfr hC hR e6 fpX0_21 rfl (Or.inr hN) dX0_init_24 (fun H locs hR => ?_)
  refine lv_aload_n hC.1 hC.2.1 dX0_init_27 rfl (lv_at hl 0 rfl) ?_
  refine pw_iconst hC dX0_init_28 ?_
  obtain ⟨u7, eu7, hF⟩ := bnd hF
  have hg7 := gdL_spec eu7
  have hl : lv_has ls 1 [(0, .ref (ad5 v0))] := lv_sub hl [0] rfl
  obtain ⟨h8, e8, hF⟩ := bnd hF
  refine pw_newa hC hR e8 acI rfl (Or.inl ⟨rfl, rfl, rfl⟩) dX0_init_29 (Nat.le_of_ble_eq_true rfl) (Nat.le_of_ble_eq_true rfl) (fun ad8 H hag hR => ?_)
  have hA : ∀ k, k < h.length → ad8 k = ad k := fun k hk => (hag k (Nat.lt_of_lt_of_le hk hg7.1)).trans (hA k hk)
  rw [← hag v0 (hg7.2 _ (by simp))] at hl
  rw [← hag v0 (hg7.2 _ (by simp))]
  obtain ⟨h9, e9, hF⟩ := bnd hF
  refine pw_pfr hC hR e9 fpX0_25 rfl (Or.inr hN) dX0_init_31 (fun H locs hR => ?_)
  refine lv_aload_n hC.1 hC.2.1 dX0_init_34 rfl (lv_at hl 0 rfl) ?_
  refine pw_iconst hC dX0_init_35 ?_
  obtain ⟨u10, eu10, hF⟩ := bnd hF
  have hg10 := gdL_spec eu10
  have hl : lv_has ls 1 [(0, .ref (ad8 v0))] := lv_sub hl [0] rfl
  obtain ⟨h11, e11, hF⟩ := bnd hF
  refine pw_newa hC hR e11 acI rfl (Or.inl ⟨rfl, rfl, rfl⟩) dX0_init_36 (Nat.le_of_ble_eq_true rfl) (Nat.le_of_ble_eq_true rfl) (fun ad11 H hag hR => ?_)
  have hA : ∀ k, k < h.length → ad11 k = ad k := fun k hk => (hag k (Nat.lt_of_lt_of_le hk hg10.1)).trans (hA k hk)
  rw [← hag v0 (hg10.2 _ (by simp))] at hl
  rw [← hag v0 (hg10.2 _ (by simp))]
  obtain ⟨h12, e12, hF⟩ := bnd hF
  refine pw_pfr hC hR e12 fpX0_28 rfl (Or.inr hN) dX0_init_38 (fun H locs hR => ?_)
  refine lv_aload_n hC.1 hC.2.1 dX0_init_41 rfl (lv_at hl 0 rfl) ?_
  refine pw_iconst hC dX0_init_42 ?_
  obtain ⟨u13, eu13, hF⟩ := bnd hF
  have hg13 := gdL_spec eu13
  have hl : lv_has ls 1 [(0, .ref (ad11 v0))] := lv_sub hl [0] rfl
  obtain ⟨h14, e14, hF⟩ := bnd hF
  refine pw_newa hC hR e14 acI rfl (Or.inl ⟨rfl, rfl, rfl⟩) dX0_init_43 (Nat.le_of_ble_eq_true rfl) (Nat.le_of_ble_eq_true rfl) (fun ad14 H hag hR => ?_)
  have hA : ∀ k, k < h.length → ad14 k = ad k := fun k hk => (hag k (Nat.lt_of_lt_of_le hk hg13.1)).trans (hA k hk)
  rw [← hag v0 (hg13.2 _ (by simp))] at hl
  rw [← hag v0 (hg13.2 _ (by simp))]
  obtain ⟨h15, e15, hF⟩ := bnd hF
  refine pw_pfr hC hR e15 fpX0_31 rfl (Or.inr hN) dX0_init_45 (fun H locs hR => ?_)
  refine lv_aload_n hC.1 hC.2.1 dX0_init_48 rfl (lv_at hl 0 rfl) ?_
  refine pw_iconst hC dX0_init_49 ?_
  obtain ⟨u16, eu16, hF⟩ := bnd hF
  have hg16 := gdL_spec eu16
  have hl : lv_has ls 1 [(0, .ref (ad14 v0))] := lv_sub hl [0] rfl
  obtain ⟨h17, e17, hF⟩ := bnd hF
  refine pw_newa hC hR e17 acI rfl (Or.inl ⟨rfl, rfl, rfl⟩) dX0_init_50 (Nat.le_of_ble_eq_true rfl) (Nat.le_of_ble_eq_true rfl) (fun ad17 H hag hR => ?_)
  have hA : ∀ k, k < h.length → ad17 k = ad k := fun k hk => (hag k (Nat.lt_of_lt_of_le hk hg16.1)).trans (hA k hk)
  rw [← hag v0 (hg16.2 _ (by simp))] at hl
  rw [← hag v0 (hg16.2 _ (by simp))]
  obtain ⟨h18, e18, hF⟩ := bnd hF
  refine pw_pfr hC hR e18 fpX0_34 rfl (Or.inr hN) dX0_init_52 (fun H locs hR => ?_)
  refine lv_aload_n hC.1 hC.2.1 dX0_init_55 rfl (lv_at hl 0 rfl) ?_
  refine pw_iconst hC dX0_init_56 ?_
  obtain ⟨u19, eu19, hF⟩ := bnd hF
  have hg19 := gdL_spec eu19
  have hl : lv_has ls 1 [(0, .ref (ad17 v0))] := lv_sub hl [0] rfl
  obtain ⟨h20, e20, hF⟩ := bnd hF
  refine pw_newa hC hR e20 acI rfl (Or.inl ⟨rfl, rfl, rfl⟩) dX0_init_57 (Nat.le_of_ble_eq_true rfl) (Nat.le_of_ble_eq_true rfl) (fun ad20 H hag hR => ?_)
  have hA : ∀ k, k < h.length → ad20 k = ad k := fun k hk => (hag k (Nat.lt_of_lt_of_le hk hg19.1)).trans (hA k hk)
  rw [← hag v0 (hg19.2 _ (by simp))] at hl
  rw [← hag v0 (hg19.2 _ (by simp))]
  obtain ⟨h21, e21, hF⟩ := bnd hF
  refine pw_pfr hC hR e21 fpX0_37 rfl (Or.inr hN) dX0_init_59 (fun H locs hR => ?_)
  refine lv_aload_n hC.1 hC.2.1 dX0_init_62 rfl (lv_at hl 0 rfl) ?_
  refine pw_iconst hC dX0_init_63 ?_
  obtain ⟨u22, eu22, hF⟩ := bnd hF
  have hg22 := gdL_spec eu22
  have hl : lv_has ls 1 [] := lv_sub hl [] rfl
  obtain ⟨h23, e23, hF⟩ := bnd hF
  refine pw_newa hC hR e23 acZ rfl (Or.inr (Or.inr (Or.inl ⟨rfl, rfl, rfl⟩))) dX0_init_64 (Nat.le_of_ble_eq_true rfl) (Nat.le_of_ble_eq_true rfl) (fun ad23 H hag hR => ?_)
  have hA : ∀ k, k < h.length → ad23 k = ad k := fun k hk => (hag k (Nat.lt_of_lt_of_le hk hg22.1)).trans (hA k hk)
  rw [← hag v0 (hg22.2 _ (by simp))]
  obtain ⟨h24, e24, hF⟩ := bnd hF
  refine pw_pfr hC hR e24 fpX0_40 rfl (Or.inr hN) dX0_init_66 (fun H locs hR => ?_)
  cases hF
  exact pw_vretA hC hA hR (Nat.le_of_ble_eq_true rfl) (Nat.le_of_ble_eq_true rfl) dX0_init_69
abbrev rmX1_init : Room := { frames := 1, cells := 1, slots := 11, locals := 20 }
def FX1_init (h : PH) (v0 : Nat) (v1 : Nat) : Option (PH) :=
  (isO h 1 v0).bind fun _ =>
  (gdL h h [v0, v1]).bind fun _ =>
  (nwa h 0 11).bind fun h2 =>
  (pfr h2 1 v0 1 h.length).bind fun h3 =>
  (pfr h3 1 v0 0 v1).bind fun h4 =>
  some h4
theorem OX1_init {h : PH} {v0 : Nat} {v1 : Nat} {q : PH} (hF : FX1_init h v0 v1 = some q) : ∃ fs : List PV, h[v0]? = some (.inr (1, fs)) := by
  unfold FX1_init at hF
  obtain ⟨u0, e0, -⟩ := bnd hF
  exact isO_spec e0
set_option maxHeartbeats 4000000 in
set_option maxRecDepth 100000 in
theorem CX1_init {g : GP} {l : Launch} {ad : Nat → Nat} {h : PH} {v0 : Nat} {v1 : Nat} {q : PH} (hF : FX1_init h v0 v1 = some q) : CA g l yX1_init cX1_init 2 none rmX1_init ad h [.ref (ad v0), .ref (ad v1)] (fun _ => none) q := by
  refine pw_met (by decide) (Nat.le_of_ble_eq_true rfl) ?_
  intro p e s m args below meth c ls hC hN hR hl
  have hl : lv_has ls 2 [(0, .ref (ad v0)), (1, .ref (ad v1))] := hl
  unfold FX1_init at hF
  obtain ⟨u0, e0, hF⟩ := bnd hF
  have hA : ∀ k, k < h.length → ad k = ad k := fun _ _ => rfl
  refine lv_aload_n hC.1 hC.2.1 dX1_init_0 rfl (lv_at hl 0 rfl) ?_
  refine pw_oinit hC hl.1 kmX1_3 oiI oiC dX1_init_1 (Nat.le_of_ble_eq_true rfl) (Nat.le_of_ble_eq_true rfl) ?_
  refine lv_aload_n hC.1 hC.2.1 dX1_init_4 rfl (lv_at hl 0 rfl) ?_
  refine pw_bipush hC dX1_init_5 rfl ?_
  obtain ⟨u1, eu1, hF⟩ := bnd hF
  have hg1 := gdL_spec eu1
  have hl : lv_has ls 2 [(0, .ref (ad v0)), (1, .ref (ad v1))] := lv_sub hl [0, 1] rfl
  obtain ⟨h2, e2, hF⟩ := bnd hF
  refine pw_newa hC hR e2 acI rfl (Or.inl ⟨rfl, rfl, rfl⟩) dX1_init_7 (Nat.le_of_ble_eq_true rfl) (Nat.le_of_ble_eq_true rfl) (fun ad2 H hag hR => ?_)
  have hA : ∀ k, k < h.length → ad2 k = ad k := fun k hk => (hag k (Nat.lt_of_lt_of_le hk hg1.1)).trans (hA k hk)
  rw [← hag v0 (hg1.2 _ (by simp))] at hl
  rw [← hag v1 (hg1.2 _ (by simp))] at hl
  rw [← hag v0 (hg1.2 _ (by simp))]
  obtain ⟨h3, e3, hF⟩ := bnd hF
  refine pw_pfr hC hR e3 fpX1_11 rfl (Or.inr hN) dX1_init_9 (fun H locs hR => ?_)
  refine lv_aload_n hC.1 hC.2.1 dX1_init_12 rfl (lv_at hl 0 rfl) ?_
  refine lv_aload_n hC.1 hC.2.1 dX1_init_13 rfl (lv_at hl 1 rfl) ?_
  obtain ⟨h4, e4, hF⟩ := bnd hF
  refine pw_pfr hC hR e4 fpX1_15 rfl (Or.inr hN) dX1_init_14 (fun H locs hR => ?_)
  cases hF
  exact pw_vretA hC hA hR (Nat.le_of_ble_eq_true rfl) (Nat.le_of_ble_eq_true rfl) dX1_init_17
abbrev rmX6_init : Room := { frames := 1, cells := 9, slots := 264, locals := 20 }
def FX6_init (h : PH) (v0 : Nat) : Option (PH) :=
  (isO h 6 v0).bind fun _ =>
  (pfi h 6 v0 0 0).bind fun h1 =>
  (pfi h1 6 v0 1 0).bind fun h2 =>
  (gdL h h2 [v0]).bind fun _ =>
  (nwa h2 0 32).bind fun h4 =>
  (pfr h4 6 v0 2 h2.length).bind fun h5 =>
  (gdL h h5 [v0]).bind fun _ =>
  (nwa h5 0 32).bind fun h7 =>
  (pfr h7 6 v0 3 h5.length).bind fun h8 =>
  (gdL h h8 [v0]).bind fun _ =>
  (nwa h8 0 32).bind fun h10 =>
  (pfr h10 6 v0 4 h8.length).bind fun h11 =>
  (gdL h h11 [v0]).bind fun _ =>
  (nwa h11 0 32).bind fun h13 =>
  (pfr h13 6 v0 5 h11.length).bind fun h14 =>
  (gdL h h14 [v0]).bind fun _ =>
  (nwa h14 0 32).bind fun h16 =>
  (pfr h16 6 v0 6 h14.length).bind fun h17 =>
  (gdL h h17 [v0]).bind fun _ =>
  (nwa h17 0 32).bind fun h19 =>
  (pfr h19 6 v0 7 h17.length).bind fun h20 =>
  (gdL h h20 [v0]).bind fun _ =>
  (nwa h20 0 32).bind fun h22 =>
  (pfr h22 6 v0 8 h20.length).bind fun h23 =>
  (gdL h h23 [v0]).bind fun _ =>
  (nwa h23 0 8).bind fun h25 =>
  (pfr h25 6 v0 9 h23.length).bind fun h26 =>
  (gdL h h26 [v0]).bind fun _ =>
  (nwa h26 0 32).bind fun h28 =>
  (pfr h28 6 v0 10 h26.length).bind fun h29 =>
  some h29
theorem OX6_init {h : PH} {v0 : Nat} {q : PH} (hF : FX6_init h v0 = some q) : ∃ fs : List PV, h[v0]? = some (.inr (6, fs)) := by
  unfold FX6_init at hF
  obtain ⟨u0, e0, -⟩ := bnd hF
  exact isO_spec e0
set_option maxHeartbeats 4000000 in
set_option maxRecDepth 100000 in
theorem CX6_init {g : GP} {l : Launch} {ad : Nat → Nat} {h : PH} {v0 : Nat} {q : PH} (hF : FX6_init h v0 = some q) : CA g l yX6_init cX6_init 1 none rmX6_init ad h [.ref (ad v0)] (fun _ => none) q := by
  refine pw_met (by decide) (Nat.le_of_ble_eq_true rfl) ?_
  intro p e s m args below meth c ls hC hN hR hl
  have hl : lv_has ls 1 [(0, .ref (ad v0))] := hl
  unfold FX6_init at hF
  obtain ⟨u0, e0, hF⟩ := bnd hF
  have hA : ∀ k, k < h.length → ad k = ad k := fun _ _ => rfl
  refine lv_aload_n hC.1 hC.2.1 dX6_init_0 rfl (lv_at hl 0 rfl) ?_
  refine pw_oinit hC hl.1 kmX6_3 oiI oiC dX6_init_1 (Nat.le_of_ble_eq_true rfl) (Nat.le_of_ble_eq_true rfl) ?_
  refine lv_aload_n hC.1 hC.2.1 dX6_init_4 rfl (lv_at hl 0 rfl) ?_
  refine pw_iconst hC dX6_init_5 ?_
  obtain ⟨h1, e1, hF⟩ := bnd hF
  refine pw_pfi hC hR e1 fpX6_9 (Or.inl rfl) dX6_init_6 (fun H locs hR => ?_)
  refine lv_aload_n hC.1 hC.2.1 dX6_init_9 rfl (lv_at hl 0 rfl) ?_
  refine pw_iconst hC dX6_init_10 ?_
  obtain ⟨h2, e2, hF⟩ := bnd hF
  refine pw_pfi hC hR e2 fpX6_15 (Or.inl rfl) dX6_init_11 (fun H locs hR => ?_)
  refine lv_aload_n hC.1 hC.2.1 dX6_init_14 rfl (lv_at hl 0 rfl) ?_
  refine pw_bipush hC dX6_init_15 rfl ?_
  obtain ⟨u3, eu3, hF⟩ := bnd hF
  have hg3 := gdL_spec eu3
  have hl : lv_has ls 1 [(0, .ref (ad v0))] := lv_sub hl [0] rfl
  obtain ⟨h4, e4, hF⟩ := bnd hF
  refine pw_newa hC hR e4 acI rfl (Or.inl ⟨rfl, rfl, rfl⟩) dX6_init_17 (Nat.le_of_ble_eq_true rfl) (Nat.le_of_ble_eq_true rfl) (fun ad4 H hag hR => ?_)
  have hA : ∀ k, k < h.length → ad4 k = ad k := fun k hk => (hag k (Nat.lt_of_lt_of_le hk hg3.1)).trans (hA k hk)
  rw [← hag v0 (hg3.2 _ (by simp))] at hl
  rw [← hag v0 (hg3.2 _ (by simp))]
  obtain ⟨h5, e5, hF⟩ := bnd hF
  refine pw_pfr hC hR e5 fpX6_18 rfl (Or.inr hN) dX6_init_19 (fun H locs hR => ?_)
  refine lv_aload_n hC.1 hC.2.1 dX6_init_22 rfl (lv_at hl 0 rfl) ?_
  refine pw_bipush hC dX6_init_23 rfl ?_
  obtain ⟨u6, eu6, hF⟩ := bnd hF
  have hg6 := gdL_spec eu6
  have hl : lv_has ls 1 [(0, .ref (ad4 v0))] := lv_sub hl [0] rfl
  obtain ⟨h7, e7, hF⟩ := bnd hF
  refine pw_newa hC hR e7 acI rfl (Or.inl ⟨rfl, rfl, rfl⟩) dX6_init_25 (Nat.le_of_ble_eq_true rfl) (Nat.le_of_ble_eq_true rfl) (fun ad7 H hag hR => ?_)
  have hA : ∀ k, k < h.length → ad7 k = ad k := fun k hk => (hag k (Nat.lt_of_lt_of_le hk hg6.1)).trans (hA k hk)
  rw [← hag v0 (hg6.2 _ (by simp))] at hl
  rw [← hag v0 (hg6.2 _ (by simp))]
  obtain ⟨h8, e8, hF⟩ := bnd hF
  refine pw_pfr hC hR e8 fpX6_22 rfl (Or.inr hN) dX6_init_27 (fun H locs hR => ?_)
  refine lv_aload_n hC.1 hC.2.1 dX6_init_30 rfl (lv_at hl 0 rfl) ?_
  refine pw_bipush hC dX6_init_31 rfl ?_
  obtain ⟨u9, eu9, hF⟩ := bnd hF
  have hg9 := gdL_spec eu9
  have hl : lv_has ls 1 [(0, .ref (ad7 v0))] := lv_sub hl [0] rfl
  obtain ⟨h10, e10, hF⟩ := bnd hF
  refine pw_newa hC hR e10 acI rfl (Or.inl ⟨rfl, rfl, rfl⟩) dX6_init_33 (Nat.le_of_ble_eq_true rfl) (Nat.le_of_ble_eq_true rfl) (fun ad10 H hag hR => ?_)
  have hA : ∀ k, k < h.length → ad10 k = ad k := fun k hk => (hag k (Nat.lt_of_lt_of_le hk hg9.1)).trans (hA k hk)
  rw [← hag v0 (hg9.2 _ (by simp))] at hl
  rw [← hag v0 (hg9.2 _ (by simp))]
  obtain ⟨h11, e11, hF⟩ := bnd hF
  refine pw_pfr hC hR e11 fpX6_25 rfl (Or.inr hN) dX6_init_35 (fun H locs hR => ?_)
  refine lv_aload_n hC.1 hC.2.1 dX6_init_38 rfl (lv_at hl 0 rfl) ?_
  refine pw_bipush hC dX6_init_39 rfl ?_
  obtain ⟨u12, eu12, hF⟩ := bnd hF
  have hg12 := gdL_spec eu12
  have hl : lv_has ls 1 [(0, .ref (ad10 v0))] := lv_sub hl [0] rfl
  obtain ⟨h13, e13, hF⟩ := bnd hF
  refine pw_newa hC hR e13 acI rfl (Or.inl ⟨rfl, rfl, rfl⟩) dX6_init_41 (Nat.le_of_ble_eq_true rfl) (Nat.le_of_ble_eq_true rfl) (fun ad13 H hag hR => ?_)
  have hA : ∀ k, k < h.length → ad13 k = ad k := fun k hk => (hag k (Nat.lt_of_lt_of_le hk hg12.1)).trans (hA k hk)
  rw [← hag v0 (hg12.2 _ (by simp))] at hl
  rw [← hag v0 (hg12.2 _ (by simp))]
  obtain ⟨h14, e14, hF⟩ := bnd hF
  refine pw_pfr hC hR e14 fpX6_28 rfl (Or.inr hN) dX6_init_43 (fun H locs hR => ?_)
  refine lv_aload_n hC.1 hC.2.1 dX6_init_46 rfl (lv_at hl 0 rfl) ?_
  refine pw_bipush hC dX6_init_47 rfl ?_
  obtain ⟨u15, eu15, hF⟩ := bnd hF
  have hg15 := gdL_spec eu15
  have hl : lv_has ls 1 [(0, .ref (ad13 v0))] := lv_sub hl [0] rfl
  obtain ⟨h16, e16, hF⟩ := bnd hF
  refine pw_newa hC hR e16 acI rfl (Or.inl ⟨rfl, rfl, rfl⟩) dX6_init_49 (Nat.le_of_ble_eq_true rfl) (Nat.le_of_ble_eq_true rfl) (fun ad16 H hag hR => ?_)
  have hA : ∀ k, k < h.length → ad16 k = ad k := fun k hk => (hag k (Nat.lt_of_lt_of_le hk hg15.1)).trans (hA k hk)
  rw [← hag v0 (hg15.2 _ (by simp))] at hl
  rw [← hag v0 (hg15.2 _ (by simp))]
  obtain ⟨h17, e17, hF⟩ := bnd hF
  refine pw_pfr hC hR e17 fpX6_31 rfl (Or.inr hN) dX6_init_51 (fun H locs hR => ?_)
  refine lv_aload_n hC.1 hC.2.1 dX6_init_54 rfl (lv_at hl 0 rfl) ?_
  refine pw_bipush hC dX6_init_55 rfl ?_
  obtain ⟨u18, eu18, hF⟩ := bnd hF
  have hg18 := gdL_spec eu18
  have hl : lv_has ls 1 [(0, .ref (ad16 v0))] := lv_sub hl [0] rfl
  obtain ⟨h19, e19, hF⟩ := bnd hF
  refine pw_newa hC hR e19 acI rfl (Or.inl ⟨rfl, rfl, rfl⟩) dX6_init_57 (Nat.le_of_ble_eq_true rfl) (Nat.le_of_ble_eq_true rfl) (fun ad19 H hag hR => ?_)
  have hA : ∀ k, k < h.length → ad19 k = ad k := fun k hk => (hag k (Nat.lt_of_lt_of_le hk hg18.1)).trans (hA k hk)
  rw [← hag v0 (hg18.2 _ (by simp))] at hl
  rw [← hag v0 (hg18.2 _ (by simp))]
  obtain ⟨h20, e20, hF⟩ := bnd hF
  refine pw_pfr hC hR e20 fpX6_34 rfl (Or.inr hN) dX6_init_59 (fun H locs hR => ?_)
  refine lv_aload_n hC.1 hC.2.1 dX6_init_62 rfl (lv_at hl 0 rfl) ?_
  refine pw_bipush hC dX6_init_63 rfl ?_
  obtain ⟨u21, eu21, hF⟩ := bnd hF
  have hg21 := gdL_spec eu21
  have hl : lv_has ls 1 [(0, .ref (ad19 v0))] := lv_sub hl [0] rfl
  obtain ⟨h22, e22, hF⟩ := bnd hF
  refine pw_newa hC hR e22 acI rfl (Or.inl ⟨rfl, rfl, rfl⟩) dX6_init_65 (Nat.le_of_ble_eq_true rfl) (Nat.le_of_ble_eq_true rfl) (fun ad22 H hag hR => ?_)
  have hA : ∀ k, k < h.length → ad22 k = ad k := fun k hk => (hag k (Nat.lt_of_lt_of_le hk hg21.1)).trans (hA k hk)
  rw [← hag v0 (hg21.2 _ (by simp))] at hl
  rw [← hag v0 (hg21.2 _ (by simp))]
  obtain ⟨h23, e23, hF⟩ := bnd hF
  refine pw_pfr hC hR e23 fpX6_37 rfl (Or.inr hN) dX6_init_67 (fun H locs hR => ?_)
  refine lv_aload_n hC.1 hC.2.1 dX6_init_70 rfl (lv_at hl 0 rfl) ?_
  refine pw_bipush hC dX6_init_71 rfl ?_
  obtain ⟨u24, eu24, hF⟩ := bnd hF
  have hg24 := gdL_spec eu24
  have hl : lv_has ls 1 [(0, .ref (ad22 v0))] := lv_sub hl [0] rfl
  obtain ⟨h25, e25, hF⟩ := bnd hF
  refine pw_newa hC hR e25 acI rfl (Or.inl ⟨rfl, rfl, rfl⟩) dX6_init_73 (Nat.le_of_ble_eq_true rfl) (Nat.le_of_ble_eq_true rfl) (fun ad25 H hag hR => ?_)
  have hA : ∀ k, k < h.length → ad25 k = ad k := fun k hk => (hag k (Nat.lt_of_lt_of_le hk hg24.1)).trans (hA k hk)
  rw [← hag v0 (hg24.2 _ (by simp))] at hl
  rw [← hag v0 (hg24.2 _ (by simp))]
  obtain ⟨h26, e26, hF⟩ := bnd hF
  refine pw_pfr hC hR e26 fpX6_40 rfl (Or.inr hN) dX6_init_75 (fun H locs hR => ?_)
  refine lv_aload_n hC.1 hC.2.1 dX6_init_78 rfl (lv_at hl 0 rfl) ?_
  refine pw_bipush hC dX6_init_79 rfl ?_
  obtain ⟨u27, eu27, hF⟩ := bnd hF
  have hg27 := gdL_spec eu27
  have hl : lv_has ls 1 [] := lv_sub hl [] rfl
  obtain ⟨h28, e28, hF⟩ := bnd hF
  refine pw_newa hC hR e28 acI rfl (Or.inl ⟨rfl, rfl, rfl⟩) dX6_init_81 (Nat.le_of_ble_eq_true rfl) (Nat.le_of_ble_eq_true rfl) (fun ad28 H hag hR => ?_)
  have hA : ∀ k, k < h.length → ad28 k = ad k := fun k hk => (hag k (Nat.lt_of_lt_of_le hk hg27.1)).trans (hA k hk)
  rw [← hag v0 (hg27.2 _ (by simp))]
  obtain ⟨h29, e29, hF⟩ := bnd hF
  refine pw_pfr hC hR e29 fpX6_43 rfl (Or.inr hN) dX6_init_83 (fun H locs hR => ?_)
  cases hF
  exact pw_vretA hC hA hR (Nat.le_of_ble_eq_true rfl) (Nat.le_of_ble_eq_true rfl) dX6_init_86
abbrev rmX3_init : Room := { frames := 2, cells := 21, slots := 355, locals := 41 }
def FX3_init (h : PH) (v0 : Nat) : Option (PH) :=
  (isO h 3 v0).bind fun _ =>
  (gdL h h [v0]).bind fun _ =>
  (nwo h 6).bind fun h2 =>
  (gdL h h2 [v0, h.length]).bind fun _ =>
  (FX6_init h2 h.length).bind fun h4 =>
  (pfr h4 3 v0 0 h.length).bind fun h5 =>
  (gdL h h5 [v0]).bind fun _ =>
  (nwo h5 0).bind fun h7 =>
  (gdL h h7 [v0, h5.length]).bind fun _ =>
  (FX0_init h7 h5.length).bind fun h9 =>
  (pfr h9 3 v0 1 h5.length).bind fun h10 =>
  (gdL h h10 [v0]).bind fun _ =>
  (nwo h10 1).bind fun h12 =>
  (gdL h h12 [v0, h10.length]).bind fun _ =>
  (nwa h12 0 1).bind fun h14 =>
  (ast 0 h14 h12.length 0 (-1)).bind fun h15 =>
  (gdL h h15 [v0, h10.length]).bind fun _ =>
  (FX1_init h15 h10.length h12.length).bind fun h17 =>
  (pfr h17 3 v0 2 h10.length).bind fun h18 =>
  (pfi h18 3 v0 3 0).bind fun h19 =>
  some h19
theorem OX3_init {h : PH} {v0 : Nat} {q : PH} (hF : FX3_init h v0 = some q) : ∃ fs : List PV, h[v0]? = some (.inr (3, fs)) := by
  unfold FX3_init at hF
  obtain ⟨u0, e0, -⟩ := bnd hF
  exact isO_spec e0
set_option maxHeartbeats 4000000 in
set_option maxRecDepth 100000 in
theorem CX3_init {g : GP} {l : Launch} {ad : Nat → Nat} {h : PH} {v0 : Nat} {q : PH} (hF : FX3_init h v0 = some q) : CA g l yX3_init cX3_init 1 none rmX3_init ad h [.ref (ad v0)] (fun _ => none) q := by
  refine pw_met (by decide) (Nat.le_of_ble_eq_true rfl) ?_
  intro p e s m args below meth c ls hC hN hR hl
  have hl : lv_has ls 1 [(0, .ref (ad v0))] := hl
  unfold FX3_init at hF
  obtain ⟨u0, e0, hF⟩ := bnd hF
  have hA : ∀ k, k < h.length → ad k = ad k := fun _ _ => rfl
  refine lv_aload_n hC.1 hC.2.1 dX3_init_0 rfl (lv_at hl 0 rfl) ?_
  refine pw_oinit hC hl.1 kmX3_3 oiI oiC dX3_init_1 (Nat.le_of_ble_eq_true rfl) (Nat.le_of_ble_eq_true rfl) ?_
  refine lv_aload_n hC.1 hC.2.1 dX3_init_4 rfl (lv_at hl 0 rfl) ?_
  obtain ⟨u1, eu1, hF⟩ := bnd hF
  have hg1 := gdL_spec eu1
  have hl : lv_has ls 1 [(0, .ref (ad v0))] := lv_sub hl [0] rfl
  obtain ⟨h2, e2, hF⟩ := bnd hF
  refine pw_new hC hR e2 nwX3_9 dX3_init_5 (Nat.le_of_ble_eq_true rfl) (Nat.le_of_ble_eq_true rfl) (fun ad2 H hag hR => ?_)
  have hA : ∀ k, k < h.length → ad2 k = ad k := fun k hk => (hag k (Nat.lt_of_lt_of_le hk hg1.1)).trans (hA k hk)
  rw [← hag v0 (hg1.2 _ (by simp))] at hl
  rw [← hag v0 (hg1.2 _ (by simp))]
  refine lv_dup hC.1 hC.2.1 dX3_init_8 rfl ?_
  obtain ⟨u3, eu3, hF⟩ := bnd hF
  have hg3 := gdL_spec eu3
  have hl : lv_has ls 1 [(0, .ref (ad2 v0))] := lv_sub hl [0] rfl
  obtain ⟨h4, e4, hF⟩ := bnd hF
  refine pw_cINA (rest := [.ref (ad2 h.length), .ref (ad2 v0)]) hC hR (by decide) liX3_11 (CX6_init e4) rfl hl.1 rfl ⟨(Nat.le_of_ble_eq_true rfl), (Nat.le_of_ble_eq_true rfl)⟩ (Nat.le_of_ble_eq_true rfl) dX3_init_9 ⟨(Nat.le_of_ble_eq_true rfl), (Nat.le_of_ble_eq_true rfl)⟩ (fun ad4 H locs hag hR => ?_)
  have hA : ∀ k, k < h.length → ad4 k = ad k := fun k hk => (hag k (Nat.lt_of_lt_of_le hk hg3.1)).trans (hA k hk)
  rw [← hag v0 (hg3.2 _ (by simp))] at hl
  rw [← hag h.length (hg3.2 _ (by simp))]
  rw [← hag v0 (hg3.2 _ (by simp))]
  obtain ⟨h5, e5, hF⟩ := bnd hF
  refine pw_pfr hC hR e5 fpX3_12 rfl (Or.inr hN) dX3_init_12 (fun H locs hR => ?_)
  refine lv_aload_n hC.1 hC.2.1 dX3_init_15 rfl (lv_at hl 0 rfl) ?_
  obtain ⟨u6, eu6, hF⟩ := bnd hF
  have hg6 := gdL_spec eu6
  have hl : lv_has ls 1 [(0, .ref (ad4 v0))] := lv_sub hl [0] rfl
  obtain ⟨h7, e7, hF⟩ := bnd hF
  refine pw_new hC hR e7 nwX3_18 dX3_init_16 (Nat.le_of_ble_eq_true rfl) (Nat.le_of_ble_eq_true rfl) (fun ad7 H hag hR => ?_)
  have hA : ∀ k, k < h.length → ad7 k = ad k := fun k hk => (hag k (Nat.lt_of_lt_of_le hk hg6.1)).trans (hA k hk)
  rw [← hag v0 (hg6.2 _ (by simp))] at hl
  rw [← hag v0 (hg6.2 _ (by simp))]
  refine lv_dup hC.1 hC.2.1 dX3_init_19 rfl ?_
  obtain ⟨u8, eu8, hF⟩ := bnd hF
  have hg8 := gdL_spec eu8
  have hl : lv_has ls 1 [(0, .ref (ad7 v0))] := lv_sub hl [0] rfl
  obtain ⟨h9, e9, hF⟩ := bnd hF
  refine pw_cINA (rest := [.ref (ad7 h5.length), .ref (ad7 v0)]) hC hR (by decide) liX3_20 (CX0_init e9) rfl hl.1 rfl ⟨(Nat.le_of_ble_eq_true rfl), (Nat.le_of_ble_eq_true rfl)⟩ (Nat.le_of_ble_eq_true rfl) dX3_init_20 ⟨(Nat.le_of_ble_eq_true rfl), (Nat.le_of_ble_eq_true rfl)⟩ (fun ad9 H locs hag hR => ?_)
  have hA : ∀ k, k < h.length → ad9 k = ad k := fun k hk => (hag k (Nat.lt_of_lt_of_le hk hg8.1)).trans (hA k hk)
  rw [← hag v0 (hg8.2 _ (by simp))] at hl
  rw [← hag h5.length (hg8.2 _ (by simp))]
  rw [← hag v0 (hg8.2 _ (by simp))]
  obtain ⟨h10, e10, hF⟩ := bnd hF
  refine pw_pfr hC hR e10 fpX3_21 rfl (Or.inr hN) dX3_init_23 (fun H locs hR => ?_)
  refine lv_aload_n hC.1 hC.2.1 dX3_init_26 rfl (lv_at hl 0 rfl) ?_
  obtain ⟨u11, eu11, hF⟩ := bnd hF
  have hg11 := gdL_spec eu11
  have hl : lv_has ls 1 [(0, .ref (ad9 v0))] := lv_sub hl [0] rfl
  obtain ⟨h12, e12, hF⟩ := bnd hF
  refine pw_new hC hR e12 nwX3_25 dX3_init_27 (Nat.le_of_ble_eq_true rfl) (Nat.le_of_ble_eq_true rfl) (fun ad12 H hag hR => ?_)
  have hA : ∀ k, k < h.length → ad12 k = ad k := fun k hk => (hag k (Nat.lt_of_lt_of_le hk hg11.1)).trans (hA k hk)
  rw [← hag v0 (hg11.2 _ (by simp))] at hl
  rw [← hag v0 (hg11.2 _ (by simp))]
  refine lv_dup hC.1 hC.2.1 dX3_init_30 rfl ?_
  refine pw_iconst hC dX3_init_31 ?_
  obtain ⟨u13, eu13, hF⟩ := bnd hF
  have hg13 := gdL_spec eu13
  have hl : lv_has ls 1 [(0, .ref (ad12 v0))] := lv_sub hl [0] rfl
  obtain ⟨h14, e14, hF⟩ := bnd hF
  refine pw_newa hC hR e14 acI rfl (Or.inl ⟨rfl, rfl, rfl⟩) dX3_init_32 (Nat.le_of_ble_eq_true rfl) (Nat.le_of_ble_eq_true rfl) (fun ad14 H hag hR => ?_)
  have hA : ∀ k, k < h.length → ad14 k = ad k := fun k hk => (hag k (Nat.lt_of_lt_of_le hk hg13.1)).trans (hA k hk)
  rw [← hag v0 (hg13.2 _ (by simp))] at hl
  rw [← hag h10.length (hg13.2 _ (by simp))]
  rw [← hag v0 (hg13.2 _ (by simp))]
  refine lv_dup hC.1 hC.2.1 dX3_init_34 rfl ?_
  refine pw_iconst hC dX3_init_35 ?_
  refine pw_iconst hC dX3_init_36 ?_
  obtain ⟨h15, e15, hF⟩ := bnd hF
  refine pw_iast hC hR e15 dX3_init_37 (fun H locs hR => ?_)
  obtain ⟨u16, eu16, hF⟩ := bnd hF
  have hg16 := gdL_spec eu16
  have hl : lv_has ls 1 [(0, .ref (ad14 v0))] := lv_sub hl [0] rfl
  obtain ⟨h17, e17, hF⟩ := bnd hF
  refine pw_cIA (rest := [.ref (ad14 h10.length), .ref (ad14 v0)]) hC hR liX3_27 (CX1_init e17) rfl hl.1 rfl ⟨(Nat.le_of_ble_eq_true rfl), (Nat.le_of_ble_eq_true rfl)⟩ (Nat.le_of_ble_eq_true rfl) dX3_init_38 ⟨(Nat.le_of_ble_eq_true rfl), (Nat.le_of_ble_eq_true rfl)⟩ (fun ad17 H locs hag hR => ?_)
  have hA : ∀ k, k < h.length → ad17 k = ad k := fun k hk => (hag k (Nat.lt_of_lt_of_le hk hg16.1)).trans (hA k hk)
  rw [← hag v0 (hg16.2 _ (by simp))] at hl
  rw [← hag h10.length (hg16.2 _ (by simp))]
  rw [← hag v0 (hg16.2 _ (by simp))]
  obtain ⟨h18, e18, hF⟩ := bnd hF
  refine pw_pfr hC hR e18 fpX3_30 rfl (Or.inl rfl) dX3_init_41 (fun H locs hR => ?_)
  refine lv_aload_n hC.1 hC.2.1 dX3_init_44 rfl (lv_at hl 0 rfl) ?_
  refine pw_iconst hC dX3_init_45 ?_
  obtain ⟨h19, e19, hF⟩ := bnd hF
  refine pw_pfi hC hR e19 fpX3_34 (Or.inl rfl) dX3_init_46 (fun H locs hR => ?_)
  cases hF
  exact pw_vretA hC hA hR (Nat.le_of_ble_eq_true rfl) (Nat.le_of_ble_eq_true rfl) dX3_init_49
abbrev rmX2_init : Room := { frames := 3, cells := 177, slots := 2880, locals := 61 }
def FX2_init (h : PH) (v0 : Nat) : Option (PH) :=
  (isO h 2 v0).bind fun _ =>
  (gdL h h [v0]).bind fun _ =>
  (nwq h 8).bind fun h2 =>
  (pfr h2 2 v0 0 h.length).bind fun h3 =>
  (pfi h3 2 v0 1 0).bind fun h4 =>
  (pfi h4 2 v0 2 0).bind fun h5 =>
  (gfr h5 2 v0 0).bind fun x6 =>
  (gdL h h5 [v0, x6]).bind fun _ =>
  (nwo h5 3).bind fun h8 =>
  (gdL h h8 [v0, h5.length, x6]).bind fun _ =>
  (FX3_init h8 h5.length).bind fun h10 =>
  (rst h10 x6 0 h5.length).bind fun h11 =>
  (gfr h11 2 v0 0).bind fun x12 =>
  (gdL h h11 [v0, x12]).bind fun _ =>
  (nwo h11 3).bind fun h14 =>
  (gdL h h14 [v0, h11.length, x12]).bind fun _ =>
  (FX3_init h14 h11.length).bind fun h16 =>
  (rst h16 x12 1 h11.length).bind fun h17 =>
  (gfr h17 2 v0 0).bind fun x18 =>
  (gdL h h17 [v0, x18]).bind fun _ =>
  (nwo h17 3).bind fun h20 =>
  (gdL h h20 [v0, h17.length, x18]).bind fun _ =>
  (FX3_init h20 h17.length).bind fun h22 =>
  (rst h22 x18 2 h17.length).bind fun h23 =>
  (gfr h23 2 v0 0).bind fun x24 =>
  (gdL h h23 [v0, x24]).bind fun _ =>
  (nwo h23 3).bind fun h26 =>
  (gdL h h26 [v0, h23.length, x24]).bind fun _ =>
  (FX3_init h26 h23.length).bind fun h28 =>
  (rst h28 x24 3 h23.length).bind fun h29 =>
  (gfr h29 2 v0 0).bind fun x30 =>
  (gdL h h29 [v0, x30]).bind fun _ =>
  (nwo h29 3).bind fun h32 =>
  (gdL h h32 [v0, h29.length, x30]).bind fun _ =>
  (FX3_init h32 h29.length).bind fun h34 =>
  (rst h34 x30 4 h29.length).bind fun h35 =>
  (gfr h35 2 v0 0).bind fun x36 =>
  (gdL h h35 [v0, x36]).bind fun _ =>
  (nwo h35 3).bind fun h38 =>
  (gdL h h38 [v0, h35.length, x36]).bind fun _ =>
  (FX3_init h38 h35.length).bind fun h40 =>
  (rst h40 x36 5 h35.length).bind fun h41 =>
  (gfr h41 2 v0 0).bind fun x42 =>
  (gdL h h41 [v0, x42]).bind fun _ =>
  (nwo h41 3).bind fun h44 =>
  (gdL h h44 [v0, h41.length, x42]).bind fun _ =>
  (FX3_init h44 h41.length).bind fun h46 =>
  (rst h46 x42 6 h41.length).bind fun h47 =>
  (gfr h47 2 v0 0).bind fun x48 =>
  (gdL h h47 [v0, x48]).bind fun _ =>
  (nwo h47 3).bind fun h50 =>
  (gdL h h50 [v0, h47.length, x48]).bind fun _ =>
  (FX3_init h50 h47.length).bind fun h52 =>
  (rst h52 x48 7 h47.length).bind fun h53 =>
  some h53
theorem OX2_init {h : PH} {v0 : Nat} {q : PH} (hF : FX2_init h v0 = some q) : ∃ fs : List PV, h[v0]? = some (.inr (2, fs)) := by
  unfold FX2_init at hF
  obtain ⟨u0, e0, -⟩ := bnd hF
  exact isO_spec e0
set_option maxHeartbeats 4000000 in
set_option maxRecDepth 100000 in
theorem CX2_init {g : GP} {l : Launch} {ad : Nat → Nat} {h : PH} {v0 : Nat} {q : PH} (hF : FX2_init h v0 = some q) : CA g l yX2_init cX2_init 2 none rmX2_init ad h [.ref (ad v0)] (fun _ => none) q := by
  refine pw_met (by decide) (Nat.le_of_ble_eq_true rfl) ?_
  intro p e s m args below meth c ls hC hN hR hl
  have hl : lv_has ls 2 [(0, .ref (ad v0))] := hl
  unfold FX2_init at hF
  obtain ⟨u0, e0, hF⟩ := bnd hF
  have hA : ∀ k, k < h.length → ad k = ad k := fun _ _ => rfl
  refine lv_aload_n hC.1 hC.2.1 dX2_init_0 rfl (lv_at hl 0 rfl) ?_
  refine pw_oinit hC hl.1 kmX2_3 oiI oiC dX2_init_1 (Nat.le_of_ble_eq_true rfl) (Nat.le_of_ble_eq_true rfl) ?_
  refine lv_aload_n hC.1 hC.2.1 dX2_init_4 rfl (lv_at hl 0 rfl) ?_
  refine pw_bipush hC dX2_init_5 rfl ?_
  obtain ⟨u1, eu1, hF⟩ := bnd hF
  have hg1 := gdL_spec eu1
  have hl : lv_has ls 2 [(0, .ref (ad v0))] := lv_sub hl [0] rfl
  obtain ⟨h2, e2, hF⟩ := bnd hF
  refine pw_newq hC hR e2 lcX2_9 dX2_init_7 (Nat.le_of_ble_eq_true rfl) (Nat.le_of_ble_eq_true rfl) (fun ad2 H hag hR => ?_)
  have hA : ∀ k, k < h.length → ad2 k = ad k := fun k hk => (hag k (Nat.lt_of_lt_of_le hk hg1.1)).trans (hA k hk)
  rw [← hag v0 (hg1.2 _ (by simp))] at hl
  rw [← hag v0 (hg1.2 _ (by simp))]
  obtain ⟨h3, e3, hF⟩ := bnd hF
  refine pw_pfr hC hR e3 fpX2_11 rfl (Or.inr hN) dX2_init_10 (fun H locs hR => ?_)
  refine lv_aload_n hC.1 hC.2.1 dX2_init_13 rfl (lv_at hl 0 rfl) ?_
  refine pw_iconst hC dX2_init_14 ?_
  obtain ⟨h4, e4, hF⟩ := bnd hF
  refine pw_pfi hC hR e4 fpX2_17 (Or.inl rfl) dX2_init_15 (fun H locs hR => ?_)
  refine lv_aload_n hC.1 hC.2.1 dX2_init_18 rfl (lv_at hl 0 rfl) ?_
  refine pw_iconst hC dX2_init_19 ?_
  obtain ⟨h5, e5, hF⟩ := bnd hF
  refine pw_pfi hC hR e5 fpX2_21 (Or.inl rfl) dX2_init_20 (fun H locs hR => ?_)
  refine pw_iconst hC dX2_init_23 ?_
  refine lv_istore_n (lv' := [(1, .int (Int32.ofInt 0)), (0, .ref (ad2 v0))]) hC.1 hC.2.1 dX2_init_24 rfl hl (by decide) rfl (fun ls hl => ?_)
  refine lv_iload_n hC.1 hC.2.1 dX2_init_25 rfl (lv_at hl 0 rfl) ?_
  refine pw_bipush hC dX2_init_26 rfl ?_
  refine pw_icmpge hC 50 dX2_init_28 (by decide) (fun hc => absurd hc (by decide +kernel)) (fun _ => ?_)
  refine lv_aload_n hC.1 hC.2.1 dX2_init_31 rfl (lv_at hl 1 rfl) ?_
  obtain ⟨x6, e6, hF⟩ := bnd hF
  refine pw_gfr hC hR e6 flX2_11 dX2_init_32 ?_
  refine lv_iload_n hC.1 hC.2.1 dX2_init_35 rfl (lv_at hl 0 rfl) ?_
  obtain ⟨u7, eu7, hF⟩ := bnd hF
  have hg7 := gdL_spec eu7
  have hl : lv_has ls 2 [(1, .int (Int32.ofInt 0)), (0, .ref (ad2 v0))] := lv_sub hl [0, 1] rfl
  obtain ⟨h8, e8, hF⟩ := bnd hF
  refine pw_new hC hR e8 nwX2_9 dX2_init_36 (Nat.le_of_ble_eq_true rfl) (Nat.le_of_ble_eq_true rfl) (fun ad8 H hag hR => ?_)
  have hA : ∀ k, k < h.length → ad8 k = ad k := fun k hk => (hag k (Nat.lt_of_lt_of_le hk hg7.1)).trans (hA k hk)
  rw [← hag v0 (hg7.2 _ (by simp))] at hl
  rw [← hag x6 (hg7.2 _ (by simp))]
  refine lv_dup hC.1 hC.2.1 dX2_init_39 rfl ?_
  obtain ⟨u9, eu9, hF⟩ := bnd hF
  have hg9 := gdL_spec eu9
  have hl : lv_has ls 2 [(1, .int (Int32.ofInt 0)), (0, .ref (ad8 v0))] := lv_sub hl [0, 1] rfl
  obtain ⟨h10, e10, hF⟩ := bnd hF
  refine pw_cINA (rest := [.ref (ad8 h5.length), .int (Int32.ofInt 0), .ref (ad8 x6)]) hC hR (by decide) liX2_24 (CX3_init e10) rfl hl.1 rfl ⟨(Nat.le_of_ble_eq_true rfl), (Nat.le_of_ble_eq_true rfl)⟩ (Nat.le_of_ble_eq_true rfl) dX2_init_40 ⟨(Nat.le_of_ble_eq_true rfl), (Nat.le_of_ble_eq_true rfl)⟩ (fun ad10 H locs hag hR => ?_)
  have hA : ∀ k, k < h.length → ad10 k = ad k := fun k hk => (hag k (Nat.lt_of_lt_of_le hk hg9.1)).trans (hA k hk)
  rw [← hag v0 (hg9.2 _ (by simp))] at hl
  rw [← hag h5.length (hg9.2 _ (by simp))]
  rw [← hag x6 (hg9.2 _ (by simp))]
  obtain ⟨h11, e11, hF⟩ := bnd hF
  refine pw_rast hC hR e11 dX2_init_43 (fun H locs hR => ?_)
  refine pw_iinc (lv' := [(1, .int (Int32.ofInt 1)), (0, .ref (ad10 v0))]) hC hl 0 dX2_init_44 rfl (by decide) rfl (fun ls hl => ?_)
  refine pw_goto hC 25 dX2_init_47 (by decide) ?_
  refine lv_iload_n hC.1 hC.2.1 dX2_init_25 rfl (lv_at hl 0 rfl) ?_
  refine pw_bipush hC dX2_init_26 rfl ?_
  refine pw_icmpge hC 50 dX2_init_28 (by decide) (fun hc => absurd hc (by decide +kernel)) (fun _ => ?_)
  refine lv_aload_n hC.1 hC.2.1 dX2_init_31 rfl (lv_at hl 1 rfl) ?_
  obtain ⟨x12, e12, hF⟩ := bnd hF
  refine pw_gfr hC hR e12 flX2_11 dX2_init_32 ?_
  refine lv_iload_n hC.1 hC.2.1 dX2_init_35 rfl (lv_at hl 0 rfl) ?_
  obtain ⟨u13, eu13, hF⟩ := bnd hF
  have hg13 := gdL_spec eu13
  have hl : lv_has ls 2 [(1, .int (Int32.ofInt 1)), (0, .ref (ad10 v0))] := lv_sub hl [0, 1] rfl
  obtain ⟨h14, e14, hF⟩ := bnd hF
  refine pw_new hC hR e14 nwX2_9 dX2_init_36 (Nat.le_of_ble_eq_true rfl) (Nat.le_of_ble_eq_true rfl) (fun ad14 H hag hR => ?_)
  have hA : ∀ k, k < h.length → ad14 k = ad k := fun k hk => (hag k (Nat.lt_of_lt_of_le hk hg13.1)).trans (hA k hk)
  rw [← hag v0 (hg13.2 _ (by simp))] at hl
  rw [← hag x12 (hg13.2 _ (by simp))]
  refine lv_dup hC.1 hC.2.1 dX2_init_39 rfl ?_
  obtain ⟨u15, eu15, hF⟩ := bnd hF
  have hg15 := gdL_spec eu15
  have hl : lv_has ls 2 [(1, .int (Int32.ofInt 1)), (0, .ref (ad14 v0))] := lv_sub hl [0, 1] rfl
  obtain ⟨h16, e16, hF⟩ := bnd hF
  refine pw_cINA (rest := [.ref (ad14 h11.length), .int (Int32.ofInt 1), .ref (ad14 x12)]) hC hR (by decide) liX2_24 (CX3_init e16) rfl hl.1 rfl ⟨(Nat.le_of_ble_eq_true rfl), (Nat.le_of_ble_eq_true rfl)⟩ (Nat.le_of_ble_eq_true rfl) dX2_init_40 ⟨(Nat.le_of_ble_eq_true rfl), (Nat.le_of_ble_eq_true rfl)⟩ (fun ad16 H locs hag hR => ?_)
  have hA : ∀ k, k < h.length → ad16 k = ad k := fun k hk => (hag k (Nat.lt_of_lt_of_le hk hg15.1)).trans (hA k hk)
  rw [← hag v0 (hg15.2 _ (by simp))] at hl
  rw [← hag h11.length (hg15.2 _ (by simp))]
  rw [← hag x12 (hg15.2 _ (by simp))]
  obtain ⟨h17, e17, hF⟩ := bnd hF
  refine pw_rast hC hR e17 dX2_init_43 (fun H locs hR => ?_)
  refine pw_iinc (lv' := [(1, .int (Int32.ofInt 2)), (0, .ref (ad16 v0))]) hC hl 0 dX2_init_44 rfl (by decide) rfl (fun ls hl => ?_)
  refine pw_goto hC 25 dX2_init_47 (by decide) ?_
  refine lv_iload_n hC.1 hC.2.1 dX2_init_25 rfl (lv_at hl 0 rfl) ?_
  refine pw_bipush hC dX2_init_26 rfl ?_
  refine pw_icmpge hC 50 dX2_init_28 (by decide) (fun hc => absurd hc (by decide +kernel)) (fun _ => ?_)
  refine lv_aload_n hC.1 hC.2.1 dX2_init_31 rfl (lv_at hl 1 rfl) ?_
  obtain ⟨x18, e18, hF⟩ := bnd hF
  refine pw_gfr hC hR e18 flX2_11 dX2_init_32 ?_
  refine lv_iload_n hC.1 hC.2.1 dX2_init_35 rfl (lv_at hl 0 rfl) ?_
  obtain ⟨u19, eu19, hF⟩ := bnd hF
  have hg19 := gdL_spec eu19
  have hl : lv_has ls 2 [(1, .int (Int32.ofInt 2)), (0, .ref (ad16 v0))] := lv_sub hl [0, 1] rfl
  obtain ⟨h20, e20, hF⟩ := bnd hF
  refine pw_new hC hR e20 nwX2_9 dX2_init_36 (Nat.le_of_ble_eq_true rfl) (Nat.le_of_ble_eq_true rfl) (fun ad20 H hag hR => ?_)
  have hA : ∀ k, k < h.length → ad20 k = ad k := fun k hk => (hag k (Nat.lt_of_lt_of_le hk hg19.1)).trans (hA k hk)
  rw [← hag v0 (hg19.2 _ (by simp))] at hl
  rw [← hag x18 (hg19.2 _ (by simp))]
  refine lv_dup hC.1 hC.2.1 dX2_init_39 rfl ?_
  obtain ⟨u21, eu21, hF⟩ := bnd hF
  have hg21 := gdL_spec eu21
  have hl : lv_has ls 2 [(1, .int (Int32.ofInt 2)), (0, .ref (ad20 v0))] := lv_sub hl [0, 1] rfl
  obtain ⟨h22, e22, hF⟩ := bnd hF
  refine pw_cINA (rest := [.ref (ad20 h17.length), .int (Int32.ofInt 2), .ref (ad20 x18)]) hC hR (by decide) liX2_24 (CX3_init e22) rfl hl.1 rfl ⟨(Nat.le_of_ble_eq_true rfl), (Nat.le_of_ble_eq_true rfl)⟩ (Nat.le_of_ble_eq_true rfl) dX2_init_40 ⟨(Nat.le_of_ble_eq_true rfl), (Nat.le_of_ble_eq_true rfl)⟩ (fun ad22 H locs hag hR => ?_)
  have hA : ∀ k, k < h.length → ad22 k = ad k := fun k hk => (hag k (Nat.lt_of_lt_of_le hk hg21.1)).trans (hA k hk)
  rw [← hag v0 (hg21.2 _ (by simp))] at hl
  rw [← hag h17.length (hg21.2 _ (by simp))]
  rw [← hag x18 (hg21.2 _ (by simp))]
  obtain ⟨h23, e23, hF⟩ := bnd hF
  refine pw_rast hC hR e23 dX2_init_43 (fun H locs hR => ?_)
  refine pw_iinc (lv' := [(1, .int (Int32.ofInt 3)), (0, .ref (ad22 v0))]) hC hl 0 dX2_init_44 rfl (by decide) rfl (fun ls hl => ?_)
  refine pw_goto hC 25 dX2_init_47 (by decide) ?_
  refine lv_iload_n hC.1 hC.2.1 dX2_init_25 rfl (lv_at hl 0 rfl) ?_
  refine pw_bipush hC dX2_init_26 rfl ?_
  refine pw_icmpge hC 50 dX2_init_28 (by decide) (fun hc => absurd hc (by decide +kernel)) (fun _ => ?_)
  refine lv_aload_n hC.1 hC.2.1 dX2_init_31 rfl (lv_at hl 1 rfl) ?_
  obtain ⟨x24, e24, hF⟩ := bnd hF
  refine pw_gfr hC hR e24 flX2_11 dX2_init_32 ?_
  refine lv_iload_n hC.1 hC.2.1 dX2_init_35 rfl (lv_at hl 0 rfl) ?_
  obtain ⟨u25, eu25, hF⟩ := bnd hF
  have hg25 := gdL_spec eu25
  have hl : lv_has ls 2 [(1, .int (Int32.ofInt 3)), (0, .ref (ad22 v0))] := lv_sub hl [0, 1] rfl
  obtain ⟨h26, e26, hF⟩ := bnd hF
  refine pw_new hC hR e26 nwX2_9 dX2_init_36 (Nat.le_of_ble_eq_true rfl) (Nat.le_of_ble_eq_true rfl) (fun ad26 H hag hR => ?_)
  have hA : ∀ k, k < h.length → ad26 k = ad k := fun k hk => (hag k (Nat.lt_of_lt_of_le hk hg25.1)).trans (hA k hk)
  rw [← hag v0 (hg25.2 _ (by simp))] at hl
  rw [← hag x24 (hg25.2 _ (by simp))]
  refine lv_dup hC.1 hC.2.1 dX2_init_39 rfl ?_
  obtain ⟨u27, eu27, hF⟩ := bnd hF
  have hg27 := gdL_spec eu27
  have hl : lv_has ls 2 [(1, .int (Int32.ofInt 3)), (0, .ref (ad26 v0))] := lv_sub hl [0, 1] rfl
  obtain ⟨h28, e28, hF⟩ := bnd hF
  refine pw_cINA (rest := [.ref (ad26 h23.length), .int (Int32.ofInt 3), .ref (ad26 x24)]) hC hR (by decide) liX2_24 (CX3_init e28) rfl hl.1 rfl ⟨(Nat.le_of_ble_eq_true rfl), (Nat.le_of_ble_eq_true rfl)⟩ (Nat.le_of_ble_eq_true rfl) dX2_init_40 ⟨(Nat.le_of_ble_eq_true rfl), (Nat.le_of_ble_eq_true rfl)⟩ (fun ad28 H locs hag hR => ?_)
  have hA : ∀ k, k < h.length → ad28 k = ad k := fun k hk => (hag k (Nat.lt_of_lt_of_le hk hg27.1)).trans (hA k hk)
  rw [← hag v0 (hg27.2 _ (by simp))] at hl
  rw [← hag h23.length (hg27.2 _ (by simp))]
  rw [← hag x24 (hg27.2 _ (by simp))]
  obtain ⟨h29, e29, hF⟩ := bnd hF
  refine pw_rast hC hR e29 dX2_init_43 (fun H locs hR => ?_)
  refine pw_iinc (lv' := [(1, .int (Int32.ofInt 4)), (0, .ref (ad28 v0))]) hC hl 0 dX2_init_44 rfl (by decide) rfl (fun ls hl => ?_)
  refine pw_goto hC 25 dX2_init_47 (by decide) ?_
  refine lv_iload_n hC.1 hC.2.1 dX2_init_25 rfl (lv_at hl 0 rfl) ?_
  refine pw_bipush hC dX2_init_26 rfl ?_
  refine pw_icmpge hC 50 dX2_init_28 (by decide) (fun hc => absurd hc (by decide +kernel)) (fun _ => ?_)
  refine lv_aload_n hC.1 hC.2.1 dX2_init_31 rfl (lv_at hl 1 rfl) ?_
  obtain ⟨x30, e30, hF⟩ := bnd hF
  refine pw_gfr hC hR e30 flX2_11 dX2_init_32 ?_
  refine lv_iload_n hC.1 hC.2.1 dX2_init_35 rfl (lv_at hl 0 rfl) ?_
  obtain ⟨u31, eu31, hF⟩ := bnd hF
  have hg31 := gdL_spec eu31
  have hl : lv_has ls 2 [(1, .int (Int32.ofInt 4)), (0, .ref (ad28 v0))] := lv_sub hl [0, 1] rfl
  obtain ⟨h32, e32, hF⟩ := bnd hF
  refine pw_new hC hR e32 nwX2_9 dX2_init_36 (Nat.le_of_ble_eq_true rfl) (Nat.le_of_ble_eq_true rfl) (fun ad32 H hag hR => ?_)
  have hA : ∀ k, k < h.length → ad32 k = ad k := fun k hk => (hag k (Nat.lt_of_lt_of_le hk hg31.1)).trans (hA k hk)
  rw [← hag v0 (hg31.2 _ (by simp))] at hl
  rw [← hag x30 (hg31.2 _ (by simp))]
  refine lv_dup hC.1 hC.2.1 dX2_init_39 rfl ?_
  obtain ⟨u33, eu33, hF⟩ := bnd hF
  have hg33 := gdL_spec eu33
  have hl : lv_has ls 2 [(1, .int (Int32.ofInt 4)), (0, .ref (ad32 v0))] := lv_sub hl [0, 1] rfl
  obtain ⟨h34, e34, hF⟩ := bnd hF
  refine pw_cINA (rest := [.ref (ad32 h29.length), .int (Int32.ofInt 4), .ref (ad32 x30)]) hC hR (by decide) liX2_24 (CX3_init e34) rfl hl.1 rfl ⟨(Nat.le_of_ble_eq_true rfl), (Nat.le_of_ble_eq_true rfl)⟩ (Nat.le_of_ble_eq_true rfl) dX2_init_40 ⟨(Nat.le_of_ble_eq_true rfl), (Nat.le_of_ble_eq_true rfl)⟩ (fun ad34 H locs hag hR => ?_)
  have hA : ∀ k, k < h.length → ad34 k = ad k := fun k hk => (hag k (Nat.lt_of_lt_of_le hk hg33.1)).trans (hA k hk)
  rw [← hag v0 (hg33.2 _ (by simp))] at hl
  rw [← hag h29.length (hg33.2 _ (by simp))]
  rw [← hag x30 (hg33.2 _ (by simp))]
  obtain ⟨h35, e35, hF⟩ := bnd hF
  refine pw_rast hC hR e35 dX2_init_43 (fun H locs hR => ?_)
  refine pw_iinc (lv' := [(1, .int (Int32.ofInt 5)), (0, .ref (ad34 v0))]) hC hl 0 dX2_init_44 rfl (by decide) rfl (fun ls hl => ?_)
  refine pw_goto hC 25 dX2_init_47 (by decide) ?_
  refine lv_iload_n hC.1 hC.2.1 dX2_init_25 rfl (lv_at hl 0 rfl) ?_
  refine pw_bipush hC dX2_init_26 rfl ?_
  refine pw_icmpge hC 50 dX2_init_28 (by decide) (fun hc => absurd hc (by decide +kernel)) (fun _ => ?_)
  refine lv_aload_n hC.1 hC.2.1 dX2_init_31 rfl (lv_at hl 1 rfl) ?_
  obtain ⟨x36, e36, hF⟩ := bnd hF
  refine pw_gfr hC hR e36 flX2_11 dX2_init_32 ?_
  refine lv_iload_n hC.1 hC.2.1 dX2_init_35 rfl (lv_at hl 0 rfl) ?_
  obtain ⟨u37, eu37, hF⟩ := bnd hF
  have hg37 := gdL_spec eu37
  have hl : lv_has ls 2 [(1, .int (Int32.ofInt 5)), (0, .ref (ad34 v0))] := lv_sub hl [0, 1] rfl
  obtain ⟨h38, e38, hF⟩ := bnd hF
  refine pw_new hC hR e38 nwX2_9 dX2_init_36 (Nat.le_of_ble_eq_true rfl) (Nat.le_of_ble_eq_true rfl) (fun ad38 H hag hR => ?_)
  have hA : ∀ k, k < h.length → ad38 k = ad k := fun k hk => (hag k (Nat.lt_of_lt_of_le hk hg37.1)).trans (hA k hk)
  rw [← hag v0 (hg37.2 _ (by simp))] at hl
  rw [← hag x36 (hg37.2 _ (by simp))]
  refine lv_dup hC.1 hC.2.1 dX2_init_39 rfl ?_
  obtain ⟨u39, eu39, hF⟩ := bnd hF
  have hg39 := gdL_spec eu39
  have hl : lv_has ls 2 [(1, .int (Int32.ofInt 5)), (0, .ref (ad38 v0))] := lv_sub hl [0, 1] rfl
  obtain ⟨h40, e40, hF⟩ := bnd hF
  refine pw_cINA (rest := [.ref (ad38 h35.length), .int (Int32.ofInt 5), .ref (ad38 x36)]) hC hR (by decide) liX2_24 (CX3_init e40) rfl hl.1 rfl ⟨(Nat.le_of_ble_eq_true rfl), (Nat.le_of_ble_eq_true rfl)⟩ (Nat.le_of_ble_eq_true rfl) dX2_init_40 ⟨(Nat.le_of_ble_eq_true rfl), (Nat.le_of_ble_eq_true rfl)⟩ (fun ad40 H locs hag hR => ?_)
  have hA : ∀ k, k < h.length → ad40 k = ad k := fun k hk => (hag k (Nat.lt_of_lt_of_le hk hg39.1)).trans (hA k hk)
  rw [← hag v0 (hg39.2 _ (by simp))] at hl
  rw [← hag h35.length (hg39.2 _ (by simp))]
  rw [← hag x36 (hg39.2 _ (by simp))]
  obtain ⟨h41, e41, hF⟩ := bnd hF
  refine pw_rast hC hR e41 dX2_init_43 (fun H locs hR => ?_)
  refine pw_iinc (lv' := [(1, .int (Int32.ofInt 6)), (0, .ref (ad40 v0))]) hC hl 0 dX2_init_44 rfl (by decide) rfl (fun ls hl => ?_)
  refine pw_goto hC 25 dX2_init_47 (by decide) ?_
  refine lv_iload_n hC.1 hC.2.1 dX2_init_25 rfl (lv_at hl 0 rfl) ?_
  refine pw_bipush hC dX2_init_26 rfl ?_
  refine pw_icmpge hC 50 dX2_init_28 (by decide) (fun hc => absurd hc (by decide +kernel)) (fun _ => ?_)
  refine lv_aload_n hC.1 hC.2.1 dX2_init_31 rfl (lv_at hl 1 rfl) ?_
  obtain ⟨x42, e42, hF⟩ := bnd hF
  refine pw_gfr hC hR e42 flX2_11 dX2_init_32 ?_
  refine lv_iload_n hC.1 hC.2.1 dX2_init_35 rfl (lv_at hl 0 rfl) ?_
  obtain ⟨u43, eu43, hF⟩ := bnd hF
  have hg43 := gdL_spec eu43
  have hl : lv_has ls 2 [(1, .int (Int32.ofInt 6)), (0, .ref (ad40 v0))] := lv_sub hl [0, 1] rfl
  obtain ⟨h44, e44, hF⟩ := bnd hF
  refine pw_new hC hR e44 nwX2_9 dX2_init_36 (Nat.le_of_ble_eq_true rfl) (Nat.le_of_ble_eq_true rfl) (fun ad44 H hag hR => ?_)
  have hA : ∀ k, k < h.length → ad44 k = ad k := fun k hk => (hag k (Nat.lt_of_lt_of_le hk hg43.1)).trans (hA k hk)
  rw [← hag v0 (hg43.2 _ (by simp))] at hl
  rw [← hag x42 (hg43.2 _ (by simp))]
  refine lv_dup hC.1 hC.2.1 dX2_init_39 rfl ?_
  obtain ⟨u45, eu45, hF⟩ := bnd hF
  have hg45 := gdL_spec eu45
  have hl : lv_has ls 2 [(1, .int (Int32.ofInt 6)), (0, .ref (ad44 v0))] := lv_sub hl [0, 1] rfl
  obtain ⟨h46, e46, hF⟩ := bnd hF
  refine pw_cINA (rest := [.ref (ad44 h41.length), .int (Int32.ofInt 6), .ref (ad44 x42)]) hC hR (by decide) liX2_24 (CX3_init e46) rfl hl.1 rfl ⟨(Nat.le_of_ble_eq_true rfl), (Nat.le_of_ble_eq_true rfl)⟩ (Nat.le_of_ble_eq_true rfl) dX2_init_40 ⟨(Nat.le_of_ble_eq_true rfl), (Nat.le_of_ble_eq_true rfl)⟩ (fun ad46 H locs hag hR => ?_)
  have hA : ∀ k, k < h.length → ad46 k = ad k := fun k hk => (hag k (Nat.lt_of_lt_of_le hk hg45.1)).trans (hA k hk)
  rw [← hag v0 (hg45.2 _ (by simp))] at hl
  rw [← hag h41.length (hg45.2 _ (by simp))]
  rw [← hag x42 (hg45.2 _ (by simp))]
  obtain ⟨h47, e47, hF⟩ := bnd hF
  refine pw_rast hC hR e47 dX2_init_43 (fun H locs hR => ?_)
  refine pw_iinc (lv' := [(1, .int (Int32.ofInt 7)), (0, .ref (ad46 v0))]) hC hl 0 dX2_init_44 rfl (by decide) rfl (fun ls hl => ?_)
  refine pw_goto hC 25 dX2_init_47 (by decide) ?_
  refine lv_iload_n hC.1 hC.2.1 dX2_init_25 rfl (lv_at hl 0 rfl) ?_
  refine pw_bipush hC dX2_init_26 rfl ?_
  refine pw_icmpge hC 50 dX2_init_28 (by decide) (fun hc => absurd hc (by decide +kernel)) (fun _ => ?_)
  refine lv_aload_n hC.1 hC.2.1 dX2_init_31 rfl (lv_at hl 1 rfl) ?_
  obtain ⟨x48, e48, hF⟩ := bnd hF
  refine pw_gfr hC hR e48 flX2_11 dX2_init_32 ?_
  refine lv_iload_n hC.1 hC.2.1 dX2_init_35 rfl (lv_at hl 0 rfl) ?_
  obtain ⟨u49, eu49, hF⟩ := bnd hF
  have hg49 := gdL_spec eu49
  have hl : lv_has ls 2 [(1, .int (Int32.ofInt 7)), (0, .ref (ad46 v0))] := lv_sub hl [0, 1] rfl
  obtain ⟨h50, e50, hF⟩ := bnd hF
  refine pw_new hC hR e50 nwX2_9 dX2_init_36 (Nat.le_of_ble_eq_true rfl) (Nat.le_of_ble_eq_true rfl) (fun ad50 H hag hR => ?_)
  have hA : ∀ k, k < h.length → ad50 k = ad k := fun k hk => (hag k (Nat.lt_of_lt_of_le hk hg49.1)).trans (hA k hk)
  rw [← hag v0 (hg49.2 _ (by simp))] at hl
  rw [← hag x48 (hg49.2 _ (by simp))]
  refine lv_dup hC.1 hC.2.1 dX2_init_39 rfl ?_
  obtain ⟨u51, eu51, hF⟩ := bnd hF
  have hg51 := gdL_spec eu51
  have hl : lv_has ls 2 [(1, .int (Int32.ofInt 7)), (0, .ref (ad50 v0))] := lv_sub hl [0, 1] rfl
  obtain ⟨h52, e52, hF⟩ := bnd hF
  refine pw_cINA (rest := [.ref (ad50 h47.length), .int (Int32.ofInt 7), .ref (ad50 x48)]) hC hR (by decide) liX2_24 (CX3_init e52) rfl hl.1 rfl ⟨(Nat.le_of_ble_eq_true rfl), (Nat.le_of_ble_eq_true rfl)⟩ (Nat.le_of_ble_eq_true rfl) dX2_init_40 ⟨(Nat.le_of_ble_eq_true rfl), (Nat.le_of_ble_eq_true rfl)⟩ (fun ad52 H locs hag hR => ?_)
  have hA : ∀ k, k < h.length → ad52 k = ad k := fun k hk => (hag k (Nat.lt_of_lt_of_le hk hg51.1)).trans (hA k hk)
  rw [← hag v0 (hg51.2 _ (by simp))] at hl
  rw [← hag h47.length (hg51.2 _ (by simp))]
  rw [← hag x48 (hg51.2 _ (by simp))]
  obtain ⟨h53, e53, hF⟩ := bnd hF
  refine pw_rast hC hR e53 dX2_init_43 (fun H locs hR => ?_)
  refine pw_iinc (lv' := [(1, .int (Int32.ofInt 8)), (0, .ref (ad52 v0))]) hC hl 0 dX2_init_44 rfl (by decide) rfl (fun ls hl => ?_)
  refine pw_goto hC 25 dX2_init_47 (by decide) ?_
  refine lv_iload_n hC.1 hC.2.1 dX2_init_25 rfl (lv_at hl 0 rfl) ?_
  refine pw_bipush hC dX2_init_26 rfl ?_
  refine pw_icmpge hC 50 dX2_init_28 (by decide) (fun _ => ?_) (fun hc => absurd hc (by decide +kernel))
  cases hF
  exact pw_vretA hC hA hR (Nat.le_of_ble_eq_true rfl) (Nat.le_of_ble_eq_true rfl) dX2_init_50
abbrev rmX5_init : Room := { frames := 1, cells := 1, slots := 900, locals := 20 }
def FX5_init (h : PH) (v0 : Nat) : Option (PH) :=
  (isO h 5 v0).bind fun _ =>
  (gdL h h [v0]).bind fun _ =>
  (nwa h 1 900).bind fun h2 =>
  (pfr h2 5 v0 0 h.length).bind fun h3 =>
  (pfi h3 5 v0 1 0).bind fun h4 =>
  (pfi h4 5 v0 2 0).bind fun h5 =>
  (pfi h5 5 v0 3 0).bind fun h6 =>
  (pfi h6 5 v0 4 0).bind fun h7 =>
  (pfi h7 5 v0 5 0).bind fun h8 =>
  (pfi h8 5 v0 6 0).bind fun h9 =>
  some h9
theorem OX5_init {h : PH} {v0 : Nat} {q : PH} (hF : FX5_init h v0 = some q) : ∃ fs : List PV, h[v0]? = some (.inr (5, fs)) := by
  unfold FX5_init at hF
  obtain ⟨u0, e0, -⟩ := bnd hF
  exact isO_spec e0
set_option maxHeartbeats 4000000 in
set_option maxRecDepth 100000 in
theorem CX5_init {g : GP} {l : Launch} {ad : Nat → Nat} {h : PH} {v0 : Nat} {q : PH} (hF : FX5_init h v0 = some q) : CA g l yX5_init cX5_init 1 none rmX5_init ad h [.ref (ad v0)] (fun _ => none) q := by
  refine pw_met (by decide) (Nat.le_of_ble_eq_true rfl) ?_
  intro p e s m args below meth c ls hC hN hR hl
  have hl : lv_has ls 1 [(0, .ref (ad v0))] := hl
  unfold FX5_init at hF
  obtain ⟨u0, e0, hF⟩ := bnd hF
  have hA : ∀ k, k < h.length → ad k = ad k := fun _ _ => rfl
  refine lv_aload_n hC.1 hC.2.1 dX5_init_0 rfl (lv_at hl 0 rfl) ?_
  refine pw_oinit hC hl.1 kmX5_3 oiI oiC dX5_init_1 (Nat.le_of_ble_eq_true rfl) (Nat.le_of_ble_eq_true rfl) ?_
  refine lv_aload_n hC.1 hC.2.1 dX5_init_4 rfl (lv_at hl 0 rfl) ?_
  refine pw_sipush hC dX5_init_5 rfl ?_
  obtain ⟨u1, eu1, hF⟩ := bnd hF
  have hg1 := gdL_spec eu1
  have hl : lv_has ls 1 [(0, .ref (ad v0))] := lv_sub hl [0] rfl
  obtain ⟨h2, e2, hF⟩ := bnd hF
  refine pw_newa hC hR e2 acB rfl (Or.inr (Or.inl ⟨rfl, rfl, rfl⟩)) dX5_init_8 (Nat.le_of_ble_eq_true rfl) (Nat.le_of_ble_eq_true rfl) (fun ad2 H hag hR => ?_)
  have hA : ∀ k, k < h.length → ad2 k = ad k := fun k hk => (hag k (Nat.lt_of_lt_of_le hk hg1.1)).trans (hA k hk)
  rw [← hag v0 (hg1.2 _ (by simp))] at hl
  rw [← hag v0 (hg1.2 _ (by simp))]
  obtain ⟨h3, e3, hF⟩ := bnd hF
  refine pw_pfr hC hR e3 fpX5_9 rfl (Or.inr hN) dX5_init_10 (fun H locs hR => ?_)
  refine lv_aload_n hC.1 hC.2.1 dX5_init_13 rfl (lv_at hl 0 rfl) ?_
  refine pw_iconst hC dX5_init_14 ?_
  obtain ⟨h4, e4, hF⟩ := bnd hF
  refine pw_pfi hC hR e4 fpX5_15 (Or.inl rfl) dX5_init_15 (fun H locs hR => ?_)
  refine lv_aload_n hC.1 hC.2.1 dX5_init_18 rfl (lv_at hl 0 rfl) ?_
  refine pw_iconst hC dX5_init_19 ?_
  obtain ⟨h5, e5, hF⟩ := bnd hF
  refine pw_pfi hC hR e5 fpX5_19 (Or.inl rfl) dX5_init_20 (fun H locs hR => ?_)
  refine lv_aload_n hC.1 hC.2.1 dX5_init_23 rfl (lv_at hl 0 rfl) ?_
  refine pw_iconst hC dX5_init_24 ?_
  obtain ⟨h6, e6, hF⟩ := bnd hF
  refine pw_pfi hC hR e6 fpX5_22 (Or.inl rfl) dX5_init_25 (fun H locs hR => ?_)
  refine lv_aload_n hC.1 hC.2.1 dX5_init_28 rfl (lv_at hl 0 rfl) ?_
  refine pw_iconst hC dX5_init_29 ?_
  obtain ⟨h7, e7, hF⟩ := bnd hF
  refine pw_pfi hC hR e7 fpX5_25 (Or.inl rfl) dX5_init_30 (fun H locs hR => ?_)
  refine lv_aload_n hC.1 hC.2.1 dX5_init_33 rfl (lv_at hl 0 rfl) ?_
  refine pw_iconst hC dX5_init_34 ?_
  obtain ⟨h8, e8, hF⟩ := bnd hF
  refine pw_pfi hC hR e8 fpX5_28 (Or.inl rfl) dX5_init_35 (fun H locs hR => ?_)
  refine lv_aload_n hC.1 hC.2.1 dX5_init_38 rfl (lv_at hl 0 rfl) ?_
  refine pw_iconst hC dX5_init_39 ?_
  obtain ⟨h9, e9, hF⟩ := bnd hF
  refine pw_pfi hC hR e9 fpX5_31 (Or.inl rfl) dX5_init_40 (fun H locs hR => ?_)
  cases hF
  exact pw_vretA hC hA hR (Nat.le_of_ble_eq_true rfl) (Nat.le_of_ble_eq_true rfl) dX5_init_43
end
