section
variable {p : Program} {l : Launch} {e : Env} {s : State} {m : MethodId} {args : Array Value} {below : List Frame} {meth : Method} {c : Code} {H : Heap} {locs : List Loc} {ls : Array Slot} {g : GP} {ad : Nat → Nat}
abbrev rmX4_init : Room := { frames := 2, cells := 3, slots := 1807, locals := 40 }
def FX4_init (h : PH) (v0 : Nat) : Option (PH) :=
  (isO h 4 v0).bind fun _ =>
  (gdL h h [v0]).bind fun _ =>
  (nwo h 5).bind fun h2 =>
  (gdL h h2 [v0, h.length]).bind fun _ =>
  (FX5_init h2 h.length).bind fun h4 =>
  (pfr h4 4 v0 0 h.length).bind fun h5 =>
  (pfi h5 4 v0 1 0).bind fun h6 =>
  (pfi h6 4 v0 2 (-1)).bind fun h7 =>
  (gdL h h7 [v0]).bind fun _ =>
  (nwa h7 0 900).bind fun h9 =>
  (pfr h9 4 v0 3 h7.length).bind fun h10 =>
  (pfi h10 4 v0 4 0).bind fun h11 =>
  (pfi h11 4 v0 5 0).bind fun h12 =>
  some h12
theorem OX4_init {h : PH} {v0 : Nat} {q : PH} (hF : FX4_init h v0 = some q) : ∃ fs : List PV, h[v0]? = some (.inr (4, fs)) := by
  unfold FX4_init at hF
  obtain ⟨u0, e0, -⟩ := bnd hF
  exact isO_spec e0
set_option maxHeartbeats 4000000 in
set_option maxRecDepth 100000 in
theorem CX4_init {g : GP} {l : Launch} {ad : Nat → Nat} {h : PH} {v0 : Nat} {q : PH} (hF : FX4_init h v0 = some q) : CA g l yX4_init cX4_init 1 none rmX4_init ad h [.ref (ad v0)] (fun _ => none) q := by
  refine pw_met (by decide) (Nat.le_of_ble_eq_true rfl) ?_
  intro p e s m args below meth c ls hC hN hR hl
  have hl : lv_has ls 1 [(0, .ref (ad v0))] := hl
  unfold FX4_init at hF
  obtain ⟨u0, e0, hF⟩ := bnd hF
  have hA : ∀ k, k < h.length → ad k = ad k := fun _ _ => rfl
  refine lv_aload_n hC.1 hC.2.1 dX4_init_0 rfl (lv_at hl 0 rfl) ?_
  refine pw_oinit hC hl.1 kmX4_3 oiI oiC dX4_init_1 (Nat.le_of_ble_eq_true rfl) (Nat.le_of_ble_eq_true rfl) ?_
  refine lv_aload_n hC.1 hC.2.1 dX4_init_4 rfl (lv_at hl 0 rfl) ?_
  obtain ⟨u1, eu1, hF⟩ := bnd hF
  have hg1 := gdL_spec eu1
  have hl : lv_has ls 1 [(0, .ref (ad v0))] := lv_sub hl [0] rfl
  obtain ⟨h2, e2, hF⟩ := bnd hF
  refine pw_new hC hR e2 nwX4_9 dX4_init_5 (Nat.le_of_ble_eq_true rfl) (Nat.le_of_ble_eq_true rfl) (fun ad2 H hag hR => ?_)
  have hA : ∀ k, k < h.length → ad2 k = ad k := fun k hk => (hag k (Nat.lt_of_lt_of_le hk hg1.1)).trans (hA k hk)
  rw [← hag v0 (hg1.2 _ (by simp))] at hl
  rw [← hag v0 (hg1.2 _ (by simp))]
  refine lv_dup hC.1 hC.2.1 dX4_init_8 rfl ?_
  obtain ⟨u3, eu3, hF⟩ := bnd hF
  have hg3 := gdL_spec eu3
  have hl : lv_has ls 1 [(0, .ref (ad2 v0))] := lv_sub hl [0] rfl
  obtain ⟨h4, e4, hF⟩ := bnd hF
  refine pw_cINA (rest := [.ref (ad2 h.length), .ref (ad2 v0)]) hC hR (by decide) liX4_11 (CX5_init e4) rfl hl.1 rfl ⟨(Nat.le_of_ble_eq_true rfl), (Nat.le_of_ble_eq_true rfl)⟩ (Nat.le_of_ble_eq_true rfl) dX4_init_9 ⟨(Nat.le_of_ble_eq_true rfl), (Nat.le_of_ble_eq_true rfl)⟩ (fun ad4 H locs hag hR => ?_)
  have hA : ∀ k, k < h.length → ad4 k = ad k := fun k hk => (hag k (Nat.lt_of_lt_of_le hk hg3.1)).trans (hA k hk)
  rw [← hag v0 (hg3.2 _ (by simp))] at hl
  rw [← hag h.length (hg3.2 _ (by simp))]
  rw [← hag v0 (hg3.2 _ (by simp))]
  obtain ⟨h5, e5, hF⟩ := bnd hF
  refine pw_pfr hC hR e5 fpX4_12 rfl (Or.inr hN) dX4_init_12 (fun H locs hR => ?_)
  refine lv_aload_n hC.1 hC.2.1 dX4_init_15 rfl (lv_at hl 0 rfl) ?_
  refine pw_iconst hC dX4_init_16 ?_
  obtain ⟨h6, e6, hF⟩ := bnd hF
  refine pw_pfi hC hR e6 fpX4_18 (Or.inl rfl) dX4_init_17 (fun H locs hR => ?_)
  refine lv_aload_n hC.1 hC.2.1 dX4_init_20 rfl (lv_at hl 0 rfl) ?_
  refine pw_iconst hC dX4_init_21 ?_
  obtain ⟨h7, e7, hF⟩ := bnd hF
  refine pw_pfi hC hR e7 fpX4_22 (Or.inl rfl) dX4_init_22 (fun H locs hR => ?_)
  refine lv_aload_n hC.1 hC.2.1 dX4_init_25 rfl (lv_at hl 0 rfl) ?_
  refine pw_sipush hC dX4_init_26 rfl ?_
  obtain ⟨u8, eu8, hF⟩ := bnd hF
  have hg8 := gdL_spec eu8
  have hl : lv_has ls 1 [(0, .ref (ad4 v0))] := lv_sub hl [0] rfl
  obtain ⟨h9, e9, hF⟩ := bnd hF
  refine pw_newa hC hR e9 acI rfl (Or.inl ⟨rfl, rfl, rfl⟩) dX4_init_29 (Nat.le_of_ble_eq_true rfl) (Nat.le_of_ble_eq_true rfl) (fun ad9 H hag hR => ?_)
  have hA : ∀ k, k < h.length → ad9 k = ad k := fun k hk => (hag k (Nat.lt_of_lt_of_le hk hg8.1)).trans (hA k hk)
  rw [← hag v0 (hg8.2 _ (by simp))] at hl
  rw [← hag v0 (hg8.2 _ (by simp))]
  obtain ⟨h10, e10, hF⟩ := bnd hF
  refine pw_pfr hC hR e10 fpX4_25 rfl (Or.inr hN) dX4_init_31 (fun H locs hR => ?_)
  refine lv_aload_n hC.1 hC.2.1 dX4_init_34 rfl (lv_at hl 0 rfl) ?_
  refine pw_iconst hC dX4_init_35 ?_
  obtain ⟨h11, e11, hF⟩ := bnd hF
  refine pw_pfi hC hR e11 fpX4_29 (Or.inl rfl) dX4_init_36 (fun H locs hR => ?_)
  refine lv_aload_n hC.1 hC.2.1 dX4_init_39 rfl (lv_at hl 0 rfl) ?_
  refine pw_iconst hC dX4_init_40 ?_
  obtain ⟨h12, e12, hF⟩ := bnd hF
  refine pw_pfz hC hR e12 (Or.inl rfl) fpX4_32 (Or.inl rfl) dX4_init_41 (fun H locs hR => ?_)
  cases hF
  exact pw_vretA hC hA hR (Nat.le_of_ble_eq_true rfl) (Nat.le_of_ble_eq_true rfl) dX4_init_44
abbrev rmX7_init : Room := { frames := 4, cells := 226, slots := 5414, locals := 82 }
def FX7_init (h : PH) (v0 : Nat) : Option (PH) :=
  (isO h 7 v0).bind fun _ =>
  (gdL h h [v0]).bind fun _ =>
  (nwo h 4).bind fun h2 =>
  (gdL h h2 [v0, h.length]).bind fun _ =>
  (FX4_init h2 h.length).bind fun h4 =>
  (pfr h4 7 v0 0 h.length).bind fun h5 =>
  (gdL h h5 [v0]).bind fun _ =>
  (nwo h5 3).bind fun h7 =>
  (gdL h h7 [v0, h5.length]).bind fun _ =>
  (FX3_init h7 h5.length).bind fun h9 =>
  (pfr h9 7 v0 1 h5.length).bind fun h10 =>
  (gdL h h10 [v0]).bind fun _ =>
  (nwo h10 3).bind fun h12 =>
  (gdL h h12 [v0, h10.length]).bind fun _ =>
  (FX3_init h12 h10.length).bind fun h14 =>
  (pfr h14 7 v0 2 h10.length).bind fun h15 =>
  (gdL h h15 [v0]).bind fun _ =>
  (nwo h15 2).bind fun h17 =>
  (gdL h h17 [v0, h15.length]).bind fun _ =>
  (FX2_init h17 h15.length).bind fun h19 =>
  (pfr h19 7 v0 3 h15.length).bind fun h20 =>
  (pfi h20 7 v0 4 (-1)).bind fun h21 =>
  some h21
theorem OX7_init {h : PH} {v0 : Nat} {q : PH} (hF : FX7_init h v0 = some q) : ∃ fs : List PV, h[v0]? = some (.inr (7, fs)) := by
  unfold FX7_init at hF
  obtain ⟨u0, e0, -⟩ := bnd hF
  exact isO_spec e0
set_option maxHeartbeats 4000000 in
set_option maxRecDepth 100000 in
theorem CX7_init {g : GP} {l : Launch} {ad : Nat → Nat} {h : PH} {v0 : Nat} {q : PH} (hF : FX7_init h v0 = some q) : CA g l yX7_init cX7_init 1 none rmX7_init ad h [.ref (ad v0)] (fun _ => none) q := by
  refine pw_met (by decide) (Nat.le_of_ble_eq_true rfl) ?_
  intro p e s m args below meth c ls hC hN hR hl
  have hl : lv_has ls 1 [(0, .ref (ad v0))] := hl
  unfold FX7_init at hF
  obtain ⟨u0, e0, hF⟩ := bnd hF
  have hA : ∀ k, k < h.length → ad k = ad k := fun _ _ => rfl
  refine lv_aload_n hC.1 hC.2.1 dX7_init_0 rfl (lv_at hl 0 rfl) ?_
  refine pw_oinit hC hl.1 kmX7_1 oiI oiC dX7_init_1 (Nat.le_of_ble_eq_true rfl) (Nat.le_of_ble_eq_true rfl) ?_
  refine lv_aload_n hC.1 hC.2.1 dX7_init_4 rfl (lv_at hl 0 rfl) ?_
  obtain ⟨u1, eu1, hF⟩ := bnd hF
  have hg1 := gdL_spec eu1
  have hl : lv_has ls 1 [(0, .ref (ad v0))] := lv_sub hl [0] rfl
  obtain ⟨h2, e2, hF⟩ := bnd hF
  refine pw_new hC hR e2 nwX7_7 dX7_init_5 (Nat.le_of_ble_eq_true rfl) (Nat.le_of_ble_eq_true rfl) (fun ad2 H hag hR => ?_)
  have hA : ∀ k, k < h.length → ad2 k = ad k := fun k hk => (hag k (Nat.lt_of_lt_of_le hk hg1.1)).trans (hA k hk)
  rw [← hag v0 (hg1.2 _ (by simp))] at hl
  rw [← hag v0 (hg1.2 _ (by simp))]
  refine lv_dup hC.1 hC.2.1 dX7_init_8 rfl ?_
  obtain ⟨u3, eu3, hF⟩ := bnd hF
  have hg3 := gdL_spec eu3
  have hl : lv_has ls 1 [(0, .ref (ad2 v0))] := lv_sub hl [0] rfl
  obtain ⟨h4, e4, hF⟩ := bnd hF
  refine pw_cINA (rest := [.ref (ad2 h.length), .ref (ad2 v0)]) hC hR (by decide) liX7_9 (CX4_init e4) rfl hl.1 rfl ⟨(Nat.le_of_ble_eq_true rfl), (Nat.le_of_ble_eq_true rfl)⟩ (Nat.le_of_ble_eq_true rfl) dX7_init_9 ⟨(Nat.le_of_ble_eq_true rfl), (Nat.le_of_ble_eq_true rfl)⟩ (fun ad4 H locs hag hR => ?_)
  have hA : ∀ k, k < h.length → ad4 k = ad k := fun k hk => (hag k (Nat.lt_of_lt_of_le hk hg3.1)).trans (hA k hk)
  rw [← hag v0 (hg3.2 _ (by simp))] at hl
  rw [← hag h.length (hg3.2 _ (by simp))]
  rw [← hag v0 (hg3.2 _ (by simp))]
  obtain ⟨h5, e5, hF⟩ := bnd hF
  refine pw_pfr hC hR e5 fpX7_10 rfl (Or.inr hN) dX7_init_12 (fun H locs hR => ?_)
  refine lv_aload_n hC.1 hC.2.1 dX7_init_15 rfl (lv_at hl 0 rfl) ?_
  obtain ⟨u6, eu6, hF⟩ := bnd hF
  have hg6 := gdL_spec eu6
  have hl : lv_has ls 1 [(0, .ref (ad4 v0))] := lv_sub hl [0] rfl
  obtain ⟨h7, e7, hF⟩ := bnd hF
  refine pw_new hC hR e7 nwX7_16 dX7_init_16 (Nat.le_of_ble_eq_true rfl) (Nat.le_of_ble_eq_true rfl) (fun ad7 H hag hR => ?_)
  have hA : ∀ k, k < h.length → ad7 k = ad k := fun k hk => (hag k (Nat.lt_of_lt_of_le hk hg6.1)).trans (hA k hk)
  rw [← hag v0 (hg6.2 _ (by simp))] at hl
  rw [← hag v0 (hg6.2 _ (by simp))]
  refine lv_dup hC.1 hC.2.1 dX7_init_19 rfl ?_
  obtain ⟨u8, eu8, hF⟩ := bnd hF
  have hg8 := gdL_spec eu8
  have hl : lv_has ls 1 [(0, .ref (ad7 v0))] := lv_sub hl [0] rfl
  obtain ⟨h9, e9, hF⟩ := bnd hF
  refine pw_cINA (rest := [.ref (ad7 h5.length), .ref (ad7 v0)]) hC hR (by decide) liX7_18 (CX3_init e9) rfl hl.1 rfl ⟨(Nat.le_of_ble_eq_true rfl), (Nat.le_of_ble_eq_true rfl)⟩ (Nat.le_of_ble_eq_true rfl) dX7_init_20 ⟨(Nat.le_of_ble_eq_true rfl), (Nat.le_of_ble_eq_true rfl)⟩ (fun ad9 H locs hag hR => ?_)
  have hA : ∀ k, k < h.length → ad9 k = ad k := fun k hk => (hag k (Nat.lt_of_lt_of_le hk hg8.1)).trans (hA k hk)
  rw [← hag v0 (hg8.2 _ (by simp))] at hl
  rw [← hag h5.length (hg8.2 _ (by simp))]
  rw [← hag v0 (hg8.2 _ (by simp))]
  obtain ⟨h10, e10, hF⟩ := bnd hF
  refine pw_pfr hC hR e10 fpX7_19 rfl (Or.inr hN) dX7_init_23 (fun H locs hR => ?_)
  refine lv_aload_n hC.1 hC.2.1 dX7_init_26 rfl (lv_at hl 0 rfl) ?_
  obtain ⟨u11, eu11, hF⟩ := bnd hF
  have hg11 := gdL_spec eu11
  have hl : lv_has ls 1 [(0, .ref (ad9 v0))] := lv_sub hl [0] rfl
  obtain ⟨h12, e12, hF⟩ := bnd hF
  refine pw_new hC hR e12 nwX7_16 dX7_init_27 (Nat.le_of_ble_eq_true rfl) (Nat.le_of_ble_eq_true rfl) (fun ad12 H hag hR => ?_)
  have hA : ∀ k, k < h.length → ad12 k = ad k := fun k hk => (hag k (Nat.lt_of_lt_of_le hk hg11.1)).trans (hA k hk)
  rw [← hag v0 (hg11.2 _ (by simp))] at hl
  rw [← hag v0 (hg11.2 _ (by simp))]
  refine lv_dup hC.1 hC.2.1 dX7_init_30 rfl ?_
  obtain ⟨u13, eu13, hF⟩ := bnd hF
  have hg13 := gdL_spec eu13
  have hl : lv_has ls 1 [(0, .ref (ad12 v0))] := lv_sub hl [0] rfl
  obtain ⟨h14, e14, hF⟩ := bnd hF
  refine pw_cINA (rest := [.ref (ad12 h10.length), .ref (ad12 v0)]) hC hR (by decide) liX7_18 (CX3_init e14) rfl hl.1 rfl ⟨(Nat.le_of_ble_eq_true rfl), (Nat.le_of_ble_eq_true rfl)⟩ (Nat.le_of_ble_eq_true rfl) dX7_init_31 ⟨(Nat.le_of_ble_eq_true rfl), (Nat.le_of_ble_eq_true rfl)⟩ (fun ad14 H locs hag hR => ?_)
  have hA : ∀ k, k < h.length → ad14 k = ad k := fun k hk => (hag k (Nat.lt_of_lt_of_le hk hg13.1)).trans (hA k hk)
  rw [← hag v0 (hg13.2 _ (by simp))] at hl
  rw [← hag h10.length (hg13.2 _ (by simp))]
  rw [← hag v0 (hg13.2 _ (by simp))]
  obtain ⟨h15, e15, hF⟩ := bnd hF
  refine pw_pfr hC hR e15 fpX7_23 rfl (Or.inr hN) dX7_init_34 (fun H locs hR => ?_)
  refine lv_aload_n hC.1 hC.2.1 dX7_init_37 rfl (lv_at hl 0 rfl) ?_
  obtain ⟨u16, eu16, hF⟩ := bnd hF
  have hg16 := gdL_spec eu16
  have hl : lv_has ls 1 [(0, .ref (ad14 v0))] := lv_sub hl [0] rfl
  obtain ⟨h17, e17, hF⟩ := bnd hF
  refine pw_new hC hR e17 nwX7_26 dX7_init_38 (Nat.le_of_ble_eq_true rfl) (Nat.le_of_ble_eq_true rfl) (fun ad17 H hag hR => ?_)
  have hA : ∀ k, k < h.length → ad17 k = ad k := fun k hk => (hag k (Nat.lt_of_lt_of_le hk hg16.1)).trans (hA k hk)
  rw [← hag v0 (hg16.2 _ (by simp))] at hl
  rw [← hag v0 (hg16.2 _ (by simp))]
  refine lv_dup hC.1 hC.2.1 dX7_init_41 rfl ?_
  obtain ⟨u18, eu18, hF⟩ := bnd hF
  have hg18 := gdL_spec eu18
  have hl : lv_has ls 1 [(0, .ref (ad17 v0))] := lv_sub hl [0] rfl
  obtain ⟨h19, e19, hF⟩ := bnd hF
  refine pw_cIA (rest := [.ref (ad17 h15.length), .ref (ad17 v0)]) hC hR liX7_28 (CX2_init e19) rfl hl.1 rfl ⟨(Nat.le_of_ble_eq_true rfl), (Nat.le_of_ble_eq_true rfl)⟩ (Nat.le_of_ble_eq_true rfl) dX7_init_42 ⟨(Nat.le_of_ble_eq_true rfl), (Nat.le_of_ble_eq_true rfl)⟩ (fun ad19 H locs hag hR => ?_)
  have hA : ∀ k, k < h.length → ad19 k = ad k := fun k hk => (hag k (Nat.lt_of_lt_of_le hk hg18.1)).trans (hA k hk)
  rw [← hag v0 (hg18.2 _ (by simp))] at hl
  rw [← hag h15.length (hg18.2 _ (by simp))]
  rw [← hag v0 (hg18.2 _ (by simp))]
  obtain ⟨h20, e20, hF⟩ := bnd hF
  refine pw_pfr hC hR e20 fpX7_29 rfl (Or.inr hN) dX7_init_45 (fun H locs hR => ?_)
  refine lv_aload_n hC.1 hC.2.1 dX7_init_48 rfl (lv_at hl 0 rfl) ?_
  refine pw_iconst hC dX7_init_49 ?_
  obtain ⟨h21, e21, hF⟩ := bnd hF
  refine pw_pfi hC hR e21 fpX7_33 (Or.inl rfl) dX7_init_50 (fun H locs hR => ?_)
  cases hF
  exact pw_vretA hC hA hR (Nat.le_of_ble_eq_true rfl) (Nat.le_of_ble_eq_true rfl) dX7_init_53
abbrev rmX8_init : Room := { frames := 1, cells := 15, slots := 22504, locals := 20 }
def FX8_init (h : PH) (v0 : Nat) : Option (PH) :=
  (isO h 8 v0).bind fun _ =>
  (gdL h h [v0]).bind fun _ =>
  (nwa h 0 900).bind fun h2 =>
  (pfr h2 8 v0 1 h.length).bind fun h3 =>
  (pfi h3 8 v0 7 (-1)).bind fun h4 =>
  (gdL h h4 [v0]).bind fun _ =>
  (nwa h4 0 1824).bind fun h6 =>
  (pfr h6 8 v0 8 h4.length).bind fun h7 =>
  (gdL h h7 [v0]).bind fun _ =>
  (nwa h7 0 1824).bind fun h9 =>
  (pfr h9 8 v0 9 h7.length).bind fun h10 =>
  (gdL h h10 [v0]).bind fun _ =>
  (nwa h10 0 1824).bind fun h12 =>
  (pfr h12 8 v0 10 h10.length).bind fun h13 =>
  (gdL h h13 [v0]).bind fun _ =>
  (nwm h13 1824).bind fun h15 =>
  (pfr h15 8 v0 11 h13.length).bind fun h16 =>
  (gdL h h16 [v0]).bind fun _ =>
  (nwa h16 3 1500).bind fun h18 =>
  (pfr h18 8 v0 16 h16.length).bind fun h19 =>
  (gdL h h19 [v0]).bind fun _ =>
  (nwa h19 0 32).bind fun h21 =>
  (pfr h21 8 v0 17 h19.length).bind fun h22 =>
  some h22
theorem OX8_init {h : PH} {v0 : Nat} {q : PH} (hF : FX8_init h v0 = some q) : ∃ fs : List PV, h[v0]? = some (.inr (8, fs)) := by
  unfold FX8_init at hF
  obtain ⟨u0, e0, -⟩ := bnd hF
  exact isO_spec e0
set_option maxHeartbeats 4000000 in
set_option maxRecDepth 100000 in
theorem CX8_init {g : GP} {l : Launch} {ad : Nat → Nat} {h : PH} {v0 : Nat} {q : PH} (hF : FX8_init h v0 = some q) : CA g l yX8_init cX8_init 1 none rmX8_init ad h [.ref (ad v0)] (fun _ => none) q := by
  refine pw_met (by decide) (Nat.le_of_ble_eq_true rfl) ?_
  intro p e s m args below meth c ls hC hN hR hl
  have hl : lv_has ls 1 [(0, .ref (ad v0))] := hl
  unfold FX8_init at hF
  obtain ⟨u0, e0, hF⟩ := bnd hF
  have hA : ∀ k, k < h.length → ad k = ad k := fun _ _ => rfl
  refine lv_aload_n hC.1 hC.2.1 dX8_init_0 rfl (lv_at hl 0 rfl) ?_
  refine pw_oinit hC hl.1 kmX8_3 oiI oiC dX8_init_1 (Nat.le_of_ble_eq_true rfl) (Nat.le_of_ble_eq_true rfl) ?_
  refine lv_aload_n hC.1 hC.2.1 dX8_init_4 rfl (lv_at hl 0 rfl) ?_
  refine pw_sipush hC dX8_init_5 rfl ?_
  obtain ⟨u1, eu1, hF⟩ := bnd hF
  have hg1 := gdL_spec eu1
  have hl : lv_has ls 1 [(0, .ref (ad v0))] := lv_sub hl [0] rfl
  obtain ⟨h2, e2, hF⟩ := bnd hF
  refine pw_newa hC hR e2 acI rfl (Or.inl ⟨rfl, rfl, rfl⟩) dX8_init_8 (Nat.le_of_ble_eq_true rfl) (Nat.le_of_ble_eq_true rfl) (fun ad2 H hag hR => ?_)
  have hA : ∀ k, k < h.length → ad2 k = ad k := fun k hk => (hag k (Nat.lt_of_lt_of_le hk hg1.1)).trans (hA k hk)
  rw [← hag v0 (hg1.2 _ (by simp))] at hl
  rw [← hag v0 (hg1.2 _ (by simp))]
  obtain ⟨h3, e3, hF⟩ := bnd hF
  refine pw_pfr hC hR e3 fpX8_9 rfl (Or.inr hN) dX8_init_10 (fun H locs hR => ?_)
  refine lv_aload_n hC.1 hC.2.1 dX8_init_13 rfl (lv_at hl 0 rfl) ?_
  refine pw_iconst hC dX8_init_14 ?_
  obtain ⟨h4, e4, hF⟩ := bnd hF
  refine pw_pfi hC hR e4 fpX8_13 (Or.inl rfl) dX8_init_15 (fun H locs hR => ?_)
  refine lv_aload_n hC.1 hC.2.1 dX8_init_18 rfl (lv_at hl 0 rfl) ?_
  refine pw_sipush hC dX8_init_19 rfl ?_
  obtain ⟨u5, eu5, hF⟩ := bnd hF
  have hg5 := gdL_spec eu5
  have hl : lv_has ls 1 [(0, .ref (ad2 v0))] := lv_sub hl [0] rfl
  obtain ⟨h6, e6, hF⟩ := bnd hF
  refine pw_newa hC hR e6 acI rfl (Or.inl ⟨rfl, rfl, rfl⟩) dX8_init_22 (Nat.le_of_ble_eq_true rfl) (Nat.le_of_ble_eq_true rfl) (fun ad6 H hag hR => ?_)
  have hA : ∀ k, k < h.length → ad6 k = ad k := fun k hk => (hag k (Nat.lt_of_lt_of_le hk hg5.1)).trans (hA k hk)
  rw [← hag v0 (hg5.2 _ (by simp))] at hl
  rw [← hag v0 (hg5.2 _ (by simp))]
  obtain ⟨h7, e7, hF⟩ := bnd hF
  refine pw_pfr hC hR e7 fpX8_17 rfl (Or.inr hN) dX8_init_24 (fun H locs hR => ?_)
  refine lv_aload_n hC.1 hC.2.1 dX8_init_27 rfl (lv_at hl 0 rfl) ?_
  refine pw_sipush hC dX8_init_28 rfl ?_
  obtain ⟨u8, eu8, hF⟩ := bnd hF
  have hg8 := gdL_spec eu8
  have hl : lv_has ls 1 [(0, .ref (ad6 v0))] := lv_sub hl [0] rfl
  obtain ⟨h9, e9, hF⟩ := bnd hF
  refine pw_newa hC hR e9 acI rfl (Or.inl ⟨rfl, rfl, rfl⟩) dX8_init_31 (Nat.le_of_ble_eq_true rfl) (Nat.le_of_ble_eq_true rfl) (fun ad9 H hag hR => ?_)
  have hA : ∀ k, k < h.length → ad9 k = ad k := fun k hk => (hag k (Nat.lt_of_lt_of_le hk hg8.1)).trans (hA k hk)
  rw [← hag v0 (hg8.2 _ (by simp))] at hl
  rw [← hag v0 (hg8.2 _ (by simp))]
  obtain ⟨h10, e10, hF⟩ := bnd hF
  refine pw_pfr hC hR e10 fpX8_20 rfl (Or.inr hN) dX8_init_33 (fun H locs hR => ?_)
  refine lv_aload_n hC.1 hC.2.1 dX8_init_36 rfl (lv_at hl 0 rfl) ?_
  refine pw_sipush hC dX8_init_37 rfl ?_
  obtain ⟨u11, eu11, hF⟩ := bnd hF
  have hg11 := gdL_spec eu11
  have hl : lv_has ls 1 [(0, .ref (ad9 v0))] := lv_sub hl [0] rfl
  obtain ⟨h12, e12, hF⟩ := bnd hF
  refine pw_newa hC hR e12 acI rfl (Or.inl ⟨rfl, rfl, rfl⟩) dX8_init_40 (Nat.le_of_ble_eq_true rfl) (Nat.le_of_ble_eq_true rfl) (fun ad12 H hag hR => ?_)
  have hA : ∀ k, k < h.length → ad12 k = ad k := fun k hk => (hag k (Nat.lt_of_lt_of_le hk hg11.1)).trans (hA k hk)
  rw [← hag v0 (hg11.2 _ (by simp))] at hl
  rw [← hag v0 (hg11.2 _ (by simp))]
  obtain ⟨h13, e13, hF⟩ := bnd hF
  refine pw_pfr hC hR e13 fpX8_23 rfl (Or.inr hN) dX8_init_42 (fun H locs hR => ?_)
  refine lv_aload_n hC.1 hC.2.1 dX8_init_45 rfl (lv_at hl 0 rfl) ?_
  refine pw_bipush hC dX8_init_46 rfl ?_
  refine pw_sipush hC dX8_init_48 rfl ?_
  obtain ⟨u14, eu14, hF⟩ := bnd hF
  have hg14 := gdL_spec eu14
  have hl : lv_has ls 1 [(0, .ref (ad12 v0))] := lv_sub hl [0] rfl
  obtain ⟨h15, e15, hF⟩ := bnd hF
  refine pw_mna hC hR e15 lcX8_26 acI dX8_init_51 (Nat.le_of_ble_eq_true rfl) (Nat.le_of_ble_eq_true rfl) (fun ad15 H hag hR => ?_)
  have hA : ∀ k, k < h.length → ad15 k = ad k := fun k hk => (hag k (Nat.lt_of_lt_of_le hk hg14.1)).trans (hA k hk)
  rw [← hag v0 (hg14.2 _ (by simp))] at hl
  rw [← hag v0 (hg14.2 _ (by simp))]
  obtain ⟨h16, e16, hF⟩ := bnd hF
  refine pw_pfr hC hR e16 fpX8_28 rfl (Or.inr hN) dX8_init_55 (fun H locs hR => ?_)
  refine lv_aload_n hC.1 hC.2.1 dX8_init_58 rfl (lv_at hl 0 rfl) ?_
  refine pw_sipush hC dX8_init_59 rfl ?_
  obtain ⟨u17, eu17, hF⟩ := bnd hF
  have hg17 := gdL_spec eu17
  have hl : lv_has ls 1 [(0, .ref (ad15 v0))] := lv_sub hl [0] rfl
  obtain ⟨h18, e18, hF⟩ := bnd hF
  refine pw_newa hC hR e18 acJ rfl (Or.inr (Or.inr (Or.inr ⟨rfl, rfl, rfl⟩))) dX8_init_62 (Nat.le_of_ble_eq_true rfl) (Nat.le_of_ble_eq_true rfl) (fun ad18 H hag hR => ?_)
  have hA : ∀ k, k < h.length → ad18 k = ad k := fun k hk => (hag k (Nat.lt_of_lt_of_le hk hg17.1)).trans (hA k hk)
  rw [← hag v0 (hg17.2 _ (by simp))] at hl
  rw [← hag v0 (hg17.2 _ (by simp))]
  obtain ⟨h19, e19, hF⟩ := bnd hF
  refine pw_pfr hC hR e19 fpX8_31 rfl (Or.inr hN) dX8_init_64 (fun H locs hR => ?_)
  refine lv_aload_n hC.1 hC.2.1 dX8_init_67 rfl (lv_at hl 0 rfl) ?_
  refine pw_bipush hC dX8_init_68 rfl ?_
  obtain ⟨u20, eu20, hF⟩ := bnd hF
  have hg20 := gdL_spec eu20
  have hl : lv_has ls 1 [] := lv_sub hl [] rfl
  obtain ⟨h21, e21, hF⟩ := bnd hF
  refine pw_newa hC hR e21 acI rfl (Or.inl ⟨rfl, rfl, rfl⟩) dX8_init_70 (Nat.le_of_ble_eq_true rfl) (Nat.le_of_ble_eq_true rfl) (fun ad21 H hag hR => ?_)
  have hA : ∀ k, k < h.length → ad21 k = ad k := fun k hk => (hag k (Nat.lt_of_lt_of_le hk hg20.1)).trans (hA k hk)
  rw [← hag v0 (hg20.2 _ (by simp))]
  obtain ⟨h22, e22, hF⟩ := bnd hF
  refine pw_pfr hC hR e22 fpX8_35 rfl (Or.inr hN) dX8_init_72 (fun H locs hR => ?_)
  cases hF
  exact pw_vretA hC hA hR (Nat.le_of_ble_eq_true rfl) (Nat.le_of_ble_eq_true rfl) dX8_init_75
abbrev rmX4_readSetup : Room := { frames := 54, cells := 3, slots := 913, locals := 1945 }
def LX4_readSetup_35 (v0 : Nat) (v2 : Nat) (v3 : Int) (h : PH) : Option ((Int × PH) ⊕ (((PH) ⊕ (PH)))) :=
  if w32 v3 < w32 900 then (
    (gfr h 4 v0 0).bind fun x7 =>
    (gfi h 5 x7 3).bind fun x8 =>
    if w32 x8 = 0 then (
      some (.inr (.inr h))
    ) else (
      (FX4_readStatement h v0 v2).bind fun q9 =>
      if w32 q9.1 = 0 then (
        some (.inr (.inl q9.2))
      ) else (
        (FX4_takeMark q9.2 v0 59).bind fun q10 =>
        if w32 q10.1 = 0 then (
          some (.inr (.inl q10.2))
        ) else (
          some (.inl ((v3 + 1), q10.2))
        )
      )
    )
  ) else (
    some (.inr (.inr h))
  )
set_option maxHeartbeats 4000000 in
set_option maxRecDepth 100000 in
theorem LRX4_readSetup_35 {v0 : Nat} {v2 : Nat} {Q : State → Prop} (hC : Cx g p s m args meth c cX4_readSetup 4 RX4 (some .boolean)) : ∀ (n : Nat) (st : Int × PH) (ex : ((PH) ⊕ (PH))), lp (fun st : Int × PH => LX4_readSetup_35 v0 v2 st.1 st.2) n st = some ex → (Sum.elim (fun ex : PH => ∀ (H : Heap) (locs : List Loc) (ls : Array Slot), Rl g ad ex s.heap H locs → lv_has ls 4 [] → W p l e rmX4_readSetup s m args below meth c H locs 0 0 Q (F0 m 69 ls [])) (fun ex : PH => ∀ (H : Heap) (locs : List Loc) (ls : Array Slot), Rl g ad ex s.heap H locs → lv_has ls 4 [(0, .ref (ad v0)), (2, .ref (ad v2))] → W p l e rmX4_readSetup s m args below meth c H locs 0 0 Q (F0 m 77 ls []))) ex → ∀ (H : Heap) (locs : List Loc) (ls : Array Slot), Rl g ad st.2 s.heap H locs → lv_has ls 4 [(0, .ref (ad v0)), (2, .ref (ad v2)), (3, .int (Int32.ofInt st.1))] → W p l e rmX4_readSetup s m args below meth c H locs 0 0 Q (F0 m 35 ls []) := by
  refine lp_rule (Ph := (fun st : Int × PH => ∀ (H : Heap) (locs : List Loc) (ls : Array Slot), Rl g ad st.2 s.heap H locs → lv_has ls 4 [(0, .ref (ad v0)), (2, .ref (ad v2)), (3, .int (Int32.ofInt st.1))] → W p l e rmX4_readSetup s m args below meth c H locs 0 0 Q (F0 m 35 ls []))) (Px := (Sum.elim (fun ex : PH => ∀ (H : Heap) (locs : List Loc) (ls : Array Slot), Rl g ad ex s.heap H locs → lv_has ls 4 [] → W p l e rmX4_readSetup s m args below meth c H locs 0 0 Q (F0 m 69 ls [])) (fun ex : PH => ∀ (H : Heap) (locs : List Loc) (ls : Array Slot), Rl g ad ex s.heap H locs → lv_has ls 4 [(0, .ref (ad v0)), (2, .ref (ad v2))] → W p l e rmX4_readSetup s m args below meth c H locs 0 0 Q (F0 m 77 ls [])))) ?_
  rintro ⟨v3, h⟩ o hF hK H locs ls hR hl
  have hR : Rl g ad h s.heap H locs := hR
  have hl : lv_has ls 4 [(0, .ref (ad v0)), (2, .ref (ad v2)), (3, .int (Int32.ofInt v3))] := hl
  have hF : LX4_readSetup_35 v0 v2 v3 h = some o := hF
  unfold LX4_readSetup_35 at hF
  refine lv_iload_n hC.1 hC.2.1 dX4_readSetup_35 rfl (lv_at hl 2 rfl) ?_
  refine pw_sipush hC dX4_readSetup_36 rfl ?_
  refine pw_icmpge hC 77 dX4_readSetup_39 (by decide) (fun hc => ?_) (fun hc => ?_)
  · rw [if_neg hc] at hF
    cases hF
    exact hK _ _ _ hR (lv_sub hl [0, 1] rfl)
  · rw [if_pos hc] at hF
    refine lv_aload_n hC.1 hC.2.1 dX4_readSetup_42 rfl (lv_at hl 0 rfl) ?_
    obtain ⟨x7, e7, hF⟩ := bnd hF
    refine pw_gfr hC hR e7 flX4_12 dX4_readSetup_43 ?_
    obtain ⟨x8, e8, hF⟩ := bnd hF
    refine pw_gfi hC hR e8 flX4_49 dX4_readSetup_46 ?_
    refine pw_ifeq hC 77 dX4_readSetup_49 (by decide) (fun hc => ?_) (fun hc => ?_)
    · rw [if_pos hc] at hF
      cases hF
      exact hK _ _ _ hR (lv_sub hl [0, 1] rfl)
    · rw [if_neg hc] at hF
      refine lv_aload_n hC.1 hC.2.1 dX4_readSetup_52 rfl (lv_at hl 0 rfl) ?_
      refine lv_aload_n hC.1 hC.2.1 dX4_readSetup_53 rfl (lv_at hl 1 rfl) ?_
      obtain ⟨q9, e9, hF⟩ := bnd hF
      obtain ⟨fs9, ho9⟩ := OX4_readStatement e9
      refine pw_cVi (rest := []) hC hR lvX4_52 ho9 (CX4_readStatement e9) ⟨rfl, rfl⟩ rfl hl.1 rfl ⟨Nat.le_of_ble_eq_true rfl, Nat.le_of_ble_eq_true rfl⟩ (Nat.le_of_ble_eq_true rfl) dX4_readSetup_54 ⟨Nat.zero_le _, Nat.zero_le _⟩ (fun H locs hR => ?_)
      refine pw_ifeq hC 69 dX4_readSetup_57 (by decide) (fun hc => ?_) (fun hc => ?_)
      · rw [if_pos hc] at hF
        cases hF
        exact hK _ _ _ hR (lv_sub hl [] rfl)
      · rw [if_neg hc] at hF
        refine lv_aload_n hC.1 hC.2.1 dX4_readSetup_60 rfl (lv_at hl 0 rfl) ?_
        refine pw_bipush hC dX4_readSetup_61 rfl ?_
        obtain ⟨q10, e10, hF⟩ := bnd hF
        obtain ⟨fs10, ho10⟩ := OX4_takeMark e10
        refine pw_cVi (rest := []) hC hR lvX4_55 ho10 (CX4_takeMark e10) ⟨rfl, rfl⟩ rfl hl.1 rfl ⟨Nat.le_of_ble_eq_true rfl, Nat.le_of_ble_eq_true rfl⟩ (Nat.le_of_ble_eq_true rfl) dX4_readSetup_63 ⟨Nat.zero_le _, Nat.zero_le _⟩ (fun H locs hR => ?_)
        refine pw_ifne hC 71 dX4_readSetup_66 (by decide) (fun hc => ?_) (fun hc => ?_)
        · rw [if_neg hc] at hF
          refine pw_iinc (lv' := [(3, .int (Int32.ofInt (v3 + 1))), (0, .ref (ad v0)), (2, .ref (ad v2))]) hC hl 2 dX4_readSetup_71 rfl (by decide) rfl (fun ls hl => ?_)
          refine pw_goto hC 35 dX4_readSetup_74 (by decide) ?_
          cases hF
          exact hK _ _ _ hR (lv_sub hl [1, 2, 0] rfl)
        · rw [if_pos hc] at hF
          cases hF
          exact hK _ _ _ hR (lv_sub hl [] rfl)
def JX4_readSetup_69 (h0 : PH) (h : PH) : Option (Int × PH) :=
  some (0, h)
set_option maxHeartbeats 4000000 in
set_option maxRecDepth 100000 in
theorem BX4_readSetup_69 {ad0 : Nat → Nat} {h0 : PH} (hA : ∀ k, k < h0.length → ad k = ad0 k) {h : PH} (hC : Cx g p s m args meth c cX4_readSetup 4 RX4 (some .boolean)) (hR : Rl g ad h s.heap H locs) (hl : lv_has ls 4 []) {q : Int × PH} (hF : JX4_readSetup_69 h0 h  = some q) : W p l e rmX4_readSetup s m args below meth c H locs 0 0 (MQ below (QcA g ad0 h0 q.2 (fun _ => (some (.int (Int32.ofInt q.1))))) args s 3 913 (gA g)) (F0 m 69 ls []) := by
  unfold JX4_readSetup_69 at hF
  refine pw_iconst hC dX4_readSetup_69 ?_
  cases hF
  exact pw_zretA hC hA hR (Or.inl rfl) (Nat.le_of_ble_eq_true rfl) (Nat.le_of_ble_eq_true rfl) dX4_readSetup_70
def JX4_readSetup_77 (h0 : PH) (h : PH) (v0 : Nat) (v2 : Nat) : Option (Int × PH) :=
  (gdL h0 h [v0, v2]).bind fun _ =>
  (nwo h 1).bind fun h13 =>
  (gfr h13 4 v0 3).bind fun x14 =>
  (gfi h13 4 v0 4).bind fun x15 =>
  (gdL h0 h13 [h.length, v2]).bind fun _ =>
  (cpo h13 x14 x15).bind fun h17 =>
  (gdL h0 h17 [h.length, v2]).bind fun _ =>
  (FX1_init h17 h.length h13.length).bind fun h19 =>
  (pfr h19 3 v2 2 h.length).bind fun h20 =>
  some (1, h20)
set_option maxHeartbeats 4000000 in
set_option maxRecDepth 100000 in
theorem BX4_readSetup_77 {ad0 : Nat → Nat} {h0 : PH} (hA : ∀ k, k < h0.length → ad k = ad0 k) {h : PH} {v0 : Nat} {v2 : Nat} (hC : Cx g p s m args meth c cX4_readSetup 4 RX4 (some .boolean)) (hR : Rl g ad h s.heap H locs) (hl : lv_has ls 4 [(0, .ref (ad v0)), (2, .ref (ad v2))]) {q : Int × PH} (hF : JX4_readSetup_77 h0 h v0 v2 = some q) : W p l e rmX4_readSetup s m args below meth c H locs 0 0 (MQ below (QcA g ad0 h0 q.2 (fun _ => (some (.int (Int32.ofInt q.1))))) args s 3 913 (gA g)) (F0 m 77 ls []) := by
  unfold JX4_readSetup_77 at hF
  refine lv_aload_n hC.1 hC.2.1 dX4_readSetup_77 rfl (lv_at hl 1 rfl) ?_
  obtain ⟨u12, eu12, hF⟩ := bnd hF
  have hg12 := gdL_spec eu12
  have hl : lv_has ls 4 [(0, .ref (ad v0))] := lv_sub hl [0] rfl
  obtain ⟨h13, e13, hF⟩ := bnd hF
  refine pw_new hC hR e13 nwX4_36 dX4_readSetup_78 (Nat.le_of_ble_eq_true rfl) (Nat.le_of_ble_eq_true rfl) (fun ad13 H hag hR => ?_)
  have hA : ∀ k, k < h0.length → ad13 k = ad0 k := fun k hk => (hag k (Nat.lt_of_lt_of_le hk hg12.1)).trans (hA k hk)
  rw [← hag v0 (hg12.2 _ (by simp))] at hl
  rw [← hag v2 (hg12.2 _ (by simp))]
  refine lv_dup hC.1 hC.2.1 dX4_readSetup_81 rfl ?_
  refine lv_aload_n hC.1 hC.2.1 dX4_readSetup_82 rfl (lv_at hl 0 rfl) ?_
  obtain ⟨x14, e14, hF⟩ := bnd hF
  refine pw_gfr hC hR e14 flX4_25 dX4_readSetup_83 ?_
  refine lv_aload_n hC.1 hC.2.1 dX4_readSetup_86 rfl (lv_at hl 0 rfl) ?_
  obtain ⟨x15, e15, hF⟩ := bnd hF
  refine pw_gfi hC hR e15 flX4_29 dX4_readSetup_87 ?_
  obtain ⟨u16, eu16, hF⟩ := bnd hF
  have hg16 := gdL_spec eu16
  have hl : lv_has ls 4 [] := lv_sub hl [] rfl
  obtain ⟨h17, e17, hF⟩ := bnd hF
  refine pw_cpo (rest := [.ref (ad13 h.length), .ref (ad13 h.length), .ref (ad13 v2)]) hC hR e17 lsX4_59 hl.1 ⟨(Nat.le_of_ble_eq_true rfl), (Nat.le_of_ble_eq_true rfl)⟩ (Nat.le_of_ble_eq_true rfl) dX4_readSetup_90 ⟨(Nat.le_of_ble_eq_true rfl), (Nat.le_of_ble_eq_true rfl)⟩ (fun ad17 H locs hag hR => ?_)
  have hA : ∀ k, k < h0.length → ad17 k = ad0 k := fun k hk => (hag k (Nat.lt_of_lt_of_le hk hg16.1)).trans (hA k hk)
  rw [← hag h.length (hg16.2 _ (by simp))]
  rw [← hag v2 (hg16.2 _ (by simp))]
  obtain ⟨u18, eu18, hF⟩ := bnd hF
  have hg18 := gdL_spec eu18
  have hl : lv_has ls 4 [] := lv_sub hl [] rfl
  obtain ⟨h19, e19, hF⟩ := bnd hF
  refine pw_cIA (rest := [.ref (ad17 h.length), .ref (ad17 v2)]) hC hR liX4_65 (CX1_init e19) rfl hl.1 rfl ⟨(Nat.le_of_ble_eq_true rfl), (Nat.le_of_ble_eq_true rfl)⟩ (Nat.le_of_ble_eq_true rfl) dX4_readSetup_93 ⟨(Nat.le_of_ble_eq_true rfl), (Nat.le_of_ble_eq_true rfl)⟩ (fun ad19 H locs hag hR => ?_)
  have hA : ∀ k, k < h0.length → ad19 k = ad0 k := fun k hk => (hag k (Nat.lt_of_lt_of_le hk hg18.1)).trans (hA k hk)
  rw [← hag h.length (hg18.2 _ (by simp))]
  rw [← hag v2 (hg18.2 _ (by simp))]
  obtain ⟨h20, e20, hF⟩ := bnd hF
  refine pw_pfr hC hR e20 fpX4_68 rfl (Or.inl rfl) dX4_readSetup_96 (fun H locs hR => ?_)
  refine pw_iconst hC dX4_readSetup_99 ?_
  cases hF
  exact pw_zretA hC hA hR (Or.inr rfl) (Nat.le_of_ble_eq_true rfl) (Nat.le_of_ble_eq_true rfl) dX4_readSetup_100
def FX4_readSetup (h : PH) (v0 : Nat) (v1 : Int) (v2 : Nat) : Option (Int × PH) :=
  (isO h 4 v0).bind fun _ =>
  (pfi h 4 v0 5 0).bind fun h1 =>
  (pfi h1 4 v0 4 0).bind fun h2 =>
  (FX4_addStep h2 v0 (-1)).bind fun h3 =>
  (gfr h3 4 v0 0).bind fun x4 =>
  (FX5_startReading h3 x4 v1).bind fun h5 =>
  (FX4_readQueue h5 v0 v2).bind fun q6 =>
  if w32 q6.1 = 0 then (
    some (0, q6.2)
  ) else (
    (lp (fun st : Int × PH => LX4_readSetup_35 v0 v2 st.1 st.2) FU (0, q6.2)).bind fun ex11 =>
    Sum.elim (fun ex11 => (
      JX4_readSetup_69 h ex11
    )) (fun ex11 => (
      JX4_readSetup_77 h ex11 v0 v2
    )) ex11
  )
theorem OX4_readSetup {h : PH} {v0 : Nat} {v1 : Int} {v2 : Nat} {q : Int × PH} (hF : FX4_readSetup h v0 v1 v2 = some q) : ∃ fs : List PV, h[v0]? = some (.inr (4, fs)) := by
  unfold FX4_readSetup at hF
  obtain ⟨u0, e0, -⟩ := bnd hF
  exact isO_spec e0
set_option maxHeartbeats 4000000 in
set_option maxRecDepth 100000 in
theorem CX4_readSetup {g : GP} {l : Launch} {ad : Nat → Nat} {h : PH} {v0 : Nat} {v1 : Int} {v2 : Nat} {q : Int × PH} (hF : FX4_readSetup h v0 v1 v2 = some q) : CA g l yX4_readSetup cX4_readSetup 4 (some .boolean) rmX4_readSetup ad h [.ref (ad v0), .int (Int32.ofInt v1), .ref (ad v2)] (fun _ => (some (.int (Int32.ofInt q.1)))) q.2 := by
  refine pw_met (by decide) (Nat.le_of_ble_eq_true rfl) ?_
  intro p e s m args below meth c ls hC hN hR hl
  have hl : lv_has ls 4 [(0, .ref (ad v0)), (1, .int (Int32.ofInt v1)), (2, .ref (ad v2))] := hl
  unfold FX4_readSetup at hF
  obtain ⟨u0, e0, hF⟩ := bnd hF
  have hA : ∀ k, k < h.length → ad k = ad k := fun _ _ => rfl
  refine lv_aload_n hC.1 hC.2.1 dX4_readSetup_0 rfl (lv_at hl 0 rfl) ?_
  refine pw_iconst hC dX4_readSetup_1 ?_
  obtain ⟨h1, e1, hF⟩ := bnd hF
  refine pw_pfz hC hR e1 (Or.inl rfl) fpX4_32 (Or.inl rfl) dX4_readSetup_2 (fun H locs hR => ?_)
  refine lv_aload_n hC.1 hC.2.1 dX4_readSetup_5 rfl (lv_at hl 0 rfl) ?_
  refine pw_iconst hC dX4_readSetup_6 ?_
  obtain ⟨h2, e2, hF⟩ := bnd hF
  refine pw_pfi hC hR e2 fpX4_29 (Or.inl rfl) dX4_readSetup_7 (fun H locs hR => ?_)
  refine lv_aload_n hC.1 hC.2.1 dX4_readSetup_10 rfl (lv_at hl 0 rfl) ?_
  refine pw_iconst hC dX4_readSetup_11 ?_
  obtain ⟨h3, e3, hF⟩ := bnd hF
  obtain ⟨fs3, ho3⟩ := OX4_addStep e3
  refine pw_cVv (rest := []) hC hR lvX4_38 ho3 (CX4_addStep e3) ⟨rfl, rfl⟩ rfl hl.1 rfl ⟨Nat.le_of_ble_eq_true rfl, Nat.le_of_ble_eq_true rfl⟩ (Nat.le_of_ble_eq_true rfl) dX4_readSetup_12 ⟨Nat.zero_le _, Nat.zero_le _⟩ (fun H locs hR => ?_)
  refine lv_aload_n hC.1 hC.2.1 dX4_readSetup_15 rfl (lv_at hl 0 rfl) ?_
  obtain ⟨x4, e4, hF⟩ := bnd hF
  refine pw_gfr hC hR e4 flX4_12 dX4_readSetup_16 ?_
  refine lv_iload_n hC.1 hC.2.1 dX4_readSetup_19 rfl (lv_at hl 1 rfl) ?_
  obtain ⟨h5, e5, hF⟩ := bnd hF
  obtain ⟨fs5, ho5⟩ := OX5_startReading e5
  refine pw_cVv (rest := []) hC hR lvX4_42 ho5 (CX5_startReading e5) ⟨rfl, rfl⟩ rfl hl.1 rfl ⟨Nat.le_of_ble_eq_true rfl, Nat.le_of_ble_eq_true rfl⟩ (Nat.le_of_ble_eq_true rfl) dX4_readSetup_20 ⟨Nat.zero_le _, Nat.zero_le _⟩ (fun H locs hR => ?_)
  refine lv_aload_n hC.1 hC.2.1 dX4_readSetup_23 rfl (lv_at hl 0 rfl) ?_
  refine lv_aload_n hC.1 hC.2.1 dX4_readSetup_24 rfl (lv_at hl 2 rfl) ?_
  obtain ⟨q6, e6, hF⟩ := bnd hF
  obtain ⟨fs6, ho6⟩ := OX4_readQueue e6
  refine pw_cVi (rest := []) hC hR lvX4_45 ho6 (CX4_readQueue e6) ⟨rfl, rfl⟩ rfl hl.1 rfl ⟨Nat.le_of_ble_eq_true rfl, Nat.le_of_ble_eq_true rfl⟩ (Nat.le_of_ble_eq_true rfl) dX4_readSetup_25 ⟨Nat.zero_le _, Nat.zero_le _⟩ (fun H locs hR => ?_)
  refine pw_ifne hC 33 dX4_readSetup_28 (by decide) (fun hc => ?_) (fun hc => ?_)
  · rw [if_neg hc] at hF
    refine pw_iconst hC dX4_readSetup_33 ?_
    refine lv_istore_n (lv' := [(3, .int (Int32.ofInt 0)), (0, .ref (ad v0)), (1, .int (Int32.ofInt v1)), (2, .ref (ad v2))]) hC.1 hC.2.1 dX4_readSetup_34 rfl hl (by decide) rfl (fun ls hl => ?_)
    obtain ⟨ex11, e11, hF⟩ := bnd hF
    refine LRX4_readSetup_35 hC FU _ ex11 e11 ?_ _ _ _ hR (lv_sub hl [1, 3, 0] rfl)
    rcases ex11 with ex11 | ex11
    · dsimp only [Sum.elim_inl, Sum.elim_inr] at hF
      intro H locs ls hR hl
      exact BX4_readSetup_69 hA hC hR (lv_sub hl [] rfl) hF
    · dsimp only [Sum.elim_inl, Sum.elim_inr] at hF
      intro H locs ls hR hl
      exact BX4_readSetup_77 hA hC hR (lv_sub hl [0, 1] rfl) hF
  · rw [if_pos hc] at hF
    refine pw_iconst hC dX4_readSetup_31 ?_
    cases hF
    exact pw_zretA hC hA hR (Or.inl rfl) (Nat.le_of_ble_eq_true rfl) (Nat.le_of_ble_eq_true rfl) dX4_readSetup_32
abbrev rmX7_load : Room := { frames := 55, cells := 4, slots := 919, locals := 1968 }
def JX7_load_18 (h0 : PH) (h : PH) : Option (Nat × Int × PH) :=
  some (2, 0, h)
set_option maxHeartbeats 4000000 in
set_option maxRecDepth 100000 in
theorem BX7_load_18 (hst : l.stackTraces = false) (hout : ∀ x ∈ c.exceptionTable.toList, False) {ad0 : Nat → Nat} {h0 : PH} (hA : ∀ k, k < h0.length → ad k = ad0 k) {h : PH} (hC : Cx g p s m args meth c cX7_load 3 RX7 (some .int)) (hR : Rl g ad h s.heap H locs) (hl : lv_has ls 3 []) {q : Nat × Int × PH} (hF : JX7_load_18 h0 h  = some q) : W p l e rmX7_load s m args below meth c H locs 0 0 (vx_MQ below (QcTA g ad0 h0 q.1 q.2.2 (some (.int (Int32.ofInt q.2.1)))) (XcTA g ad0 h0 q.1 q.2.2) args s 4 919 (gA g)) (F0 m 18 ls []) := by
  unfold JX7_load_18 at hF
  cases hF
  exact vx_monoX (fun _ _ _ q => ⟨_, hA, q⟩) <| pw_thI (i := 25) (tx := "length is not within the buffer") hC hR hst hout (by decide +kernel) hl.1 dX7_load_18 dX7_load_21 dX7_load_22 dX7_load_24 dX7_load_27 (Nat.le_of_ble_eq_true rfl) (Nat.le_of_ble_eq_true rfl) (Nat.le_of_ble_eq_true rfl) (Nat.le_of_ble_eq_true rfl) (Nat.le_of_ble_eq_true rfl) (Nat.le_of_ble_eq_true rfl)
def FX7_load (h : PH) (v0 : Nat) (v1 : Int) : Option (Nat × Int × PH) :=
  (isO h 7 v0).bind fun _ =>
  if w32 v1 < 0 then (
    JX7_load_18 h h
  ) else (
    (gfr h 7 v0 0).bind fun x1 =>
    (gfr h 4 x1 0).bind fun x2 =>
    (gfi h 5 x2 1).bind fun x3 =>
    if w32 x3 < w32 v1 then (
      JX7_load_18 h h
    ) else (
      (gfr h 7 v0 0).bind fun x4 =>
      (gfr h 7 v0 2).bind fun x5 =>
      (gdL h h [v0]).bind fun _ =>
      (FX4_readSetup h x4 v1 x5).bind fun q7 =>
      (gfr q7.2 7 v0 0).bind fun x8 =>
      (gfr q7.2 4 x8 0).bind fun x9 =>
      (pfi q7.2 5 x9 1 0).bind fun h10 =>
      if w32 q7.1 = 0 then (
        (gfr h10 7 v0 0).bind fun x21 =>
        (gfi h10 4 x21 2).bind fun x22 =>
        (pfi h10 7 v0 4 x22).bind fun h23 =>
        (gfr h23 7 v0 0).bind fun x24 =>
        (gfi h23 4 x24 1).bind fun x25 =>
        some (0, x25, h23)
      ) else (
        (pfi h10 7 v0 4 (-1)).bind fun h11 =>
        (gfr h11 7 v0 3).bind fun x12 =>
        (gfr h11 7 v0 1).bind fun x13 =>
        (FX2_remember h11 x12 x13).bind fun h14 =>
        (gfr h14 7 v0 1).bind fun x15 =>
        (gfr h14 7 v0 2).bind fun x16 =>
        (FX3_copyFrom h14 x15 x16).bind fun h17 =>
        (gfr h17 7 v0 1).bind fun x18 =>
        (gfr h17 3 x18 0).bind fun x19 =>
        (gfi h17 6 x19 0).bind fun x20 =>
        some (0, x20, h17)
      )
    )
  )
theorem OX7_load {h : PH} {v0 : Nat} {v1 : Int} {q : Nat × Int × PH} (hF : FX7_load h v0 v1 = some q) : ∃ fs : List PV, h[v0]? = some (.inr (7, fs)) := by
  unfold FX7_load at hF
  obtain ⟨u0, e0, -⟩ := bnd hF
  exact isO_spec e0
set_option maxHeartbeats 4000000 in
set_option maxRecDepth 100000 in
theorem CX7_load {g : GP} {l : Launch} (hst : l.stackTraces = false) {ad : Nat → Nat} {h : PH} {v0 : Nat} {v1 : Int} {q : Nat × Int × PH} (hF : FX7_load h v0 v1 = some q) : CTA g l yX7_load cX7_load 3 (some .int) rmX7_load ad h [.ref (ad v0), .int (Int32.ofInt v1)] q.1 (some (.int (Int32.ofInt q.2.1))) q.2.2 := by
  refine pw_metT (by decide) (Nat.le_of_ble_eq_true rfl) ?_
  intro p e s m args below meth c ls hC hout hR hl
  have hl : lv_has ls 3 [(0, .ref (ad v0)), (1, .int (Int32.ofInt v1))] := hl
  unfold FX7_load at hF
  obtain ⟨u0, e0, hF⟩ := bnd hF
  have hA : ∀ k, k < h.length → ad k = ad k := fun _ _ => rfl
  refine lv_iload_n hC.1 hC.2.1 dX7_load_0 rfl (lv_at hl 1 rfl) ?_
  refine pw_iflt hC 18 dX7_load_1 (by decide) (fun hc => ?_) (fun hc => ?_)
  · rw [if_pos hc] at hF
    exact BX7_load_18 hst hout hA hC hR (lv_sub hl [] rfl) hF
  · rw [if_neg hc] at hF
    refine lv_iload_n hC.1 hC.2.1 dX7_load_4 rfl (lv_at hl 1 rfl) ?_
    refine lv_aload_n hC.1 hC.2.1 dX7_load_5 rfl (lv_at hl 0 rfl) ?_
    obtain ⟨x1, e1, hF⟩ := bnd hF
    refine pw_gfr hC hR e1 flX7_10 dX7_load_6 ?_
    obtain ⟨x2, e2, hF⟩ := bnd hF
    refine pw_gfr hC hR e2 flX7_37 dX7_load_9 ?_
    obtain ⟨x3, e3, hF⟩ := bnd hF
    refine pw_gfi hC hR e3 flX7_41 dX7_load_12 ?_
    refine pw_icmple hC 28 dX7_load_15 (by decide) (fun hc => ?_) (fun hc => ?_)
    · rw [if_neg hc] at hF
      refine lv_aload_n hC.1 hC.2.1 dX7_load_28 rfl (lv_at hl 0 rfl) ?_
      obtain ⟨x4, e4, hF⟩ := bnd hF
      refine pw_gfr hC hR e4 flX7_10 dX7_load_29 ?_
      refine lv_iload_n hC.1 hC.2.1 dX7_load_32 rfl (lv_at hl 1 rfl) ?_
      refine lv_aload_n hC.1 hC.2.1 dX7_load_33 rfl (lv_at hl 0 rfl) ?_
      obtain ⟨x5, e5, hF⟩ := bnd hF
      refine pw_gfr hC hR e5 flX7_23 dX7_load_34 ?_
      obtain ⟨u6, eu6, hF⟩ := bnd hF
      have hg6 := gdL_spec eu6
      have hl : lv_has ls 3 [(0, .ref (ad v0))] := lv_sub hl [0] rfl
      obtain ⟨q7, e7, hF⟩ := bnd hF
      obtain ⟨fs7, ho7⟩ := OX4_readSetup e7
      refine pw_cVAi (rest := []) hC hR lvX7_57 ho7 (CX4_readSetup e7) rfl hl.1 rfl ⟨(Nat.le_of_ble_eq_true rfl), (Nat.le_of_ble_eq_true rfl)⟩ (Nat.le_of_ble_eq_true rfl) dX7_load_37 ⟨(Nat.le_of_ble_eq_true rfl), (Nat.le_of_ble_eq_true rfl)⟩ (fun ad7 H locs hag hR => ?_)
      have hA : ∀ k, k < h.length → ad7 k = ad k := fun k hk => (hag k (Nat.lt_of_lt_of_le hk hg6.1)).trans (hA k hk)
      rw [← hag v0 (hg6.2 _ (by simp))] at hl
      refine lv_istore_n (lv' := [(2, .int (Int32.ofInt q7.1)), (0, .ref (ad7 v0))]) hC.1 hC.2.1 dX7_load_40 rfl hl (by decide) rfl (fun ls hl => ?_)
      refine lv_aload_n hC.1 hC.2.1 dX7_load_41 rfl (lv_at hl 1 rfl) ?_
      obtain ⟨x8, e8, hF⟩ := bnd hF
      refine pw_gfr hC hR e8 flX7_10 dX7_load_42 ?_
      obtain ⟨x9, e9, hF⟩ := bnd hF
      refine pw_gfr hC hR e9 flX7_37 dX7_load_45 ?_
      refine pw_iconst hC dX7_load_48 ?_
      obtain ⟨h10, e10, hF⟩ := bnd hF
      refine pw_pfi hC hR e10 fpX7_41 (Or.inl rfl) dX7_load_49 (fun H locs hR => ?_)
      refine lv_iload_n hC.1 hC.2.1 dX7_load_52 rfl (lv_at hl 0 rfl) ?_
      refine pw_ifne hC 75 dX7_load_53 (by decide) (fun hc => ?_) (fun hc => ?_)
      · rw [if_neg hc] at hF
        refine lv_aload_n hC.1 hC.2.1 dX7_load_75 rfl (lv_at hl 1 rfl) ?_
        refine pw_iconst hC dX7_load_76 ?_
        obtain ⟨h11, e11, hF⟩ := bnd hF
        refine pw_pfi hC hR e11 fpX7_33 (Or.inl rfl) dX7_load_77 (fun H locs hR => ?_)
        refine lv_aload_n hC.1 hC.2.1 dX7_load_80 rfl (lv_at hl 1 rfl) ?_
        obtain ⟨x12, e12, hF⟩ := bnd hF
        refine pw_gfr hC hR e12 flX7_29 dX7_load_81 ?_
        refine lv_aload_n hC.1 hC.2.1 dX7_load_84 rfl (lv_at hl 1 rfl) ?_
        obtain ⟨x13, e13, hF⟩ := bnd hF
        refine pw_gfr hC hR e13 flX7_19 dX7_load_85 ?_
        obtain ⟨h14, e14, hF⟩ := bnd hF
        obtain ⟨fs14, ho14⟩ := OX2_remember e14
        refine pw_cVv (rest := []) hC hR lvX7_67 ho14 (CX2_remember e14) ⟨rfl, rfl⟩ rfl hl.1 rfl ⟨Nat.le_of_ble_eq_true rfl, Nat.le_of_ble_eq_true rfl⟩ (Nat.le_of_ble_eq_true rfl) dX7_load_88 ⟨Nat.le_of_ble_eq_true rfl, Nat.le_of_ble_eq_true rfl⟩ (fun H locs hR => ?_)
        refine lv_aload_n hC.1 hC.2.1 dX7_load_91 rfl (lv_at hl 1 rfl) ?_
        obtain ⟨x15, e15, hF⟩ := bnd hF
        refine pw_gfr hC hR e15 flX7_19 dX7_load_92 ?_
        refine lv_aload_n hC.1 hC.2.1 dX7_load_95 rfl (lv_at hl 1 rfl) ?_
        obtain ⟨x16, e16, hF⟩ := bnd hF
        refine pw_gfr hC hR e16 flX7_23 dX7_load_96 ?_
        obtain ⟨h17, e17, hF⟩ := bnd hF
        obtain ⟨fs17, ho17⟩ := OX3_copyFrom e17
        refine pw_cVv (rest := []) hC hR lvX7_71 ho17 (CX3_copyFrom e17) ⟨rfl, rfl⟩ rfl hl.1 rfl ⟨Nat.le_of_ble_eq_true rfl, Nat.le_of_ble_eq_true rfl⟩ (Nat.le_of_ble_eq_true rfl) dX7_load_99 ⟨Nat.le_of_ble_eq_true rfl, Nat.le_of_ble_eq_true rfl⟩ (fun H locs hR => ?_)
        refine lv_aload_n hC.1 hC.2.1 dX7_load_102 rfl (lv_at hl 1 rfl) ?_
        obtain ⟨x18, e18, hF⟩ := bnd hF
        refine pw_gfr hC hR e18 flX7_19 dX7_load_103 ?_
        obtain ⟨x19, e19, hF⟩ := bnd hF
        refine pw_gfr hC hR e19 flX7_74 dX7_load_106 ?_
        obtain ⟨x20, e20, hF⟩ := bnd hF
        refine pw_gfi hC hR e20 flX7_78 dX7_load_109 ?_
        cases hF
        exact pw_iretTA hC hA hR (Nat.le_of_ble_eq_true rfl) (Nat.le_of_ble_eq_true rfl) dX7_load_112
      · rw [if_pos hc] at hF
        refine lv_aload_n hC.1 hC.2.1 dX7_load_56 rfl (lv_at hl 1 rfl) ?_
        refine lv_aload_n hC.1 hC.2.1 dX7_load_57 rfl (lv_at hl 1 rfl) ?_
        obtain ⟨x21, e21, hF⟩ := bnd hF
        refine pw_gfr hC hR e21 flX7_10 dX7_load_58 ?_
        obtain ⟨x22, e22, hF⟩ := bnd hF
        refine pw_gfi hC hR e22 flX7_61 dX7_load_61 ?_
        obtain ⟨h23, e23, hF⟩ := bnd hF
        refine pw_pfi hC hR e23 fpX7_33 (Or.inl rfl) dX7_load_64 (fun H locs hR => ?_)
        refine lv_aload_n hC.1 hC.2.1 dX7_load_67 rfl (lv_at hl 1 rfl) ?_
        obtain ⟨x24, e24, hF⟩ := bnd hF
        refine pw_gfr hC hR e24 flX7_10 dX7_load_68 ?_
        obtain ⟨x25, e25, hF⟩ := bnd hF
        refine pw_gfi hC hR e25 flX7_64 dX7_load_71 ?_
        cases hF
        exact pw_iretTA hC hA hR (Nat.le_of_ble_eq_true rfl) (Nat.le_of_ble_eq_true rfl) dX7_load_74
    · rw [if_pos hc] at hF
      exact BX7_load_18 hst hout hA hC hR (lv_sub hl [] rfl) hF
end
