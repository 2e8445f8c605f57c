/-! ===== Arrays.copyOf, to another length ===== -/
def cpo (h : PH) (a : Nat) (n : Int) : Option PH :=
  (alen h a).bind fun x =>
  if w32 n = w32 x then none else
  (gdL h h [a]).bind fun _ =>
  (nwa h 0 n).bind fun h1 =>
  if n ≤ 900 then acpy h1 a 0 h.length 0 (minI x n) else none
abbrev rmCpo : Room := { frames := 1, cells := 1, slots := 900, locals := 64 }
set_option maxRecDepth 100000 in
theorem kmCpo_304 : MlP RJ7 304 Lib.Math.min.name Lib.Math.min.code 2 .int := ⟨TBg_3 134 rfl rfl, TBg_2 228 rfl rfl, TBg_1 14 rfl rfl, TBg_2 229 rfl rfl⟩
set_option maxRecDepth 100000 in
theorem kmCpo_150 : AlP RJ7 150 := ⟨TBg_3 135 rfl rfl, TBg_2 120 rfl rfl, TBg_2 119 rfl rfl, TBg_1 20 rfl rfl⟩
set_option maxRecDepth 100000 in
theorem acI : Cond.arrayClass .int ∈ TBg := TBg_1 93 rfl rfl
set_option maxRecDepth 100000 in
theorem acB : Cond.arrayClass .byte ∈ TBg := TBg_1 70 rfl rfl
set_option maxRecDepth 100000 in
theorem acZ : Cond.arrayClass .boolean ∈ TBg := TBg_1 210 rfl rfl
set_option maxRecDepth 100000 in
theorem acJ : Cond.arrayClass .long ∈ TBg := TBg_5 21 rfl rfl
set_option maxRecDepth 100000 in
theorem oiI : Cond.instanceMethod Lib.objectInit ∈ TBg := TBg_1 30 rfl rfl
set_option maxRecDepth 100000 in
theorem oiC : Cond.code Lib.objectInit ⟨#[0xb1]⟩ 1 none ∈ TBg := TBg_1 31 rfl rfl
set_option maxRecDepth 100000 in
set_option maxHeartbeats 4000000 in
theorem C_cpo {g : GP} {l : Launch} {ad : Nat → Nat} {h h' : PH} {a : Nat} {n : Int} (hF : cpo h a n = some h') : CA g l yJ7_copyOf_59c91 cJ7_copyOf_59c91 3 (some (.array .int)) rmCpo ad h [.ref (ad a), .int (Int32.ofInt n)] (fun ad' => some (.ref (ad' h.length))) h' := by
  refine pw_met (by decide) (Nat.le_of_ble_eq_true rfl) ?_
  intro p e s m args below meth c ls hC hN hR hl
  have hl : lv_has ls 3 [(0, .ref (ad a)), (1, .int (Int32.ofInt n))] := hl
  unfold cpo at hF
  obtain ⟨x1, e1, hF⟩ := bnd hF
  refine lv_iload_n hC.1 hC.2.1 dJ7_copyOf_59c91_0 rfl (lv_at hl 1 rfl) ?_
  refine lv_aload_n hC.1 hC.2.1 dJ7_copyOf_59c91_1 rfl (lv_at hl 0 rfl) ?_
  refine pw_alen hC hR e1 dJ7_copyOf_59c91_2 ?_
  refine pw_icmpne hC 14 dJ7_copyOf_59c91_3 (by decide) (fun hc => ?_) (fun hc => ?_)
  · rw [if_neg hc] at hF
    obtain ⟨u2, e2, hF⟩ := bnd hF
    have hg2 := gdL_spec e2
    obtain ⟨h3, e3, hF⟩ := bnd hF
    have hn : n ≤ 900 := by
      by_cases hn : n ≤ 900
      · exact hn
      · rw [if_neg hn] at hF; cases hF
    rw [if_pos hn] at hF
    refine lv_iload_n hC.1 hC.2.1 dJ7_copyOf_59c91_14 rfl (lv_at hl 1 rfl) ?_
    refine pw_newa hC hR e3 acI rfl (Or.inl ⟨rfl, rfl, rfl⟩) dJ7_copyOf_59c91_15 (Nat.le_of_ble_eq_true rfl) (by show 0 + n.toNat ≤ 900; omega) (fun ad1 H hag hR => ?_)
    rw [← hag a (hg2.2 a (by simp))] at hl
    refine lv_astore_n (lv' := [(2, .ref (ad1 h.length)), (0, .ref (ad1 a)), (1, .int (Int32.ofInt n))]) hC.1 hC.2.1 dJ7_copyOf_59c91_17 rfl hl (by decide) rfl (fun ls hl => ?_)
    refine lv_aload_n hC.1 hC.2.1 dJ7_copyOf_59c91_18 rfl (lv_at hl 1 rfl) ?_
    refine pw_iconst hC dJ7_copyOf_59c91_19 ?_
    refine lv_aload_n hC.1 hC.2.1 dJ7_copyOf_59c91_20 rfl (lv_at hl 0 rfl) ?_
    refine pw_iconst hC dJ7_copyOf_59c91_21 ?_
    refine lv_aload_n hC.1 hC.2.1 dJ7_copyOf_59c91_22 rfl (lv_at hl 1 rfl) ?_
    have e1' : alen h3 a = some x1 := by
      unfold nwa at e3
      split at e3
      · cases e3
        unfold alen at e1 ⊢
        rw [List.getElem?_append_left (hg2.2 a (by simp))]
        exact e1
      · cases e3
    refine pw_alen hC hR e1' dJ7_copyOf_59c91_23 ?_
    refine lv_iload_n hC.1 hC.2.1 dJ7_copyOf_59c91_24 rfl (lv_at hl 2 rfl) ?_
    refine pw_minI hC hl.1 kmCpo_304 (Nat.le_of_ble_eq_true rfl) (Nat.le_of_ble_eq_true rfl) dJ7_copyOf_59c91_25 ⟨Nat.le_of_ble_eq_true rfl, by show 0 + n.toNat ≤ 900; omega⟩ ?_
    refine pw_acpy hC hl.1 hR hF kmCpo_150 (Nat.le_of_ble_eq_true rfl) (Nat.le_of_ble_eq_true rfl) dJ7_copyOf_59c91_28 (fun H locs hR => ?_)
    refine lv_aload_n hC.1 hC.2.1 dJ7_copyOf_59c91_31 rfl (lv_at hl 0 rfl) ?_
    refine W.widen (k := 1) (n := 900) (Nat.le_of_ble_eq_true rfl) (by show 0 + n.toNat ≤ 900; omega) ?_
    exact W.aret hC.1 hC.2.1 hC.2.2.2.2.2.2.2 (Or.inr ⟨_, rfl⟩) (Or.inr ⟨_, rfl⟩) (fun t ht _ => ⟨ad1, hag, rfl, ⟨by rw [ht]; exact hR.1, hR.2.1, hR.2.2.2⟩, hR.2.2.1.F ht⟩) hR.2.2.1.2.2 dJ7_copyOf_59c91_32 hC.2.2.2.2.2.2.1
  · rw [if_pos hc] at hF
    cases hF
section PW
variable {p : Program} {l : Launch} {e : Env} {R : Room} {s : State} {m : MethodId} {args : Array Value} {below : List Frame} {meth : Method} {c : Code} {H : Heap} {locs : List Loc} {cells slots : Nat} {Q : State → Prop}
variable {cc : ByteArray} {pc : Nat} {ls : Array Slot} {rest : List Value} {g : GP} {ad : Nat → Nat} {h h' : PH} {own : String} {nL : Nat} {ret : Option FieldType}
theorem pw_cpo {index a : Nat} {n : Int} (C : Cx g p s m args meth c cc nL own ret) (hR : Rl g ad h s.heap H locs) (e1 : cpo h a n = some h') (S : SlP own index yJ7_copyOf_59c91 cJ7_copyOf_59c91 3 (some (.array .int)) 2) (hsz : ls.size = nL) (hroom : 2 ≤ R.frames ∧ 86 ≤ R.locals) (hcat : (rest.map fun v => v.category).sum ≤ 8) (hdg : decode cc pc = .ok (.invokestatic index, 3)) (hf : cells + 1 ≤ R.cells ∧ slots + 900 ≤ R.slots)
    (kk : ∀ (ad' : Nat → Nat) (H1 : Heap) (locs1 : List Loc), (∀ k, k < h.length → ad' k = ad k) → Rl g ad' h' s.heap H1 locs1 → W p l e R s m args below meth c H1 locs1 (cells + 1) (slots + 900) Q (F0 m (pc + 3) ls (.ref (ad' h.length) :: rest))) : W p l e R s m args below meth c H locs cells slots Q (F0 m pc ls (.int (Int32.ofInt n) :: .ref (ad a) :: rest)) :=
  pw_callA hR (pw_runS (As := [.ref (ad a), .int (Int32.ofInt n)]) C hR S (C_cpo e1) rfl hsz rfl hroom hcat hdg hf) kk
end PW
