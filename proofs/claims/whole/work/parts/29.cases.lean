section
variable {p : Program} {l : Launch} {e : Env} {s : State} {m : MethodId} {args : Array Value} {below : List Frame} {meth : Method} {c : Code} {H : Heap} {locs : List Loc} {ls : Array Slot} {g : GP} {ad : Nat → Nat}
def LC0 (xs : Nat → Int) (L : Nat) (v1 v2 v3 : Nat) (v4 : Int) (h : PH) : Option PH :=
  (sld xs L (v4 + 1)).bind fun x1 =>
  (sld xs L (v4 + 2)).bind fun x2 =>
  (sld xs L (v4 + 3)).bind fun x3 =>
  (sld xs L (v4 + 4)).bind fun x4 =>
  (sld xs L (v4 + 5)).bind fun x5 =>
  (FX7_append h v1 x1 x2 x3 x4 x5).bind fun q6 =>
  (sld xs L (v4 + 1)).bind fun x7 =>
  (sld xs L (v4 + 2)).bind fun x8 =>
  (sld xs L (v4 + 3)).bind fun x9 =>
  (sld xs L (v4 + 4)).bind fun x10 =>
  (sld xs L (v4 + 5)).bind fun x11 =>
  (FX8_append q6.2 v2 x7 x8 x9 x10 x11).bind fun q12 =>
  if w32 q6.1 = w32 q12.1 then (
    some q12.2
  ) else (
    none
  )
set_option maxHeartbeats 4000000 in
set_option maxRecDepth 100000 in
theorem TC0 (hst : l.stackTraces = false) {v1 v2 v3 : Nat} {v4 : Int} {h h' : PH} {b L : Nat} {xs : Nat → Int} {cl sl : Nat} {Q : State → Prop} (hC : Cx g p s m args meth c cL_law 7 RL ret) (hX : LwX g s b L xs) (hR : Rl g ad h s.heap H locs) (hl : lv_has ls 7 [(0, .ref b), (1, .ref (ad v1)), (2, .ref (ad v2)), (3, .ref (ad v3)), (4, .int (Int32.ofInt v4))]) (hcl : cl + 4 ≤ 601024) (hsl : sl + 919 ≤ 7293034) (hF : LC0 xs L v1 v2 v3 v4 h = some h')
    (kk : ∀ (ad' : Nat → Nat) (H : Heap) (locs : List Loc) (ls : Array Slot), (∀ k, k < h.length → ad' k = ad k) → Rl g ad' h' s.heap H locs → lv_has ls 7 [(0, .ref b), (1, .ref (ad' v1)), (2, .ref (ad' v2)), (3, .ref (ad' v3)), (4, .int (Int32.ofInt v4))] → W p l e room_1 s m args below meth c H locs (cl + 4) (sl + 919) Q (F0 m 1728 ls [])) :
    W p l e room_1 s m args below meth c H locs cl sl Q (F0 m 184 ls []) := by
  unfold LC0 at hF
  refine W.widen (k := cl + 4) (n := sl + 919) (Nat.le_add_right _ _) (Nat.le_add_right _ _) ?_
  refine lv_aload_n hC.1 hC.2.1 dL_law_184 rfl (lv_at hl 1 rfl) ?_
  refine lv_aload_n hC.1 hC.2.1 dL_law_185 rfl (lv_at hl 0 rfl) ?_
  refine lv_iload hC.1 hC.2.1 dL_law_186 (lv_at hl 4 rfl) ?_
  refine pw_iconst hC dL_law_188 ?_
  refine pw_iadd hC dL_law_189 ?_
  obtain ⟨x1, e1, hF⟩ := bnd hF
  refine pw_sld hC hX hR e1 dL_law_190 ?_
  refine lv_aload_n hC.1 hC.2.1 dL_law_191 rfl (lv_at hl 0 rfl) ?_
  refine lv_iload hC.1 hC.2.1 dL_law_192 (lv_at hl 4 rfl) ?_
  refine pw_iconst hC dL_law_194 ?_
  refine pw_iadd hC dL_law_195 ?_
  obtain ⟨x2, e2, hF⟩ := bnd hF
  refine pw_sld hC hX hR e2 dL_law_196 ?_
  refine lv_aload_n hC.1 hC.2.1 dL_law_197 rfl (lv_at hl 0 rfl) ?_
  refine lv_iload hC.1 hC.2.1 dL_law_198 (lv_at hl 4 rfl) ?_
  refine pw_iconst hC dL_law_200 ?_
  refine pw_iadd hC dL_law_201 ?_
  obtain ⟨x3, e3, hF⟩ := bnd hF
  refine pw_sld hC hX hR e3 dL_law_202 ?_
  refine lv_aload_n hC.1 hC.2.1 dL_law_203 rfl (lv_at hl 0 rfl) ?_
  refine lv_iload hC.1 hC.2.1 dL_law_204 (lv_at hl 4 rfl) ?_
  refine pw_iconst hC dL_law_206 ?_
  refine pw_iadd hC dL_law_207 ?_
  obtain ⟨x4, e4, hF⟩ := bnd hF
  refine pw_sld hC hX hR e4 dL_law_208 ?_
  refine lv_aload_n hC.1 hC.2.1 dL_law_209 rfl (lv_at hl 0 rfl) ?_
  refine lv_iload hC.1 hC.2.1 dL_law_210 (lv_at hl 4 rfl) ?_
  refine pw_iconst hC dL_law_212 ?_
  refine pw_iadd hC dL_law_213 ?_
  obtain ⟨x5, e5, hF⟩ := bnd hF
  refine pw_sld hC hX hR e5 dL_law_214 ?_
  obtain ⟨q6, e6, hF⟩ := bnd hF
  obtain ⟨fs6, ho6⟩ := OX7_append e6
  refine pw_cVi (rest := []) hC hR lvL_90 ho6 (CX7_append e6) ⟨rfl, rfl⟩ rfl hl.1 rfl ⟨Nat.le_of_ble_eq_true rfl, Nat.le_of_ble_eq_true rfl⟩ (Nat.le_of_ble_eq_true rfl) dL_law_215 ⟨hcl, hsl⟩ (fun H locs hR => ?_)
  refine lv_aload_n hC.1 hC.2.1 dL_law_218 rfl (lv_at hl 2 rfl) ?_
  refine lv_aload_n hC.1 hC.2.1 dL_law_219 rfl (lv_at hl 0 rfl) ?_
  refine lv_iload hC.1 hC.2.1 dL_law_220 (lv_at hl 4 rfl) ?_
  refine pw_iconst hC dL_law_222 ?_
  refine pw_iadd hC dL_law_223 ?_
  obtain ⟨x7, e7, hF⟩ := bnd hF
  refine pw_sld hC hX hR e7 dL_law_224 ?_
  refine lv_aload_n hC.1 hC.2.1 dL_law_225 rfl (lv_at hl 0 rfl) ?_
  refine lv_iload hC.1 hC.2.1 dL_law_226 (lv_at hl 4 rfl) ?_
  refine pw_iconst hC dL_law_228 ?_
  refine pw_iadd hC dL_law_229 ?_
  obtain ⟨x8, e8, hF⟩ := bnd hF
  refine pw_sld hC hX hR e8 dL_law_230 ?_
  refine lv_aload_n hC.1 hC.2.1 dL_law_231 rfl (lv_at hl 0 rfl) ?_
  refine lv_iload hC.1 hC.2.1 dL_law_232 (lv_at hl 4 rfl) ?_
  refine pw_iconst hC dL_law_234 ?_
  refine pw_iadd hC dL_law_235 ?_
  obtain ⟨x9, e9, hF⟩ := bnd hF
  refine pw_sld hC hX hR e9 dL_law_236 ?_
  refine lv_aload_n hC.1 hC.2.1 dL_law_237 rfl (lv_at hl 0 rfl) ?_
  refine lv_iload hC.1 hC.2.1 dL_law_238 (lv_at hl 4 rfl) ?_
  refine pw_iconst hC dL_law_240 ?_
  refine pw_iadd hC dL_law_241 ?_
  obtain ⟨x10, e10, hF⟩ := bnd hF
  refine pw_sld hC hX hR e10 dL_law_242 ?_
  refine lv_aload_n hC.1 hC.2.1 dL_law_243 rfl (lv_at hl 0 rfl) ?_
  refine lv_iload hC.1 hC.2.1 dL_law_244 (lv_at hl 4 rfl) ?_
  refine pw_iconst hC dL_law_246 ?_
  refine pw_iadd hC dL_law_247 ?_
  obtain ⟨x11, e11, hF⟩ := bnd hF
  refine pw_sld hC hX hR e11 dL_law_248 ?_
  obtain ⟨q12, e12, hF⟩ := bnd hF
  obtain ⟨fs12, ho12⟩ := OX8_append e12
  refine pw_cVi (rest := [.int (Int32.ofInt q6.1)]) hC hR lvL_94 ho12 (CX8_append e12) ⟨rfl, rfl⟩ rfl hl.1 rfl ⟨Nat.le_of_ble_eq_true rfl, Nat.le_of_ble_eq_true rfl⟩ (Nat.le_of_ble_eq_true rfl) dL_law_249 ⟨hcl, hsl⟩ (fun H locs hR => ?_)
  refine pw_icmpeq hC 1728 dL_law_252 (by decide) (fun hc => ?_) (fun hc => ?_)
  · rw [if_pos hc] at hF
    cases hF
    exact kk _ _ _ _ (fun k hk => rfl) hR (lv_sub hl [0, 1, 2, 3, 4] rfl)
  · rw [if_neg hc] at hF
    cases hF
def LC1 (xs : Nat → Int) (L : Nat) (v1 v2 v3 : Nat) (v4 : Int) (h : PH) : Option PH :=
  (sld xs L (v4 + 1)).bind fun x1 =>
  (gdL h h [v1, v2, v3]).bind fun _ =>
  (FL_load h v1 x1 v3).bind fun q2 =>
  (sld xs L (v4 + 1)).bind fun x3 =>
  (FX8_load q2.2 v2 x3).bind fun q4 =>
  (FX8_thrown q4.2 v2).bind fun x5 =>
  if w32 x5 = w32 q2.1 then (
    if w32 q2.1 = 0 then (
      (ald 3 q4.2 v3 0).bind fun x6 =>
      if w32 (cmpL x6 (w32 q4.1)) = 0 then (
        some q4.2
      ) else (
        none
      )
    ) else (
      some q4.2
    )
  ) else (
    none
  )
set_option maxHeartbeats 4000000 in
set_option maxRecDepth 100000 in
theorem TC1 (hst : l.stackTraces = false) {v1 v2 v3 : Nat} {v4 : Int} {h h' : PH} {b L : Nat} {xs : Nat → Int} {cl sl : Nat} {Q : State → Prop} (hC : Cx g p s m args meth c cL_law 7 RL ret) (hX : LwX g s b L xs) (hR : Rl g ad h s.heap H locs) (hl : lv_has ls 7 [(0, .ref b), (1, .ref (ad v1)), (2, .ref (ad v2)), (3, .ref (ad v3)), (4, .int (Int32.ofInt v4))]) (hcl : cl + 4 ≤ 601024) (hsl : sl + 919 ≤ 7293034) (hF : LC1 xs L v1 v2 v3 v4 h = some h')
    (kk : ∀ (ad' : Nat → Nat) (H : Heap) (locs : List Loc) (ls : Array Slot), (∀ k, k < h.length → ad' k = ad k) → Rl g ad' h' s.heap H locs → lv_has ls 7 [(0, .ref b), (1, .ref (ad' v1)), (2, .ref (ad' v2)), (3, .ref (ad' v3)), (4, .int (Int32.ofInt v4))] → W p l e room_1 s m args below meth c H locs (cl + 4) (sl + 919) Q (F0 m 1728 ls [])) :
    W p l e room_1 s m args below meth c H locs cl sl Q (F0 m 257 ls []) := by
  unfold LC1 at hF
  refine lv_aload_n hC.1 hC.2.1 dL_law_257 rfl (lv_at hl 1 rfl) ?_
  refine lv_aload_n hC.1 hC.2.1 dL_law_258 rfl (lv_at hl 0 rfl) ?_
  refine lv_iload hC.1 hC.2.1 dL_law_259 (lv_at hl 4 rfl) ?_
  refine pw_iconst hC dL_law_261 ?_
  refine pw_iadd hC dL_law_262 ?_
  obtain ⟨x1, e1, hF⟩ := bnd hF
  refine pw_sld hC hX hR e1 dL_law_263 ?_
  refine lv_aload_n hC.1 hC.2.1 dL_law_264 rfl (lv_at hl 3 rfl) ?_
  obtain ⟨u0, eu0, hF⟩ := bnd hF
  have hg := gdL_spec eu0
  obtain ⟨q2, e2, hF⟩ := bnd hF
  refine pw_callA hR (pw_runSW (rest := []) hC hR lwL_95 (CL_load hst e2) rfl hl.1 rfl ⟨(Nat.le_of_ble_eq_true rfl), (Nat.le_of_ble_eq_true rfl)⟩ (Nat.le_of_ble_eq_true rfl) dL_law_265 ⟨Nat.le_trans (Nat.add_le_add_left (Nat.le_of_ble_eq_true rfl) cl) hcl, Nat.le_trans (Nat.add_le_add_left (Nat.le_of_ble_eq_true rfl) sl) hsl⟩) (fun ad1 H locs hA hR => ?_)
  rw [← hA v1 (hg.2 _ (by simp))] at hl
  rw [← hA v2 (hg.2 _ (by simp))] at hl
  rw [← hA v3 (hg.2 _ (by simp))] at hl
  refine W.widen (k := cl + 4) (n := sl + 919) (Nat.add_le_add_left (Nat.le_of_ble_eq_true rfl) cl) (Nat.add_le_add_left (Nat.le_of_ble_eq_true rfl) sl) ?_
  show W p l e room_1 s m args below meth c H locs (cl + 4) (sl + 919) Q (F0 m 268 ls [.int (Int32.ofInt q2.1)])
  refine lv_istore (lv' := [(5, .int (Int32.ofInt q2.1)), (0, .ref b), (1, .ref (ad1 v1)), (2, .ref (ad1 v2)), (3, .ref (ad1 v3)), (4, .int (Int32.ofInt v4))]) hC.1 hC.2.1 dL_law_268 hl (by decide) rfl (fun ls hl => ?_)
  refine lv_aload_n hC.1 hC.2.1 dL_law_270 rfl (lv_at hl 3 rfl) ?_
  refine lv_aload_n hC.1 hC.2.1 dL_law_271 rfl (lv_at hl 1 rfl) ?_
  refine lv_iload hC.1 hC.2.1 dL_law_272 (lv_at hl 5 rfl) ?_
  refine pw_iconst hC dL_law_274 ?_
  refine pw_iadd hC dL_law_275 ?_
  obtain ⟨x3, e3, hF⟩ := bnd hF
  refine pw_sld hC hX hR e3 dL_law_276 ?_
  obtain ⟨q4, e4, hF⟩ := bnd hF
  obtain ⟨fs4, ho4⟩ := OX8_load e4
  refine pw_cVi (rest := []) hC hR lvL_100 ho4 (CX8_load e4) ⟨rfl, rfl⟩ rfl hl.1 rfl ⟨Nat.le_of_ble_eq_true rfl, Nat.le_of_ble_eq_true rfl⟩ (Nat.le_of_ble_eq_true rfl) dL_law_277 ⟨hcl, hsl⟩ (fun H locs hR => ?_)
  refine lv_istore (lv' := [(6, .int (Int32.ofInt q4.1)), (5, .int (Int32.ofInt q2.1)), (0, .ref b), (1, .ref (ad1 v1)), (2, .ref (ad1 v2)), (3, .ref (ad1 v3)), (4, .int (Int32.ofInt v4))]) hC.1 hC.2.1 dL_law_280 hl (by decide) rfl (fun ls hl => ?_)
  refine lv_aload_n hC.1 hC.2.1 dL_law_282 rfl (lv_at hl 4 rfl) ?_
  obtain ⟨x5, e5, hF⟩ := bnd hF
  obtain ⟨fs5, ho5⟩ := OX8_thrown e5
  refine pw_cVi (rest := []) hC hR lvL_101 ho5 (CX8_thrown e5) ⟨rfl, rfl⟩ rfl hl.1 rfl ⟨Nat.le_of_ble_eq_true rfl, Nat.le_of_ble_eq_true rfl⟩ (Nat.le_of_ble_eq_true rfl) dL_law_283 ⟨hcl, hsl⟩ (fun H locs hR => ?_)
  refine lv_iload hC.1 hC.2.1 dL_law_286 (lv_at hl 1 rfl) ?_
  refine pw_icmpeq hC 293 dL_law_288 (by decide) (fun hc => ?_) (fun hc => ?_)
  · rw [if_pos hc] at hF
    refine lv_iload hC.1 hC.2.1 dL_law_293 (lv_at hl 1 rfl) ?_
    refine pw_ifne hC 310 dL_law_295 (by decide) (fun hc => ?_) (fun hc => ?_)
    · rw [if_neg hc] at hF
      refine pw_goto hC 1728 dL_law_310 (by decide) ?_
      cases hF
      exact kk _ _ _ _ (hA) hR (lv_sub hl [2, 3, 4, 5, 6] rfl)
    · rw [if_pos hc] at hF
      refine lv_aload_n hC.1 hC.2.1 dL_law_298 rfl (lv_at hl 5 rfl) ?_
      refine pw_iconst hC dL_law_299 ?_
      obtain ⟨x6, e6, hF⟩ := bnd hF
      refine pw_lald hC hR e6 dL_law_300 ?_
      refine lv_iload hC.1 hC.2.1 dL_law_301 (lv_at hl 0 rfl) ?_
      refine pw_i2l hC dL_law_303 ?_
      refine pw_lcmp hC dL_law_304 ?_
      refine pw_ifeq hC 310 dL_law_305 (by decide) (fun hc => ?_) (fun hc => ?_)
      · rw [if_pos hc] at hF
        refine pw_goto hC 1728 dL_law_310 (by decide) ?_
        cases hF
        exact kk _ _ _ _ (hA) hR (lv_sub hl [2, 3, 4, 5, 6] rfl)
      · rw [if_neg hc] at hF
        cases hF
  · rw [if_neg hc] at hF
    cases hF
def LC2 (xs : Nat → Int) (L : Nat) (v1 v2 v3 : Nat) (v4 : Int) (h : PH) : Option PH :=
  (FX7_errorOffset h v1).bind fun x1 =>
  (FX8_errorOffset h v2).bind fun q2 =>
  if w32 x1 = w32 q2.1 then (
    some q2.2
  ) else (
    none
  )
set_option maxHeartbeats 4000000 in
set_option maxRecDepth 100000 in
theorem TC2 (hst : l.stackTraces = false) {v1 v2 v3 : Nat} {v4 : Int} {h h' : PH} {b L : Nat} {xs : Nat → Int} {cl sl : Nat} {Q : State → Prop} (hC : Cx g p s m args meth c cL_law 7 RL ret) (hX : LwX g s b L xs) (hR : Rl g ad h s.heap H locs) (hl : lv_has ls 7 [(0, .ref b), (1, .ref (ad v1)), (2, .ref (ad v2)), (3, .ref (ad v3)), (4, .int (Int32.ofInt v4))]) (hcl : cl + 4 ≤ 601024) (hsl : sl + 919 ≤ 7293034) (hF : LC2 xs L v1 v2 v3 v4 h = some h')
    (kk : ∀ (ad' : Nat → Nat) (H : Heap) (locs : List Loc) (ls : Array Slot), (∀ k, k < h.length → ad' k = ad k) → Rl g ad' h' s.heap H locs → lv_has ls 7 [(0, .ref b), (1, .ref (ad' v1)), (2, .ref (ad' v2)), (3, .ref (ad' v3)), (4, .int (Int32.ofInt v4))] → W p l e room_1 s m args below meth c H locs (cl + 4) (sl + 919) Q (F0 m 1728 ls [])) :
    W p l e room_1 s m args below meth c H locs cl sl Q (F0 m 313 ls []) := by
  unfold LC2 at hF
  refine W.widen (k := cl + 4) (n := sl + 919) (Nat.le_add_right _ _) (Nat.le_add_right _ _) ?_
  refine lv_aload_n hC.1 hC.2.1 dL_law_313 rfl (lv_at hl 1 rfl) ?_
  obtain ⟨x1, e1, hF⟩ := bnd hF
  obtain ⟨fs1, ho1⟩ := OX7_errorOffset e1
  refine pw_cVi (rest := []) hC hR lvL_105 ho1 (CX7_errorOffset e1) ⟨rfl, rfl⟩ rfl hl.1 rfl ⟨Nat.le_of_ble_eq_true rfl, Nat.le_of_ble_eq_true rfl⟩ (Nat.le_of_ble_eq_true rfl) dL_law_314 ⟨hcl, hsl⟩ (fun H locs hR => ?_)
  refine lv_aload_n hC.1 hC.2.1 dL_law_317 rfl (lv_at hl 2 rfl) ?_
  obtain ⟨q2, e2, hF⟩ := bnd hF
  obtain ⟨fs2, ho2⟩ := OX8_errorOffset e2
  refine pw_cVi (rest := [.int (Int32.ofInt x1)]) hC hR lvL_108 ho2 (CX8_errorOffset e2) ⟨rfl, rfl⟩ rfl hl.1 rfl ⟨Nat.le_of_ble_eq_true rfl, Nat.le_of_ble_eq_true rfl⟩ (Nat.le_of_ble_eq_true rfl) dL_law_318 ⟨hcl, hsl⟩ (fun H locs hR => ?_)
  refine pw_icmpeq hC 1728 dL_law_321 (by decide) (fun hc => ?_) (fun hc => ?_)
  · rw [if_pos hc] at hF
    cases hF
    exact kk _ _ _ _ (fun k hk => rfl) hR (lv_sub hl [0, 1, 2, 3, 4] rfl)
  · rw [if_neg hc] at hF
    cases hF
def LC3 (xs : Nat → Int) (L : Nat) (v1 v2 v3 : Nat) (v4 : Int) (h : PH) : Option PH :=
  (FX7_coreCount h v1).bind fun x1 =>
  (FX8_coreCount h v2).bind fun q2 =>
  if w32 x1 = w32 q2.1 then (
    some q2.2
  ) else (
    none
  )
set_option maxHeartbeats 4000000 in
set_option maxRecDepth 100000 in
theorem TC3 (hst : l.stackTraces = false) {v1 v2 v3 : Nat} {v4 : Int} {h h' : PH} {b L : Nat} {xs : Nat → Int} {cl sl : Nat} {Q : State → Prop} (hC : Cx g p s m args meth c cL_law 7 RL ret) (hX : LwX g s b L xs) (hR : Rl g ad h s.heap H locs) (hl : lv_has ls 7 [(0, .ref b), (1, .ref (ad v1)), (2, .ref (ad v2)), (3, .ref (ad v3)), (4, .int (Int32.ofInt v4))]) (hcl : cl + 4 ≤ 601024) (hsl : sl + 919 ≤ 7293034) (hF : LC3 xs L v1 v2 v3 v4 h = some h')
    (kk : ∀ (ad' : Nat → Nat) (H : Heap) (locs : List Loc) (ls : Array Slot), (∀ k, k < h.length → ad' k = ad k) → Rl g ad' h' s.heap H locs → lv_has ls 7 [(0, .ref b), (1, .ref (ad' v1)), (2, .ref (ad' v2)), (3, .ref (ad' v3)), (4, .int (Int32.ofInt v4))] → W p l e room_1 s m args below meth c H locs (cl + 4) (sl + 919) Q (F0 m 1728 ls [])) :
    W p l e room_1 s m args below meth c H locs cl sl Q (F0 m 326 ls []) := by
  unfold LC3 at hF
  refine W.widen (k := cl + 4) (n := sl + 919) (Nat.le_add_right _ _) (Nat.le_add_right _ _) ?_
  refine lv_aload_n hC.1 hC.2.1 dL_law_326 rfl (lv_at hl 1 rfl) ?_
  obtain ⟨x1, e1, hF⟩ := bnd hF
  obtain ⟨fs1, ho1⟩ := OX7_coreCount e1
  refine pw_cVi (rest := []) hC hR lvL_109 ho1 (CX7_coreCount e1) ⟨rfl, rfl⟩ rfl hl.1 rfl ⟨Nat.le_of_ble_eq_true rfl, Nat.le_of_ble_eq_true rfl⟩ (Nat.le_of_ble_eq_true rfl) dL_law_327 ⟨hcl, hsl⟩ (fun H locs hR => ?_)
  refine lv_aload_n hC.1 hC.2.1 dL_law_330 rfl (lv_at hl 2 rfl) ?_
  obtain ⟨q2, e2, hF⟩ := bnd hF
  obtain ⟨fs2, ho2⟩ := OX8_coreCount e2
  refine pw_cVi (rest := [.int (Int32.ofInt x1)]) hC hR lvL_112 ho2 (CX8_coreCount e2) ⟨rfl, rfl⟩ rfl hl.1 rfl ⟨Nat.le_of_ble_eq_true rfl, Nat.le_of_ble_eq_true rfl⟩ (Nat.le_of_ble_eq_true rfl) dL_law_331 ⟨hcl, hsl⟩ (fun H locs hR => ?_)
  refine pw_icmpeq hC 1728 dL_law_334 (by decide) (fun hc => ?_) (fun hc => ?_)
  · rw [if_pos hc] at hF
    cases hF
    exact kk _ _ _ _ (fun k hk => rfl) hR (lv_sub hl [0, 1, 2, 3, 4] rfl)
  · rw [if_neg hc] at hF
    cases hF
def LC4 (xs : Nat → Int) (L : Nat) (v1 v2 v3 : Nat) (v4 : Int) (h : PH) : Option PH :=
  (FX7_taskCount h v1).bind fun x1 =>
  (FX8_taskCount h v2).bind fun q2 =>
  if w32 x1 = w32 q2.1 then (
    some q2.2
  ) else (
    none
  )
set_option maxHeartbeats 4000000 in
set_option maxRecDepth 100000 in
theorem TC4 (hst : l.stackTraces = false) {v1 v2 v3 : Nat} {v4 : Int} {h h' : PH} {b L : Nat} {xs : Nat → Int} {cl sl : Nat} {Q : State → Prop} (hC : Cx g p s m args meth c cL_law 7 RL ret) (hX : LwX g s b L xs) (hR : Rl g ad h s.heap H locs) (hl : lv_has ls 7 [(0, .ref b), (1, .ref (ad v1)), (2, .ref (ad v2)), (3, .ref (ad v3)), (4, .int (Int32.ofInt v4))]) (hcl : cl + 4 ≤ 601024) (hsl : sl + 919 ≤ 7293034) (hF : LC4 xs L v1 v2 v3 v4 h = some h')
    (kk : ∀ (ad' : Nat → Nat) (H : Heap) (locs : List Loc) (ls : Array Slot), (∀ k, k < h.length → ad' k = ad k) → Rl g ad' h' s.heap H locs → lv_has ls 7 [(0, .ref b), (1, .ref (ad' v1)), (2, .ref (ad' v2)), (3, .ref (ad' v3)), (4, .int (Int32.ofInt v4))] → W p l e room_1 s m args below meth c H locs (cl + 4) (sl + 919) Q (F0 m 1728 ls [])) :
    W p l e room_1 s m args below meth c H locs cl sl Q (F0 m 339 ls []) := by
  unfold LC4 at hF
  refine W.widen (k := cl + 4) (n := sl + 919) (Nat.le_add_right _ _) (Nat.le_add_right _ _) ?_
  refine lv_aload_n hC.1 hC.2.1 dL_law_339 rfl (lv_at hl 1 rfl) ?_
  obtain ⟨x1, e1, hF⟩ := bnd hF
  obtain ⟨fs1, ho1⟩ := OX7_taskCount e1
  refine pw_cVi (rest := []) hC hR lvL_113 ho1 (CX7_taskCount e1) ⟨rfl, rfl⟩ rfl hl.1 rfl ⟨Nat.le_of_ble_eq_true rfl, Nat.le_of_ble_eq_true rfl⟩ (Nat.le_of_ble_eq_true rfl) dL_law_340 ⟨hcl, hsl⟩ (fun H locs hR => ?_)
  refine lv_aload_n hC.1 hC.2.1 dL_law_343 rfl (lv_at hl 2 rfl) ?_
  obtain ⟨q2, e2, hF⟩ := bnd hF
  obtain ⟨fs2, ho2⟩ := OX8_taskCount e2
  refine pw_cVi (rest := [.int (Int32.ofInt x1)]) hC hR lvL_116 ho2 (CX8_taskCount e2) ⟨rfl, rfl⟩ rfl hl.1 rfl ⟨Nat.le_of_ble_eq_true rfl, Nat.le_of_ble_eq_true rfl⟩ (Nat.le_of_ble_eq_true rfl) dL_law_344 ⟨hcl, hsl⟩ (fun H locs hR => ?_)
  refine pw_icmpeq hC 1728 dL_law_347 (by decide) (fun hc => ?_) (fun hc => ?_)
  · rw [if_pos hc] at hF
    cases hF
    exact kk _ _ _ _ (fun k hk => rfl) hR (lv_sub hl [0, 1, 2, 3, 4] rfl)
  · rw [if_neg hc] at hF
    cases hF
def LC5 (xs : Nat → Int) (L : Nat) (v1 v2 v3 : Nat) (v4 : Int) (h : PH) : Option PH :=
  (FX7_fenceCount h v1).bind fun x1 =>
  (FX8_fenceCount h v2).bind fun q2 =>
  if w32 x1 = w32 q2.1 then (
    some q2.2
  ) else (
    none
  )
set_option maxHeartbeats 4000000 in
set_option maxRecDepth 100000 in
theorem TC5 (hst : l.stackTraces = false) {v1 v2 v3 : Nat} {v4 : Int} {h h' : PH} {b L : Nat} {xs : Nat → Int} {cl sl : Nat} {Q : State → Prop} (hC : Cx g p s m args meth c cL_law 7 RL ret) (hX : LwX g s b L xs) (hR : Rl g ad h s.heap H locs) (hl : lv_has ls 7 [(0, .ref b), (1, .ref (ad v1)), (2, .ref (ad v2)), (3, .ref (ad v3)), (4, .int (Int32.ofInt v4))]) (hcl : cl + 4 ≤ 601024) (hsl : sl + 919 ≤ 7293034) (hF : LC5 xs L v1 v2 v3 v4 h = some h')
    (kk : ∀ (ad' : Nat → Nat) (H : Heap) (locs : List Loc) (ls : Array Slot), (∀ k, k < h.length → ad' k = ad k) → Rl g ad' h' s.heap H locs → lv_has ls 7 [(0, .ref b), (1, .ref (ad' v1)), (2, .ref (ad' v2)), (3, .ref (ad' v3)), (4, .int (Int32.ofInt v4))] → W p l e room_1 s m args below meth c H locs (cl + 4) (sl + 919) Q (F0 m 1728 ls [])) :
    W p l e room_1 s m args below meth c H locs cl sl Q (F0 m 352 ls []) := by
  unfold LC5 at hF
  refine W.widen (k := cl + 4) (n := sl + 919) (Nat.le_add_right _ _) (Nat.le_add_right _ _) ?_
  refine lv_aload_n hC.1 hC.2.1 dL_law_352 rfl (lv_at hl 1 rfl) ?_
  obtain ⟨x1, e1, hF⟩ := bnd hF
  obtain ⟨fs1, ho1⟩ := OX7_fenceCount e1
  refine pw_cVi (rest := []) hC hR lvL_117 ho1 (CX7_fenceCount e1) ⟨rfl, rfl⟩ rfl hl.1 rfl ⟨Nat.le_of_ble_eq_true rfl, Nat.le_of_ble_eq_true rfl⟩ (Nat.le_of_ble_eq_true rfl) dL_law_353 ⟨hcl, hsl⟩ (fun H locs hR => ?_)
  refine lv_aload_n hC.1 hC.2.1 dL_law_356 rfl (lv_at hl 2 rfl) ?_
  obtain ⟨q2, e2, hF⟩ := bnd hF
  obtain ⟨fs2, ho2⟩ := OX8_fenceCount e2
  refine pw_cVi (rest := [.int (Int32.ofInt x1)]) hC hR lvL_120 ho2 (CX8_fenceCount e2) ⟨rfl, rfl⟩ rfl hl.1 rfl ⟨Nat.le_of_ble_eq_true rfl, Nat.le_of_ble_eq_true rfl⟩ (Nat.le_of_ble_eq_true rfl) dL_law_357 ⟨hcl, hsl⟩ (fun H locs hR => ?_)
  refine pw_icmpeq hC 1728 dL_law_360 (by decide) (fun hc => ?_) (fun hc => ?_)
  · rw [if_pos hc] at hF
    cases hF
    exact kk _ _ _ _ (fun k hk => rfl) hR (lv_sub hl [0, 1, 2, 3, 4] rfl)
  · rw [if_neg hc] at hF
    cases hF
def LC6 (xs : Nat → Int) (L : Nat) (v1 v2 v3 : Nat) (v4 : Int) (h : PH) : Option PH :=
  (FX7_clock h v1).bind fun x1 =>
  (FX8_clock h v2).bind fun q2 =>
  if w32 x1 = w32 q2.1 then (
    some q2.2
  ) else (
    none
  )
set_option maxHeartbeats 4000000 in
set_option maxRecDepth 100000 in
theorem TC6 (hst : l.stackTraces = false) {v1 v2 v3 : Nat} {v4 : Int} {h h' : PH} {b L : Nat} {xs : Nat → Int} {cl sl : Nat} {Q : State → Prop} (hC : Cx g p s m args meth c cL_law 7 RL ret) (hX : LwX g s b L xs) (hR : Rl g ad h s.heap H locs) (hl : lv_has ls 7 [(0, .ref b), (1, .ref (ad v1)), (2, .ref (ad v2)), (3, .ref (ad v3)), (4, .int (Int32.ofInt v4))]) (hcl : cl + 4 ≤ 601024) (hsl : sl + 919 ≤ 7293034) (hF : LC6 xs L v1 v2 v3 v4 h = some h')
    (kk : ∀ (ad' : Nat → Nat) (H : Heap) (locs : List Loc) (ls : Array Slot), (∀ k, k < h.length → ad' k = ad k) → Rl g ad' h' s.heap H locs → lv_has ls 7 [(0, .ref b), (1, .ref (ad' v1)), (2, .ref (ad' v2)), (3, .ref (ad' v3)), (4, .int (Int32.ofInt v4))] → W p l e room_1 s m args below meth c H locs (cl + 4) (sl + 919) Q (F0 m 1728 ls [])) :
    W p l e room_1 s m args below meth c H locs cl sl Q (F0 m 365 ls []) := by
  unfold LC6 at hF
  refine W.widen (k := cl + 4) (n := sl + 919) (Nat.le_add_right _ _) (Nat.le_add_right _ _) ?_
  refine lv_aload_n hC.1 hC.2.1 dL_law_365 rfl (lv_at hl 1 rfl) ?_
  obtain ⟨x1, e1, hF⟩ := bnd hF
  obtain ⟨fs1, ho1⟩ := OX7_clock e1
  refine pw_cVi (rest := []) hC hR lvL_121 ho1 (CX7_clock e1) ⟨rfl, rfl⟩ rfl hl.1 rfl ⟨Nat.le_of_ble_eq_true rfl, Nat.le_of_ble_eq_true rfl⟩ (Nat.le_of_ble_eq_true rfl) dL_law_366 ⟨hcl, hsl⟩ (fun H locs hR => ?_)
  refine lv_aload_n hC.1 hC.2.1 dL_law_369 rfl (lv_at hl 2 rfl) ?_
  obtain ⟨q2, e2, hF⟩ := bnd hF
  obtain ⟨fs2, ho2⟩ := OX8_clock e2
  refine pw_cVi (rest := [.int (Int32.ofInt x1)]) hC hR lvL_124 ho2 (CX8_clock e2) ⟨rfl, rfl⟩ rfl hl.1 rfl ⟨Nat.le_of_ble_eq_true rfl, Nat.le_of_ble_eq_true rfl⟩ (Nat.le_of_ble_eq_true rfl) dL_law_370 ⟨hcl, hsl⟩ (fun H locs hR => ?_)
  refine pw_icmpeq hC 1728 dL_law_373 (by decide) (fun hc => ?_) (fun hc => ?_)
  · rw [if_pos hc] at hF
    cases hF
    exact kk _ _ _ _ (fun k hk => rfl) hR (lv_sub hl [0, 1, 2, 3, 4] rfl)
  · rw [if_neg hc] at hF
    cases hF
def LC7 (xs : Nat → Int) (L : Nat) (v1 v2 v3 : Nat) (v4 : Int) (h : PH) : Option PH :=
  (sld xs L (v4 + 1)).bind fun x1 =>
  (FL_state h v1 x1 v3).bind fun q2 =>
  (sld xs L (v4 + 1)).bind fun x3 =>
  (FX8_state q2.2 v2 x3).bind fun q4 =>
  (FX8_thrown q4.2 v2).bind fun x5 =>
  if w32 x5 = w32 q2.1 then (
    if w32 q2.1 = 0 then (
      (ald 3 q4.2 v3 0).bind fun x6 =>
      if w32 (cmpL x6 (w32 q4.1)) = 0 then (
        some q4.2
      ) else (
        none
      )
    ) else (
      some q4.2
    )
  ) else (
    none
  )
set_option maxHeartbeats 4000000 in
set_option maxRecDepth 100000 in
theorem TC7 (hst : l.stackTraces = false) {v1 v2 v3 : Nat} {v4 : Int} {h h' : PH} {b L : Nat} {xs : Nat → Int} {cl sl : Nat} {Q : State → Prop} (hC : Cx g p s m args meth c cL_law 7 RL ret) (hX : LwX g s b L xs) (hR : Rl g ad h s.heap H locs) (hl : lv_has ls 7 [(0, .ref b), (1, .ref (ad v1)), (2, .ref (ad v2)), (3, .ref (ad v3)), (4, .int (Int32.ofInt v4))]) (hcl : cl + 4 ≤ 601024) (hsl : sl + 919 ≤ 7293034) (hF : LC7 xs L v1 v2 v3 v4 h = some h')
    (kk : ∀ (ad' : Nat → Nat) (H : Heap) (locs : List Loc) (ls : Array Slot), (∀ k, k < h.length → ad' k = ad k) → Rl g ad' h' s.heap H locs → lv_has ls 7 [(0, .ref b), (1, .ref (ad' v1)), (2, .ref (ad' v2)), (3, .ref (ad' v3)), (4, .int (Int32.ofInt v4))] → W p l e room_1 s m args below meth c H locs (cl + 4) (sl + 919) Q (F0 m 1728 ls [])) :
    W p l e room_1 s m args below meth c H locs cl sl Q (F0 m 378 ls []) := by
  unfold LC7 at hF
  refine lv_aload_n hC.1 hC.2.1 dL_law_378 rfl (lv_at hl 1 rfl) ?_
  refine lv_aload_n hC.1 hC.2.1 dL_law_379 rfl (lv_at hl 0 rfl) ?_
  refine lv_iload hC.1 hC.2.1 dL_law_380 (lv_at hl 4 rfl) ?_
  refine pw_iconst hC dL_law_382 ?_
  refine pw_iadd hC dL_law_383 ?_
  obtain ⟨x1, e1, hF⟩ := bnd hF
  refine pw_sld hC hX hR e1 dL_law_384 ?_
  refine lv_aload_n hC.1 hC.2.1 dL_law_385 rfl (lv_at hl 3 rfl) ?_
  obtain ⟨q2, e2, hF⟩ := bnd hF
  refine pw_call hR (pw_runSW (rest := []) hC hR lwL_125 (CL_state hst e2) rfl hl.1 rfl ⟨(Nat.le_of_ble_eq_true rfl), (Nat.le_of_ble_eq_true rfl)⟩ (Nat.le_of_ble_eq_true rfl) dL_law_386 ⟨Nat.le_trans (Nat.add_le_add_left (Nat.le_of_ble_eq_true rfl) cl) hcl, Nat.le_trans (Nat.add_le_add_left (Nat.le_of_ble_eq_true rfl) sl) hsl⟩) (fun H locs hR => ?_)
  refine W.widen (k := cl + 4) (n := sl + 919) (Nat.add_le_add_left (Nat.le_of_ble_eq_true rfl) cl) (Nat.add_le_add_left (Nat.le_of_ble_eq_true rfl) sl) ?_
  show W p l e room_1 s m args below meth c H locs (cl + 4) (sl + 919) Q (F0 m 389 ls [.int (Int32.ofInt q2.1)])
  refine lv_istore (lv' := [(5, .int (Int32.ofInt q2.1)), (0, .ref b), (1, .ref (ad v1)), (2, .ref (ad v2)), (3, .ref (ad v3)), (4, .int (Int32.ofInt v4))]) hC.1 hC.2.1 dL_law_389 hl (by decide) rfl (fun ls hl => ?_)
  refine lv_aload_n hC.1 hC.2.1 dL_law_391 rfl (lv_at hl 3 rfl) ?_
  refine lv_aload_n hC.1 hC.2.1 dL_law_392 rfl (lv_at hl 1 rfl) ?_
  refine lv_iload hC.1 hC.2.1 dL_law_393 (lv_at hl 5 rfl) ?_
  refine pw_iconst hC dL_law_395 ?_
  refine pw_iadd hC dL_law_396 ?_
  obtain ⟨x3, e3, hF⟩ := bnd hF
  refine pw_sld hC hX hR e3 dL_law_397 ?_
  obtain ⟨q4, e4, hF⟩ := bnd hF
  obtain ⟨fs4, ho4⟩ := OX8_state e4
  refine pw_cVi (rest := []) hC hR lvL_127 ho4 (CX8_state e4) ⟨rfl, rfl⟩ rfl hl.1 rfl ⟨Nat.le_of_ble_eq_true rfl, Nat.le_of_ble_eq_true rfl⟩ (Nat.le_of_ble_eq_true rfl) dL_law_398 ⟨hcl, hsl⟩ (fun H locs hR => ?_)
  refine lv_istore (lv' := [(6, .int (Int32.ofInt q4.1)), (5, .int (Int32.ofInt q2.1)), (0, .ref b), (1, .ref (ad v1)), (2, .ref (ad v2)), (3, .ref (ad v3)), (4, .int (Int32.ofInt v4))]) hC.1 hC.2.1 dL_law_401 hl (by decide) rfl (fun ls hl => ?_)
  refine lv_aload_n hC.1 hC.2.1 dL_law_403 rfl (lv_at hl 4 rfl) ?_
  obtain ⟨x5, e5, hF⟩ := bnd hF
  obtain ⟨fs5, ho5⟩ := OX8_thrown e5
  refine pw_cVi (rest := []) hC hR lvL_101 ho5 (CX8_thrown e5) ⟨rfl, rfl⟩ rfl hl.1 rfl ⟨Nat.le_of_ble_eq_true rfl, Nat.le_of_ble_eq_true rfl⟩ (Nat.le_of_ble_eq_true rfl) dL_law_404 ⟨hcl, hsl⟩ (fun H locs hR => ?_)
  refine lv_iload hC.1 hC.2.1 dL_law_407 (lv_at hl 1 rfl) ?_
  refine pw_icmpeq hC 414 dL_law_409 (by decide) (fun hc => ?_) (fun hc => ?_)
  · rw [if_pos hc] at hF
    refine lv_iload hC.1 hC.2.1 dL_law_414 (lv_at hl 1 rfl) ?_
    refine pw_ifne hC 431 dL_law_416 (by decide) (fun hc => ?_) (fun hc => ?_)
    · rw [if_neg hc] at hF
      refine pw_goto hC 1728 dL_law_431 (by decide) ?_
      cases hF
      exact kk _ _ _ _ (fun k hk => rfl) hR (lv_sub hl [2, 3, 4, 5, 6] rfl)
    · rw [if_pos hc] at hF
      refine lv_aload_n hC.1 hC.2.1 dL_law_419 rfl (lv_at hl 5 rfl) ?_
      refine pw_iconst hC dL_law_420 ?_
      obtain ⟨x6, e6, hF⟩ := bnd hF
      refine pw_lald hC hR e6 dL_law_421 ?_
      refine lv_iload hC.1 hC.2.1 dL_law_422 (lv_at hl 0 rfl) ?_
      refine pw_i2l hC dL_law_424 ?_
      refine pw_lcmp hC dL_law_425 ?_
      refine pw_ifeq hC 431 dL_law_426 (by decide) (fun hc => ?_) (fun hc => ?_)
      · rw [if_pos hc] at hF
        refine pw_goto hC 1728 dL_law_431 (by decide) ?_
        cases hF
        exact kk _ _ _ _ (fun k hk => rfl) hR (lv_sub hl [2, 3, 4, 5, 6] rfl)
      · rw [if_neg hc] at hF
        cases hF
  · rw [if_neg hc] at hF
    cases hF
def LC8 (xs : Nat → Int) (L : Nat) (v1 v2 v3 : Nat) (v4 : Int) (h : PH) : Option PH :=
  (sld xs L (v4 + 1)).bind fun x1 =>
  (FL_counter h v1 x1 v3).bind fun q2 =>
  (sld xs L (v4 + 1)).bind fun x3 =>
  (FX8_counter q2.2 v2 x3).bind fun q4 =>
  (FX8_thrown q4.2 v2).bind fun x5 =>
  if w32 x5 = w32 q2.1 then (
    if w32 q2.1 = 0 then (
      (ald 3 q4.2 v3 0).bind fun x6 =>
      if w32 (cmpL x6 (w32 q4.1)) = 0 then (
        some q4.2
      ) else (
        none
      )
    ) else (
      some q4.2
    )
  ) else (
    none
  )
set_option maxHeartbeats 4000000 in
set_option maxRecDepth 100000 in
theorem TC8 (hst : l.stackTraces = false) {v1 v2 v3 : Nat} {v4 : Int} {h h' : PH} {b L : Nat} {xs : Nat → Int} {cl sl : Nat} {Q : State → Prop} (hC : Cx g p s m args meth c cL_law 7 RL ret) (hX : LwX g s b L xs) (hR : Rl g ad h s.heap H locs) (hl : lv_has ls 7 [(0, .ref b), (1, .ref (ad v1)), (2, .ref (ad v2)), (3, .ref (ad v3)), (4, .int (Int32.ofInt v4))]) (hcl : cl + 4 ≤ 601024) (hsl : sl + 919 ≤ 7293034) (hF : LC8 xs L v1 v2 v3 v4 h = some h')
    (kk : ∀ (ad' : Nat → Nat) (H : Heap) (locs : List Loc) (ls : Array Slot), (∀ k, k < h.length → ad' k = ad k) → Rl g ad' h' s.heap H locs → lv_has ls 7 [(0, .ref b), (1, .ref (ad' v1)), (2, .ref (ad' v2)), (3, .ref (ad' v3)), (4, .int (Int32.ofInt v4))] → W p l e room_1 s m args below meth c H locs (cl + 4) (sl + 919) Q (F0 m 1728 ls [])) :
    W p l e room_1 s m args below meth c H locs cl sl Q (F0 m 434 ls []) := by
  unfold LC8 at hF
  refine lv_aload_n hC.1 hC.2.1 dL_law_434 rfl (lv_at hl 1 rfl) ?_
  refine lv_aload_n hC.1 hC.2.1 dL_law_435 rfl (lv_at hl 0 rfl) ?_
  refine lv_iload hC.1 hC.2.1 dL_law_436 (lv_at hl 4 rfl) ?_
  refine pw_iconst hC dL_law_438 ?_
  refine pw_iadd hC dL_law_439 ?_
  obtain ⟨x1, e1, hF⟩ := bnd hF
  refine pw_sld hC hX hR e1 dL_law_440 ?_
  refine lv_aload_n hC.1 hC.2.1 dL_law_441 rfl (lv_at hl 3 rfl) ?_
  obtain ⟨q2, e2, hF⟩ := bnd hF
  refine pw_call hR (pw_runSW (rest := []) hC hR lwL_128 (CL_counter hst e2) rfl hl.1 rfl ⟨(Nat.le_of_ble_eq_true rfl), (Nat.le_of_ble_eq_true rfl)⟩ (Nat.le_of_ble_eq_true rfl) dL_law_442 ⟨Nat.le_trans (Nat.add_le_add_left (Nat.le_of_ble_eq_true rfl) cl) hcl, Nat.le_trans (Nat.add_le_add_left (Nat.le_of_ble_eq_true rfl) sl) hsl⟩) (fun H locs hR => ?_)
  refine W.widen (k := cl + 4) (n := sl + 919) (Nat.add_le_add_left (Nat.le_of_ble_eq_true rfl) cl) (Nat.add_le_add_left (Nat.le_of_ble_eq_true rfl) sl) ?_
  show W p l e room_1 s m args below meth c H locs (cl + 4) (sl + 919) Q (F0 m 445 ls [.int (Int32.ofInt q2.1)])
  refine lv_istore (lv' := [(5, .int (Int32.ofInt q2.1)), (0, .ref b), (1, .ref (ad v1)), (2, .ref (ad v2)), (3, .ref (ad v3)), (4, .int (Int32.ofInt v4))]) hC.1 hC.2.1 dL_law_445 hl (by decide) rfl (fun ls hl => ?_)
  refine lv_aload_n hC.1 hC.2.1 dL_law_447 rfl (lv_at hl 3 rfl) ?_
  refine lv_aload_n hC.1 hC.2.1 dL_law_448 rfl (lv_at hl 1 rfl) ?_
  refine lv_iload hC.1 hC.2.1 dL_law_449 (lv_at hl 5 rfl) ?_
  refine pw_iconst hC dL_law_451 ?_
  refine pw_iadd hC dL_law_452 ?_
  obtain ⟨x3, e3, hF⟩ := bnd hF
  refine pw_sld hC hX hR e3 dL_law_453 ?_
  obtain ⟨q4, e4, hF⟩ := bnd hF
  obtain ⟨fs4, ho4⟩ := OX8_counter e4
  refine pw_cVi (rest := []) hC hR lvL_130 ho4 (CX8_counter e4) ⟨rfl, rfl⟩ rfl hl.1 rfl ⟨Nat.le_of_ble_eq_true rfl, Nat.le_of_ble_eq_true rfl⟩ (Nat.le_of_ble_eq_true rfl) dL_law_454 ⟨hcl, hsl⟩ (fun H locs hR => ?_)
  refine lv_istore (lv' := [(6, .int (Int32.ofInt q4.1)), (5, .int (Int32.ofInt q2.1)), (0, .ref b), (1, .ref (ad v1)), (2, .ref (ad v2)), (3, .ref (ad v3)), (4, .int (Int32.ofInt v4))]) hC.1 hC.2.1 dL_law_457 hl (by decide) rfl (fun ls hl => ?_)
  refine lv_aload_n hC.1 hC.2.1 dL_law_459 rfl (lv_at hl 4 rfl) ?_
  obtain ⟨x5, e5, hF⟩ := bnd hF
  obtain ⟨fs5, ho5⟩ := OX8_thrown e5
  refine pw_cVi (rest := []) hC hR lvL_101 ho5 (CX8_thrown e5) ⟨rfl, rfl⟩ rfl hl.1 rfl ⟨Nat.le_of_ble_eq_true rfl, Nat.le_of_ble_eq_true rfl⟩ (Nat.le_of_ble_eq_true rfl) dL_law_460 ⟨hcl, hsl⟩ (fun H locs hR => ?_)
  refine lv_iload hC.1 hC.2.1 dL_law_463 (lv_at hl 1 rfl) ?_
  refine pw_icmpeq hC 470 dL_law_465 (by decide) (fun hc => ?_) (fun hc => ?_)
  · rw [if_pos hc] at hF
    refine lv_iload hC.1 hC.2.1 dL_law_470 (lv_at hl 1 rfl) ?_
    refine pw_ifne hC 487 dL_law_472 (by decide) (fun hc => ?_) (fun hc => ?_)
    · rw [if_neg hc] at hF
      refine pw_goto hC 1728 dL_law_487 (by decide) ?_
      cases hF
      exact kk _ _ _ _ (fun k hk => rfl) hR (lv_sub hl [2, 3, 4, 5, 6] rfl)
    · rw [if_pos hc] at hF
      refine lv_aload_n hC.1 hC.2.1 dL_law_475 rfl (lv_at hl 5 rfl) ?_
      refine pw_iconst hC dL_law_476 ?_
      obtain ⟨x6, e6, hF⟩ := bnd hF
      refine pw_lald hC hR e6 dL_law_477 ?_
      refine lv_iload hC.1 hC.2.1 dL_law_478 (lv_at hl 0 rfl) ?_
      refine pw_i2l hC dL_law_480 ?_
      refine pw_lcmp hC dL_law_481 ?_
      refine pw_ifeq hC 487 dL_law_482 (by decide) (fun hc => ?_) (fun hc => ?_)
      · rw [if_pos hc] at hF
        refine pw_goto hC 1728 dL_law_487 (by decide) ?_
        cases hF
        exact kk _ _ _ _ (fun k hk => rfl) hR (lv_sub hl [2, 3, 4, 5, 6] rfl)
      · rw [if_neg hc] at hF
        cases hF
  · rw [if_neg hc] at hF
    cases hF
def LC9 (xs : Nat → Int) (L : Nat) (v1 v2 v3 : Nat) (v4 : Int) (h : PH) : Option PH :=
  (sld xs L (v4 + 1)).bind fun x1 =>
  (FL_priority h v1 x1 v3).bind fun q2 =>
  (sld xs L (v4 + 1)).bind fun x3 =>
  (FX8_priority q2.2 v2 x3).bind fun q4 =>
  (FX8_thrown q4.2 v2).bind fun x5 =>
  if w32 x5 = w32 q2.1 then (
    if w32 q2.1 = 0 then (
      (ald 3 q4.2 v3 0).bind fun x6 =>
      if w32 (cmpL x6 (w32 q4.1)) = 0 then (
        some q4.2
      ) else (
        none
      )
    ) else (
      some q4.2
    )
  ) else (
    none
  )
set_option maxHeartbeats 4000000 in
set_option maxRecDepth 100000 in
theorem TC9 (hst : l.stackTraces = false) {v1 v2 v3 : Nat} {v4 : Int} {h h' : PH} {b L : Nat} {xs : Nat → Int} {cl sl : Nat} {Q : State → Prop} (hC : Cx g p s m args meth c cL_law 7 RL ret) (hX : LwX g s b L xs) (hR : Rl g ad h s.heap H locs) (hl : lv_has ls 7 [(0, .ref b), (1, .ref (ad v1)), (2, .ref (ad v2)), (3, .ref (ad v3)), (4, .int (Int32.ofInt v4))]) (hcl : cl + 4 ≤ 601024) (hsl : sl + 919 ≤ 7293034) (hF : LC9 xs L v1 v2 v3 v4 h = some h')
    (kk : ∀ (ad' : Nat → Nat) (H : Heap) (locs : List Loc) (ls : Array Slot), (∀ k, k < h.length → ad' k = ad k) → Rl g ad' h' s.heap H locs → lv_has ls 7 [(0, .ref b), (1, .ref (ad' v1)), (2, .ref (ad' v2)), (3, .ref (ad' v3)), (4, .int (Int32.ofInt v4))] → W p l e room_1 s m args below meth c H locs (cl + 4) (sl + 919) Q (F0 m 1728 ls [])) :
    W p l e room_1 s m args below meth c H locs cl sl Q (F0 m 490 ls []) := by
  unfold LC9 at hF
  refine lv_aload_n hC.1 hC.2.1 dL_law_490 rfl (lv_at hl 1 rfl) ?_
  refine lv_aload_n hC.1 hC.2.1 dL_law_491 rfl (lv_at hl 0 rfl) ?_
  refine lv_iload hC.1 hC.2.1 dL_law_492 (lv_at hl 4 rfl) ?_
  refine pw_iconst hC dL_law_494 ?_
  refine pw_iadd hC dL_law_495 ?_
  obtain ⟨x1, e1, hF⟩ := bnd hF
  refine pw_sld hC hX hR e1 dL_law_496 ?_
  refine lv_aload_n hC.1 hC.2.1 dL_law_497 rfl (lv_at hl 3 rfl) ?_
  obtain ⟨q2, e2, hF⟩ := bnd hF
  refine pw_call hR (pw_runSW (rest := []) hC hR lwL_131 (CL_priority hst e2) rfl hl.1 rfl ⟨(Nat.le_of_ble_eq_true rfl), (Nat.le_of_ble_eq_true rfl)⟩ (Nat.le_of_ble_eq_true rfl) dL_law_498 ⟨Nat.le_trans (Nat.add_le_add_left (Nat.le_of_ble_eq_true rfl) cl) hcl, Nat.le_trans (Nat.add_le_add_left (Nat.le_of_ble_eq_true rfl) sl) hsl⟩) (fun H locs hR => ?_)
  refine W.widen (k := cl + 4) (n := sl + 919) (Nat.add_le_add_left (Nat.le_of_ble_eq_true rfl) cl) (Nat.add_le_add_left (Nat.le_of_ble_eq_true rfl) sl) ?_
  show W p l e room_1 s m args below meth c H locs (cl + 4) (sl + 919) Q (F0 m 501 ls [.int (Int32.ofInt q2.1)])
  refine lv_istore (lv' := [(5, .int (Int32.ofInt q2.1)), (0, .ref b), (1, .ref (ad v1)), (2, .ref (ad v2)), (3, .ref (ad v3)), (4, .int (Int32.ofInt v4))]) hC.1 hC.2.1 dL_law_501 hl (by decide) rfl (fun ls hl => ?_)
  refine lv_aload_n hC.1 hC.2.1 dL_law_503 rfl (lv_at hl 3 rfl) ?_
  refine lv_aload_n hC.1 hC.2.1 dL_law_504 rfl (lv_at hl 1 rfl) ?_
  refine lv_iload hC.1 hC.2.1 dL_law_505 (lv_at hl 5 rfl) ?_
  refine pw_iconst hC dL_law_507 ?_
  refine pw_iadd hC dL_law_508 ?_
  obtain ⟨x3, e3, hF⟩ := bnd hF
  refine pw_sld hC hX hR e3 dL_law_509 ?_
  obtain ⟨q4, e4, hF⟩ := bnd hF
  obtain ⟨fs4, ho4⟩ := OX8_priority e4
  refine pw_cVi (rest := []) hC hR lvL_133 ho4 (CX8_priority e4) ⟨rfl, rfl⟩ rfl hl.1 rfl ⟨Nat.le_of_ble_eq_true rfl, Nat.le_of_ble_eq_true rfl⟩ (Nat.le_of_ble_eq_true rfl) dL_law_510 ⟨hcl, hsl⟩ (fun H locs hR => ?_)
  refine lv_istore (lv' := [(6, .int (Int32.ofInt q4.1)), (5, .int (Int32.ofInt q2.1)), (0, .ref b), (1, .ref (ad v1)), (2, .ref (ad v2)), (3, .ref (ad v3)), (4, .int (Int32.ofInt v4))]) hC.1 hC.2.1 dL_law_513 hl (by decide) rfl (fun ls hl => ?_)
  refine lv_aload_n hC.1 hC.2.1 dL_law_515 rfl (lv_at hl 4 rfl) ?_
  obtain ⟨x5, e5, hF⟩ := bnd hF
  obtain ⟨fs5, ho5⟩ := OX8_thrown e5
  refine pw_cVi (rest := []) hC hR lvL_101 ho5 (CX8_thrown e5) ⟨rfl, rfl⟩ rfl hl.1 rfl ⟨Nat.le_of_ble_eq_true rfl, Nat.le_of_ble_eq_true rfl⟩ (Nat.le_of_ble_eq_true rfl) dL_law_516 ⟨hcl, hsl⟩ (fun H locs hR => ?_)
  refine lv_iload hC.1 hC.2.1 dL_law_519 (lv_at hl 1 rfl) ?_
  refine pw_icmpeq hC 526 dL_law_521 (by decide) (fun hc => ?_) (fun hc => ?_)
  · rw [if_pos hc] at hF
    refine lv_iload hC.1 hC.2.1 dL_law_526 (lv_at hl 1 rfl) ?_
    refine pw_ifne hC 543 dL_law_528 (by decide) (fun hc => ?_) (fun hc => ?_)
    · rw [if_neg hc] at hF
      refine pw_goto hC 1728 dL_law_543 (by decide) ?_
      cases hF
      exact kk _ _ _ _ (fun k hk => rfl) hR (lv_sub hl [2, 3, 4, 5, 6] rfl)
    · rw [if_pos hc] at hF
      refine lv_aload_n hC.1 hC.2.1 dL_law_531 rfl (lv_at hl 5 rfl) ?_
      refine pw_iconst hC dL_law_532 ?_
      obtain ⟨x6, e6, hF⟩ := bnd hF
      refine pw_lald hC hR e6 dL_law_533 ?_
      refine lv_iload hC.1 hC.2.1 dL_law_534 (lv_at hl 0 rfl) ?_
      refine pw_i2l hC dL_law_536 ?_
      refine pw_lcmp hC dL_law_537 ?_
      refine pw_ifeq hC 543 dL_law_538 (by decide) (fun hc => ?_) (fun hc => ?_)
      · rw [if_pos hc] at hF
        refine pw_goto hC 1728 dL_law_543 (by decide) ?_
        cases hF
        exact kk _ _ _ _ (fun k hk => rfl) hR (lv_sub hl [2, 3, 4, 5, 6] rfl)
      · rw [if_neg hc] at hF
        cases hF
  · rw [if_neg hc] at hF
    cases hF
def LC10 (xs : Nat → Int) (L : Nat) (v1 v2 v3 : Nat) (v4 : Int) (h : PH) : Option PH :=
  (sld xs L (v4 + 1)).bind fun x1 =>
  (FL_coreOf h v1 x1 v3).bind fun q2 =>
  (sld xs L (v4 + 1)).bind fun x3 =>
  (FX8_coreOf q2.2 v2 x3).bind fun q4 =>
  (FX8_thrown q4.2 v2).bind fun x5 =>
  if w32 x5 = w32 q2.1 then (
    if w32 q2.1 = 0 then (
      (ald 3 q4.2 v3 0).bind fun x6 =>
      if w32 (cmpL x6 (w32 q4.1)) = 0 then (
        some q4.2
      ) else (
        none
      )
    ) else (
      some q4.2
    )
  ) else (
    none
  )
set_option maxHeartbeats 4000000 in
set_option maxRecDepth 100000 in
theorem TC10 (hst : l.stackTraces = false) {v1 v2 v3 : Nat} {v4 : Int} {h h' : PH} {b L : Nat} {xs : Nat → Int} {cl sl : Nat} {Q : State → Prop} (hC : Cx g p s m args meth c cL_law 7 RL ret) (hX : LwX g s b L xs) (hR : Rl g ad h s.heap H locs) (hl : lv_has ls 7 [(0, .ref b), (1, .ref (ad v1)), (2, .ref (ad v2)), (3, .ref (ad v3)), (4, .int (Int32.ofInt v4))]) (hcl : cl + 4 ≤ 601024) (hsl : sl + 919 ≤ 7293034) (hF : LC10 xs L v1 v2 v3 v4 h = some h')
    (kk : ∀ (ad' : Nat → Nat) (H : Heap) (locs : List Loc) (ls : Array Slot), (∀ k, k < h.length → ad' k = ad k) → Rl g ad' h' s.heap H locs → lv_has ls 7 [(0, .ref b), (1, .ref (ad' v1)), (2, .ref (ad' v2)), (3, .ref (ad' v3)), (4, .int (Int32.ofInt v4))] → W p l e room_1 s m args below meth c H locs (cl + 4) (sl + 919) Q (F0 m 1728 ls [])) :
    W p l e room_1 s m args below meth c H locs cl sl Q (F0 m 546 ls []) := by
  unfold LC10 at hF
  refine lv_aload_n hC.1 hC.2.1 dL_law_546 rfl (lv_at hl 1 rfl) ?_
  refine lv_aload_n hC.1 hC.2.1 dL_law_547 rfl (lv_at hl 0 rfl) ?_
  refine lv_iload hC.1 hC.2.1 dL_law_548 (lv_at hl 4 rfl) ?_
  refine pw_iconst hC dL_law_550 ?_
  refine pw_iadd hC dL_law_551 ?_
  obtain ⟨x1, e1, hF⟩ := bnd hF
  refine pw_sld hC hX hR e1 dL_law_552 ?_
  refine lv_aload_n hC.1 hC.2.1 dL_law_553 rfl (lv_at hl 3 rfl) ?_
  obtain ⟨q2, e2, hF⟩ := bnd hF
  refine pw_call hR (pw_runSW (rest := []) hC hR lwL_134 (CL_coreOf hst e2) rfl hl.1 rfl ⟨(Nat.le_of_ble_eq_true rfl), (Nat.le_of_ble_eq_true rfl)⟩ (Nat.le_of_ble_eq_true rfl) dL_law_554 ⟨Nat.le_trans (Nat.add_le_add_left (Nat.le_of_ble_eq_true rfl) cl) hcl, Nat.le_trans (Nat.add_le_add_left (Nat.le_of_ble_eq_true rfl) sl) hsl⟩) (fun H locs hR => ?_)
  refine W.widen (k := cl + 4) (n := sl + 919) (Nat.add_le_add_left (Nat.le_of_ble_eq_true rfl) cl) (Nat.add_le_add_left (Nat.le_of_ble_eq_true rfl) sl) ?_
  show W p l e room_1 s m args below meth c H locs (cl + 4) (sl + 919) Q (F0 m 557 ls [.int (Int32.ofInt q2.1)])
  refine lv_istore (lv' := [(5, .int (Int32.ofInt q2.1)), (0, .ref b), (1, .ref (ad v1)), (2, .ref (ad v2)), (3, .ref (ad v3)), (4, .int (Int32.ofInt v4))]) hC.1 hC.2.1 dL_law_557 hl (by decide) rfl (fun ls hl => ?_)
  refine lv_aload_n hC.1 hC.2.1 dL_law_559 rfl (lv_at hl 3 rfl) ?_
  refine lv_aload_n hC.1 hC.2.1 dL_law_560 rfl (lv_at hl 1 rfl) ?_
  refine lv_iload hC.1 hC.2.1 dL_law_561 (lv_at hl 5 rfl) ?_
  refine pw_iconst hC dL_law_563 ?_
  refine pw_iadd hC dL_law_564 ?_
  obtain ⟨x3, e3, hF⟩ := bnd hF
  refine pw_sld hC hX hR e3 dL_law_565 ?_
  obtain ⟨q4, e4, hF⟩ := bnd hF
  obtain ⟨fs4, ho4⟩ := OX8_coreOf e4
  refine pw_cVi (rest := []) hC hR lvL_136 ho4 (CX8_coreOf e4) ⟨rfl, rfl⟩ rfl hl.1 rfl ⟨Nat.le_of_ble_eq_true rfl, Nat.le_of_ble_eq_true rfl⟩ (Nat.le_of_ble_eq_true rfl) dL_law_566 ⟨hcl, hsl⟩ (fun H locs hR => ?_)
  refine lv_istore (lv' := [(6, .int (Int32.ofInt q4.1)), (5, .int (Int32.ofInt q2.1)), (0, .ref b), (1, .ref (ad v1)), (2, .ref (ad v2)), (3, .ref (ad v3)), (4, .int (Int32.ofInt v4))]) hC.1 hC.2.1 dL_law_569 hl (by decide) rfl (fun ls hl => ?_)
  refine lv_aload_n hC.1 hC.2.1 dL_law_571 rfl (lv_at hl 4 rfl) ?_
  obtain ⟨x5, e5, hF⟩ := bnd hF
  obtain ⟨fs5, ho5⟩ := OX8_thrown e5
  refine pw_cVi (rest := []) hC hR lvL_101 ho5 (CX8_thrown e5) ⟨rfl, rfl⟩ rfl hl.1 rfl ⟨Nat.le_of_ble_eq_true rfl, Nat.le_of_ble_eq_true rfl⟩ (Nat.le_of_ble_eq_true rfl) dL_law_572 ⟨hcl, hsl⟩ (fun H locs hR => ?_)
  refine lv_iload hC.1 hC.2.1 dL_law_575 (lv_at hl 1 rfl) ?_
  refine pw_icmpeq hC 582 dL_law_577 (by decide) (fun hc => ?_) (fun hc => ?_)
  · rw [if_pos hc] at hF
    refine lv_iload hC.1 hC.2.1 dL_law_582 (lv_at hl 1 rfl) ?_
    refine pw_ifne hC 599 dL_law_584 (by decide) (fun hc => ?_) (fun hc => ?_)
    · rw [if_neg hc] at hF
      refine pw_goto hC 1728 dL_law_599 (by decide) ?_
      cases hF
      exact kk _ _ _ _ (fun k hk => rfl) hR (lv_sub hl [2, 3, 4, 5, 6] rfl)
    · rw [if_pos hc] at hF
      refine lv_aload_n hC.1 hC.2.1 dL_law_587 rfl (lv_at hl 5 rfl) ?_
      refine pw_iconst hC dL_law_588 ?_
      obtain ⟨x6, e6, hF⟩ := bnd hF
      refine pw_lald hC hR e6 dL_law_589 ?_
      refine lv_iload hC.1 hC.2.1 dL_law_590 (lv_at hl 0 rfl) ?_
      refine pw_i2l hC dL_law_592 ?_
      refine pw_lcmp hC dL_law_593 ?_
      refine pw_ifeq hC 599 dL_law_594 (by decide) (fun hc => ?_) (fun hc => ?_)
      · rw [if_pos hc] at hF
        refine pw_goto hC 1728 dL_law_599 (by decide) ?_
        cases hF
        exact kk _ _ _ _ (fun k hk => rfl) hR (lv_sub hl [2, 3, 4, 5, 6] rfl)
      · rw [if_neg hc] at hF
        cases hF
  · rw [if_neg hc] at hF
    cases hF
def LC11 (xs : Nat → Int) (L : Nat) (v1 v2 v3 : Nat) (v4 : Int) (h : PH) : Option PH :=
  (sld xs L (v4 + 1)).bind fun x1 =>
  (FL_doneAt h v1 x1 v3).bind fun q2 =>
  (sld xs L (v4 + 1)).bind fun x3 =>
  (FX8_doneAt q2.2 v2 x3).bind fun q4 =>
  (FX8_thrown q4.2 v2).bind fun x5 =>
  if w32 x5 = w32 q2.1 then (
    if w32 q2.1 = 0 then (
      (ald 3 q4.2 v3 0).bind fun x6 =>
      if w32 (cmpL x6 (w32 q4.1)) = 0 then (
        some q4.2
      ) else (
        none
      )
    ) else (
      some q4.2
    )
  ) else (
    none
  )
set_option maxHeartbeats 4000000 in
set_option maxRecDepth 100000 in
theorem TC11 (hst : l.stackTraces = false) {v1 v2 v3 : Nat} {v4 : Int} {h h' : PH} {b L : Nat} {xs : Nat → Int} {cl sl : Nat} {Q : State → Prop} (hC : Cx g p s m args meth c cL_law 7 RL ret) (hX : LwX g s b L xs) (hR : Rl g ad h s.heap H locs) (hl : lv_has ls 7 [(0, .ref b), (1, .ref (ad v1)), (2, .ref (ad v2)), (3, .ref (ad v3)), (4, .int (Int32.ofInt v4))]) (hcl : cl + 4 ≤ 601024) (hsl : sl + 919 ≤ 7293034) (hF : LC11 xs L v1 v2 v3 v4 h = some h')
    (kk : ∀ (ad' : Nat → Nat) (H : Heap) (locs : List Loc) (ls : Array Slot), (∀ k, k < h.length → ad' k = ad k) → Rl g ad' h' s.heap H locs → lv_has ls 7 [(0, .ref b), (1, .ref (ad' v1)), (2, .ref (ad' v2)), (3, .ref (ad' v3)), (4, .int (Int32.ofInt v4))] → W p l e room_1 s m args below meth c H locs (cl + 4) (sl + 919) Q (F0 m 1728 ls [])) :
    W p l e room_1 s m args below meth c H locs cl sl Q (F0 m 602 ls []) := by
  unfold LC11 at hF
  refine lv_aload_n hC.1 hC.2.1 dL_law_602 rfl (lv_at hl 1 rfl) ?_
  refine lv_aload_n hC.1 hC.2.1 dL_law_603 rfl (lv_at hl 0 rfl) ?_
  refine lv_iload hC.1 hC.2.1 dL_law_604 (lv_at hl 4 rfl) ?_
  refine pw_iconst hC dL_law_606 ?_
  refine pw_iadd hC dL_law_607 ?_
  obtain ⟨x1, e1, hF⟩ := bnd hF
  refine pw_sld hC hX hR e1 dL_law_608 ?_
  refine lv_aload_n hC.1 hC.2.1 dL_law_609 rfl (lv_at hl 3 rfl) ?_
  obtain ⟨q2, e2, hF⟩ := bnd hF
  refine pw_call hR (pw_runSW (rest := []) hC hR lwL_137 (CL_doneAt hst e2) rfl hl.1 rfl ⟨(Nat.le_of_ble_eq_true rfl), (Nat.le_of_ble_eq_true rfl)⟩ (Nat.le_of_ble_eq_true rfl) dL_law_610 ⟨Nat.le_trans (Nat.add_le_add_left (Nat.le_of_ble_eq_true rfl) cl) hcl, Nat.le_trans (Nat.add_le_add_left (Nat.le_of_ble_eq_true rfl) sl) hsl⟩) (fun H locs hR => ?_)
  refine W.widen (k := cl + 4) (n := sl + 919) (Nat.add_le_add_left (Nat.le_of_ble_eq_true rfl) cl) (Nat.add_le_add_left (Nat.le_of_ble_eq_true rfl) sl) ?_
  show W p l e room_1 s m args below meth c H locs (cl + 4) (sl + 919) Q (F0 m 613 ls [.int (Int32.ofInt q2.1)])
  refine lv_istore (lv' := [(5, .int (Int32.ofInt q2.1)), (0, .ref b), (1, .ref (ad v1)), (2, .ref (ad v2)), (3, .ref (ad v3)), (4, .int (Int32.ofInt v4))]) hC.1 hC.2.1 dL_law_613 hl (by decide) rfl (fun ls hl => ?_)
  refine lv_aload_n hC.1 hC.2.1 dL_law_615 rfl (lv_at hl 3 rfl) ?_
  refine lv_aload_n hC.1 hC.2.1 dL_law_616 rfl (lv_at hl 1 rfl) ?_
  refine lv_iload hC.1 hC.2.1 dL_law_617 (lv_at hl 5 rfl) ?_
  refine pw_iconst hC dL_law_619 ?_
  refine pw_iadd hC dL_law_620 ?_
  obtain ⟨x3, e3, hF⟩ := bnd hF
  refine pw_sld hC hX hR e3 dL_law_621 ?_
  obtain ⟨q4, e4, hF⟩ := bnd hF
  obtain ⟨fs4, ho4⟩ := OX8_doneAt e4
  refine pw_cVi (rest := []) hC hR lvL_139 ho4 (CX8_doneAt e4) ⟨rfl, rfl⟩ rfl hl.1 rfl ⟨Nat.le_of_ble_eq_true rfl, Nat.le_of_ble_eq_true rfl⟩ (Nat.le_of_ble_eq_true rfl) dL_law_622 ⟨hcl, hsl⟩ (fun H locs hR => ?_)
  refine lv_istore (lv' := [(6, .int (Int32.ofInt q4.1)), (5, .int (Int32.ofInt q2.1)), (0, .ref b), (1, .ref (ad v1)), (2, .ref (ad v2)), (3, .ref (ad v3)), (4, .int (Int32.ofInt v4))]) hC.1 hC.2.1 dL_law_625 hl (by decide) rfl (fun ls hl => ?_)
  refine lv_aload_n hC.1 hC.2.1 dL_law_627 rfl (lv_at hl 4 rfl) ?_
  obtain ⟨x5, e5, hF⟩ := bnd hF
  obtain ⟨fs5, ho5⟩ := OX8_thrown e5
  refine pw_cVi (rest := []) hC hR lvL_101 ho5 (CX8_thrown e5) ⟨rfl, rfl⟩ rfl hl.1 rfl ⟨Nat.le_of_ble_eq_true rfl, Nat.le_of_ble_eq_true rfl⟩ (Nat.le_of_ble_eq_true rfl) dL_law_628 ⟨hcl, hsl⟩ (fun H locs hR => ?_)
  refine lv_iload hC.1 hC.2.1 dL_law_631 (lv_at hl 1 rfl) ?_
  refine pw_icmpeq hC 638 dL_law_633 (by decide) (fun hc => ?_) (fun hc => ?_)
  · rw [if_pos hc] at hF
    refine lv_iload hC.1 hC.2.1 dL_law_638 (lv_at hl 1 rfl) ?_
    refine pw_ifne hC 655 dL_law_640 (by decide) (fun hc => ?_) (fun hc => ?_)
    · rw [if_neg hc] at hF
      refine pw_goto hC 1728 dL_law_655 (by decide) ?_
      cases hF
      exact kk _ _ _ _ (fun k hk => rfl) hR (lv_sub hl [2, 3, 4, 5, 6] rfl)
    · rw [if_pos hc] at hF
      refine lv_aload_n hC.1 hC.2.1 dL_law_643 rfl (lv_at hl 5 rfl) ?_
      refine pw_iconst hC dL_law_644 ?_
      obtain ⟨x6, e6, hF⟩ := bnd hF
      refine pw_lald hC hR e6 dL_law_645 ?_
      refine lv_iload hC.1 hC.2.1 dL_law_646 (lv_at hl 0 rfl) ?_
      refine pw_i2l hC dL_law_648 ?_
      refine pw_lcmp hC dL_law_649 ?_
      refine pw_ifeq hC 655 dL_law_650 (by decide) (fun hc => ?_) (fun hc => ?_)
      · rw [if_pos hc] at hF
        refine pw_goto hC 1728 dL_law_655 (by decide) ?_
        cases hF
        exact kk _ _ _ _ (fun k hk => rfl) hR (lv_sub hl [2, 3, 4, 5, 6] rfl)
      · rw [if_neg hc] at hF
        cases hF
  · rw [if_neg hc] at hF
    cases hF
def LC12 (xs : Nat → Int) (L : Nat) (v1 v2 v3 : Nat) (v4 : Int) (h : PH) : Option PH :=
  (sld xs L (v4 + 1)).bind fun x1 =>
  (FL_isOpen h v1 x1 v3).bind fun q2 =>
  (sld xs L (v4 + 1)).bind fun x3 =>
  (FX8_isOpen q2.2 v2 x3).bind fun q4 =>
  (FX8_thrown q4.2 v2).bind fun x5 =>
  if w32 x5 = w32 q2.1 then (
    if w32 q2.1 = 0 then (
      (ald 3 q4.2 v3 0).bind fun x6 =>
      if w32 q4.1 = 0 then (
        if w32 (cmpL x6 0) = 0 then (
          some q4.2
        ) else (
          none
        )
      ) else (
        if w32 (cmpL x6 1) = 0 then (
          some q4.2
        ) else (
          none
        )
      )
    ) else (
      some q4.2
    )
  ) else (
    none
  )
set_option maxHeartbeats 4000000 in
set_option maxRecDepth 100000 in
theorem TC12 (hst : l.stackTraces = false) {v1 v2 v3 : Nat} {v4 : Int} {h h' : PH} {b L : Nat} {xs : Nat → Int} {cl sl : Nat} {Q : State → Prop} (hC : Cx g p s m args meth c cL_law 7 RL ret) (hX : LwX g s b L xs) (hR : Rl g ad h s.heap H locs) (hl : lv_has ls 7 [(0, .ref b), (1, .ref (ad v1)), (2, .ref (ad v2)), (3, .ref (ad v3)), (4, .int (Int32.ofInt v4))]) (hcl : cl + 4 ≤ 601024) (hsl : sl + 919 ≤ 7293034) (hF : LC12 xs L v1 v2 v3 v4 h = some h')
    (kk : ∀ (ad' : Nat → Nat) (H : Heap) (locs : List Loc) (ls : Array Slot), (∀ k, k < h.length → ad' k = ad k) → Rl g ad' h' s.heap H locs → lv_has ls 7 [(0, .ref b), (1, .ref (ad' v1)), (2, .ref (ad' v2)), (3, .ref (ad' v3)), (4, .int (Int32.ofInt v4))] → W p l e room_1 s m args below meth c H locs (cl + 4) (sl + 919) Q (F0 m 1728 ls [])) :
    W p l e room_1 s m args below meth c H locs cl sl Q (F0 m 658 ls []) := by
  unfold LC12 at hF
  refine lv_aload_n hC.1 hC.2.1 dL_law_658 rfl (lv_at hl 1 rfl) ?_
  refine lv_aload_n hC.1 hC.2.1 dL_law_659 rfl (lv_at hl 0 rfl) ?_
  refine lv_iload hC.1 hC.2.1 dL_law_660 (lv_at hl 4 rfl) ?_
  refine pw_iconst hC dL_law_662 ?_
  refine pw_iadd hC dL_law_663 ?_
  obtain ⟨x1, e1, hF⟩ := bnd hF
  refine pw_sld hC hX hR e1 dL_law_664 ?_
  refine lv_aload_n hC.1 hC.2.1 dL_law_665 rfl (lv_at hl 3 rfl) ?_
  obtain ⟨q2, e2, hF⟩ := bnd hF
  refine pw_call hR (pw_runSW (rest := []) hC hR lwL_140 (CL_isOpen hst e2) rfl hl.1 rfl ⟨(Nat.le_of_ble_eq_true rfl), (Nat.le_of_ble_eq_true rfl)⟩ (Nat.le_of_ble_eq_true rfl) dL_law_666 ⟨Nat.le_trans (Nat.add_le_add_left (Nat.le_of_ble_eq_true rfl) cl) hcl, Nat.le_trans (Nat.add_le_add_left (Nat.le_of_ble_eq_true rfl) sl) hsl⟩) (fun H locs hR => ?_)
  refine W.widen (k := cl + 4) (n := sl + 919) (Nat.add_le_add_left (Nat.le_of_ble_eq_true rfl) cl) (Nat.add_le_add_left (Nat.le_of_ble_eq_true rfl) sl) ?_
  show W p l e room_1 s m args below meth c H locs (cl + 4) (sl + 919) Q (F0 m 669 ls [.int (Int32.ofInt q2.1)])
  refine lv_istore (lv' := [(5, .int (Int32.ofInt q2.1)), (0, .ref b), (1, .ref (ad v1)), (2, .ref (ad v2)), (3, .ref (ad v3)), (4, .int (Int32.ofInt v4))]) hC.1 hC.2.1 dL_law_669 hl (by decide) rfl (fun ls hl => ?_)
  refine lv_aload_n hC.1 hC.2.1 dL_law_671 rfl (lv_at hl 3 rfl) ?_
  refine lv_aload_n hC.1 hC.2.1 dL_law_672 rfl (lv_at hl 1 rfl) ?_
  refine lv_iload hC.1 hC.2.1 dL_law_673 (lv_at hl 5 rfl) ?_
  refine pw_iconst hC dL_law_675 ?_
  refine pw_iadd hC dL_law_676 ?_
  obtain ⟨x3, e3, hF⟩ := bnd hF
  refine pw_sld hC hX hR e3 dL_law_677 ?_
  obtain ⟨q4, e4, hF⟩ := bnd hF
  obtain ⟨fs4, ho4⟩ := OX8_isOpen e4
  refine pw_cVi (rest := []) hC hR lvL_142 ho4 (CX8_isOpen e4) ⟨rfl, rfl⟩ rfl hl.1 rfl ⟨Nat.le_of_ble_eq_true rfl, Nat.le_of_ble_eq_true rfl⟩ (Nat.le_of_ble_eq_true rfl) dL_law_678 ⟨hcl, hsl⟩ (fun H locs hR => ?_)
  refine lv_istore (lv' := [(6, .int (Int32.ofInt q4.1)), (5, .int (Int32.ofInt q2.1)), (0, .ref b), (1, .ref (ad v1)), (2, .ref (ad v2)), (3, .ref (ad v3)), (4, .int (Int32.ofInt v4))]) hC.1 hC.2.1 dL_law_681 hl (by decide) rfl (fun ls hl => ?_)
  refine lv_aload_n hC.1 hC.2.1 dL_law_683 rfl (lv_at hl 4 rfl) ?_
  obtain ⟨x5, e5, hF⟩ := bnd hF
  obtain ⟨fs5, ho5⟩ := OX8_thrown e5
  refine pw_cVi (rest := []) hC hR lvL_101 ho5 (CX8_thrown e5) ⟨rfl, rfl⟩ rfl hl.1 rfl ⟨Nat.le_of_ble_eq_true rfl, Nat.le_of_ble_eq_true rfl⟩ (Nat.le_of_ble_eq_true rfl) dL_law_684 ⟨hcl, hsl⟩ (fun H locs hR => ?_)
  refine lv_iload hC.1 hC.2.1 dL_law_687 (lv_at hl 1 rfl) ?_
  refine pw_icmpeq hC 694 dL_law_689 (by decide) (fun hc => ?_) (fun hc => ?_)
  · rw [if_pos hc] at hF
    refine lv_iload hC.1 hC.2.1 dL_law_694 (lv_at hl 1 rfl) ?_
    refine pw_ifne hC 718 dL_law_696 (by decide) (fun hc => ?_) (fun hc => ?_)
    · rw [if_neg hc] at hF
      refine pw_goto hC 1728 dL_law_718 (by decide) ?_
      cases hF
      exact kk _ _ _ _ (fun k hk => rfl) hR (lv_sub hl [2, 3, 4, 5, 6] rfl)
    · rw [if_pos hc] at hF
      refine lv_aload_n hC.1 hC.2.1 dL_law_699 rfl (lv_at hl 5 rfl) ?_
      refine pw_iconst hC dL_law_700 ?_
      obtain ⟨x6, e6, hF⟩ := bnd hF
      refine pw_lald hC hR e6 dL_law_701 ?_
      refine lv_iload hC.1 hC.2.1 dL_law_702 (lv_at hl 0 rfl) ?_
      refine pw_ifeq hC 711 dL_law_704 (by decide) (fun hc => ?_) (fun hc => ?_)
      · rw [if_pos hc] at hF
        refine pw_lconst hC 0 dL_law_711 rfl ?_
        refine pw_lcmp hC dL_law_712 ?_
        refine pw_ifeq hC 718 dL_law_713 (by decide) (fun hc => ?_) (fun hc => ?_)
        · rw [if_pos hc] at hF
          refine pw_goto hC 1728 dL_law_718 (by decide) ?_
          cases hF
          exact kk _ _ _ _ (fun k hk => rfl) hR (lv_sub hl [2, 3, 4, 5, 6] rfl)
        · rw [if_neg hc] at hF
          cases hF
      · rw [if_neg hc] at hF
        refine pw_lconst hC 1 dL_law_707 rfl ?_
        refine pw_goto hC 712 dL_law_708 (by decide) ?_
        refine pw_lcmp hC dL_law_712 ?_
        refine pw_ifeq hC 718 dL_law_713 (by decide) (fun hc => ?_) (fun hc => ?_)
        · rw [if_pos hc] at hF
          refine pw_goto hC 1728 dL_law_718 (by decide) ?_
          cases hF
          exact kk _ _ _ _ (fun k hk => rfl) hR (lv_sub hl [2, 3, 4, 5, 6] rfl)
        · rw [if_neg hc] at hF
          cases hF
  · rw [if_neg hc] at hF
    cases hF
def LC13 (xs : Nat → Int) (L : Nat) (v1 v2 v3 : Nat) (v4 : Int) (h : PH) : Option PH :=
  (sld xs L (v4 + 1)).bind fun x1 =>
  (FL_queueLength h v1 x1 v3).bind fun q2 =>
  (sld xs L (v4 + 1)).bind fun x3 =>
  (FX8_queueLength q2.2 v2 x3).bind fun q4 =>
  (FX8_thrown q4.2 v2).bind fun x5 =>
  if w32 x5 = w32 q2.1 then (
    if w32 q2.1 = 0 then (
      (ald 3 q4.2 v3 0).bind fun x6 =>
      if w32 (cmpL x6 (w32 q4.1)) = 0 then (
        some q4.2
      ) else (
        none
      )
    ) else (
      some q4.2
    )
  ) else (
    none
  )
set_option maxHeartbeats 4000000 in
set_option maxRecDepth 100000 in
theorem TC13 (hst : l.stackTraces = false) {v1 v2 v3 : Nat} {v4 : Int} {h h' : PH} {b L : Nat} {xs : Nat → Int} {cl sl : Nat} {Q : State → Prop} (hC : Cx g p s m args meth c cL_law 7 RL ret) (hX : LwX g s b L xs) (hR : Rl g ad h s.heap H locs) (hl : lv_has ls 7 [(0, .ref b), (1, .ref (ad v1)), (2, .ref (ad v2)), (3, .ref (ad v3)), (4, .int (Int32.ofInt v4))]) (hcl : cl + 4 ≤ 601024) (hsl : sl + 919 ≤ 7293034) (hF : LC13 xs L v1 v2 v3 v4 h = some h')
    (kk : ∀ (ad' : Nat → Nat) (H : Heap) (locs : List Loc) (ls : Array Slot), (∀ k, k < h.length → ad' k = ad k) → Rl g ad' h' s.heap H locs → lv_has ls 7 [(0, .ref b), (1, .ref (ad' v1)), (2, .ref (ad' v2)), (3, .ref (ad' v3)), (4, .int (Int32.ofInt v4))] → W p l e room_1 s m args below meth c H locs (cl + 4) (sl + 919) Q (F0 m 1728 ls [])) :
    W p l e room_1 s m args below meth c H locs cl sl Q (F0 m 721 ls []) := by
  unfold LC13 at hF
  refine lv_aload_n hC.1 hC.2.1 dL_law_721 rfl (lv_at hl 1 rfl) ?_
  refine lv_aload_n hC.1 hC.2.1 dL_law_722 rfl (lv_at hl 0 rfl) ?_
  refine lv_iload hC.1 hC.2.1 dL_law_723 (lv_at hl 4 rfl) ?_
  refine pw_iconst hC dL_law_725 ?_
  refine pw_iadd hC dL_law_726 ?_
  obtain ⟨x1, e1, hF⟩ := bnd hF
  refine pw_sld hC hX hR e1 dL_law_727 ?_
  refine lv_aload_n hC.1 hC.2.1 dL_law_728 rfl (lv_at hl 3 rfl) ?_
  obtain ⟨q2, e2, hF⟩ := bnd hF
  refine pw_call hR (pw_runSW (rest := []) hC hR lwL_143 (CL_queueLength hst e2) rfl hl.1 rfl ⟨(Nat.le_of_ble_eq_true rfl), (Nat.le_of_ble_eq_true rfl)⟩ (Nat.le_of_ble_eq_true rfl) dL_law_729 ⟨Nat.le_trans (Nat.add_le_add_left (Nat.le_of_ble_eq_true rfl) cl) hcl, Nat.le_trans (Nat.add_le_add_left (Nat.le_of_ble_eq_true rfl) sl) hsl⟩) (fun H locs hR => ?_)
  refine W.widen (k := cl + 4) (n := sl + 919) (Nat.add_le_add_left (Nat.le_of_ble_eq_true rfl) cl) (Nat.add_le_add_left (Nat.le_of_ble_eq_true rfl) sl) ?_
  show W p l e room_1 s m args below meth c H locs (cl + 4) (sl + 919) Q (F0 m 732 ls [.int (Int32.ofInt q2.1)])
  refine lv_istore (lv' := [(5, .int (Int32.ofInt q2.1)), (0, .ref b), (1, .ref (ad v1)), (2, .ref (ad v2)), (3, .ref (ad v3)), (4, .int (Int32.ofInt v4))]) hC.1 hC.2.1 dL_law_732 hl (by decide) rfl (fun ls hl => ?_)
  refine lv_aload_n hC.1 hC.2.1 dL_law_734 rfl (lv_at hl 3 rfl) ?_
  refine lv_aload_n hC.1 hC.2.1 dL_law_735 rfl (lv_at hl 1 rfl) ?_
  refine lv_iload hC.1 hC.2.1 dL_law_736 (lv_at hl 5 rfl) ?_
  refine pw_iconst hC dL_law_738 ?_
  refine pw_iadd hC dL_law_739 ?_
  obtain ⟨x3, e3, hF⟩ := bnd hF
  refine pw_sld hC hX hR e3 dL_law_740 ?_
  obtain ⟨q4, e4, hF⟩ := bnd hF
  obtain ⟨fs4, ho4⟩ := OX8_queueLength e4
  refine pw_cVi (rest := []) hC hR lvL_145 ho4 (CX8_queueLength e4) ⟨rfl, rfl⟩ rfl hl.1 rfl ⟨Nat.le_of_ble_eq_true rfl, Nat.le_of_ble_eq_true rfl⟩ (Nat.le_of_ble_eq_true rfl) dL_law_741 ⟨hcl, hsl⟩ (fun H locs hR => ?_)
  refine lv_istore (lv' := [(6, .int (Int32.ofInt q4.1)), (5, .int (Int32.ofInt q2.1)), (0, .ref b), (1, .ref (ad v1)), (2, .ref (ad v2)), (3, .ref (ad v3)), (4, .int (Int32.ofInt v4))]) hC.1 hC.2.1 dL_law_744 hl (by decide) rfl (fun ls hl => ?_)
  refine lv_aload_n hC.1 hC.2.1 dL_law_746 rfl (lv_at hl 4 rfl) ?_
  obtain ⟨x5, e5, hF⟩ := bnd hF
  obtain ⟨fs5, ho5⟩ := OX8_thrown e5
  refine pw_cVi (rest := []) hC hR lvL_101 ho5 (CX8_thrown e5) ⟨rfl, rfl⟩ rfl hl.1 rfl ⟨Nat.le_of_ble_eq_true rfl, Nat.le_of_ble_eq_true rfl⟩ (Nat.le_of_ble_eq_true rfl) dL_law_747 ⟨hcl, hsl⟩ (fun H locs hR => ?_)
  refine lv_iload hC.1 hC.2.1 dL_law_750 (lv_at hl 1 rfl) ?_
  refine pw_icmpeq hC 757 dL_law_752 (by decide) (fun hc => ?_) (fun hc => ?_)
  · rw [if_pos hc] at hF
    refine lv_iload hC.1 hC.2.1 dL_law_757 (lv_at hl 1 rfl) ?_
    refine pw_ifne hC 774 dL_law_759 (by decide) (fun hc => ?_) (fun hc => ?_)
    · rw [if_neg hc] at hF
      refine pw_goto hC 1728 dL_law_774 (by decide) ?_
      cases hF
      exact kk _ _ _ _ (fun k hk => rfl) hR (lv_sub hl [2, 3, 4, 5, 6] rfl)
    · rw [if_pos hc] at hF
      refine lv_aload_n hC.1 hC.2.1 dL_law_762 rfl (lv_at hl 5 rfl) ?_
      refine pw_iconst hC dL_law_763 ?_
      obtain ⟨x6, e6, hF⟩ := bnd hF
      refine pw_lald hC hR e6 dL_law_764 ?_
      refine lv_iload hC.1 hC.2.1 dL_law_765 (lv_at hl 0 rfl) ?_
      refine pw_i2l hC dL_law_767 ?_
      refine pw_lcmp hC dL_law_768 ?_
      refine pw_ifeq hC 774 dL_law_769 (by decide) (fun hc => ?_) (fun hc => ?_)
      · rw [if_pos hc] at hF
        refine pw_goto hC 1728 dL_law_774 (by decide) ?_
        cases hF
        exact kk _ _ _ _ (fun k hk => rfl) hR (lv_sub hl [2, 3, 4, 5, 6] rfl)
      · rw [if_neg hc] at hF
        cases hF
  · rw [if_neg hc] at hF
    cases hF
def LC14 (xs : Nat → Int) (L : Nat) (v1 v2 v3 : Nat) (v4 : Int) (h : PH) : Option PH :=
  (sld xs L (v4 + 1)).bind fun x1 =>
  (sld xs L (v4 + 2)).bind fun x2 =>
  (FL_queued h v1 x1 x2 v3).bind fun q3 =>
  (sld xs L (v4 + 1)).bind fun x4 =>
  (sld xs L (v4 + 2)).bind fun x5 =>
  (FX8_queued q3.2 v2 x4 x5).bind fun q6 =>
  (FX8_thrown q6.2 v2).bind fun x7 =>
  if w32 x7 = w32 q3.1 then (
    if w32 q3.1 = 0 then (
      (ald 3 q6.2 v3 0).bind fun x8 =>
      if w32 (cmpL x8 (w32 q6.1)) = 0 then (
        some q6.2
      ) else (
        none
      )
    ) else (
      some q6.2
    )
  ) else (
    none
  )
set_option maxHeartbeats 4000000 in
set_option maxRecDepth 100000 in
theorem TC14 (hst : l.stackTraces = false) {v1 v2 v3 : Nat} {v4 : Int} {h h' : PH} {b L : Nat} {xs : Nat → Int} {cl sl : Nat} {Q : State → Prop} (hC : Cx g p s m args meth c cL_law 7 RL ret) (hX : LwX g s b L xs) (hR : Rl g ad h s.heap H locs) (hl : lv_has ls 7 [(0, .ref b), (1, .ref (ad v1)), (2, .ref (ad v2)), (3, .ref (ad v3)), (4, .int (Int32.ofInt v4))]) (hcl : cl + 4 ≤ 601024) (hsl : sl + 919 ≤ 7293034) (hF : LC14 xs L v1 v2 v3 v4 h = some h')
    (kk : ∀ (ad' : Nat → Nat) (H : Heap) (locs : List Loc) (ls : Array Slot), (∀ k, k < h.length → ad' k = ad k) → Rl g ad' h' s.heap H locs → lv_has ls 7 [(0, .ref b), (1, .ref (ad' v1)), (2, .ref (ad' v2)), (3, .ref (ad' v3)), (4, .int (Int32.ofInt v4))] → W p l e room_1 s m args below meth c H locs (cl + 4) (sl + 919) Q (F0 m 1728 ls [])) :
    W p l e room_1 s m args below meth c H locs cl sl Q (F0 m 777 ls []) := by
  unfold LC14 at hF
  refine lv_aload_n hC.1 hC.2.1 dL_law_777 rfl (lv_at hl 1 rfl) ?_
  refine lv_aload_n hC.1 hC.2.1 dL_law_778 rfl (lv_at hl 0 rfl) ?_
  refine lv_iload hC.1 hC.2.1 dL_law_779 (lv_at hl 4 rfl) ?_
  refine pw_iconst hC dL_law_781 ?_
  refine pw_iadd hC dL_law_782 ?_
  obtain ⟨x1, e1, hF⟩ := bnd hF
  refine pw_sld hC hX hR e1 dL_law_783 ?_
  refine lv_aload_n hC.1 hC.2.1 dL_law_784 rfl (lv_at hl 0 rfl) ?_
  refine lv_iload hC.1 hC.2.1 dL_law_785 (lv_at hl 4 rfl) ?_
  refine pw_iconst hC dL_law_787 ?_
  refine pw_iadd hC dL_law_788 ?_
  obtain ⟨x2, e2, hF⟩ := bnd hF
  refine pw_sld hC hX hR e2 dL_law_789 ?_
  refine lv_aload_n hC.1 hC.2.1 dL_law_790 rfl (lv_at hl 3 rfl) ?_
  obtain ⟨q3, e3, hF⟩ := bnd hF
  refine pw_call hR (pw_runSW (rest := []) hC hR lwL_146 (CL_queued hst e3) rfl hl.1 rfl ⟨(Nat.le_of_ble_eq_true rfl), (Nat.le_of_ble_eq_true rfl)⟩ (Nat.le_of_ble_eq_true rfl) dL_law_791 ⟨Nat.le_trans (Nat.add_le_add_left (Nat.le_of_ble_eq_true rfl) cl) hcl, Nat.le_trans (Nat.add_le_add_left (Nat.le_of_ble_eq_true rfl) sl) hsl⟩) (fun H locs hR => ?_)
  refine W.widen (k := cl + 4) (n := sl + 919) (Nat.add_le_add_left (Nat.le_of_ble_eq_true rfl) cl) (Nat.add_le_add_left (Nat.le_of_ble_eq_true rfl) sl) ?_
  show W p l e room_1 s m args below meth c H locs (cl + 4) (sl + 919) Q (F0 m 794 ls [.int (Int32.ofInt q3.1)])
  refine lv_istore (lv' := [(5, .int (Int32.ofInt q3.1)), (0, .ref b), (1, .ref (ad v1)), (2, .ref (ad v2)), (3, .ref (ad v3)), (4, .int (Int32.ofInt v4))]) hC.1 hC.2.1 dL_law_794 hl (by decide) rfl (fun ls hl => ?_)
  refine lv_aload_n hC.1 hC.2.1 dL_law_796 rfl (lv_at hl 3 rfl) ?_
  refine lv_aload_n hC.1 hC.2.1 dL_law_797 rfl (lv_at hl 1 rfl) ?_
  refine lv_iload hC.1 hC.2.1 dL_law_798 (lv_at hl 5 rfl) ?_
  refine pw_iconst hC dL_law_800 ?_
  refine pw_iadd hC dL_law_801 ?_
  obtain ⟨x4, e4, hF⟩ := bnd hF
  refine pw_sld hC hX hR e4 dL_law_802 ?_
  refine lv_aload_n hC.1 hC.2.1 dL_law_803 rfl (lv_at hl 1 rfl) ?_
  refine lv_iload hC.1 hC.2.1 dL_law_804 (lv_at hl 5 rfl) ?_
  refine pw_iconst hC dL_law_806 ?_
  refine pw_iadd hC dL_law_807 ?_
  obtain ⟨x5, e5, hF⟩ := bnd hF
  refine pw_sld hC hX hR e5 dL_law_808 ?_
  obtain ⟨q6, e6, hF⟩ := bnd hF
  obtain ⟨fs6, ho6⟩ := OX8_queued e6
  refine pw_cVi (rest := []) hC hR lvL_149 ho6 (CX8_queued e6) ⟨rfl, rfl⟩ rfl hl.1 rfl ⟨Nat.le_of_ble_eq_true rfl, Nat.le_of_ble_eq_true rfl⟩ (Nat.le_of_ble_eq_true rfl) dL_law_809 ⟨hcl, hsl⟩ (fun H locs hR => ?_)
  refine lv_istore (lv' := [(6, .int (Int32.ofInt q6.1)), (5, .int (Int32.ofInt q3.1)), (0, .ref b), (1, .ref (ad v1)), (2, .ref (ad v2)), (3, .ref (ad v3)), (4, .int (Int32.ofInt v4))]) hC.1 hC.2.1 dL_law_812 hl (by decide) rfl (fun ls hl => ?_)
  refine lv_aload_n hC.1 hC.2.1 dL_law_814 rfl (lv_at hl 4 rfl) ?_
  obtain ⟨x7, e7, hF⟩ := bnd hF
  obtain ⟨fs7, ho7⟩ := OX8_thrown e7
  refine pw_cVi (rest := []) hC hR lvL_101 ho7 (CX8_thrown e7) ⟨rfl, rfl⟩ rfl hl.1 rfl ⟨Nat.le_of_ble_eq_true rfl, Nat.le_of_ble_eq_true rfl⟩ (Nat.le_of_ble_eq_true rfl) dL_law_815 ⟨hcl, hsl⟩ (fun H locs hR => ?_)
  refine lv_iload hC.1 hC.2.1 dL_law_818 (lv_at hl 1 rfl) ?_
  refine pw_icmpeq hC 825 dL_law_820 (by decide) (fun hc => ?_) (fun hc => ?_)
  · rw [if_pos hc] at hF
    refine lv_iload hC.1 hC.2.1 dL_law_825 (lv_at hl 1 rfl) ?_
    refine pw_ifne hC 842 dL_law_827 (by decide) (fun hc => ?_) (fun hc => ?_)
    · rw [if_neg hc] at hF
      refine pw_goto hC 1728 dL_law_842 (by decide) ?_
      cases hF
      exact kk _ _ _ _ (fun k hk => rfl) hR (lv_sub hl [2, 3, 4, 5, 6] rfl)
    · rw [if_pos hc] at hF
      refine lv_aload_n hC.1 hC.2.1 dL_law_830 rfl (lv_at hl 5 rfl) ?_
      refine pw_iconst hC dL_law_831 ?_
      obtain ⟨x8, e8, hF⟩ := bnd hF
      refine pw_lald hC hR e8 dL_law_832 ?_
      refine lv_iload hC.1 hC.2.1 dL_law_833 (lv_at hl 0 rfl) ?_
      refine pw_i2l hC dL_law_835 ?_
      refine pw_lcmp hC dL_law_836 ?_
      refine pw_ifeq hC 842 dL_law_837 (by decide) (fun hc => ?_) (fun hc => ?_)
      · rw [if_pos hc] at hF
        refine pw_goto hC 1728 dL_law_842 (by decide) ?_
        cases hF
        exact kk _ _ _ _ (fun k hk => rfl) hR (lv_sub hl [2, 3, 4, 5, 6] rfl)
      · rw [if_neg hc] at hF
        cases hF
  · rw [if_neg hc] at hF
    cases hF
def LC15 (xs : Nat → Int) (L : Nat) (v1 v2 v3 : Nat) (v4 : Int) (h : PH) : Option PH :=
  (sld xs L (v4 + 1)).bind fun x1 =>
  (FL_running h v1 x1 v3).bind fun q2 =>
  (sld xs L (v4 + 1)).bind fun x3 =>
  (FX8_running q2.2 v2 x3).bind fun q4 =>
  (FX8_thrown q4.2 v2).bind fun x5 =>
  if w32 x5 = w32 q2.1 then (
    if w32 q2.1 = 0 then (
      (ald 3 q4.2 v3 0).bind fun x6 =>
      if w32 (cmpL x6 (w32 q4.1)) = 0 then (
        some q4.2
      ) else (
        none
      )
    ) else (
      some q4.2
    )
  ) else (
    none
  )
set_option maxHeartbeats 4000000 in
set_option maxRecDepth 100000 in
theorem TC15 (hst : l.stackTraces = false) {v1 v2 v3 : Nat} {v4 : Int} {h h' : PH} {b L : Nat} {xs : Nat → Int} {cl sl : Nat} {Q : State → Prop} (hC : Cx g p s m args meth c cL_law 7 RL ret) (hX : LwX g s b L xs) (hR : Rl g ad h s.heap H locs) (hl : lv_has ls 7 [(0, .ref b), (1, .ref (ad v1)), (2, .ref (ad v2)), (3, .ref (ad v3)), (4, .int (Int32.ofInt v4))]) (hcl : cl + 4 ≤ 601024) (hsl : sl + 919 ≤ 7293034) (hF : LC15 xs L v1 v2 v3 v4 h = some h')
    (kk : ∀ (ad' : Nat → Nat) (H : Heap) (locs : List Loc) (ls : Array Slot), (∀ k, k < h.length → ad' k = ad k) → Rl g ad' h' s.heap H locs → lv_has ls 7 [(0, .ref b), (1, .ref (ad' v1)), (2, .ref (ad' v2)), (3, .ref (ad' v3)), (4, .int (Int32.ofInt v4))] → W p l e room_1 s m args below meth c H locs (cl + 4) (sl + 919) Q (F0 m 1728 ls [])) :
    W p l e room_1 s m args below meth c H locs cl sl Q (F0 m 845 ls []) := by
  unfold LC15 at hF
  refine lv_aload_n hC.1 hC.2.1 dL_law_845 rfl (lv_at hl 1 rfl) ?_
  refine lv_aload_n hC.1 hC.2.1 dL_law_846 rfl (lv_at hl 0 rfl) ?_
  refine lv_iload hC.1 hC.2.1 dL_law_847 (lv_at hl 4 rfl) ?_
  refine pw_iconst hC dL_law_849 ?_
  refine pw_iadd hC dL_law_850 ?_
  obtain ⟨x1, e1, hF⟩ := bnd hF
  refine pw_sld hC hX hR e1 dL_law_851 ?_
  refine lv_aload_n hC.1 hC.2.1 dL_law_852 rfl (lv_at hl 3 rfl) ?_
  obtain ⟨q2, e2, hF⟩ := bnd hF
  refine pw_call hR (pw_runSW (rest := []) hC hR lwL_150 (CL_running hst e2) rfl hl.1 rfl ⟨(Nat.le_of_ble_eq_true rfl), (Nat.le_of_ble_eq_true rfl)⟩ (Nat.le_of_ble_eq_true rfl) dL_law_853 ⟨Nat.le_trans (Nat.add_le_add_left (Nat.le_of_ble_eq_true rfl) cl) hcl, Nat.le_trans (Nat.add_le_add_left (Nat.le_of_ble_eq_true rfl) sl) hsl⟩) (fun H locs hR => ?_)
  refine W.widen (k := cl + 4) (n := sl + 919) (Nat.add_le_add_left (Nat.le_of_ble_eq_true rfl) cl) (Nat.add_le_add_left (Nat.le_of_ble_eq_true rfl) sl) ?_
  show W p l e room_1 s m args below meth c H locs (cl + 4) (sl + 919) Q (F0 m 856 ls [.int (Int32.ofInt q2.1)])
  refine lv_istore (lv' := [(5, .int (Int32.ofInt q2.1)), (0, .ref b), (1, .ref (ad v1)), (2, .ref (ad v2)), (3, .ref (ad v3)), (4, .int (Int32.ofInt v4))]) hC.1 hC.2.1 dL_law_856 hl (by decide) rfl (fun ls hl => ?_)
  refine lv_aload_n hC.1 hC.2.1 dL_law_858 rfl (lv_at hl 3 rfl) ?_
  refine lv_aload_n hC.1 hC.2.1 dL_law_859 rfl (lv_at hl 1 rfl) ?_
  refine lv_iload hC.1 hC.2.1 dL_law_860 (lv_at hl 5 rfl) ?_
  refine pw_iconst hC dL_law_862 ?_
  refine pw_iadd hC dL_law_863 ?_
  obtain ⟨x3, e3, hF⟩ := bnd hF
  refine pw_sld hC hX hR e3 dL_law_864 ?_
  obtain ⟨q4, e4, hF⟩ := bnd hF
  obtain ⟨fs4, ho4⟩ := OX8_running e4
  refine pw_cVi (rest := []) hC hR lvL_152 ho4 (CX8_running e4) ⟨rfl, rfl⟩ rfl hl.1 rfl ⟨Nat.le_of_ble_eq_true rfl, Nat.le_of_ble_eq_true rfl⟩ (Nat.le_of_ble_eq_true rfl) dL_law_865 ⟨hcl, hsl⟩ (fun H locs hR => ?_)
  refine lv_istore (lv' := [(6, .int (Int32.ofInt q4.1)), (5, .int (Int32.ofInt q2.1)), (0, .ref b), (1, .ref (ad v1)), (2, .ref (ad v2)), (3, .ref (ad v3)), (4, .int (Int32.ofInt v4))]) hC.1 hC.2.1 dL_law_868 hl (by decide) rfl (fun ls hl => ?_)
  refine lv_aload_n hC.1 hC.2.1 dL_law_870 rfl (lv_at hl 4 rfl) ?_
  obtain ⟨x5, e5, hF⟩ := bnd hF
  obtain ⟨fs5, ho5⟩ := OX8_thrown e5
  refine pw_cVi (rest := []) hC hR lvL_101 ho5 (CX8_thrown e5) ⟨rfl, rfl⟩ rfl hl.1 rfl ⟨Nat.le_of_ble_eq_true rfl, Nat.le_of_ble_eq_true rfl⟩ (Nat.le_of_ble_eq_true rfl) dL_law_871 ⟨hcl, hsl⟩ (fun H locs hR => ?_)
  refine lv_iload hC.1 hC.2.1 dL_law_874 (lv_at hl 1 rfl) ?_
  refine pw_icmpeq hC 881 dL_law_876 (by decide) (fun hc => ?_) (fun hc => ?_)
  · rw [if_pos hc] at hF
    refine lv_iload hC.1 hC.2.1 dL_law_881 (lv_at hl 1 rfl) ?_
    refine pw_ifne hC 898 dL_law_883 (by decide) (fun hc => ?_) (fun hc => ?_)
    · rw [if_neg hc] at hF
      refine pw_goto hC 1728 dL_law_898 (by decide) ?_
      cases hF
      exact kk _ _ _ _ (fun k hk => rfl) hR (lv_sub hl [2, 3, 4, 5, 6] rfl)
    · rw [if_pos hc] at hF
      refine lv_aload_n hC.1 hC.2.1 dL_law_886 rfl (lv_at hl 5 rfl) ?_
      refine pw_iconst hC dL_law_887 ?_
      obtain ⟨x6, e6, hF⟩ := bnd hF
      refine pw_lald hC hR e6 dL_law_888 ?_
      refine lv_iload hC.1 hC.2.1 dL_law_889 (lv_at hl 0 rfl) ?_
      refine pw_i2l hC dL_law_891 ?_
      refine pw_lcmp hC dL_law_892 ?_
      refine pw_ifeq hC 898 dL_law_893 (by decide) (fun hc => ?_) (fun hc => ?_)
      · rw [if_pos hc] at hF
        refine pw_goto hC 1728 dL_law_898 (by decide) ?_
        cases hF
        exact kk _ _ _ _ (fun k hk => rfl) hR (lv_sub hl [2, 3, 4, 5, 6] rfl)
      · rw [if_neg hc] at hF
        cases hF
  · rw [if_neg hc] at hF
    cases hF
def LC16 (xs : Nat → Int) (L : Nat) (v1 v2 v3 : Nat) (v4 : Int) (h : PH) : Option PH :=
  (sld xs L (v4 + 1)).bind fun x1 =>
  (FL_remaining h v1 x1 v3).bind fun q2 =>
  (sld xs L (v4 + 1)).bind fun x3 =>
  (FX8_remaining q2.2 v2 x3).bind fun q4 =>
  (FX8_thrown q4.2 v2).bind fun x5 =>
  if w32 x5 = w32 q2.1 then (
    if w32 q2.1 = 0 then (
      (ald 3 q4.2 v3 0).bind fun x6 =>
      if w32 (cmpL x6 (w32 q4.1)) = 0 then (
        some q4.2
      ) else (
        none
      )
    ) else (
      some q4.2
    )
  ) else (
    none
  )
set_option maxHeartbeats 4000000 in
set_option maxRecDepth 100000 in
theorem TC16 (hst : l.stackTraces = false) {v1 v2 v3 : Nat} {v4 : Int} {h h' : PH} {b L : Nat} {xs : Nat → Int} {cl sl : Nat} {Q : State → Prop} (hC : Cx g p s m args meth c cL_law 7 RL ret) (hX : LwX g s b L xs) (hR : Rl g ad h s.heap H locs) (hl : lv_has ls 7 [(0, .ref b), (1, .ref (ad v1)), (2, .ref (ad v2)), (3, .ref (ad v3)), (4, .int (Int32.ofInt v4))]) (hcl : cl + 4 ≤ 601024) (hsl : sl + 919 ≤ 7293034) (hF : LC16 xs L v1 v2 v3 v4 h = some h')
    (kk : ∀ (ad' : Nat → Nat) (H : Heap) (locs : List Loc) (ls : Array Slot), (∀ k, k < h.length → ad' k = ad k) → Rl g ad' h' s.heap H locs → lv_has ls 7 [(0, .ref b), (1, .ref (ad' v1)), (2, .ref (ad' v2)), (3, .ref (ad' v3)), (4, .int (Int32.ofInt v4))] → W p l e room_1 s m args below meth c H locs (cl + 4) (sl + 919) Q (F0 m 1728 ls [])) :
    W p l e room_1 s m args below meth c H locs cl sl Q (F0 m 901 ls []) := by
  unfold LC16 at hF
  refine lv_aload_n hC.1 hC.2.1 dL_law_901 rfl (lv_at hl 1 rfl) ?_
  refine lv_aload_n hC.1 hC.2.1 dL_law_902 rfl (lv_at hl 0 rfl) ?_
  refine lv_iload hC.1 hC.2.1 dL_law_903 (lv_at hl 4 rfl) ?_
  refine pw_iconst hC dL_law_905 ?_
  refine pw_iadd hC dL_law_906 ?_
  obtain ⟨x1, e1, hF⟩ := bnd hF
  refine pw_sld hC hX hR e1 dL_law_907 ?_
  refine lv_aload_n hC.1 hC.2.1 dL_law_908 rfl (lv_at hl 3 rfl) ?_
  obtain ⟨q2, e2, hF⟩ := bnd hF
  refine pw_call hR (pw_runSW (rest := []) hC hR lwL_153 (CL_remaining hst e2) rfl hl.1 rfl ⟨(Nat.le_of_ble_eq_true rfl), (Nat.le_of_ble_eq_true rfl)⟩ (Nat.le_of_ble_eq_true rfl) dL_law_909 ⟨Nat.le_trans (Nat.add_le_add_left (Nat.le_of_ble_eq_true rfl) cl) hcl, Nat.le_trans (Nat.add_le_add_left (Nat.le_of_ble_eq_true rfl) sl) hsl⟩) (fun H locs hR => ?_)
  refine W.widen (k := cl + 4) (n := sl + 919) (Nat.add_le_add_left (Nat.le_of_ble_eq_true rfl) cl) (Nat.add_le_add_left (Nat.le_of_ble_eq_true rfl) sl) ?_
  show W p l e room_1 s m args below meth c H locs (cl + 4) (sl + 919) Q (F0 m 912 ls [.int (Int32.ofInt q2.1)])
  refine lv_istore (lv' := [(5, .int (Int32.ofInt q2.1)), (0, .ref b), (1, .ref (ad v1)), (2, .ref (ad v2)), (3, .ref (ad v3)), (4, .int (Int32.ofInt v4))]) hC.1 hC.2.1 dL_law_912 hl (by decide) rfl (fun ls hl => ?_)
  refine lv_aload_n hC.1 hC.2.1 dL_law_914 rfl (lv_at hl 3 rfl) ?_
  refine lv_aload_n hC.1 hC.2.1 dL_law_915 rfl (lv_at hl 1 rfl) ?_
  refine lv_iload hC.1 hC.2.1 dL_law_916 (lv_at hl 5 rfl) ?_
  refine pw_iconst hC dL_law_918 ?_
  refine pw_iadd hC dL_law_919 ?_
  obtain ⟨x3, e3, hF⟩ := bnd hF
  refine pw_sld hC hX hR e3 dL_law_920 ?_
  obtain ⟨q4, e4, hF⟩ := bnd hF
  obtain ⟨fs4, ho4⟩ := OX8_remaining e4
  refine pw_cVi (rest := []) hC hR lvL_155 ho4 (CX8_remaining e4) ⟨rfl, rfl⟩ rfl hl.1 rfl ⟨Nat.le_of_ble_eq_true rfl, Nat.le_of_ble_eq_true rfl⟩ (Nat.le_of_ble_eq_true rfl) dL_law_921 ⟨hcl, hsl⟩ (fun H locs hR => ?_)
  refine lv_istore (lv' := [(6, .int (Int32.ofInt q4.1)), (5, .int (Int32.ofInt q2.1)), (0, .ref b), (1, .ref (ad v1)), (2, .ref (ad v2)), (3, .ref (ad v3)), (4, .int (Int32.ofInt v4))]) hC.1 hC.2.1 dL_law_924 hl (by decide) rfl (fun ls hl => ?_)
  refine lv_aload_n hC.1 hC.2.1 dL_law_926 rfl (lv_at hl 4 rfl) ?_
  obtain ⟨x5, e5, hF⟩ := bnd hF
  obtain ⟨fs5, ho5⟩ := OX8_thrown e5
  refine pw_cVi (rest := []) hC hR lvL_101 ho5 (CX8_thrown e5) ⟨rfl, rfl⟩ rfl hl.1 rfl ⟨Nat.le_of_ble_eq_true rfl, Nat.le_of_ble_eq_true rfl⟩ (Nat.le_of_ble_eq_true rfl) dL_law_927 ⟨hcl, hsl⟩ (fun H locs hR => ?_)
  refine lv_iload hC.1 hC.2.1 dL_law_930 (lv_at hl 1 rfl) ?_
  refine pw_icmpeq hC 937 dL_law_932 (by decide) (fun hc => ?_) (fun hc => ?_)
  · rw [if_pos hc] at hF
    refine lv_iload hC.1 hC.2.1 dL_law_937 (lv_at hl 1 rfl) ?_
    refine pw_ifne hC 954 dL_law_939 (by decide) (fun hc => ?_) (fun hc => ?_)
    · rw [if_neg hc] at hF
      refine pw_goto hC 1728 dL_law_954 (by decide) ?_
      cases hF
      exact kk _ _ _ _ (fun k hk => rfl) hR (lv_sub hl [2, 3, 4, 5, 6] rfl)
    · rw [if_pos hc] at hF
      refine lv_aload_n hC.1 hC.2.1 dL_law_942 rfl (lv_at hl 5 rfl) ?_
      refine pw_iconst hC dL_law_943 ?_
      obtain ⟨x6, e6, hF⟩ := bnd hF
      refine pw_lald hC hR e6 dL_law_944 ?_
      refine lv_iload hC.1 hC.2.1 dL_law_945 (lv_at hl 0 rfl) ?_
      refine pw_i2l hC dL_law_947 ?_
      refine pw_lcmp hC dL_law_948 ?_
      refine pw_ifeq hC 954 dL_law_949 (by decide) (fun hc => ?_) (fun hc => ?_)
      · rw [if_pos hc] at hF
        refine pw_goto hC 1728 dL_law_954 (by decide) ?_
        cases hF
        exact kk _ _ _ _ (fun k hk => rfl) hR (lv_sub hl [2, 3, 4, 5, 6] rfl)
      · rw [if_neg hc] at hF
        cases hF
  · rw [if_neg hc] at hF
    cases hF
def LC17 (xs : Nat → Int) (L : Nat) (v1 v2 v3 : Nat) (v4 : Int) (h : PH) : Option PH :=
  (sld xs L (v4 + 1)).bind fun x1 =>
  (FL_busy h v1 x1 v3).bind fun q2 =>
  (sld xs L (v4 + 1)).bind fun x3 =>
  (FX8_busy q2.2 v2 x3).bind fun q4 =>
  (FX8_thrown q4.2 v2).bind fun x5 =>
  if w32 x5 = w32 q2.1 then (
    if w32 q2.1 = 0 then (
      (ald 3 q4.2 v3 0).bind fun x6 =>
      if w32 (cmpL x6 (w32 q4.1)) = 0 then (
        some q4.2
      ) else (
        none
      )
    ) else (
      some q4.2
    )
  ) else (
    none
  )
set_option maxHeartbeats 4000000 in
set_option maxRecDepth 100000 in
theorem TC17 (hst : l.stackTraces = false) {v1 v2 v3 : Nat} {v4 : Int} {h h' : PH} {b L : Nat} {xs : Nat → Int} {cl sl : Nat} {Q : State → Prop} (hC : Cx g p s m args meth c cL_law 7 RL ret) (hX : LwX g s b L xs) (hR : Rl g ad h s.heap H locs) (hl : lv_has ls 7 [(0, .ref b), (1, .ref (ad v1)), (2, .ref (ad v2)), (3, .ref (ad v3)), (4, .int (Int32.ofInt v4))]) (hcl : cl + 4 ≤ 601024) (hsl : sl + 919 ≤ 7293034) (hF : LC17 xs L v1 v2 v3 v4 h = some h')
    (kk : ∀ (ad' : Nat → Nat) (H : Heap) (locs : List Loc) (ls : Array Slot), (∀ k, k < h.length → ad' k = ad k) → Rl g ad' h' s.heap H locs → lv_has ls 7 [(0, .ref b), (1, .ref (ad' v1)), (2, .ref (ad' v2)), (3, .ref (ad' v3)), (4, .int (Int32.ofInt v4))] → W p l e room_1 s m args below meth c H locs (cl + 4) (sl + 919) Q (F0 m 1728 ls [])) :
    W p l e room_1 s m args below meth c H locs cl sl Q (F0 m 957 ls []) := by
  unfold LC17 at hF
  refine lv_aload_n hC.1 hC.2.1 dL_law_957 rfl (lv_at hl 1 rfl) ?_
  refine lv_aload_n hC.1 hC.2.1 dL_law_958 rfl (lv_at hl 0 rfl) ?_
  refine lv_iload hC.1 hC.2.1 dL_law_959 (lv_at hl 4 rfl) ?_
  refine pw_iconst hC dL_law_961 ?_
  refine pw_iadd hC dL_law_962 ?_
  obtain ⟨x1, e1, hF⟩ := bnd hF
  refine pw_sld hC hX hR e1 dL_law_963 ?_
  refine lv_aload_n hC.1 hC.2.1 dL_law_964 rfl (lv_at hl 3 rfl) ?_
  obtain ⟨q2, e2, hF⟩ := bnd hF
  refine pw_call hR (pw_runSW (rest := []) hC hR lwL_156 (CL_busy hst e2) rfl hl.1 rfl ⟨(Nat.le_of_ble_eq_true rfl), (Nat.le_of_ble_eq_true rfl)⟩ (Nat.le_of_ble_eq_true rfl) dL_law_965 ⟨Nat.le_trans (Nat.add_le_add_left (Nat.le_of_ble_eq_true rfl) cl) hcl, Nat.le_trans (Nat.add_le_add_left (Nat.le_of_ble_eq_true rfl) sl) hsl⟩) (fun H locs hR => ?_)
  refine W.widen (k := cl + 4) (n := sl + 919) (Nat.add_le_add_left (Nat.le_of_ble_eq_true rfl) cl) (Nat.add_le_add_left (Nat.le_of_ble_eq_true rfl) sl) ?_
  show W p l e room_1 s m args below meth c H locs (cl + 4) (sl + 919) Q (F0 m 968 ls [.int (Int32.ofInt q2.1)])
  refine lv_istore (lv' := [(5, .int (Int32.ofInt q2.1)), (0, .ref b), (1, .ref (ad v1)), (2, .ref (ad v2)), (3, .ref (ad v3)), (4, .int (Int32.ofInt v4))]) hC.1 hC.2.1 dL_law_968 hl (by decide) rfl (fun ls hl => ?_)
  refine lv_aload_n hC.1 hC.2.1 dL_law_970 rfl (lv_at hl 3 rfl) ?_
  refine lv_aload_n hC.1 hC.2.1 dL_law_971 rfl (lv_at hl 1 rfl) ?_
  refine lv_iload hC.1 hC.2.1 dL_law_972 (lv_at hl 5 rfl) ?_
  refine pw_iconst hC dL_law_974 ?_
  refine pw_iadd hC dL_law_975 ?_
  obtain ⟨x3, e3, hF⟩ := bnd hF
  refine pw_sld hC hX hR e3 dL_law_976 ?_
  obtain ⟨q4, e4, hF⟩ := bnd hF
  obtain ⟨fs4, ho4⟩ := OX8_busy e4
  refine pw_cVi (rest := []) hC hR lvL_158 ho4 (CX8_busy e4) ⟨rfl, rfl⟩ rfl hl.1 rfl ⟨Nat.le_of_ble_eq_true rfl, Nat.le_of_ble_eq_true rfl⟩ (Nat.le_of_ble_eq_true rfl) dL_law_977 ⟨hcl, hsl⟩ (fun H locs hR => ?_)
  refine lv_istore (lv' := [(6, .int (Int32.ofInt q4.1)), (5, .int (Int32.ofInt q2.1)), (0, .ref b), (1, .ref (ad v1)), (2, .ref (ad v2)), (3, .ref (ad v3)), (4, .int (Int32.ofInt v4))]) hC.1 hC.2.1 dL_law_980 hl (by decide) rfl (fun ls hl => ?_)
  refine lv_aload_n hC.1 hC.2.1 dL_law_982 rfl (lv_at hl 4 rfl) ?_
  obtain ⟨x5, e5, hF⟩ := bnd hF
  obtain ⟨fs5, ho5⟩ := OX8_thrown e5
  refine pw_cVi (rest := []) hC hR lvL_101 ho5 (CX8_thrown e5) ⟨rfl, rfl⟩ rfl hl.1 rfl ⟨Nat.le_of_ble_eq_true rfl, Nat.le_of_ble_eq_true rfl⟩ (Nat.le_of_ble_eq_true rfl) dL_law_983 ⟨hcl, hsl⟩ (fun H locs hR => ?_)
  refine lv_iload hC.1 hC.2.1 dL_law_986 (lv_at hl 1 rfl) ?_
  refine pw_icmpeq hC 993 dL_law_988 (by decide) (fun hc => ?_) (fun hc => ?_)
  · rw [if_pos hc] at hF
    refine lv_iload hC.1 hC.2.1 dL_law_993 (lv_at hl 1 rfl) ?_
    refine pw_ifne hC 1010 dL_law_995 (by decide) (fun hc => ?_) (fun hc => ?_)
    · rw [if_neg hc] at hF
      refine pw_goto hC 1728 dL_law_1010 (by decide) ?_
      cases hF
      exact kk _ _ _ _ (fun k hk => rfl) hR (lv_sub hl [2, 3, 4, 5, 6] rfl)
    · rw [if_pos hc] at hF
      refine lv_aload_n hC.1 hC.2.1 dL_law_998 rfl (lv_at hl 5 rfl) ?_
      refine pw_iconst hC dL_law_999 ?_
      obtain ⟨x6, e6, hF⟩ := bnd hF
      refine pw_lald hC hR e6 dL_law_1000 ?_
      refine lv_iload hC.1 hC.2.1 dL_law_1001 (lv_at hl 0 rfl) ?_
      refine pw_i2l hC dL_law_1003 ?_
      refine pw_lcmp hC dL_law_1004 ?_
      refine pw_ifeq hC 1010 dL_law_1005 (by decide) (fun hc => ?_) (fun hc => ?_)
      · rw [if_pos hc] at hF
        refine pw_goto hC 1728 dL_law_1010 (by decide) ?_
        cases hF
        exact kk _ _ _ _ (fun k hk => rfl) hR (lv_sub hl [2, 3, 4, 5, 6] rfl)
      · rw [if_neg hc] at hF
        cases hF
  · rw [if_neg hc] at hF
    cases hF
def LC18 (xs : Nat → Int) (L : Nat) (v1 v2 v3 : Nat) (v4 : Int) (h : PH) : Option PH :=
  (sld xs L (v4 + 1)).bind fun x1 =>
  (FL_steals h v1 x1 v3).bind fun q2 =>
  (sld xs L (v4 + 1)).bind fun x3 =>
  (FX8_steals q2.2 v2 x3).bind fun q4 =>
  (FX8_thrown q4.2 v2).bind fun x5 =>
  if w32 x5 = w32 q2.1 then (
    if w32 q2.1 = 0 then (
      (ald 3 q4.2 v3 0).bind fun x6 =>
      if w32 (cmpL x6 (w32 q4.1)) = 0 then (
        some q4.2
      ) else (
        none
      )
    ) else (
      some q4.2
    )
  ) else (
    none
  )
set_option maxHeartbeats 4000000 in
set_option maxRecDepth 100000 in
theorem TC18 (hst : l.stackTraces = false) {v1 v2 v3 : Nat} {v4 : Int} {h h' : PH} {b L : Nat} {xs : Nat → Int} {cl sl : Nat} {Q : State → Prop} (hC : Cx g p s m args meth c cL_law 7 RL ret) (hX : LwX g s b L xs) (hR : Rl g ad h s.heap H locs) (hl : lv_has ls 7 [(0, .ref b), (1, .ref (ad v1)), (2, .ref (ad v2)), (3, .ref (ad v3)), (4, .int (Int32.ofInt v4))]) (hcl : cl + 4 ≤ 601024) (hsl : sl + 919 ≤ 7293034) (hF : LC18 xs L v1 v2 v3 v4 h = some h')
    (kk : ∀ (ad' : Nat → Nat) (H : Heap) (locs : List Loc) (ls : Array Slot), (∀ k, k < h.length → ad' k = ad k) → Rl g ad' h' s.heap H locs → lv_has ls 7 [(0, .ref b), (1, .ref (ad' v1)), (2, .ref (ad' v2)), (3, .ref (ad' v3)), (4, .int (Int32.ofInt v4))] → W p l e room_1 s m args below meth c H locs (cl + 4) (sl + 919) Q (F0 m 1728 ls [])) :
    W p l e room_1 s m args below meth c H locs cl sl Q (F0 m 1013 ls []) := by
  unfold LC18 at hF
  refine lv_aload_n hC.1 hC.2.1 dL_law_1013 rfl (lv_at hl 1 rfl) ?_
  refine lv_aload_n hC.1 hC.2.1 dL_law_1014 rfl (lv_at hl 0 rfl) ?_
  refine lv_iload hC.1 hC.2.1 dL_law_1015 (lv_at hl 4 rfl) ?_
  refine pw_iconst hC dL_law_1017 ?_
  refine pw_iadd hC dL_law_1018 ?_
  obtain ⟨x1, e1, hF⟩ := bnd hF
  refine pw_sld hC hX hR e1 dL_law_1019 ?_
  refine lv_aload_n hC.1 hC.2.1 dL_law_1020 rfl (lv_at hl 3 rfl) ?_
  obtain ⟨q2, e2, hF⟩ := bnd hF
  refine pw_call hR (pw_runSW (rest := []) hC hR lwL_159 (CL_steals hst e2) rfl hl.1 rfl ⟨(Nat.le_of_ble_eq_true rfl), (Nat.le_of_ble_eq_true rfl)⟩ (Nat.le_of_ble_eq_true rfl) dL_law_1021 ⟨Nat.le_trans (Nat.add_le_add_left (Nat.le_of_ble_eq_true rfl) cl) hcl, Nat.le_trans (Nat.add_le_add_left (Nat.le_of_ble_eq_true rfl) sl) hsl⟩) (fun H locs hR => ?_)
  refine W.widen (k := cl + 4) (n := sl + 919) (Nat.add_le_add_left (Nat.le_of_ble_eq_true rfl) cl) (Nat.add_le_add_left (Nat.le_of_ble_eq_true rfl) sl) ?_
  show W p l e room_1 s m args below meth c H locs (cl + 4) (sl + 919) Q (F0 m 1024 ls [.int (Int32.ofInt q2.1)])
  refine lv_istore (lv' := [(5, .int (Int32.ofInt q2.1)), (0, .ref b), (1, .ref (ad v1)), (2, .ref (ad v2)), (3, .ref (ad v3)), (4, .int (Int32.ofInt v4))]) hC.1 hC.2.1 dL_law_1024 hl (by decide) rfl (fun ls hl => ?_)
  refine lv_aload_n hC.1 hC.2.1 dL_law_1026 rfl (lv_at hl 3 rfl) ?_
  refine lv_aload_n hC.1 hC.2.1 dL_law_1027 rfl (lv_at hl 1 rfl) ?_
  refine lv_iload hC.1 hC.2.1 dL_law_1028 (lv_at hl 5 rfl) ?_
  refine pw_iconst hC dL_law_1030 ?_
  refine pw_iadd hC dL_law_1031 ?_
  obtain ⟨x3, e3, hF⟩ := bnd hF
  refine pw_sld hC hX hR e3 dL_law_1032 ?_
  obtain ⟨q4, e4, hF⟩ := bnd hF
  obtain ⟨fs4, ho4⟩ := OX8_steals e4
  refine pw_cVi (rest := []) hC hR lvL_161 ho4 (CX8_steals e4) ⟨rfl, rfl⟩ rfl hl.1 rfl ⟨Nat.le_of_ble_eq_true rfl, Nat.le_of_ble_eq_true rfl⟩ (Nat.le_of_ble_eq_true rfl) dL_law_1033 ⟨hcl, hsl⟩ (fun H locs hR => ?_)
  refine lv_istore (lv' := [(6, .int (Int32.ofInt q4.1)), (5, .int (Int32.ofInt q2.1)), (0, .ref b), (1, .ref (ad v1)), (2, .ref (ad v2)), (3, .ref (ad v3)), (4, .int (Int32.ofInt v4))]) hC.1 hC.2.1 dL_law_1036 hl (by decide) rfl (fun ls hl => ?_)
  refine lv_aload_n hC.1 hC.2.1 dL_law_1038 rfl (lv_at hl 4 rfl) ?_
  obtain ⟨x5, e5, hF⟩ := bnd hF
  obtain ⟨fs5, ho5⟩ := OX8_thrown e5
  refine pw_cVi (rest := []) hC hR lvL_101 ho5 (CX8_thrown e5) ⟨rfl, rfl⟩ rfl hl.1 rfl ⟨Nat.le_of_ble_eq_true rfl, Nat.le_of_ble_eq_true rfl⟩ (Nat.le_of_ble_eq_true rfl) dL_law_1039 ⟨hcl, hsl⟩ (fun H locs hR => ?_)
  refine lv_iload hC.1 hC.2.1 dL_law_1042 (lv_at hl 1 rfl) ?_
  refine pw_icmpeq hC 1049 dL_law_1044 (by decide) (fun hc => ?_) (fun hc => ?_)
  · rw [if_pos hc] at hF
    refine lv_iload hC.1 hC.2.1 dL_law_1049 (lv_at hl 1 rfl) ?_
    refine pw_ifne hC 1066 dL_law_1051 (by decide) (fun hc => ?_) (fun hc => ?_)
    · rw [if_neg hc] at hF
      refine pw_goto hC 1728 dL_law_1066 (by decide) ?_
      cases hF
      exact kk _ _ _ _ (fun k hk => rfl) hR (lv_sub hl [2, 3, 4, 5, 6] rfl)
    · rw [if_pos hc] at hF
      refine lv_aload_n hC.1 hC.2.1 dL_law_1054 rfl (lv_at hl 5 rfl) ?_
      refine pw_iconst hC dL_law_1055 ?_
      obtain ⟨x6, e6, hF⟩ := bnd hF
      refine pw_lald hC hR e6 dL_law_1056 ?_
      refine lv_iload hC.1 hC.2.1 dL_law_1057 (lv_at hl 0 rfl) ?_
      refine pw_i2l hC dL_law_1059 ?_
      refine pw_lcmp hC dL_law_1060 ?_
      refine pw_ifeq hC 1066 dL_law_1061 (by decide) (fun hc => ?_) (fun hc => ?_)
      · rw [if_pos hc] at hF
        refine pw_goto hC 1728 dL_law_1066 (by decide) ?_
        cases hF
        exact kk _ _ _ _ (fun k hk => rfl) hR (lv_sub hl [2, 3, 4, 5, 6] rfl)
      · rw [if_neg hc] at hF
        cases hF
  · rw [if_neg hc] at hF
    cases hF
def LC19 (xs : Nat → Int) (L : Nat) (v1 v2 v3 : Nat) (v4 : Int) (h : PH) : Option PH :=
  (sld xs L (v4 + 1)).bind fun x1 =>
  (FL_isPaused h v1 x1 v3).bind fun q2 =>
  (sld xs L (v4 + 1)).bind fun x3 =>
  (FX8_isPaused q2.2 v2 x3).bind fun q4 =>
  (FX8_thrown q4.2 v2).bind fun x5 =>
  if w32 x5 = w32 q2.1 then (
    if w32 q2.1 = 0 then (
      (ald 3 q4.2 v3 0).bind fun x6 =>
      if w32 q4.1 = 0 then (
        if w32 (cmpL x6 0) = 0 then (
          some q4.2
        ) else (
          none
        )
      ) else (
        if w32 (cmpL x6 1) = 0 then (
          some q4.2
        ) else (
          none
        )
      )
    ) else (
      some q4.2
    )
  ) else (
    none
  )
set_option maxHeartbeats 4000000 in
set_option maxRecDepth 100000 in
theorem TC19 (hst : l.stackTraces = false) {v1 v2 v3 : Nat} {v4 : Int} {h h' : PH} {b L : Nat} {xs : Nat → Int} {cl sl : Nat} {Q : State → Prop} (hC : Cx g p s m args meth c cL_law 7 RL ret) (hX : LwX g s b L xs) (hR : Rl g ad h s.heap H locs) (hl : lv_has ls 7 [(0, .ref b), (1, .ref (ad v1)), (2, .ref (ad v2)), (3, .ref (ad v3)), (4, .int (Int32.ofInt v4))]) (hcl : cl + 4 ≤ 601024) (hsl : sl + 919 ≤ 7293034) (hF : LC19 xs L v1 v2 v3 v4 h = some h')
    (kk : ∀ (ad' : Nat → Nat) (H : Heap) (locs : List Loc) (ls : Array Slot), (∀ k, k < h.length → ad' k = ad k) → Rl g ad' h' s.heap H locs → lv_has ls 7 [(0, .ref b), (1, .ref (ad' v1)), (2, .ref (ad' v2)), (3, .ref (ad' v3)), (4, .int (Int32.ofInt v4))] → W p l e room_1 s m args below meth c H locs (cl + 4) (sl + 919) Q (F0 m 1728 ls [])) :
    W p l e room_1 s m args below meth c H locs cl sl Q (F0 m 1069 ls []) := by
  unfold LC19 at hF
  refine lv_aload_n hC.1 hC.2.1 dL_law_1069 rfl (lv_at hl 1 rfl) ?_
  refine lv_aload_n hC.1 hC.2.1 dL_law_1070 rfl (lv_at hl 0 rfl) ?_
  refine lv_iload hC.1 hC.2.1 dL_law_1071 (lv_at hl 4 rfl) ?_
  refine pw_iconst hC dL_law_1073 ?_
  refine pw_iadd hC dL_law_1074 ?_
  obtain ⟨x1, e1, hF⟩ := bnd hF
  refine pw_sld hC hX hR e1 dL_law_1075 ?_
  refine lv_aload_n hC.1 hC.2.1 dL_law_1076 rfl (lv_at hl 3 rfl) ?_
  obtain ⟨q2, e2, hF⟩ := bnd hF
  refine pw_call hR (pw_runSW (rest := []) hC hR lwL_162 (CL_isPaused hst e2) rfl hl.1 rfl ⟨(Nat.le_of_ble_eq_true rfl), (Nat.le_of_ble_eq_true rfl)⟩ (Nat.le_of_ble_eq_true rfl) dL_law_1077 ⟨Nat.le_trans (Nat.add_le_add_left (Nat.le_of_ble_eq_true rfl) cl) hcl, Nat.le_trans (Nat.add_le_add_left (Nat.le_of_ble_eq_true rfl) sl) hsl⟩) (fun H locs hR => ?_)
  refine W.widen (k := cl + 4) (n := sl + 919) (Nat.add_le_add_left (Nat.le_of_ble_eq_true rfl) cl) (Nat.add_le_add_left (Nat.le_of_ble_eq_true rfl) sl) ?_
  show W p l e room_1 s m args below meth c H locs (cl + 4) (sl + 919) Q (F0 m 1080 ls [.int (Int32.ofInt q2.1)])
  refine lv_istore (lv' := [(5, .int (Int32.ofInt q2.1)), (0, .ref b), (1, .ref (ad v1)), (2, .ref (ad v2)), (3, .ref (ad v3)), (4, .int (Int32.ofInt v4))]) hC.1 hC.2.1 dL_law_1080 hl (by decide) rfl (fun ls hl => ?_)
  refine lv_aload_n hC.1 hC.2.1 dL_law_1082 rfl (lv_at hl 3 rfl) ?_
  refine lv_aload_n hC.1 hC.2.1 dL_law_1083 rfl (lv_at hl 1 rfl) ?_
  refine lv_iload hC.1 hC.2.1 dL_law_1084 (lv_at hl 5 rfl) ?_
  refine pw_iconst hC dL_law_1086 ?_
  refine pw_iadd hC dL_law_1087 ?_
  obtain ⟨x3, e3, hF⟩ := bnd hF
  refine pw_sld hC hX hR e3 dL_law_1088 ?_
  obtain ⟨q4, e4, hF⟩ := bnd hF
  obtain ⟨fs4, ho4⟩ := OX8_isPaused e4
  refine pw_cVi (rest := []) hC hR lvL_164 ho4 (CX8_isPaused e4) ⟨rfl, rfl⟩ rfl hl.1 rfl ⟨Nat.le_of_ble_eq_true rfl, Nat.le_of_ble_eq_true rfl⟩ (Nat.le_of_ble_eq_true rfl) dL_law_1089 ⟨hcl, hsl⟩ (fun H locs hR => ?_)
  refine lv_istore (lv' := [(6, .int (Int32.ofInt q4.1)), (5, .int (Int32.ofInt q2.1)), (0, .ref b), (1, .ref (ad v1)), (2, .ref (ad v2)), (3, .ref (ad v3)), (4, .int (Int32.ofInt v4))]) hC.1 hC.2.1 dL_law_1092 hl (by decide) rfl (fun ls hl => ?_)
  refine lv_aload_n hC.1 hC.2.1 dL_law_1094 rfl (lv_at hl 4 rfl) ?_
  obtain ⟨x5, e5, hF⟩ := bnd hF
  obtain ⟨fs5, ho5⟩ := OX8_thrown e5
  refine pw_cVi (rest := []) hC hR lvL_101 ho5 (CX8_thrown e5) ⟨rfl, rfl⟩ rfl hl.1 rfl ⟨Nat.le_of_ble_eq_true rfl, Nat.le_of_ble_eq_true rfl⟩ (Nat.le_of_ble_eq_true rfl) dL_law_1095 ⟨hcl, hsl⟩ (fun H locs hR => ?_)
  refine lv_iload hC.1 hC.2.1 dL_law_1098 (lv_at hl 1 rfl) ?_
  refine pw_icmpeq hC 1105 dL_law_1100 (by decide) (fun hc => ?_) (fun hc => ?_)
  · rw [if_pos hc] at hF
    refine lv_iload hC.1 hC.2.1 dL_law_1105 (lv_at hl 1 rfl) ?_
    refine pw_ifne hC 1129 dL_law_1107 (by decide) (fun hc => ?_) (fun hc => ?_)
    · rw [if_neg hc] at hF
      refine pw_goto hC 1728 dL_law_1129 (by decide) ?_
      cases hF
      exact kk _ _ _ _ (fun k hk => rfl) hR (lv_sub hl [2, 3, 4, 5, 6] rfl)
    · rw [if_pos hc] at hF
      refine lv_aload_n hC.1 hC.2.1 dL_law_1110 rfl (lv_at hl 5 rfl) ?_
      refine pw_iconst hC dL_law_1111 ?_
      obtain ⟨x6, e6, hF⟩ := bnd hF
      refine pw_lald hC hR e6 dL_law_1112 ?_
      refine lv_iload hC.1 hC.2.1 dL_law_1113 (lv_at hl 0 rfl) ?_
      refine pw_ifeq hC 1122 dL_law_1115 (by decide) (fun hc => ?_) (fun hc => ?_)
      · rw [if_pos hc] at hF
        refine pw_lconst hC 0 dL_law_1122 rfl ?_
        refine pw_lcmp hC dL_law_1123 ?_
        refine pw_ifeq hC 1129 dL_law_1124 (by decide) (fun hc => ?_) (fun hc => ?_)
        · rw [if_pos hc] at hF
          refine pw_goto hC 1728 dL_law_1129 (by decide) ?_
          cases hF
          exact kk _ _ _ _ (fun k hk => rfl) hR (lv_sub hl [2, 3, 4, 5, 6] rfl)
        · rw [if_neg hc] at hF
          cases hF
      · rw [if_neg hc] at hF
        refine pw_lconst hC 1 dL_law_1118 rfl ?_
        refine pw_goto hC 1123 dL_law_1119 (by decide) ?_
        refine pw_lcmp hC dL_law_1123 ?_
        refine pw_ifeq hC 1129 dL_law_1124 (by decide) (fun hc => ?_) (fun hc => ?_)
        · rw [if_pos hc] at hF
          refine pw_goto hC 1728 dL_law_1129 (by decide) ?_
          cases hF
          exact kk _ _ _ _ (fun k hk => rfl) hR (lv_sub hl [2, 3, 4, 5, 6] rfl)
        · rw [if_neg hc] at hF
          cases hF
  · rw [if_neg hc] at hF
    cases hF
def LC20 (xs : Nat → Int) (L : Nat) (v1 v2 v3 : Nat) (v4 : Int) (h : PH) : Option PH :=
  (FX7_finished h v1).bind fun x1 =>
  (FX8_finished h v2).bind fun q2 =>
  if w32 x1 = w32 q2.1 then (
    some q2.2
  ) else (
    none
  )
set_option maxHeartbeats 4000000 in
set_option maxRecDepth 100000 in
theorem TC20 (hst : l.stackTraces = false) {v1 v2 v3 : Nat} {v4 : Int} {h h' : PH} {b L : Nat} {xs : Nat → Int} {cl sl : Nat} {Q : State → Prop} (hC : Cx g p s m args meth c cL_law 7 RL ret) (hX : LwX g s b L xs) (hR : Rl g ad h s.heap H locs) (hl : lv_has ls 7 [(0, .ref b), (1, .ref (ad v1)), (2, .ref (ad v2)), (3, .ref (ad v3)), (4, .int (Int32.ofInt v4))]) (hcl : cl + 4 ≤ 601024) (hsl : sl + 919 ≤ 7293034) (hF : LC20 xs L v1 v2 v3 v4 h = some h')
    (kk : ∀ (ad' : Nat → Nat) (H : Heap) (locs : List Loc) (ls : Array Slot), (∀ k, k < h.length → ad' k = ad k) → Rl g ad' h' s.heap H locs → lv_has ls 7 [(0, .ref b), (1, .ref (ad' v1)), (2, .ref (ad' v2)), (3, .ref (ad' v3)), (4, .int (Int32.ofInt v4))] → W p l e room_1 s m args below meth c H locs (cl + 4) (sl + 919) Q (F0 m 1728 ls [])) :
    W p l e room_1 s m args below meth c H locs cl sl Q (F0 m 1132 ls []) := by
  unfold LC20 at hF
  refine W.widen (k := cl + 4) (n := sl + 919) (Nat.le_add_right _ _) (Nat.le_add_right _ _) ?_
  refine lv_aload_n hC.1 hC.2.1 dL_law_1132 rfl (lv_at hl 1 rfl) ?_
  obtain ⟨x1, e1, hF⟩ := bnd hF
  obtain ⟨fs1, ho1⟩ := OX7_finished e1
  refine pw_cVi (rest := []) hC hR lvL_165 ho1 (CX7_finished e1) ⟨rfl, rfl⟩ rfl hl.1 rfl ⟨Nat.le_of_ble_eq_true rfl, Nat.le_of_ble_eq_true rfl⟩ (Nat.le_of_ble_eq_true rfl) dL_law_1133 ⟨hcl, hsl⟩ (fun H locs hR => ?_)
  refine lv_aload_n hC.1 hC.2.1 dL_law_1136 rfl (lv_at hl 2 rfl) ?_
  obtain ⟨q2, e2, hF⟩ := bnd hF
  obtain ⟨fs2, ho2⟩ := OX8_finished e2
  refine pw_cVi (rest := [.int (Int32.ofInt x1)]) hC hR lvL_168 ho2 (CX8_finished e2) ⟨rfl, rfl⟩ rfl hl.1 rfl ⟨Nat.le_of_ble_eq_true rfl, Nat.le_of_ble_eq_true rfl⟩ (Nat.le_of_ble_eq_true rfl) dL_law_1137 ⟨hcl, hsl⟩ (fun H locs hR => ?_)
  refine pw_icmpeq hC 1728 dL_law_1140 (by decide) (fun hc => ?_) (fun hc => ?_)
  · rw [if_pos hc] at hF
    cases hF
    exact kk _ _ _ _ (fun k hk => rfl) hR (lv_sub hl [0, 1, 2, 3, 4] rfl)
  · rw [if_neg hc] at hF
    cases hF
def LC21 (xs : Nat → Int) (L : Nat) (v1 v2 v3 : Nat) (v4 : Int) (h : PH) : Option PH :=
  (FX7_criticalPath h v1).bind fun q1 =>
  (FX8_criticalPath q1.2 v2).bind fun q2 =>
  if w32 q1.1 = w32 q2.1 then (
    some q2.2
  ) else (
    none
  )
set_option maxHeartbeats 4000000 in
set_option maxRecDepth 100000 in
theorem TC21 (hst : l.stackTraces = false) {v1 v2 v3 : Nat} {v4 : Int} {h h' : PH} {b L : Nat} {xs : Nat → Int} {cl sl : Nat} {Q : State → Prop} (hC : Cx g p s m args meth c cL_law 7 RL ret) (hX : LwX g s b L xs) (hR : Rl g ad h s.heap H locs) (hl : lv_has ls 7 [(0, .ref b), (1, .ref (ad v1)), (2, .ref (ad v2)), (3, .ref (ad v3)), (4, .int (Int32.ofInt v4))]) (hcl : cl + 4 ≤ 601024) (hsl : sl + 919 ≤ 7293034) (hF : LC21 xs L v1 v2 v3 v4 h = some h')
    (kk : ∀ (ad' : Nat → Nat) (H : Heap) (locs : List Loc) (ls : Array Slot), (∀ k, k < h.length → ad' k = ad k) → Rl g ad' h' s.heap H locs → lv_has ls 7 [(0, .ref b), (1, .ref (ad' v1)), (2, .ref (ad' v2)), (3, .ref (ad' v3)), (4, .int (Int32.ofInt v4))] → W p l e room_1 s m args below meth c H locs (cl + 4) (sl + 919) Q (F0 m 1728 ls [])) :
    W p l e room_1 s m args below meth c H locs cl sl Q (F0 m 1145 ls []) := by
  unfold LC21 at hF
  refine W.widen (k := cl + 4) (n := sl + 919) (Nat.le_add_right _ _) (Nat.le_add_right _ _) ?_
  refine lv_aload_n hC.1 hC.2.1 dL_law_1145 rfl (lv_at hl 1 rfl) ?_
  obtain ⟨q1, e1, hF⟩ := bnd hF
  obtain ⟨fs1, ho1⟩ := OX7_criticalPath e1
  refine pw_cVi (rest := []) hC hR lvL_169 ho1 (CX7_criticalPath e1) ⟨rfl, rfl⟩ rfl hl.1 rfl ⟨Nat.le_of_ble_eq_true rfl, Nat.le_of_ble_eq_true rfl⟩ (Nat.le_of_ble_eq_true rfl) dL_law_1146 ⟨hcl, hsl⟩ (fun H locs hR => ?_)
  refine lv_aload_n hC.1 hC.2.1 dL_law_1149 rfl (lv_at hl 2 rfl) ?_
  obtain ⟨q2, e2, hF⟩ := bnd hF
  obtain ⟨fs2, ho2⟩ := OX8_criticalPath e2
  refine pw_cVi (rest := [.int (Int32.ofInt q1.1)]) hC hR lvL_172 ho2 (CX8_criticalPath e2) ⟨rfl, rfl⟩ rfl hl.1 rfl ⟨Nat.le_of_ble_eq_true rfl, Nat.le_of_ble_eq_true rfl⟩ (Nat.le_of_ble_eq_true rfl) dL_law_1150 ⟨hcl, hsl⟩ (fun H locs hR => ?_)
  refine pw_icmpeq hC 1728 dL_law_1153 (by decide) (fun hc => ?_) (fun hc => ?_)
  · rw [if_pos hc] at hF
    cases hF
    exact kk _ _ _ _ (fun k hk => rfl) hR (lv_sub hl [0, 1, 2, 3, 4] rfl)
  · rw [if_neg hc] at hF
    cases hF
def LC22 (xs : Nat → Int) (L : Nat) (v1 v2 v3 : Nat) (v4 : Int) (h : PH) : Option PH :=
  (sld xs L (v4 + 1)).bind fun x1 =>
  (FL_finishTime h v1 x1 v3).bind fun q2 =>
  (sld xs L (v4 + 1)).bind fun x3 =>
  (FX8_finishTime q2.2 v2 x3).bind fun q4 =>
  (FX8_thrown q4.2 v2).bind fun x5 =>
  if w32 x5 = w32 q2.1 then (
    if w32 q2.1 = 0 then (
      (ald 3 q4.2 v3 0).bind fun x6 =>
      if w32 (cmpL x6 (w32 q4.1)) = 0 then (
        some q4.2
      ) else (
        none
      )
    ) else (
      some q4.2
    )
  ) else (
    none
  )
set_option maxHeartbeats 4000000 in
set_option maxRecDepth 100000 in
theorem TC22 (hst : l.stackTraces = false) {v1 v2 v3 : Nat} {v4 : Int} {h h' : PH} {b L : Nat} {xs : Nat → Int} {cl sl : Nat} {Q : State → Prop} (hC : Cx g p s m args meth c cL_law 7 RL ret) (hX : LwX g s b L xs) (hR : Rl g ad h s.heap H locs) (hl : lv_has ls 7 [(0, .ref b), (1, .ref (ad v1)), (2, .ref (ad v2)), (3, .ref (ad v3)), (4, .int (Int32.ofInt v4))]) (hcl : cl + 4 ≤ 601024) (hsl : sl + 919 ≤ 7293034) (hF : LC22 xs L v1 v2 v3 v4 h = some h')
    (kk : ∀ (ad' : Nat → Nat) (H : Heap) (locs : List Loc) (ls : Array Slot), (∀ k, k < h.length → ad' k = ad k) → Rl g ad' h' s.heap H locs → lv_has ls 7 [(0, .ref b), (1, .ref (ad' v1)), (2, .ref (ad' v2)), (3, .ref (ad' v3)), (4, .int (Int32.ofInt v4))] → W p l e room_1 s m args below meth c H locs (cl + 4) (sl + 919) Q (F0 m 1728 ls [])) :
    W p l e room_1 s m args below meth c H locs cl sl Q (F0 m 1158 ls []) := by
  unfold LC22 at hF
  refine lv_aload_n hC.1 hC.2.1 dL_law_1158 rfl (lv_at hl 1 rfl) ?_
  refine lv_aload_n hC.1 hC.2.1 dL_law_1159 rfl (lv_at hl 0 rfl) ?_
  refine lv_iload hC.1 hC.2.1 dL_law_1160 (lv_at hl 4 rfl) ?_
  refine pw_iconst hC dL_law_1162 ?_
  refine pw_iadd hC dL_law_1163 ?_
  obtain ⟨x1, e1, hF⟩ := bnd hF
  refine pw_sld hC hX hR e1 dL_law_1164 ?_
  refine lv_aload_n hC.1 hC.2.1 dL_law_1165 rfl (lv_at hl 3 rfl) ?_
  obtain ⟨q2, e2, hF⟩ := bnd hF
  refine pw_call hR (pw_runSW (rest := []) hC hR lwL_173 (CL_finishTime hst e2) rfl hl.1 rfl ⟨(Nat.le_of_ble_eq_true rfl), (Nat.le_of_ble_eq_true rfl)⟩ (Nat.le_of_ble_eq_true rfl) dL_law_1166 ⟨Nat.le_trans (Nat.add_le_add_left (Nat.le_of_ble_eq_true rfl) cl) hcl, Nat.le_trans (Nat.add_le_add_left (Nat.le_of_ble_eq_true rfl) sl) hsl⟩) (fun H locs hR => ?_)
  refine W.widen (k := cl + 4) (n := sl + 919) (Nat.add_le_add_left (Nat.le_of_ble_eq_true rfl) cl) (Nat.add_le_add_left (Nat.le_of_ble_eq_true rfl) sl) ?_
  show W p l e room_1 s m args below meth c H locs (cl + 4) (sl + 919) Q (F0 m 1169 ls [.int (Int32.ofInt q2.1)])
  refine lv_istore (lv' := [(5, .int (Int32.ofInt q2.1)), (0, .ref b), (1, .ref (ad v1)), (2, .ref (ad v2)), (3, .ref (ad v3)), (4, .int (Int32.ofInt v4))]) hC.1 hC.2.1 dL_law_1169 hl (by decide) rfl (fun ls hl => ?_)
  refine lv_aload_n hC.1 hC.2.1 dL_law_1171 rfl (lv_at hl 3 rfl) ?_
  refine lv_aload_n hC.1 hC.2.1 dL_law_1172 rfl (lv_at hl 1 rfl) ?_
  refine lv_iload hC.1 hC.2.1 dL_law_1173 (lv_at hl 5 rfl) ?_
  refine pw_iconst hC dL_law_1175 ?_
  refine pw_iadd hC dL_law_1176 ?_
  obtain ⟨x3, e3, hF⟩ := bnd hF
  refine pw_sld hC hX hR e3 dL_law_1177 ?_
  obtain ⟨q4, e4, hF⟩ := bnd hF
  obtain ⟨fs4, ho4⟩ := OX8_finishTime e4
  refine pw_cVi (rest := []) hC hR lvL_175 ho4 (CX8_finishTime e4) ⟨rfl, rfl⟩ rfl hl.1 rfl ⟨Nat.le_of_ble_eq_true rfl, Nat.le_of_ble_eq_true rfl⟩ (Nat.le_of_ble_eq_true rfl) dL_law_1178 ⟨hcl, hsl⟩ (fun H locs hR => ?_)
  refine lv_istore (lv' := [(6, .int (Int32.ofInt q4.1)), (5, .int (Int32.ofInt q2.1)), (0, .ref b), (1, .ref (ad v1)), (2, .ref (ad v2)), (3, .ref (ad v3)), (4, .int (Int32.ofInt v4))]) hC.1 hC.2.1 dL_law_1181 hl (by decide) rfl (fun ls hl => ?_)
  refine lv_aload_n hC.1 hC.2.1 dL_law_1183 rfl (lv_at hl 4 rfl) ?_
  obtain ⟨x5, e5, hF⟩ := bnd hF
  obtain ⟨fs5, ho5⟩ := OX8_thrown e5
  refine pw_cVi (rest := []) hC hR lvL_101 ho5 (CX8_thrown e5) ⟨rfl, rfl⟩ rfl hl.1 rfl ⟨Nat.le_of_ble_eq_true rfl, Nat.le_of_ble_eq_true rfl⟩ (Nat.le_of_ble_eq_true rfl) dL_law_1184 ⟨hcl, hsl⟩ (fun H locs hR => ?_)
  refine lv_iload hC.1 hC.2.1 dL_law_1187 (lv_at hl 1 rfl) ?_
  refine pw_icmpeq hC 1194 dL_law_1189 (by decide) (fun hc => ?_) (fun hc => ?_)
  · rw [if_pos hc] at hF
    refine lv_iload hC.1 hC.2.1 dL_law_1194 (lv_at hl 1 rfl) ?_
    refine pw_ifne hC 1211 dL_law_1196 (by decide) (fun hc => ?_) (fun hc => ?_)
    · rw [if_neg hc] at hF
      refine pw_goto hC 1728 dL_law_1211 (by decide) ?_
      cases hF
      exact kk _ _ _ _ (fun k hk => rfl) hR (lv_sub hl [2, 3, 4, 5, 6] rfl)
    · rw [if_pos hc] at hF
      refine lv_aload_n hC.1 hC.2.1 dL_law_1199 rfl (lv_at hl 5 rfl) ?_
      refine pw_iconst hC dL_law_1200 ?_
      obtain ⟨x6, e6, hF⟩ := bnd hF
      refine pw_lald hC hR e6 dL_law_1201 ?_
      refine lv_iload hC.1 hC.2.1 dL_law_1202 (lv_at hl 0 rfl) ?_
      refine pw_i2l hC dL_law_1204 ?_
      refine pw_lcmp hC dL_law_1205 ?_
      refine pw_ifeq hC 1211 dL_law_1206 (by decide) (fun hc => ?_) (fun hc => ?_)
      · rw [if_pos hc] at hF
        refine pw_goto hC 1728 dL_law_1211 (by decide) ?_
        cases hF
        exact kk _ _ _ _ (fun k hk => rfl) hR (lv_sub hl [2, 3, 4, 5, 6] rfl)
      · rw [if_neg hc] at hF
        cases hF
  · rw [if_neg hc] at hF
    cases hF
def LC23 (xs : Nat → Int) (L : Nat) (v1 v2 v3 : Nat) (v4 : Int) (h : PH) : Option PH :=
  (sld xs L (v4 + 1)).bind fun x1 =>
  (sld xs L (v4 + 2)).bind fun x2 =>
  (FL_timeOn h v1 x1 x2 v3).bind fun q3 =>
  (sld xs L (v4 + 1)).bind fun x4 =>
  (sld xs L (v4 + 2)).bind fun x5 =>
  (FX8_timeOn q3.2 v2 x4 x5).bind fun q6 =>
  (FX8_thrown q6.2 v2).bind fun x7 =>
  if w32 x7 = w32 q3.1 then (
    if w32 q3.1 = 0 then (
      (ald 3 q6.2 v3 0).bind fun x8 =>
      if w32 (cmpL x8 (w32 q6.1)) = 0 then (
        some q6.2
      ) else (
        none
      )
    ) else (
      some q6.2
    )
  ) else (
    none
  )
set_option maxHeartbeats 4000000 in
set_option maxRecDepth 100000 in
theorem TC23 (hst : l.stackTraces = false) {v1 v2 v3 : Nat} {v4 : Int} {h h' : PH} {b L : Nat} {xs : Nat → Int} {cl sl : Nat} {Q : State → Prop} (hC : Cx g p s m args meth c cL_law 7 RL ret) (hX : LwX g s b L xs) (hR : Rl g ad h s.heap H locs) (hl : lv_has ls 7 [(0, .ref b), (1, .ref (ad v1)), (2, .ref (ad v2)), (3, .ref (ad v3)), (4, .int (Int32.ofInt v4))]) (hcl : cl + 4 ≤ 601024) (hsl : sl + 919 ≤ 7293034) (hF : LC23 xs L v1 v2 v3 v4 h = some h')
    (kk : ∀ (ad' : Nat → Nat) (H : Heap) (locs : List Loc) (ls : Array Slot), (∀ k, k < h.length → ad' k = ad k) → Rl g ad' h' s.heap H locs → lv_has ls 7 [(0, .ref b), (1, .ref (ad' v1)), (2, .ref (ad' v2)), (3, .ref (ad' v3)), (4, .int (Int32.ofInt v4))] → W p l e room_1 s m args below meth c H locs (cl + 4) (sl + 919) Q (F0 m 1728 ls [])) :
    W p l e room_1 s m args below meth c H locs cl sl Q (F0 m 1214 ls []) := by
  unfold LC23 at hF
  refine lv_aload_n hC.1 hC.2.1 dL_law_1214 rfl (lv_at hl 1 rfl) ?_
  refine lv_aload_n hC.1 hC.2.1 dL_law_1215 rfl (lv_at hl 0 rfl) ?_
  refine lv_iload hC.1 hC.2.1 dL_law_1216 (lv_at hl 4 rfl) ?_
  refine pw_iconst hC dL_law_1218 ?_
  refine pw_iadd hC dL_law_1219 ?_
  obtain ⟨x1, e1, hF⟩ := bnd hF
  refine pw_sld hC hX hR e1 dL_law_1220 ?_
  refine lv_aload_n hC.1 hC.2.1 dL_law_1221 rfl (lv_at hl 0 rfl) ?_
  refine lv_iload hC.1 hC.2.1 dL_law_1222 (lv_at hl 4 rfl) ?_
  refine pw_iconst hC dL_law_1224 ?_
  refine pw_iadd hC dL_law_1225 ?_
  obtain ⟨x2, e2, hF⟩ := bnd hF
  refine pw_sld hC hX hR e2 dL_law_1226 ?_
  refine lv_aload_n hC.1 hC.2.1 dL_law_1227 rfl (lv_at hl 3 rfl) ?_
  obtain ⟨q3, e3, hF⟩ := bnd hF
  refine pw_call hR (pw_runSW (rest := []) hC hR lwL_176 (CL_timeOn hst e3) rfl hl.1 rfl ⟨(Nat.le_of_ble_eq_true rfl), (Nat.le_of_ble_eq_true rfl)⟩ (Nat.le_of_ble_eq_true rfl) dL_law_1228 ⟨Nat.le_trans (Nat.add_le_add_left (Nat.le_of_ble_eq_true rfl) cl) hcl, Nat.le_trans (Nat.add_le_add_left (Nat.le_of_ble_eq_true rfl) sl) hsl⟩) (fun H locs hR => ?_)
  refine W.widen (k := cl + 4) (n := sl + 919) (Nat.add_le_add_left (Nat.le_of_ble_eq_true rfl) cl) (Nat.add_le_add_left (Nat.le_of_ble_eq_true rfl) sl) ?_
  show W p l e room_1 s m args below meth c H locs (cl + 4) (sl + 919) Q (F0 m 1231 ls [.int (Int32.ofInt q3.1)])
  refine lv_istore (lv' := [(5, .int (Int32.ofInt q3.1)), (0, .ref b), (1, .ref (ad v1)), (2, .ref (ad v2)), (3, .ref (ad v3)), (4, .int (Int32.ofInt v4))]) hC.1 hC.2.1 dL_law_1231 hl (by decide) rfl (fun ls hl => ?_)
  refine lv_aload_n hC.1 hC.2.1 dL_law_1233 rfl (lv_at hl 3 rfl) ?_
  refine lv_aload_n hC.1 hC.2.1 dL_law_1234 rfl (lv_at hl 1 rfl) ?_
  refine lv_iload hC.1 hC.2.1 dL_law_1235 (lv_at hl 5 rfl) ?_
  refine pw_iconst hC dL_law_1237 ?_
  refine pw_iadd hC dL_law_1238 ?_
  obtain ⟨x4, e4, hF⟩ := bnd hF
  refine pw_sld hC hX hR e4 dL_law_1239 ?_
  refine lv_aload_n hC.1 hC.2.1 dL_law_1240 rfl (lv_at hl 1 rfl) ?_
  refine lv_iload hC.1 hC.2.1 dL_law_1241 (lv_at hl 5 rfl) ?_
  refine pw_iconst hC dL_law_1243 ?_
  refine pw_iadd hC dL_law_1244 ?_
  obtain ⟨x5, e5, hF⟩ := bnd hF
  refine pw_sld hC hX hR e5 dL_law_1245 ?_
  obtain ⟨q6, e6, hF⟩ := bnd hF
  obtain ⟨fs6, ho6⟩ := OX8_timeOn e6
  refine pw_cVi (rest := []) hC hR lvL_178 ho6 (CX8_timeOn e6) ⟨rfl, rfl⟩ rfl hl.1 rfl ⟨Nat.le_of_ble_eq_true rfl, Nat.le_of_ble_eq_true rfl⟩ (Nat.le_of_ble_eq_true rfl) dL_law_1246 ⟨hcl, hsl⟩ (fun H locs hR => ?_)
  refine lv_istore (lv' := [(6, .int (Int32.ofInt q6.1)), (5, .int (Int32.ofInt q3.1)), (0, .ref b), (1, .ref (ad v1)), (2, .ref (ad v2)), (3, .ref (ad v3)), (4, .int (Int32.ofInt v4))]) hC.1 hC.2.1 dL_law_1249 hl (by decide) rfl (fun ls hl => ?_)
  refine lv_aload_n hC.1 hC.2.1 dL_law_1251 rfl (lv_at hl 4 rfl) ?_
  obtain ⟨x7, e7, hF⟩ := bnd hF
  obtain ⟨fs7, ho7⟩ := OX8_thrown e7
  refine pw_cVi (rest := []) hC hR lvL_101 ho7 (CX8_thrown e7) ⟨rfl, rfl⟩ rfl hl.1 rfl ⟨Nat.le_of_ble_eq_true rfl, Nat.le_of_ble_eq_true rfl⟩ (Nat.le_of_ble_eq_true rfl) dL_law_1252 ⟨hcl, hsl⟩ (fun H locs hR => ?_)
  refine lv_iload hC.1 hC.2.1 dL_law_1255 (lv_at hl 1 rfl) ?_
  refine pw_icmpeq hC 1262 dL_law_1257 (by decide) (fun hc => ?_) (fun hc => ?_)
  · rw [if_pos hc] at hF
    refine lv_iload hC.1 hC.2.1 dL_law_1262 (lv_at hl 1 rfl) ?_
    refine pw_ifne hC 1279 dL_law_1264 (by decide) (fun hc => ?_) (fun hc => ?_)
    · rw [if_neg hc] at hF
      refine pw_goto hC 1728 dL_law_1279 (by decide) ?_
      cases hF
      exact kk _ _ _ _ (fun k hk => rfl) hR (lv_sub hl [2, 3, 4, 5, 6] rfl)
    · rw [if_pos hc] at hF
      refine lv_aload_n hC.1 hC.2.1 dL_law_1267 rfl (lv_at hl 5 rfl) ?_
      refine pw_iconst hC dL_law_1268 ?_
      obtain ⟨x8, e8, hF⟩ := bnd hF
      refine pw_lald hC hR e8 dL_law_1269 ?_
      refine lv_iload hC.1 hC.2.1 dL_law_1270 (lv_at hl 0 rfl) ?_
      refine pw_i2l hC dL_law_1272 ?_
      refine pw_lcmp hC dL_law_1273 ?_
      refine pw_ifeq hC 1279 dL_law_1274 (by decide) (fun hc => ?_) (fun hc => ?_)
      · rw [if_pos hc] at hF
        refine pw_goto hC 1728 dL_law_1279 (by decide) ?_
        cases hF
        exact kk _ _ _ _ (fun k hk => rfl) hR (lv_sub hl [2, 3, 4, 5, 6] rfl)
      · rw [if_neg hc] at hF
        cases hF
  · rw [if_neg hc] at hF
    cases hF
def LC24 (xs : Nat → Int) (L : Nat) (v1 v2 v3 : Nat) (v4 : Int) (h : PH) : Option PH :=
  (sld xs L (v4 + 1)).bind fun x1 =>
  (FL_run h v1 x1 v3).bind fun q2 =>
  (sld xs L (v4 + 1)).bind fun x3 =>
  (FX8_run q2.2 v2 x3).bind fun q4 =>
  (FX8_thrown q4.2 v2).bind fun x5 =>
  if w32 x5 = w32 q2.1 then (
    if w32 q2.1 = 0 then (
      (ald 3 q4.2 v3 0).bind fun x6 =>
      if w32 (cmpL x6 (w32 q4.1)) = 0 then (
        some q4.2
      ) else (
        none
      )
    ) else (
      some q4.2
    )
  ) else (
    none
  )
set_option maxHeartbeats 4000000 in
set_option maxRecDepth 100000 in
theorem TC24 (hst : l.stackTraces = false) {v1 v2 v3 : Nat} {v4 : Int} {h h' : PH} {b L : Nat} {xs : Nat → Int} {cl sl : Nat} {Q : State → Prop} (hC : Cx g p s m args meth c cL_law 7 RL ret) (hX : LwX g s b L xs) (hR : Rl g ad h s.heap H locs) (hl : lv_has ls 7 [(0, .ref b), (1, .ref (ad v1)), (2, .ref (ad v2)), (3, .ref (ad v3)), (4, .int (Int32.ofInt v4))]) (hcl : cl + 4 ≤ 601024) (hsl : sl + 919 ≤ 7293034) (hF : LC24 xs L v1 v2 v3 v4 h = some h')
    (kk : ∀ (ad' : Nat → Nat) (H : Heap) (locs : List Loc) (ls : Array Slot), (∀ k, k < h.length → ad' k = ad k) → Rl g ad' h' s.heap H locs → lv_has ls 7 [(0, .ref b), (1, .ref (ad' v1)), (2, .ref (ad' v2)), (3, .ref (ad' v3)), (4, .int (Int32.ofInt v4))] → W p l e room_1 s m args below meth c H locs (cl + 4) (sl + 919) Q (F0 m 1728 ls [])) :
    W p l e room_1 s m args below meth c H locs cl sl Q (F0 m 1282 ls []) := by
  unfold LC24 at hF
  refine lv_aload_n hC.1 hC.2.1 dL_law_1282 rfl (lv_at hl 1 rfl) ?_
  refine lv_aload_n hC.1 hC.2.1 dL_law_1283 rfl (lv_at hl 0 rfl) ?_
  refine lv_iload hC.1 hC.2.1 dL_law_1284 (lv_at hl 4 rfl) ?_
  refine pw_iconst hC dL_law_1286 ?_
  refine pw_iadd hC dL_law_1287 ?_
  obtain ⟨x1, e1, hF⟩ := bnd hF
  refine pw_sld hC hX hR e1 dL_law_1288 ?_
  refine lv_aload_n hC.1 hC.2.1 dL_law_1289 rfl (lv_at hl 3 rfl) ?_
  obtain ⟨q2, e2, hF⟩ := bnd hF
  refine pw_call hR (pw_runSW (rest := []) hC hR lwL_179 (CL_run hst e2) rfl hl.1 rfl ⟨(Nat.le_of_ble_eq_true rfl), (Nat.le_of_ble_eq_true rfl)⟩ (Nat.le_of_ble_eq_true rfl) dL_law_1290 ⟨Nat.le_trans (Nat.add_le_add_left (Nat.le_of_ble_eq_true rfl) cl) hcl, Nat.le_trans (Nat.add_le_add_left (Nat.le_of_ble_eq_true rfl) sl) hsl⟩) (fun H locs hR => ?_)
  refine W.widen (k := cl + 4) (n := sl + 919) (Nat.add_le_add_left (Nat.le_of_ble_eq_true rfl) cl) (Nat.add_le_add_left (Nat.le_of_ble_eq_true rfl) sl) ?_
  show W p l e room_1 s m args below meth c H locs (cl + 4) (sl + 919) Q (F0 m 1293 ls [.int (Int32.ofInt q2.1)])
  refine lv_istore (lv' := [(5, .int (Int32.ofInt q2.1)), (0, .ref b), (1, .ref (ad v1)), (2, .ref (ad v2)), (3, .ref (ad v3)), (4, .int (Int32.ofInt v4))]) hC.1 hC.2.1 dL_law_1293 hl (by decide) rfl (fun ls hl => ?_)
  refine lv_aload_n hC.1 hC.2.1 dL_law_1295 rfl (lv_at hl 3 rfl) ?_
  refine lv_aload_n hC.1 hC.2.1 dL_law_1296 rfl (lv_at hl 1 rfl) ?_
  refine lv_iload hC.1 hC.2.1 dL_law_1297 (lv_at hl 5 rfl) ?_
  refine pw_iconst hC dL_law_1299 ?_
  refine pw_iadd hC dL_law_1300 ?_
  obtain ⟨x3, e3, hF⟩ := bnd hF
  refine pw_sld hC hX hR e3 dL_law_1301 ?_
  obtain ⟨q4, e4, hF⟩ := bnd hF
  obtain ⟨fs4, ho4⟩ := OX8_run e4
  refine pw_cVi (rest := []) hC hR lvL_181 ho4 (CX8_run e4) ⟨rfl, rfl⟩ rfl hl.1 rfl ⟨Nat.le_of_ble_eq_true rfl, Nat.le_of_ble_eq_true rfl⟩ (Nat.le_of_ble_eq_true rfl) dL_law_1302 ⟨hcl, hsl⟩ (fun H locs hR => ?_)
  refine lv_istore (lv' := [(6, .int (Int32.ofInt q4.1)), (5, .int (Int32.ofInt q2.1)), (0, .ref b), (1, .ref (ad v1)), (2, .ref (ad v2)), (3, .ref (ad v3)), (4, .int (Int32.ofInt v4))]) hC.1 hC.2.1 dL_law_1305 hl (by decide) rfl (fun ls hl => ?_)
  refine lv_aload_n hC.1 hC.2.1 dL_law_1307 rfl (lv_at hl 4 rfl) ?_
  obtain ⟨x5, e5, hF⟩ := bnd hF
  obtain ⟨fs5, ho5⟩ := OX8_thrown e5
  refine pw_cVi (rest := []) hC hR lvL_101 ho5 (CX8_thrown e5) ⟨rfl, rfl⟩ rfl hl.1 rfl ⟨Nat.le_of_ble_eq_true rfl, Nat.le_of_ble_eq_true rfl⟩ (Nat.le_of_ble_eq_true rfl) dL_law_1308 ⟨hcl, hsl⟩ (fun H locs hR => ?_)
  refine lv_iload hC.1 hC.2.1 dL_law_1311 (lv_at hl 1 rfl) ?_
  refine pw_icmpeq hC 1318 dL_law_1313 (by decide) (fun hc => ?_) (fun hc => ?_)
  · rw [if_pos hc] at hF
    refine lv_iload hC.1 hC.2.1 dL_law_1318 (lv_at hl 1 rfl) ?_
    refine pw_ifne hC 1335 dL_law_1320 (by decide) (fun hc => ?_) (fun hc => ?_)
    · rw [if_neg hc] at hF
      refine pw_goto hC 1728 dL_law_1335 (by decide) ?_
      cases hF
      exact kk _ _ _ _ (fun k hk => rfl) hR (lv_sub hl [2, 3, 4, 5, 6] rfl)
    · rw [if_pos hc] at hF
      refine lv_aload_n hC.1 hC.2.1 dL_law_1323 rfl (lv_at hl 5 rfl) ?_
      refine pw_iconst hC dL_law_1324 ?_
      obtain ⟨x6, e6, hF⟩ := bnd hF
      refine pw_lald hC hR e6 dL_law_1325 ?_
      refine lv_iload hC.1 hC.2.1 dL_law_1326 (lv_at hl 0 rfl) ?_
      refine pw_i2l hC dL_law_1328 ?_
      refine pw_lcmp hC dL_law_1329 ?_
      refine pw_ifeq hC 1335 dL_law_1330 (by decide) (fun hc => ?_) (fun hc => ?_)
      · rw [if_pos hc] at hF
        refine pw_goto hC 1728 dL_law_1335 (by decide) ?_
        cases hF
        exact kk _ _ _ _ (fun k hk => rfl) hR (lv_sub hl [2, 3, 4, 5, 6] rfl)
      · rw [if_neg hc] at hF
        cases hF
  · rw [if_neg hc] at hF
    cases hF
def LC25 (xs : Nat → Int) (L : Nat) (v1 v2 v3 : Nat) (v4 : Int) (h : PH) : Option PH :=
  (sld xs L (v4 + 1)).bind fun x1 =>
  (sld xs L (v4 + 2)).bind fun x2 =>
  (sld xs L (v4 + 3)).bind fun x3 =>
  (FL_submit h v1 x1 x2 x3 v3).bind fun q4 =>
  (sld xs L (v4 + 1)).bind fun x5 =>
  (sld xs L (v4 + 2)).bind fun x6 =>
  (sld xs L (v4 + 3)).bind fun x7 =>
  (FX8_submit q4.2 v2 x5 x6 x7).bind fun q8 =>
  (FX8_thrown q8.2 v2).bind fun x9 =>
  if w32 x9 = w32 q4.1 then (
    if w32 q4.1 = 0 then (
      (ald 3 q8.2 v3 0).bind fun x10 =>
      if w32 (cmpL x10 (w32 q8.1)) = 0 then (
        some q8.2
      ) else (
        none
      )
    ) else (
      some q8.2
    )
  ) else (
    none
  )
set_option maxHeartbeats 4000000 in
set_option maxRecDepth 100000 in
theorem TC25 (hst : l.stackTraces = false) {v1 v2 v3 : Nat} {v4 : Int} {h h' : PH} {b L : Nat} {xs : Nat → Int} {cl sl : Nat} {Q : State → Prop} (hC : Cx g p s m args meth c cL_law 7 RL ret) (hX : LwX g s b L xs) (hR : Rl g ad h s.heap H locs) (hl : lv_has ls 7 [(0, .ref b), (1, .ref (ad v1)), (2, .ref (ad v2)), (3, .ref (ad v3)), (4, .int (Int32.ofInt v4))]) (hcl : cl + 4 ≤ 601024) (hsl : sl + 919 ≤ 7293034) (hF : LC25 xs L v1 v2 v3 v4 h = some h')
    (kk : ∀ (ad' : Nat → Nat) (H : Heap) (locs : List Loc) (ls : Array Slot), (∀ k, k < h.length → ad' k = ad k) → Rl g ad' h' s.heap H locs → lv_has ls 7 [(0, .ref b), (1, .ref (ad' v1)), (2, .ref (ad' v2)), (3, .ref (ad' v3)), (4, .int (Int32.ofInt v4))] → W p l e room_1 s m args below meth c H locs (cl + 4) (sl + 919) Q (F0 m 1728 ls [])) :
    W p l e room_1 s m args below meth c H locs cl sl Q (F0 m 1338 ls []) := by
  unfold LC25 at hF
  refine lv_aload_n hC.1 hC.2.1 dL_law_1338 rfl (lv_at hl 1 rfl) ?_
  refine lv_aload_n hC.1 hC.2.1 dL_law_1339 rfl (lv_at hl 0 rfl) ?_
  refine lv_iload hC.1 hC.2.1 dL_law_1340 (lv_at hl 4 rfl) ?_
  refine pw_iconst hC dL_law_1342 ?_
  refine pw_iadd hC dL_law_1343 ?_
  obtain ⟨x1, e1, hF⟩ := bnd hF
  refine pw_sld hC hX hR e1 dL_law_1344 ?_
  refine lv_aload_n hC.1 hC.2.1 dL_law_1345 rfl (lv_at hl 0 rfl) ?_
  refine lv_iload hC.1 hC.2.1 dL_law_1346 (lv_at hl 4 rfl) ?_
  refine pw_iconst hC dL_law_1348 ?_
  refine pw_iadd hC dL_law_1349 ?_
  obtain ⟨x2, e2, hF⟩ := bnd hF
  refine pw_sld hC hX hR e2 dL_law_1350 ?_
  refine lv_aload_n hC.1 hC.2.1 dL_law_1351 rfl (lv_at hl 0 rfl) ?_
  refine lv_iload hC.1 hC.2.1 dL_law_1352 (lv_at hl 4 rfl) ?_
  refine pw_iconst hC dL_law_1354 ?_
  refine pw_iadd hC dL_law_1355 ?_
  obtain ⟨x3, e3, hF⟩ := bnd hF
  refine pw_sld hC hX hR e3 dL_law_1356 ?_
  refine lv_aload_n hC.1 hC.2.1 dL_law_1357 rfl (lv_at hl 3 rfl) ?_
  obtain ⟨q4, e4, hF⟩ := bnd hF
  refine pw_call hR (pw_runSW (rest := []) hC hR lwL_182 (CL_submit hst e4) rfl hl.1 rfl ⟨(Nat.le_of_ble_eq_true rfl), (Nat.le_of_ble_eq_true rfl)⟩ (Nat.le_of_ble_eq_true rfl) dL_law_1358 ⟨Nat.le_trans (Nat.add_le_add_left (Nat.le_of_ble_eq_true rfl) cl) hcl, Nat.le_trans (Nat.add_le_add_left (Nat.le_of_ble_eq_true rfl) sl) hsl⟩) (fun H locs hR => ?_)
  refine W.widen (k := cl + 4) (n := sl + 919) (Nat.add_le_add_left (Nat.le_of_ble_eq_true rfl) cl) (Nat.add_le_add_left (Nat.le_of_ble_eq_true rfl) sl) ?_
  show W p l e room_1 s m args below meth c H locs (cl + 4) (sl + 919) Q (F0 m 1361 ls [.int (Int32.ofInt q4.1)])
  refine lv_istore (lv' := [(5, .int (Int32.ofInt q4.1)), (0, .ref b), (1, .ref (ad v1)), (2, .ref (ad v2)), (3, .ref (ad v3)), (4, .int (Int32.ofInt v4))]) hC.1 hC.2.1 dL_law_1361 hl (by decide) rfl (fun ls hl => ?_)
  refine lv_aload_n hC.1 hC.2.1 dL_law_1363 rfl (lv_at hl 3 rfl) ?_
  refine lv_aload_n hC.1 hC.2.1 dL_law_1364 rfl (lv_at hl 1 rfl) ?_
  refine lv_iload hC.1 hC.2.1 dL_law_1365 (lv_at hl 5 rfl) ?_
  refine pw_iconst hC dL_law_1367 ?_
  refine pw_iadd hC dL_law_1368 ?_
  obtain ⟨x5, e5, hF⟩ := bnd hF
  refine pw_sld hC hX hR e5 dL_law_1369 ?_
  refine lv_aload_n hC.1 hC.2.1 dL_law_1370 rfl (lv_at hl 1 rfl) ?_
  refine lv_iload hC.1 hC.2.1 dL_law_1371 (lv_at hl 5 rfl) ?_
  refine pw_iconst hC dL_law_1373 ?_
  refine pw_iadd hC dL_law_1374 ?_
  obtain ⟨x6, e6, hF⟩ := bnd hF
  refine pw_sld hC hX hR e6 dL_law_1375 ?_
  refine lv_aload_n hC.1 hC.2.1 dL_law_1376 rfl (lv_at hl 1 rfl) ?_
  refine lv_iload hC.1 hC.2.1 dL_law_1377 (lv_at hl 5 rfl) ?_
  refine pw_iconst hC dL_law_1379 ?_
  refine pw_iadd hC dL_law_1380 ?_
  obtain ⟨x7, e7, hF⟩ := bnd hF
  refine pw_sld hC hX hR e7 dL_law_1381 ?_
  obtain ⟨q8, e8, hF⟩ := bnd hF
  obtain ⟨fs8, ho8⟩ := OX8_submit e8
  refine pw_cVi (rest := []) hC hR lvL_185 ho8 (CX8_submit e8) ⟨rfl, rfl⟩ rfl hl.1 rfl ⟨Nat.le_of_ble_eq_true rfl, Nat.le_of_ble_eq_true rfl⟩ (Nat.le_of_ble_eq_true rfl) dL_law_1382 ⟨hcl, hsl⟩ (fun H locs hR => ?_)
  refine lv_istore (lv' := [(6, .int (Int32.ofInt q8.1)), (5, .int (Int32.ofInt q4.1)), (0, .ref b), (1, .ref (ad v1)), (2, .ref (ad v2)), (3, .ref (ad v3)), (4, .int (Int32.ofInt v4))]) hC.1 hC.2.1 dL_law_1385 hl (by decide) rfl (fun ls hl => ?_)
  refine lv_aload_n hC.1 hC.2.1 dL_law_1387 rfl (lv_at hl 4 rfl) ?_
  obtain ⟨x9, e9, hF⟩ := bnd hF
  obtain ⟨fs9, ho9⟩ := OX8_thrown e9
  refine pw_cVi (rest := []) hC hR lvL_101 ho9 (CX8_thrown e9) ⟨rfl, rfl⟩ rfl hl.1 rfl ⟨Nat.le_of_ble_eq_true rfl, Nat.le_of_ble_eq_true rfl⟩ (Nat.le_of_ble_eq_true rfl) dL_law_1388 ⟨hcl, hsl⟩ (fun H locs hR => ?_)
  refine lv_iload hC.1 hC.2.1 dL_law_1391 (lv_at hl 1 rfl) ?_
  refine pw_icmpeq hC 1398 dL_law_1393 (by decide) (fun hc => ?_) (fun hc => ?_)
  · rw [if_pos hc] at hF
    refine lv_iload hC.1 hC.2.1 dL_law_1398 (lv_at hl 1 rfl) ?_
    refine pw_ifne hC 1415 dL_law_1400 (by decide) (fun hc => ?_) (fun hc => ?_)
    · rw [if_neg hc] at hF
      refine pw_goto hC 1728 dL_law_1415 (by decide) ?_
      cases hF
      exact kk _ _ _ _ (fun k hk => rfl) hR (lv_sub hl [2, 3, 4, 5, 6] rfl)
    · rw [if_pos hc] at hF
      refine lv_aload_n hC.1 hC.2.1 dL_law_1403 rfl (lv_at hl 5 rfl) ?_
      refine pw_iconst hC dL_law_1404 ?_
      obtain ⟨x10, e10, hF⟩ := bnd hF
      refine pw_lald hC hR e10 dL_law_1405 ?_
      refine lv_iload hC.1 hC.2.1 dL_law_1406 (lv_at hl 0 rfl) ?_
      refine pw_i2l hC dL_law_1408 ?_
      refine pw_lcmp hC dL_law_1409 ?_
      refine pw_ifeq hC 1415 dL_law_1410 (by decide) (fun hc => ?_) (fun hc => ?_)
      · rw [if_pos hc] at hF
        refine pw_goto hC 1728 dL_law_1415 (by decide) ?_
        cases hF
        exact kk _ _ _ _ (fun k hk => rfl) hR (lv_sub hl [2, 3, 4, 5, 6] rfl)
      · rw [if_neg hc] at hF
        cases hF
  · rw [if_neg hc] at hF
    cases hF
def LC26 (xs : Nat → Int) (L : Nat) (v1 v2 v3 : Nat) (v4 : Int) (h : PH) : Option PH :=
  (sld xs L (v4 + 1)).bind fun x1 =>
  (sld xs L (v4 + 2)).bind fun x2 =>
  (FL_depend h v1 x1 x2 v3).bind fun q3 =>
  (sld xs L (v4 + 1)).bind fun x4 =>
  (sld xs L (v4 + 2)).bind fun x5 =>
  (FX8_depend q3.2 v2 x4 x5).bind fun q6 =>
  (FX8_thrown q6.2 v2).bind fun x7 =>
  if w32 x7 = w32 q3.1 then (
    if w32 q3.1 = 0 then (
      (ald 3 q6.2 v3 0).bind fun x8 =>
      if w32 (cmpL x8 (w32 q6.1)) = 0 then (
        some q6.2
      ) else (
        none
      )
    ) else (
      some q6.2
    )
  ) else (
    none
  )
set_option maxHeartbeats 4000000 in
set_option maxRecDepth 100000 in
theorem TC26 (hst : l.stackTraces = false) {v1 v2 v3 : Nat} {v4 : Int} {h h' : PH} {b L : Nat} {xs : Nat → Int} {cl sl : Nat} {Q : State → Prop} (hC : Cx g p s m args meth c cL_law 7 RL ret) (hX : LwX g s b L xs) (hR : Rl g ad h s.heap H locs) (hl : lv_has ls 7 [(0, .ref b), (1, .ref (ad v1)), (2, .ref (ad v2)), (3, .ref (ad v3)), (4, .int (Int32.ofInt v4))]) (hcl : cl + 4 ≤ 601024) (hsl : sl + 919 ≤ 7293034) (hF : LC26 xs L v1 v2 v3 v4 h = some h')
    (kk : ∀ (ad' : Nat → Nat) (H : Heap) (locs : List Loc) (ls : Array Slot), (∀ k, k < h.length → ad' k = ad k) → Rl g ad' h' s.heap H locs → lv_has ls 7 [(0, .ref b), (1, .ref (ad' v1)), (2, .ref (ad' v2)), (3, .ref (ad' v3)), (4, .int (Int32.ofInt v4))] → W p l e room_1 s m args below meth c H locs (cl + 4) (sl + 919) Q (F0 m 1728 ls [])) :
    W p l e room_1 s m args below meth c H locs cl sl Q (F0 m 1418 ls []) := by
  unfold LC26 at hF
  refine lv_aload_n hC.1 hC.2.1 dL_law_1418 rfl (lv_at hl 1 rfl) ?_
  refine lv_aload_n hC.1 hC.2.1 dL_law_1419 rfl (lv_at hl 0 rfl) ?_
  refine lv_iload hC.1 hC.2.1 dL_law_1420 (lv_at hl 4 rfl) ?_
  refine pw_iconst hC dL_law_1422 ?_
  refine pw_iadd hC dL_law_1423 ?_
  obtain ⟨x1, e1, hF⟩ := bnd hF
  refine pw_sld hC hX hR e1 dL_law_1424 ?_
  refine lv_aload_n hC.1 hC.2.1 dL_law_1425 rfl (lv_at hl 0 rfl) ?_
  refine lv_iload hC.1 hC.2.1 dL_law_1426 (lv_at hl 4 rfl) ?_
  refine pw_iconst hC dL_law_1428 ?_
  refine pw_iadd hC dL_law_1429 ?_
  obtain ⟨x2, e2, hF⟩ := bnd hF
  refine pw_sld hC hX hR e2 dL_law_1430 ?_
  refine lv_aload_n hC.1 hC.2.1 dL_law_1431 rfl (lv_at hl 3 rfl) ?_
  obtain ⟨q3, e3, hF⟩ := bnd hF
  refine pw_call hR (pw_runSW (rest := []) hC hR lwL_186 (CL_depend hst e3) rfl hl.1 rfl ⟨(Nat.le_of_ble_eq_true rfl), (Nat.le_of_ble_eq_true rfl)⟩ (Nat.le_of_ble_eq_true rfl) dL_law_1432 ⟨Nat.le_trans (Nat.add_le_add_left (Nat.le_of_ble_eq_true rfl) cl) hcl, Nat.le_trans (Nat.add_le_add_left (Nat.le_of_ble_eq_true rfl) sl) hsl⟩) (fun H locs hR => ?_)
  refine W.widen (k := cl + 4) (n := sl + 919) (Nat.add_le_add_left (Nat.le_of_ble_eq_true rfl) cl) (Nat.add_le_add_left (Nat.le_of_ble_eq_true rfl) sl) ?_
  show W p l e room_1 s m args below meth c H locs (cl + 4) (sl + 919) Q (F0 m 1435 ls [.int (Int32.ofInt q3.1)])
  refine lv_istore (lv' := [(5, .int (Int32.ofInt q3.1)), (0, .ref b), (1, .ref (ad v1)), (2, .ref (ad v2)), (3, .ref (ad v3)), (4, .int (Int32.ofInt v4))]) hC.1 hC.2.1 dL_law_1435 hl (by decide) rfl (fun ls hl => ?_)
  refine lv_aload_n hC.1 hC.2.1 dL_law_1437 rfl (lv_at hl 3 rfl) ?_
  refine lv_aload_n hC.1 hC.2.1 dL_law_1438 rfl (lv_at hl 1 rfl) ?_
  refine lv_iload hC.1 hC.2.1 dL_law_1439 (lv_at hl 5 rfl) ?_
  refine pw_iconst hC dL_law_1441 ?_
  refine pw_iadd hC dL_law_1442 ?_
  obtain ⟨x4, e4, hF⟩ := bnd hF
  refine pw_sld hC hX hR e4 dL_law_1443 ?_
  refine lv_aload_n hC.1 hC.2.1 dL_law_1444 rfl (lv_at hl 1 rfl) ?_
  refine lv_iload hC.1 hC.2.1 dL_law_1445 (lv_at hl 5 rfl) ?_
  refine pw_iconst hC dL_law_1447 ?_
  refine pw_iadd hC dL_law_1448 ?_
  obtain ⟨x5, e5, hF⟩ := bnd hF
  refine pw_sld hC hX hR e5 dL_law_1449 ?_
  obtain ⟨q6, e6, hF⟩ := bnd hF
  obtain ⟨fs6, ho6⟩ := OX8_depend e6
  refine pw_cVi (rest := []) hC hR lvL_188 ho6 (CX8_depend e6) ⟨rfl, rfl⟩ rfl hl.1 rfl ⟨Nat.le_of_ble_eq_true rfl, Nat.le_of_ble_eq_true rfl⟩ (Nat.le_of_ble_eq_true rfl) dL_law_1450 ⟨hcl, hsl⟩ (fun H locs hR => ?_)
  refine lv_istore (lv' := [(6, .int (Int32.ofInt q6.1)), (5, .int (Int32.ofInt q3.1)), (0, .ref b), (1, .ref (ad v1)), (2, .ref (ad v2)), (3, .ref (ad v3)), (4, .int (Int32.ofInt v4))]) hC.1 hC.2.1 dL_law_1453 hl (by decide) rfl (fun ls hl => ?_)
  refine lv_aload_n hC.1 hC.2.1 dL_law_1455 rfl (lv_at hl 4 rfl) ?_
  obtain ⟨x7, e7, hF⟩ := bnd hF
  obtain ⟨fs7, ho7⟩ := OX8_thrown e7
  refine pw_cVi (rest := []) hC hR lvL_101 ho7 (CX8_thrown e7) ⟨rfl, rfl⟩ rfl hl.1 rfl ⟨Nat.le_of_ble_eq_true rfl, Nat.le_of_ble_eq_true rfl⟩ (Nat.le_of_ble_eq_true rfl) dL_law_1456 ⟨hcl, hsl⟩ (fun H locs hR => ?_)
  refine lv_iload hC.1 hC.2.1 dL_law_1459 (lv_at hl 1 rfl) ?_
  refine pw_icmpeq hC 1466 dL_law_1461 (by decide) (fun hc => ?_) (fun hc => ?_)
  · rw [if_pos hc] at hF
    refine lv_iload hC.1 hC.2.1 dL_law_1466 (lv_at hl 1 rfl) ?_
    refine pw_ifne hC 1483 dL_law_1468 (by decide) (fun hc => ?_) (fun hc => ?_)
    · rw [if_neg hc] at hF
      refine pw_goto hC 1728 dL_law_1483 (by decide) ?_
      cases hF
      exact kk _ _ _ _ (fun k hk => rfl) hR (lv_sub hl [2, 3, 4, 5, 6] rfl)
    · rw [if_pos hc] at hF
      refine lv_aload_n hC.1 hC.2.1 dL_law_1471 rfl (lv_at hl 5 rfl) ?_
      refine pw_iconst hC dL_law_1472 ?_
      obtain ⟨x8, e8, hF⟩ := bnd hF
      refine pw_lald hC hR e8 dL_law_1473 ?_
      refine lv_iload hC.1 hC.2.1 dL_law_1474 (lv_at hl 0 rfl) ?_
      refine pw_i2l hC dL_law_1476 ?_
      refine pw_lcmp hC dL_law_1477 ?_
      refine pw_ifeq hC 1483 dL_law_1478 (by decide) (fun hc => ?_) (fun hc => ?_)
      · rw [if_pos hc] at hF
        refine pw_goto hC 1728 dL_law_1483 (by decide) ?_
        cases hF
        exact kk _ _ _ _ (fun k hk => rfl) hR (lv_sub hl [2, 3, 4, 5, 6] rfl)
      · rw [if_neg hc] at hF
        cases hF
  · rw [if_neg hc] at hF
    cases hF
def LC27 (xs : Nat → Int) (L : Nat) (v1 v2 v3 : Nat) (v4 : Int) (h : PH) : Option PH :=
  (sld xs L (v4 + 1)).bind fun x1 =>
  (FL_cancel h v1 x1 v3).bind fun q2 =>
  (sld xs L (v4 + 1)).bind fun x3 =>
  (FX8_cancel q2.2 v2 x3).bind fun q4 =>
  (FX8_thrown q4.2 v2).bind fun x5 =>
  if w32 x5 = w32 q2.1 then (
    if w32 q2.1 = 0 then (
      (ald 3 q4.2 v3 0).bind fun x6 =>
      if w32 (cmpL x6 (w32 q4.1)) = 0 then (
        some q4.2
      ) else (
        none
      )
    ) else (
      some q4.2
    )
  ) else (
    none
  )
set_option maxHeartbeats 4000000 in
set_option maxRecDepth 100000 in
theorem TC27 (hst : l.stackTraces = false) {v1 v2 v3 : Nat} {v4 : Int} {h h' : PH} {b L : Nat} {xs : Nat → Int} {cl sl : Nat} {Q : State → Prop} (hC : Cx g p s m args meth c cL_law 7 RL ret) (hX : LwX g s b L xs) (hR : Rl g ad h s.heap H locs) (hl : lv_has ls 7 [(0, .ref b), (1, .ref (ad v1)), (2, .ref (ad v2)), (3, .ref (ad v3)), (4, .int (Int32.ofInt v4))]) (hcl : cl + 4 ≤ 601024) (hsl : sl + 919 ≤ 7293034) (hF : LC27 xs L v1 v2 v3 v4 h = some h')
    (kk : ∀ (ad' : Nat → Nat) (H : Heap) (locs : List Loc) (ls : Array Slot), (∀ k, k < h.length → ad' k = ad k) → Rl g ad' h' s.heap H locs → lv_has ls 7 [(0, .ref b), (1, .ref (ad' v1)), (2, .ref (ad' v2)), (3, .ref (ad' v3)), (4, .int (Int32.ofInt v4))] → W p l e room_1 s m args below meth c H locs (cl + 4) (sl + 919) Q (F0 m 1728 ls [])) :
    W p l e room_1 s m args below meth c H locs cl sl Q (F0 m 1486 ls []) := by
  unfold LC27 at hF
  refine lv_aload_n hC.1 hC.2.1 dL_law_1486 rfl (lv_at hl 1 rfl) ?_
  refine lv_aload_n hC.1 hC.2.1 dL_law_1487 rfl (lv_at hl 0 rfl) ?_
  refine lv_iload hC.1 hC.2.1 dL_law_1488 (lv_at hl 4 rfl) ?_
  refine pw_iconst hC dL_law_1490 ?_
  refine pw_iadd hC dL_law_1491 ?_
  obtain ⟨x1, e1, hF⟩ := bnd hF
  refine pw_sld hC hX hR e1 dL_law_1492 ?_
  refine lv_aload_n hC.1 hC.2.1 dL_law_1493 rfl (lv_at hl 3 rfl) ?_
  obtain ⟨q2, e2, hF⟩ := bnd hF
  refine pw_call hR (pw_runSW (rest := []) hC hR lwL_189 (CL_cancel hst e2) rfl hl.1 rfl ⟨(Nat.le_of_ble_eq_true rfl), (Nat.le_of_ble_eq_true rfl)⟩ (Nat.le_of_ble_eq_true rfl) dL_law_1494 ⟨Nat.le_trans (Nat.add_le_add_left (Nat.le_of_ble_eq_true rfl) cl) hcl, Nat.le_trans (Nat.add_le_add_left (Nat.le_of_ble_eq_true rfl) sl) hsl⟩) (fun H locs hR => ?_)
  refine W.widen (k := cl + 4) (n := sl + 919) (Nat.add_le_add_left (Nat.le_of_ble_eq_true rfl) cl) (Nat.add_le_add_left (Nat.le_of_ble_eq_true rfl) sl) ?_
  show W p l e room_1 s m args below meth c H locs (cl + 4) (sl + 919) Q (F0 m 1497 ls [.int (Int32.ofInt q2.1)])
  refine lv_istore (lv' := [(5, .int (Int32.ofInt q2.1)), (0, .ref b), (1, .ref (ad v1)), (2, .ref (ad v2)), (3, .ref (ad v3)), (4, .int (Int32.ofInt v4))]) hC.1 hC.2.1 dL_law_1497 hl (by decide) rfl (fun ls hl => ?_)
  refine lv_aload_n hC.1 hC.2.1 dL_law_1499 rfl (lv_at hl 3 rfl) ?_
  refine lv_aload_n hC.1 hC.2.1 dL_law_1500 rfl (lv_at hl 1 rfl) ?_
  refine lv_iload hC.1 hC.2.1 dL_law_1501 (lv_at hl 5 rfl) ?_
  refine pw_iconst hC dL_law_1503 ?_
  refine pw_iadd hC dL_law_1504 ?_
  obtain ⟨x3, e3, hF⟩ := bnd hF
  refine pw_sld hC hX hR e3 dL_law_1505 ?_
  obtain ⟨q4, e4, hF⟩ := bnd hF
  obtain ⟨fs4, ho4⟩ := OX8_cancel e4
  refine pw_cVi (rest := []) hC hR lvL_191 ho4 (CX8_cancel e4) ⟨rfl, rfl⟩ rfl hl.1 rfl ⟨Nat.le_of_ble_eq_true rfl, Nat.le_of_ble_eq_true rfl⟩ (Nat.le_of_ble_eq_true rfl) dL_law_1506 ⟨hcl, hsl⟩ (fun H locs hR => ?_)
  refine lv_istore (lv' := [(6, .int (Int32.ofInt q4.1)), (5, .int (Int32.ofInt q2.1)), (0, .ref b), (1, .ref (ad v1)), (2, .ref (ad v2)), (3, .ref (ad v3)), (4, .int (Int32.ofInt v4))]) hC.1 hC.2.1 dL_law_1509 hl (by decide) rfl (fun ls hl => ?_)
  refine lv_aload_n hC.1 hC.2.1 dL_law_1511 rfl (lv_at hl 4 rfl) ?_
  obtain ⟨x5, e5, hF⟩ := bnd hF
  obtain ⟨fs5, ho5⟩ := OX8_thrown e5
  refine pw_cVi (rest := []) hC hR lvL_101 ho5 (CX8_thrown e5) ⟨rfl, rfl⟩ rfl hl.1 rfl ⟨Nat.le_of_ble_eq_true rfl, Nat.le_of_ble_eq_true rfl⟩ (Nat.le_of_ble_eq_true rfl) dL_law_1512 ⟨hcl, hsl⟩ (fun H locs hR => ?_)
  refine lv_iload hC.1 hC.2.1 dL_law_1515 (lv_at hl 1 rfl) ?_
  refine pw_icmpeq hC 1522 dL_law_1517 (by decide) (fun hc => ?_) (fun hc => ?_)
  · rw [if_pos hc] at hF
    refine lv_iload hC.1 hC.2.1 dL_law_1522 (lv_at hl 1 rfl) ?_
    refine pw_ifne hC 1539 dL_law_1524 (by decide) (fun hc => ?_) (fun hc => ?_)
    · rw [if_neg hc] at hF
      refine pw_goto hC 1728 dL_law_1539 (by decide) ?_
      cases hF
      exact kk _ _ _ _ (fun k hk => rfl) hR (lv_sub hl [2, 3, 4, 5, 6] rfl)
    · rw [if_pos hc] at hF
      refine lv_aload_n hC.1 hC.2.1 dL_law_1527 rfl (lv_at hl 5 rfl) ?_
      refine pw_iconst hC dL_law_1528 ?_
      obtain ⟨x6, e6, hF⟩ := bnd hF
      refine pw_lald hC hR e6 dL_law_1529 ?_
      refine lv_iload hC.1 hC.2.1 dL_law_1530 (lv_at hl 0 rfl) ?_
      refine pw_i2l hC dL_law_1532 ?_
      refine pw_lcmp hC dL_law_1533 ?_
      refine pw_ifeq hC 1539 dL_law_1534 (by decide) (fun hc => ?_) (fun hc => ?_)
      · rw [if_pos hc] at hF
        refine pw_goto hC 1728 dL_law_1539 (by decide) ?_
        cases hF
        exact kk _ _ _ _ (fun k hk => rfl) hR (lv_sub hl [2, 3, 4, 5, 6] rfl)
      · rw [if_neg hc] at hF
        cases hF
  · rw [if_neg hc] at hF
    cases hF
def LC28 (xs : Nat → Int) (L : Nat) (v1 v2 v3 : Nat) (v4 : Int) (h : PH) : Option PH :=
  (sld xs L (v4 + 1)).bind fun x1 =>
  (sld xs L (v4 + 2)).bind fun x2 =>
  (FL_setPriority h v1 x1 x2 v3).bind fun q3 =>
  (sld xs L (v4 + 1)).bind fun x4 =>
  (sld xs L (v4 + 2)).bind fun x5 =>
  (FX8_setPriority q3.2 v2 x4 x5).bind fun q6 =>
  (FX8_thrown q6.2 v2).bind fun x7 =>
  if w32 x7 = w32 q3.1 then (
    if w32 q3.1 = 0 then (
      (ald 3 q6.2 v3 0).bind fun x8 =>
      if w32 (cmpL x8 (w32 q6.1)) = 0 then (
        some q6.2
      ) else (
        none
      )
    ) else (
      some q6.2
    )
  ) else (
    none
  )
set_option maxHeartbeats 4000000 in
set_option maxRecDepth 100000 in
theorem TC28 (hst : l.stackTraces = false) {v1 v2 v3 : Nat} {v4 : Int} {h h' : PH} {b L : Nat} {xs : Nat → Int} {cl sl : Nat} {Q : State → Prop} (hC : Cx g p s m args meth c cL_law 7 RL ret) (hX : LwX g s b L xs) (hR : Rl g ad h s.heap H locs) (hl : lv_has ls 7 [(0, .ref b), (1, .ref (ad v1)), (2, .ref (ad v2)), (3, .ref (ad v3)), (4, .int (Int32.ofInt v4))]) (hcl : cl + 4 ≤ 601024) (hsl : sl + 919 ≤ 7293034) (hF : LC28 xs L v1 v2 v3 v4 h = some h')
    (kk : ∀ (ad' : Nat → Nat) (H : Heap) (locs : List Loc) (ls : Array Slot), (∀ k, k < h.length → ad' k = ad k) → Rl g ad' h' s.heap H locs → lv_has ls 7 [(0, .ref b), (1, .ref (ad' v1)), (2, .ref (ad' v2)), (3, .ref (ad' v3)), (4, .int (Int32.ofInt v4))] → W p l e room_1 s m args below meth c H locs (cl + 4) (sl + 919) Q (F0 m 1728 ls [])) :
    W p l e room_1 s m args below meth c H locs cl sl Q (F0 m 1542 ls []) := by
  unfold LC28 at hF
  refine lv_aload_n hC.1 hC.2.1 dL_law_1542 rfl (lv_at hl 1 rfl) ?_
  refine lv_aload_n hC.1 hC.2.1 dL_law_1543 rfl (lv_at hl 0 rfl) ?_
  refine lv_iload hC.1 hC.2.1 dL_law_1544 (lv_at hl 4 rfl) ?_
  refine pw_iconst hC dL_law_1546 ?_
  refine pw_iadd hC dL_law_1547 ?_
  obtain ⟨x1, e1, hF⟩ := bnd hF
  refine pw_sld hC hX hR e1 dL_law_1548 ?_
  refine lv_aload_n hC.1 hC.2.1 dL_law_1549 rfl (lv_at hl 0 rfl) ?_
  refine lv_iload hC.1 hC.2.1 dL_law_1550 (lv_at hl 4 rfl) ?_
  refine pw_iconst hC dL_law_1552 ?_
  refine pw_iadd hC dL_law_1553 ?_
  obtain ⟨x2, e2, hF⟩ := bnd hF
  refine pw_sld hC hX hR e2 dL_law_1554 ?_
  refine lv_aload_n hC.1 hC.2.1 dL_law_1555 rfl (lv_at hl 3 rfl) ?_
  obtain ⟨q3, e3, hF⟩ := bnd hF
  refine pw_call hR (pw_runSW (rest := []) hC hR lwL_192 (CL_setPriority hst e3) rfl hl.1 rfl ⟨(Nat.le_of_ble_eq_true rfl), (Nat.le_of_ble_eq_true rfl)⟩ (Nat.le_of_ble_eq_true rfl) dL_law_1556 ⟨Nat.le_trans (Nat.add_le_add_left (Nat.le_of_ble_eq_true rfl) cl) hcl, Nat.le_trans (Nat.add_le_add_left (Nat.le_of_ble_eq_true rfl) sl) hsl⟩) (fun H locs hR => ?_)
  refine W.widen (k := cl + 4) (n := sl + 919) (Nat.add_le_add_left (Nat.le_of_ble_eq_true rfl) cl) (Nat.add_le_add_left (Nat.le_of_ble_eq_true rfl) sl) ?_
  show W p l e room_1 s m args below meth c H locs (cl + 4) (sl + 919) Q (F0 m 1559 ls [.int (Int32.ofInt q3.1)])
  refine lv_istore (lv' := [(5, .int (Int32.ofInt q3.1)), (0, .ref b), (1, .ref (ad v1)), (2, .ref (ad v2)), (3, .ref (ad v3)), (4, .int (Int32.ofInt v4))]) hC.1 hC.2.1 dL_law_1559 hl (by decide) rfl (fun ls hl => ?_)
  refine lv_aload_n hC.1 hC.2.1 dL_law_1561 rfl (lv_at hl 3 rfl) ?_
  refine lv_aload_n hC.1 hC.2.1 dL_law_1562 rfl (lv_at hl 1 rfl) ?_
  refine lv_iload hC.1 hC.2.1 dL_law_1563 (lv_at hl 5 rfl) ?_
  refine pw_iconst hC dL_law_1565 ?_
  refine pw_iadd hC dL_law_1566 ?_
  obtain ⟨x4, e4, hF⟩ := bnd hF
  refine pw_sld hC hX hR e4 dL_law_1567 ?_
  refine lv_aload_n hC.1 hC.2.1 dL_law_1568 rfl (lv_at hl 1 rfl) ?_
  refine lv_iload hC.1 hC.2.1 dL_law_1569 (lv_at hl 5 rfl) ?_
  refine pw_iconst hC dL_law_1571 ?_
  refine pw_iadd hC dL_law_1572 ?_
  obtain ⟨x5, e5, hF⟩ := bnd hF
  refine pw_sld hC hX hR e5 dL_law_1573 ?_
  obtain ⟨q6, e6, hF⟩ := bnd hF
  obtain ⟨fs6, ho6⟩ := OX8_setPriority e6
  refine pw_cVi (rest := []) hC hR lvL_194 ho6 (CX8_setPriority e6) ⟨rfl, rfl⟩ rfl hl.1 rfl ⟨Nat.le_of_ble_eq_true rfl, Nat.le_of_ble_eq_true rfl⟩ (Nat.le_of_ble_eq_true rfl) dL_law_1574 ⟨hcl, hsl⟩ (fun H locs hR => ?_)
  refine lv_istore (lv' := [(6, .int (Int32.ofInt q6.1)), (5, .int (Int32.ofInt q3.1)), (0, .ref b), (1, .ref (ad v1)), (2, .ref (ad v2)), (3, .ref (ad v3)), (4, .int (Int32.ofInt v4))]) hC.1 hC.2.1 dL_law_1577 hl (by decide) rfl (fun ls hl => ?_)
  refine lv_aload_n hC.1 hC.2.1 dL_law_1579 rfl (lv_at hl 4 rfl) ?_
  obtain ⟨x7, e7, hF⟩ := bnd hF
  obtain ⟨fs7, ho7⟩ := OX8_thrown e7
  refine pw_cVi (rest := []) hC hR lvL_101 ho7 (CX8_thrown e7) ⟨rfl, rfl⟩ rfl hl.1 rfl ⟨Nat.le_of_ble_eq_true rfl, Nat.le_of_ble_eq_true rfl⟩ (Nat.le_of_ble_eq_true rfl) dL_law_1580 ⟨hcl, hsl⟩ (fun H locs hR => ?_)
  refine lv_iload hC.1 hC.2.1 dL_law_1583 (lv_at hl 1 rfl) ?_
  refine pw_icmpeq hC 1590 dL_law_1585 (by decide) (fun hc => ?_) (fun hc => ?_)
  · rw [if_pos hc] at hF
    refine lv_iload hC.1 hC.2.1 dL_law_1590 (lv_at hl 1 rfl) ?_
    refine pw_ifne hC 1607 dL_law_1592 (by decide) (fun hc => ?_) (fun hc => ?_)
    · rw [if_neg hc] at hF
      refine pw_goto hC 1728 dL_law_1607 (by decide) ?_
      cases hF
      exact kk _ _ _ _ (fun k hk => rfl) hR (lv_sub hl [2, 3, 4, 5, 6] rfl)
    · rw [if_pos hc] at hF
      refine lv_aload_n hC.1 hC.2.1 dL_law_1595 rfl (lv_at hl 5 rfl) ?_
      refine pw_iconst hC dL_law_1596 ?_
      obtain ⟨x8, e8, hF⟩ := bnd hF
      refine pw_lald hC hR e8 dL_law_1597 ?_
      refine lv_iload hC.1 hC.2.1 dL_law_1598 (lv_at hl 0 rfl) ?_
      refine pw_i2l hC dL_law_1600 ?_
      refine pw_lcmp hC dL_law_1601 ?_
      refine pw_ifeq hC 1607 dL_law_1602 (by decide) (fun hc => ?_) (fun hc => ?_)
      · rw [if_pos hc] at hF
        refine pw_goto hC 1728 dL_law_1607 (by decide) ?_
        cases hF
        exact kk _ _ _ _ (fun k hk => rfl) hR (lv_sub hl [2, 3, 4, 5, 6] rfl)
      · rw [if_neg hc] at hF
        cases hF
  · rw [if_neg hc] at hF
    cases hF
def LC29 (xs : Nat → Int) (L : Nat) (v1 v2 v3 : Nat) (v4 : Int) (h : PH) : Option PH :=
  (sld xs L (v4 + 1)).bind fun x1 =>
  (sld xs L (v4 + 2)).bind fun x2 =>
  if w32 x2 = 0 then (
    (FL_pause h v1 x1 0 v3).bind fun q3 =>
    (sld xs L (v4 + 1)).bind fun x4 =>
    (sld xs L (v4 + 2)).bind fun x5 =>
    if w32 x5 = 0 then (
      (FX8_pause q3.2 v2 x4 0).bind fun q6 =>
      (FX8_thrown q6.2 v2).bind fun x7 =>
      if w32 x7 = w32 q3.1 then (
        if w32 q3.1 = 0 then (
          (ald 3 q6.2 v3 0).bind fun x8 =>
          if w32 q6.1 = 0 then (
            if w32 (cmpL x8 0) = 0 then (
              some q6.2
            ) else (
              none
            )
          ) else (
            if w32 (cmpL x8 1) = 0 then (
              some q6.2
            ) else (
              none
            )
          )
        ) else (
          some q6.2
        )
      ) else (
        none
      )
    ) else (
      (FX8_pause q3.2 v2 x4 1).bind fun q9 =>
      (FX8_thrown q9.2 v2).bind fun x10 =>
      if w32 x10 = w32 q3.1 then (
        if w32 q3.1 = 0 then (
          (ald 3 q9.2 v3 0).bind fun x11 =>
          if w32 q9.1 = 0 then (
            if w32 (cmpL x11 0) = 0 then (
              some q9.2
            ) else (
              none
            )
          ) else (
            if w32 (cmpL x11 1) = 0 then (
              some q9.2
            ) else (
              none
            )
          )
        ) else (
          some q9.2
        )
      ) else (
        none
      )
    )
  ) else (
    (FL_pause h v1 x1 1 v3).bind fun q12 =>
    (sld xs L (v4 + 1)).bind fun x13 =>
    (sld xs L (v4 + 2)).bind fun x14 =>
    if w32 x14 = 0 then (
      (FX8_pause q12.2 v2 x13 0).bind fun q15 =>
      (FX8_thrown q15.2 v2).bind fun x16 =>
      if w32 x16 = w32 q12.1 then (
        if w32 q12.1 = 0 then (
          (ald 3 q15.2 v3 0).bind fun x17 =>
          if w32 q15.1 = 0 then (
            if w32 (cmpL x17 0) = 0 then (
              some q15.2
            ) else (
              none
            )
          ) else (
            if w32 (cmpL x17 1) = 0 then (
              some q15.2
            ) else (
              none
            )
          )
        ) else (
          some q15.2
        )
      ) else (
        none
      )
    ) else (
      (FX8_pause q12.2 v2 x13 1).bind fun q18 =>
      (FX8_thrown q18.2 v2).bind fun x19 =>
      if w32 x19 = w32 q12.1 then (
        if w32 q12.1 = 0 then (
          (ald 3 q18.2 v3 0).bind fun x20 =>
          if w32 q18.1 = 0 then (
            if w32 (cmpL x20 0) = 0 then (
              some q18.2
            ) else (
              none
            )
          ) else (
            if w32 (cmpL x20 1) = 0 then (
              some q18.2
            ) else (
              none
            )
          )
        ) else (
          some q18.2
        )
      ) else (
        none
      )
    )
  )
set_option maxHeartbeats 4000000 in
set_option maxRecDepth 100000 in
theorem TC29 (hst : l.stackTraces = false) {v1 v2 v3 : Nat} {v4 : Int} {h h' : PH} {b L : Nat} {xs : Nat → Int} {cl sl : Nat} {Q : State → Prop} (hC : Cx g p s m args meth c cL_law 7 RL ret) (hX : LwX g s b L xs) (hR : Rl g ad h s.heap H locs) (hl : lv_has ls 7 [(0, .ref b), (1, .ref (ad v1)), (2, .ref (ad v2)), (3, .ref (ad v3)), (4, .int (Int32.ofInt v4))]) (hcl : cl + 4 ≤ 601024) (hsl : sl + 919 ≤ 7293034) (hF : LC29 xs L v1 v2 v3 v4 h = some h')
    (kk : ∀ (ad' : Nat → Nat) (H : Heap) (locs : List Loc) (ls : Array Slot), (∀ k, k < h.length → ad' k = ad k) → Rl g ad' h' s.heap H locs → lv_has ls 7 [(0, .ref b), (1, .ref (ad' v1)), (2, .ref (ad' v2)), (3, .ref (ad' v3)), (4, .int (Int32.ofInt v4))] → W p l e room_1 s m args below meth c H locs (cl + 4) (sl + 919) Q (F0 m 1728 ls [])) :
    W p l e room_1 s m args below meth c H locs cl sl Q (F0 m 1610 ls []) := by
  unfold LC29 at hF
  refine lv_aload_n hC.1 hC.2.1 dL_law_1610 rfl (lv_at hl 1 rfl) ?_
  refine lv_aload_n hC.1 hC.2.1 dL_law_1611 rfl (lv_at hl 0 rfl) ?_
  refine lv_iload hC.1 hC.2.1 dL_law_1612 (lv_at hl 4 rfl) ?_
  refine pw_iconst hC dL_law_1614 ?_
  refine pw_iadd hC dL_law_1615 ?_
  obtain ⟨x1, e1, hF⟩ := bnd hF
  refine pw_sld hC hX hR e1 dL_law_1616 ?_
  refine lv_aload_n hC.1 hC.2.1 dL_law_1617 rfl (lv_at hl 0 rfl) ?_
  refine lv_iload hC.1 hC.2.1 dL_law_1618 (lv_at hl 4 rfl) ?_
  refine pw_iconst hC dL_law_1620 ?_
  refine pw_iadd hC dL_law_1621 ?_
  obtain ⟨x2, e2, hF⟩ := bnd hF
  refine pw_sld hC hX hR e2 dL_law_1622 ?_
  refine pw_ifeq hC 1630 dL_law_1623 (by decide) (fun hc => ?_) (fun hc => ?_)
  · rw [if_pos hc] at hF
    refine pw_iconst hC dL_law_1630 ?_
    refine lv_aload_n hC.1 hC.2.1 dL_law_1631 rfl (lv_at hl 3 rfl) ?_
    obtain ⟨q3, e3, hF⟩ := bnd hF
    refine pw_call hR (pw_runSW (rest := []) hC hR lwL_195 (CL_pause hst e3) rfl hl.1 rfl ⟨(Nat.le_of_ble_eq_true rfl), (Nat.le_of_ble_eq_true rfl)⟩ (Nat.le_of_ble_eq_true rfl) dL_law_1632 ⟨Nat.le_trans (Nat.add_le_add_left (Nat.le_of_ble_eq_true rfl) cl) hcl, Nat.le_trans (Nat.add_le_add_left (Nat.le_of_ble_eq_true rfl) sl) hsl⟩) (fun H locs hR => ?_)
    refine W.widen (k := cl + 4) (n := sl + 919) (Nat.add_le_add_left (Nat.le_of_ble_eq_true rfl) cl) (Nat.add_le_add_left (Nat.le_of_ble_eq_true rfl) sl) ?_
    show W p l e room_1 s m args below meth c H locs (cl + 4) (sl + 919) Q (F0 m 1635 ls [.int (Int32.ofInt q3.1)])
    refine lv_istore (lv' := [(5, .int (Int32.ofInt q3.1)), (0, .ref b), (1, .ref (ad v1)), (2, .ref (ad v2)), (3, .ref (ad v3)), (4, .int (Int32.ofInt v4))]) hC.1 hC.2.1 dL_law_1635 hl (by decide) rfl (fun ls hl => ?_)
    refine lv_aload_n hC.1 hC.2.1 dL_law_1637 rfl (lv_at hl 3 rfl) ?_
    refine lv_aload_n hC.1 hC.2.1 dL_law_1638 rfl (lv_at hl 1 rfl) ?_
    refine lv_iload hC.1 hC.2.1 dL_law_1639 (lv_at hl 5 rfl) ?_
    refine pw_iconst hC dL_law_1641 ?_
    refine pw_iadd hC dL_law_1642 ?_
    obtain ⟨x4, e4, hF⟩ := bnd hF
    refine pw_sld hC hX hR e4 dL_law_1643 ?_
    refine lv_aload_n hC.1 hC.2.1 dL_law_1644 rfl (lv_at hl 1 rfl) ?_
    refine lv_iload hC.1 hC.2.1 dL_law_1645 (lv_at hl 5 rfl) ?_
    refine pw_iconst hC dL_law_1647 ?_
    refine pw_iadd hC dL_law_1648 ?_
    obtain ⟨x5, e5, hF⟩ := bnd hF
    refine pw_sld hC hX hR e5 dL_law_1649 ?_
    refine pw_ifeq hC 1657 dL_law_1650 (by decide) (fun hc => ?_) (fun hc => ?_)
    · rw [if_pos hc] at hF
      refine pw_iconst hC dL_law_1657 ?_
      obtain ⟨q6, e6, hF⟩ := bnd hF
      obtain ⟨fs6, ho6⟩ := OX8_pause e6
      refine pw_cVi (rest := []) hC hR lvL_198 ho6 (CX8_pause e6) ⟨rfl, rfl⟩ rfl hl.1 rfl ⟨Nat.le_of_ble_eq_true rfl, Nat.le_of_ble_eq_true rfl⟩ (Nat.le_of_ble_eq_true rfl) dL_law_1658 ⟨hcl, hsl⟩ (fun H locs hR => ?_)
      refine lv_istore (lv' := [(6, .int (Int32.ofInt q6.1)), (5, .int (Int32.ofInt q3.1)), (0, .ref b), (1, .ref (ad v1)), (2, .ref (ad v2)), (3, .ref (ad v3)), (4, .int (Int32.ofInt v4))]) hC.1 hC.2.1 dL_law_1661 hl (by decide) rfl (fun ls hl => ?_)
      refine lv_aload_n hC.1 hC.2.1 dL_law_1663 rfl (lv_at hl 4 rfl) ?_
      obtain ⟨x7, e7, hF⟩ := bnd hF
      obtain ⟨fs7, ho7⟩ := OX8_thrown e7
      refine pw_cVi (rest := []) hC hR lvL_101 ho7 (CX8_thrown e7) ⟨rfl, rfl⟩ rfl hl.1 rfl ⟨Nat.le_of_ble_eq_true rfl, Nat.le_of_ble_eq_true rfl⟩ (Nat.le_of_ble_eq_true rfl) dL_law_1664 ⟨hcl, hsl⟩ (fun H locs hR => ?_)
      refine lv_iload hC.1 hC.2.1 dL_law_1667 (lv_at hl 1 rfl) ?_
      refine pw_icmpeq hC 1674 dL_law_1669 (by decide) (fun hc => ?_) (fun hc => ?_)
      · rw [if_pos hc] at hF
        refine lv_iload hC.1 hC.2.1 dL_law_1674 (lv_at hl 1 rfl) ?_
        refine pw_ifne hC 1698 dL_law_1676 (by decide) (fun hc => ?_) (fun hc => ?_)
        · rw [if_neg hc] at hF
          refine pw_goto hC 1728 dL_law_1698 (by decide) ?_
          cases hF
          exact kk _ _ _ _ (fun k hk => rfl) hR (lv_sub hl [2, 3, 4, 5, 6] rfl)
        · rw [if_pos hc] at hF
          refine lv_aload_n hC.1 hC.2.1 dL_law_1679 rfl (lv_at hl 5 rfl) ?_
          refine pw_iconst hC dL_law_1680 ?_
          obtain ⟨x8, e8, hF⟩ := bnd hF
          refine pw_lald hC hR e8 dL_law_1681 ?_
          refine lv_iload hC.1 hC.2.1 dL_law_1682 (lv_at hl 0 rfl) ?_
          refine pw_ifeq hC 1691 dL_law_1684 (by decide) (fun hc => ?_) (fun hc => ?_)
          · rw [if_pos hc] at hF
            refine pw_lconst hC 0 dL_law_1691 rfl ?_
            refine pw_lcmp hC dL_law_1692 ?_
            refine pw_ifeq hC 1698 dL_law_1693 (by decide) (fun hc => ?_) (fun hc => ?_)
            · rw [if_pos hc] at hF
              refine pw_goto hC 1728 dL_law_1698 (by decide) ?_
              cases hF
              exact kk _ _ _ _ (fun k hk => rfl) hR (lv_sub hl [2, 3, 4, 5, 6] rfl)
            · rw [if_neg hc] at hF
              cases hF
          · rw [if_neg hc] at hF
            refine pw_lconst hC 1 dL_law_1687 rfl ?_
            refine pw_goto hC 1692 dL_law_1688 (by decide) ?_
            refine pw_lcmp hC dL_law_1692 ?_
            refine pw_ifeq hC 1698 dL_law_1693 (by decide) (fun hc => ?_) (fun hc => ?_)
            · rw [if_pos hc] at hF
              refine pw_goto hC 1728 dL_law_1698 (by decide) ?_
              cases hF
              exact kk _ _ _ _ (fun k hk => rfl) hR (lv_sub hl [2, 3, 4, 5, 6] rfl)
            · rw [if_neg hc] at hF
              cases hF
      · rw [if_neg hc] at hF
        cases hF
    · rw [if_neg hc] at hF
      refine pw_iconst hC dL_law_1653 ?_
      refine pw_goto hC 1658 dL_law_1654 (by decide) ?_
      obtain ⟨q9, e9, hF⟩ := bnd hF
      obtain ⟨fs9, ho9⟩ := OX8_pause e9
      refine pw_cVi (rest := []) hC hR lvL_198 ho9 (CX8_pause e9) ⟨rfl, rfl⟩ rfl hl.1 rfl ⟨Nat.le_of_ble_eq_true rfl, Nat.le_of_ble_eq_true rfl⟩ (Nat.le_of_ble_eq_true rfl) dL_law_1658 ⟨hcl, hsl⟩ (fun H locs hR => ?_)
      refine lv_istore (lv' := [(6, .int (Int32.ofInt q9.1)), (5, .int (Int32.ofInt q3.1)), (0, .ref b), (1, .ref (ad v1)), (2, .ref (ad v2)), (3, .ref (ad v3)), (4, .int (Int32.ofInt v4))]) hC.1 hC.2.1 dL_law_1661 hl (by decide) rfl (fun ls hl => ?_)
      refine lv_aload_n hC.1 hC.2.1 dL_law_1663 rfl (lv_at hl 4 rfl) ?_
      obtain ⟨x10, e10, hF⟩ := bnd hF
      obtain ⟨fs10, ho10⟩ := OX8_thrown e10
      refine pw_cVi (rest := []) hC hR lvL_101 ho10 (CX8_thrown e10) ⟨rfl, rfl⟩ rfl hl.1 rfl ⟨Nat.le_of_ble_eq_true rfl, Nat.le_of_ble_eq_true rfl⟩ (Nat.le_of_ble_eq_true rfl) dL_law_1664 ⟨hcl, hsl⟩ (fun H locs hR => ?_)
      refine lv_iload hC.1 hC.2.1 dL_law_1667 (lv_at hl 1 rfl) ?_
      refine pw_icmpeq hC 1674 dL_law_1669 (by decide) (fun hc => ?_) (fun hc => ?_)
      · rw [if_pos hc] at hF
        refine lv_iload hC.1 hC.2.1 dL_law_1674 (lv_at hl 1 rfl) ?_
        refine pw_ifne hC 1698 dL_law_1676 (by decide) (fun hc => ?_) (fun hc => ?_)
        · rw [if_neg hc] at hF
          refine pw_goto hC 1728 dL_law_1698 (by decide) ?_
          cases hF
          exact kk _ _ _ _ (fun k hk => rfl) hR (lv_sub hl [2, 3, 4, 5, 6] rfl)
        · rw [if_pos hc] at hF
          refine lv_aload_n hC.1 hC.2.1 dL_law_1679 rfl (lv_at hl 5 rfl) ?_
          refine pw_iconst hC dL_law_1680 ?_
          obtain ⟨x11, e11, hF⟩ := bnd hF
          refine pw_lald hC hR e11 dL_law_1681 ?_
          refine lv_iload hC.1 hC.2.1 dL_law_1682 (lv_at hl 0 rfl) ?_
          refine pw_ifeq hC 1691 dL_law_1684 (by decide) (fun hc => ?_) (fun hc => ?_)
          · rw [if_pos hc] at hF
            refine pw_lconst hC 0 dL_law_1691 rfl ?_
            refine pw_lcmp hC dL_law_1692 ?_
            refine pw_ifeq hC 1698 dL_law_1693 (by decide) (fun hc => ?_) (fun hc => ?_)
            · rw [if_pos hc] at hF
              refine pw_goto hC 1728 dL_law_1698 (by decide) ?_
              cases hF
              exact kk _ _ _ _ (fun k hk => rfl) hR (lv_sub hl [2, 3, 4, 5, 6] rfl)
            · rw [if_neg hc] at hF
              cases hF
          · rw [if_neg hc] at hF
            refine pw_lconst hC 1 dL_law_1687 rfl ?_
            refine pw_goto hC 1692 dL_law_1688 (by decide) ?_
            refine pw_lcmp hC dL_law_1692 ?_
            refine pw_ifeq hC 1698 dL_law_1693 (by decide) (fun hc => ?_) (fun hc => ?_)
            · rw [if_pos hc] at hF
              refine pw_goto hC 1728 dL_law_1698 (by decide) ?_
              cases hF
              exact kk _ _ _ _ (fun k hk => rfl) hR (lv_sub hl [2, 3, 4, 5, 6] rfl)
            · rw [if_neg hc] at hF
              cases hF
      · rw [if_neg hc] at hF
        cases hF
  · rw [if_neg hc] at hF
    refine pw_iconst hC dL_law_1626 ?_
    refine pw_goto hC 1631 dL_law_1627 (by decide) ?_
    refine lv_aload_n hC.1 hC.2.1 dL_law_1631 rfl (lv_at hl 3 rfl) ?_
    obtain ⟨q12, e12, hF⟩ := bnd hF
    refine pw_call hR (pw_runSW (rest := []) hC hR lwL_195 (CL_pause hst e12) rfl hl.1 rfl ⟨(Nat.le_of_ble_eq_true rfl), (Nat.le_of_ble_eq_true rfl)⟩ (Nat.le_of_ble_eq_true rfl) dL_law_1632 ⟨Nat.le_trans (Nat.add_le_add_left (Nat.le_of_ble_eq_true rfl) cl) hcl, Nat.le_trans (Nat.add_le_add_left (Nat.le_of_ble_eq_true rfl) sl) hsl⟩) (fun H locs hR => ?_)
    refine W.widen (k := cl + 4) (n := sl + 919) (Nat.add_le_add_left (Nat.le_of_ble_eq_true rfl) cl) (Nat.add_le_add_left (Nat.le_of_ble_eq_true rfl) sl) ?_
    show W p l e room_1 s m args below meth c H locs (cl + 4) (sl + 919) Q (F0 m 1635 ls [.int (Int32.ofInt q12.1)])
    refine lv_istore (lv' := [(5, .int (Int32.ofInt q12.1)), (0, .ref b), (1, .ref (ad v1)), (2, .ref (ad v2)), (3, .ref (ad v3)), (4, .int (Int32.ofInt v4))]) hC.1 hC.2.1 dL_law_1635 hl (by decide) rfl (fun ls hl => ?_)
    refine lv_aload_n hC.1 hC.2.1 dL_law_1637 rfl (lv_at hl 3 rfl) ?_
    refine lv_aload_n hC.1 hC.2.1 dL_law_1638 rfl (lv_at hl 1 rfl) ?_
    refine lv_iload hC.1 hC.2.1 dL_law_1639 (lv_at hl 5 rfl) ?_
    refine pw_iconst hC dL_law_1641 ?_
    refine pw_iadd hC dL_law_1642 ?_
    obtain ⟨x13, e13, hF⟩ := bnd hF
    refine pw_sld hC hX hR e13 dL_law_1643 ?_
    refine lv_aload_n hC.1 hC.2.1 dL_law_1644 rfl (lv_at hl 1 rfl) ?_
    refine lv_iload hC.1 hC.2.1 dL_law_1645 (lv_at hl 5 rfl) ?_
    refine pw_iconst hC dL_law_1647 ?_
    refine pw_iadd hC dL_law_1648 ?_
    obtain ⟨x14, e14, hF⟩ := bnd hF
    refine pw_sld hC hX hR e14 dL_law_1649 ?_
    refine pw_ifeq hC 1657 dL_law_1650 (by decide) (fun hc => ?_) (fun hc => ?_)
    · rw [if_pos hc] at hF
      refine pw_iconst hC dL_law_1657 ?_
      obtain ⟨q15, e15, hF⟩ := bnd hF
      obtain ⟨fs15, ho15⟩ := OX8_pause e15
      refine pw_cVi (rest := []) hC hR lvL_198 ho15 (CX8_pause e15) ⟨rfl, rfl⟩ rfl hl.1 rfl ⟨Nat.le_of_ble_eq_true rfl, Nat.le_of_ble_eq_true rfl⟩ (Nat.le_of_ble_eq_true rfl) dL_law_1658 ⟨hcl, hsl⟩ (fun H locs hR => ?_)
      refine lv_istore (lv' := [(6, .int (Int32.ofInt q15.1)), (5, .int (Int32.ofInt q12.1)), (0, .ref b), (1, .ref (ad v1)), (2, .ref (ad v2)), (3, .ref (ad v3)), (4, .int (Int32.ofInt v4))]) hC.1 hC.2.1 dL_law_1661 hl (by decide) rfl (fun ls hl => ?_)
      refine lv_aload_n hC.1 hC.2.1 dL_law_1663 rfl (lv_at hl 4 rfl) ?_
      obtain ⟨x16, e16, hF⟩ := bnd hF
      obtain ⟨fs16, ho16⟩ := OX8_thrown e16
      refine pw_cVi (rest := []) hC hR lvL_101 ho16 (CX8_thrown e16) ⟨rfl, rfl⟩ rfl hl.1 rfl ⟨Nat.le_of_ble_eq_true rfl, Nat.le_of_ble_eq_true rfl⟩ (Nat.le_of_ble_eq_true rfl) dL_law_1664 ⟨hcl, hsl⟩ (fun H locs hR => ?_)
      refine lv_iload hC.1 hC.2.1 dL_law_1667 (lv_at hl 1 rfl) ?_
      refine pw_icmpeq hC 1674 dL_law_1669 (by decide) (fun hc => ?_) (fun hc => ?_)
      · rw [if_pos hc] at hF
        refine lv_iload hC.1 hC.2.1 dL_law_1674 (lv_at hl 1 rfl) ?_
        refine pw_ifne hC 1698 dL_law_1676 (by decide) (fun hc => ?_) (fun hc => ?_)
        · rw [if_neg hc] at hF
          refine pw_goto hC 1728 dL_law_1698 (by decide) ?_
          cases hF
          exact kk _ _ _ _ (fun k hk => rfl) hR (lv_sub hl [2, 3, 4, 5, 6] rfl)
        · rw [if_pos hc] at hF
          refine lv_aload_n hC.1 hC.2.1 dL_law_1679 rfl (lv_at hl 5 rfl) ?_
          refine pw_iconst hC dL_law_1680 ?_
          obtain ⟨x17, e17, hF⟩ := bnd hF
          refine pw_lald hC hR e17 dL_law_1681 ?_
          refine lv_iload hC.1 hC.2.1 dL_law_1682 (lv_at hl 0 rfl) ?_
          refine pw_ifeq hC 1691 dL_law_1684 (by decide) (fun hc => ?_) (fun hc => ?_)
          · rw [if_pos hc] at hF
            refine pw_lconst hC 0 dL_law_1691 rfl ?_
            refine pw_lcmp hC dL_law_1692 ?_
            refine pw_ifeq hC 1698 dL_law_1693 (by decide) (fun hc => ?_) (fun hc => ?_)
            · rw [if_pos hc] at hF
              refine pw_goto hC 1728 dL_law_1698 (by decide) ?_
              cases hF
              exact kk _ _ _ _ (fun k hk => rfl) hR (lv_sub hl [2, 3, 4, 5, 6] rfl)
            · rw [if_neg hc] at hF
              cases hF
          · rw [if_neg hc] at hF
            refine pw_lconst hC 1 dL_law_1687 rfl ?_
            refine pw_goto hC 1692 dL_law_1688 (by decide) ?_
            refine pw_lcmp hC dL_law_1692 ?_
            refine pw_ifeq hC 1698 dL_law_1693 (by decide) (fun hc => ?_) (fun hc => ?_)
            · rw [if_pos hc] at hF
              refine pw_goto hC 1728 dL_law_1698 (by decide) ?_
              cases hF
              exact kk _ _ _ _ (fun k hk => rfl) hR (lv_sub hl [2, 3, 4, 5, 6] rfl)
            · rw [if_neg hc] at hF
              cases hF
      · rw [if_neg hc] at hF
        cases hF
    · rw [if_neg hc] at hF
      refine pw_iconst hC dL_law_1653 ?_
      refine pw_goto hC 1658 dL_law_1654 (by decide) ?_
      obtain ⟨q18, e18, hF⟩ := bnd hF
      obtain ⟨fs18, ho18⟩ := OX8_pause e18
      refine pw_cVi (rest := []) hC hR lvL_198 ho18 (CX8_pause e18) ⟨rfl, rfl⟩ rfl hl.1 rfl ⟨Nat.le_of_ble_eq_true rfl, Nat.le_of_ble_eq_true rfl⟩ (Nat.le_of_ble_eq_true rfl) dL_law_1658 ⟨hcl, hsl⟩ (fun H locs hR => ?_)
      refine lv_istore (lv' := [(6, .int (Int32.ofInt q18.1)), (5, .int (Int32.ofInt q12.1)), (0, .ref b), (1, .ref (ad v1)), (2, .ref (ad v2)), (3, .ref (ad v3)), (4, .int (Int32.ofInt v4))]) hC.1 hC.2.1 dL_law_1661 hl (by decide) rfl (fun ls hl => ?_)
      refine lv_aload_n hC.1 hC.2.1 dL_law_1663 rfl (lv_at hl 4 rfl) ?_
      obtain ⟨x19, e19, hF⟩ := bnd hF
      obtain ⟨fs19, ho19⟩ := OX8_thrown e19
      refine pw_cVi (rest := []) hC hR lvL_101 ho19 (CX8_thrown e19) ⟨rfl, rfl⟩ rfl hl.1 rfl ⟨Nat.le_of_ble_eq_true rfl, Nat.le_of_ble_eq_true rfl⟩ (Nat.le_of_ble_eq_true rfl) dL_law_1664 ⟨hcl, hsl⟩ (fun H locs hR => ?_)
      refine lv_iload hC.1 hC.2.1 dL_law_1667 (lv_at hl 1 rfl) ?_
      refine pw_icmpeq hC 1674 dL_law_1669 (by decide) (fun hc => ?_) (fun hc => ?_)
      · rw [if_pos hc] at hF
        refine lv_iload hC.1 hC.2.1 dL_law_1674 (lv_at hl 1 rfl) ?_
        refine pw_ifne hC 1698 dL_law_1676 (by decide) (fun hc => ?_) (fun hc => ?_)
        · rw [if_neg hc] at hF
          refine pw_goto hC 1728 dL_law_1698 (by decide) ?_
          cases hF
          exact kk _ _ _ _ (fun k hk => rfl) hR (lv_sub hl [2, 3, 4, 5, 6] rfl)
        · rw [if_pos hc] at hF
          refine lv_aload_n hC.1 hC.2.1 dL_law_1679 rfl (lv_at hl 5 rfl) ?_
          refine pw_iconst hC dL_law_1680 ?_
          obtain ⟨x20, e20, hF⟩ := bnd hF
          refine pw_lald hC hR e20 dL_law_1681 ?_
          refine lv_iload hC.1 hC.2.1 dL_law_1682 (lv_at hl 0 rfl) ?_
          refine pw_ifeq hC 1691 dL_law_1684 (by decide) (fun hc => ?_) (fun hc => ?_)
          · rw [if_pos hc] at hF
            refine pw_lconst hC 0 dL_law_1691 rfl ?_
            refine pw_lcmp hC dL_law_1692 ?_
            refine pw_ifeq hC 1698 dL_law_1693 (by decide) (fun hc => ?_) (fun hc => ?_)
            · rw [if_pos hc] at hF
              refine pw_goto hC 1728 dL_law_1698 (by decide) ?_
              cases hF
              exact kk _ _ _ _ (fun k hk => rfl) hR (lv_sub hl [2, 3, 4, 5, 6] rfl)
            · rw [if_neg hc] at hF
              cases hF
          · rw [if_neg hc] at hF
            refine pw_lconst hC 1 dL_law_1687 rfl ?_
            refine pw_goto hC 1692 dL_law_1688 (by decide) ?_
            refine pw_lcmp hC dL_law_1692 ?_
            refine pw_ifeq hC 1698 dL_law_1693 (by decide) (fun hc => ?_) (fun hc => ?_)
            · rw [if_pos hc] at hF
              refine pw_goto hC 1728 dL_law_1698 (by decide) ?_
              cases hF
              exact kk _ _ _ _ (fun k hk => rfl) hR (lv_sub hl [2, 3, 4, 5, 6] rfl)
            · rw [if_neg hc] at hF
              cases hF
      · rw [if_neg hc] at hF
        cases hF
def LC30 (xs : Nat → Int) (L : Nat) (v1 v2 v3 : Nat) (v4 : Int) (h : PH) : Option PH :=
  (FX7_undo h v1).bind fun q1 =>
  (FX8_undo q1.2 v2).bind fun q2 =>
  if w32 q1.1 = w32 q2.1 then (
    some q2.2
  ) else (
    none
  )
set_option maxHeartbeats 4000000 in
set_option maxRecDepth 100000 in
theorem TC30 (hst : l.stackTraces = false) {v1 v2 v3 : Nat} {v4 : Int} {h h' : PH} {b L : Nat} {xs : Nat → Int} {cl sl : Nat} {Q : State → Prop} (hC : Cx g p s m args meth c cL_law 7 RL ret) (hX : LwX g s b L xs) (hR : Rl g ad h s.heap H locs) (hl : lv_has ls 7 [(0, .ref b), (1, .ref (ad v1)), (2, .ref (ad v2)), (3, .ref (ad v3)), (4, .int (Int32.ofInt v4))]) (hcl : cl + 4 ≤ 601024) (hsl : sl + 919 ≤ 7293034) (hF : LC30 xs L v1 v2 v3 v4 h = some h')
    (kk : ∀ (ad' : Nat → Nat) (H : Heap) (locs : List Loc) (ls : Array Slot), (∀ k, k < h.length → ad' k = ad k) → Rl g ad' h' s.heap H locs → lv_has ls 7 [(0, .ref b), (1, .ref (ad' v1)), (2, .ref (ad' v2)), (3, .ref (ad' v3)), (4, .int (Int32.ofInt v4))] → W p l e room_1 s m args below meth c H locs (cl + 4) (sl + 919) Q (F0 m 1728 ls [])) :
    W p l e room_1 s m args below meth c H locs cl sl Q (F0 m 1701 ls []) := by
  unfold LC30 at hF
  refine W.widen (k := cl + 4) (n := sl + 919) (Nat.le_add_right _ _) (Nat.le_add_right _ _) ?_
  refine lv_aload_n hC.1 hC.2.1 dL_law_1701 rfl (lv_at hl 1 rfl) ?_
  obtain ⟨q1, e1, hF⟩ := bnd hF
  obtain ⟨fs1, ho1⟩ := OX7_undo e1
  refine pw_cVi (rest := []) hC hR lvL_199 ho1 (CX7_undo e1) ⟨rfl, rfl⟩ rfl hl.1 rfl ⟨Nat.le_of_ble_eq_true rfl, Nat.le_of_ble_eq_true rfl⟩ (Nat.le_of_ble_eq_true rfl) dL_law_1702 ⟨hcl, hsl⟩ (fun H locs hR => ?_)
  refine lv_aload_n hC.1 hC.2.1 dL_law_1705 rfl (lv_at hl 2 rfl) ?_
  obtain ⟨q2, e2, hF⟩ := bnd hF
  obtain ⟨fs2, ho2⟩ := OX8_undo e2
  refine pw_cVi (rest := [.int (Int32.ofInt q1.1)]) hC hR lvL_202 ho2 (CX8_undo e2) ⟨rfl, rfl⟩ rfl hl.1 rfl ⟨Nat.le_of_ble_eq_true rfl, Nat.le_of_ble_eq_true rfl⟩ (Nat.le_of_ble_eq_true rfl) dL_law_1706 ⟨hcl, hsl⟩ (fun H locs hR => ?_)
  refine pw_icmpeq hC 1728 dL_law_1709 (by decide) (fun hc => ?_) (fun hc => ?_)
  · rw [if_pos hc] at hF
    cases hF
    exact kk _ _ _ _ (fun k hk => rfl) hR (lv_sub hl [0, 1, 2, 3, 4] rfl)
  · rw [if_neg hc] at hF
    cases hF
def LC31 (xs : Nat → Int) (L : Nat) (v1 v2 v3 : Nat) (v4 : Int) (h : PH) : Option PH :=
  (FX7_checksum h v1).bind fun x1 =>
  (FX8_checksum h v2).bind fun q2 =>
  if w32 (cmpL x1 q2.1) = 0 then (
    some q2.2
  ) else (
    none
  )
set_option maxHeartbeats 4000000 in
set_option maxRecDepth 100000 in
theorem TC31 (hst : l.stackTraces = false) {v1 v2 v3 : Nat} {v4 : Int} {h h' : PH} {b L : Nat} {xs : Nat → Int} {cl sl : Nat} {Q : State → Prop} (hC : Cx g p s m args meth c cL_law 7 RL ret) (hX : LwX g s b L xs) (hR : Rl g ad h s.heap H locs) (hl : lv_has ls 7 [(0, .ref b), (1, .ref (ad v1)), (2, .ref (ad v2)), (3, .ref (ad v3)), (4, .int (Int32.ofInt v4))]) (hcl : cl + 4 ≤ 601024) (hsl : sl + 919 ≤ 7293034) (hF : LC31 xs L v1 v2 v3 v4 h = some h')
    (kk : ∀ (ad' : Nat → Nat) (H : Heap) (locs : List Loc) (ls : Array Slot), (∀ k, k < h.length → ad' k = ad k) → Rl g ad' h' s.heap H locs → lv_has ls 7 [(0, .ref b), (1, .ref (ad' v1)), (2, .ref (ad' v2)), (3, .ref (ad' v3)), (4, .int (Int32.ofInt v4))] → W p l e room_1 s m args below meth c H locs (cl + 4) (sl + 919) Q (F0 m 1728 ls [])) :
    W p l e room_1 s m args below meth c H locs cl sl Q (F0 m 1714 ls []) := by
  unfold LC31 at hF
  refine W.widen (k := cl + 4) (n := sl + 919) (Nat.le_add_right _ _) (Nat.le_add_right _ _) ?_
  refine lv_aload_n hC.1 hC.2.1 dL_law_1714 rfl (lv_at hl 1 rfl) ?_
  obtain ⟨x1, e1, hF⟩ := bnd hF
  obtain ⟨fs1, ho1⟩ := OX7_checksum e1
  refine pw_cVl (rest := []) hC hR lvL_203 ho1 (CX7_checksum e1) ⟨rfl, rfl⟩ rfl hl.1 rfl ⟨Nat.le_of_ble_eq_true rfl, Nat.le_of_ble_eq_true rfl⟩ (Nat.le_of_ble_eq_true rfl) dL_law_1715 ⟨hcl, hsl⟩ (fun H locs hR => ?_)
  refine lv_aload_n hC.1 hC.2.1 dL_law_1718 rfl (lv_at hl 2 rfl) ?_
  obtain ⟨q2, e2, hF⟩ := bnd hF
  obtain ⟨fs2, ho2⟩ := OX8_checksum e2
  refine pw_cVl (rest := [.long (Int64.ofInt x1)]) hC hR lvL_207 ho2 (CX8_checksum e2) ⟨rfl, rfl⟩ rfl hl.1 rfl ⟨Nat.le_of_ble_eq_true rfl, Nat.le_of_ble_eq_true rfl⟩ (Nat.le_of_ble_eq_true rfl) dL_law_1719 ⟨hcl, hsl⟩ (fun H locs hR => ?_)
  refine pw_lcmp hC dL_law_1722 ?_
  refine pw_ifeq hC 1728 dL_law_1723 (by decide) (fun hc => ?_) (fun hc => ?_)
  · rw [if_pos hc] at hF
    cases hF
    exact kk _ _ _ _ (fun k hk => rfl) hR (lv_sub hl [0, 1, 2, 3, 4] rfl)
  · rw [if_neg hc] at hF
    cases hF
end
