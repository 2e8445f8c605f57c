/-! ===== pure cells: int arrays and objects by PLACES; an address map ad takes a place to its address ===== -/
abbrev PV : Type := Int ⊕ Option Nat
abbrev PC : Type := (Nat × List Int) ⊕ (Nat × List PV)
abbrev PH : Type := List PC
/-- tables of the run: class numbers and slots, array classes, the first address of ours, the literals' addresses, their bytes' addresses -/
abbrev GP : Type := va_G × (Nat → ClassId) × Nat × (Nat → Nat) × (Nat → Nat)
def w32 (x : Int) : Int := (Int32.ofInt x).toInt
def w64 (x : Int) : Int := (Int64.ofInt x).toInt
theorem w32_eq {x : Int} (h1 : -2147483648 ≤ x) (h2 : x < 2147483648) : w32 x = x := by
  unfold w32
  rw [Int32.toInt_ofInt]
  simp only [Int32.size]
  exact Int.bmod_eq_of_le (by omega) (by omega)
theorem w64_eq {x : Int} (h1 : -9223372036854775808 ≤ x) (h2 : x < 9223372036854775808) : w64 x = x := by
  unfold w64
  rw [Int64.toInt_ofInt]
  simp only [Int64.size]
  exact Int.bmod_eq_of_le (by omega) (by omega)
theorem w32_of (x : Int) : Int32.ofInt (w32 x) = Int32.ofInt x := by unfold w32; exact Int32.ofInt_toInt _
theorem w64_of (x : Int) : Int64.ofInt (w64 x) = Int64.ofInt x := by unfold w64; exact Int64.ofInt_toInt _
theorem o32_inj {x y : Int} : Int32.ofInt x = Int32.ofInt y ↔ w32 x = w32 y := by
  unfold w32
  exact ⟨fun h => by rw [h], fun h => Int32.toInt_inj.mp h⟩
theorem o32_lt {x y : Int} : Int32.ofInt x < Int32.ofInt y ↔ w32 x < w32 y := by unfold w32; exact Int32.lt_iff_toInt_lt
theorem o32_le {x y : Int} : Int32.ofInt x ≤ Int32.ofInt y ↔ w32 x ≤ w32 y := by unfold w32; exact Int32.le_iff_toInt_le
def vl (ad : Nat → Nat) : PV → Value
  | .inl x => .int (Int32.ofInt x)
  | .inr none => .null
  | .inr (some k) => .ref (ad k)
def rl (ad : Nat → Nat) : PV → Option Nat
  | .inr (some k) => some (ad k)
  | _ => none
def cv (g : GP) (ad : Nat → Nat) : PC → va_E
  | .inl q => if q.1 = 3 then .inl (g.2.1 3, q.2.length, .inr (.inl (fun j => Int64.ofInt (q.2.getD j 0)))) else .inl (g.2.1 q.1, q.2.length, .inl (fun j => Int32.ofInt (q.2.getD j 0)))
  | .inr q => if q.1 < 9 then .inr (q.1, q.2.map (vl ad)) else .inl (g.2.1 (q.1 - 5), q.2.length, .inr (.inr (.inr (.inr (fun j => rl ad (q.2.getD j (.inr none)))))))
def wsOf (g : GP) (ad : Nat → Nat) (h : PH) : va_W := h.mapIdx (fun k c => (ad k, cv g ad c))
theorem wsOf_get {g : GP} {ad : Nat → Nat} {h : PH} {a : Nat} {c : PC} (e : h[a]? = some c) : (wsOf g ad h)[a]? = some (ad a, cv g ad c) := by
  unfold wsOf
  rw [List.getElem?_mapIdx, e]
  rfl
theorem wsOf_set {g : GP} {ad : Nat → Nat} {h : PH} {a : Nat} {c : PC} : (wsOf g ad h).set a (ad a, cv g ad c) = wsOf g ad (h.set a c) := by
  unfold wsOf
  apply List.ext_getElem?
  intro i
  simp only [List.getElem?_set, List.getElem?_mapIdx, List.length_mapIdx]
  by_cases hi : a = i
  · subst hi
    by_cases hl : a < h.length
    · simp [hl]
    · simp [hl]
  · simp [hi]
theorem wsOf_len {g : GP} {ad : Nat → Nat} {h : PH} : (wsOf g ad h).length = h.length := by unfold wsOf; exact List.length_mapIdx
/-- the references that a cell holds are places of the heap -/
def wfH (h : PH) : Prop := (∀ (k c : Nat) (fs : List PV), h[k]? = some (.inr (c, fs)) → ∀ a : Nat, (.inr (some a) : PV) ∈ fs → a < h.length) ∧ ∀ (a : Nat) (q : Nat × List Int), h[a]? = some (.inl q) → q.2.length < 2147483648
def gA (g : GP) : Nat → Prop := fun q => g.2.2.1 ≤ q
def tysOf (g : GP) : List (ClassId × FieldType) := [(g.2.1 0, .int), (g.2.1 1, .byte), (g.2.1 2, .boolean), (g.2.1 3, .long), (g.2.1 4, .object "HardwareTaskQueue$Machine"), (g.2.1 5, .array .int)]
/-- the world: the heap H holds h at ad; since H0 nothing of others has changed -/
def Rl (g : GP) (ad : Nat → Nat) (h : PH) (H0 H : Heap) (locs : List Loc) : Prop :=
  va_P g.1 vwCl (wsOf g ad h) H ∧ va_D (gA g) (wsOf g ad h) ∧ va_S (gA g) H0 H locs ∧ wfH h
/-! ===== what the code does to pure cells ===== -/
/-- a load out of an array of type t: 0 int, 1 byte, 2 boolean, 3 long -/
def ald (t : Nat) (h : PH) (a : Nat) (i : Int) : Option Int := match h[a]? with
  | some (.inl q) => if q.1 = t ∧ 0 ≤ i then q.2[i.toNat]? else none
  | _ => none
def alen (h : PH) (a : Nat) : Option Int := match h[a]? with
  | some (.inl q) => if q.1 < 4 then some (q.2.length : Int) else none
  | _ => none
/-- a store -/
def ast (t : Nat) (h : PH) (a : Nat) (i x : Int) : Option PH := match h[a]? with
  | some (.inl q) => if (q.1 = t ∧ 0 ≤ i ∧ i < (q.2.length : Int)) ∧ (t = 1 → -128 ≤ x ∧ x < 128) ∧ (t = 2 → 0 ≤ x ∧ x < 2) then some (h.set a (.inl (t, q.2.set i.toNat x))) else none
  | _ => none
def gfi (h : PH) (c a k : Nat) : Option Int := match h[a]? with
  | some (.inr q) => if q.1 = c then (match q.2[k]? with | some (.inl x) => some x | _ => none) else none
  | _ => none
def gfr (h : PH) (c a k : Nat) : Option Nat := match h[a]? with
  | some (.inr q) => if q.1 = c then (match q.2[k]? with | some (.inr (some x)) => some x | _ => none) else none
  | _ => none
def pfi (h : PH) (c a k : Nat) (x : Int) : Option PH := match h[a]? with
  | some (.inr q) => if q.1 = c ∧ k < q.2.length then some (h.set a (.inr (q.1, q.2.set k (.inl x)))) else none
  | _ => none
def pfr (h : PH) (c a k : Nat) (v : Nat) : Option PH := match h[a]? with
  | some (.inr q) => if (q.1 = c ∧ k < q.2.length) ∧ v < h.length then some (h.set a (.inr (q.1, q.2.set k (.inr (some v))))) else none
  | _ => none
/-- an array of references -/
def rld (h : PH) (c a : Nat) (i : Int) : Option Nat := match h[a]? with
  | some (.inr q) => if q.1 = c ∧ 0 ≤ i ∧ i < 2147483648 then (match q.2[i.toNat]? with | some (.inr (some x)) => some x | _ => none) else none
  | _ => none
def lp {σ ρ : Type} (f : σ → Option (σ ⊕ ρ)) : Nat → σ → Option ρ
  | 0, _ => none
  | n + 1, s => match f s with
    | none => none
    | some (.inl s') => lp f n s'
    | some (.inr r) => some r
theorem lp_rule {σ ρ : Type} {f : σ → Option (σ ⊕ ρ)} {Ph : σ → Prop} {Px : ρ → Prop} (body : ∀ s o, f s = some o → Sum.elim Ph Px o → Ph s) : ∀ (n : Nat) (s : σ) (r : ρ), lp f n s = some r → Px r → Ph s := by
  intro n
  induction n with
  | zero => intro s r h; cases h
  | succ n ih =>
    intro s r h hx
    rw [lp] at h
    cases hf : f s with
    | none => rw [hf] at h; cases h
    | some o =>
      rw [hf] at h
      cases o with
      | inl s' => exact body s _ hf (ih s' r h hx)
      | inr r' => cases h; exact body s _ hf hx
theorem bnd {α β : Type} {o : Option α} {k : α → Option β} {r : β} (h : o.bind k = some r) : ∃ x, o = some x ∧ k x = some r := by
  cases o with
  | none => cases h
  | some x => exact ⟨x, rfl, h⟩
theorem ald_spec {t : Nat} {h : PH} {a : Nat} {i x : Int} (e : ald t h a i = some x) : ∃ xs : List Int, h[a]? = some (.inl (t, xs)) ∧ 0 ≤ i ∧ i < (xs.length : Int) ∧ xs[i.toNat]? = some x := by
  unfold ald at e
  split at e
  · rename_i q hq
    split at e
    · rename_i h0
      obtain ⟨t', xs⟩ := q
      obtain ⟨h1, h2⟩ := h0
      cases h1
      have hl := (List.getElem?_eq_some_iff.mp e).1
      exact ⟨xs, hq, h2, by simp only at hl; omega, e⟩
    · cases e
  · cases e
theorem alen_spec {h : PH} {a : Nat} {x : Int} (e : alen h a = some x) : ∃ q : Nat × List Int, h[a]? = some (.inl q) ∧ q.1 < 4 ∧ x = (q.2.length : Int) := by
  unfold alen at e
  split at e
  · rename_i q hq
    split at e
    · rename_i h0
      cases e
      exact ⟨q, hq, h0, rfl⟩
    · cases e
  · cases e
theorem ast_spec {t : Nat} {h h' : PH} {a : Nat} {i x : Int} (e : ast t h a i x = some h') : ∃ xs : List Int, h[a]? = some (.inl (t, xs)) ∧ (0 ≤ i ∧ i < (xs.length : Int)) ∧ (t = 1 → -128 ≤ x ∧ x < 128) ∧ (t = 2 → 0 ≤ x ∧ x < 2) ∧ h' = h.set a (.inl (t, xs.set i.toNat x)) := by
  unfold ast at e
  split at e
  · rename_i q hq
    split at e
    · rename_i h0
      obtain ⟨t', xs⟩ := q
      obtain ⟨⟨h1, h2⟩, h3, h4⟩ := h0
      cases h1
      cases e
      exact ⟨xs, hq, h2, h3, h4, rfl⟩
    · cases e
  · cases e
theorem gfi_spec {h : PH} {c a k : Nat} {x : Int} (e : gfi h c a k = some x) : ∃ fs : List PV, h[a]? = some (.inr (c, fs)) ∧ fs[k]? = some (.inl x) := by
  unfold gfi at e
  split at e
  · rename_i q hq
    split at e
    · rename_i h0
      split at e
      · rename_i y hy
        cases e
        obtain ⟨c', fs⟩ := q
        cases h0
        exact ⟨fs, hq, hy⟩
      · cases e
    · cases e
  · cases e
theorem gfr_spec {h : PH} {c a k : Nat} {x : Nat} (e : gfr h c a k = some x) : ∃ fs : List PV, h[a]? = some (.inr (c, fs)) ∧ fs[k]? = some (.inr (some x)) := by
  unfold gfr at e
  split at e
  · rename_i q hq
    split at e
    · rename_i h0
      split at e
      · rename_i y hy
        cases e
        obtain ⟨c', fs⟩ := q
        cases h0
        exact ⟨fs, hq, hy⟩
      · cases e
    · cases e
  · cases e
theorem pfi_spec {h h' : PH} {c a k : Nat} {x : Int} (e : pfi h c a k x = some h') : ∃ fs : List PV, h[a]? = some (.inr (c, fs)) ∧ k < fs.length ∧ h' = h.set a (.inr (c, fs.set k (.inl x))) := by
  unfold pfi at e
  split at e
  · rename_i q hq
    split at e
    · rename_i h0
      cases e
      obtain ⟨c', fs⟩ := q
      obtain ⟨h1, h2⟩ := h0
      cases h1
      exact ⟨fs, hq, h2, rfl⟩
    · cases e
  · cases e
theorem pfr_spec {h h' : PH} {c a k v : Nat} (e : pfr h c a k v = some h') : ∃ fs : List PV, h[a]? = some (.inr (c, fs)) ∧ k < fs.length ∧ v < h.length ∧ h' = h.set a (.inr (c, fs.set k (.inr (some v)))) := by
  unfold pfr at e
  split at e
  · rename_i q hq
    split at e
    · rename_i h0
      cases e
      obtain ⟨c', fs⟩ := q
      obtain ⟨⟨h1, h2⟩, h3⟩ := h0
      cases h1
      exact ⟨fs, hq, h2, h3, rfl⟩
    · cases e
  · cases e
theorem rld_spec {h : PH} {c a : Nat} {i : Int} {x : Nat} (e : rld h c a i = some x) : ∃ fs : List PV, h[a]? = some (.inr (c, fs)) ∧ (0 ≤ i ∧ i < 2147483648) ∧ i < (fs.length : Int) ∧ fs[i.toNat]? = some (.inr (some x)) := by
  unfold rld at e
  split at e
  · rename_i q hq
    split at e
    · rename_i h0
      split at e
      · rename_i y hy
        cases e
        obtain ⟨c', fs⟩ := q
        obtain ⟨h1, h2⟩ := h0
        cases h1
        have hl := (List.getElem?_eq_some_iff.mp hy).1
        exact ⟨fs, hq, h2, by simp only at hl; omega, hy⟩
      · cases e
    · cases e
  · cases e
theorem wfH_set_arr {h : PH} {a : Nat} {q : Nat × List Int} (hw : wfH h) (hq : q.2.length < 2147483648) : wfH (h.set a (.inl q)) := by
  refine ⟨?_, ?_⟩
  · intro k c fs e x hx
    rw [List.length_set]
    by_cases hk : a = k
    · subst hk
      rw [List.getElem?_set] at e
      simp only [if_true] at e
      split at e
      · cases e
      · cases e
    · rw [List.getElem?_set_ne hk] at e
      exact hw.1 k c fs e x hx
  · intro k q2 e
    by_cases hk : a = k
    · subst hk
      rw [List.getElem?_set] at e
      simp only [if_true] at e
      split at e
      · cases e; exact hq
      · cases e
    · rw [List.getElem?_set_ne hk] at e
      exact hw.2 k q2 e
theorem wfH_set_fld {h : PH} {a c k : Nat} {fs : List PV} {v : PV} (hw : wfH h) (he : h[a]? = some (.inr (c, fs))) (hv : ∀ x, v = .inr (some x) → x < h.length) : wfH (h.set a (.inr (c, fs.set k v))) := by
  refine ⟨?_, ?_⟩
  · intro k2 c2 fs2 e x hx
    rw [List.length_set]
    by_cases hk : a = k2
    · subst hk
      rw [List.getElem?_set] at e
      simp only [if_true] at e
      split at e
      · cases e
        rcases List.mem_or_eq_of_mem_set hx with h1 | h1
        · exact hw.1 a c fs he x h1
        · exact hv x h1.symm
      · cases e
    · rw [List.getElem?_set_ne hk] at e
      exact hw.1 k2 c2 fs2 e x hx
  · intro k2 q2 e
    by_cases hk : a = k2
    · subst hk
      rw [List.getElem?_set] at e
      simp only [if_true] at e
      split at e
      · cases e
      · cases e
    · rw [List.getElem?_set_ne hk] at e
      exact hw.2 k2 q2 e
