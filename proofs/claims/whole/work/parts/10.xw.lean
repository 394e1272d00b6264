/-! THE WORLD AS A FUNCTION: what is known of the heap is a map from some addresses to cells. Rows of the kit work on lists of cells: here each is turned to the map. -/
abbrev xw_T : Type := Nat → Option va_E
def xw_in (w : xw_T) (ws : va_W) : Prop := ∀ (a : Nat) (e : va_E), w a = some e ↔ ∃ k : Nat, ws[k]? = some (a, e)
/-- the map stands in the heap: inside a method -/
def xw_S (D : va_G) (cl : List vw_C) (A : Nat → Prop) (H0 : Heap) (w : xw_T) (H : Heap) (locs : List Loc) : Prop := (∃ ws : va_W, xw_in w ws ∧ va_P D cl ws H ∧ va_D A ws) ∧ va_S A H0 H locs ∧ ∀ q : Nat, H0.size ≤ q → A q
theorem xw_in_set {A : Nat → Prop} {w : xw_T} {ws : va_W} {k a : Nat} {e0 e : va_E} (h : xw_in w ws) (hD : va_D A ws) (hk : ws[k]? = some (a, e0)) : xw_in (va_up w a (some e)) (ws.set k (a, e)) := by
  have hl := (List.getElem?_eq_some_iff.mp hk).1
  intro b e'
  by_cases hb : b = a
  · subst hb
    rw [va_up_self]
    constructor
    · intro he
      refine ⟨k, ?_⟩
      rw [List.getElem?_set_self hl, Option.some.inj he]
    · rintro ⟨j, hj⟩
      by_cases hjk : j = k
      · subst hjk
        rw [List.getElem?_set_self hl] at hj
        have := Option.some.inj hj
        rw [(Prod.mk.inj this).2]
      · rw [List.getElem?_set_ne (Ne.symm hjk)] at hj
        exact absurd (hD.1 j k _ _ hj hk rfl) hjk
  · rw [va_up_ne _ _ hb]
    constructor
    · intro he
      obtain ⟨j, hj⟩ := (h b e').mp he
      refine ⟨j, ?_⟩
      have hjk : j ≠ k := by
        intro q
        subst q
        rw [hk] at hj
        exact hb (Prod.mk.inj (Option.some.inj hj)).1.symm
      rw [List.getElem?_set_ne (Ne.symm hjk)]
      exact hj
    · rintro ⟨j, hj⟩
      by_cases hjk : j = k
      · subst hjk
        rw [List.getElem?_set_self hl] at hj
        exact absurd (Prod.mk.inj (Option.some.inj hj)).1.symm hb
      · rw [List.getElem?_set_ne (Ne.symm hjk)] at hj
        exact (h b e').mpr ⟨j, hj⟩
theorem xw_in_fresh {A : Nat → Prop} {w : xw_T} {ws : va_W} {q : Nat} {e : va_E} (h : xw_in w ws) (hD : va_D A (ws ++ [(q, e)])) : w q = none := by
  cases hq : w q with
  | none => rfl
  | some e1 =>
    obtain ⟨k, hk⟩ := (h q e1).mp hq
    have hl := (List.getElem?_eq_some_iff.mp hk).1
    have h1 : (ws ++ [(q, e)])[k]? = some (q, e1) := by rw [List.getElem?_append_left hl]; exact hk
    have h2 : (ws ++ [(q, e)])[ws.length]? = some (q, e) := by rw [List.getElem?_append_right (Nat.le_refl _), Nat.sub_self]; rfl
    have := hD.1 _ _ _ _ h1 h2 rfl
    omega
theorem xw_in_push {A : Nat → Prop} {w : xw_T} {ws : va_W} {q : Nat} {e : va_E} (h : xw_in w ws) (hD : va_D A (ws ++ [(q, e)])) : xw_in (va_up w q (some e)) (ws ++ [(q, e)]) := by
  have hf := xw_in_fresh h hD
  have h2 : (ws ++ [(q, e)])[ws.length]? = some (q, e) := by rw [List.getElem?_append_right (Nat.le_refl _), Nat.sub_self]; rfl
  intro b e'
  by_cases hb : b = q
  · subst hb
    rw [va_up_self]
    constructor
    · intro he
      exact ⟨ws.length, by rw [h2, Option.some.inj he]⟩
    · rintro ⟨j, hj⟩
      have hjk := hD.1 _ _ _ _ hj h2 rfl
      subst hjk
      rw [h2] at hj
      rw [(Prod.mk.inj (Option.some.inj hj)).2]
  · rw [va_up_ne _ _ hb]
    constructor
    · intro he
      obtain ⟨j, hj⟩ := (h b e').mp he
      exact ⟨j, by rw [List.getElem?_append_left (List.getElem?_eq_some_iff.mp hj).1]; exact hj⟩
    · rintro ⟨j, hj⟩
      by_cases hl : j < ws.length
      · rw [List.getElem?_append_left hl] at hj
        exact (h b e').mpr ⟨j, hj⟩
      · have hjl := (List.getElem?_eq_some_iff.mp hj).1
        rw [List.length_append, List.length_singleton] at hjl
        have : j = ws.length := by omega
        subst this
        rw [h2] at hj
        exact absurd (Prod.mk.inj (Option.some.inj hj)).1.symm hb
/-- a field, an array, of the map -/
def xg (w : xw_T) (a ci k : Nat) : Option Value := match w a with
  | some (.inr o) => if o.1 = ci then o.2[k]? else none
  | _ => none
def xvI : Option Value → Option Int32
  | some (.int x) => some x
  | _ => none
def xvL : Option Value → Option Int64
  | some (.long x) => some x
  | _ => none
def xvR : Option Value → Option (Option Nat)
  | some (.ref x) => some (some x)
  | some .null => some none
  | _ => none
def xgI (w : xw_T) (a ci k : Nat) : Option Int32 := xvI (xg w a ci k)
def xgL (w : xw_T) (a ci k : Nat) : Option Int64 := xvL (xg w a ci k)
def xgR (w : xw_T) (a ci k : Nat) : Option (Option Nat) := xvR (xg w a ci k)
def xp (w : xw_T) (a k : Nat) (v : Value) : xw_T := match w a with
  | some (.inr o) => va_up w a (some (.inr (o.1, o.2.set k v)))
  | _ => w
def xaE (w : xw_T) (a : Nat) (cA : ClassId) : Option vp_A := match w a with
  | some (.inl x) => if x.1 = cA then some x.2 else none
  | _ => none
def xvaI : Option vp_A → Option (Nat × (Nat → Int32))
  | some (n, .inl f) => some (n, f)
  | _ => none
def xvaL : Option vp_A → Option (Nat × (Nat → Int64))
  | some (n, .inr (.inl f)) => some (n, f)
  | _ => none
def xvaQ : Option vp_A → Option (Nat × (Nat → Option Nat))
  | some (n, .inr (.inr (.inr (.inr f)))) => some (n, f)
  | _ => none
def xaI (w : xw_T) (a : Nat) (cA : ClassId) : Option (Nat × (Nat → Int32)) := xvaI (xaE w a cA)
def xaL (w : xw_T) (a : Nat) (cA : ClassId) : Option (Nat × (Nat → Int64)) := xvaL (xaE w a cA)
def xaQ (w : xw_T) (a : Nat) (cA : ClassId) : Option (Nat × (Nat → Option Nat)) := xvaQ (xaE w a cA)
abbrev xcI (cA : ClassId) (n : Nat) (f : Nat → Int32) : va_E := .inl (cA, n, .inl f)
abbrev xcL (cA : ClassId) (n : Nat) (f : Nat → Int64) : va_E := .inl (cA, n, .inr (.inl f))
abbrev xcQ (cA : ClassId) (n : Nat) (f : Nat → Option Nat) : va_E := .inl (cA, n, .inr (.inr (.inr (.inr f))))
theorem xg_spec {w : xw_T} {a ci k : Nat} {v : Value} (h : xg w a ci k = some v) : ∃ fs : List Value, w a = some (.inr (ci, fs)) ∧ fs[k]? = some v := by
  unfold xg at h
  cases hw : w a with
  | none => rw [hw] at h; cases h
  | some e =>
    rw [hw] at h
    cases e with
    | inl x => cases h
    | inr o =>
      obtain ⟨o1, o2⟩ := o
      dsimp only at h
      by_cases ho : o1 = ci
      · subst ho
        rw [if_pos rfl] at h
        exact ⟨o2, rfl, h⟩
      · rw [if_neg ho] at h; cases h
theorem xgI_spec {w : xw_T} {a ci k : Nat} {v : Int32} (h : xgI w a ci k = some v) : xg w a ci k = some (.int v) := by
  unfold xgI at h
  cases hx : xg w a ci k with
  | none => rw [hx] at h; cases h
  | some y => rw [hx] at h; cases y <;> first | (cases h; rfl) | cases h
theorem xgL_spec {w : xw_T} {a ci k : Nat} {v : Int64} (h : xgL w a ci k = some v) : xg w a ci k = some (.long v) := by
  unfold xgL at h
  cases hx : xg w a ci k with
  | none => rw [hx] at h; cases h
  | some y => rw [hx] at h; cases y <;> first | (cases h; rfl) | cases h
theorem xgR_spec {w : xw_T} {a ci k : Nat} {v : Option Nat} (h : xgR w a ci k = some v) : xg w a ci k = some (va_rf v) := by
  unfold xgR at h
  cases hx : xg w a ci k with
  | none => rw [hx] at h; cases h
  | some y => rw [hx] at h; cases y <;> first | (cases h; rfl) | cases h
theorem xaE_spec {w : xw_T} {a : Nat} {cA : ClassId} {x : vp_A} (h : xaE w a cA = some x) : w a = some (.inl (cA, x)) := by
  unfold xaE at h
  cases hw : w a with
  | none => rw [hw] at h; cases h
  | some e =>
    rw [hw] at h
    cases e with
    | inr o => cases h
    | inl y =>
      obtain ⟨y1, y2⟩ := y
      dsimp only at h
      by_cases ho : y1 = cA
      · subst ho
        rw [if_pos rfl] at h
        rw [Option.some.inj h]
      · rw [if_neg ho] at h; cases h
theorem xaI_spec {w : xw_T} {a : Nat} {cA : ClassId} {n : Nat} {f : Nat → Int32} (h : xaI w a cA = some (n, f)) : w a = some (xcI cA n f) := by
  unfold xaI at h
  cases hx : xaE w a cA with
  | none => rw [hx] at h; cases h
  | some y =>
    rw [hx] at h
    obtain ⟨n1, y⟩ := y
    rcases y with y | y | y | y | y <;> first | (cases h; exact xaE_spec hx) | cases h
theorem xaL_spec {w : xw_T} {a : Nat} {cA : ClassId} {n : Nat} {f : Nat → Int64} (h : xaL w a cA = some (n, f)) : w a = some (xcL cA n f) := by
  unfold xaL at h
  cases hx : xaE w a cA with
  | none => rw [hx] at h; cases h
  | some y =>
    rw [hx] at h
    obtain ⟨n1, y⟩ := y
    rcases y with y | y | y | y | y <;> first | (cases h; exact xaE_spec hx) | cases h
theorem xaQ_spec {w : xw_T} {a : Nat} {cA : ClassId} {n : Nat} {f : Nat → Option Nat} (h : xaQ w a cA = some (n, f)) : w a = some (xcQ cA n f) := by
  unfold xaQ at h
  cases hx : xaE w a cA with
  | none => rw [hx] at h; cases h
  | some y =>
    rw [hx] at h
    obtain ⟨n1, y⟩ := y
    rcases y with y | y | y | y | y <;> first | (cases h; exact xaE_spec hx) | cases h
/-- the same read off the map -/
theorem xg_of {w : xw_T} {a ci k : Nat} {fs : List Value} (h : w a = some (.inr (ci, fs))) : xg w a ci k = fs[k]? := by
  unfold xg; rw [h]; exact if_pos rfl
theorem xp_of {w : xw_T} {a ci k : Nat} {fs : List Value} {v : Value} (h : w a = some (.inr (ci, fs))) : xp w a k v = va_up w a (some (.inr (ci, fs.set k v))) := by
  unfold xp; rw [h]
theorem xaI_of {w : xw_T} {a : Nat} {cA : ClassId} {n : Nat} {f : Nat → Int32} (h : w a = some (xcI cA n f)) : xaI w a cA = some (n, f) := by
  unfold xaI xaE; rw [h]; dsimp only; rw [if_pos rfl]; rfl
theorem xaL_of {w : xw_T} {a : Nat} {cA : ClassId} {n : Nat} {f : Nat → Int64} (h : w a = some (xcL cA n f)) : xaL w a cA = some (n, f) := by
  unfold xaL xaE; rw [h]; dsimp only; rw [if_pos rfl]; rfl
theorem xaQ_of {w : xw_T} {a : Nat} {cA : ClassId} {n : Nat} {f : Nat → Option Nat} (h : w a = some (xcQ cA n f)) : xaQ w a cA = some (n, f) := by
  unfold xaQ xaE; rw [h]; dsimp only; rw [if_pos rfl]; rfl
theorem va_rf_cat (r : Option Nat) : (va_rf r).category = 1 := by cases r <;> rfl
theorem xcat_i (x : Int32) : (Value.int x).category = 1 := rfl
theorem xcat_l (x : Int64) : (Value.long x).category = 2 := rfl
theorem xcat_r (x : Nat) : (Value.ref x).category = 1 := rfl
theorem xcat_n : (Value.null).category = 1 := rfl
theorem xw_in_A {A : Nat → Prop} {ws : va_W} {q : Nat} {e : va_E} (hD : va_D A (ws ++ [(q, e)])) : A q := hD.2 ws.length (q, e) (by rw [List.getElem?_append_right (Nat.le_refl _), Nat.sub_self]; rfl)
