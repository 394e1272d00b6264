/-! THE START OF THE LAW, AND ITS LOOP -/
def x0 : xSt := ((0, 0, 0, 0, 0), fun _ => (0, 0, 0, 0), fun _ => (0, 0, false, false, 0, 0), fun _ _ => (0, 0), fun _ => 0)
theorem Inv_0 : xInv x0 := by
  have n : ∀ {a : Nat}, ¬ a < 0 := fun h => Nat.not_lt_zero _ h
  refine ⟨⟨Nat.zero_le _, Nat.zero_le _, Nat.zero_le _, Nat.zero_le _, Nat.zero_le _, fun j hj => absurd hj n⟩, fun k hk => absurd hk n, fun g => rfl, rfl, fun a ha => absurd ha n, fun k hk => absurd hk n, rfl, fun k hk => absurd hk n, fun j hj => absurd hj n, fun a ha => absurd ha n, fun j hj => absurd hj n⟩
/-- the reference's cells, as they begin -/
def ce (E : xE_T) (t : Nat) : va_E := if t = 11 ∨ t = 12 then xcI (E.1 1) 61 (fun _ => 0) else if t = 13 then xcL (E.1 2) 61 (fun _ => 0) else if t = 14 ∨ t = 19 then xcI (E.1 1) 301 (fun _ => 0) else if t = 15 then xcL (E.1 2) 301 (fun _ => 0) else if t = 16 ∨ t = 17 ∨ t = 18 then xcI (E.1 3) 301 (fun _ => 0) else if t = 20 then xcI (E.1 1) 3612 (fun _ => 0) else if t = 21 then xcL (E.1 2) 3612 (fun _ => 0) else xcI (E.1 1) 300 (fun _ => 0)
def fv (ad : xR → Nat) (t s : Nat) : Value := if s < t then .ref (ad (s, 0, 0)) else .null
def fl (ad : xR → Nat) (t : Nat) (c : Int64) : List Value := [.int 0, .int 0, fv ad t 11, fv ad t 12, fv ad t 13, .int 0, fv ad t 14, fv ad t 15, fv ad t 16, fv ad t 17, fv ad t 18, fv ad t 19, fv ad t 20, fv ad t 21, .int 0, fv ad t 22, .long c]
/-- the reference, its arrays made up to the t-th -/
def Mi (E : xE_T) (a1 a2 : Nat) (w : xw_T) (ad : xR → Nat) (ct : xR → Option va_E) (t : Nat) (c : Int64) : Prop := xRp w ad ct ∧ ad (10, 0, 0) = a2 ∧ ct (10, 0, 0) = some (.inr (5, fl ad t c)) ∧ (∀ s, 11 ≤ s → s < t → ct (s, 0, 0) = some (ce E s)) ∧ (∀ r : xR, t ≤ r.1 → ct r = none) ∧ ad (0, 0, 0) = a1 ∧ cC E ad ct x0
section STA
variable {E : xE_T} {w : xw_T} {ad : xR → Nat} {ct : xR → Option va_E} {a1 a2 : Nat} {c : Int64}
theorem c0_keep {ad' : xR → Nat} {ct' : xR → Option va_E} (hC : cC E ad ct x0) (hc : ∀ r : xR, r.1 < 10 → ct' r = ct r) (ha : ∀ r : xR, r.1 < 10 → ad' r = ad r) : cC E ad' ct' x0 := by
  obtain ⟨⟨c1, c2, c3⟩, -, -, c6, c7⟩ := hC
  have n : ∀ {a : Nat}, ¬ a < 0 := fun h => Nat.not_lt_zero _ h
  refine ⟨⟨?_, nLs_congr c2 (hc _ (by decide)) (hc _ (by decide)) (ha _ (by decide)) (fun i hi => absurd hi n), nLs_congr c3 (hc _ (by decide)) (hc _ (by decide)) (ha _ (by decide)) (fun i hi => absurd hi n)⟩, fun i hi => absurd hi n, fun i hi => absurd hi n, fun i hi => (hc _ (show 5 < 10 by decide)).trans (c6 i hi), fun j hj => ?_⟩
  · rw [hc _ (by decide), c1]
    unfold plF
    rw [ha (1, 0, 0) (by decide), ha (3, 0, 0) (by decide)]
  · obtain ⟨d1, d2, d3, d4⟩ := c7 j hj
    exact ⟨(hc _ (show 6 < 10 by decide)).trans d1, (hc _ (show 7 < 10 by decide)).trans d2, (hc _ (show 8 < 10 by decide)).trans d3, fun k => (hc _ (show 9 < 10 by decide)).trans (d4 k)⟩
theorem mi_step {P : xw_T → Prop} {t k : Nat} (hM : Mi E a1 a2 w ad ct t c) (ht : 11 ≤ t) {q : Nat} (hq : w q = none) {w2 : xw_T} (e2 : w2 = va_up w q (some (ce E t))) (hk : ∀ a, k < (fl a t c).length) (hf : ∀ a : xR → Nat, (fl a t c).set k (.ref q) = fl (xup a (t, 0, 0) q) (t + 1) c)
    (h : ∀ w3 ad' ct', Mi E a1 a2 w3 ad' ct' (t + 1) c → P w3) : (∃ v0, xg w2 a2 5 k = some v0) ∧ ∀ w3, w3 = xp w2 a2 k (.ref q) → P w3 := by
  obtain ⟨R, e10, c10, cs, cn, e0, C⟩ := hM
  have R2 := R.new (r := (t, 0, 0)) (cn _ (Nat.le_refl _)) hq (ce E t)
  rw [← e2] at R2
  have t10 : ((10, 0, 0) : xR) ≠ (t, 0, 0) := tg (by omega)
  have c10' : xup ct (t, 0, 0) (some (ce E t)) (10, 0, 0) = some (.inr (5, fl ad t c)) := by rw [xup_ne _ _ t10]; exact c10
  have a10' : xup ad (t, 0, 0) q (10, 0, 0) = a2 := by rw [xup_ne _ _ t10]; exact e10
  have hw := R2.at c10'
  rw [a10'] at hw
  have R3 := R2.set c10' (.inr (5, (fl ad t c).set k (.ref q)))
  rw [a10'] at R3
  refine ⟨⟨(fl ad t c)[k]'(hk ad), ?_⟩, fun w3 e3 => ?_⟩
  · rw [xg_of hw]; exact List.getElem?_eq_getElem (hk ad)
  · rw [xp_of hw] at e3
    rw [← e3] at R3
    refine h w3 _ _ ⟨R3, a10', ?_, fun s h1 h2 => ?_, fun r hr => ?_, ?_, ?_⟩
    · rw [xup_self, hf]
    · rw [xup_ne _ _ (tg (by omega))]
      by_cases e : s = t
      · rw [e, xup_self]
      · rw [xup_ne _ _ (tg e)]; exact cs s h1 (by omega)
    · have n1 : r ≠ (10, 0, 0) := fun z => by rw [z] at hr; exact absurd hr (by show ¬ t + 1 ≤ 10; omega)
      have n2 : r ≠ (t, 0, 0) := fun z => by rw [z] at hr; exact absurd hr (by show ¬ t + 1 ≤ t; omega)
      rw [xup_ne _ _ n1, xup_ne _ _ n2]; exact cn r (by omega)
    · rw [xup_ne _ _ (tg (by omega))]; exact e0
    · have nn : ∀ r : xR, r.1 < 10 → r ≠ (t, 0, 0) := fun r hr z => by rw [z] at hr; exact absurd hr (by show ¬ t < 10; omega)
      exact c0_keep C (fun r hr => by rw [xup_ne _ _ (fun z => by rw [z] at hr; exact absurd hr (by decide)), xup_ne _ _ (nn r hr)]) (fun r hr => xup_ne _ _ (nn r hr))
theorem mo_init {post : xw_T → Prop} (hM : Mi E a1 a2 w ad ct 11 0) (h : ∀ w' ad' ct', Mi E a1 a2 w' ad' ct' 23 (-1) → post w') : wp_MO_init E post w a2 := by
  intro q1 h1 w1 e1
  refine mi_step hM (by decide) h1.1 e1 (fun _ => Nat.le_of_ble_eq_true rfl) (fun _ => rfl) (fun w ad ct hM => ?_)
  intro q1 h1 w1 e1
  refine mi_step hM (by decide) h1.1 e1 (fun _ => Nat.le_of_ble_eq_true rfl) (fun _ => rfl) (fun w ad ct hM => ?_)
  intro q1 h1 w1 e1
  refine mi_step hM (by decide) h1.1 e1 (fun _ => Nat.le_of_ble_eq_true rfl) (fun _ => rfl) (fun w ad ct hM => ?_)
  intro q1 h1 w1 e1
  refine mi_step hM (by decide) h1.1 e1 (fun _ => Nat.le_of_ble_eq_true rfl) (fun _ => rfl) (fun w ad ct hM => ?_)
  intro q1 h1 w1 e1
  refine mi_step hM (by decide) h1.1 e1 (fun _ => Nat.le_of_ble_eq_true rfl) (fun _ => rfl) (fun w ad ct hM => ?_)
  intro q1 h1 w1 e1
  refine mi_step hM (by decide) h1.1 e1 (fun _ => Nat.le_of_ble_eq_true rfl) (fun _ => rfl) (fun w ad ct hM => ?_)
  intro q1 h1 w1 e1
  refine mi_step hM (by decide) h1.1 e1 (fun _ => Nat.le_of_ble_eq_true rfl) (fun _ => rfl) (fun w ad ct hM => ?_)
  intro q1 h1 w1 e1
  refine mi_step hM (by decide) h1.1 e1 (fun _ => Nat.le_of_ble_eq_true rfl) (fun _ => rfl) (fun w ad ct hM => ?_)
  intro q1 h1 w1 e1
  refine mi_step hM (by decide) h1.1 e1 (fun _ => Nat.le_of_ble_eq_true rfl) (fun _ => rfl) (fun w ad ct hM => ?_)
  intro q1 h1 w1 e1
  refine mi_step hM (by decide) h1.1 e1 (fun _ => Nat.le_of_ble_eq_true rfl) (fun _ => rfl) (fun w ad ct hM => ?_)
  intro q1 h1 w1 e1
  refine mi_step hM (by decide) h1.1 e1 (fun _ => Nat.le_of_ble_eq_true rfl) (fun _ => rfl) (fun w ad ct hM => ?_)
  intro q1 h1 w1 e1
  refine mi_step hM (by decide) h1.1 e1 (fun _ => Nat.le_of_ble_eq_true rfl) (fun _ => rfl) (fun w ad ct hM => ?_)
  obtain ⟨R, e10, c10, cs, cn, e0, C⟩ := hM
  have hw := R.at c10
  have R3 := R.set c10 (.inr (5, fl ad 23 (-1)))
  rw [e10] at hw R3
  refine ⟨⟨_, by rw [xg_of hw]; rfl⟩, fun w3 e3 => ?_⟩
  rw [xp_of hw] at e3
  have e3 : w3 = va_up w a2 (some (.inr (5, fl ad 23 (-1)))) := e3
  have hw3 : w3 a2 = some (.inr (5, fl ad 23 (-1))) := by rw [e3, va_up_self]
  refine ⟨⟨_, by rw [xg_of hw3]; rfl⟩, fun w4 e4 => ?_⟩
  rw [xp_of hw3] at e4
  have e4 : w4 = va_up w3 a2 (some (.inr (5, fl ad 23 (-1)))) := e4
  rw [e3, va_up2] at e4
  rw [← e4] at R3
  refine h w4 ad _ ⟨R3, e10, xup_self _ _ _, fun s h1 h2 => ?_, fun r hr => ?_, e0, ?_⟩
  · rw [xup_ne _ _ (tg (by omega))]; exact cs s h1 h2
  · rw [xup_ne _ _ (fun z => by rw [z] at hr; exact absurd hr (by decide))]; exact cn r hr
  · exact c0_keep C (fun r hr => xup_ne _ _ (fun z => by rw [z] at hr; exact absurd hr (by decide))) (fun _ _ => rfl)
def G0 : xG := (fun _ => 0, fun _ => 0, fun _ => 0, fun _ => 0, fun _ => 0, fun _ => 0, fun _ => 0, fun _ => 0, fun _ => 0, fun _ => 0, fun _ => 0, fun _ => 0)
theorem mi_LI (hM : Mi E a1 a2 w ad ct 23 (-1)) {q : Nat} (hq : w q = none) {w2 : xw_T} (e2 : w2 = va_up w q (some (xcL (E.1 2) 1 (fun _ => 0)))) : LI E w2 a1 a2 q := by
  obtain ⟨R, e10, c10, cs, cn, e0, C⟩ := hM
  have R2 := R.new (r := (23, 0, 0)) (cn _ (Nat.le_refl _)) hq (xcL (E.1 2) 1 (fun _ => 0))
  rw [← e2] at R2
  have n : ∀ {a : Nat}, ¬ a < 0 := fun h => Nat.not_lt_zero _ h
  have k : ∀ t : Nat, t ≠ 23 → xup ct (23, 0, 0) (some (xcL (E.1 2) 1 (fun _ => 0))) (t, 0, 0) = ct (t, 0, 0) := fun t ht => xup_ne _ _ (tg ht)
  have ka : ∀ t : Nat, t ≠ 23 → xup ad (23, 0, 0) q (t, 0, 0) = ad (t, 0, 0) := fun t ht => xup_ne _ _ (tg ht)
  refine ⟨x0, _, _, G0, 0, fun _ => 0, R2, ?_, ⟨?_, ?_, ?_, ?_, ?_, ?_, ?_, ?_, ?_, ?_, ?_, ?_, ?_⟩, ?_, fun j hj => absurd hj n, Inv_0, xup_self _ _ _, (ka _ (by decide)).trans e0, (ka _ (by decide)).trans e10, xup_self _ _ _⟩
  · exact c0_keep C (fun r hr => xup_ne _ _ (fun z => by rw [z] at hr; exact absurd hr (by decide))) (fun r hr => xup_ne _ _ (fun z => by rw [z] at hr; exact absurd hr (by decide)))
  · rw [k _ (by decide), c10]
    have e : (nI (sO x0)).toInt64 - 1 = -1 := by decide
    unfold moF hd
    rw [ka 11 (by decide), ka 12 (by decide), ka 13 (by decide), ka 14 (by decide), ka 15 (by decide), ka 16 (by decide), ka 17 (by decide), ka 18 (by decide), ka 19 (by decide), ka 20 (by decide), ka 21 (by decide), ka 22 (by decide), e]
    rfl
  · rw [k _ (by decide)]; exact cs 11 (by decide) (by decide)
  · rw [k _ (by decide)]; exact cs 12 (by decide) (by decide)
  · rw [k _ (by decide)]; exact cs 13 (by decide) (by decide)
  · rw [k _ (by decide)]; exact cs 14 (by decide) (by decide)
  · rw [k _ (by decide)]; exact cs 15 (by decide) (by decide)
  · rw [k _ (by decide)]; exact cs 16 (by decide) (by decide)
  · rw [k _ (by decide)]; exact cs 17 (by decide) (by decide)
  · rw [k _ (by decide)]; exact cs 18 (by decide) (by decide)
  · rw [k _ (by decide)]; exact cs 19 (by decide) (by decide)
  · rw [k _ (by decide)]; exact cs 20 (by decide) (by decide)
  · rw [k _ (by decide)]; exact cs 21 (by decide) (by decide)
  · rw [k _ (by decide)]; exact cs 22 (by decide) (by decide)
  · exact ⟨fun i hi => absurd hi n, fun _ _ => rfl, fun j hj => absurd hj n, fun _ _ => ⟨rfl, rfl, rfl, rfl⟩, fun k hk => absurd hk n⟩
/-- a list, made and not yet used -/
abbrev al0 (E : xE_T) : va_E := .inr (0, [.int 0, .ref (E.2 6), .int 0])
theorem pl_init {post : xw_T → Prop} {q : Nat} (h : ∀ w' ad' ct', xRp w' ad' ct' → ad' (0, 0, 0) = q → cC E ad' ct' x0 → (∀ r : xR, 10 ≤ r.1 → ct' r = none) → post w') : wp_PL_init E post (va_up (fun _ => none) q (some (.inr (4, [.null, .null, .int 0, .int 0])))) q := by
  have R0 : xRp (fun _ => none) (fun _ => 0) (fun _ => none) := ⟨fun r e he => (by cases he), fun r z hr => absurd rfl hr⟩
  have R1 := R0.new (r := (0, 0, 0)) (q := q) rfl rfl (.inr (4, [.null, .null, .int 0, .int 0]))
  intro q1 hq1 w2 e2
  refine al_init (by rw [e2, va_up_self]) ?_
  rw [e2, va_up2]
  have R2 := R1.new (r := (1, 0, 0)) (q := q1) (xup_ne _ _ (tg (by decide))) hq1.1 (al0 E)
  generalize ew3 : va_up (va_up (fun _ => none) q (some (.inr (4, [.null, .null, .int 0, .int 0])))) q1 (some (al0 E)) = w3 at R2
  have c0 : xup (xup (fun _ : xR => (none : Option va_E)) (0, 0, 0) (some (.inr (4, [.null, .null, .int 0, .int 0])))) (1, 0, 0) (some (al0 E)) (0, 0, 0) = some (.inr (4, [.null, .null, .int 0, .int 0])) := by rw [xup_ne _ _ (tg (by decide)), xup_self]
  have a0 : xup (xup (fun _ : xR => 0) (0, 0, 0) q) (1, 0, 0) q1 (0, 0, 0) = q := by rw [xup_ne _ _ (tg (by decide)), xup_self]
  have a1 : xup (xup (fun _ : xR => 0) (0, 0, 0) q) (1, 0, 0) q1 (1, 0, 0) = q1 := xup_self _ _ _
  have c1 : xup (xup (fun _ : xR => (none : Option va_E)) (0, 0, 0) (some (.inr (4, [.null, .null, .int 0, .int 0])))) (1, 0, 0) (some (al0 E)) (1, 0, 0) = some (al0 E) := xup_self _ _ _
  have cn : ∀ r : xR, r ≠ (0, 0, 0) → r ≠ (1, 0, 0) → xup (xup (fun _ : xR => (none : Option va_E)) (0, 0, 0) (some (.inr (4, [.null, .null, .int 0, .int 0])))) (1, 0, 0) (some (al0 E)) r = none := fun r h1 h2 => by rw [xup_ne _ _ h2, xup_ne _ _ h1]
  generalize xup (xup (fun _ : xR => (none : Option va_E)) (0, 0, 0) (some (.inr (4, [.null, .null, .int 0, .int 0])))) (1, 0, 0) (some (al0 E)) = ct2 at R2 c0 c1 cn
  generalize xup (xup (fun _ : xR => 0) (0, 0, 0) q) (1, 0, 0) q1 = ad2 at R2 a0 a1
  have hw := R2.at c0
  have R3 := R2.set c0 (.inr (4, [.ref q1, .null, .int 0, .int 0]))
  rw [a0] at hw R3
  refine ⟨⟨_, by rw [xg_of hw]; rfl⟩, fun w5 e5 => ?_⟩
  rw [xp_of hw] at e5
  have e5 : w5 = va_up w3 q (some (.inr (4, [.ref q1, .null, .int 0, .int 0]))) := e5
  rw [← e5] at R3
  intro q6 hq6 w7 e7
  refine al_init (by rw [e7, va_up_self]) ?_
  rw [e7, va_up2]
  have R4 := R3.new (r := (3, 0, 0)) (q := q6) (by rw [xup_ne _ _ (tg (by decide))]; exact cn _ (tg (by decide)) (tg (by decide))) hq6.1 (al0 E)
  have c0' : xup (xup ct2 (0, 0, 0) (some (.inr (4, [.ref q1, .null, .int 0, .int 0])))) (3, 0, 0) (some (al0 E)) (0, 0, 0) = some (.inr (4, [.ref q1, .null, .int 0, .int 0])) := by rw [xup_ne _ _ (tg (by decide)), xup_self]
  have a0' : xup ad2 (3, 0, 0) q6 (0, 0, 0) = q := by rw [xup_ne _ _ (tg (by decide))]; exact a0
  have hw8 := R4.at c0'
  have R5 := R4.set c0' (.inr (4, [.ref q1, .ref q6, .int 0, .int 0]))
  rw [a0'] at hw8 R5
  refine ⟨⟨_, by rw [xg_of hw8]; rfl⟩, fun w10 e10 => ?_⟩
  rw [xp_of hw8] at e10
  have e10 : w10 = va_up (va_up w5 q6 (some (al0 E))) q (some (.inr (4, [.ref q1, .ref q6, .int 0, .int 0]))) := e10
  have hw10 : w10 q = some (.inr (4, [.ref q1, .ref q6, .int 0, .int 0])) := by rw [e10, va_up_self]
  refine ⟨⟨_, by rw [xg_of hw10]; rfl⟩, fun w11 e11 => ?_⟩
  rw [xp_of hw10] at e11
  have e11 : w11 = va_up w10 q (some (.inr (4, [.ref q1, .ref q6, .int 0, .int 0]))) := e11
  rw [e10, va_up2, ← e10] at e11
  rw [e11]
  refine ⟨⟨_, by rw [xg_of hw10]; rfl⟩, fun w12 e12 => ?_⟩
  rw [xp_of hw10] at e12
  have e12 : w12 = va_up w10 q (some (.inr (4, [.ref q1, .ref q6, .int 0, .int 0]))) := e12
  rw [e10, va_up2, ← e10] at e12
  rw [e12]
  rw [← e10] at R5
  have n : ∀ {a : Nat}, ¬ a < 0 := fun h => Nat.not_lt_zero _ h
  have cx : ∀ r : xR, r ≠ (0, 0, 0) → r ≠ (1, 0, 0) → r ≠ (3, 0, 0) → xup (xup (xup ct2 (0, 0, 0) (some (.inr (4, [.ref q1, .null, .int 0, .int 0])))) (3, 0, 0) (some (al0 E))) (0, 0, 0) (some (.inr (4, [.ref q1, .ref q6, .int 0, .int 0]))) r = none := fun r h0 h1 h3 => by rw [xup_ne _ _ h0, xup_ne _ _ h3, xup_ne _ _ h0]; exact cn r h0 h1
  refine h w10 _ _ R5 a0' ⟨⟨?_, ⟨0, E.2 6, ?_, Or.inl ⟨rfl, rfl, cx _ (tg (by decide)) (tg (by decide)) (tg (by decide))⟩⟩, ⟨0, E.2 6, ?_, Or.inl ⟨rfl, rfl, cx _ (tg (by decide)) (tg (by decide)) (tg (by decide))⟩⟩⟩, fun i hi => absurd hi n, fun i hi => absurd hi n, fun i _ => cx _ (tg (by decide)) (tg (by decide)) (tg (by decide)), fun j _ => ⟨cx _ (tg (by decide)) (tg (by decide)) (tg (by decide)), cx _ (tg (by decide)) (tg (by decide)) (tg (by decide)), cx _ (tg (by decide)) (tg (by decide)) (tg (by decide)), fun k => cx _ (tg (by decide)) (tg (by decide)) (tg (by decide))⟩⟩ (fun r hr => ?_)
  · rw [xup_self]
    unfold plF
    rw [xup_ne _ _ (tg (by decide)), xup_self, a1]
    rfl
  · rw [xup_ne _ _ (tg (by decide)), xup_ne _ _ (tg (by decide)), xup_ne _ _ (tg (by decide)), c1]
    rfl
  · rw [xup_ne _ _ (tg (by decide)), xup_self]
    rfl
  · exact cx r (fun z => by rw [z] at hr; exact absurd hr (by decide)) (fun z => by rw [z] at hr; exact absurd hr (by decide)) (fun z => by rw [z] at hr; exact absurd hr (by decide))
end STA
theorem law_loop {E : xE_T} {L : Nat} {xs : Nat → Int32} {a1 a2 a3 : Nat} (hE : xEok E) (hL : L ≤ 2560) : ∀ d k w, k + d = 512 → LI E w a1 a2 a3 → wl_LA_law E L xs a1 a2 a3 (d + 1) w k (nI (5 * k)) := by
  have low : ∀ k, ¬ nI L - 5 < nI (5 * k) → k ≤ 512 → 5 * k + 5 ≤ L := by
    intro k q hk
    have q : ¬ nI L - nI 5 < nI (5 * k) := q
    rw [Int32.lt_iff_toInt_lt, pk_sub_toInt (by omega) (by decide), nI_toInt (by omega)] at q
    omega
  intro d
  induction d with
  | zero =>
    intro k w hk h
    refine ⟨by omega, fun q => ?_⟩
    have := low k q (by omega)
    omega
  | succ d ih =>
    intro k w hk h
    refine ⟨by omega, fun q => ?_⟩
    have hl := low k q (by omega)
    have v0 : vp_in (nI (5 * k)) L := vp_in_nI (by omega) (by omega)
    have v : ∀ n, n ≤ 4 → vp_in (nI (5 * k) + nI n) L := fun n hn => by rw [nI_add]; exact vp_in_nI (by omega) (by omega)
    have v1 : vp_in (nI (5 * k) + 1) L := v 1 (by decide)
    have v2 : vp_in (nI (5 * k) + 2) L := v 2 (by decide)
    have v3 : vp_in (nI (5 * k) + 3) L := v 3 (by decide)
    have v4 : vp_in (nI (5 * k) + 4) L := v 4 (by decide)
    have hK : ∀ w', LI E w' a1 a2 a3 → wl_LA_law E L xs a1 a2 a3 (d + 1) w' (k + 1) (nI (5 * k) + 5) := by
      intro w' h'
      have := ih (k + 1) w' (by omega) h'
      rw [show 5 * (k + 1) = 5 * k + 5 by omega, ← nI_add] at this
      exact this
    exact ⟨v0, fun _ => cs_104 h hK v1 v2, fun _ => cs_141 h hK v1 v2, fun _ => cs_198 hE h hK v1 v2 v3 v4, fun _ => cs_279 hE h hK v1, fun _ => cs_335 hE h hK v1 v2 v3, fun _ => cs_405 h hK v1 v2, fun _ => cs_462 hE h hK v1, fun _ => cs_487 h hK v1 v2 v3 v4, fun _ => cs_568 h hK v1 v2 v3, fun _ => cs_637 hE h hK v1 v2, fun _ => cs_690 hE h hK v1, fun _ => cs_716 h hK, fun _ => cs_729 h hK, fun _ => hK w h⟩
theorem whole_pure {E : xE_T} {L : Nat} {xs : Nat → Int32} (hE : xEok E) (hL : L ≤ 2560) : wp_LA_law E L xs (fun _ => none) := by
  intro q1 _ w2 e2
  rw [e2]
  refine pl_init (fun w4 ad4 ct4 R4 a4 C4 n4 => ?_)
  intro q5 hq5 w6 e6
  have R6 := R4.new (r := (10, 0, 0)) (n4 _ (Nat.le_refl _)) hq5.1 (.inr (5, [.int 0, .int 0, .null, .null, .null, .int 0, .null, .null, .null, .null, .null, .null, .null, .null, .int 0, .null, .long 0]))
  rw [← e6] at R6
  refine mo_init (a1 := q1) (ad := xup ad4 (10, 0, 0) q5) (ct := _) ⟨R6, xup_self _ _ _, ?_, fun s h1 h2 => by omega, fun r hr => ?_, ?_, ?_⟩ (fun w8 ad8 ct8 M8 => ?_)
  · rw [xup_self]; rfl
  · rw [xup_ne _ _ (fun z => by rw [z] at hr; exact absurd hr (by decide))]; exact n4 r (by omega)
  · rw [xup_ne _ _ (tg (by decide))]; exact a4
  · exact c0_keep C4 (fun r hr => xup_ne _ _ (fun z => by rw [z] at hr; exact absurd hr (by decide))) (fun r hr => xup_ne _ _ (fun z => by rw [z] at hr; exact absurd hr (by decide)))
  · intro q9 hq9 w10 e10
    exact ⟨513, law_loop hE hL 512 0 w10 (by decide) (mi_LI M8 hq9.1 e10)⟩
