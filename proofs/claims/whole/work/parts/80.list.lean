/-! THE LIST (java.util.ArrayList), BY NAMES: r is the list's name, ra its array's -/
def xcaps : List Nat := [10, 15, 22, 33, 49, 73, 109, 163, 244, 366]
theorem xcaps_le {c : Nat} (h : c ∈ xcaps) : 10 ≤ c ∧ c ≤ 366 := by
  simp only [xcaps, List.mem_cons, List.not_mem_nil, or_false] at h
  omega
theorem xcaps_grow {c : Nat} (h : c ∈ xcaps) (hc : c < 300) : c + c / 2 ∈ xcaps := by
  simp only [xcaps, List.mem_cons, List.not_mem_nil, or_false] at h ⊢
  omega
abbrev alF (mc : Int32) (a n : Nat) : List Value := [.int mc, .ref a, .int (nI n)]
def nLs (E : xE_T) (ad : xR → Nat) (ct : xR → Option va_E) (r ra : xR) (n : Nat) (f : Nat → Nat) : Prop :=
  ∃ (mc : Int32) (a : Nat), ct r = some (.inr (0, alF mc a n)) ∧ ((n = 0 ∧ a = E.2 6 ∧ ct ra = none) ∨ (a = ad ra ∧ a ≠ E.2 6 ∧ ∃ (cap : Nat) (g : Nat → Option Nat), ct ra = some (xcQ (E.1 0) cap g) ∧ n ≤ cap ∧ cap ∈ xcaps ∧ ∀ i, i < n → g i = some (f i)))
section NL
variable {E : xE_T} {w : xw_T}
theorem al_size {post : Int32 → xw_T → Prop} {L a n : Nat} {mc : Int32} (hL : w L = some (.inr (0, alF mc a n))) (h : post (nI n) w) : wp_AL_size E post w L := ⟨nI n, by rw [xgI, xg_of hL]; rfl, h⟩
theorem al_isEmpty {post : Int32 → xw_T → Prop} {L a n : Nat} {mc : Int32} (hL : w L = some (.inr (0, alF mc a n))) (hn : n < 2 ^ 31) (h : post (if n = 0 then 1 else 0) w) : wp_AL_isEmpty E post w L := by
  refine ⟨nI n, by rw [xgI, xg_of hL]; rfl, fun h1 => ?_, fun h1 => ?_⟩
  · rw [if_neg (fun e => h1 (by rw [e]; exact nI_0))] at h; exact h
  · rw [if_pos ((nI_eq hn (by decide)).mp (h1.trans nI_0.symm))] at h; exact h
theorem al_get {post : Option Nat → xw_T → Prop} {L a n cap i : Nat} {mc : Int32} {g : Nat → Option Nat} (hL : w L = some (.inr (0, alF mc a n))) (ha : w a = some (xcQ (E.1 0) cap g)) (hi : i < n) (hc : n ≤ cap) (hcap : cap < 2 ^ 31) (h : post (g i) w) : wp_AL_get E post w L (nI i) := by
  refine ⟨nI n, by rw [xgI, xg_of hL]; rfl, fun hh => absurd hh (nI_pos (by omega)), fun _ => ⟨fun _ => ?_, fun hh => absurd (nI_lt hi (by omega)) hh⟩⟩
  exact ⟨⟨_, hL⟩, some a, by rw [xgR, xg_of hL]; rfl, a, rfl, cap, g, xaQ_of ha, vp_in_nI (by omega) hcap, g i, by rw [nI_clamp (by omega)], h⟩
theorem nl_size {ad : xR → Nat} {ct : xR → Option va_E} {r ra : xR} {n : Nat} {f : Nat → Nat} {post : Int32 → xw_T → Prop} (hR : xRp w ad ct) (hl : nLs E ad ct r ra n f) (h : post (nI n) w) : wp_AL_size E post w (ad r) := by
  obtain ⟨mc, a, h1, -⟩ := hl
  exact al_size (hR.at h1) h
theorem nl_isEmpty {ad : xR → Nat} {ct : xR → Option va_E} {r ra : xR} {n : Nat} {f : Nat → Nat} {post : Int32 → xw_T → Prop} (hR : xRp w ad ct) (hl : nLs E ad ct r ra n f) (hn : n < 2 ^ 31) (h : post (if n = 0 then 1 else 0) w) : wp_AL_isEmpty E post w (ad r) := by
  obtain ⟨mc, a, h1, -⟩ := hl
  exact al_isEmpty (hR.at h1) hn h
theorem nl_recv {ad : xR → Nat} {ct : xR → Option va_E} {r ra : xR} {n : Nat} {f : Nat → Nat} (hR : xRp w ad ct) (hl : nLs E ad ct r ra n f) : ∃ fs, w (ad r) = some (.inr (0, fs)) := by
  obtain ⟨mc, a, h1, -⟩ := hl
  exact ⟨_, hR.at h1⟩
theorem nl_get {ad : xR → Nat} {ct : xR → Option va_E} {r ra : xR} {n i : Nat} {f : Nat → Nat} {post : Option Nat → xw_T → Prop} (hR : xRp w ad ct) (hl : nLs E ad ct r ra n f) (hi : i < n) (h : post (some (f i)) w) : wp_AL_get E post w (ad r) (nI i) := by
  obtain ⟨mc, a, h1, h2⟩ := hl
  rcases h2 with ⟨h3, -⟩ | ⟨h3, -, cap, g, h4, h5, h6, h7⟩
  · omega
  · have hc := xcaps_le h6
    have ha := hR.at h4
    rw [← h3] at ha
    exact al_get (hR.at h1) ha hi h5 (by omega) (by rw [h7 i hi]; exact h)
theorem xOb_up {z v : Nat} {e : Option va_E} (h : xOb w v) (hz : v ≠ z) : xOb (va_up w z e) v := by
  obtain ⟨vs, h⟩ := h
  refine ⟨vs, ?_⟩
  rw [va_up_ne _ _ hz]
  exact h
theorem xOb_ne {z v : Nat} (h : xOb w v) (hz : w z = none ∨ (∃ x, w z = some (.inl x)) ∨ (∃ fs, w z = some (.inr (0, fs)))) : v ≠ z := by
  rintro rfl
  obtain ⟨vs, h⟩ := h
  rcases hz with hz | ⟨x, hz⟩ | ⟨fs, hz⟩ <;> rcases h with h | h | h <;> rw [h] at hz <;> cases hz
/-- add, the array has room -/
theorem al_add1 {post : Int32 → xw_T → Prop} {L a n cap x : Nat} {mc : Int32} {g : Nat → Option Nat} (hL : w L = some (.inr (0, alF mc a n))) (ha : w a = some (xcQ (E.1 0) cap g)) (h6 : a ≠ E.2 6) (hn : n < cap) (hcap : cap < 2 ^ 31) (hx : xOb w x)
    (h : post 1 (va_up (va_up w a (some (xcQ (E.1 0) cap (va_up g n (some x))))) L (some (.inr (0, alF (mc + 1) a (n + 1)))))) : wp_AL_add E post w L (some x) := by
  have hLa : L ≠ a := fun e => by rw [e, ha] at hL; cases hL
  refine ⟨mc, by rw [xgI, xg_of hL]; rfl, ⟨_, by rw [xg_of hL]; rfl⟩, fun w2 e2 => ?_⟩
  rw [xp_of hL] at e2
  have hL2 : w2 L = some (.inr (0, alF (mc + 1) a n)) := by rw [e2, va_up_self]; rfl
  have ha2 : w2 a = some (xcQ (E.1 0) cap g) := by rw [e2, va_up_ne _ _ (Ne.symm hLa)]; exact ha
  have hx2 : xOb w2 x := by rw [e2]; exact xOb_up hx (xOb_ne hx (Or.inr (Or.inr ⟨_, hL⟩)))
  refine ⟨some a, by rw [xgR, xg_of hL2]; rfl, nI n, by rw [xgI, xg_of hL2]; rfl, ⟨_, hL2⟩, a, rfl, cap, ?_, fun _ => ?_, fun he => ?_⟩
  · unfold xlen
    rw [if_neg (fun e => h6 e.1)]
    unfold xaE
    rw [ha2]
    simp
  · refine ⟨x, rfl, cap, g, xaQ_of ha2, hx2, vp_in_nI hn hcap, fun w6 e6 => ?_⟩
    rw [nI_clamp (by omega)] at e6
    have hL6 : w6 L = some (.inr (0, alF (mc + 1) a n)) := by rw [e6, va_up_ne _ _ hLa]; exact hL2
    refine ⟨⟨_, by rw [xg_of hL6]; rfl⟩, fun w7 e7 => ?_⟩
    rw [xp_of hL6, nI_1] at e7
    have e99 : w7 = va_up (va_up w a (some (xcQ (E.1 0) cap (va_up g n (some x))))) L (some (.inr (0, alF (mc + 1) a (n + 1)))) := by
      rw [e7, e6, e2]
      funext z
      by_cases h1 : z = L
      · simp [va_up, h1]
      · by_cases h2 : z = a <;> simp [va_up, h1, h2]
    rw [e99]
    exact h
  · exact absurd ((nI_eq (by omega) hcap).mp he) (by omega)
theorem up3 {L a : Nat} {e1 c1 e2 : Option va_E} : va_up (va_up (va_up w L e1) a c1) L e2 = va_up (va_up w a c1) L e2 := by
  funext z
  by_cases h1 : z = L
  · simp [va_up, h1]
  · by_cases h2 : z = a <;> simp [va_up, h1, h2]
theorem up5 {L q : Nat} {e1 c1 e2 c2 e3 : Option va_E} : va_up (va_up (va_up (va_up (va_up w L e1) q c1) L e2) q c2) L e3 = va_up (va_up w q c2) L e3 := by
  funext z
  by_cases h1 : z = L
  · simp [va_up, h1]
  · by_cases h2 : z = q <;> simp [va_up, h1, h2]
theorem up6 {L q : Nat} {e1 c1 c11 e2 c2 e3 : Option va_E} : va_up (va_up (va_up (va_up (va_up (va_up w L e1) q c1) q c11) L e2) q c2) L e3 = va_up (va_up w q c2) L e3 := by
  funext z
  by_cases h1 : z = L
  · simp [va_up, h1]
  · by_cases h2 : z = q <;> simp [va_up, h1, h2]
theorem xlen_own {a cap : Nat} {g : Nat → Option Nat} (ha : w a = some (xcQ (E.1 0) cap g)) (h6 : a ≠ E.2 6) : xlen E w a 0 = some cap := by
  unfold xlen
  rw [if_neg (fun e => h6 e.1)]
  unfold xaE
  rw [ha]
  simp
theorem xlen_6 : xlen E w (E.2 6) 0 = some 0 := by
  unfold xlen
  rw [if_pos ⟨rfl, rfl⟩]
/-- add, the first of all -/
theorem al_add0 {post : Int32 → xw_T → Prop} {L x : Nat} {mc : Int32} (hL : w L = some (.inr (0, alF mc (E.2 6) 0))) (hx : xOb w x)
    (h : ∀ q : Nat, w q = none → q ≠ E.2 6 → post 1 (va_up (va_up w q (some (xcQ (E.1 0) 10 (va_up (fun _ => none) 0 (some x))))) L (some (.inr (0, alF (mc + 1) q 1))))) : wp_AL_add E post w L (some x) := by
  refine ⟨mc, by rw [xgI, xg_of hL]; rfl, ⟨_, by rw [xg_of hL]; rfl⟩, fun w2 e2 => ?_⟩
  rw [xp_of hL] at e2
  have hL2 : w2 L = some (.inr (0, alF (mc + 1) (E.2 6) 0)) := by rw [e2, va_up_self]; rfl
  have hx2 : xOb w2 x := by rw [e2]; exact xOb_up hx (xOb_ne hx (Or.inr (Or.inr ⟨_, hL⟩)))
  have hxL : x ≠ L := xOb_ne hx (Or.inr (Or.inr ⟨_, hL⟩))
  refine ⟨some (E.2 6), by rw [xgR, xg_of hL2]; rfl, nI 0, by rw [xgI, xg_of hL2]; rfl, ⟨_, hL2⟩, E.2 6, rfl, 0, xlen_6, fun hh => absurd rfl hh, fun _ => ⟨⟨_, hL2⟩, nI 0, by rw [xgI, xg_of hL2]; rfl, ⟨_, hL2⟩, some (E.2 6), by rw [xgR, xg_of hL2]; rfl, E.2 6, rfl, 0, xlen_6, fun hh => absurd hh (by decide), fun _ => ⟨some (E.2 6), by rw [xgR, xg_of hL2]; rfl, fun _ => ?_, fun hh => absurd rfl hh⟩⟩⟩
  intro r11 e11
  have e11 : r11 = 10 := e11.trans (by decide)
  subst e11
  refine ⟨10, by decide, by decide, by decide, fun q hq w13 e13 => ?_⟩
  have hqL : q ≠ L := fun e => by rw [e, hL2] at hq; cases hq.1
  have hq0 : w q = none := by have h9 := hq.1; rw [e2, va_up_ne _ _ hqL] at h9; exact h9
  have hL3 : w13 L = some (.inr (0, alF (mc + 1) (E.2 6) 0)) := by rw [e13, va_up_ne _ _ (Ne.symm hqL)]; exact hL2
  refine ⟨⟨_, by rw [xg_of hL3]; rfl⟩, fun w15 e15 => ?_⟩
  rw [xp_of hL3] at e15
  have hL5 : w15 L = some (.inr (0, alF (mc + 1) q 0)) := by rw [e15, va_up_self]; rfl
  have hq5 : w15 q = some (xcQ (E.1 0) 10 (fun _ => none)) := by rw [e15, va_up_ne _ _ hqL, e13, va_up_self]
  have hxq : x ≠ q := xOb_ne hx (Or.inl hq0)
  have hx5 : xOb w15 x := by rw [e15, e13]; exact xOb_up (xOb_up hx2 hxq) hxL
  refine ⟨x, rfl, q, rfl, 10, (fun _ => none), xaQ_of hq5, hx5, vp_in_nI (by decide) (by decide), fun w14 e14 => ?_⟩
  have hL14 : w14 L = some (.inr (0, alF (mc + 1) q 0)) := by rw [e14, va_up_ne _ _ (Ne.symm hqL)]; exact hL5
  refine ⟨⟨_, by rw [xg_of hL14]; rfl⟩, fun w16 e16 => ?_⟩
  rw [xp_of hL14] at e16
  have e9 : w16 = va_up (va_up w q (some (xcQ (E.1 0) 10 (va_up (fun _ => none) 0 (some x))))) L (some (.inr (0, alF (mc + 1) q 1))) := by
    rw [e16, e14, e15, e13, e2, up5]
    rfl
  rw [e9]
  exact h q hq0 hq.2
/-- add, the array is full -/
theorem al_addG {post : Int32 → xw_T → Prop} {L a cap x : Nat} {mc : Int32} {g : Nat → Option Nat} (hL : w L = some (.inr (0, alF mc a cap))) (ha : w a = some (xcQ (E.1 0) cap g)) (h6 : a ≠ E.2 6) (h10 : 10 ≤ cap) (hn : cap + cap / 2 ≤ 366) (hx : xOb w x) (hel : ∀ i, i < cap → ∀ y, g i = some y → xOb w y)
    (h : ∀ q : Nat, w q = none → q ≠ E.2 6 → post 1 (va_up (va_up w q (some (xcQ (E.1 0) (cap + cap / 2) (va_up (va_cpy g (fun _ => none) 0 0 cap) cap (some x))))) L (some (.inr (0, alF (mc + 1) q (cap + 1)))))) : wp_AL_add E post w L (some x) := by
  have hLa : L ≠ a := fun e => by rw [e, ha] at hL; cases hL
  have hxL : x ≠ L := xOb_ne hx (Or.inr (Or.inr ⟨_, hL⟩))
  have hxa : x ≠ a := xOb_ne hx (Or.inr (Or.inl ⟨_, ha⟩))
  refine ⟨mc, by rw [xgI, xg_of hL]; rfl, ⟨_, by rw [xg_of hL]; rfl⟩, fun w2 e2 => ?_⟩
  rw [xp_of hL] at e2
  have hL2 : w2 L = some (.inr (0, alF (mc + 1) a cap)) := by rw [e2, va_up_self]; rfl
  have ha2 : w2 a = some (xcQ (E.1 0) cap g) := by rw [e2, va_up_ne _ _ (Ne.symm hLa)]; exact ha
  have hob2 : ∀ y, xOb w y → xOb w2 y := fun y hy => by rw [e2]; exact xOb_up hy (xOb_ne hy (Or.inr (Or.inr ⟨_, hL⟩)))
  have hpos : 0 < nI cap := by rw [← nI_0]; exact nI_lt (by omega) (by omega)
  refine ⟨some a, by rw [xgR, xg_of hL2]; rfl, nI cap, by rw [xgI, xg_of hL2]; rfl, ⟨_, hL2⟩, a, rfl, cap, xlen_own ha2 h6, fun hh => absurd rfl hh, fun _ => ⟨⟨_, hL2⟩, nI cap, by rw [xgI, xg_of hL2]; rfl, ⟨_, hL2⟩, some a, by rw [xgR, xg_of hL2]; rfl, a, rfl, cap, xlen_own ha2 h6, fun _ => ?_, fun hh => absurd hpos hh⟩⟩
  have es : nI cap >>> ((1 : Int32) &&& 31) = nI (cap / 2) := by
    have k := pk_shrN (n := cap) (by omega) ((1 : Int32) &&& 31) 1 (by decide)
    rw [Nat.pow_one] at k
    exact k
  have ed : nI cap + 1 - nI cap = nI 1 := by
    rw [nI_1]
    have k := pk_sub (a := cap + 1) (b := cap) (by omega)
    rw [Nat.add_sub_cancel_left] at k
    exact k
  intro r1 e1
  rw [ed, es, if_pos (nI_lt (by omega) (by omega))] at e1
  subst e1
  rw [nI_add]
  refine ⟨fun hh => absurd hh (nI_nle (by omega) (by omega)), fun _ => ⟨fun hh => absurd hh (show ¬ nI 2147483639 < nI (cap + cap / 2) from nI_nlt (by omega) (by decide)), fun _ => ?_⟩⟩
  refine ⟨some a, by rw [xgR, xg_of hL2]; rfl, a, rfl, ⟨cap, g, xaQ_of ha2⟩, fun hh => absurd rfl hh, fun _ => ⟨cap + cap / 2, nI_pos (by omega), nI_clamp (by omega), hn, fun q hq w3 e3 => ?_⟩⟩
  have hqL : q ≠ L := fun e => by rw [e, hL2] at hq; cases hq.1
  have hqa : q ≠ a := fun e => by rw [e, ha2] at hq; cases hq.1
  have hq0 : w q = none := by have h9 := hq.1; rw [e2, va_up_ne _ _ hqL] at h9; exact h9
  have ha3 : w3 a = some (xcQ (E.1 0) cap g) := by rw [e3, va_up_ne _ _ (Ne.symm hqa)]; exact ha2
  have hq3 : w3 q = some (xcQ (E.1 0) (cap + cap / 2) (fun _ => none)) := by rw [e3, va_up_self]
  have hL3 : w3 L = some (.inr (0, alF (mc + 1) a cap)) := by rw [e3, va_up_ne _ _ (Ne.symm hqL)]; exact hL2
  have hob3 : ∀ y, xOb w y → xOb w3 y := fun y hy => by rw [e3]; exact xOb_up (hob2 y hy) (xOb_ne hy (Or.inl hq0))
  refine ⟨a, rfl, cap, xlen_own ha3 h6, fun r6 e6 => ?_⟩
  rw [if_neg (nI_nlt (by omega) (by omega))] at e6
  subst e6
  have ec : (nI cap).toNatClampNeg = cap := nI_clamp (by omega)
  have e0 : (0 : Int32).toNatClampNeg = 0 := by decide
  refine ⟨cap, g, cap + cap / 2, (fun _ => none), xaQ_of ha3, xaQ_of hq3, ⟨by decide, by decide, nI_pos (by omega), by rw [e0, ec]; omega, by rw [e0, ec]; omega⟩, fun i hi y hy => ?_, fun w11 e11 => ?_⟩
  · rw [e0, Nat.zero_add] at hy
    rw [ec] at hi
    exact hob3 y (hel i hi y hy)
  · rw [e0, ec] at e11
    have hL11 : w11 L = some (.inr (0, alF (mc + 1) a cap)) := by rw [e11, va_up_ne _ _ (Ne.symm hqL)]; exact hL3
    refine ⟨⟨_, by rw [xg_of hL11]; rfl⟩, fun w9 e9 => ?_⟩
    rw [xp_of hL11] at e9
    have hL9 : w9 L = some (.inr (0, alF (mc + 1) q cap)) := by rw [e9, va_up_self]; rfl
    have hq9 : w9 q = some (xcQ (E.1 0) (cap + cap / 2) (va_cpy g (fun _ => none) 0 0 cap)) := by rw [e9, va_up_ne _ _ hqL, e11, va_up_self]
    have hx9 : xOb w9 x := by rw [e9, e11]; exact xOb_up (xOb_up (hob3 x hx) (xOb_ne hx (Or.inl hq0))) hxL
    refine ⟨x, rfl, q, rfl, cap + cap / 2, _, xaQ_of hq9, hx9, vp_in_nI (by omega) (by omega), fun w14 e14 => ?_⟩
    rw [ec] at e14
    have hL14 : w14 L = some (.inr (0, alF (mc + 1) q cap)) := by rw [e14, va_up_ne _ _ (Ne.symm hqL)]; exact hL9
    refine ⟨⟨_, by rw [xg_of hL14]; rfl⟩, fun w16 e16 => ?_⟩
    rw [xp_of hL14, nI_1] at e16
    have e99 : w16 = va_up (va_up w q (some (xcQ (E.1 0) (cap + cap / 2) (va_up (va_cpy g (fun _ => none) 0 0 cap) cap (some x))))) L (some (.inr (0, alF (mc + 1) q (cap + 1)))) := by
      rw [e16, e14, e9, e11, e3, e2, up6]
      rfl
    rw [e99]
    exact h q hq0 hq.2
theorem xRp.drop {ad : xR → Nat} {ct : xR → Option va_E} (h : xRp w ad ct) (r : xR) : xRp w ad (xup ct r none) := by
  refine h.mono (fun z e hz => ?_) (fun _ _ => rfl)
  by_cases k : z = r
  · rw [k, xup_self] at hz; cases hz
  · rw [xup_ne _ _ k] at hz; exact hz
theorem nl_add {ad : xR → Nat} {ct : xR → Option va_E} {r ra : xR} {n x : Nat} {f : Nat → Nat} {post : Int32 → xw_T → Prop} (hR : xRp w ad ct) (hl : nLs E ad ct r ra n f) (hn : n < 300) (hrr : r ≠ ra) (hx : xOb w x) (hel : ∀ i, i < n → xOb w (f i))
    (h : ∀ (w' : xw_T) (ad' : xR → Nat) (ct' : xR → Option va_E), xRp w' ad' ct' → nLs E ad' ct' r ra (n + 1) (fun i => if i = n then x else f i) → (∀ z, z ≠ r → z ≠ ra → ct' z = ct z) → (∀ z, z ≠ ra → ad' z = ad z) → post 1 w') : wp_AL_add E post w (ad r) (some x) := by
  obtain ⟨mc, a, h1, h2⟩ := hl
  rcases h2 with ⟨rfl, rfl, h3⟩ | ⟨h3, h4, cap, g, h5, h6, h7, h8⟩
  · refine al_add0 (hR.at h1) hx (fun q hq hq6 => ?_)
    have R1 := hR.new h3 hq (xcQ (E.1 0) 10 (va_up (fun _ => none) 0 (some x)))
    have e1 : xup ad ra q r = ad r := xup_ne _ _ hrr
    have R2 := R1.set (r := r) (e0 := .inr (0, alF mc (E.2 6) 0)) (by rw [xup_ne _ _ hrr]; exact h1) (.inr (0, alF (mc + 1) q 1))
    rw [e1] at R2
    refine h _ _ _ R2 ⟨mc + 1, q, by rw [xup_self], Or.inr ⟨by rw [xup_self], hq6, 10, _, by rw [xup_ne _ _ (Ne.symm hrr), xup_self], by omega, by decide, fun i hi => ?_⟩⟩ (fun z z1 z2 => by rw [xup_ne _ _ z1, xup_ne _ _ z2]) (fun z z1 => xup_ne _ _ z1)
    have hi0 : i = 0 := by omega
    subst hi0
    simp [va_up]
  · have hc := xcaps_le h7
    by_cases hfull : n < cap
    · have ha : w a = some (xcQ (E.1 0) cap g) := by rw [h3]; exact hR.at h5
      refine al_add1 (hR.at h1) ha h4 hfull (by omega) hx ?_
      have R1 := hR.set h5 (xcQ (E.1 0) cap (va_up g n (some x)))
      have R2 := R1.set (r := r) (e0 := .inr (0, alF mc a n)) (by rw [xup_ne _ _ hrr]; exact h1) (.inr (0, alF (mc + 1) a (n + 1)))
      rw [← h3] at R2
      refine h _ _ _ R2 ⟨mc + 1, a, by rw [xup_self], Or.inr ⟨h3, h4, cap, _, by rw [xup_ne _ _ (Ne.symm hrr), xup_self], by omega, h7, fun i hi => ?_⟩⟩ (fun z z1 z2 => by rw [xup_ne _ _ z1, xup_ne _ _ z2]) (fun _ _ => rfl)
      by_cases hin : i = n
      · subst hin; simp [va_up]
      · rw [va_up_ne _ _ hin]
        show g i = some (if i = n then x else f i)
        rw [if_neg hin]; exact h8 i (by omega)
    · have hcn : n = cap := by omega
      subst hcn
      have ha : w a = some (xcQ (E.1 0) n g) := by rw [h3]; exact hR.at h5
      have hg := xcaps_grow h7 hn
      refine al_addG (hR.at h1) ha h4 hc.1 (xcaps_le hg).2 hx (fun i hi y hy => ?_) (fun q hq hq6 => ?_)
      · rw [h8 i hi] at hy
        cases hy
        exact hel i hi
      · have R1 := (hR.drop ra).new (r := ra) (xup_self _ _ _) hq (xcQ (E.1 0) (n + n / 2) (va_up (va_cpy g (fun _ => none) 0 0 n) n (some x)))
        have e1 : xup ad ra q r = ad r := xup_ne _ _ hrr
        have R2 := R1.set (r := r) (e0 := .inr (0, alF mc a n)) (by rw [xup_ne _ _ hrr, xup_ne _ _ hrr]; exact h1) (.inr (0, alF (mc + 1) q (n + 1)))
        rw [e1] at R2
        refine h _ _ _ R2 ⟨mc + 1, q, by rw [xup_self], Or.inr ⟨by rw [xup_self], hq6, n + n / 2, _, by rw [xup_ne _ _ (Ne.symm hrr), xup_self], by omega, hg, fun i hi => ?_⟩⟩ (fun z z1 z2 => by rw [xup_ne _ _ z1, xup_ne _ _ z2, xup_ne _ _ z2]) (fun z z1 => xup_ne _ _ z1)
        by_cases hin : i = n
        · subst hin; simp [va_up]
        · rw [va_up_ne _ _ hin]
          show va_cpy g (fun _ => none) 0 0 n i = some (if i = n then x else f i)
          rw [if_neg hin, pk_cpy_in (by omega) (by omega), show 0 + (i - 0) = i by omega]
          exact h8 i (by omega)
/-- a new list -/
theorem al_init {post : xw_T → Prop} {L : Nat} {x y z : Value} (hL : w L = some (.inr (0, [x, y, z]))) (h : post (va_up w L (some (.inr (0, [.int 0, .ref (E.2 6), z]))))) : wp_AL_init E post w L := by
  refine ⟨⟨_, by rw [xg_of hL]; rfl⟩, fun w3 e3 => ?_⟩
  rw [xp_of hL] at e3
  have h3 : w3 L = some (.inr (0, [.int 0, y, z])) := by rw [e3, va_up_self]; rfl
  refine ⟨⟨_, by rw [xg_of h3]; rfl⟩, fun w4 e4 => ?_⟩
  rw [xp_of h3] at e4
  have e9 : w4 = va_up w L (some (.inr (0, [.int 0, .ref (E.2 6), z]))) := by
    rw [e4, e3]
    funext t
    by_cases h1 : t = L <;> simp [va_up, h1]
  rw [e9]
  exact h
end NL
