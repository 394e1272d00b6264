/-! THE CLASS'S WRITING METHODS, the rest -/
section PLM2
variable {E : xE_T} {w : xw_T} {ad : xR → Nat} {ct : xR → Option va_E} {x : xSt} {m : Nat}
/-- what comes of a posting: 5 refused, 4 failed by plan, 3 posted -/
def oSum (x : xSt) (j : Nat) : Prop := bC x j ≠ 0 ∧ sumL (rV x j) (bC x j) = 0
def o5 (x : xSt) (j : Nat) : Prop := ¬ oSum x j ∨ (oSum x j ∧ ((bF x j = true ∧ brk x j 0) ∨ (bF x j = false ∧ ∃ k, k < bC x j ∧ brk x j k)))
def o4 (x : xSt) (j : Nat) : Prop := oSum x j ∧ bF x j = true ∧ ¬ brk x j 0
def o3 (x : xSt) (j : Nat) : Prop := oSum x j ∧ bF x j = false ∧ ∀ k, k < bC x j → ¬ brk x j k
theorem o_any (x : xSt) (j : Nat) : o5 x j ∨ o4 x j ∨ o3 x j := by
  by_cases h : oSum x j
  · cases hb : bF x j with
    | true =>
      by_cases h0 : brk x j 0
      · exact Or.inl (Or.inr ⟨h, Or.inl ⟨hb, h0⟩⟩)
      · exact Or.inr (Or.inl ⟨h, hb, h0⟩)
    | false =>
      by_cases h0 : ∃ k, k < bC x j ∧ brk x j k
      · exact Or.inl (Or.inr ⟨h, Or.inr ⟨hb, h0⟩⟩)
      · exact Or.inr (Or.inr ⟨h, hb, fun k hk z => h0 ⟨k, hk, z⟩⟩)
  · exact Or.inl (Or.inl h)
theorem o_54 {j : Nat} (h : o5 x j) (g : o4 x j) : False := by
  rcases h with h | ⟨_, ⟨_, h⟩ | ⟨h, _⟩⟩
  · exact h g.1
  · exact g.2.2 h
  · rw [g.2.1] at h; cases h
theorem o_53 {j : Nat} (h : o5 x j) (g : o3 x j) : False := by
  rcases h with h | ⟨_, ⟨h, _⟩ | ⟨_, k, hk, h⟩⟩
  · exact h g.1
  · rw [g.2.1] at h; cases h
  · exact g.2.2 k hk h
theorem o_43 {j : Nat} (h : o4 x j) (g : o3 x j) : False := by
  have := h.2.1
  rw [g.2.1] at this; cases this
/-- a batch that may be posted as to its standing and its day -/
def mayP (x : xSt) (j : Nat) : Prop := bS x j = 0 ∧ ¬ (nI (bD x j)).toInt64 < (nI (sO x)).toInt64
theorem pl_post {post : Int32 → xw_T → Prop} {postT : xw_T → Prop} (hK : xEok E) (hR : xRp w ad ct) (hC : cC E ad ct x) (hO : sOk x) (p : Int32) (h1 : num p (sB x) = none → post (-2000000001) w)
    (hS : ∀ j, num p (sB x) = some j → j < sB x → ¬ mayP x j → post (-2000000003) w)
    (h5 : ∀ j, num p (sB x) = some j → j < sB x → mayP x j → o5 x j → ∀ w' ct', xRp w' ad ct' → cC E ad ct' (uSt x j 2) → Fr ad ad ct ct' → postT w')
    (h4 : ∀ j, num p (sB x) = some j → j < sB x → mayP x j → o4 x j → ∀ w' ct', xRp w' ad ct' → cC E ad ct' (uSt x j 2) → Fr ad ad ct ct' → post 0 w')
    (h3 : ∀ j, num p (sB x) = some j → j < sB x → mayP x j → o3 x j → ∀ w' ct', xRp w' ad ct' → cC E ad ct' (uPost x j) → Fr ad ad ct ct' → post 1 w') : wp_PL_post E post postT w (ad (0, 0, 0)) p := by
  have hP := pl_at hR hC
  have hnB := hO.2.1
  refine ⟨⟨_, hP⟩, pl_findBatch hR hC hO p ⟨fun q => ?_, fun q => h1 (num_map.mp q)⟩⟩
  obtain ⟨j, ej⟩ := Option.ne_none_iff_exists'.mp (fun z => q (num_map.mpr z))
  have hj := (num_some (by omega) ej).1
  have hc := (hO.2.2.2.2.2 j hj).1
  have hB := ba_at hR hC hj
  rw [ej]
  refine ⟨_, rfl, ⟨_, hB⟩, ba_isOpen hK hR hC hO hj ⟨fun q2 => hS j ej hj (fun z => of_decide_eq_false ((b2i_0 _).mp q2) z.1), fun q2 => ⟨_, gi_of hB rfl, ⟨_, hP⟩, pl_isClosed hR hC _ ⟨fun q3 => ⟨⟨_, hB⟩, ?_⟩, fun q3 => hS j ej hj (fun z => z.2 (of_decide_eq_true ((b2i_ne _).mp q3)))⟩⟩⟩⟩
  have hm : mayP x j := ⟨of_decide_eq_true ((b2i_ne _).mp q2), of_decide_eq_false ((b2i_0 _).mp q3)⟩
  obtain ⟨ct2, R2, C2, F2⟩ := cX_setB hR (cX_iff.mp hC) hj (uSt x j 2) rfl rfl (fun z hz => by unfold uSt; dsimp only; rw [if_neg hz]; rfl) rfl rfl
  have ew : xp w (ad (6, j, 0)) 2 (.ref (E.2 2)) = va_up w (ad (6, j, 0)) (some (.inr (2, baF E ad (uSt x j 2) j))) := by
    rw [xp_of hB]
    show va_up w (ad (6, j, 0)) (some (.inr (2, [_, _, .ref (E.2 2), _, _, _]))) = va_up w (ad (6, j, 0)) (some (.inr (2, [_, _, .ref (E.2 (if j = j then 2 else bS x j)), _, _, _])))
    rw [if_pos rfl]; rfl
  rw [← ew] at R2
  have k35 : ¬ (some (E.2 5) = some (E.2 3)) := fun z => hK.2.2.1 (Option.some.inj z).symm
  have k34 : ¬ (some (E.2 4) = some (E.2 3)) := fun z => hK.2.1 (Option.some.inj z).symm
  have k45 : ¬ (some (E.2 4) = some (E.2 5)) := fun z => hK.2.2.2 (Option.some.inj z)
  refine ba_outcome hR hC hO hj (fun b => ⟨fun _ => ⟨⟨_, by rw [xg_of hB]; rfl⟩, fun w11 e11 => ⟨fun z => absurd rfl z, fun _ => ?_⟩⟩, fun z => absurd z k35⟩) (fun b1 b2 b3 b4 => ⟨fun _ => ⟨⟨_, by rw [xg_of hB]; rfl⟩, fun w11 e11 => ⟨fun _ => ?_, fun z => absurd z k45⟩⟩, fun z => absurd z k34⟩) (fun b1 b2 b3 b4 => ⟨fun z => absurd rfl z, fun _ => ⟨⟨_, hP⟩, pl_enter hR hC hj hc (fun w' ct' R' C' F' => h3 j ej hj hm ⟨⟨b1, b2⟩, b3, b4⟩ w' ct' R' C' F')⟩⟩)
  · rw [e11]
    refine h5 j ej hj hm ?_ _ ct2 R2 C2 F2
    rcases b with b | ⟨b1, b2, b3⟩
    · exact Or.inl b
    · exact Or.inr ⟨⟨b1, b2⟩, b3⟩
  · rw [e11]
    exact h4 j ej hj hm ⟨⟨b1, b2⟩, b3, b4⟩ _ ct2 R2 C2 F2
theorem pl_close {post : Int32 → xw_T → Prop} (hR : xRp w ad ct) (hC : cC E ad ct x) (p : Int64) (h2 : ¬ (0 ≤ p ∧ p ≤ 20000) → post (-2000000002) w) (h0 : 0 ≤ p ∧ p ≤ 20000 → p < (nI (sO x)).toInt64 → post 0 w)
    (h1 : ∀ d, d ≤ 20000 → p = (nI d).toInt64 → ¬ p < (nI (sO x)).toInt64 → ∀ w' ct', xRp w' ad ct' → cC E ad ct' (uFo x (d + 1)) → Fr ad ad ct ct' → post (nI (d + 1) - nI (sO x)) w') : wp_PL_close E post w (ad (0, 0, 0)) p := by
  have hP := pl_at hR hC
  refine pl_isDay p ⟨fun q => ⟨⟨_, hP⟩, ?_⟩, fun q => h2 (of_decide_eq_false ((b2i_0 _).mp q))⟩
  have hd := of_decide_eq_true ((b2i_ne _).mp q)
  obtain ⟨d, hd1, hd2, hd3⟩ := day_of hd
  refine pl_isClosed hR hC p ⟨fun q2 => ⟨_, gi_of hP rfl, ⟨_, by rw [xg_of hP]; rfl⟩, fun w6 e6 => ?_⟩, fun q2 => h0 hd (of_decide_eq_true ((b2i_ne _).mp q2))⟩
  rw [xp_of hP, hd3, nI_1] at e6
  obtain ⟨ct2, R2, C2, F2⟩ := cX_setP hR (cX_iff.mp hC) (uFo x (d + 1)) rfl rfl rfl rfl rfl
  have e6 : w6 = va_up w (ad (0, 0, 0)) (some (.inr (4, plF ad (uFo x (d + 1))))) := e6
  rw [← e6] at R2
  exact ⟨_, gi_of (pl_atX R2 C2) rfl, h1 d hd1 hd2 (of_decide_eq_false ((b2i_0 _).mp q2)) w6 ct2 R2 C2 F2⟩
theorem pl_limit {post : Int32 → xw_T → Prop} (hR : xRp w ad ct) (hC : cC E ad ct x) (hO : sOk x) (p : Int32) (v : Int64) (h1 : num p (sA x) = none → post (-2000000001) w) (h2 : ∀ a, num p (sA x) = some a → ¬ (0 ≤ v ∧ v ≤ 100000000) → post (-2000000002) w)
    (h : ∀ a, num p (sA x) = some a → a < sA x → 0 ≤ v ∧ v ≤ 100000000 → ∀ w' ct', xRp w' ad ct' → cC E ad ct' (uLim x a v.toInt32) → Fr ad ad ct ct' → post (aL x a) w') : wp_PL_limit E post w (ad (0, 0, 0)) p v := by
  have hP := pl_at hR hC
  have hnA := hO.1
  refine ⟨⟨_, hP⟩, pl_findAccount hR hC hO p ⟨fun q => ?_, fun q => h1 (num_map.mp q)⟩⟩
  obtain ⟨a, ea⟩ := Option.ne_none_iff_exists'.mp (fun z => q (num_map.mpr z))
  have ha := (num_some (by omega) ea).1
  have hA := ac_at hR hC ha
  rw [ea]
  refine pl_isWithin v _ _ ⟨fun q2 => ⟨_, rfl, _, gi_of hA rfl, ⟨_, by rw [xg_of hA]; rfl⟩, fun w7 e7 => ?_⟩, fun q2 => h2 a ea (of_decide_eq_false ((b2i_0 _).mp q2))⟩
  obtain ⟨ct2, R2, C2, F2⟩ := cX_setA hR (cX_iff.mp hC) ha (uLim x a v.toInt32) rfl (fun z hz => by unfold acF uLim aO aK aL aT; dsimp only; rw [if_neg hz]) rfl rfl
  have ew : w7 = va_up w (ad (5, a, 0)) (some (.inr (1, acF (uLim x a v.toInt32) a))) := by
    rw [e7, xp_of hA]
    show va_up w (ad (5, a, 0)) (some (.inr (1, [_, _, .int v.toInt32, _]))) = va_up w (ad (5, a, 0)) (some (.inr (1, [_, _, .int (if a = a then v.toInt32 else aL x a), _])))
    rw [if_pos rfl]; rfl
  rw [← ew] at R2
  exact h a ea ha (of_decide_eq_true ((b2i_ne _).mp q2)) w7 ct2 R2 C2 F2
theorem b2i_inj {a b : Bool} : b2i a = b2i b ↔ a = b := by cases a <;> cases b <;> decide
theorem pl_fails {post : Int32 → xw_T → Prop} (hK : xEok E) (hR : xRp w ad ct) (hC : cC E ad ct x) (hO : sOk x) (p : Int32) (on : Bool) (h0 : (∀ j, num p (sB x) = some j → ¬ (bS x j = 0 ∧ bF x j ≠ on)) → post 0 w)
    (h1 : ∀ j, num p (sB x) = some j → j < sB x → bS x j = 0 ∧ bF x j ≠ on → ∀ w' ct', xRp w' ad ct' → cC E ad ct' (uFail x j on) → Fr ad ad ct ct' → post 1 w') : wp_PL_fails E post w (ad (0, 0, 0)) p (b2i on) := by
  have hP := pl_at hR hC
  have hnB := hO.2.1
  refine ⟨⟨_, hP⟩, pl_findBatch hR hC hO p ⟨fun q => h0 (fun j ej => by rw [num_map.mp q] at ej; cases ej), fun q => ?_⟩⟩
  obtain ⟨j, ej⟩ := Option.ne_none_iff_exists'.mp (fun z => q (num_map.mpr z))
  have hj := (num_some (by omega) ej).1
  have hB := ba_at hR hC hj
  rw [ej]
  have no : ¬ (bS x j = 0 ∧ bF x j ≠ on) → post 0 w := fun z => h0 (fun j' e1 => by rw [ej] at e1; cases e1; exact z)
  refine ⟨_, rfl, ⟨_, hB⟩, ba_isOpen hK hR hC hO hj ⟨fun q2 => no (fun z => of_decide_eq_false ((b2i_0 _).mp q2) z.1), fun q2 => ⟨_, gi_of hB rfl, fun q3 => ⟨⟨b2i_nar _, b2i_fits _⟩, ⟨_, by rw [xg_of hB]; rfl⟩, fun w7 e7 => ?_⟩, fun q3 => no (fun z => z.2 (b2i_inj.mp q3))⟩⟩⟩
  obtain ⟨ct2, R2, C2, F2⟩ := cX_setB hR (cX_iff.mp hC) hj (uFail x j on) rfl rfl (fun z hz => by unfold uFail; dsimp only; rw [if_neg hz]; rfl) rfl rfl
  have ew : w7 = va_up w (ad (6, j, 0)) (some (.inr (2, baF E ad (uFail x j on) j))) := by
    rw [e7, xp_of hB]
    show va_up w (ad (6, j, 0)) (some (.inr (2, [_, _, _, .int (b2i on), _, _]))) = va_up w (ad (6, j, 0)) (some (.inr (2, [_, _, _, .int (b2i (if j = j then on else bF x j)), _, _])))
    rw [if_pos rfl]; rfl
  rw [← ew] at R2
  exact h1 j ej hj ⟨of_decide_eq_true ((b2i_ne _).mp q2), fun z => q3 (b2i_inj.mpr z)⟩ w7 ct2 R2 C2 F2
/-- a batch is marked as part of a reversal -/
theorem cX_back {j : Nat} (hR : xRp w ad ct) (hC : cX E ad ct x m) (hj : j < sB x) : ∃ ct', xRp (xp w (ad (6, j, 0)) 4 (.int 1)) ad ct' ∧ cX E ad ct' (uBack x j) m ∧ Fr ad ad ct ct' := by
  have hB := ba_atX hR hC hj
  obtain ⟨ct2, R2, C2, F2⟩ := cX_setB hR hC hj (uBack x j) rfl rfl (fun z hz => by unfold uBack; dsimp only; rw [if_neg hz]; rfl) rfl rfl
  have ew : xp w (ad (6, j, 0)) 4 (.int 1) = va_up w (ad (6, j, 0)) (some (.inr (2, baF E ad (uBack x j) j))) := by
    rw [xp_of hB]
    show va_up w (ad (6, j, 0)) (some (.inr (2, [_, _, _, _, .int 1, _]))) = va_up w (ad (6, j, 0)) (some (.inr (2, [_, _, _, _, .int (b2i (if j = j then true else bK x j)), _])))
    rw [if_pos rfl]; rfl
  rw [← ew] at R2
  exact ⟨ct2, R2, C2, F2⟩
theorem uRows_1 (x : xSt) (b j n : Nat) : (uRows x b j n).1 = x.1 := by
  induction n with
  | zero => rfl
  | succ n ih => exact ih
theorem uRows_2 (x : xSt) (b j n : Nat) : (uRows x b j n).2.1 = x.2.1 := by
  induction n with
  | zero => rfl
  | succ n ih => exact ih
theorem uRows_b (x : xSt) (b j n z : Nat) (hz : z ≠ b) : (uRows x b j n).2.2.1 z = x.2.2.1 z ∧ (uRows x b j n).2.2.2.1 z = x.2.2.2.1 z := by
  induction n with
  | zero => exact ⟨rfl, rfl⟩
  | succ n ih =>
    refine ⟨?_, ?_⟩
    · rw [← ih.1]
      show (uRo (uRows x b j n) b (rA x j n) (-(rV x j n))).2.2.1 z = _
      unfold uRo; dsimp only; rw [if_neg hz]; rfl
    · rw [← ih.2]
      funext k
      exact if_neg (fun y => hz y.1)
theorem uRows_f (x : xSt) (b j n z : Nat) : bD (uRows x b j n) z = bD x z ∧ bS (uRows x b j n) z = bS x z ∧ bF (uRows x b j n) z = bF x z ∧ bK (uRows x b j n) z = bK x z ∧ bN (uRows x b j n) z = bN x z := by
  induction n with
  | zero => exact ⟨rfl, rfl, rfl, rfl, rfl⟩
  | succ n ih => exact ih
theorem uRows_c (x : xSt) (b j n : Nat) : bC (uRows x b j n) b = bC x b + n := by
  induction n with
  | zero => rfl
  | succ n ih =>
    show (if b = b then bC (uRows x b j n) b + 1 else _) = _
    rw [if_pos rfl, ih]; omega
theorem uRows_r (x : xSt) (b j n k : Nat) (hk : k < n) : (uRows x b j n).2.2.2.1 b (bC x b + k) = (rA x j k, -(rV x j k)) := by
  induction n with
  | zero => omega
  | succ n ih =>
    show (if b = b ∧ bC x b + k = bC (uRows x b j n) b then (rA x j n, -(rV x j n)) else (uRows x b j n).2.2.2.1 b (bC x b + k)) = _
    rw [uRows_c]
    by_cases e : k = n
    · subst e; rw [if_pos ⟨rfl, rfl⟩]
    · rw [if_neg (fun y => e (by omega))]
      exact ih (by omega)
theorem ba_addOther {post : xw_T → Prop} (hR : xRp w ad ct) (hC : cX E ad ct x m) {b j : Nat} (hb : b < sB x) (hj : j < sB x) (hjb : j ≠ b) (hc0 : bC x b = 0) (hc : bC x j ≤ 12)
    (h : ∀ w' ad' ct', xRp w' ad' ct' → cX E ad' ct' (uRows x b j (bC x j)) m → Fr ad ad' ct ct' → post w') : wp_BA_addRowsWithOtherSign E post w (ad (6, b, 0)) (some (ad (6, j, 0))) := by
  have key : ∀ d i w' ad' ct', i + d = bC x j → xRp w' ad' ct' → cX E ad' ct' (uRows x b j i) m → Fr ad ad' ct ct' → wl_BA_addRowsWithOtherSign_10 E post (d + 1) w' i (ad (6, b, 0)) (some (ad (6, j, 0))) (nI (bC x j)) (nI i) := by
    intro d
    induction d with
    | zero =>
      intro i w' ad' ct' hi R' C' F'
      have hi : i = bC x j := by omega
      subst hi
      exact ⟨hc, fun _ => h w' ad' ct' R' C' F', fun q => absurd (nI_le (Nat.le_refl _) (by omega)) q⟩
    | succ d ih =>
      intro i w' ad' ct' hi R' C' F'
      have hi2 : i < bC x j := by omega
      have eA : sA (uRows x b j i) = sA x := by unfold sA; rw [uRows_1]
      have eB : sB (uRows x b j i) = sB x := by unfold sB; rw [uRows_1]
      have hj2 : j < sB (uRows x b j i) := by rw [eB]; exact hj
      have hb2 : b < sB (uRows x b j i) := by rw [eB]; exact hb
      have eC : bC (uRows x b j i) j = bC x j := by unfold bC; rw [(uRows_b x b j i j hjb).1]
      have eRA : rA (uRows x b j i) j i = rA x j i := by unfold rA; rw [(uRows_b x b j i j hjb).2]
      have eRV : rV (uRows x b j i) j i = rV x j i := by unfold rV; rw [(uRows_b x b j i j hjb).2]
      have e6j := fr6 hC F' hj
      have e6b := fr6 hC F' hb
      have hBj := ba_atX R' C' hj2
      have hL := (C'.2.2.1 j hj2).2.1
      have hi3 : i < bC (uRows x b j i) j := by rw [eC]; exact hi2
      have hW := rw_atX R' C' hj2 hi3
      have hlt := ((C'.2.2.1 j hj2).2.2.1 i hi3).2
      rw [← e6j, ← e6b]
      refine ⟨by omega, fun q => absurd q (nI_ge hi2 (by omega)), fun _ => ⟨_, rfl, _, gr_of hBj rfl, _, rfl, nl_recv R' hL, nl_get R' hL hi3 ⟨_, rfl, ⟨_, hW⟩, _, gr_of hW rfl, _, gl_of hW rfl, by omega, ⟨_, ba_atX R' C' hb2⟩, ?_⟩⟩⟩
      refine ba_addRow R' C' hb2 hlt (by rw [uRows_c]; omega) _ (fun w2 ad2 ct2 R2 C2 F2 => ?_)
      rw [nI_1, e6j, e6b]
      rw [eRA, eRV] at C2
      exact ih (i + 1) w2 ad2 ct2 (by omega) R2 C2 (F'.trans F2)
  have hB := ba_atX hR hC hj
  have hL := (hC.2.2.1 j hj).2.1
  exact ⟨_, rfl, _, gr_of hB rfl, _, rfl, nl_recv hR hL, nl_size hR hL ⟨_, key (bC x j) 0 w ad ct (by omega) hR hC (Fr.refl _ _)⟩⟩
def dMax (x : xSt) (j : Nat) : Nat := if bD x j < sO x then sO x else bD x j
/-- the state behind a reversal of the batch j -/
def uRv (x : xSt) (j : Nat) : xSt := uPost (uBack (uBack (uRows (uNB x (dMax x j)) (sB x) j (bC x j)) j) (sB x)) (sB x)
theorem uNB_b (x : xSt) (d z : Nat) (hz : z ≠ sB x) : (uNB x d).2.2.1 z = x.2.2.1 z := if_neg hz
theorem uNB_n (x : xSt) (d : Nat) : (uNB x d).2.2.1 (sB x) = (d, 0, false, false, 0, 0) := if_pos rfl
theorem pl_reverse {post : Int32 → xw_T → Prop} (hK : xEok E) (hR : xRp w ad ct) (hC : cC E ad ct x) (hO : sOk x) (r : Int32) (h0 : (∀ j, j < sB x → ¬ isRow x r j) → post 0 w) (hb : ∀ j, j < sB x → isRow x r j → bK x j = true → post 0 w) (h4 : ∀ j, j < sB x → isRow x r j → bK x j = false → sB x = 300 → post (-2000000004) w)
    (h1 : ∀ j, j < sB x → isRow x r j → bK x j = false → sB x < 300 → ∀ w' ad' ct', xRp w' ad' ct' → cC E ad' ct' (uRv x j) → Fr ad ad' ct ct' → post 1 w') : wp_PL_reverse E post w (ad (0, 0, 0)) r := by
  have hP := pl_at hR hC
  have hX := cX_iff.mp hC
  refine ⟨⟨_, hP⟩, pl_findBatchOfRow hK hR hC hO r (fun z => ⟨fun _ => h0 z, fun q => absurd rfl q⟩) (fun j hj hr => ⟨fun q => (by cases q), fun _ => ⟨_, rfl, ?_⟩⟩)⟩
  have hB := ba_at hR hC hj
  obtain ⟨hc, hs, hD, hN⟩ := hO.2.2.2.2.2 j hj
  have hoo := hO.2.2.2.1
  refine ⟨_, gi_of hB rfl, fun q => ⟨⟨_, hP⟩, pl_hasRoom hR hC hO ⟨fun q3 => ?_, fun q3 => h4 j hj hr ((b2i_0 _).mp q) (by have := of_decide_eq_false ((b2i_0 _).mp q3); have := hO.2.1; omega)⟩⟩, fun q => hb j hj hr ((b2i_ne _).mp q)⟩
  have hlt := of_decide_eq_true ((b2i_ne _).mp q3)
  intro q7 hq w8 e8
  have h60 : ad (6, j, 0) ≠ q7 := fun z => by rw [z, hq.1] at hB; cases hB
  have h00 : ad (0, 0, 0) ≠ q7 := fun z => by rw [z, hq.1] at hP; cases hP
  have hB8 : w8 (ad (6, j, 0)) = some (.inr (2, baF E ad x j)) := by rw [e8, va_up_ne _ _ h60]; exact hB
  have hP8 : w8 (ad (0, 0, 0)) = some (.inr (4, plF ad x)) := by rw [e8, va_up_ne _ _ h00]; exact hP
  refine ⟨_, gi_of hB8 rfl, _, gi_of hP8 rfl, fun r11 e11 => ?_⟩
  have e11 : r11 = nI (dMax x j) := by
    rw [e11]; unfold dMax
    by_cases z : bD x j < sO x
    · rw [if_pos z, if_pos (nI_lt z (by omega))]
    · rw [if_neg z, if_neg (nI_nlt (by omega) (by omega))]
  rw [e11, e8]
  refine ba_init hR hX (Nat.le_refl _) hq.1 (dMax x j) (fun w1 ad1 ct1 R1 C1 F1 a6 => ?_)
  have e61 := fr6 hX F1 hj
  have hj1 : j < sB (uNB x (dMax x j)) := Nat.lt_succ_of_lt hj
  have hb1 : sB x < sB (uNB x (dMax x j)) := Nat.lt_succ_self _
  have ec : bC (uNB x (dMax x j)) j = bC x j := by unfold bC; rw [uNB_b _ _ _ (by omega)]
  have ec0 : bC (uNB x (dMax x j)) (sB x) = 0 := by unfold bC; rw [uNB_n]
  rw [← a6, ← e61]
  refine ⟨⟨_, ba_atX R1 C1 hb1⟩, ba_addOther R1 C1 hb1 hj1 (by omega) ec0 (by rw [ec]; exact hc) (fun w2 ad2 ct2 R2 C2 F2 => ?_)⟩
  rw [ec] at C2
  have eB2 : sB (uRows (uNB x (dMax x j)) (sB x) j (bC x j)) = sB x + 1 := by unfold sB; rw [uRows_1]; rfl
  have e62 := fr6 C1 F2 hj1
  have a62 := fr6 C1 F2 hb1
  rw [← e62, ← a62]
  have hj2 : j < sB (uRows (uNB x (dMax x j)) (sB x) j (bC x j)) := by rw [eB2]; omega
  have hb2 : sB x < sB (uRows (uNB x (dMax x j)) (sB x) j (bC x j)) := by rw [eB2]; omega
  refine ⟨⟨_, by rw [xg_of (ba_atX R2 C2 hj2)]; rfl⟩, fun w3 e3 => ?_⟩
  obtain ⟨ct3, R3, C3, F3⟩ := cX_back R2 C2 hj2
  rw [← e3] at R3
  have hb3 : sB x < sB (uBack (uRows (uNB x (dMax x j)) (sB x) j (bC x j)) j) := hb2
  refine ⟨⟨_, by rw [xg_of (ba_atX R3 C3 hb3)]; rfl⟩, fun w4 e4 => ?_⟩
  obtain ⟨ct4, R4, C4, F4⟩ := cX_back R3 C3 hb3
  rw [← e4] at R4
  have F04 : Fr ad ad2 ct ct4 := ((F1.trans F2).trans F3).trans F4
  have e0 := fr0 hX F04
  rw [← e0]
  have hb4 : sB x < sB (uBack (uBack (uRows (uNB x (dMax x j)) (sB x) j (bC x j)) j) (sB x)) := hb2
  refine ⟨_, gr_of (pl_atX R4 C4) rfl, _, rfl, nl_recv R4 C4.1.2.2, pl_listBa R4 C4 hb4 hlt (fun w5 ad5 ct5 R5 C5 F5 => ?_)⟩
  have e05 := fr0 C4 F5
  have a65 := fr6 C4 F5 hb4
  rw [← e05, ← a65]
  have C5' : cC E ad5 ct5 (uBack (uBack (uRows (uNB x (dMax x j)) (sB x) j (bC x j)) j) (sB x)) := by
    apply cX_iff.mpr
    have : sB (uBack (uBack (uRows (uNB x (dMax x j)) (sB x) j (bC x j)) j) (sB x)) = sB x + 1 := eB2
    rw [this]; exact C5
  refine ⟨⟨_, pl_atX R5 C5⟩, pl_enter R5 C5' hb4 ?_ (fun w6 ct6 R6 C6 F6 => ?_)⟩
  · show bC (uRows (uNB x (dMax x j)) (sB x) j (bC x j)) (sB x) ≤ 12
    rw [uRows_c, ec0]; omega
  · exact h1 j hj hr ((b2i_0 _).mp q) hlt w6 ad5 ct6 R6 C6 ((F04.trans F5).trans F6)
def okS (o k : Int32) (v : Int64) : Prop := (0 ≤ o ∧ o < 10) ∧ (0 ≤ k ∧ k < 5) ∧ (-100000000 ≤ v ∧ v ≤ 100000000)
def stk (x : xSt) (o k : Int32) (v : Int64) : Int64 := v - sumL (kindF x o k) (sA x)
def uStk (x : xSt) (a b : Nat) (v : Int64) : xSt := uPost (uRo (uRo (uNB x (sO x)) (sB x) a v) (sB x) b (-v)) (sB x)
theorem isFst_lt {o k : Int32} {a : Nat} (h : isFst x o k (some a)) : a < sA x := by
  rcases h with ⟨h, _⟩ | ⟨i, h, hi, _⟩
  · cases h
  · cases h; exact hi
theorem pl_stock {post : Int32 → xw_T → Prop} (hR : xRp w ad ct) (hC : cC E ad ct x) (hO : sOk x) (o k : Int32) (v : Int64) (h2 : ¬ okS o k v → post (-2000000002) w) (h0 : okS o k v → stk x o k v = 0 → post 0 w)
    (h3 : okS o k v → stk x o k v ≠ 0 → (isFst x o k none ∨ isFst x o 5 none ∨ ¬ (-1000000000 ≤ stk x o k v ∧ stk x o k v ≤ 1000000000)) → post (-2000000003) w)
    (h4 : okS o k v → stk x o k v ≠ 0 → ∀ a b, isFst x o k (some a) → isFst x o 5 (some b) → (-1000000000 ≤ stk x o k v ∧ stk x o k v ≤ 1000000000) → sB x = 300 → post (-2000000004) w)
    (h1 : okS o k v → stk x o k v ≠ 0 → ∀ a b, isFst x o k (some a) → isFst x o 5 (some b) → (-1000000000 ≤ stk x o k v ∧ stk x o k v ≤ 1000000000) → sB x < 300 → ∀ w' ad' ct', xRp w' ad' ct' → cC E ad' ct' (uStk x a b (stk x o k v)) → Fr ad ad' ct ct' → post (stk x o k v).toInt32 w') : wp_PL_stock E post w (ad (0, 0, 0)) o k v := by
  have hP := pl_at hR hC
  have hX := cX_iff.mp hC
  refine pl_isOffice o ⟨fun q => h2 (fun z => of_decide_eq_false ((b2i_0 _).mp q) z.1), fun q => ⟨fun q2 => h2 (fun z => Int32.not_lt.mpr z.2.1.1 q2), fun q2 => ⟨fun q3 => h2 (fun z => Int32.not_lt.mpr q3 z.2.1.2), fun q3 => pl_isWithin v _ _ ⟨fun q4 => ⟨⟨_, hP⟩, pl_totalOfKind hR hC hO o k ?_⟩, fun q4 => h2 (fun z => of_decide_eq_false ((b2i_0 _).mp q4) z.2.2)⟩⟩⟩⟩
  have hok : okS o k v := ⟨of_decide_eq_true ((b2i_ne _).mp q), ⟨Int32.not_lt.mp q2, Int32.not_le.mp q3⟩, of_decide_eq_true ((b2i_ne _).mp q4)⟩
  show (¬ stk x o k v = 0 → _) ∧ (stk x o k v = 0 → _)
  refine ⟨fun q5 => ⟨⟨_, hP⟩, pl_firstOfKind hR hC hO o k (fun ra ha => ⟨⟨_, hP⟩, pl_firstOfKind hR hC hO o 5 (fun rb hb => ?_)⟩)⟩, fun q5 => h0 hok q5⟩
  refine ⟨fun q6 => h3 hok q5 (Or.inl (by rw [Option.map_eq_none_iff.mp q6] at ha; exact ha)), fun q6 => ⟨fun q7 => h3 hok q5 (Or.inr (Or.inl (by rw [Option.map_eq_none_iff.mp q7] at hb; exact hb))), fun q7 => ?_⟩⟩
  obtain ⟨a, rfl⟩ := Option.ne_none_iff_exists'.mp (fun z => q6 (Option.map_eq_none_iff.mpr z))
  obtain ⟨b, rfl⟩ := Option.ne_none_iff_exists'.mp (fun z => q7 (Option.map_eq_none_iff.mpr z))
  have haA := isFst_lt ha
  have hbA := isFst_lt hb
  refine pl_isWithin _ _ _ ⟨fun q8 => ⟨⟨_, hP⟩, pl_hasRoom hR hC hO ⟨fun q9 => ?_, fun q9 => h4 hok q5 a b ha hb (of_decide_eq_true ((b2i_ne _).mp q8)) (by have := of_decide_eq_false ((b2i_0 _).mp q9); have := hO.2.1; omega)⟩⟩, fun q8 => h3 hok q5 (Or.inr (Or.inr (of_decide_eq_false ((b2i_0 _).mp q8))))⟩
  have hlt := of_decide_eq_true ((b2i_ne _).mp q9)
  intro q15 hq w16 e16
  have h00 : ad (0, 0, 0) ≠ q15 := fun z => by rw [z, hq.1] at hP; cases hP
  have hP8 : w16 (ad (0, 0, 0)) = some (.inr (4, plF ad x)) := by rw [e16, va_up_ne _ _ h00]; exact hP
  refine ⟨_, gi_of hP8 rfl, ?_⟩
  rw [e16]
  refine ba_init hR hX (Nat.le_refl _) hq.1 (sO x) (fun w1 ad1 ct1 R1 C1 F1 a6 => ?_)
  have hb1 : sB x < sB (uNB x (sO x)) := Nat.lt_succ_self _
  have ec0 : bC (uNB x (sO x)) (sB x) = 0 := by unfold bC; rw [uNB_n]
  show (∃ fs, w1 q15 = some (.inr (2, fs))) ∧ wp_BA_addRow E _ w1 q15 (some (ad (5, a, 0))) (stk x o k v)
  rw [← a6, ← fr5 hX F1 haA]
  refine ⟨⟨_, ba_atX R1 C1 hb1⟩, ba_addRow R1 C1 hb1 haA (by omega) _ (fun w2 ad2 ct2 R2 C2 F2 => ?_)⟩
  have hb2 : sB x < sB (uRo (uNB x (sO x)) (sB x) a (stk x o k v)) := hb1
  have ec2 : bC (uRo (uNB x (sO x)) (sB x) a (stk x o k v)) (sB x) = 1 := by
    show (if sB x = sB x then bC (uNB x (sO x)) (sB x) + 1 else _) = 1
    rw [if_pos rfl, ec0]
  show (∃ fs, w2 (ad1 (6, sB x, 0)) = some (.inr (2, fs))) ∧ wp_BA_addRow E _ w2 (ad1 (6, sB x, 0)) (some (ad (5, b, 0))) (-(stk x o k v))
  rw [← fr6 C1 F2 hb1, ← fr5 hX (F1.trans F2) hbA]
  refine ⟨⟨_, ba_atX R2 C2 hb2⟩, ba_addRow R2 C2 hb2 hbA (by omega) _ (fun w3 ad3 ct3 R3 C3 F3 => ?_)⟩
  have hb3 : sB x < sB (uRo (uRo (uNB x (sO x)) (sB x) a (stk x o k v)) (sB x) b (-(stk x o k v))) := hb1
  have ec3 : bC (uRo (uRo (uNB x (sO x)) (sB x) a (stk x o k v)) (sB x) b (-(stk x o k v))) (sB x) = 2 := by
    show (if sB x = sB x then bC (uRo (uNB x (sO x)) (sB x) a (stk x o k v)) (sB x) + 1 else _) = 2
    rw [if_pos rfl, ec2]
  have F03 : Fr ad ad3 ct ct3 := (F1.trans F2).trans F3
  rw [← fr0 hX F03, ← fr6 C2 F3 hb2]
  refine ⟨_, gr_of (pl_atX R3 C3) rfl, _, rfl, nl_recv R3 C3.1.2.2, pl_listBa R3 C3 hb3 hlt (fun w5 ad5 ct5 R5 C5 F5 => ?_)⟩
  rw [← fr0 C3 F5, ← fr6 C3 F5 hb3]
  exact ⟨⟨_, pl_atX R5 C5⟩, pl_enter R5 C5 hb3 (by omega) (fun w6 ct6 R6 C6 F6 => h1 hok q5 a b ha hb (of_decide_eq_true ((b2i_ne _).mp q8)) hlt w6 ad5 ct6 R6 C6 ((F03.trans F5).trans F6))⟩
end PLM2
