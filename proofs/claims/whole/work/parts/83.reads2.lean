/-! THE CLASS'S READING METHODS, the rest -/
def part (x : xSt) (j a : Nat) : Int64 := sumL (rowF x j a) (bC x j)
def kindF (x : xSt) (o k : Int32) (i : Nat) : Int64 := if aO x i = o ∧ aK x i = k then aT x i else 0
def isFst (x : xSt) (o k : Int32) (r : Option Nat) : Prop := (r = none ∧ ∀ i, i < sA x → ¬ (aO x i = o ∧ aK x i = k)) ∨ ∃ i, r = some i ∧ i < sA x ∧ (aO x i = o ∧ aK x i = k) ∧ ∀ z, z < i → ¬ (aO x z = o ∧ aK x z = k)
def isRow (x : xSt) (r : Int32) (j : Nat) : Prop := bS x j = 1 ∧ ¬ r < nI (bN x j) ∧ ¬ nI (bN x j + bC x j) ≤ r
def balF (x : xSt) (a : Nat) (day : Int64) (j : Nat) : Int64 := if bS x j = 1 ∧ ¬ day < (nI (bD x j)).toInt64 then part x j a else 0
def holF (x : xSt) (a j : Nat) : Int64 := if bS x j = 0 then sumL (takF x j a) (bC x j) else 0
/-- the row k, entered behind those before it, breaks its account's limit -/
def brk (x : xSt) (j k : Nat) : Prop := rV x j k < 0 ∧ aK x (rA x j k) = 3 ∧ ¬ (-(aL x (rA x j k))).toInt64 ≤ aT x (rA x j k) + sumL (rowF x j (rA x j k)) (k + 1)
theorem isFst_uniq {x : xSt} {o k : Int32} {r s : Option Nat} (h : isFst x o k r) (g : isFst x o k s) : r = s := by
  rcases h with ⟨h1, h2⟩ | ⟨i, h1, h2, h3, h4⟩ <;> rcases g with ⟨g1, g2⟩ | ⟨j, g1, g2, g3, g4⟩
  · rw [h1, g1]
  · exact absurd g3 (h2 j g2)
  · exact absurd h3 (g2 i h2)
  · rw [h1, g1]
    congr 1
    rcases Nat.lt_trichotomy i j with q | q | q
    · exact absurd h3 (g4 i q)
    · exact q
    · exact absurd g3 (h4 j q)
section PLR2
variable {E : xE_T} {w : xw_T} {ad : xR → Nat} {ct : xR → Option va_E} {x : xSt}
theorem b2i_ne (b : Bool) : ¬ b2i b = 0 ↔ b = true := by cases b <;> decide
theorem pl_totalOfKind {post : Int64 → xw_T → Prop} (hR : xRp w ad ct) (hC : cC E ad ct x) (hO : sOk x) (o k : Int32) (h : post (sumL (kindF x o k) (sA x)) w) : wp_PL_totalOfKind E post w (ad (0, 0, 0)) o k := by
  have hL := hC.1.2.1
  have hP := pl_at hR hC
  have hc := hO.1
  have key : ∀ d i, i + d = sA x → wl_PL_totalOfKind_5 E post (d + 1) w (ad (0, 0, 0)) o k (sumL (kindF x o k) i) (nI i) := by
    intro d
    induction d with
    | zero =>
      intro i hi
      have hi : i = sA x := by omega
      subst hi
      exact ⟨_, gr_of hP rfl, _, rfl, nl_recv hR hL, nl_size hR hL ⟨fun _ => h, fun q => absurd (nI_le (Nat.le_refl _) (by omega)) q⟩⟩
    | succ d ih =>
      intro i hi
      have hi2 : i < sA x := by omega
      have hA := ac_at hR hC hi2
      have h9 := ih (i + 1) (by omega)
      refine ⟨_, gr_of hP rfl, _, rfl, nl_recv hR hL, nl_size hR hL ⟨fun q => absurd q (nI_ge hi2 (by omega)), fun _ => ⟨_, gr_of hP rfl, _, rfl, nl_recv hR hL, nl_get hR hL hi2 ⟨_, rfl, ⟨_, hA⟩, ⟨_, hA⟩, ac_isOfKind hR hC hi2 o k ⟨fun q => ?_, fun q => ⟨_, gl_of hA rfl, ?_⟩⟩⟩⟩⟩⟩
      · have q := of_decide_eq_false ((b2i_0 _).mp q)
        have e : sumL (kindF x o k) (i + 1) = sumL (kindF x o k) i := by
          show sumL (kindF x o k) i + kindF x o k i = _
          rw [kindF, if_neg q, Int64.add_zero]
        rw [e] at h9
        rw [nI_1]; exact h9
      · have q := of_decide_eq_true ((b2i_ne _).mp q)
        have e : sumL (kindF x o k) (i + 1) = sumL (kindF x o k) i + aT x i := by
          show sumL (kindF x o k) i + kindF x o k i = _
          rw [kindF, if_pos q]
        rw [e] at h9
        rw [nI_1]; exact h9
  exact ⟨_, key (sA x) 0 (by omega)⟩
theorem pl_firstOfKind {post : Option Nat → xw_T → Prop} (hR : xRp w ad ct) (hC : cC E ad ct x) (hO : sOk x) (o k : Int32) (h : ∀ r, isFst x o k r → post (r.map (fun i => ad (5, i, 0))) w) : wp_PL_firstOfKind E post w (ad (0, 0, 0)) o k := by
  have hL := hC.1.2.1
  have hP := pl_at hR hC
  have hc := hO.1
  have key : ∀ d i, i + d = sA x → (∀ z, z < i → ¬ (aO x z = o ∧ aK x z = k)) → wl_PL_firstOfKind_2 E post (d + 1) w (ad (0, 0, 0)) o k (nI i) := by
    intro d
    induction d with
    | zero =>
      intro i hi hz
      have hi : i = sA x := by omega
      subst hi
      exact ⟨_, gr_of hP rfl, _, rfl, nl_recv hR hL, nl_size hR hL ⟨fun _ => h none (Or.inl ⟨rfl, hz⟩), fun q => absurd (nI_le (Nat.le_refl _) (by omega)) q⟩⟩
    | succ d ih =>
      intro i hi hz
      have hi2 : i < sA x := by omega
      have hA := ac_at hR hC hi2
      refine ⟨_, gr_of hP rfl, _, rfl, nl_recv hR hL, nl_size hR hL ⟨fun q => absurd q (nI_ge hi2 (by omega)), fun _ => ⟨_, gr_of hP rfl, _, rfl, nl_recv hR hL, nl_get hR hL hi2 ⟨_, rfl, ⟨_, hA⟩, ⟨_, hA⟩, ac_isOfKind hR hC hi2 o k ⟨fun q => ?_, fun q => ?_⟩⟩⟩⟩⟩
      · have q := of_decide_eq_false ((b2i_0 _).mp q)
        rw [nI_1]
        refine ih (i + 1) (by omega) (fun z hz2 => ?_)
        by_cases e : z = i
        · rw [e]; exact q
        · exact hz z (by omega)
      · have q := of_decide_eq_true ((b2i_ne _).mp q)
        exact h (some i) (Or.inr ⟨i, rfl, hi2, q, hz⟩)
  exact ⟨_, key (sA x) 0 (by omega) (fun z hz => absurd hz (Nat.not_lt_zero z))⟩
theorem ba_hasRowNumber {post : Int32 → xw_T → Prop} (hR : xRp w ad ct) (hC : cC E ad ct x) {j : Nat} (hj : j < sB x) (r : Int32) (h1 : ¬ r < nI (bN x j) → ¬ nI (bN x j + bC x j) ≤ r → post 1 w) (h0 : r < nI (bN x j) ∨ nI (bN x j + bC x j) ≤ r → post 0 w) : wp_BA_hasRowNumber E post w (ad (6, j, 0)) r := by
  have hB := ba_at hR hC hj
  have hL := (hC.2.2.1 j hj).2.1
  refine ⟨_, gi_of hB rfl, fun q => h0 (Or.inl q), fun q => ⟨_, gi_of hB rfl, _, gr_of hB rfl, _, rfl, nl_recv hR hL, nl_size hR hL ?_⟩⟩
  rw [nI_add]
  exact ⟨fun q2 => h0 (Or.inr q2), fun q2 => h1 q q2⟩
theorem st_is {j s : Nat} (hK : xEok E) (hO : sOk x) (hj : j < sB x) (hs : s ≤ 2) : (some (E.2 (bS x j)) = some (E.2 s)) ↔ bS x j = s := by
  have hb := (hO.2.2.2.2.2 j hj).2.1
  constructor
  · intro q
    have q := Option.some.inj q
    rcases (show bS x j = 0 ∨ bS x j = 1 ∨ bS x j = 2 by omega) with e | e | e <;> rcases (show s = 0 ∨ s = 1 ∨ s = 2 by omega) with f | f | f <;> rw [e, f] at q <;> first | omega | exact absurd q hK.1.1 | exact absurd q hK.1.2.1 | exact absurd q hK.1.2.2 | exact absurd q.symm hK.1.1 | exact absurd q.symm hK.1.2.1 | exact absurd q.symm hK.1.2.2
  · intro q; rw [q]
theorem pl_findBatchOfRow {post : Option Nat → xw_T → Prop} (hK : xEok E) (hR : xRp w ad ct) (hC : cC E ad ct x) (hO : sOk x) (r : Int32) (h0 : (∀ j, j < sB x → ¬ isRow x r j) → post none w) (h1 : ∀ j, j < sB x → isRow x r j → post (some (ad (6, j, 0))) w) : wp_PL_findBatchOfRow E post w (ad (0, 0, 0)) r := by
  have hL := hC.1.2.2
  have hP := pl_at hR hC
  have hc := hO.2.1
  have key : ∀ d i, i + d = sB x → (∀ z, z < i → ¬ isRow x r z) → wl_PL_findBatchOfRow_2 E post (d + 1) w (ad (0, 0, 0)) r (nI i) := by
    intro d
    induction d with
    | zero =>
      intro i hi hz
      have hi : i = sB x := by omega
      subst hi
      exact ⟨_, gr_of hP rfl, _, rfl, nl_recv hR hL, nl_size hR hL ⟨fun _ => h0 hz, fun q => absurd (nI_le (Nat.le_refl _) (by omega)) q⟩⟩
    | succ d ih =>
      intro i hi hz
      have hi2 : i < sB x := by omega
      have hB := ba_at hR hC hi2
      have go : ¬ isRow x r i → wl_PL_findBatchOfRow_2 E post (d + 1) w (ad (0, 0, 0)) r (nI i + 1) := by
        intro q
        rw [nI_1]
        refine ih (i + 1) (by omega) (fun z hz2 => ?_)
        by_cases e : z = i
        · rw [e]; exact q
        · exact hz z (by omega)
      refine ⟨_, gr_of hP rfl, _, rfl, nl_recv hR hL, nl_size hR hL ⟨fun q => absurd q (nI_ge hi2 (by omega)), fun _ => ⟨_, gr_of hP rfl, _, rfl, nl_recv hR hL, nl_get hR hL hi2 ⟨_, rfl, ⟨_, hB⟩, _, gr_of hB rfl, fun q => ?_, fun q => ⟨⟨_, hB⟩, ba_hasRowNumber hR hC hi2 r (fun q1 q2 => ⟨fun z => absurd z (by decide), fun _ => ?_⟩) (fun q1 => ⟨fun _ => ?_, fun z => absurd rfl z⟩)⟩⟩⟩⟩⟩
      · exact go (fun z => q ((st_is hK hO hi2 (by decide)).mpr z.1))
      · exact h1 i hi2 ⟨(st_is hK hO hi2 (by decide)).mp q, q1, q2⟩
      · exact go (fun z => q1.elim (fun y => z.2.1 y) (fun y => z.2.2 y))
  exact ⟨_, key (sB x) 0 (by omega) (fun z hz => absurd hz (Nat.not_lt_zero z))⟩
theorem pl_balance {post : Int64 → xw_T → Prop} (hK : xEok E) (hR : xRp w ad ct) (hC : cC E ad ct x) (hO : sOk x) (p : Int32) (day : Int64) (h0 : num p (sA x) = none → post (-2000000001) w) (h1 : ∀ a, num p (sA x) = some a → a < sA x → post (sumL (balF x a day) (sB x)) w) : wp_PL_balance E post w (ad (0, 0, 0)) p day := by
  have hL := hC.1.2.2
  have hP := pl_at hR hC
  have hc := hO.2.1
  refine ⟨⟨_, hP⟩, pl_findAccount hR hC hO p ⟨fun q => ?_, fun q => h0 (Option.map_eq_none_iff.mp q)⟩⟩
  obtain ⟨a, ha⟩ := Option.ne_none_iff_exists'.mp (fun z => q (Option.map_eq_none_iff.mpr z))
  have hn := hO.1
  have haA : a < sA x := by
    rcases num_cases p (n := sA x) (by omega) with ⟨_, h2⟩ | ⟨_, _, h3⟩ | ⟨i, hi, _, h2⟩
    · rw [h2] at ha; cases ha
    · rw [h3] at ha; cases ha
    · rw [h2] at ha; cases ha; exact hi
  rw [ha]
  have h9 := h1 a ha haA
  have key : ∀ d i, i + d = sB x → wl_PL_balance_22 E post (d + 1) w (ad (0, 0, 0)) day (some (ad (5, a, 0))) (sumL (balF x a day) i) (nI i) := by
    intro d
    induction d with
    | zero =>
      intro i hi
      have hi : i = sB x := by omega
      subst hi
      exact ⟨_, gr_of hP rfl, _, rfl, nl_recv hR hL, nl_size hR hL ⟨fun _ => h9, fun q => absurd (nI_le (Nat.le_refl _) (by omega)) q⟩⟩
    | succ d ih =>
      intro i hi
      have hi2 : i < sB x := by omega
      have hB := ba_at hR hC hi2
      have h9 := ih (i + 1) (by omega)
      have hsk : ¬ (bS x i = 1 ∧ ¬ day < (nI (bD x i)).toInt64) → wl_PL_balance_22 E post (d + 1) w (ad (0, 0, 0)) day (some (ad (5, a, 0))) (sumL (balF x a day) i) (nI i + 1) := by
        intro q
        have e : sumL (balF x a day) (i + 1) = sumL (balF x a day) i := by
          show sumL (balF x a day) i + balF x a day i = _
          rw [balF, if_neg q, Int64.add_zero]
        rw [e] at h9
        rw [nI_1]; exact h9
      refine ⟨_, gr_of hP rfl, _, rfl, nl_recv hR hL, nl_size hR hL ⟨fun q => absurd q (nI_ge hi2 (by omega)), fun _ => ⟨_, gr_of hP rfl, _, rfl, nl_recv hR hL, nl_get hR hL hi2 ⟨_, rfl, ⟨_, hB⟩, _, gr_of hB rfl, fun q => ?_, fun q => ⟨_, gi_of hB rfl, fun q2 => ?_, fun q2 => ⟨⟨_, hB⟩, ba_size hR hC hi2 ⟨⟨_, hB⟩, ba_sumForAccount hR hC hO hi2 haA (Nat.le_refl _) ?_⟩⟩⟩⟩⟩⟩⟩
      · exact hsk (fun z => q ((st_is hK hO hi2 (by decide)).mpr z.1))
      · exact hsk (fun z => z.2 q2)
      · have e : sumL (balF x a day) (i + 1) = sumL (balF x a day) i + sumL (rowF x i a) (bC x i) := by
          show sumL (balF x a day) i + balF x a day i = _
          rw [balF, if_pos ⟨(st_is hK hO hi2 (by decide)).mp q, q2⟩]
          rfl
        rw [e] at h9
        rw [nI_1]; exact h9
  exact ⟨_, key (sB x) 0 (by omega)⟩
theorem num_some {p : Int32} {n a : Nat} (hn : n < 2 ^ 31 - 1) (ha : num p n = some a) : a < n ∧ p = nI (a + 1) := by
  rcases num_cases p (n := n) hn with ⟨_, h2⟩ | ⟨_, _, h3⟩ | ⟨i, hi, h1, h2⟩
  · rw [h2] at ha; cases ha
  · rw [h3] at ha; cases ha
  · rw [h2] at ha; cases ha; exact ⟨hi, h1⟩
theorem pl_hold {post : Int64 → xw_T → Prop} (hK : xEok E) (hR : xRp w ad ct) (hC : cC E ad ct x) (hO : sOk x) (p : Int32) (h0 : num p (sA x) = none → post (-2000000001) w) (h1 : ∀ a, num p (sA x) = some a → a < sA x → post (sumL (holF x a) (sB x)) w) : wp_PL_hold E post w (ad (0, 0, 0)) p := by
  have hL := hC.1.2.2
  have hP := pl_at hR hC
  have hc := hO.2.1
  have hn := hO.1
  refine ⟨⟨_, hP⟩, pl_findAccount hR hC hO p ⟨fun q => ?_, fun q => h0 (Option.map_eq_none_iff.mp q)⟩⟩
  obtain ⟨a, ha⟩ := Option.ne_none_iff_exists'.mp (fun z => q (Option.map_eq_none_iff.mpr z))
  have haA := (num_some (by omega) ha).1
  rw [ha]
  have h9 := h1 a ha haA
  have key : ∀ d i, i + d = sB x → wl_PL_hold_19 E post (d + 1) w (ad (0, 0, 0)) (some (ad (5, a, 0))) (sumL (holF x a) i) (nI i) := by
    intro d
    induction d with
    | zero =>
      intro i hi
      have hi : i = sB x := by omega
      subst hi
      exact ⟨_, gr_of hP rfl, _, rfl, nl_recv hR hL, nl_size hR hL ⟨fun _ => h9, fun q => absurd (nI_le (Nat.le_refl _) (by omega)) q⟩⟩
    | succ d ih =>
      intro i hi
      have hi2 : i < sB x := by omega
      have hB := ba_at hR hC hi2
      have h9 := ih (i + 1) (by omega)
      refine ⟨_, gr_of hP rfl, _, rfl, nl_recv hR hL, nl_size hR hL ⟨fun q => absurd q (nI_ge hi2 (by omega)), fun _ => ⟨_, gr_of hP rfl, _, rfl, nl_recv hR hL, nl_get hR hL hi2 ⟨_, rfl, ⟨_, hB⟩, ⟨_, hB⟩, ba_isOpen hK hR hC hO hi2 ⟨fun q => ?_, fun q => ⟨⟨_, hB⟩, ba_taken hR hC hO hi2 haA ?_⟩⟩⟩⟩⟩⟩
      · have q := of_decide_eq_false ((b2i_0 _).mp q)
        have e : sumL (holF x a) (i + 1) = sumL (holF x a) i := by
          show sumL (holF x a) i + holF x a i = _
          rw [holF, if_neg q, Int64.add_zero]
        rw [e] at h9
        rw [nI_1]; exact h9
      · have q := of_decide_eq_true ((b2i_ne _).mp q)
        have e : sumL (holF x a) (i + 1) = sumL (holF x a) i + sumL (takF x i a) (bC x i) := by
          show sumL (holF x a) i + holF x a i = _
          rw [holF, if_pos q]
        rw [e] at h9
        rw [nI_1]; exact h9
  exact ⟨_, key (sB x) 0 (by omega)⟩
theorem ba_breaksLimit {post : Int32 → xw_T → Prop} (hR : xRp w ad ct) (hC : cC E ad ct x) (hO : sOk x) {j k : Nat} (hj : j < sB x) (hk : k < bC x j) (h1 : brk x j k → post 1 w) (h0 : ¬ brk x j k → post 0 w) : wp_BA_breaksLimit E post w (ad (6, j, 0)) (some (ad (9, j, k))) (nI (k + 1)) := by
  have hW := rw_at hR hC hj hk
  have ha := ((hC.2.2.1 j hj).2.2.1 k hk).2
  have hA := ac_at hR hC ha
  have hB := ba_at hR hC hj
  refine ⟨_, rfl, _, gr_of hW rfl, ⟨_, hW⟩, _, gl_of hW rfl, fun q => ⟨fun _ => h0 (fun z => Int64.not_lt.mpr q z.1), fun z => absurd rfl z⟩, fun q => ⟨_, gr_of hW rfl, _, rfl, _, gi_of hA rfl, fun q2 => ⟨fun _ => h0 (fun z => q2 z.2.1), fun z => absurd rfl z⟩, fun q2 => ⟨fun z => absurd z (by decide), fun _ => ⟨_, rfl, _, gl_of hA rfl, ⟨_, hB⟩, ba_sumForAccount hR hC hO hj ha hk ⟨_, gi_of hA rfl, fun q3 => h0 (fun z => z.2.2 q3), fun q3 => h1 ⟨Int64.not_le.mp q, q2, q3⟩⟩⟩⟩⟩⟩
theorem ba_outcome {post : Option Nat → xw_T → Prop} (hR : xRp w ad ct) (hC : cC E ad ct x) (hO : sOk x) {j : Nat} (hj : j < sB x)
    (h5 : ¬ (bC x j ≠ 0 ∧ sumL (rV x j) (bC x j) = 0) ∨ (bC x j ≠ 0 ∧ sumL (rV x j) (bC x j) = 0 ∧ ((bF x j = true ∧ brk x j 0) ∨ (bF x j = false ∧ ∃ k, k < bC x j ∧ brk x j k))) → post (some (E.2 5)) w)
    (h4 : bC x j ≠ 0 → sumL (rV x j) (bC x j) = 0 → bF x j = true → ¬ brk x j 0 → post (some (E.2 4)) w)
    (h3 : bC x j ≠ 0 → sumL (rV x j) (bC x j) = 0 → bF x j = false → (∀ k, k < bC x j → ¬ brk x j k) → post (some (E.2 3)) w) : wp_BA_outcomeOfPosting E post w (ad (6, j, 0)) := by
  have hB := ba_at hR hC hj
  have hL := (hC.2.2.1 j hj).2.1
  have hc := (hO.2.2.2.2.2 j hj).1
  refine ⟨_, gr_of hB rfl, _, rfl, nl_recv hR hL, nl_isEmpty hR hL (by omega) ⟨fun q => h5 (Or.inl (fun z => ?_)), fun q => ⟨⟨_, hB⟩, ba_sumOfRows hR hC hO hj ⟨fun q2 => ?_, fun q2 => h5 (Or.inl (fun z => q2 z.2))⟩⟩⟩⟩
  · rw [if_neg z.1] at q; exact q rfl
  · have hne : bC x j ≠ 0 := by
      intro z
      rw [if_pos z] at q
      exact absurd q (by decide)
    have key : ∀ d i, i + d = bC x j → (∀ k, k < i → ¬ brk x j k) → (bF x j = true → i = 0) → wl_BA_outcomeOfPosting_25 E post (d + 1) w (ad (6, j, 0)) (nI i) := by
      intro d
      induction d with
      | zero =>
        intro i hi hz hf
        have hi : i = bC x j := by omega
        refine ⟨_, gr_of hB rfl, _, rfl, nl_recv hR hL, nl_size hR hL ⟨fun _ => h3 hne q2 ?_ (by rw [← hi]; exact hz), fun q => absurd (nI_le (by omega) (by omega)) q⟩⟩
        cases hb : bF x j with
        | false => rfl
        | true => have := hf hb; omega
      | succ d ih =>
        intro i hi hz hf
        have hi2 : i < bC x j := by omega
        have hW := rw_at hR hC hj hi2
        refine ⟨_, gr_of hB rfl, _, rfl, nl_recv hR hL, nl_size hR hL ⟨fun q => absurd q (nI_ge hi2 (by omega)), fun _ => ⟨_, gr_of hB rfl, _, rfl, nl_recv hR hL, nl_get hR hL hi2 ⟨_, rfl, ⟨_, hW⟩, ⟨_, hB⟩, ?_⟩⟩⟩⟩
        rw [nI_1]
        refine ba_breaksLimit hR hC hO hj hi2 (fun b => ⟨fun z => absurd z (by decide), fun _ => h5 (Or.inr ⟨hne, q2, ?_⟩)⟩) (fun b => ⟨fun _ => ⟨_, gi_of hB rfl, fun q3 => ?_, fun q3 => ?_⟩, fun z => absurd rfl z⟩)
        · cases hb : bF x j with
          | false => exact Or.inr ⟨rfl, i, hi2, b⟩
          | true => have := hf hb; subst this; exact Or.inl ⟨rfl, b⟩
        · have q3 := (b2i_0 _).mp q3
          refine ih (i + 1) (by omega) (fun z hz2 => ?_) (fun z => by rw [q3] at z; cases z)
          by_cases e : z = i
          · rw [e]; exact b
          · exact hz z (by omega)
        · have q3 := (b2i_ne _).mp q3
          have hi0 := hf q3
          subst hi0
          exact h4 hne q2 q3 b
    exact ⟨_, key (bC x j) 0 (by omega) (fun k hk => absurd hk (Nat.not_lt_zero k)) (fun _ => rfl)⟩
end PLR2
