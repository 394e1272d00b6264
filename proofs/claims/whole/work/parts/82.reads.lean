/-! THE CLASS'S READING METHODS -/
def sumL (f : Nat → Int64) : Nat → Int64
  | 0 => 0
  | n + 1 => sumL f n + f n
/-- what a row gives to an account -/
def rowF (x : xSt) (j a k : Nat) : Int64 := if rA x j k = a then rV x j k else 0
/-- what a row takes from an account, without sign (as it is summed) -/
def takF (x : xSt) (j a k : Nat) : Int64 := if rA x j k = a ∧ rV x j k < 0 then -rV x j k else 0
section PLR
variable {E : xE_T} {w : xw_T} {ad : xR → Nat} {ct : xR → Option va_E} {x : xSt}
theorem ac_inj (hR : xRp w ad ct) (hC : cC E ad ct x) {i a : Nat} (hi : i < sA x) (ha : a < sA x) : some (ad (5, i, 0)) = some (ad (5, a, 0)) ↔ i = a := by
  constructor
  · intro h
    have h2 := hR.2 (5, i, 0) (5, a, 0) (by rw [hC.2.1 i hi]; exact fun q => by cases q) (by rw [hC.2.1 a ha]; exact fun q => by cases q) (Option.some.inj h)
    exact (Prod.mk.inj (Prod.mk.inj h2).2).1
  · intro h; rw [h]
theorem ba_inj (hR : xRp w ad ct) (hC : cC E ad ct x) {i a : Nat} (hi : i < sB x) (ha : a < sB x) : some (ad (6, i, 0)) = some (ad (6, a, 0)) ↔ i = a := by
  constructor
  · intro h
    have h2 := hR.2 (6, i, 0) (6, a, 0) (by rw [(hC.2.2.1 i hi).1]; exact fun q => by cases q) (by rw [(hC.2.2.1 a ha).1]; exact fun q => by cases q) (Option.some.inj h)
    exact (Prod.mk.inj (Prod.mk.inj h2).2).1
  · intro h; rw [h]
theorem ba_sumOfRows {post : Int64 → xw_T → Prop} (hR : xRp w ad ct) (hC : cC E ad ct x) (hO : sOk x) {j : Nat} (hj : j < sB x) (h : post (sumL (rV x j) (bC x j)) w) : wp_BA_sumOfRows E post w (ad (6, j, 0)) := by
  have hL := (hC.2.2.1 j hj).2.1
  have hB := ba_at hR hC hj
  have hc := (hO.2.2.2.2.2 j hj).1
  have key : ∀ d i, i + d = bC x j → wl_BA_sumOfRows_4 E post (d + 1) w (ad (6, j, 0)) (sumL (rV x j) i) (nI i) := by
    intro d
    induction d with
    | zero =>
      intro i hi
      have hi : i = bC x j := by omega
      subst hi
      exact ⟨_, gr_of hB rfl, _, rfl, nl_recv hR hL, nl_size hR hL ⟨fun _ => h, fun q => absurd (nI_le (Nat.le_refl _) (by omega)) q⟩⟩
    | succ d ih =>
      intro i hi
      have hi2 : i < bC x j := by omega
      refine ⟨_, gr_of hB rfl, _, rfl, nl_recv hR hL, nl_size hR hL ⟨fun q => absurd q (nI_ge hi2 (by omega)), fun _ => ⟨_, gr_of hB rfl, _, rfl, nl_recv hR hL, nl_get hR hL hi2 ⟨_, rfl, ⟨_, rw_at hR hC hj hi2⟩, _, gl_of (rw_at hR hC hj hi2) rfl, ?_⟩⟩⟩⟩
      rw [nI_1]
      exact ih (i + 1) (by omega)
  exact ⟨_, key (bC x j) 0 (by omega)⟩
theorem ba_sumForAccount {post : Int64 → xw_T → Prop} (hR : xRp w ad ct) (hC : cC E ad ct x) (hO : sOk x) {j a n : Nat} (hj : j < sB x) (ha : a < sA x) (hn : n ≤ bC x j) (h : post (sumL (rowF x j a) n) w) : wp_BA_sumForAccount E post w (ad (6, j, 0)) (some (ad (5, a, 0))) (nI n) := by
  have hL := (hC.2.2.1 j hj).2.1
  have hB := ba_at hR hC hj
  have hc := (hO.2.2.2.2.2 j hj).1
  have key : ∀ d i, i + d = n → wl_BA_sumForAccount_5 E post (d + 1) w (ad (6, j, 0)) (some (ad (5, a, 0))) (nI n) (sumL (rowF x j a) i) (nI i) := by
    intro d
    induction d with
    | zero =>
      intro i hi
      have hi : i = n := by omega
      subst hi
      exact ⟨fun _ => h, fun q => absurd (nI_le (Nat.le_refl _) (by omega)) q⟩
    | succ d ih =>
      intro i hi
      have hi2 : i < bC x j := by omega
      have hw9 := rw_at hR hC hj hi2
      have hlt := ((hC.2.2.1 j hj).2.2.1 i hi2).2
      have e1 : ∀ s : Int64, nI i + 1 = nI (i + 1) := fun _ => nI_1 i
      refine ⟨fun q => absurd q (nI_ge (by omega) (by omega)), fun _ => ⟨_, gr_of hB rfl, _, rfl, nl_recv hR hL, nl_size hR hL ⟨fun q => absurd q (nI_ge hi2 (by omega)), fun _ => ⟨_, gr_of hB rfl, _, rfl, nl_recv hR hL, nl_get hR hL hi2 ⟨_, rfl, ⟨_, hw9⟩, _, gr_of hw9 rfl, fun q => ?_, fun q => ⟨_, gl_of hw9 rfl, ?_⟩⟩⟩⟩⟩⟩
      · have h9 := ih (i + 1) (by omega)
        have e : sumL (rowF x j a) (i + 1) = sumL (rowF x j a) i := by
          show sumL (rowF x j a) i + rowF x j a i = _
          rw [rowF, if_neg (fun z => q ((ac_inj hR hC hlt ha).mpr z)), Int64.add_zero]
        rw [e] at h9
        rw [nI_1]; exact h9
      · have h9 := ih (i + 1) (by omega)
        have e : sumL (rowF x j a) (i + 1) = sumL (rowF x j a) i + rV x j i := by
          show sumL (rowF x j a) i + rowF x j a i = _
          rw [rowF, if_pos ((ac_inj hR hC hlt ha).mp q)]
        rw [e] at h9
        rw [nI_1]; exact h9
  exact ⟨_, key n 0 (by omega)⟩
theorem ba_taken {post : Int64 → xw_T → Prop} (hR : xRp w ad ct) (hC : cC E ad ct x) (hO : sOk x) {j a : Nat} (hj : j < sB x) (ha : a < sA x) (h : post (sumL (takF x j a) (bC x j)) w) : wp_BA_takenFromAccount E post w (ad (6, j, 0)) (some (ad (5, a, 0))) := by
  have hL := (hC.2.2.1 j hj).2.1
  have hB := ba_at hR hC hj
  have hc := (hO.2.2.2.2.2 j hj).1
  have key : ∀ d i, i + d = bC x j → wl_BA_takenFromAccount_5 E post (d + 1) w (ad (6, j, 0)) (some (ad (5, a, 0))) (sumL (takF x j a) i) (nI i) := by
    intro d
    induction d with
    | zero =>
      intro i hi
      have hi : i = bC x j := by omega
      subst hi
      exact ⟨_, gr_of hB rfl, _, rfl, nl_recv hR hL, nl_size hR hL ⟨fun _ => h, fun q => absurd (nI_le (Nat.le_refl _) (by omega)) q⟩⟩
    | succ d ih =>
      intro i hi
      have hi2 : i < bC x j := by omega
      have hw9 := rw_at hR hC hj hi2
      have hlt := ((hC.2.2.1 j hj).2.2.1 i hi2).2
      have h9 := ih (i + 1) (by omega)
      refine ⟨_, gr_of hB rfl, _, rfl, nl_recv hR hL, nl_size hR hL ⟨fun q => absurd q (nI_ge hi2 (by omega)), fun _ => ⟨_, gr_of hB rfl, _, rfl, nl_recv hR hL, nl_get hR hL hi2 ⟨_, rfl, ⟨_, hw9⟩, _, gr_of hw9 rfl, fun q => ?_, fun q => ⟨_, gl_of hw9 rfl, fun q2 => ?_, fun q2 => ⟨_, gl_of hw9 rfl, ?_⟩⟩⟩⟩⟩⟩
      · have e : sumL (takF x j a) (i + 1) = sumL (takF x j a) i := by
          show sumL (takF x j a) i + takF x j a i = _
          rw [takF, if_neg (fun z => q ((ac_inj hR hC hlt ha).mpr z.1)), Int64.add_zero]
        rw [e] at h9
        rw [nI_1]; exact h9
      · have e : sumL (takF x j a) (i + 1) = sumL (takF x j a) i := by
          show sumL (takF x j a) i + takF x j a i = _
          rw [takF, if_neg (fun z => Int64.not_lt.mpr q2 z.2), Int64.add_zero]
        rw [e] at h9
        rw [nI_1]; exact h9
      · have e : sumL (takF x j a) (i + 1) = sumL (takF x j a) i - rV x j i := by
          show sumL (takF x j a) i + takF x j a i = _
          rw [takF, if_pos ⟨(ac_inj hR hC hlt ha).mp q, Int64.not_le.mp q2⟩, Int64.sub_eq_add_neg]
        rw [e] at h9
        rw [nI_1]; exact h9
  exact ⟨_, key (bC x j) 0 (by omega)⟩
theorem pl_all {post : Int64 → xw_T → Prop} (hR : xRp w ad ct) (hC : cC E ad ct x) (hO : sOk x) (h : post (sumL (aT x) (sA x)) w) : wp_PL_all E post w (ad (0, 0, 0)) := by
  have hL := hC.1.2.1
  have hP := pl_at hR hC
  have hc := hO.1
  have key : ∀ d i, i + d = sA x → wl_PL_all_4 E post (d + 1) w (ad (0, 0, 0)) (sumL (aT x) i) (nI i) := by
    intro d
    induction d with
    | zero =>
      intro i hi
      have hi : i = sA x := by omega
      subst hi
      exact ⟨_, gr_of hP rfl, _, rfl, nl_recv hR hL, nl_size hR hL ⟨fun _ => h, fun q => absurd (nI_le (Nat.le_refl _) (by omega)) q⟩⟩
    | succ d ih =>
      intro i hi
      have hi2 : i < sA x := by omega
      refine ⟨_, gr_of hP rfl, _, rfl, nl_recv hR hL, nl_size hR hL ⟨fun q => absurd q (nI_ge hi2 (by omega)), fun _ => ⟨_, gr_of hP rfl, _, rfl, nl_recv hR hL, nl_get hR hL hi2 ⟨_, rfl, ⟨_, ac_at hR hC hi2⟩, _, gl_of (ac_at hR hC hi2) rfl, ?_⟩⟩⟩⟩
      rw [nI_1]
      exact ih (i + 1) (by omega)
  exact ⟨_, key (sA x) 0 (by omega)⟩
theorem pl_rows {post : Int32 → xw_T → Prop} (hR : xRp w ad ct) (hC : cC E ad ct x) (h : post (nI (sR x)) w) : wp_PL_rows E post w (ad (0, 0, 0)) := ⟨_, gi_of (pl_at hR hC) rfl, h⟩
theorem ac_isOfKind {post : Int32 → xw_T → Prop} (hR : xRp w ad ct) (hC : cC E ad ct x) {i : Nat} (hi : i < sA x) (o k : Int32) (h : post (b2i (decide (aO x i = o ∧ aK x i = k))) w) : wp_AC_isOfKind E post w (ad (5, i, 0)) o k := by
  have hA := ac_at hR hC hi
  refine ⟨_, gi_of hA rfl, fun q => ?_, fun q => ⟨_, gi_of hA rfl, fun q2 => ?_, fun q2 => ?_⟩⟩
  · rw [decide_eq_false (fun z => q z.1)] at h; exact h
  · rw [decide_eq_false (fun z => q2 z.2)] at h; exact h
  · rw [decide_eq_true ⟨q, q2⟩] at h; exact h
end PLR
