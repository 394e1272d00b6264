/-! THE REFERENCE'S READING METHODS -/
def sumN (f : Nat → Nat) : Nat → Nat
  | 0 => 0
  | n + 1 => sumN f n + f n
/-- the rows of the batches posted before the k-th -/
def pre (x : xSt) (k : Nat) : Nat := sumN (fun i => bC x (pB x i)) k
def fI (r : Option Nat) : Int32 := match r with
  | none => 0
  | some i => nI (i + 1)
section MOE
variable {E : xE_T} {w : xw_T} {ad : xR → Nat} {ct : xR → Option va_E} {x : xSt} {G : xG} {th : Int32}
theorem mo_th (hR : xRp w ad ct) (hM : mR E ad ct (hd x th) G) (t : Int32) : ∃ ct', xRp (xp w (ad (10, 0, 0)) 0 (.int t)) ad ct' ∧ mR E ad ct' (hd x t) G ∧ Fm ct ct' := by
  have m10 := (mR_at hR hM).1
  obtain ⟨ct', R', M', F'⟩ := mR_h hR hM (hd x t)
  have e : xp w (ad (10, 0, 0)) 0 (.int t) = va_up w (ad (10, 0, 0)) (some (.inr (5, moF ad (hd x t)))) := by
    rw [xp_of m10]; rfl
  rw [← e] at R'
  exact ⟨ct', R', M', F'⟩
theorem mo_begin {P : xw_T → Prop} (hR : xRp w ad ct) (hM : mR E ad ct (hd x th) G) (h : ∀ w' ct', xRp w' ad ct' → mR E ad ct' (hd x 0) G → Fm ct ct' → P w') : (∃ v0, xg w (ad (10, 0, 0)) 5 0 = some v0) ∧ ∀ w1, w1 = xp w (ad (10, 0, 0)) 0 (.int 0) → P w1 := by
  have m10 := (mR_at hR hM).1
  refine ⟨⟨_, by rw [xg_of m10]; rfl⟩, fun w1 e1 => ?_⟩
  obtain ⟨ct', R', M', F'⟩ := mo_th hR hM 0
  rw [← e1] at R'
  exact h w1 ct' R' M' F'
theorem mo_balance {post : Int64 → xw_T → Prop} (hR : xRp w ad ct) (hM : mR E ad ct (hd x th) G) (hO : mOk x) (hS : mS x G) (p : Int32) (day : Int64) (h0 : num p (sA x) = none → ∀ w' ct', xRp w' ad ct' → mR E ad ct' (hd x 0) G → Fm ct ct' → post (-2000000001) w') (h1 : ∀ a, num p (sA x) = some a → a < sA x → ∀ w' ct', xRp w' ad ct' → mR E ad ct' (hd x 0) G → Fm ct ct' → post (sumL (mbF x a day) (sP x)) w') : wp_MO_balance E post w (ad (10, 0, 0)) p day := by
  refine mo_begin hR hM (fun w' ct' R' M' F' => ⟨⟨_, (mR_at R' M').1⟩, mo_isA R' M' hO p (fun q => ⟨fun _ => h0 q w' ct' R' M' F', fun z => absurd rfl z⟩) (fun a q ha e => ⟨fun z => absurd z (by decide), fun _ => ⟨⟨_, (mR_at R' M').1⟩, ?_⟩⟩)⟩)
  rw [e]
  exact mo_bal R' M' hO hS ha day (h1 a q ha w' ct' R' M' F')
theorem mo_rows {post : Int32 → xw_T → Prop} (hR : xRp w ad ct) (hM : mR E ad ct (hd x th) G) (hO : mOk x) (hS : mS x G) (h1 : ∀ w' ct', xRp w' ad ct' → mR E ad ct' (hd x 0) G → Fm ct ct' → post (nI (pre x (sP x))) w') : wp_MO_rows E post w (ad (10, 0, 0)) := by
  refine mo_begin hR hM (fun w' ct' R' M' F' => ?_)
  have h := h1 w' ct' R' M' F'
  obtain ⟨m10, m11, m12, m13, m14, m15, m16, m17, m18, m19, m20, m21, m22⟩ := mR_at R' M'
  have hB := hO.1.2.1
  have hP := hO.1.2.2.1
  have key : ∀ d i, i + d = sP x → wl_MO_rows_9 E post (d + 1) w' (ad (10, 0, 0)) (nI (pre x i)) (nI i) := by
    intro d
    induction d with
    | zero =>
      intro i hi
      have hi : i = sP x := by omega
      subst hi
      exact ⟨_, gi_of m10 rfl, fun _ => h, fun q => absurd (nI_le (Nat.le_refl _) (by show sP x < _; omega)) q⟩
    | succ d ih =>
      intro i hi
      have h9 := ih (i + 1) (by omega)
      have hi2 : i < sP x := by omega
      have hb := hO.2.1 i hi2
      have hq := hS.2.2.2.2 i hi2
      have hs := hS.2.2.1 (pB x i) hb
      refine ⟨_, gi_of m10 rfl, fun q => absurd q (nI_ge hi2 (by show sP x < _; omega)), fun _ => ⟨_, gr_of m10 rfl, _, gr_of m10 rfl, _, rfl, _, _, xaI_of m22, vp_in_nI (by omega) (by omega), _, rfl, _, _, xaI_of m19, ?_⟩⟩
      rw [nI_clamp (by omega), hq, nI_clamp (by omega), hs.2.2.2.2.1, nI_add, nI_1]
      exact ⟨vp_in_nI (by omega) (by omega), h9⟩
  exact ⟨_, key (sP x) 0 (by omega)⟩
theorem mo_all {post : Int64 → xw_T → Prop} (hR : xRp w ad ct) (hM : mR E ad ct (hd x th) G) (hO : mOk x) (hS : mS x G) (h1 : ∀ w' ct', xRp w' ad ct' → mR E ad ct' (hd x 0) G → Fm ct ct' → post (sumL (mTot x) (sA x)) w') : wp_MO_all E post w (ad (10, 0, 0)) := by
  refine mo_begin hR hM (fun w' ct' R' M' F' => ?_)
  have h := h1 w' ct' R' M' F'
  have m10 := (mR_at R' M').1
  have hA := hO.1.1
  have key : ∀ d i, i + d = sA x → wl_MO_all_9 E post (d + 1) w' (ad (10, 0, 0)) (sumL (mTot x) i) (nI (i + 1)) := by
    intro d
    induction d with
    | zero =>
      intro i hi
      have hi : i = sA x := by omega
      subst hi
      exact ⟨_, gi_of m10 rfl, fun _ => h, fun q => absurd (show nI (sA x) < nI (sA x + 1) from nI_lt (by omega) (by omega)) q⟩
    | succ d ih =>
      intro i hi
      have h9 := ih (i + 1) (by omega)
      have hi2 : i < sA x := by omega
      refine ⟨_, gi_of m10 rfl, fun q => absurd q (show ¬ nI (sA x) < nI (i + 1) from nI_nlt (by omega) (by omega)), fun _ => ⟨⟨_, m10⟩, mo_ever R' M' hO hS hi2 ?_⟩⟩
      rw [nI_1]; exact h9
  exact ⟨_, key (sA x) 0 (by omega)⟩
theorem mo_hold {post : Int64 → xw_T → Prop} (hR : xRp w ad ct) (hM : mR E ad ct (hd x th) G) (hO : mOk x) (hS : mS x G) (p : Int32) (h0 : num p (sA x) = none → ∀ w' ct', xRp w' ad ct' → mR E ad ct' (hd x 0) G → Fm ct ct' → post (-2000000001) w') (h1 : ∀ a, num p (sA x) = some a → a < sA x → ∀ w' ct', xRp w' ad ct' → mR E ad ct' (hd x 0) G → Fm ct ct' → post (sumL (holF x a) (sB x)) w') : wp_MO_hold E post w (ad (10, 0, 0)) p := by
  refine mo_begin hR hM (fun w' ct' R' M' F' => ⟨⟨_, (mR_at R' M').1⟩, mo_isA R' M' hO p (fun q => ⟨fun z => absurd rfl z, fun _ => h0 q w' ct' R' M' F'⟩) (fun a q ha e => ⟨fun _ => ?_, fun z => absurd z (by decide)⟩)⟩)
  subst e
  have h := h1 a q ha w' ct' R' M' F'
  obtain ⟨m10, m11, m12, m13, m14, m15, m16, m17, m18, m19, m20, m21, m22⟩ := mR_at R' M'
  have hA := hO.1.1
  have hB := hO.1.2.1
  have inn : ∀ (K : xw_T → Nat → Int32 → Int64 → Int32 → Prop) (j : Nat) (S : Int64), j < sB x → K w' (ad (10, 0, 0)) (nI (a + 1)) (S + holF x a j) (nI (j + 1) + 1) → ∃ n, wl_MO_hold_34 E post K n w' (ad (10, 0, 0)) (nI (a + 1)) S (nI (j + 1)) 0 := by
    intro K j S hj hK
    have hs := hS.2.2.1 j hj
    obtain ⟨hc, hs2, -, -⟩ := hO.1.2.2.2.2.2 j hj
    by_cases ho : bS x j = 0
    · rw [holF, if_pos ho] at hK
      have key : ∀ d i, i + d = bC x j → wl_MO_hold_34 E post K (d + 1) w' (ad (10, 0, 0)) (nI (a + 1)) (S + sumL (takF x j a) i) (nI (j + 1)) (nI i) := by
        intro d
        induction d with
        | zero =>
          intro i hi
          have hi : i = bC x j := by omega
          subst hi
          refine ⟨_, gr_of m10 rfl, _, rfl, _, _, xaI_of m19, vp_in_nI (by omega) (by omega), ?_⟩
          rw [nI_clamp (by omega), hs.2.2.2.2.1]
          exact ⟨fun _ => hK, fun q => absurd (nI_le (Nat.le_refl _) (by omega)) q⟩
        | succ d ih =>
          intro i hi
          have h9 := ih (i + 1) (by omega)
          have hi2 : i < bC x j := by omega
          have hr := hs.2.2.2.2.2 i hi2
          have hlt := hO.2.2 j hj i hi2
          refine ⟨_, gr_of m10 rfl, _, rfl, _, _, xaI_of m19, vp_in_nI (by omega) (by omega), ?_⟩
          rw [nI_clamp (by omega), hs.2.2.2.2.1]
          refine ⟨fun q => absurd q (nI_ge hi2 (by omega)), fun _ => ⟨_, gr_of m10 rfl, _, rfl, _, _, xaI_of m14, vp_in_nI (by omega) (by omega), ?_⟩⟩
          rw [hs.1, ho]
          refine ⟨fun z => absurd nI_0 z, fun _ => ⟨_, gr_of m10 rfl, _, rfl, _, _, xaL_of m21, ?_⟩⟩
          rw [ix12, nI_clamp (by omega), hr.2]
          refine ⟨vp_in_nI (by omega) (by omega), _, gr_of m10 rfl, _, rfl, _, _, xaI_of m20, vp_in_nI (by omega) (by omega), ?_⟩
          rw [hr.1]
          refine ⟨fun q => ?_, fun q => ⟨fun q2 => ?_, fun q2 => ?_⟩⟩
          · have e : sumL (takF x j a) (i + 1) = sumL (takF x j a) i := by
              show sumL (takF x j a) i + takF x j a i = _
              rw [takF, if_neg (fun z => q (by rw [z.1])), Int64.add_zero]
            rw [e] at h9
            rw [nI_1]; exact h9
          · have e : sumL (takF x j a) (i + 1) = sumL (takF x j a) i := by
              show sumL (takF x j a) i + takF x j a i = _
              rw [takF, if_neg (fun z => Int64.not_lt.mpr q2 z.2), Int64.add_zero]
            rw [e] at h9
            rw [nI_1]; exact h9
          · have e : S + sumL (takF x j a) (i + 1) = S + sumL (takF x j a) i - rV x j i := by
              show S + (sumL (takF x j a) i + takF x j a i) = _
              rw [takF, if_pos ⟨by have := (nI_eq (by omega) (by omega)).mp q; omega, Int64.not_le.mp q2⟩, Int64.sub_eq_add_neg, Int64.add_assoc]
            rw [e] at h9
            rw [nI_1]; exact h9
      have := key (bC x j) 0 (by omega)
      rw [show sumL (takF x j a) 0 = 0 from rfl, Int64.add_zero] at this
      exact ⟨_, this⟩
    · rw [holF, if_neg ho, Int64.add_zero] at hK
      refine ⟨1, _, gr_of m10 rfl, _, rfl, _, _, xaI_of m19, vp_in_nI (by omega) (by omega), ?_⟩
      rw [nI_clamp (by omega), hs.2.2.2.2.1]
      refine ⟨fun _ => hK, fun _ => ⟨_, gr_of m10 rfl, _, rfl, _, _, xaI_of m14, vp_in_nI (by omega) (by omega), ?_⟩⟩
      rw [hs.1]
      exact ⟨fun _ => hK, fun z => absurd z (nI_ne0 (by omega) (by omega))⟩
  have key : ∀ d i, i + d = sB x → wl_MO_hold_22 E post (d + 1) w' (ad (10, 0, 0)) (nI (a + 1)) (sumL (holF x a) i) (nI (i + 1)) := by
    intro d
    induction d with
    | zero =>
      intro i hi
      have hi : i = sB x := by omega
      subst hi
      exact ⟨_, gi_of m10 rfl, fun _ => h, fun q => absurd (show nI (sB x) < nI (sB x + 1) from nI_lt (by omega) (by omega)) q⟩
    | succ d ih =>
      intro i hi
      have h9 := ih (i + 1) (by omega)
      have hi2 : i < sB x := by omega
      refine ⟨_, gi_of m10 rfl, fun q => absurd q (show ¬ nI (sB x) < nI (i + 1) from nI_nlt (by omega) (by omega)), fun _ => ?_⟩
      refine inn _ i _ hi2 ?_
      rw [nI_1]; exact h9
  exact ⟨_, key (sB x) 0 (by omega)⟩
theorem mo_first {post : Int32 → xw_T → Prop} (hR : xRp w ad ct) (hM : mR E ad ct (hd x th) G) (hA : sA x ≤ 60) (hS : ∀ i, i < sA x → gO G (i + 1) = aO x i ∧ gK G (i + 1) = aK x i) (o k : Int32) (h : ∀ r, isFst x o k r → post (fI r) w) : wp_MO_first E post w (ad (10, 0, 0)) o k := by
  obtain ⟨m10, m11, m12, m13, m14, m15, m16, m17, m18, m19, m20, m21, m22⟩ := mR_at hR hM
  have key : ∀ d i, i + d = sA x → (∀ z, z < i → ¬ (aO x z = o ∧ aK x z = k)) → wl_MO_first_2 E post (d + 1) w (ad (10, 0, 0)) o k (nI (i + 1)) := by
    intro d
    induction d with
    | zero =>
      intro i hi hz
      have hi : i = sA x := by omega
      subst hi
      have hl : nI (sA x) < nI (sA x + 1) := nI_lt (by omega) (by omega)
      exact ⟨_, gi_of m10 rfl, fun _ => ⟨_, gi_of m10 rfl, fun _ => h none (Or.inl ⟨rfl, hz⟩), fun q => absurd hl q⟩, fun q => absurd hl q⟩
    | succ d ih =>
      intro i hi hz
      have hi2 : i < sA x := by omega
      have hn : ¬ nI (sA x) < nI (i + 1) := nI_nlt (by omega) (by omega)
      have hs := hS i hi2
      have go : ¬ (aO x i = o ∧ aK x i = k) → wl_MO_first_2 E post (d + 1) w (ad (10, 0, 0)) o k (nI (i + 1) + 1) := by
        intro q
        rw [nI_1]
        refine ih (i + 1) (by omega) (fun z hz2 => ?_)
        by_cases e : z = i
        · rw [e]; exact q
        · exact hz z (by omega)
      refine ⟨_, gi_of m10 rfl, fun q => absurd q hn, fun _ => ⟨_, gr_of m10 rfl, _, rfl, _, _, xaI_of m11, vp_in_nI (by omega) (by omega), ?_⟩⟩
      rw [nI_clamp (by omega), hs.1]
      refine ⟨fun q => go (fun z => q z.1), fun q => ⟨_, gr_of m10 rfl, _, rfl, _, _, xaI_of m12, vp_in_nI (by omega) (by omega), ?_⟩⟩
      rw [hs.2]
      exact ⟨fun q2 => ⟨_, gi_of m10 rfl, fun z => absurd z hn, fun _ => h (some i) (Or.inr ⟨i, rfl, hi2, ⟨q, q2⟩, hz⟩)⟩, fun q2 => go (fun z => q2 z.2)⟩
  exact ⟨_, key (sA x) 0 (by omega) (fun z hz => absurd hz (Nat.not_lt_zero z))⟩
theorem mo_batchOf {post : Int32 → xw_T → Prop} (hR : xRp w ad ct) (hM : mR E ad ct (hd x th) G) (hO : mOk x) (hS : mS x G) (r : Int32) (h0 : r ≤ 0 → post 0 w) (hN : ∀ n, r = nI n → n < 2 ^ 31 → pre x (sP x) < n → post 0 w) (h1 : ∀ n k, r = nI n → n < 2 ^ 31 → k < sP x → pre x k < n → n ≤ pre x k + bC x (pB x k) → post (nI (pB x k + 1)) w) : wp_MO_batchOf E post w (ad (10, 0, 0)) r := by
  obtain ⟨m10, m11, m12, m13, m14, m15, m16, m17, m18, m19, m20, m21, m22⟩ := mR_at hR hM
  have hB := hO.1.2.1
  have hP := hO.1.2.2.1
  by_cases hr : r ≤ 0
  · exact ⟨1, _, gi_of m10 rfl, fun _ => h0 hr, fun _ => ⟨fun _ => h0 hr, fun z => absurd hr z⟩⟩
  · have hr' : ¬ r < 0 := fun z => hr (Int32.le_of_lt z)
    obtain ⟨n, hn, rfl⟩ := nI_of hr'
    have hn0 : 0 < n := Nat.pos_of_ne_zero (fun z => hr (by rw [z]; exact Int32.le_refl _))
    have key : ∀ d i, i + d = sP x → pre x i < n → wl_MO_batchOf_4 E post (d + 1) w (ad (10, 0, 0)) (nI n) (nI (n - pre x i)) (nI i) := by
      intro d
      induction d with
      | zero =>
        intro i hi hp
        have hi : i = sP x := by omega
        subst hi
        exact ⟨_, gi_of m10 rfl, fun _ => hN n rfl hn hp, fun q => absurd (nI_le (Nat.le_refl _) (by show sP x < _; omega)) q⟩
      | succ d ih =>
        intro i hi hp
        have hi2 : i < sP x := by omega
        have hb := hO.2.1 i hi2
        have hq := hS.2.2.2.2 i hi2
        have hs := hS.2.2.1 (pB x i) hb
        have hc := (hO.1.2.2.2.2.2 (pB x i) hb).1
        have ep : pre x (i + 1) = pre x i + bC x (pB x i) := rfl
        refine ⟨_, gi_of m10 rfl, fun q => absurd q (nI_ge hi2 (by show sP x < _; omega)), fun _ => ⟨fun z => absurd z hr, fun _ => ⟨_, gr_of m10 rfl, _, gr_of m10 rfl, _, rfl, _, _, xaI_of m22, vp_in_nI (by omega) (by omega), _, rfl, _, _, xaI_of m19, ?_⟩⟩⟩
        rw [nI_clamp (by omega), hq, nI_clamp (by omega), hs.2.2.2.2.1]
        refine ⟨vp_in_nI (by omega) (by omega), ?_⟩
        by_cases hh : pre x i + bC x (pB x i) < n
        · have e1 : nI (n - pre x i) - nI (bC x (pB x i)) = nI (n - pre x (i + 1)) := by
            rw [pk_sub (by omega), ep, Nat.sub_sub]
          rw [e1, nI_1]
          have hpos : 0 < nI (n - pre x (i + 1)) := by rw [← nI_0]; exact nI_lt (by omega) (by omega)
          exact ⟨fun _ => ih (i + 1) (by omega) (by omega), fun z => absurd hpos z⟩
        · have hneg : ¬ 0 < nI (n - pre x i) - nI (bC x (pB x i)) := by
            intro z
            have z := Int32.lt_iff_toInt_lt.mp z
            rw [pk_sub_toInt (by omega) (by omega)] at z
            have e0 : (0 : Int32).toInt = 0 := rfl
            omega
          refine ⟨fun z => absurd z hneg, fun _ => ⟨_, gr_of m10 rfl, _, rfl, _, _, xaI_of m22, vp_in_nI (by omega) (by omega), ?_⟩⟩
          rw [hq]
          exact h1 n i rfl hn hi2 hp (by omega)
    have := key (sP x) 0 (by omega) hn0
    rw [show n - pre x 0 = n from Nat.sub_zero n] at this
    exact ⟨_, this⟩
end MOE
