/-! THE REFERENCE'S WRITING METHODS -/
theorem rng {o M : Int32} {m : Int64} (hm : m.toInt + 1 = M.toInt) : (0 ≤ o.toInt64 ∧ o.toInt64 ≤ m) ↔ (0 ≤ o ∧ o < M) := by
  rw [Int64.le_iff_toInt_le, Int64.le_iff_toInt_le, Int32.le_iff_toInt_le, Int32.lt_iff_toInt_lt, Int32.toInt_toInt64]
  have e0 : (0 : Int64).toInt = 0 := rfl
  have e1 : (0 : Int32).toInt = 0 := rfl
  omega
theorem clT {n : Nat} (h : n ≤ 30000) : ((nI n).toInt64 - 1).toInt = (n : Int) - 1 := by
  rw [Int64.toInt_sub, Int32.toInt_toInt64, nI_toInt (by omega), show (1 : Int64).toInt = 1 from rfl]
  exact Int.bmod_eq_of_le (by omega) (by omega)
theorem dT {n : Nat} (h : n ≤ 30000) : ((nI n).toInt64).toInt = (n : Int) := by rw [Int32.toInt_toInt64, nI_toInt (by omega)]
theorem cl_lt {n d : Nat} (h : n ≤ 30000) (h2 : d ≤ 30000) : (nI n).toInt64 - 1 < (nI d).toInt64 ↔ ¬ (nI d).toInt64 < (nI n).toInt64 := by
  rw [Int64.lt_iff_toInt_lt, Int64.lt_iff_toInt_lt, clT h, dT h2, dT h]; omega
theorem small_of {p : Int64} (h : 0 ≤ p ∧ p ≤ 100000000) : ∃ d : Nat, d ≤ 100000000 ∧ p = (nI d).toInt64 ∧ p.toInt32 = nI d := by
  have h1 := Int64.le_iff_toInt_le.mp h.1
  have h2 := Int64.le_iff_toInt_le.mp h.2
  have e0 : (0 : Int64).toInt = 0 := rfl
  have e2 : (100000000 : Int64).toInt = 100000000 := rfl
  rw [e0] at h1
  rw [e2] at h2
  have ep : p = (nI p.toInt.toNat).toInt64 := by
    apply Int64.toInt_inj.mp
    rw [Int32.toInt_toInt64, nI_toInt (by omega)]
    omega
  refine ⟨p.toInt.toNat, by omega, ep, ?_⟩
  generalize p.toInt.toNat = n at ep
  rw [ep]
  exact Int32.toInt32_toInt64 _
theorem z64 : (0 : Int32).toInt64 = 0 := by
  apply Int64.toInt_inj.mp
  rw [Int32.toInt_toInt64]
  rfl
theorem nar_b (b : Bool) : vp_nar .boolean (b2i b) = b2i b := by cases b <;> rfl
section MOW
variable {E : xE_T} {w : xw_T} {ad : xR → Nat} {ct : xR → Option va_E} {x : xSt} {G : xG} {th : Int32}
theorem uNA_a (x : xSt) (o k : Int32) {z : Nat} (h : z ≠ sA x) : (uNA x o k).2.1 z = x.2.1 z := if_neg h
theorem uNA_n (x : xSt) (o k : Int32) : (uNA x o k).2.1 (sA x) = (o, k, 0, 0) := if_pos rfl
theorem mo_account {post : Int32 → xw_T → Prop} (hR : xRp w ad ct) (hM : mR E ad ct (hd x th) G) (hO : mOk x) (hS : mS x G) (o k : Int32) (h2 : ¬ okA o k → ∀ w' ct', xRp w' ad ct' → mR E ad ct' (hd x 0) G → Fm ct ct' → post (-2000000002) w') (h4 : okA o k → sA x = 60 → ∀ w' ct', xRp w' ad ct' → mR E ad ct' (hd x 0) G → Fm ct ct' → post (-2000000004) w')
    (h1 : okA o k → sA x < 60 → ∀ w' ct' G', xRp w' ad ct' → mR E ad ct' (hd (uNA x o k) 0) G' → mS (uNA x o k) G' → gF G' = gF G → Fm ct ct' → post (nI (sA x + 1)) w') : wp_MO_account E post w (ad (10, 0, 0)) o k := by
  have hA := hO.1.1
  refine mo_begin hR hM (fun w1 ct1 R1 M1 F1 => mo_isIn _ _ _ ⟨fun q => h2 (fun z => of_decide_eq_false ((b2i_0 _).mp q) ((rng rfl).mpr z.1)) w1 ct1 R1 M1 F1, fun q => mo_isIn _ _ _ ⟨fun q2 => ?_, fun q2 => h2 (fun z => of_decide_eq_false ((b2i_0 _).mp q2) ((rng rfl).mpr z.2)) w1 ct1 R1 M1 F1⟩⟩)
  have hok : okA o k := ⟨(rng rfl).mp (of_decide_eq_true ((b2i_ne _).mp q)), (rng rfl).mp (of_decide_eq_true ((b2i_ne _).mp q2))⟩
  have m10 := (mR_at R1 M1).1
  refine ⟨_, gi_of m10 rfl, fun q3 => ⟨_, gi_of m10 rfl, ⟨_, by rw [xg_of m10]; rfl⟩, fun w8 e8 => ?_⟩, fun q3 => h4 hok ((nI_eq (show sA x < _ by omega) (by decide)).mp (show nI (sA x) = nI 60 from q3)) w1 ct1 R1 M1 F1⟩
  have hlt : sA x < 60 := by
    rcases Nat.lt_or_ge (sA x) 60 with z | z
    · exact z
    · exact absurd (show nI (sA x) = nI 60 by rw [show sA x = 60 by omega]) q3
  rw [xp_of m10, nI_1] at e8
  have e8 : w8 = va_up w1 (ad (10, 0, 0)) (some (.inr (5, moF ad (hd (uNA x o k) 0)))) := e8
  obtain ⟨ct8, R8, M8, F8⟩ := mR_h R1 M1 (hd (uNA x o k) 0)
  rw [← e8] at R8
  obtain ⟨n10, n11, n12, -⟩ := mR_at R8 M8
  refine ⟨_, gr_of n10 rfl, _, gi_of n10 rfl, _, rfl, _, _, xaI_of n11, vp_in_nI (show sA x + 1 < 61 by omega) (by decide), fun w14 e14 => ?_⟩
  obtain ⟨ct14, R14, M14, F14⟩ := mR_gO R8 M8 (upd (gO G) (sA x + 1) o)
  have e14 : w14 = va_up w8 (ad (11, 0, 0)) (some (xcI (E.1 1) 61 (upd (gO G) (nI (sA x + 1)).toNatClampNeg o))) := e14
  rw [nI_clamp (by omega)] at e14
  rw [← e14] at R14
  obtain ⟨k10, k11, k12, -⟩ := mR_at R14 M14
  refine ⟨_, gr_of k10 rfl, _, gi_of k10 rfl, _, rfl, _, _, xaI_of k12, vp_in_nI (show sA x + 1 < 61 by omega) (by decide), fun w20 e20 => ?_⟩
  obtain ⟨ct20, R20, M20, F20⟩ := mR_gK R14 M14 (upd (gK G) (sA x + 1) k)
  have e20 : w20 = va_up w14 (ad (12, 0, 0)) (some (xcI (E.1 1) 61 (upd (gK G) (nI (sA x + 1)).toNatClampNeg k))) := e20
  rw [nI_clamp (by omega)] at e20
  rw [← e20] at R20
  refine ⟨_, gi_of (mR_at R20 M20).1 rfl, h1 hok hlt w20 ct20 _ R20 M20 ?_ rfl (((F1.trans F8).trans F14).trans F20)⟩
  obtain ⟨s1, s2, s3, s4, s5⟩ := hS
  refine ⟨fun i hi => ?_, fun i hi => s2 i (by have hi : sA x + 1 ≤ i := hi; omega), s3, s4, s5⟩
  show upd (gO G) (sA x + 1) o (i + 1) = _ ∧ upd (gK G) (sA x + 1) k (i + 1) = _ ∧ gL G (i + 1) = _
  have hi : i < sA x + 1 := hi
  unfold aO aK aL
  by_cases e : i = sA x
  · subst e
    rw [uNA_n, pk_us, pk_us, s2 _ (Nat.le_refl _)]
    exact ⟨rfl, rfl, rfl⟩
  · rw [uNA_a _ _ _ e, pk_un (by omega), pk_un (by omega)]
    exact s1 i (by omega)
theorem mo_make {post : Int32 → xw_T → Prop} (hR : xRp w ad ct) (hM : mR E ad ct (hd x th) G) (hO : mOk x) (hS : mS x G) (hlt : sB x < 300) (d : Nat)
    (h1 : ∀ w' ct' G', xRp w' ad ct' → mR E ad ct' (hd (uNB x d) th) G' → mS (uNB x d) G' → gF G' = gF G → Fm ct ct' → post (nI (sB x + 1)) w') : wp_MO_make E post w (ad (10, 0, 0)) (nI d).toInt64 := by
  have m10 := (mR_at hR hM).1
  refine ⟨_, gi_of m10 rfl, ⟨_, by rw [xg_of m10]; rfl⟩, fun w8 e8 => ?_⟩
  rw [xp_of m10, nI_1] at e8
  have e8 : w8 = va_up w (ad (10, 0, 0)) (some (.inr (5, moF ad (hd (uNB x d) th)))) := e8
  obtain ⟨ct8, R8, M8, F8⟩ := mR_h hR hM (hd (uNB x d) th)
  rw [← e8] at R8
  obtain ⟨n10, n11, n12, n13, n14, n15, -⟩ := mR_at R8 M8
  refine ⟨_, gr_of n10 rfl, _, gi_of n10 rfl, _, rfl, _, _, xaI_of n14, vp_in_nI (show sB x + 1 < 301 by omega) (by decide), fun w14 e14 => ?_⟩
  obtain ⟨ct14, R14, M14, F14⟩ := mR_gS R8 M8 (upd (gS G) (sB x + 1) 0)
  have e14 : w14 = va_up w8 (ad (14, 0, 0)) (some (xcI (E.1 1) 301 (upd (gS G) (nI (sB x + 1)).toNatClampNeg 0))) := e14
  rw [nI_clamp (by omega)] at e14
  rw [← e14] at R14
  obtain ⟨k10, k11, k12, k13, k14, k15, -⟩ := mR_at R14 M14
  refine ⟨_, gr_of k10 rfl, _, gi_of k10 rfl, _, rfl, _, _, xaL_of k15, vp_in_nI (show sB x + 1 < 301 by omega) (by decide), fun w20 e20 => ?_⟩
  obtain ⟨ct20, R20, M20, F20⟩ := mR_gD R14 M14 (vp_updL (gD G) (sB x + 1) (nI d).toInt64)
  have e20 : w20 = va_up w14 (ad (15, 0, 0)) (some (xcL (E.1 2) 301 (vp_updL (gD G) (nI (sB x + 1)).toNatClampNeg (nI d).toInt64))) := e20
  rw [nI_clamp (by omega)] at e20
  rw [← e20] at R20
  refine ⟨_, gi_of (mR_at R20 M20).1 rfl, h1 w20 ct20 _ R20 M20 ?_ rfl ((F8.trans F14).trans F20)⟩
  obtain ⟨s1, s2, s3, s4, s5⟩ := hS
  refine ⟨s1, s2, fun j hj => ?_, fun j hj => s4 j (by have hj : sB x + 1 ≤ j := hj; omega), s5⟩
  show upd (gS G) (sB x + 1) 0 (j + 1) = _ ∧ vp_updL (gD G) (sB x + 1) (nI d).toInt64 (j + 1) = _ ∧ gP G (j + 1) = _ ∧ gB G (j + 1) = _ ∧ gR G (j + 1) = _ ∧ ∀ k, k < _ → gA G (12 * (j + 1) + k) = _ ∧ gC G (12 * (j + 1) + k) = _
  have hj : j < sB x + 1 := hj
  unfold bS bD bF bK bC
  by_cases e : j = sB x
  · subst e
    obtain ⟨t1, t2, t3, t4⟩ := s4 (sB x) (Nat.le_refl _)
    rw [uNB_n, pk_us, pk_uLs, t1, t3, t4]
    exact ⟨rfl, rfl, rfl, rfl, rfl, fun k hk => absurd hk (Nat.not_lt_zero k)⟩
  · rw [uNB_b _ _ _ e, pk_un (by omega), pk_uLn (by omega)]
    exact s3 j (by omega)
theorem mo_batch {post : Int32 → xw_T → Prop} (hR : xRp w ad ct) (hM : mR E ad ct (hd x th) G) (hO : mOk x) (hS : mS x G) (p : Int64) (h2 : ¬ (0 ≤ p ∧ p ≤ 20000) → ∀ w' ct', xRp w' ad ct' → mR E ad ct' (hd x 0) G → Fm ct ct' → post (-2000000002) w') (h3 : 0 ≤ p ∧ p ≤ 20000 → p < (nI (sO x)).toInt64 → ∀ w' ct', xRp w' ad ct' → mR E ad ct' (hd x 0) G → Fm ct ct' → post (-2000000003) w') (h4 : 0 ≤ p ∧ p ≤ 20000 → ¬ p < (nI (sO x)).toInt64 → sB x = 300 → ∀ w' ct', xRp w' ad ct' → mR E ad ct' (hd x 0) G → Fm ct ct' → post (-2000000004) w')
    (h1 : ∀ d, d ≤ 20000 → p = (nI d).toInt64 → ¬ p < (nI (sO x)).toInt64 → sB x < 300 → ∀ w' ct' G', xRp w' ad ct' → mR E ad ct' (hd (uNB x d) 0) G' → mS (uNB x d) G' → gF G' = gF G → Fm ct ct' → post (nI (sB x + 1)) w') : wp_MO_batch E post w (ad (10, 0, 0)) p := by
  have hB := hO.1.2.1
  have hoo := hO.1.2.2.2.1
  refine mo_begin hR hM (fun w1 ct1 R1 M1 F1 => mo_isIn _ _ _ ⟨fun q => ?_, fun q => h2 (of_decide_eq_false ((b2i_0 _).mp q)) w1 ct1 R1 M1 F1⟩)
  have hp := of_decide_eq_true ((b2i_ne _).mp q)
  obtain ⟨d, hd1, hd2, hd3⟩ := day_of hp
  have m10 := (mR_at R1 M1).1
  have hcl := cl_lt (n := sO x) (d := d) (by omega) (by omega)
  rw [← hd2] at hcl
  refine ⟨_, gl_of m10 rfl, fun q2 => ⟨_, gi_of m10 rfl, fun q3 => ⟨⟨_, m10⟩, ?_⟩, fun q3 => h4 hp (hcl.mp q2) ((nI_eq (show sB x < _ by omega) (by decide)).mp (show nI (sB x) = nI 300 from q3)) w1 ct1 R1 M1 F1⟩, fun q2 => h3 hp (by
    rcases Classical.em (p < (nI (sO x)).toInt64) with z | z
    · exact z
    · exact absurd (hcl.mpr z) q2) w1 ct1 R1 M1 F1⟩
  have hlt : sB x < 300 := by
    rcases Nat.lt_or_ge (sB x) 300 with z | z
    · exact z
    · exact absurd (show nI (sB x) = nI 300 by rw [show sB x = 300 by omega]) q3
  have hh := h1 d hd1 hd2 (hcl.mp q2) hlt
  rw [hd2]
  exact mo_make R1 M1 hO hS hlt d (fun w' ct' G' R' M' S' f' F' => hh w' ct' G' R' M' S' f' (F1.trans F'))
theorem uRo_b (x : xSt) (j a : Nat) (v : Int64) {z : Nat} (hz : z ≠ j) : (uRo x j a v).2.2.1 z = x.2.2.1 z ∧ (uRo x j a v).2.2.2.1 z = x.2.2.2.1 z := by
  refine ⟨?_, ?_⟩
  · unfold uRo; dsimp only; rw [if_neg hz]; rfl
  · funext k; exact if_neg (fun y => hz y.1)
theorem uRo_c (x : xSt) (j a : Nat) (v : Int64) : bC (uRo x j a v) j = bC x j + 1 := by
  show (if j = j then bC x j + 1 else bC x j) = _
  rw [if_pos rfl]
theorem uRo_r (x : xSt) (j a : Nat) (v : Int64) : rA (uRo x j a v) j (bC x j) = a ∧ rV (uRo x j a v) j (bC x j) = v := by
  have e : (uRo x j a v).2.2.2.1 j (bC x j) = (a, v) := if_pos ⟨rfl, rfl⟩
  unfold rA rV
  rw [e]; exact ⟨rfl, rfl⟩
theorem uRo_o (x : xSt) (j a : Nat) (v : Int64) {z k : Nat} (h : ¬ (z = j ∧ k = bC x j)) : rA (uRo x j a v) z k = rA x z k ∧ rV (uRo x j a v) z k = rV x z k := by
  have e : (uRo x j a v).2.2.2.1 z k = x.2.2.2.1 z k := if_neg h
  unfold rA rV
  rw [e]; exact ⟨rfl, rfl⟩
theorem mo_put {post : xw_T → Prop} (hR : xRp w ad ct) (hM : mR E ad ct (hd x th) G) (hB : sB x ≤ 300) (hc : ∀ j, j < sB x → bC x j ≤ 12) (hS : mS x G) {j a : Nat} (hj : j < sB x) (h12 : bC x j < 12) (v : Int64)
    (h1 : ∀ w' ct' G', xRp w' ad ct' → mR E ad ct' (hd (uRo x j a v) th) G' → mS (uRo x j a v) G' → gF G' = gF G → Fm ct ct' → post w') : wp_MO_put E post w (ad (10, 0, 0)) (nI (j + 1)) (nI (a + 1)) v := by
  obtain ⟨m10, m11, m12, m13, m14, m15, m16, m17, m18, m19, m20, m21, m22⟩ := mR_at hR hM
  have hs := hS.2.2.1 j hj
  refine ⟨_, gr_of m10 rfl, _, gr_of m10 rfl, _, rfl, _, _, xaI_of m19, vp_in_nI (show j + 1 < 301 by omega) (by decide), _, rfl, _, _, xaI_of m20, ?_⟩
  rw [nI_clamp (by omega), hs.2.2.2.2.1, ix12, nI_clamp (by omega)]
  refine ⟨vp_in_nI (by omega) (by decide), fun w9 e9 => ?_⟩
  obtain ⟨ct9, R9, M9, F9⟩ := mR_gA hR hM (upd (gA G) (12 * (j + 1) + bC x j) (nI (a + 1)))
  rw [← e9] at R9
  obtain ⟨n10, n11, n12, n13, n14, n15, n16, n17, n18, n19, n20, n21, n22⟩ := mR_at R9 M9
  refine ⟨_, gr_of n10 rfl, _, gr_of n10 rfl, _, rfl, _, _, xaI_of n19, vp_in_nI (show j + 1 < 301 by omega) (by decide), _, rfl, _, _, xaL_of n21, ?_⟩
  show vp_in (12 * nI (j + 1) + gR G (j + 1)) 3612 ∧ ∀ w18, w18 = va_up w9 (ad (21, 0, 0)) (some (xcL (E.1 2) 3612 (vp_updL (gC G) (12 * nI (j + 1) + gR G (j + 1)).toNatClampNeg v))) → _
  rw [hs.2.2.2.2.1, ix12, nI_clamp (by omega)]
  refine ⟨vp_in_nI (by omega) (by decide), fun w18 e18 => ?_⟩
  obtain ⟨ct18, R18, M18, F18⟩ := mR_gC R9 M9 (vp_updL (gC G) (12 * (j + 1) + bC x j) v)
  rw [← e18] at R18
  obtain ⟨k10, k11, k12, k13, k14, k15, k16, k17, k18, k19, k20, k21, k22⟩ := mR_at R18 M18
  refine ⟨_, gr_of k10 rfl, _, rfl, _, _, xaI_of k19, vp_in_nI (show j + 1 < 301 by omega) (by decide), _, _, xaI_of k19, vp_in_nI (show j + 1 < 301 by omega) (by decide), fun w25 e25 => ?_⟩
  have e25 : w25 = va_up w18 (ad (19, 0, 0)) (some (xcI (E.1 1) 301 (upd (gR G) (j + 1) (gR G (j + 1) + 1)))) := e25
  rw [hs.2.2.2.2.1, nI_1] at e25
  obtain ⟨ct25, R25, M25, F25⟩ := mR_gR R18 M18 (upd (gR G) (j + 1) (nI (bC x j + 1)))
  rw [← e25] at R25
  refine h1 w25 ct25 _ R25 M25 ?_ rfl ((F9.trans F18).trans F25)
  obtain ⟨s1, s2, s3, s4, s5⟩ := hS
  refine ⟨s1, s2, fun i hi => ?_, fun i hi => ?_, s5⟩
  · show gS G (i + 1) = _ ∧ gD G (i + 1) = _ ∧ gP G (i + 1) = _ ∧ gB G (i + 1) = _ ∧ upd (gR G) (j + 1) (nI (bC x j + 1)) (i + 1) = _ ∧ ∀ k, k < _ → upd (gA G) (12 * (j + 1) + bC x j) (nI (a + 1)) (12 * (i + 1) + k) = _ ∧ vp_updL (gC G) (12 * (j + 1) + bC x j) v (12 * (i + 1) + k) = _
    have hi : i < sB x := hi
    obtain ⟨t1, t2, t3, t4, t5, t6⟩ := s3 i hi
    have hci := hc i hi
    refine ⟨t1, t2, t3, t4, ?_, fun k hk => ?_⟩
    · by_cases e : i = j
      · subst e; rw [pk_us, uRo_c]
      · rw [pk_un (by omega), t5]
        unfold bC; rw [(uRo_b x j a v e).1]
    · by_cases e : i = j
      · subst e
        rw [uRo_c] at hk
        by_cases e2 : k = bC x i
        · subst e2
          rw [pk_us, pk_uLs, (uRo_r x i a v).1, (uRo_r x i a v).2]; exact ⟨rfl, rfl⟩
        · rw [pk_un (by omega), pk_uLn (by omega), (uRo_o x i a v (fun z => e2 z.2)).1, (uRo_o x i a v (fun z => e2 z.2)).2]
          exact t6 k (by omega)
      · have ec : bC (uRo x j a v) i = bC x i := by unfold bC; rw [(uRo_b x j a v e).1]
        rw [ec] at hk
        rw [pk_un (by omega), pk_uLn (by omega), (uRo_o x j a v (fun z => e z.1)).1, (uRo_o x j a v (fun z => e z.1)).2]
        exact t6 k hk
  · have hi : sB x ≤ i := hi
    obtain ⟨t1, t2, t3, t4⟩ := s4 i hi
    refine ⟨t1, t2, t3, ?_⟩
    show upd (gR G) (j + 1) (nI (bC x j + 1)) (i + 1) = 0
    rw [pk_un (by omega)]; exact t4
theorem mo_row {post : Int32 → xw_T → Prop} (hR : xRp w ad ct) (hM : mR E ad ct (hd x th) G) (hO : mOk x) (hS : mS x G) (p0 p1 : Int32) (v : Int64) (h0 : (∀ j a, num p0 (sB x) = some j → num p1 (sA x) = some a → ¬ okR x j v) → ∀ w' ct', xRp w' ad ct' → mR E ad ct' (hd x 0) G → Fm ct ct' → post 0 w')
    (h1 : ∀ j a, num p0 (sB x) = some j → num p1 (sA x) = some a → okR x j v → ∀ w' ct' G', xRp w' ad ct' → mR E ad ct' (hd (uRo x j a v) 0) G' → mS (uRo x j a v) G' → gF G' = gF G → Fm ct ct' → post 1 w') : wp_MO_row E post w (ad (10, 0, 0)) p0 p1 v := by
  have hA := hO.1.1
  have hB := hO.1.2.1
  refine mo_begin hR hM (fun w1 ct1 R1 M1 F1 => ⟨⟨_, (mR_at R1 M1).1⟩, mo_isB R1 M1 hO p0 (fun q => ⟨fun _ => h0 (fun j a e1 _ => by rw [q] at e1; cases e1) w1 ct1 R1 M1 F1, fun z => absurd rfl z⟩) (fun j ej hj hp0 => ⟨fun z => absurd z (by decide), fun _ => ⟨⟨_, (mR_at R1 M1).1⟩, mo_isA R1 M1 hO p1 (fun q => ⟨fun _ => h0 (fun j a _ e1 => by rw [q] at e1; cases e1) w1 ct1 R1 M1 F1, fun z => absurd rfl z⟩) (fun a ea ha hp1 => ⟨fun z => absurd z (by decide), fun _ => ?_⟩)⟩⟩)⟩)
  have no : ¬ okR x j v → post 0 w1 := fun z => h0 (fun j' a' e1 _ => by rw [ej] at e1; cases e1; exact z) w1 ct1 R1 M1 F1
  obtain ⟨m10, m11, m12, m13, m14, m15, m16, m17, m18, m19, m20, m21, m22⟩ := mR_at R1 M1
  have hs := hS.2.2.1 j hj
  obtain ⟨hc, hst, -, -⟩ := hO.1.2.2.2.2.2 j hj
  refine ⟨fun q => no (fun z => z.2.2.1 q), fun q => mo_isIn _ _ _ ⟨fun q2 => no (fun z => of_decide_eq_false ((b2i_0 _).mp q2) z.2.2.2), fun q2 => ⟨_, gr_of m10 rfl, _, rfl, _, _, xaI_of m14, ?_⟩⟩⟩
  rw [hp0, nI_clamp (by omega), hs.1]
  refine ⟨vp_in_nI (show j + 1 < 301 by omega) (by decide), fun q3 => no (fun z => q3 (by rw [z.1]; rfl)), fun q3 => ⟨_, gr_of m10 rfl, _, rfl, _, _, xaI_of m19, vp_in_nI (show j + 1 < 301 by omega) (by decide), ?_⟩⟩
  have hb0 : bS x j = 0 := (nI_eq (by omega) (by decide)).mp (show nI (bS x j) = nI 0 from q3)
  rw [hs.2.2.2.2.1]
  refine ⟨fun q4 => no (fun z => absurd q4 (show ¬ nI 12 ≤ nI (bC x j) from nI_ge z.2.1 (by decide))), fun q4 => ⟨⟨_, m10⟩, ?_⟩⟩
  have h12 : bC x j < 12 := Nat.not_le.mp (fun z => q4 (show nI 12 ≤ nI (bC x j) from nI_le z (by omega)))
  rw [hp1]
  exact mo_put R1 M1 hB (fun i hi => (hO.1.2.2.2.2.2 i hi).1) hS hj h12 v (fun w' ct' G' R' M' S' f' F' => h1 j a ej ea ⟨hb0, h12, q, of_decide_eq_true ((b2i_ne _).mp q2)⟩ w' ct' G' R' M' S' f' (F1.trans F'))
theorem mo_limit {post : Int32 → xw_T → Prop} (hR : xRp w ad ct) (hM : mR E ad ct (hd x th) G) (hO : mOk x) (hS : mS x G) (p : Int32) (v : Int64) (h1 : num p (sA x) = none → ∀ w' ct', xRp w' ad ct' → mR E ad ct' (hd x 0) G → Fm ct ct' → post (-2000000001) w') (h2 : ∀ a, num p (sA x) = some a → ¬ (0 ≤ v ∧ v ≤ 100000000) → ∀ w' ct', xRp w' ad ct' → mR E ad ct' (hd x 0) G → Fm ct ct' → post (-2000000002) w')
    (h : ∀ a, num p (sA x) = some a → a < sA x → 0 ≤ v ∧ v ≤ 100000000 → ∀ w' ct' G', xRp w' ad ct' → mR E ad ct' (hd (uLim x a v.toInt32) 0) G' → mS (uLim x a v.toInt32) G' → gF G' = gF G → Fm ct ct' → post (aL x a) w') : wp_MO_limit E post w (ad (10, 0, 0)) p v := by
  have hA := hO.1.1
  refine mo_begin hR hM (fun w1 ct1 R1 M1 F1 => ⟨⟨_, (mR_at R1 M1).1⟩, mo_isA R1 M1 hO p (fun q => ⟨fun z => absurd rfl z, fun _ => h1 q w1 ct1 R1 M1 F1⟩) (fun a ea ha hp => ⟨fun _ => mo_isIn _ _ _ ⟨fun q2 => ?_, fun q2 => h2 a ea (of_decide_eq_false ((b2i_0 _).mp q2)) w1 ct1 R1 M1 F1⟩, fun z => absurd z (by decide)⟩)⟩)
  have hv := of_decide_eq_true ((b2i_ne _).mp q2)
  obtain ⟨m10, m11, m12, m13, -⟩ := mR_at R1 M1
  have hs := hS.1 a ha
  refine ⟨_, gr_of m10 rfl, _, rfl, _, _, xaL_of m13, ?_⟩
  rw [hp, nI_clamp (by omega), hs.2.2]
  refine ⟨vp_in_nI (show a + 1 < 61 by omega) (by decide), _, gr_of m10 rfl, _, rfl, _, _, xaL_of m13, vp_in_nI (show a + 1 < 61 by omega) (by decide), fun w14 e14 => ?_⟩
  obtain ⟨ct2, R2, M2, F2⟩ := mR_gL R1 M1 (vp_updL (gL G) (a + 1) v)
  rw [← e14] at R2
  rw [Int32.toInt32_toInt64]
  refine h a ea ha hv w14 ct2 _ R2 M2 ?_ rfl (F1.trans F2)
  obtain ⟨s1, s2, s3, s4, s5⟩ := hS
  refine ⟨fun i hi => ?_, fun i hi => ?_, s3, s4, s5⟩
  · show gO G (i + 1) = aO x i ∧ gK G (i + 1) = aK x i ∧ vp_updL (gL G) (a + 1) v (i + 1) = (if i = a then v.toInt32 else aL x i).toInt64
    obtain ⟨t1, t2, t3⟩ := s1 i hi
    refine ⟨t1, t2, ?_⟩
    by_cases e : i = a
    · obtain ⟨n, hn1, hn2, hn3⟩ := small_of hv
      rw [e, if_pos rfl, pk_uLs, hn3]; exact hn2
    · rw [if_neg e, pk_uLn (by omega)]; exact t3
  · show vp_updL (gL G) (a + 1) v (i + 1) = 0
    have hi : sA x ≤ i := hi
    rw [pk_uLn (by omega)]; exact s2 i hi
theorem mo_fails {post : Int32 → xw_T → Prop} (hR : xRp w ad ct) (hM : mR E ad ct (hd x th) G) (hO : mOk x) (hS : mS x G) (p : Int32) (on : Bool) (h0 : (∀ j, num p (sB x) = some j → ¬ (bS x j = 0 ∧ bF x j ≠ on)) → ∀ w' ct' G', xRp w' ad ct' → mR E ad ct' (hd x 0) G' → mS x G' → gF G' = gF G → Fm ct ct' → post 0 w')
    (h1 : ∀ j, num p (sB x) = some j → j < sB x → bS x j = 0 ∧ bF x j ≠ on → ∀ w' ct' G', xRp w' ad ct' → mR E ad ct' (hd (uFail x j on) 0) G' → mS (uFail x j on) G' → gF G' = gF G → Fm ct ct' → post 1 w') : wp_MO_fails E post w (ad (10, 0, 0)) p (b2i on) := by
  have hB := hO.1.2.1
  refine mo_begin hR hM (fun w1 ct1 R1 M1 F1 => ⟨⟨_, (mR_at R1 M1).1⟩, mo_isB R1 M1 hO p (fun q => ⟨fun _ => h0 (fun j ej => by rw [q] at ej; cases ej) w1 ct1 G R1 M1 hS rfl F1, fun z => absurd rfl z⟩) (fun j ej hj hp => ⟨fun z => absurd z (by decide), fun _ => ?_⟩)⟩)
  have no : ¬ (bS x j = 0 ∧ bF x j ≠ on) → ∀ j', num p (sB x) = some j' → ¬ (bS x j' = 0 ∧ bF x j' ≠ on) := fun z j' e1 => by rw [ej] at e1; cases e1; exact z
  obtain ⟨m10, m11, m12, m13, m14, m15, m16, -⟩ := mR_at R1 M1
  have hs := hS.2.2.1 j hj
  obtain ⟨hc, hst, -, -⟩ := hO.1.2.2.2.2.2 j hj
  have V : vp_in (nI (j + 1)) 301 := vp_in_nI (by omega) (by decide)
  obtain ⟨ct2, R2, M2, F2⟩ := mR_gP R1 M1 (upd (gP G) (j + 1) (b2i on))
  refine ⟨_, gr_of m10 rfl, _, rfl, _, _, xaI_of m14, ?_⟩
  rw [hp, nI_clamp (by omega), hs.1]
  refine ⟨V, fun q3 => ⟨_, gr_of m10 rfl, _, rfl, _, _, xaI_of m16, V, ?_⟩, fun q3 => h0 (no (fun z => q3 (by rw [z.1]; rfl))) w1 ct1 G R1 M1 hS rfl F1⟩
  have hb0 : bS x j = 0 := (nI_eq (by omega) (by decide)).mp (show nI (bS x j) = nI 0 from q3)
  rw [hs.2.2.1, nar_b]
  obtain ⟨s1, s2, s3, s4, s5⟩ := hS
  refine ⟨fun q4 => ⟨_, gr_of m10 rfl, _, rfl, _, _, xaI_of m16, V, fun w16 e16 => ?_⟩, fun q4 => ⟨_, gr_of m10 rfl, _, rfl, _, _, xaI_of m16, V, fun w16 e16 => ?_⟩⟩
  · have q4 := b2i_inj.mp q4
    rw [← e16] at R2
    refine h0 (no (fun z => z.2 q4)) w16 ct2 _ R2 M2 ⟨s1, s2, fun i hi => ?_, fun i hi => ?_, s5⟩ rfl (F1.trans F2)
    · obtain ⟨t1, t2, t3, t4, t5, t6⟩ := s3 i hi
      refine ⟨t1, t2, ?_, t4, t5, t6⟩
      show upd (gP G) (j + 1) (b2i on) (i + 1) = _
      by_cases e : i = j
      · rw [e, pk_us, q4]
      · rw [pk_un (by omega)]; exact t3
    · obtain ⟨t1, t2, t3, t4⟩ := s4 i hi
      refine ⟨?_, t2, t3, t4⟩
      show upd (gP G) (j + 1) (b2i on) (i + 1) = 0
      rw [pk_un (by omega)]; exact t1
  · have q4 : bF x j ≠ on := fun z => q4 (b2i_inj.mpr z)
    rw [← e16] at R2
    refine h1 j ej hj ⟨hb0, q4⟩ w16 ct2 _ R2 M2 ⟨s1, s2, fun i hi => ?_, fun i hi => ?_, s5⟩ rfl (F1.trans F2)
    · obtain ⟨t1, t2, t3, t4, t5, t6⟩ := s3 i hi
      refine ⟨t1, t2, ?_, t4, t5, t6⟩
      show upd (gP G) (j + 1) (b2i on) (i + 1) = b2i (if i = j then on else bF x i)
      by_cases e : i = j
      · rw [e, pk_us, if_pos rfl]
      · rw [pk_un (by omega), if_neg e]; exact t3
    · obtain ⟨t1, t2, t3, t4⟩ := s4 i hi
      have hi : sB x ≤ i := hi
      refine ⟨?_, t2, t3, t4⟩
      show upd (gP G) (j + 1) (b2i on) (i + 1) = 0
      rw [pk_un (by omega)]; exact t1
theorem cl_e {n d : Nat} (h : n ≤ d) (h2 : d ≤ 30000) : (nI d).toInt64 - ((nI n).toInt64 - 1) = lN (d + 1 - n) := by
  rw [nI_l (by omega), nI_l (by omega), ← lN_sub (by omega), ← lN_1]
  generalize lN d = u
  generalize lN n = t
  grind
theorem cl_f {n d : Nat} (h : n ≤ d + 1) (h2 : d ≤ 30000) : (nI n).toInt64 - 1 + (nI (d + 1) - nI n).toInt64 = (nI (d + 1)).toInt64 - 1 := by
  rw [pk_sub (by omega), nI_l (by omega), nI_l (by omega), nI_l (by omega), ← lN_sub (by omega)]
  generalize lN (d + 1) = u
  generalize lN n = t
  grind
theorem hdFo (n : Nat) : (moF ad (hd x th)).set 16 (.long ((nI n).toInt64 - 1)) = moF ad (hd (uFo x n) th) := by
  have e1 : (moF ad (hd x th)).set 16 (.long ((nI n).toInt64 - 1)) = [.int th, .int (nI (sA x)), .ref (ad (11, 0, 0)), .ref (ad (12, 0, 0)), .ref (ad (13, 0, 0)), .int (nI (sB x)), .ref (ad (14, 0, 0)), .ref (ad (15, 0, 0)), .ref (ad (16, 0, 0)), .ref (ad (17, 0, 0)), .ref (ad (18, 0, 0)), .ref (ad (19, 0, 0)), .ref (ad (20, 0, 0)), .ref (ad (21, 0, 0)), .int (nI (sP x)), .ref (ad (22, 0, 0)), .long ((nI n).toInt64 - 1)] := rfl
  have e2 : moF ad (hd (uFo x n) th) = [.int th, .int (nI (sA x)), .ref (ad (11, 0, 0)), .ref (ad (12, 0, 0)), .ref (ad (13, 0, 0)), .int (nI (sB x)), .ref (ad (14, 0, 0)), .ref (ad (15, 0, 0)), .ref (ad (16, 0, 0)), .ref (ad (17, 0, 0)), .ref (ad (18, 0, 0)), .ref (ad (19, 0, 0)), .ref (ad (20, 0, 0)), .ref (ad (21, 0, 0)), .int (nI (sP x)), .ref (ad (22, 0, 0)), .long ((nI n).toInt64 - 1)] := rfl
  rw [e1, e2]
theorem uFo_self : uFo x (sO x) = x := rfl
theorem mo_close {post : Int32 → xw_T → Prop} (hR : xRp w ad ct) (hM : mR E ad ct (hd x th) G) (hO : mOk x) (p : Int64) (h2 : ¬ (0 ≤ p ∧ p ≤ 20000) → ∀ w' ct', xRp w' ad ct' → mR E ad ct' (hd x 0) G → Fm ct ct' → post (-2000000002) w') (h0 : 0 ≤ p ∧ p ≤ 20000 → p < (nI (sO x)).toInt64 → ∀ w' ct', xRp w' ad ct' → mR E ad ct' (hd x 0) G → Fm ct ct' → post 0 w')
    (h1 : ∀ d, d ≤ 20000 → p = (nI d).toInt64 → ¬ p < (nI (sO x)).toInt64 → ∀ w' ct', xRp w' ad ct' → mR E ad ct' (hd (uFo x (d + 1)) 0) G → Fm ct ct' → post (nI (d + 1) - nI (sO x)) w') : wp_MO_close E post w (ad (10, 0, 0)) p := by
  have hoo := hO.1.2.2.2.1
  refine mo_begin hR hM (fun w1 ct1 R1 M1 F1 => mo_isIn _ _ _ ⟨fun q => ?_, fun q => h2 (of_decide_eq_false ((b2i_0 _).mp q)) w1 ct1 R1 M1 F1⟩)
  have hp := of_decide_eq_true ((b2i_ne _).mp q)
  obtain ⟨d, hd1, hd2, hd3⟩ := day_of hp
  have m10 := (mR_at R1 M1).1
  have hcl := cl_lt (n := sO x) (d := d) (by omega) (by omega)
  rw [← hd2] at hcl
  refine ⟨_, gl_of m10 rfl, fun q2 => ⟨_, gl_of m10 rfl, ⟨_, by rw [xg_of m10]; rfl⟩, fun w6 e6 => ?_⟩, fun q2 => ⟨_, gl_of m10 rfl, _, gl_of m10 rfl, ⟨_, by rw [xg_of m10]; rfl⟩, fun w9 e9 => ?_⟩⟩
  · have e6 : w6 = xp w1 (ad (10, 0, 0)) 16 (.long ((nI (sO x)).toInt64 - 1 + (0 : Int32).toInt64)) := e6
    rw [z64, Int64.add_zero, xp_of m10] at e6
    rw [hdFo] at e6
    obtain ⟨ct2, R2, M2, F2⟩ := mR_h R1 M1 (hd (uFo x (sO x)) 0)
    rw [← e6] at R2
    refine h0 hp ?_ w6 ct2 R2 M2 (F1.trans F2)
    rcases Classical.em (p < (nI (sO x)).toInt64) with z | z
    · exact z
    · exact absurd (Int64.not_lt.mpr q2) (fun y => y (hcl.mpr z))
  · have hnc : ¬ p < (nI (sO x)).toInt64 := hcl.mp (Int64.not_le.mp q2)
    have hge : sO x ≤ d := by
      have : ¬ (nI d).toInt64 < (nI (sO x)).toInt64 := by rw [← hd2]; exact hnc
      rw [Int64.lt_iff_toInt_lt, dT (by omega), dT (by omega)] at this
      omega
    have ee : p - ((nI (sO x)).toInt64 - 1) = lN (d + 1 - sO x) := by rw [hd2]; exact cl_e (by omega) (by omega)
    have e9 : w9 = xp w1 (ad (10, 0, 0)) 16 (.long ((nI (sO x)).toInt64 - 1 + (p - ((nI (sO x)).toInt64 - 1)).toInt32.toInt64)) := e9
    show post (p - ((nI (sO x)).toInt64 - 1)).toInt32 w9
    rw [ee, lN_i] at e9 ⊢
    rw [← pk_sub (by omega)] at e9 ⊢
    rw [cl_f (by omega) (by omega), xp_of m10, hdFo] at e9
    obtain ⟨ct2, R2, M2, F2⟩ := mR_h R1 M1 (hd (uFo x (d + 1)) 0)
    rw [← e9] at R2
    exact h1 d hd1 hd2 hnc w9 ct2 R2 M2 (F1.trans F2)
end MOW
