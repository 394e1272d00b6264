/-! THE REFERENCE: reverse, stock -/
theorem uBack_ro (y : xSt) (b a z : Nat) (v : Int64) : uBack (uRo y b a v) z = uRo (uBack y z) b a v := rfl
theorem uBack_rows (y : xSt) (b j n z : Nat) : uBack (uRows y b j n) z = uRows (uBack y z) b j n := by
  induction n with
  | zero => rfl
  | succ n ih =>
    show uBack (uRo (uRows y b j n) b (rA y j n) (-(rV y j n))) z = uRo (uRows (uBack y z) b j n) b (rA y j n) (-(rV y j n))
    rw [uBack_ro, ih]
theorem uNB_back {x : xSt} {j : Nat} (hj : j ≠ sB x) (d : Nat) : uNB (uBack x j) d = uBack (uNB x d) j := by
  have e : (uNB (uBack x j) d).2.2.1 = (uBack (uNB x d) j).2.2.1 := by
    funext z
    show (if z = sB x then (d, 0, false, false, 0, 0) else (bD x z, bS x z, bF x z, (if z = j then true else bK x z), bN x z, bC x z)) = (bD (uNB x d) z, bS (uNB x d) z, bF (uNB x d) z, (if z = j then true else bK (uNB x d) z), bN (uNB x d) z, bC (uNB x d) z)
    by_cases h : z = sB x
    · rw [if_pos h, if_neg (by rw [h]; exact hj.symm)]
      unfold bD bS bF bK bN bC
      rw [h, uNB_n]
    · rw [if_neg h]
      unfold bD bS bF bK bN bC
      rw [uNB_b _ _ _ h]
  exact congrArg (fun f => (((uNB (uBack x j) d).1, (uNB (uBack x j) d).2.1, f, (uNB (uBack x j) d).2.2.2) : xSt)) e
/-- the state ahead of a reversal's rows -/
def uRv0 (x : xSt) (j : Nat) : xSt := uBack (uNB (uBack x j) (dMax x j)) (sB x)
theorem uRv_eq {x : xSt} {j : Nat} (hj : j < sB x) : uPost (uRows (uRv0 x j) (sB x) j (bC x j)) (sB x) = uRv x j := by
  unfold uRv0 uRv
  rw [uNB_back (by omega), uBack_rows, uBack_rows]
theorem rv0_n (x : xSt) (j : Nat) : bC (uRv0 x j) (sB x) = 0 ∧ bS (uRv0 x j) (sB x) = 0 ∧ bF (uRv0 x j) (sB x) = false := by
  have e := uNB_n (uBack x j) (dMax x j)
  have e : (uNB (uBack x j) (dMax x j)).2.2.1 (sB x) = (dMax x j, 0, false, false, 0, 0) := e
  refine ⟨?_, ?_, ?_⟩
  · show ((uNB (uBack x j) (dMax x j)).2.2.1 (sB x)).2.2.2.2.2 = 0
    rw [e]
  · show ((uNB (uBack x j) (dMax x j)).2.2.1 (sB x)).2.1 = 0
    rw [e]
  · show ((uNB (uBack x j) (dMax x j)).2.2.1 (sB x)).2.2.1 = false
    rw [e]
theorem rv0_o (x : xSt) (j : Nat) {z : Nat} (hz : z ≠ sB x) : bC (uRv0 x j) z = bC x z ∧ bS (uRv0 x j) z = bS x z := by
  have e : (uNB (uBack x j) (dMax x j)).2.2.1 z = (uBack x j).2.2.1 z := uNB_b _ _ _ hz
  refine ⟨?_, ?_⟩
  · show ((uNB (uBack x j) (dMax x j)).2.2.1 z).2.2.2.2.2 = _
    rw [e]; rfl
  · show ((uNB (uBack x j) (dMax x j)).2.2.1 z).2.1 = _
    rw [e]; rfl
theorem dMax_le {x : xSt} (hI : xInv x) {j : Nat} (hj : j < sB x) : dMax x j ≤ 20001 := by
  unfold dMax
  by_cases h : bD x j < sO x
  · rw [if_pos h]; exact hI.1.2.2.2.1
  · rw [if_neg h]; exact (hI.1.2.2.2.2.2 j hj).2.2.1
theorem Inv_rows {x : xSt} (hI : xInv x) {j : Nat} (hj : j < sB x) (hlt : sB x < 300) {n : Nat} (hn : n ≤ bC x j) : xInv (uRows (uRv0 x j) (sB x) j n) := by
  have h0 : xInv (uRv0 x j) := Inv_back (Inv_nb (Inv_back hI j) (dMax_le hI hj) hlt) _
  induction n with
  | zero => exact h0
  | succ n ih =>
    have h1 := ih (by omega)
    have hc := (hI.1.2.2.2.2.2 j hj).1
    refine Inv_ro h1 ?_ ?_ ?_ ?_
    · show sB x < sB (uRows (uRv0 x j) (sB x) j n)
      unfold sB; rw [uRows_1]; exact Nat.lt_succ_self _
    · rw [(uRows_f _ _ _ _ _).2.1]; exact (rv0_n x j).2.1
    · rw [uRows_c, (rv0_n x j).1]; omega
    · have e : sA (uRows (uRv0 x j) (sB x) j n) = sA x := by unfold sA; rw [uRows_1]; rfl
      rw [e]
      exact hI.2.2.2.2.2.2.2.2.2.2 j hj n (by omega)
theorem sumL_neg (f : Nat → Int64) (n : Nat) : sumL (fun i => -(f i)) n = -(sumL f n) := by
  induction n with
  | zero => show (0 : Int64) = -0; decide
  | succ n ih =>
    show sumL (fun i => -(f i)) n + -(f n) = -(sumL f n + f n)
    rw [ih, Int64.neg_add, Int64.sub_eq_add_neg]
theorem oSum_rows {x : xSt} {j : Nat} (hs : oSum x j) : oSum (uRows (uRv0 x j) (sB x) j (bC x j)) (sB x) := by
  have e : bC (uRows (uRv0 x j) (sB x) j (bC x j)) (sB x) = bC x j := by rw [uRows_c, (rv0_n x j).1, Nat.zero_add]
  refine ⟨by rw [e]; exact hs.1, ?_⟩
  rw [e, sumL_congr (g := fun i => -(rV x j i)) (fun i hi => ?_), sumL_neg, hs.2]
  · rfl
  · have := uRows_r (uRv0 x j) (sB x) j (bC x j) i hi
    rw [(rv0_n x j).1, Nat.zero_add] at this
    unfold rV at this ⊢
    rw [this]; rfl
theorem Inv_rv {x : xSt} (hI : xInv x) {j : Nat} (hj : j < sB x) (h1 : bS x j = 1) (hlt : sB x < 300) : xInv (uRv x j) := by
  rw [← uRv_eq hj]
  obtain ⟨k, hk, ek⟩ := hI.2.2.2.2.2.2.2.2.1 j hj h1
  have hs := hI.2.2.2.2.2.2.2.1 k hk
  rw [ek] at hs
  refine Inv_post (Inv_rows hI hj hlt (Nat.le_refl _)) ?_ ?_ (oSum_rows hs)
  · unfold sB; rw [uRows_1]; exact Nat.lt_succ_self _
  · rw [(uRows_f _ _ _ _ _).2.1]; exact (rv0_n x j).2.1
theorem pre_mono (x : xSt) {a b : Nat} (h : a ≤ b) : pre x a ≤ pre x b := by
  induction b with
  | zero => rw [show a = 0 by omega]; exact Nat.le_refl _
  | succ b ih =>
    by_cases e : a = b + 1
    · rw [e]; exact Nat.le_refl _
    · have := ih (by omega)
      show pre x a ≤ pre x b + bC x (pB x b)
      omega
theorem pre_le {x : xSt} (hI : xInv x) {k : Nat} (hk : k ≤ sP x) : pre x k ≤ 3600 := by
  have h1 := pre_mono x hk
  have h2 := hI.2.2.2.2.2.2.1
  have h3 := hI.1.2.2.2.2.1
  omega
/-- the rows' numbers, as places -/
theorem isRow_iff {x : xSt} (hI : xInv x) {k n : Nat} (hk : k < sP x) (hn : n < 2 ^ 31) : isRow x (nI n) (pB x k) ↔ pre x k < n ∧ n ≤ pre x k + bC x (pB x k) := by
  have h5 := hI.2.2.2.2.2.1 k hk
  have hb := (hI.2.1 k hk)
  have hc := (hI.1.2.2.2.2.2 _ hb.1).1
  have hp := pre_le hI (Nat.le_of_lt hk)
  constructor
  · rintro ⟨-, q1, q2⟩
    rw [h5] at q1 q2
    refine ⟨?_, ?_⟩
    · rcases Nat.lt_or_ge (pre x k) n with z | z
      · exact z
      · exact absurd (nI_lt (by omega) (by omega)) q1
    · rcases Nat.lt_or_ge n (1 + pre x k + bC x (pB x k)) with z | z
      · omega
      · exact absurd (nI_le z hn) q2
  · rintro ⟨q1, q2⟩
    refine ⟨hb.2, ?_, ?_⟩
    · rw [h5]; exact nI_nlt (by omega) hn
    · rw [h5]; exact nI_ge (by omega) (by omega)
theorem isRow_pos {x : xSt} (hI : xInv x) {r : Int32} {j : Nat} (hj : j < sB x) (h : isRow x r j) : ∃ n k, r = nI n ∧ n < 2 ^ 31 ∧ k < sP x ∧ pB x k = j ∧ pre x k < n ∧ n ≤ pre x k + bC x j := by
  obtain ⟨k, hk, ek⟩ := hI.2.2.2.2.2.2.2.2.1 j hj h.1
  have hN := (hI.1.2.2.2.2.2 j hj).2.2.2
  have hr : ¬ r < 0 := by
    intro z
    have z := Int32.lt_iff_toInt_lt.mp z
    have y := h.2.1
    rw [Int32.lt_iff_toInt_lt, nI_toInt (by omega)] at y
    have e0 : (0 : Int32).toInt = 0 := rfl
    omega
  obtain ⟨n, hn, rfl⟩ := nI_of hr
  have := (isRow_iff hI (k := k) (n := n) hk hn).mp (by rw [ek]; exact h)
  rw [ek] at this
  exact ⟨n, k, rfl, hn, hk, ek, this.1, this.2⟩
theorem isRow_uniq {x : xSt} (hI : xInv x) {r : Int32} {i j : Nat} (hi : i < sB x) (hj : j < sB x) (h : isRow x r i) (g : isRow x r j) : i = j := by
  obtain ⟨n, k, e1, hn, hk, ek, a1, a2⟩ := isRow_pos hI hi h
  obtain ⟨m, l, e2, hm, hl, el, b1, b2⟩ := isRow_pos hI hj g
  have e := (nI_eq hn hm).mp (e1.symm.trans e2)
  subst e
  rcases Nat.lt_trichotomy k l with q | q | q
  · have h1 : pre x (k + 1) ≤ pre x l := pre_mono x q
    have h2 : pre x (k + 1) = pre x k + bC x (pB x k) := rfl
    rw [ek] at h2; omega
  · rw [← ek, ← el, q]
  · have h1 : pre x (l + 1) ≤ pre x k := pre_mono x q
    have h2 : pre x (l + 1) = pre x l + bC x (pB x l) := rfl
    rw [el] at h2; omega
section MOV
variable {E : xE_T} {w : xw_T} {ad : xR → Nat} {ct : xR → Option va_E} {x : xSt} {G : xG} {th : Int32}
/-- the reversal, behind the choice of its day -/
theorem mo_rev1 {post : Int32 → xw_T → Prop} {j : Nat} (hR : xRp w ad ct) (hM : mR E ad ct (hd (uBack x j) 0) G) (hI : xInv x) (hS : mS (uBack x j) G) (hj : j < sB x) (hj1 : bS x j = 1) (hlt : sB x < 300)
    (h1 : ∀ w' ct' G', xRp w' ad ct' → mR E ad ct' (hd (uRv x j) 0) G' → mS (uRv x j) G' → gF G' = upd (gF G) (sB x + 1) 1 → Fm ct ct' → post 1 w') :
    wp_MO_make E (fun r36 w37 => ∃ v38, xgR w37 (ad (10, 0, 0)) 5 10 = some v38 ∧ (∃ a39 : Nat, v38 = some a39 ∧ (∃ n40 f41, xaI w37 a39 (E.1 3) = some (n40, f41) ∧ vp_in r36 n40 ∧ ∀ w42, w42 = va_up w37 a39 (some (xcI (E.1 3) n40 (upd f41 r36.toNatClampNeg (vp_nar .boolean 1)))) → (∃ v43, xgR w42 (ad (10, 0, 0)) 5 9 = some v43 ∧ (∃ a44 : Nat, v43 = some a44 ∧ (∃ n45 f46, xaI w42 a44 (E.1 3) = some (n45, f46) ∧ vp_in r36 n45 ∧ ∀ w47, w47 = va_up w42 a44 (some (xcI (E.1 3) n45 (upd f46 r36.toNatClampNeg (vp_nar .boolean 1)))) → (∃ n97, wl_MO_reverse_97 E post n97 w47 (ad (10, 0, 0)) (nI (j + 1)) r36 0))))))) w (ad (10, 0, 0)) (nI (dMax x j)).toInt64 := by
  have hc := (hI.1.2.2.2.2.2 j hj).1
  have V : vp_in (nI (sB x + 1)) 301 := vp_in_nI (by omega) (by decide)
  have Vj : vp_in (nI (j + 1)) 301 := vp_in_nI (by omega) (by decide)
  have enar : vp_nar .boolean 1 = 1 := nar_b true
  obtain ⟨kk, hkk, ekk⟩ := hI.2.2.2.2.2.2.2.2.1 j hj hj1
  have hsum := hI.2.2.2.2.2.2.2.1 kk hkk
  rw [ekk] at hsum
  refine mo_make hR hM (Inv_back hI j).ok hS hlt (dMax x j) (fun w37 ct37 G37 R37 M37 S37 f37 F37 => ?_)
  obtain ⟨m10, -, -, -, -, -, -, -, m18, -⟩ := mR_at R37 M37
  refine ⟨_, gr_of m10 rfl, _, rfl, _, _, xaI_of m18, V, fun w42 e42 => ?_⟩
  have e42 : w42 = va_up w37 (ad (18, 0, 0)) (some (xcI (E.1 3) 301 (upd (gB G37) (nI (sB x + 1)).toNatClampNeg (vp_nar .boolean 1)))) := e42
  rw [nI_clamp (by omega), enar] at e42
  obtain ⟨ct42, R42, M42, F42⟩ := mR_gB R37 M37 (upd (gB G37) (sB x + 1) 1)
  rw [← e42] at R42
  have S42 := mS_gB S37 (sB x) (Nat.lt_succ_self _)
  obtain ⟨n10, -, -, -, -, -, -, n17, -⟩ := mR_at R42 M42
  refine ⟨_, gr_of n10 rfl, _, rfl, _, _, xaI_of n17, V, fun w47 e47 => ?_⟩
  have e47 : w47 = va_up w42 (ad (17, 0, 0)) (some (xcI (E.1 3) 301 (upd (gF G37) (nI (sB x + 1)).toNatClampNeg (vp_nar .boolean 1)))) := e47
  rw [nI_clamp (by omega), enar] at e47
  obtain ⟨ct47, R47, M47, F47⟩ := mR_gF R42 M42 (upd (gF G37) (sB x + 1) 1)
  rw [← e47] at R47
  have S47 := mS_gF S42 (sB x) 1 (Nat.lt_succ_self _)
  have F0 := (F37.trans F42).trans F47
  have key : ∀ d i w' ct' G', i + d = bC x j → xRp w' ad ct' → mR E ad ct' (hd (uRows (uRv0 x j) (sB x) j i) 0) G' → mS (uRows (uRv0 x j) (sB x) j i) G' → gF G' = upd (gF G) (sB x + 1) 1 → Fm ct ct' → wl_MO_reverse_97 E post (d + 1) w' (ad (10, 0, 0)) (nI (j + 1)) (nI (sB x + 1)) (nI i) := by
    intro d
    induction d with
    | zero =>
      intro i w' ct' G' hi R' M' S' f' F'
      have hi : i = bC x j := by omega
      subst hi
      have hIn := Inv_rows hI hj hlt (Nat.le_refl (bC x j))
      have eB : sB (uRows (uRv0 x j) (sB x) j (bC x j)) = sB x + 1 := by unfold sB; rw [uRows_1]; rfl
      have ec : bC (uRows (uRv0 x j) (sB x) j (bC x j)) j = bC x j := by
        have := (uRows_b (uRv0 x j) (sB x) j (bC x j) j (by omega)).1
        unfold bC at this ⊢
        rw [this]; exact (rv0_o x j (by omega)).1
      have hs := S'.2.2.1 j (by rw [eB]; omega)
      obtain ⟨k10, -, -, -, -, -, -, -, -, k19, -⟩ := mR_at R' M'
      refine ⟨_, gr_of k10 rfl, _, rfl, _, _, xaI_of k19, Vj, ?_⟩
      rw [nI_clamp (by omega), hs.2.2.2.2.1, ec]
      refine ⟨fun _ => ⟨⟨_, k10⟩, ?_⟩, fun q => absurd (nI_le (Nat.le_refl _) (by omega)) q⟩
      have hgf : ¬ gF G' (sB x + 1) = 0 := by rw [f', pk_us]; decide
      have hbf : bF (uRows (uRv0 x j) (sB x) j (bC x j)) (sB x) = false := by rw [(uRows_f _ _ _ _ _).2.2.1]; exact (rv0_n x j).2.2
      refine mo_go R' M' hIn S' (by rw [eB]; omega) (by rw [(uRows_f _ _ _ _ _).2.1]; exact (rv0_n x j).2.1) (fun _ z => absurd (oSum_rows hsum) (z hgf)) (fun z => by rw [hbf] at z; cases z) (fun _ _ w2 ct2 G2 R2 M2 S2 f2 F2 => ?_)
      rw [uRv_eq hj] at M2 S2
      exact h1 w2 ct2 G2 R2 M2 S2 (f2.trans f') (F'.trans F2)
    | succ d ih =>
      intro i w' ct' G' hi R' M' S' f' F'
      have hi2 : i < bC x j := by omega
      have hIn := Inv_rows hI hj hlt (Nat.le_of_lt hi2)
      have eB : sB (uRows (uRv0 x j) (sB x) j i) = sB x + 1 := by unfold sB; rw [uRows_1]; rfl
      have ec : bC (uRows (uRv0 x j) (sB x) j i) j = bC x j := by
        have := (uRows_b (uRv0 x j) (sB x) j i j (by omega)).1
        unfold bC at this ⊢
        rw [this]; exact (rv0_o x j (by omega)).1
      have er := (uRows_b (uRv0 x j) (sB x) j i j (by omega)).2
      have eA : rA (uRows (uRv0 x j) (sB x) j i) j i = rA (uRv0 x j) j i := by unfold rA; rw [er]
      have eV : rV (uRows (uRv0 x j) (sB x) j i) j i = rV (uRv0 x j) j i := by unfold rV; rw [er]
      have hs := S'.2.2.1 j (by rw [eB]; omega)
      have hr := hs.2.2.2.2.2 i (by rw [ec]; exact hi2)
      obtain ⟨k10, -, -, -, -, -, -, -, -, k19, k20, k21, -⟩ := mR_at R' M'
      have VV : vp_in (nI (12 * (j + 1) + i)) 3612 := vp_in_nI (by omega) (by decide)
      refine ⟨_, gr_of k10 rfl, _, rfl, _, _, xaI_of k19, Vj, ?_⟩
      rw [nI_clamp (by omega), hs.2.2.2.2.1, ec]
      refine ⟨fun q => absurd q (nI_ge hi2 (by omega)), fun _ => ⟨_, gr_of k10 rfl, _, rfl, _, _, xaI_of k20, ?_⟩⟩
      rw [ix12, nI_clamp (by omega), hr.1, eA]
      refine ⟨VV, _, gr_of k10 rfl, _, rfl, _, _, xaL_of k21, VV, ⟨_, k10⟩, ?_⟩
      rw [hr.2, eV]
      refine mo_put R' M' (by rw [eB]; omega) (fun z hz => (hIn.1.2.2.2.2.2 z hz).1) S' (by rw [eB]; omega) (by rw [uRows_c, (rv0_n x j).1]; omega) _ (fun w2 ct2 G2 R2 M2 S2 f2 F2 => ?_)
      rw [nI_1]
      exact ih (i + 1) w2 ct2 G2 (by omega) R2 M2 S2 (f2.trans f') (F'.trans F2)
  exact ⟨_, key (bC x j) 0 w47 ct47 _ (by omega) R47 M47 S47 (by show upd (gF G37) (sB x + 1) 1 = _; rw [f37]) F0⟩
theorem cl_1 (n : Nat) : (nI n).toInt64 - 1 + 1 = (nI n).toInt64 := by
  generalize (nI n).toInt64 = u
  grind
theorem mo_reverse {post : Int32 → xw_T → Prop} (hR : xRp w ad ct) (hM : mR E ad ct (hd x th) G) (hI : xInv x) (hS : mS x G) (r : Int32) (h0 : (∀ j, j < sB x → ¬ isRow x r j) → ∀ w' ct', xRp w' ad ct' → mR E ad ct' (hd x 0) G → Fm ct ct' → post 0 w')
    (hb : ∀ j, j < sB x → isRow x r j → bK x j = true → ∀ w' ct', xRp w' ad ct' → mR E ad ct' (hd x 0) G → Fm ct ct' → post 0 w')
    (h4 : ∀ j, j < sB x → isRow x r j → bK x j = false → sB x = 300 → ∀ w' ct', xRp w' ad ct' → mR E ad ct' (hd x 0) G → Fm ct ct' → post (-2000000004) w')
    (h1 : ∀ j, j < sB x → isRow x r j → bK x j = false → sB x < 300 → ∀ w' ct' G', xRp w' ad ct' → mR E ad ct' (hd (uRv x j) 0) G' → mS (uRv x j) G' → gF G' = upd (gF G) (sB x + 1) 1 → Fm ct ct' → post 1 w') : wp_MO_reverse E post w (ad (10, 0, 0)) r := by
  have hO := hI.ok
  have hB := hO.1.2.1
  have hoo := hO.1.2.2.2.1
  refine mo_begin hR hM (fun w1 ct1 R1 M1 F1 => ⟨⟨_, (mR_at R1 M1).1⟩, mo_batchOf R1 M1 hO hS r (fun q => ⟨fun _ => h0 (fun j hj hr => ?_) w1 ct1 R1 M1 F1, fun z => absurd rfl z⟩) (fun n e hn hp => ⟨fun _ => h0 (fun j hj hr => ?_) w1 ct1 R1 M1 F1, fun z => absurd rfl z⟩) (fun n k e hn hk hp1 hp2 => ?_)⟩)
  · obtain ⟨n, k, e1, hn, hk, ek, a1, a2⟩ := isRow_pos hI hj hr
    rw [e1] at q
    exact nI_nle (by omega) hn q
  · obtain ⟨m, k, e1, hm, hk, ek, a1, a2⟩ := isRow_pos hI hj hr
    have e2 := (nI_eq hn hm).mp (e.symm.trans e1)
    subst e2
    have h1 : pre x (k + 1) ≤ pre x (sP x) := pre_mono x hk
    have h2 : pre x (k + 1) = pre x k + bC x (pB x k) := rfl
    rw [ek] at h2; omega
  · have hb1 := hI.2.1 k hk
    have hrow : isRow x r (pB x k) := by rw [e]; exact (isRow_iff hI hk hn).mpr ⟨hp1, hp2⟩
    generalize pB x k = j at hb1 hrow
    obtain ⟨hj, hj1⟩ := hb1
    obtain ⟨hc, hst, hD, -⟩ := hO.1.2.2.2.2.2 j hj
    have hs := hS.2.2.1 j hj
    have V : vp_in (nI (j + 1)) 301 := vp_in_nI (by omega) (by decide)
    have enar : vp_nar .boolean 1 = 1 := nar_b true
    obtain ⟨m10, -, -, -, -, m15, -, -, m18, -⟩ := mR_at R1 M1
    refine ⟨fun z => absurd z (nI_ne0 (by omega) (by omega)), fun _ => ⟨_, gr_of m10 rfl, _, rfl, _, _, xaI_of m18, V, ?_⟩⟩
    rw [nI_clamp (by omega), hs.2.2.2.1]
    refine ⟨fun q => ⟨_, gi_of m10 rfl, fun q2 => ⟨_, gr_of m10 rfl, _, rfl, _, _, xaI_of m18, V, fun w29 e29 => ?_⟩, fun q2 => h4 j hj hrow ((b2i_0 _).mp q) ((nI_eq (show sB x < _ by omega) (by decide)).mp (show nI (sB x) = nI 300 from q2)) w1 ct1 R1 M1 F1⟩, fun q => hb j hj hrow ((b2i_ne _).mp q) w1 ct1 R1 M1 F1⟩
    have hlt : sB x < 300 := by
      rcases Nat.lt_or_ge (sB x) 300 with z | z
      · exact z
      · exact absurd (show nI (sB x) = nI 300 by rw [show sB x = 300 by omega]) q2
    rw [enar] at e29
    obtain ⟨ct29, R29, M29, F29⟩ := mR_gB R1 M1 (upd (gB G) (j + 1) 1)
    rw [← e29] at R29
    have S29 := mS_gB hS j hj
    obtain ⟨n10, -, -, -, -, n15, -⟩ := mR_at R29 M29
    have hcl := cl_lt (n := sO x) (d := bD x j) (by omega) (by omega)
    have hlt2 : (nI (bD x j)).toInt64 < (nI (sO x)).toInt64 ↔ bD x j < sO x := by
      rw [Int64.lt_iff_toInt_lt, dT (by omega), dT (by omega)]; omega
    have fin := mo_rev1 (post := post) R29 M29 hI S29 hj hj1 hlt (fun w' ct' G' R' M' S' f' F' => h1 j hj hrow ((b2i_0 _).mp q) hlt w' ct' G' R' M' S' f' ((F1.trans F29).trans F'))
    refine ⟨_, gr_of n10 rfl, _, rfl, _, _, xaL_of n15, V, _, gl_of n10 rfl, ?_⟩
    show (gD G (j + 1) ≤ (nI (sO x)).toInt64 - 1 → _) ∧ (¬ gD G (j + 1) ≤ (nI (sO x)).toInt64 - 1 → _)
    rw [hs.2.1]
    refine ⟨fun q3 => ⟨_, gl_of n10 rfl, ⟨_, n10⟩, ?_⟩, fun q3 => ⟨_, gr_of n10 rfl, _, rfl, _, _, xaL_of n15, V, ⟨_, n10⟩, ?_⟩⟩
    · have hd1 : dMax x j = sO x := by
        unfold dMax
        rw [if_pos]
        refine Classical.byContradiction (fun z => Int64.not_lt.mpr q3 (hcl.mpr (fun y => z (hlt2.mp y))))
      rw [hd1] at fin
      show wp_MO_make E _ w29 (ad (10, 0, 0)) ((nI (sO x)).toInt64 - 1 + 1)
      rw [cl_1]
      exact fin
    · have hd1 : dMax x j = bD x j := by
        unfold dMax
        rw [if_neg]
        exact fun z => hcl.mp (Int64.not_le.mp q3) (hlt2.mpr z)
      rw [hd1] at fin
      show wp_MO_make E _ w29 (ad (10, 0, 0)) (gD G (j + 1))
      rw [hs.2.1]
      exact fin
end MOV
