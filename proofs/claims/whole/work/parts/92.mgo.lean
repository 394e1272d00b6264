/-! THE REFERENCE: stops, go, post -/
theorem neg64 {l : Int32} (h : 0 ≤ l.toInt) : (-l).toInt64 = -(l.toInt64) := by
  have h2 := Int32.toInt_lt l
  apply Int64.toInt_inj.mp
  rw [Int32.toInt_toInt64, Int32.toInt_neg, Int64.toInt_neg, Int32.toInt_toInt64, Int.bmod_eq_of_le (by omega) (by omega), Int.bmod_eq_of_le (by omega) (by omega)]
section MOG
variable {E : xE_T} {w : xw_T} {ad : xR → Nat} {ct : xR → Option va_E} {x : xSt} {G : xG} {th : Int32}
theorem mo_stops {post : Int32 → xw_T → Prop} (hR : xRp w ad ct) (hM : mR E ad ct (hd x th) G) (hI : xInv x) (hS : mS x G) {j : Nat} (hj : j < sB x) (h0 : ¬ oSum x j → post (-1) w)
    (h1 : oSum x j → ∀ n, n ≤ bC x j → (∀ i, i < n → gF G (j + 1) = 0 → ¬ brk x j i) → (n < bC x j → gF G (j + 1) = 0 ∧ brk x j n) → post (nI n) w) : wp_MO_stops E post w (ad (10, 0, 0)) (nI (j + 1)) := by
  obtain ⟨m10, m11, m12, m13, m14, m15, m16, m17, m18, m19, m20, m21, m22⟩ := mR_at hR hM
  have hO := hI.ok
  have hA := hO.1.1
  have hB := hO.1.2.1
  have hc := (hO.1.2.2.2.2.2 j hj).1
  have hs := hS.2.2.1 j hj
  have V : vp_in (nI (j + 1)) 301 := vp_in_nI (by omega) (by decide)
  have k60 : oSum x j → ∀ d i, i + d = bC x j → (∀ z, z < i → gF G (j + 1) = 0 → ¬ brk x j z) → wl_MO_stops_60 E post (d + 2) w (ad (10, 0, 0)) (nI (j + 1)) (nI i) 1 := by
    intro hsum d
    induction d with
    | zero =>
      intro i hi hz
      have hi : i = bC x j := by omega
      subst hi
      refine ⟨_, gr_of m10 rfl, _, rfl, _, _, xaI_of m19, V, ?_⟩
      rw [nI_clamp (by omega), hs.2.2.2.2.1]
      exact ⟨fun _ => h1 hsum _ (Nat.le_refl _) hz (fun z => absurd z (Nat.lt_irrefl _)), fun q => absurd (nI_le (Nat.le_refl _) (by omega)) q⟩
    | succ d ih =>
      intro i hi hz
      have hi2 : i < bC x j := by omega
      have hr := hs.2.2.2.2.2 i hi2
      have ha := hO.2.2 j hj i hi2
      have hga := hS.1 _ ha
      have VV : vp_in (nI (12 * (j + 1) + i)) 3612 := vp_in_nI (by omega) (by decide)
      have VA : vp_in (nI (rA x j i + 1)) 61 := vp_in_nI (by omega) (by decide)
      have go : (gF G (j + 1) = 0 → ¬ brk x j i) → wl_MO_stops_60 E post (d + 2) w (ad (10, 0, 0)) (nI (j + 1)) (nI i + 1) 1 := by
        intro q
        rw [nI_1]
        refine ih (i + 1) (by omega) (fun z hz2 => ?_)
        by_cases e : z = i
        · rw [e]; exact q
        · exact hz z (by omega)
      refine ⟨_, gr_of m10 rfl, _, rfl, _, _, xaI_of m19, V, ?_⟩
      rw [nI_clamp (by omega), hs.2.2.2.2.1]
      refine ⟨fun q => absurd q (nI_ge hi2 (by omega)), fun _ => ⟨fun z => absurd z (by decide), fun _ => ⟨_, gr_of m10 rfl, _, rfl, _, _, xaI_of m20, ?_⟩⟩⟩
      rw [ix12, nI_clamp (by omega), hr.1]
      refine ⟨VV, _, gr_of m10 rfl, _, rfl, _, _, xaI_of m17, V, fun q => go (fun z => absurd z q), fun q => ⟨_, gr_of m10 rfl, _, rfl, _, _, xaI_of m12, VA, ?_⟩⟩
      rw [nI_clamp (by omega), hga.2.1]
      refine ⟨fun q2 => go (fun _ z => q2 z.2.1), fun q2 => ⟨_, gr_of m10 rfl, _, rfl, _, _, xaL_of m21, VV, ?_⟩⟩
      rw [hr.2]
      refine ⟨fun q3 => go (fun _ z => Int64.not_lt.mpr q3 z.1), fun q3 => ⟨⟨_, m10⟩, mo_ever hR hM hO hS ha ⟨⟨_, m10⟩, ?_⟩⟩⟩
      rw [nI_1]
      refine mo_part hR hM hO hS hj ha (by omega) ⟨_, gr_of m10 rfl, _, rfl, _, _, xaL_of m13, VA, ?_⟩
      have e4 := hI.2.2.2.2.1 _ ha
      have e9 := neg64 (hI.2.2.2.2.2.2.2.2.2.1 _ ha)
      rw [hga.2.2, ← e9, ← e4]
      refine ⟨fun q4 => ⟨_, gr_of m10 rfl, _, rfl, _, _, xaI_of m19, V, ?_⟩, fun q4 => ?_⟩
      · rw [nI_clamp (by omega), hs.2.2.2.2.1]
        exact ⟨fun z => absurd z (nI_ge hi2 (by omega)), fun _ => ⟨fun _ => h1 hsum i (by omega) hz (fun _ => ⟨q, Int64.not_le.mp q3, q2, Int64.not_le.mpr q4⟩), fun z => absurd rfl z⟩⟩
      · rw [← nI_1 i]
        exact go (fun _ z => z.2.2 (Int64.not_lt.mp q4))
  have k5 : ∀ d i, i + d = bC x j → wl_MO_stops_5 E post (d + 1) w (ad (10, 0, 0)) (nI (j + 1)) (sumL (rV x j) i) (nI i) := by
    intro d
    induction d with
    | zero =>
      intro i hi
      have hi : i = bC x j := by omega
      subst hi
      refine ⟨_, gr_of m10 rfl, _, rfl, _, _, xaI_of m19, V, ?_⟩
      rw [nI_clamp (by omega), hs.2.2.2.2.1]
      refine ⟨fun _ => ⟨_, gr_of m10 rfl, _, rfl, _, _, xaI_of m19, V, ?_⟩, fun q => absurd (nI_le (Nat.le_refl _) (by omega)) q⟩
      rw [hs.2.2.2.2.1]
      refine ⟨fun q => h0 (fun z => z.1 ((nI_eq (by omega) (by decide)).mp (show nI (bC x j) = nI 0 from q))), fun q => ⟨fun q2 => ⟨_, k60 ⟨fun z => q (by rw [z]; rfl), q2⟩ (bC x j) 0 (by omega) (fun z hz => absurd hz (Nat.not_lt_zero z))⟩, fun q2 => h0 (fun z => q2 z.2)⟩⟩
    | succ d ih =>
      intro i hi
      have h9 := ih (i + 1) (by omega)
      have hi2 : i < bC x j := by omega
      have hr := hs.2.2.2.2.2 i hi2
      refine ⟨_, gr_of m10 rfl, _, rfl, _, _, xaI_of m19, V, ?_⟩
      rw [nI_clamp (by omega), hs.2.2.2.2.1]
      refine ⟨fun q => absurd q (nI_ge hi2 (by omega)), fun _ => ⟨_, gr_of m10 rfl, _, rfl, _, _, xaL_of m21, ?_⟩⟩
      rw [ix12, nI_clamp (by omega), hr.2, nI_1]
      exact ⟨vp_in_nI (by omega) (by decide), h9⟩
  exact ⟨_, k5 (bC x j) 0 (by omega)⟩
theorem mS_gS (hS : mS x G) (j s : Nat) (hj : j < sB x) : mS (uSt x j s) (sgS G (upd (gS G) (j + 1) (nI s))) := by
  obtain ⟨s1, s2, s3, s4, s5⟩ := hS
  refine ⟨s1, s2, fun i hi => ?_, s4, s5⟩
  obtain ⟨t1, t2, t3, t4, t5, t6⟩ := s3 i hi
  refine ⟨?_, t2, t3, t4, t5, t6⟩
  show upd (gS G) (j + 1) (nI s) (i + 1) = nI (if i = j then s else bS x i)
  by_cases e : i = j
  · rw [e, pk_us, if_pos rfl]
  · rw [pk_un (by omega), if_neg e]; exact t1
theorem mS_gF (hS : mS x G) (j : Nat) (v : Int32) (hj : j < sB x) : mS x (sgF G (upd (gF G) (j + 1) v)) := by
  obtain ⟨s1, s2, s3, s4, s5⟩ := hS
  refine ⟨s1, s2, s3, fun i hi => ?_, s5⟩
  obtain ⟨t1, t2, t3, t4⟩ := s4 i hi
  refine ⟨t1, ?_, t3, t4⟩
  show upd (gF G) (j + 1) v (i + 1) = 0
  rw [pk_un (by omega)]; exact t2
theorem mS_gB (hS : mS x G) (j : Nat) (hj : j < sB x) : mS (uBack x j) (sgB G (upd (gB G) (j + 1) 1)) := by
  obtain ⟨s1, s2, s3, s4, s5⟩ := hS
  refine ⟨s1, s2, fun i hi => ?_, fun i hi => ?_, s5⟩
  · obtain ⟨t1, t2, t3, t4, t5, t6⟩ := s3 i hi
    refine ⟨t1, t2, t3, ?_, t5, t6⟩
    show upd (gB G) (j + 1) 1 (i + 1) = b2i (if i = j then true else bK x i)
    by_cases e : i = j
    · rw [e, pk_us, if_pos rfl]; rfl
    · rw [pk_un (by omega), if_neg e]; exact t4
  · obtain ⟨t1, t2, t3, t4⟩ := s4 i hi
    refine ⟨t1, t2, ?_, t4⟩
    show upd (gB G) (j + 1) 1 (i + 1) = 0
    have hi : sB x ≤ i := hi
    rw [pk_un (by omega)]; exact t3
theorem mS_post (hS : mS x G) (j : Nat) : mS (uPost x j) (sgQ (sgS G (upd (upd (gS G) (j + 1) 2) (j + 1) 1)) (upd (gQ G) (sP x) (nI (j + 1)))) := by
  obtain ⟨s1, s2, s3, s4, s5⟩ := hS
  refine ⟨s1, s2, fun i hi => ?_, s4, fun k hk => ?_⟩
  · obtain ⟨t1, t2, t3, t4, t5, t6⟩ := s3 i hi
    refine ⟨?_, t2, t3, t4, t5, t6⟩
    show upd (upd (gS G) (j + 1) 2) (j + 1) 1 (i + 1) = nI (if i = j then 1 else bS x i)
    by_cases e : i = j
    · rw [e, pk_us, if_pos rfl]; rfl
    · rw [pk_un (by omega), pk_un (by omega), if_neg e]; exact t1
  · show upd (gQ G) (sP x) (nI (j + 1)) k = nI ((if k = sP x then j else pB x k) + 1)
    have hk : k < sP x + 1 := hk
    by_cases e : k = sP x
    · rw [e, pk_us, if_pos rfl]
    · rw [pk_un e, if_neg e]; exact s5 k (by omega)
theorem mo_go {post : Int32 → xw_T → Prop} (hR : xRp w ad ct) (hM : mR E ad ct (hd x th) G) (hI : xInv x) (hS : mS x G) {j : Nat} (hj : j < sB x) (hb0 : bS x j = 0)
    (h5 : (gF G (j + 1) = 0 → o5 x j) → (¬ gF G (j + 1) = 0 → ¬ oSum x j) → ∀ w' ct' G', xRp w' ad ct' → mR E ad ct' (hd (uSt x j 2) th) G' → mS (uSt x j 2) G' → gF G' = gF G → Fm ct ct' → post (-1) w')
    (h4 : bF x j = true → (gF G (j + 1) = 0 → o4 x j) → ∀ w' ct' G', xRp w' ad ct' → mR E ad ct' (hd (uSt x j 2) th) G' → mS (uSt x j 2) G' → gF G' = gF G → Fm ct ct' → post 0 w')
    (h3 : bF x j = false → (gF G (j + 1) = 0 → o3 x j) → ∀ w' ct' G', xRp w' ad ct' → mR E ad ct' (hd (uPost x j) th) G' → mS (uPost x j) G' → gF G' = gF G → Fm ct ct' → post 1 w') : wp_MO_go E post w (ad (10, 0, 0)) (nI (j + 1)) := by
  have hO := hI.ok
  have hA := hO.1.1
  have hB := hO.1.2.1
  have hc := (hO.1.2.2.2.2.2 j hj).1
  have hs := hS.2.2.1 j hj
  have V : vp_in (nI (j + 1)) 301 := vp_in_nI (by omega) (by decide)
  have m10 := (mR_at hR hM).1
  have m14 := (mR_at hR hM).2.2.2.2.1
  obtain ⟨ct7, R7, M7, F7⟩ := mR_gS hR hM (upd (gS G) (j + 1) 2)
  have S7 := mS_gS hS j 2 hj
  refine ⟨⟨_, m10⟩, mo_stops hR hM hI hS hj (fun hn => ⟨_, gr_of m10 rfl, _, rfl, _, _, xaI_of m14, V, fun w7 e7 => ?_⟩) (fun hsum n hn hz hz2 => ⟨_, gr_of m10 rfl, _, rfl, _, _, xaI_of m14, V, fun w7 e7 => ?_⟩)⟩
  · rw [nI_clamp (by omega)] at e7
    rw [← e7] at R7
    exact ⟨fun _ => h5 (fun _ => Or.inl hn) (fun _ => hn) w7 ct7 _ R7 M7 S7 rfl F7, fun z => absurd (by decide) z⟩
  · rw [nI_clamp (by omega)] at e7
    rw [← e7] at R7
    obtain ⟨n10, n11, n12, n13, n14, n15, n16, n17, n18, n19, n20, n21, n22⟩ := mR_at R7 M7
    have hn8 : bC x j ≠ 0 := hsum.1
    have no5 : ((gF G (j + 1) = 0 → o5 x j) ∧ (¬ gF G (j + 1) = 0 → ¬ oSum x j)) → post (-1) w7 := fun z => h5 z.1 z.2 w7 ct7 _ R7 M7 S7 rfl F7
    have no4 : bF x j = true → (gF G (j + 1) = 0 → o4 x j) → post 0 w7 := fun z1 z2 => h4 z1 z2 w7 ct7 _ R7 M7 S7 rfl F7
    have eP : gP G (j + 1) = b2i (bF x j) := hs.2.2.1
    have eR : gR G (j + 1) = nI (bC x j) := hs.2.2.2.2.1
    refine ⟨fun z => absurd z (nI_pos (by omega)), fun _ => ⟨_, gr_of n10 rfl, _, rfl, _, _, xaI_of n19, V, ?_⟩⟩
    show (gR G (nI (j + 1)).toNatClampNeg ≤ nI n → _) ∧ (¬ gR G (nI (j + 1)).toNatClampNeg ≤ nI n → _)
    rw [nI_clamp (by omega), eR]
    refine ⟨fun q => ⟨_, gr_of n10 rfl, _, rfl, _, _, xaI_of n16, V, ?_⟩, fun q => ?_⟩
    · have hnb : n = bC x j := by
        rcases Nat.lt_or_ge n (bC x j) with z | z
        · exact absurd q (nI_ge z (by omega))
        · omega
      subst hnb
      show (gP G (j + 1) = 0 → _) ∧ (¬ gP G (j + 1) = 0 → post 0 w7)
      rw [eP]
      refine ⟨fun q2 => ⟨_, gr_of n10 rfl, _, rfl, _, _, xaI_of n14, V, fun w20 e20 => ?_⟩, fun q2 => no4 ((b2i_ne _).mp q2) (fun z => ⟨hsum, (b2i_ne _).mp q2, hz 0 (by omega) z⟩)⟩
      have hbf : bF x j = false := (b2i_0 _).mp q2
      have hsP := (Inv_post hI hj hb0 hsum).1.2.2.1
      have hsP : sP x + 1 ≤ sB x := hsP
      have e20 : w20 = va_up w7 (ad (14, 0, 0)) (some (xcI (E.1 1) 301 (upd (upd (gS G) (j + 1) 2) (j + 1) 1))) := e20
      obtain ⟨ct20, R20, M20, F20⟩ := mR_gS R7 M7 (upd (upd (gS G) (j + 1) 2) (j + 1) 1)
      rw [← e20] at R20
      obtain ⟨k10, -, -, -, -, -, -, -, -, -, -, -, k22⟩ := mR_at R20 M20
      refine ⟨_, gr_of k10 rfl, _, gi_of k10 rfl, _, rfl, _, _, xaI_of k22, vp_in_nI (show sP x < 300 by omega) (by decide), fun w26 e26 => ?_⟩
      have e26 : w26 = va_up w20 (ad (22, 0, 0)) (some (xcI (E.1 1) 300 (upd (gQ G) (nI (sP x)).toNatClampNeg (nI (j + 1))))) := e26
      rw [nI_clamp (by omega)] at e26
      obtain ⟨ct26, R26, M26, F26⟩ := mR_gQ R20 M20 (upd (gQ G) (sP x) (nI (j + 1)))
      rw [← e26] at R26
      have l10 := (mR_at R26 M26).1
      refine ⟨_, gi_of l10 rfl, ⟨_, by rw [xg_of l10]; rfl⟩, fun w28 e28 => ?_⟩
      rw [xp_of l10, nI_1] at e28
      have e28 : w28 = va_up w26 (ad (10, 0, 0)) (some (.inr (5, moF ad (hd (uPost x j) th)))) := e28
      obtain ⟨ct28, R28, M28, F28⟩ := mR_h R26 M26 (hd (uPost x j) th)
      rw [← e28] at R28
      exact h3 hbf (fun z => ⟨hsum, hbf, fun k hk => hz k hk z⟩) w28 ct28 _ R28 M28 (mS_post hS j) rfl (((F7.trans F20).trans F26).trans F28)
    · have hnb : n < bC x j := Nat.not_le.mp (fun z => q (nI_le z (by omega)))
      obtain ⟨hf, hk⟩ := hz2 hnb
      refine ⟨fun q2 => ?_, fun q2 => ⟨_, gr_of n10 rfl, _, rfl, _, _, xaI_of n16, V, ?_⟩⟩
      · have hn0 : n = 0 := (nI_eq (by omega) (by decide)).mp (show nI n = nI 0 from q2)
        rw [hn0] at hk
        refine no5 ⟨fun _ => Or.inr ⟨hsum, ?_⟩, fun z => absurd hf z⟩
        cases hb : bF x j with
        | true => exact Or.inl ⟨rfl, hk⟩
        | false => exact Or.inr ⟨rfl, 0, by omega, hk⟩
      · have hn0 : n ≠ 0 := fun z => q2 (by rw [z]; rfl)
        show (¬ gP G (j + 1) = 0 → _) ∧ (gP G (j + 1) = 0 → post (-1) w7)
        rw [eP]
        refine ⟨fun q3 => ⟨_, gr_of n10 rfl, _, rfl, _, _, xaI_of n16, V, ?_⟩, fun q3 => no5 ⟨fun _ => Or.inr ⟨hsum, Or.inr ⟨(b2i_0 _).mp q3, n, hnb, hk⟩⟩, fun z => absurd hf z⟩⟩
        show (gP G (j + 1) = 0 → _) ∧ (¬ gP G (j + 1) = 0 → post 0 w7)
        rw [eP]
        exact ⟨fun z => absurd z q3, fun _ => no4 ((b2i_ne _).mp q3) (fun z => ⟨hsum, (b2i_ne _).mp q3, hz 0 (by omega) z⟩)⟩
theorem mo_post {post : Int32 → xw_T → Prop} (hR : xRp w ad ct) (hM : mR E ad ct (hd x th) G) (hI : xInv x) (hS : mS x G) (hF : mF0 x G) (p : Int32) (h1 : num p (sB x) = none → ∀ w' ct', xRp w' ad ct' → mR E ad ct' (hd x 0) G → Fm ct ct' → post (-2000000001) w')
    (h2 : ∀ j, num p (sB x) = some j → j < sB x → ¬ mayP x j → ∀ w' ct', xRp w' ad ct' → mR E ad ct' (hd x 0) G → Fm ct ct' → post (-2000000003) w')
    (h5 : ∀ j, num p (sB x) = some j → j < sB x → mayP x j → o5 x j → ∀ w' ct' G', xRp w' ad ct' → mR E ad ct' (hd (uSt x j 2) 1) G' → mS (uSt x j 2) G' → gF G' = gF G → Fm ct ct' → post 0 w')
    (h4 : ∀ j, num p (sB x) = some j → j < sB x → mayP x j → o4 x j → ∀ w' ct' G', xRp w' ad ct' → mR E ad ct' (hd (uSt x j 2) 0) G' → mS (uSt x j 2) G' → gF G' = gF G → Fm ct ct' → post 0 w')
    (h3 : ∀ j, num p (sB x) = some j → j < sB x → mayP x j → o3 x j → ∀ w' ct' G', xRp w' ad ct' → mR E ad ct' (hd (uPost x j) 0) G' → mS (uPost x j) G' → gF G' = gF G → Fm ct ct' → post 1 w') : wp_MO_post E post w (ad (10, 0, 0)) p := by
  have hO := hI.ok
  have hB := hO.1.2.1
  have hoo := hO.1.2.2.2.1
  refine mo_begin hR hM (fun w1 ct1 R1 M1 F1 => ⟨⟨_, (mR_at R1 M1).1⟩, mo_isB R1 M1 hO p (fun q => ⟨fun z => absurd rfl z, fun _ => h1 q w1 ct1 R1 M1 F1⟩) (fun j ej hj hp => ⟨fun _ => ?_, fun z => absurd z (by decide)⟩)⟩)
  obtain ⟨m10, m11, m12, m13, m14, m15, -⟩ := mR_at R1 M1
  have hs := hS.2.2.1 j hj
  obtain ⟨hc, hst, hD, -⟩ := hO.1.2.2.2.2.2 j hj
  have V : vp_in (nI (j + 1)) 301 := vp_in_nI (by omega) (by decide)
  have hcl := cl_lt (n := sO x) (d := bD x j) (by omega) (by omega)
  have no : ¬ mayP x j → post (-2000000003) w1 := fun z => h2 j ej hj z w1 ct1 R1 M1 F1
  rw [hp]
  refine ⟨_, gr_of m10 rfl, _, rfl, _, _, xaI_of m14, V, ?_⟩
  rw [nI_clamp (by omega), hs.1]
  refine ⟨fun q => no (fun z => q (by rw [z.1]; rfl)), fun q => ⟨_, gr_of m10 rfl, _, rfl, _, _, xaL_of m15, V, ?_⟩⟩
  have hb0 : bS x j = 0 := (nI_eq (by omega) (by decide)).mp (show nI (bS x j) = nI 0 from q)
  have hf := hF j hj hb0
  rw [hs.2.1]
  refine ⟨_, gl_of m10 rfl, fun q2 => ⟨⟨_, m10⟩, ?_⟩, fun q2 => no (fun z => q2 (hcl.mpr z.2))⟩
  have hm : mayP x j := ⟨hb0, hcl.mp q2⟩
  refine mo_go R1 M1 hI hS hj hb0 (fun z _ w' ct' G' R' M' S' f' F' => ?_) (fun _ z w' ct' G' R' M' S' f' F' => ?_) (fun _ z w' ct' G' R' M' S' f' F' => ?_)
  · refine ⟨fun y => absurd y (by decide), fun _ => ⟨⟨_, by rw [xg_of (mR_at R' M').1]; rfl⟩, fun w16 e16 => ?_⟩⟩
    obtain ⟨ct2, R2, M2, F2⟩ := mo_th R' M' 1
    rw [← e16] at R2
    exact ⟨fun y => absurd y (by decide), fun _ => h5 j ej hj hm (z hf) w16 ct2 G' R2 M2 S' f' ((F1.trans F').trans F2)⟩
  · refine ⟨fun _ => ⟨⟨_, by rw [xg_of (mR_at R' M').1]; rfl⟩, fun w16 e16 => ?_⟩, fun y => absurd (by decide) y⟩
    obtain ⟨ct2, R2, M2, F2⟩ := mo_th R' M' 0
    rw [← e16] at R2
    exact ⟨fun _ => h4 j ej hj hm (z hf) w16 ct2 G' R2 M2 S' f' ((F1.trans F').trans F2), fun y => absurd (by decide) y⟩
  · refine ⟨fun _ => ⟨⟨_, by rw [xg_of (mR_at R' M').1]; rfl⟩, fun w16 e16 => ?_⟩, fun y => absurd (by decide) y⟩
    obtain ⟨ct2, R2, M2, F2⟩ := mo_th R' M' 0
    rw [← e16] at R2
    exact ⟨fun _ => h3 j ej hj hm (z hf) w16 ct2 G' R2 M2 S' f' ((F1.trans F').trans F2), fun y => absurd (by decide) y⟩
end MOG
