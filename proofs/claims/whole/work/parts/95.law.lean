/-! THE LAW'S CALLS: program and reference side by side -/
def LI (E : xE_T) (w : xw_T) (a1 a2 a3 : Nat) : Prop := ∃ (x : xSt) (ad : xR → Nat) (ct : xR → Option va_E) (G : xG) (th : Int32) (f : Nat → Int64), xRp w ad ct ∧ cC E ad ct x ∧ mR E ad ct (hd x th) G ∧ mS x G ∧ mF0 x G ∧ xInv x ∧ ct (23, 0, 0) = some (xcL (E.1 2) 1 f) ∧ ad (0, 0, 0) = a1 ∧ ad (10, 0, 0) = a2 ∧ ad (23, 0, 0) = a3
theorem same_K {α : Type} {r : α} {P : Prop} (h : P) : (r = r → P) ∧ (¬ r = r → False) := ⟨fun _ => h, fun z => z rfl⟩
section LAWP
variable {E : xE_T} {w : xw_T} {ad : xR → Nat} {ct : xR → Option va_E} {x : xSt} {G : xG} {th : Int32} {H : xH}
theorem fr_m {ad' : xR → Nat} {ct' : xR → Option va_E} (hM : mR E ad ct H G) (F : Fr ad ad' ct ct') : mR E ad' ct' H G := by
  obtain ⟨m10, m11, m12, m13, m14, m15, m16, m17, m18, m19, m20, m21, m22⟩ := hM
  have k : ∀ t : Nat, 10 ≤ t → ct (t, 0, 0) ≠ none → ad' (t, 0, 0) = ad (t, 0, 0) := fun t ht hn => F.a (show t ≠ 2 by omega) (show t ≠ 4 by omega) (show t ≠ 8 by omega) hn
  have c : ∀ t : Nat, 10 ≤ t → ct' (t, 0, 0) = ct (t, 0, 0) := fun t ht => F.1 _ ht
  refine ⟨?_, (c _ (by decide)).trans m11, (c _ (by decide)).trans m12, (c _ (by decide)).trans m13, (c _ (by decide)).trans m14, (c _ (by decide)).trans m15, (c _ (by decide)).trans m16, (c _ (by decide)).trans m17, (c _ (by decide)).trans m18, (c _ (by decide)).trans m19, (c _ (by decide)).trans m20, (c _ (by decide)).trans m21, (c _ (by decide)).trans m22⟩
  rw [c _ (by decide), m10]
  unfold moF
  rw [k 11 (by decide) (by rw [m11]; exact nz), k 12 (by decide) (by rw [m12]; exact nz), k 13 (by decide) (by rw [m13]; exact nz), k 14 (by decide) (by rw [m14]; exact nz), k 15 (by decide) (by rw [m15]; exact nz), k 16 (by decide) (by rw [m16]; exact nz), k 17 (by decide) (by rw [m17]; exact nz), k 18 (by decide) (by rw [m18]; exact nz), k 19 (by decide) (by rw [m19]; exact nz), k 20 (by decide) (by rw [m20]; exact nz), k 21 (by decide) (by rw [m21]; exact nz), k 22 (by decide) (by rw [m22]; exact nz)]
theorem fm_c {ct' : xR → Option va_E} (hC : cC E ad ct x) (F : Fm ct ct') : cC E ad ct' x := cX_iff.mpr (cX_same (cX_iff.mp hC) x rfl rfl rfl rfl rfl rfl rfl (fun r hr => F r (Or.inl hr)))
theorem LI_end {a1 a2 a3 : Nat} {ct' : xR → Option va_E} {f : Nat → Int64} (R : xRp w ad ct') (C : cC E ad ct x) (M : mR E ad ct' (hd x th) G) (S : mS x G) (F0 : mF0 x G) (I : xInv x) (o : ct (23, 0, 0) = some (xcL (E.1 2) 1 f)) (F : Fm ct ct') (e0 : ad (0, 0, 0) = a1) (e10 : ad (10, 0, 0) = a2) (e23 : ad (23, 0, 0) = a3) : LI E w a1 a2 a3 :=
  ⟨x, ad, ct', G, th, f, R, fm_c C F, M, S, F0, I, (F (23, 0, 0) (Or.inr (by decide))).trans o, e0, e10, e23⟩
theorem fr_e {ad' : xR → Nat} {ct' : xR → Option va_E} {f : Nat → Int64} (hC : cC E ad ct x) (hM : mR E ad ct H G) (o : ct (23, 0, 0) = some (xcL (E.1 2) 1 f)) (F : Fr ad ad' ct ct') : ad' (0, 0, 0) = ad (0, 0, 0) ∧ ad' (10, 0, 0) = ad (10, 0, 0) ∧ ad' (23, 0, 0) = ad (23, 0, 0) ∧ ct' (23, 0, 0) = some (xcL (E.1 2) 1 f) :=
  ⟨fr0 (cX_iff.mp hC) F, F.a (by decide) (by decide) (by decide) (by rw [hM.1]; exact nz), F.a (by decide) (by decide) (by decide) (by rw [o]; exact nz), (F.1 (23, 0, 0) (by decide)).trans o⟩
theorem mF0_of {x' : xSt} {G' : xG} (F0 : mF0 x G) (hf : gF G' = gF G) (h : ∀ j, j < sB x' → bS x' j = 0 → j < sB x ∧ bS x j = 0) : mF0 x' G' := by
  intro j hj h0
  rw [hf]
  exact F0 j (h j hj h0).1 (h j hj h0).2
theorem mF0_nb {G' : xG} (F0 : mF0 x G) (S : mS x G) (hf : gF G' = gF G) (d : Nat) : mF0 (uNB x d) G' := by
  intro j hj h0
  have hj : j < sB x + 1 := hj
  rw [hf]
  by_cases e : j = sB x
  · rw [e]; exact (S.2.2.2.1 (sB x) (Nat.le_refl _)).2.1
  · refine F0 j (by omega) ?_
    unfold bS at h0 ⊢
    rw [uNB_b _ _ _ e] at h0; exact h0
theorem mF0_new {x' : xSt} {G' : xG} (F0 : mF0 x G) (hf : gF G' = upd (gF G) (sB x + 1) 1) (hB : sB x' = sB x + 1) (h1 : bS x' (sB x) = 1) (h : ∀ j, j < sB x → bS x' j = bS x j) : mF0 x' G' := by
  intro j hj h0
  rw [hB] at hj
  by_cases e : j = sB x
  · rw [e, h1] at h0; cases h0
  · rw [hf, pk_un (by omega)]
    rw [h j (by omega)] at h0
    exact F0 j (by omega) h0
theorem out_set {f : Nat → Int64} (R : xRp w ad ct) (C : cC E ad ct x) (M : mR E ad ct H G) (o : ct (23, 0, 0) = some (xcL (E.1 2) 1 f)) (f' : Nat → Int64) : ∃ ct', xRp (va_up w (ad (23, 0, 0)) (some (xcL (E.1 2) 1 f'))) ad ct' ∧ cC E ad ct' x ∧ mR E ad ct' H G ∧ ct' (23, 0, 0) = some (xcL (E.1 2) 1 f') := by
  obtain ⟨m10, m11, m12, m13, m14, m15, m16, m17, m18, m19, m20, m21, m22⟩ := M
  have k : ∀ t : Nat, t ≠ 23 → xup ct (23, 0, 0) (some (xcL (E.1 2) 1 f')) (t, 0, 0) = ct (t, 0, 0) := fun t ht => xup_ne _ _ (tg ht)
  refine ⟨_, R.set o _, cX_iff.mpr (cX_same (cX_iff.mp C) x rfl rfl rfl rfl rfl rfl rfl (fun r hr => xup_ne _ _ (fun q => by rw [q] at hr; exact absurd hr (by decide)))), ⟨(k _ (by decide)).trans m10, (k _ (by decide)).trans m11, (k _ (by decide)).trans m12, (k _ (by decide)).trans m13, (k _ (by decide)).trans m14, (k _ (by decide)).trans m15, (k _ (by decide)).trans m16, (k _ (by decide)).trans m17, (k _ (by decide)).trans m18, (k _ (by decide)).trans m19, (k _ (by decide)).trans m20, (k _ (by decide)).trans m21, (k _ (by decide)).trans m22⟩, xup_self _ _ _⟩
end LAWP
section CASES
variable {E : xE_T} {w : xw_T} {L : Nat} {xs : Nat → Int32} {K : xw_T → Prop} {a1 a2 a3 : Nat} {i : Int32}
theorem cs_104 (h : LI E w a1 a2 a3) (hK : ∀ w', LI E w' a1 a2 a3 → K w') (v1 : vp_in (i + 1) L) (v2 : vp_in (i + 2) L) : wc_104 E L xs K w a1 a2 a3 i := by
  obtain ⟨x, ad, ct, G, th, f, R, C, M, S, F0, I, o, rfl, rfl, rfl⟩ := h
  refine ⟨v1, v2, ⟨_, pl_at R C⟩, pl_account R C I.1 _ _ (fun q => ⟨v1, v2, ⟨_, (mR_at R M).1⟩, ?_⟩) (fun q1 q2 => ⟨v1, v2, ⟨_, (mR_at R M).1⟩, ?_⟩) (fun q1 q2 w2 ad2 ct2 R2 C2 F2 => ⟨v1, v2, ?_⟩)⟩
  · exact mo_account R M I.ok S _ _ (fun _ w' ct' R' M' F' => same_K (hK _ (LI_end R' C M' S F0 I o F' rfl rfl rfl))) (fun z => absurd z q) (fun z => absurd z q)
  · exact mo_account R M I.ok S _ _ (fun z => absurd q1 z) (fun _ _ w' ct' R' M' F' => same_K (hK _ (LI_end R' C M' S F0 I o F' rfl rfl rfl))) (fun _ z => absurd q2 (by omega))
  · obtain ⟨e0, e10, e23, o2⟩ := fr_e C M o F2
    have M2 := fr_m M F2
    rw [← e10]
    exact ⟨⟨_, (mR_at R2 M2).1⟩, mo_account R2 M2 I.ok S _ _ (fun z => absurd q1 z) (fun _ z => absurd q2 (by omega)) (fun _ _ w' ct' G' R' M' S' f' F' => same_K (hK _ (LI_end R' C2 M' S' (mF0_of F0 f' (fun j hj h0 => ⟨hj, h0⟩)) (Inv_na I _ _ q2) o2 F' e0 e10 e23)))⟩
theorem nI_d {a b : Nat} {p : Int64} (ha : a ≤ 30000) (hb : b ≤ 30000) (h : p = (nI a).toInt64) (g : p = (nI b).toInt64) : a = b := by
  have e := congrArg Int64.toInt (h.symm.trans g)
  rw [dT ha, dT hb] at e
  omega
theorem day_in {d : Nat} (h : d ≤ 20000) : 0 ≤ (nI d).toInt64 ∧ (nI d).toInt64 ≤ 20000 := by
  rw [Int64.le_iff_toInt_le, Int64.le_iff_toInt_le, dT (by omega)]
  have e0 : (0 : Int64).toInt = 0 := rfl
  have e1 : (20000 : Int64).toInt = 20000 := rfl
  omega
theorem cs_141 (h : LI E w a1 a2 a3) (hK : ∀ w', LI E w' a1 a2 a3 → K w') (v1 : vp_in (i + 1) L) (v2 : vp_in (i + 2) L) : wc_141 E L xs K w a1 a2 a3 i := by
  obtain ⟨x, ad, ct, G, th, f, R, C, M, S, F0, I, o, rfl, rfl, rfl⟩ := h
  refine ⟨v1, v2, ⟨_, pl_at R C⟩, ?_⟩
  generalize (((xs (i + 1).toNatClampNeg).toInt64) <<< ((32 : Int32).toInt64 &&& 63)) ||| (((xs (i + 2).toNatClampNeg).toInt64) &&& 4294967295) = p
  refine pl_batch R C I.1 p (fun q => ⟨v1, v2, ⟨_, (mR_at R M).1⟩, ?_⟩) (fun q1 q2 => ⟨v1, v2, ⟨_, (mR_at R M).1⟩, ?_⟩) (fun q1 q2 q3 => ⟨v1, v2, ⟨_, (mR_at R M).1⟩, ?_⟩) (fun d q0 q1 q2 q3 w2 ad2 ct2 R2 C2 F2 => ⟨v1, v2, ?_⟩)
  · exact mo_batch R M I.ok S p (fun _ w' ct' R' M' F' => same_K (hK _ (LI_end R' C M' S F0 I o F' rfl rfl rfl))) (fun z => absurd z q) (fun z => absurd z q) (fun d y0 y1 => absurd (by rw [y1]; exact day_in y0) q)
  · exact mo_batch R M I.ok S p (fun z => absurd q1 z) (fun _ _ w' ct' R' M' F' => same_K (hK _ (LI_end R' C M' S F0 I o F' rfl rfl rfl))) (fun _ z => absurd q2 z) (fun d _ _ z => absurd q2 z)
  · exact mo_batch R M I.ok S p (fun z => absurd q1 z) (fun _ z => absurd z q2) (fun _ _ _ w' ct' R' M' F' => same_K (hK _ (LI_end R' C M' S F0 I o F' rfl rfl rfl))) (fun d _ _ _ z => absurd q3 (by omega))
  · obtain ⟨e0, e10, e23, o2⟩ := fr_e C M o F2
    have M2 := fr_m M F2
    rw [← e10]
    refine ⟨⟨_, (mR_at R2 M2).1⟩, mo_batch R2 M2 I.ok S p (fun z => absurd (by rw [q1]; exact day_in q0) z) (fun _ z => absurd z q2) (fun _ _ z => absurd q3 (by omega)) (fun d' y0 y1 _ _ w' ct' G' R' M' S' f' F' => ?_)⟩
    obtain rfl := nI_d (by omega) (by omega) q1 y1
    exact same_K (hK _ (LI_end R' C2 M' S' (mF0_nb F0 S f' d) (Inv_nb I (by omega) q3) o2 F' e0 e10 e23))
theorem cs_198 (hE : xEok E) (h : LI E w a1 a2 a3) (hK : ∀ w', LI E w' a1 a2 a3 → K w') (v1 : vp_in (i + 1) L) (v2 : vp_in (i + 2) L) (v3 : vp_in (i + 3) L) (v4 : vp_in (i + 4) L) : wc_198 E L xs K w a1 a2 a3 i := by
  obtain ⟨x, ad, ct, G, th, f, R, C, M, S, F0, I, o, rfl, rfl, rfl⟩ := h
  refine ⟨v1, v2, v3, v4, ⟨_, pl_at R C⟩, ?_⟩
  generalize (((xs (i + 3).toNatClampNeg).toInt64) <<< ((32 : Int32).toInt64 &&& 63)) ||| (((xs (i + 4).toNatClampNeg).toInt64) &&& 4294967295) = v
  refine pl_row hE R C I.1 _ _ v (fun q => ⟨v1, v2, v3, v4, ⟨_, (mR_at R M).1⟩, ?_⟩) (fun j a ej ea q w2 ad2 ct2 R2 C2 F2 => ⟨v1, v2, v3, v4, ?_⟩)
  · exact mo_row R M I.ok S _ _ v (fun _ w' ct' R' M' F' => same_K (hK _ (LI_end R' C M' S F0 I o F' rfl rfl rfl))) (fun j a ej ea z => absurd z (q j a ej ea))
  · obtain ⟨e0, e10, e23, o2⟩ := fr_e C M o F2
    have M2 := fr_m M F2
    have hA := I.1.1
    have hB := I.1.2.1
    rw [← e10]
    refine ⟨⟨_, (mR_at R2 M2).1⟩, mo_row R2 M2 I.ok S _ _ v (fun z => absurd q (z j a ej ea)) (fun j' a' ej' ea' _ w' ct' G' R' M' S' f' F' => ?_)⟩
    obtain rfl := Option.some.inj (ej.symm.trans ej')
    obtain rfl := Option.some.inj (ea.symm.trans ea')
    exact same_K (hK _ (LI_end R' C2 M' S' (mF0_of F0 f' (fun j hj h0 => ⟨hj, h0⟩)) (Inv_ro I (num_some (by omega) ej).1 q.1 q.2.1 (num_some (by omega) ea).1) o2 F' e0 e10 e23))
theorem cs_335 (hE : xEok E) (h : LI E w a1 a2 a3) (hK : ∀ w', LI E w' a1 a2 a3 → K w') (v1 : vp_in (i + 1) L) (v2 : vp_in (i + 2) L) (v3 : vp_in (i + 3) L) : wc_335 E L xs K w a1 a2 a3 i := by
  obtain ⟨x, ad, ct, G, th, f, R, C, M, S, F0, I, o, rfl, rfl, rfl⟩ := h
  refine ⟨v1, v2, v3, ⟨_, pl_at R C⟩, ?_⟩
  generalize (((xs (i + 2).toNatClampNeg).toInt64) <<< ((32 : Int32).toInt64 &&& 63)) ||| (((xs (i + 3).toNatClampNeg).toInt64) &&& 4294967295) = v
  refine pl_balance hE R C I.1 _ v (fun q => ⟨v1, v2, v3, ⟨_, (mR_at R M).1⟩, ?_⟩) (fun a ea ha => ⟨v1, v2, v3, ⟨_, (mR_at R M).1⟩, ?_⟩)
  · exact mo_balance R M I.ok S _ v (fun _ w' ct' R' M' F' => same_K (hK _ (LI_end R' C M' S F0 I o F' rfl rfl rfl))) (fun a z => by rw [q] at z; cases z)
  · refine mo_balance R M I.ok S _ v (fun z => by rw [z] at ea; cases ea) (fun a' ea' _ w' ct' R' M' F' => ?_)
    obtain rfl := Option.some.inj (ea.symm.trans ea')
    have e : sumL (balF x a v) (sB x) = sumL (mbF x a v) (sP x) := by
      rw [← (show _ = sumL (mbF x a v) (sP x) from I.2.2.1 (fun j => if v < (nI (bD x j)).toInt64 then 0 else part x j a))]
      refine sumL_congr (fun j _ => ?_)
      unfold balF
      by_cases h1 : bS x j = 1
      · rw [if_pos h1]
        by_cases h2 : v < (nI (bD x j)).toInt64
        · rw [if_pos h2, if_neg (fun z => z.2 h2)]
        · rw [if_neg h2, if_pos ⟨h1, h2⟩]
      · rw [if_neg h1, if_neg (fun z => h1 z.1)]
    rw [e]
    exact same_K (hK _ (LI_end R' C M' S F0 I o F' rfl rfl rfl))
theorem cs_405 (h : LI E w a1 a2 a3) (hK : ∀ w', LI E w' a1 a2 a3 → K w') (v1 : vp_in (i + 1) L) (v2 : vp_in (i + 2) L) : wc_405 E L xs K w a1 a2 a3 i := by
  obtain ⟨x, ad, ct, G, th, f, R, C, M, S, F0, I, o, rfl, rfl, rfl⟩ := h
  refine ⟨v1, v2, ⟨_, pl_at R C⟩, ?_⟩
  generalize (((xs (i + 1).toNatClampNeg).toInt64) <<< ((32 : Int32).toInt64 &&& 63)) ||| (((xs (i + 2).toNatClampNeg).toInt64) &&& 4294967295) = p
  refine pl_close R C p (fun q => ⟨v1, v2, ⟨_, (mR_at R M).1⟩, ?_⟩) (fun q1 q2 => ⟨v1, v2, ⟨_, (mR_at R M).1⟩, ?_⟩) (fun d q0 q1 q2 w2 ct2 R2 C2 F2 => ⟨v1, v2, ?_⟩)
  · exact mo_close R M I.ok p (fun _ w' ct' R' M' F' => same_K (hK _ (LI_end R' C M' S F0 I o F' rfl rfl rfl))) (fun z => absurd z q) (fun d y0 y1 => absurd (by rw [y1]; exact day_in y0) q)
  · exact mo_close R M I.ok p (fun z => absurd q1 z) (fun _ _ w' ct' R' M' F' => same_K (hK _ (LI_end R' C M' S F0 I o F' rfl rfl rfl))) (fun d _ _ z => absurd q2 z)
  · obtain ⟨e0, e10, e23, o2⟩ := fr_e C M o F2
    have M2 := fr_m M F2
    refine ⟨⟨_, (mR_at R2 M2).1⟩, mo_close R2 M2 I.ok p (fun z => absurd (by rw [q1]; exact day_in q0) z) (fun _ z => absurd z q2) (fun d' y0 y1 _ w' ct' R' M' F' => ?_)⟩
    obtain rfl := nI_d (by omega) (by omega) q1 y1
    exact same_K (hK _ (LI_end R' C2 M' S F0 (Inv_fo I (by omega)) o2 F' e0 e10 e23))
theorem rv_S {x : xSt} {j : Nat} (hj : j < sB x) : bS (uRv x j) (sB x) = 1 ∧ (∀ z, z < sB x → bS (uRv x j) z = bS x z) ∧ sB (uRv x j) = sB x + 1 := by
  rw [← uRv_eq hj]
  refine ⟨?_, fun z hz => ?_, ?_⟩
  · show (if sB x = sB x then 1 else _) = 1
    rw [if_pos rfl]
  · show (if z = sB x then 1 else bS (uRows (uRv0 x j) (sB x) j (bC x j)) z) = _
    rw [if_neg (by omega), (uRows_f _ _ _ _ _).2.1, (rv0_o x j (by omega)).2]
  · show sB (uRows (uRv0 x j) (sB x) j (bC x j)) = _
    unfold sB; rw [uRows_1]; rfl
theorem cs_462 (hE : xEok E) (h : LI E w a1 a2 a3) (hK : ∀ w', LI E w' a1 a2 a3 → K w') (v1 : vp_in (i + 1) L) : wc_462 E L xs K w a1 a2 a3 i := by
  obtain ⟨x, ad, ct, G, th, f, R, C, M, S, F0, I, o, rfl, rfl, rfl⟩ := h
  refine ⟨v1, ⟨_, pl_at R C⟩, ?_⟩
  generalize xs (i + 1).toNatClampNeg = r
  refine pl_reverse hE R C I.1 r (fun q => ⟨v1, ⟨_, (mR_at R M).1⟩, ?_⟩) (fun j hj q1 q2 => ⟨v1, ⟨_, (mR_at R M).1⟩, ?_⟩) (fun j hj q1 q2 q3 => ⟨v1, ⟨_, (mR_at R M).1⟩, ?_⟩) (fun j hj q1 q2 q3 w2 ad2 ct2 R2 C2 F2 => ⟨v1, ?_⟩)
  · exact mo_reverse R M I S r (fun _ w' ct' R' M' F' => same_K (hK _ (LI_end R' C M' S F0 I o F' rfl rfl rfl))) (fun j hj z => absurd z (q j hj)) (fun j hj z => absurd z (q j hj)) (fun j hj z => absurd z (q j hj))
  · exact mo_reverse R M I S r (fun z => absurd q1 (z j hj)) (fun _ _ _ _ w' ct' R' M' F' => same_K (hK _ (LI_end R' C M' S F0 I o F' rfl rfl rfl))) (fun j' hj' z1 z2 => by rw [isRow_uniq I hj' hj z1 q1, q2] at z2; cases z2) (fun j' hj' z1 z2 => by rw [isRow_uniq I hj' hj z1 q1, q2] at z2; cases z2)
  · exact mo_reverse R M I S r (fun z => absurd q1 (z j hj)) (fun j' hj' z1 z2 => by rw [isRow_uniq I hj' hj z1 q1, q2] at z2; cases z2) (fun _ _ _ _ _ w' ct' R' M' F' => same_K (hK _ (LI_end R' C M' S F0 I o F' rfl rfl rfl))) (fun _ _ _ _ z => absurd q3 (by omega))
  · obtain ⟨e0, e10, e23, o2⟩ := fr_e C M o F2
    have M2 := fr_m M F2
    rw [← e10]
    refine ⟨⟨_, (mR_at R2 M2).1⟩, mo_reverse R2 M2 I S r (fun z => absurd q1 (z j hj)) (fun j' hj' z1 z2 => by rw [isRow_uniq I hj' hj z1 q1, q2] at z2; cases z2) (fun _ _ _ _ z => absurd q3 (by omega)) (fun j' hj' z1 _ _ w' ct' G' R' M' S' f' F' => ?_)⟩
    obtain rfl := isRow_uniq I hj hj' q1 z1
    obtain ⟨s1, s2, s3⟩ := rv_S hj
    exact same_K (hK _ (LI_end R' C2 M' S' (mF0_new F0 f' s3 s1 s2) (Inv_rv I hj q1.1 q3) o2 F' e0 e10 e23))
theorem sk_S (x : xSt) (a b : Nat) (v : Int64) : bS (uStk x a b v) (sB x) = 1 ∧ (∀ z, z < sB x → bS (uStk x a b v) z = bS x z) ∧ sB (uStk x a b v) = sB x + 1 := by
  refine ⟨?_, fun z hz => ?_, rfl⟩
  · show (if sB x = sB x then 1 else _) = 1
    rw [if_pos rfl]
  · show (if z = sB x then 1 else bS (uNB x (sO x)) z) = _
    rw [if_neg (by omega)]
    unfold bS
    rw [uNB_b _ _ _ (by omega)]
theorem cs_487 (h : LI E w a1 a2 a3) (hK : ∀ w', LI E w' a1 a2 a3 → K w') (v1 : vp_in (i + 1) L) (v2 : vp_in (i + 2) L) (v3 : vp_in (i + 3) L) (v4 : vp_in (i + 4) L) : wc_487 E L xs K w a1 a2 a3 i := by
  obtain ⟨x, ad, ct, G, th, f, R, C, M, S, F0, I, o, rfl, rfl, rfl⟩ := h
  refine ⟨v1, v2, v3, v4, ⟨_, pl_at R C⟩, ?_⟩
  generalize (((xs (i + 3).toNatClampNeg).toInt64) <<< ((32 : Int32).toInt64 &&& 63)) ||| (((xs (i + 4).toNatClampNeg).toInt64) &&& 4294967295) = v
  generalize xs (i + 1).toNatClampNeg = p
  generalize xs (i + 2).toNatClampNeg = k
  refine pl_stock R C I.1 p k v (fun q => ⟨v1, v2, v3, v4, ⟨_, (mR_at R M).1⟩, ?_⟩) (fun q1 q2 => ⟨v1, v2, v3, v4, ⟨_, (mR_at R M).1⟩, ?_⟩) (fun q1 q2 q3 => ⟨v1, v2, v3, v4, ⟨_, (mR_at R M).1⟩, ?_⟩) (fun q1 q2 a b ha hb q3 q4 => ⟨v1, v2, v3, v4, ⟨_, (mR_at R M).1⟩, ?_⟩) (fun q1 q2 a b ha hb q3 q4 w2 ad2 ct2 R2 C2 F2 => ⟨v1, v2, v3, v4, ?_⟩)
  · exact mo_stock R M I S p k v (fun _ w' ct' R' M' F' => same_K (hK _ (LI_end R' C M' S F0 I o F' rfl rfl rfl))) (fun z => absurd z q) (fun z => absurd z q) (fun z => absurd z q) (fun z => absurd z q)
  · exact mo_stock R M I S p k v (fun z => absurd q1 z) (fun _ _ w' ct' R' M' F' => same_K (hK _ (LI_end R' C M' S F0 I o F' rfl rfl rfl))) (fun _ z => absurd q2 z) (fun _ z => absurd q2 z) (fun _ z => absurd q2 z)
  · have no : ∀ a b, isFst x p k (some a) → isFst x p 5 (some b) → (-1000000000 ≤ stk x p k v ∧ stk x p k v ≤ 1000000000) → False := by
      intro a b h1 h2 h3
      rcases q3 with z | z | z
      · cases isFst_uniq h1 z
      · cases isFst_uniq h2 z
      · exact z h3
    exact mo_stock R M I S p k v (fun z => absurd q1 z) (fun _ z => absurd z q2) (fun _ _ _ w' ct' R' M' F' => same_K (hK _ (LI_end R' C M' S F0 I o F' rfl rfl rfl))) (fun _ _ a b h1 h2 h3 => absurd h3 (fun z => no a b h1 h2 z)) (fun _ _ a b h1 h2 h3 => absurd h3 (fun z => no a b h1 h2 z))
  · have no : ¬ (isFst x p k none ∨ isFst x p 5 none ∨ ¬ (-1000000000 ≤ stk x p k v ∧ stk x p k v ≤ 1000000000)) := by
      rintro (z | z | z)
      · cases isFst_uniq ha z
      · cases isFst_uniq hb z
      · exact z q3
    exact mo_stock R M I S p k v (fun z => absurd q1 z) (fun _ z => absurd z q2) (fun _ _ z => absurd z no) (fun _ _ _ _ _ _ _ _ w' ct' R' M' F' => same_K (hK _ (LI_end R' C M' S F0 I o F' rfl rfl rfl))) (fun _ _ _ _ _ _ _ z => absurd q4 (by omega))
  · have no : ¬ (isFst x p k none ∨ isFst x p 5 none ∨ ¬ (-1000000000 ≤ stk x p k v ∧ stk x p k v ≤ 1000000000)) := by
      rintro (z | z | z)
      · cases isFst_uniq ha z
      · cases isFst_uniq hb z
      · exact z q3
    obtain ⟨e0, e10, e23, o2⟩ := fr_e C M o F2
    have M2 := fr_m M F2
    rw [← e10]
    refine ⟨⟨_, (mR_at R2 M2).1⟩, mo_stock R2 M2 I S p k v (fun z => absurd q1 z) (fun _ z => absurd z q2) (fun _ _ z => absurd z no) (fun _ _ _ _ _ _ _ z => absurd q4 (by omega)) (fun _ _ a' b' ha' hb' _ _ w' ct' G' R' M' S' f' F' => ?_)⟩
    obtain rfl := Option.some.inj (isFst_uniq ha ha')
    obtain rfl := Option.some.inj (isFst_uniq hb hb')
    obtain ⟨s1, s2, s3⟩ := sk_S x a b (stk x p k v)
    exact same_K (hK _ (LI_end R' C2 M' S' (mF0_new F0 f' s3 s1 s2) (Inv_stk I q4 (isFst_lt ha) (isFst_lt hb) _) o2 F' e0 e10 e23))
theorem cs_568 (h : LI E w a1 a2 a3) (hK : ∀ w', LI E w' a1 a2 a3 → K w') (v1 : vp_in (i + 1) L) (v2 : vp_in (i + 2) L) (v3 : vp_in (i + 3) L) : wc_568 E L xs K w a1 a2 a3 i := by
  obtain ⟨x, ad, ct, G, th, f, R, C, M, S, F0, I, o, rfl, rfl, rfl⟩ := h
  refine ⟨v1, v2, v3, ⟨_, pl_at R C⟩, ?_⟩
  generalize (((xs (i + 2).toNatClampNeg).toInt64) <<< ((32 : Int32).toInt64 &&& 63)) ||| (((xs (i + 3).toNatClampNeg).toInt64) &&& 4294967295) = v
  generalize xs (i + 1).toNatClampNeg = p
  refine pl_limit R C I.1 p v (fun q => ⟨v1, v2, v3, ⟨_, (mR_at R M).1⟩, ?_⟩) (fun a q1 q2 => ⟨v1, v2, v3, ⟨_, (mR_at R M).1⟩, ?_⟩) (fun a q1 ha q2 w2 ct2 R2 C2 F2 => ⟨v1, v2, v3, ?_⟩)
  · exact mo_limit R M I.ok S p v (fun _ w' ct' R' M' F' => same_K (hK _ (LI_end R' C M' S F0 I o F' rfl rfl rfl))) (fun a z => by rw [q] at z; cases z) (fun a z => by rw [q] at z; cases z)
  · exact mo_limit R M I.ok S p v (fun z => by rw [q1] at z; cases z) (fun _ _ _ w' ct' R' M' F' => same_K (hK _ (LI_end R' C M' S F0 I o F' rfl rfl rfl))) (fun _ _ _ z => absurd z q2)
  · obtain ⟨e0, e10, e23, o2⟩ := fr_e C M o F2
    have M2 := fr_m M F2
    refine ⟨⟨_, (mR_at R2 M2).1⟩, mo_limit R2 M2 I.ok S p v (fun z => by rw [q1] at z; cases z) (fun _ _ z => absurd q2 z) (fun a' z _ _ w' ct' G' R' M' S' f' F' => ?_)⟩
    obtain rfl := Option.some.inj (q1.symm.trans z)
    have hl : 0 ≤ (v.toInt32).toInt := by
      obtain ⟨n, hn, -, e⟩ := small_of q2
      rw [e, nI_toInt (by omega)]; omega
    exact same_K (hK _ (LI_end R' C2 M' S' (mF0_of F0 f' (fun j hj h0 => ⟨hj, h0⟩)) (Inv_lim I hl) o2 F' e0 e10 e23))
theorem LI_pl (h : LI E w a1 a2 a3) : ∃ fs, w a1 = some (.inr (4, fs)) := by
  obtain ⟨x, ad, ct, G, th, f, R, C, M, S, F0, I, o, rfl, rfl, rfl⟩ := h
  exact ⟨_, pl_at R C⟩
theorem cs_f {post : Int32 → xw_T → Prop} (hE : xEok E) (h : LI E w a1 a2 a3) (hK : ∀ w', LI E w' a1 a2 a3 → K w') (p : Int32) (on : Bool) (hp : ∀ r w2, ((∃ fs, w2 a2 = some (.inr (5, fs))) ∧ wp_MO_fails E (fun r3 w4 => (r = r3 → (K w4)) ∧ (¬ r = r3 → (False))) w2 a2 p (b2i on)) → post r w2) : wp_PL_fails E post w a1 p (b2i on) := by
  obtain ⟨x, ad, ct, G, th, f, R, C, M, S, F0, I, o, rfl, rfl, rfl⟩ := h
  refine pl_fails hE R C I.1 p on (fun q => hp _ _ ⟨⟨_, (mR_at R M).1⟩, ?_⟩) (fun j ej hj q w2 ct2 R2 C2 F2 => hp _ _ ?_)
  · exact mo_fails R M I.ok S p on (fun _ w' ct' G' R' M' S' f' F' => same_K (hK _ (LI_end R' C M' S' (mF0_of F0 f' (fun j hj h0 => ⟨hj, h0⟩)) I o F' rfl rfl rfl))) (fun j ej _ z => absurd z (q j ej))
  · obtain ⟨e0, e10, e23, o2⟩ := fr_e C M o F2
    have M2 := fr_m M F2
    refine ⟨⟨_, (mR_at R2 M2).1⟩, mo_fails R2 M2 I.ok S p on (fun z => absurd q (z j ej)) (fun j' ej' _ _ w' ct' G' R' M' S' f' F' => ?_)⟩
    obtain rfl := Option.some.inj (ej.symm.trans ej')
    exact same_K (hK _ (LI_end R' C2 M' S' (mF0_of F0 f' (fun j hj h0 => ⟨hj, h0⟩)) (Inv_fail I _ _) o2 F' e0 e10 e23))
theorem cs_637 (hE : xEok E) (h : LI E w a1 a2 a3) (hK : ∀ w', LI E w' a1 a2 a3 → K w') (v1 : vp_in (i + 1) L) (v2 : vp_in (i + 2) L) : wc_637 E L xs K w a1 a2 a3 i :=
  ⟨v1, v2, fun q => ⟨LI_pl h, cs_f (on := false) hE h hK _ (fun r w2 z => ⟨v1, v2, fun _ => z, fun y => absurd q y⟩)⟩, fun q => ⟨LI_pl h, cs_f (on := true) hE h hK _ (fun r w2 z => ⟨v1, v2, fun y => absurd y q, fun _ => z⟩)⟩⟩
theorem cs_690 (hE : xEok E) (h : LI E w a1 a2 a3) (hK : ∀ w', LI E w' a1 a2 a3 → K w') (v1 : vp_in (i + 1) L) : wc_690 E L xs K w a1 a2 a3 i := by
  obtain ⟨x, ad, ct, G, th, f, R, C, M, S, F0, I, o, rfl, rfl, rfl⟩ := h
  refine ⟨v1, ⟨_, pl_at R C⟩, pl_hold hE R C I.1 _ (fun q => ⟨v1, ⟨_, (mR_at R M).1⟩, ?_⟩) (fun a ea ha => ⟨v1, ⟨_, (mR_at R M).1⟩, ?_⟩)⟩
  · exact mo_hold R M I.ok S _ (fun _ w' ct' R' M' F' => same_K (hK _ (LI_end R' C M' S F0 I o F' rfl rfl rfl))) (fun a z => by rw [q] at z; cases z)
  · refine mo_hold R M I.ok S _ (fun z => by rw [z] at ea; cases ea) (fun a' ea' _ w' ct' R' M' F' => ?_)
    obtain rfl := Option.some.inj (ea.symm.trans ea')
    exact same_K (hK _ (LI_end R' C M' S F0 I o F' rfl rfl rfl))
theorem cs_716 (h : LI E w a1 a2 a3) (hK : ∀ w', LI E w' a1 a2 a3 → K w') : wc_716 E L xs K w a1 a2 a3 i := by
  obtain ⟨x, ad, ct, G, th, f, R, C, M, S, F0, I, o, rfl, rfl, rfl⟩ := h
  refine ⟨⟨_, pl_at R C⟩, pl_rows R C ⟨⟨_, (mR_at R M).1⟩, mo_rows R M I.ok S (fun w' ct' R' M' F' => ?_)⟩⟩
  rw [I.2.2.2.2.2.2.1]
  exact same_K (hK _ (LI_end R' C M' S F0 I o F' rfl rfl rfl))
theorem cs_729 (h : LI E w a1 a2 a3) (hK : ∀ w', LI E w' a1 a2 a3 → K w') : wc_729 E L xs K w a1 a2 a3 i := by
  obtain ⟨x, ad, ct, G, th, f, R, C, M, S, F0, I, o, rfl, rfl, rfl⟩ := h
  refine ⟨⟨_, pl_at R C⟩, pl_all R C I.1 ⟨⟨_, (mR_at R M).1⟩, mo_all R M I.ok S (fun w' ct' R' M' F' => ?_)⟩⟩
  rw [sumL_congr I.2.2.2.2.1]
  exact same_K (hK _ (LI_end R' C M' S F0 I o F' rfl rfl rfl))
theorem st_0 {x : xSt} {j : Nat} {s : Nat} (hs : s ≠ 0) {z : Nat} (h : bS (uSt x j s) z = 0) : bS x z = 0 := by
  have h : (if z = j then s else bS x z) = 0 := h
  by_cases e : z = j
  · rw [if_pos e] at h; exact absurd h hs
  · rw [if_neg e] at h; exact h
theorem po_0 {x : xSt} {j z : Nat} (h : bS (uPost x j) z = 0) : bS x z = 0 := by
  have h : (if z = j then 1 else bS x z) = 0 := h
  by_cases e : z = j
  · rw [if_pos e] at h; cases h
  · rw [if_neg e] at h; exact h
theorem cs_279 (hE : xEok E) (h : LI E w a1 a2 a3) (hK : ∀ w', LI E w' a1 a2 a3 → K w') (v1 : vp_in (i + 1) L) : wc_279 E L xs K w a1 a2 a3 i := by
  obtain ⟨x, ad, ct, G, th, f, R, C, M, S, F0, I, o, rfl, rfl, rfl⟩ := h
  refine ⟨v1, _, rfl, ⟨_, pl_at R C⟩, ?_⟩
  generalize xs (i + 1).toNatClampNeg = p
  by_cases h5 : ∃ j, num p (sB x) = some j ∧ mayP x j ∧ o5 x j
  · obtain ⟨j, ej, hm, h5⟩ := h5
    refine Or.inr (pl_post hE R C I.1 p (fun z => by rw [z] at ej; cases ej) (fun j' ej' _ z => ?_) (fun j' ej' hj _ _ w2 ct2 R2 C2 F2 => ?_) (fun j' ej' _ _ z => ?_) (fun j' ej' _ _ z => ?_))
    · obtain rfl := Option.some.inj (ej.symm.trans ej')
      exact z hm
    · obtain rfl := Option.some.inj (ej.symm.trans ej')
      obtain ⟨e0, e10, e23, o2⟩ := fr_e C M o F2
      have M2 := fr_m M F2
      refine ⟨v1, ⟨_, (mR_at R2 M2).1⟩, mo_post R2 M2 I S F0 p (fun z => by rw [z] at ej; cases ej) (fun j' ej' _ z => ?_) (fun j' ej' _ _ _ w' ct' G' R' M' S' f' F' => ?_) (fun j' ej' _ _ z => ?_) (fun j' ej' _ _ z => ?_)⟩
      · obtain rfl := Option.some.inj (ej.symm.trans ej')
        exact absurd hm z
      · obtain rfl := Option.some.inj (ej.symm.trans ej')
        exact ⟨⟨_, (mR_at R' M').1⟩, _, gi_of (mR_at R' M').1 rfl, fun _ => ⟨fun _ => hK _ (LI_end R' C2 M' S' (mF0_of F0 f' (fun z hz h0 => ⟨hz, st_0 (by decide) h0⟩)) (Inv_void I hj hm.1) o2 F' e0 e10 e23), fun z => absurd z (by decide)⟩, fun z => absurd rfl z⟩
      · obtain rfl := Option.some.inj (ej.symm.trans ej')
        exact (o_54 h5 z).elim
      · obtain rfl := Option.some.inj (ej.symm.trans ej')
        exact (o_53 h5 z).elim
    · obtain rfl := Option.some.inj (ej.symm.trans ej')
      exact (o_54 h5 z).elim
    · obtain rfl := Option.some.inj (ej.symm.trans ej')
      exact (o_53 h5 z).elim
  · have fin : ∀ (r : Int32) (w1 : xw_T) (ct1 : xR → Option va_E) (x' : xSt) (P : xw_T → Prop), xRp w1 ad ct1 → cC E ad ct1 x' → mR E ad ct1 (hd x th) G → ct1 (23, 0, 0) = some (xcL (E.1 2) 1 f) → (∀ w3 ct3 f3, xRp w3 ad ct3 → cC E ad ct3 x' → mR E ad ct3 (hd x th) G → ct3 (23, 0, 0) = some (xcL (E.1 2) 1 f3) → f3 (0 : Int32).toNatClampNeg = r.toInt64 → P w3) →
        ∃ ao : Nat, some (ad (23, 0, 0)) = some ao ∧ ∃ n f, xaL w1 ao (E.1 2) = some (n, f) ∧ vp_in (0 : Int32) n ∧ ∀ w2, w2 = va_up w1 ao (some (xcL (E.1 2) n (vp_updL f (0 : Int32).toNatClampNeg r.toInt64))) → P w2 := by
      intro r w1 ct1 x' P R1 C1 M1 o1 hP
      refine ⟨_, rfl, _, _, xaL_of (R1.at o1), vp_in_nI (n := 0) (by decide) (by decide), fun w2 e2 => ?_⟩
      obtain ⟨ct3, R3, C3, M3, o3⟩ := out_set R1 C1 M1 o1 (vp_updL f (0 : Int32).toNatClampNeg r.toInt64)
      rw [← e2] at R3
      exact hP w2 ct3 _ R3 C3 M3 o3 pk_uLs
    have out : ∀ (r : Int32) (w3 : xw_T) (ct3 : xR → Option va_E) (f3 : Nat → Int64) (x' : xSt), cC E ad ct3 x' → ct3 (23, 0, 0) = some (xcL (E.1 2) 1 f3) → f3 (0 : Int32).toNatClampNeg = r.toInt64 → ∀ w' ct' G', xRp w' ad ct' → mR E ad ct' (hd x' 0) G' → mS x' G' → mF0 x' G' → xInv x' → Fm ct3 ct' →
        (∃ fs, w' (ad (10, 0, 0)) = some (.inr (5, fs))) ∧ wp_MO_thrown E (fun r5 w6 => (r5 = 0 → ((¬ (0 : Int32) = 0 → (K w6)) ∧ ((0 : Int32) = 0 → (∃ n7 f8, xaL w6 (ad (23, 0, 0)) (E.1 2) = some (n7, f8) ∧ vp_in (0 : Int32) n7 ∧ (((f8 (0 : Int32).toNatClampNeg) = r.toInt64 → (K w6)) ∧ (¬ (f8 (0 : Int32).toNatClampNeg) = r.toInt64 → (False))))))) ∧ (¬ r5 = 0 → (False))) w' (ad (10, 0, 0)) := by
      intro r w3 ct3 f3 x' C3 o3 e3 w' ct' G' R' M' S' F0' I' F'
      have o' := (F' (23, 0, 0) (Or.inr (by decide))).trans o3
      exact ⟨⟨_, (mR_at R' M').1⟩, _, gi_of (mR_at R' M').1 rfl, fun _ => ⟨fun z => absurd rfl z, fun _ => ⟨_, _, xaL_of (R'.at o'), vp_in_nI (n := 0) (by decide) (by decide), fun _ => hK _ (LI_end R' C3 M' S' F0' I' o3 F' rfl rfl rfl), fun z => absurd e3 z⟩⟩, fun z => absurd rfl z⟩
    refine Or.inl (pl_post hE R C I.1 p (fun q => ?_) (fun j ej hj q => ?_) (fun j ej hj hm q => absurd ⟨j, ej, hm, q⟩ h5) (fun j ej hj hm q w2 ct2 R2 C2 F2 => ?_) (fun j ej hj hm q w2 ct2 R2 C2 F2 => ?_))
    · refine fin _ w ct x _ R C M o (fun w3 ct3 f3 R3 C3 M3 o3 e3 => ⟨v1, ⟨_, (mR_at R3 M3).1⟩, ?_⟩)
      exact mo_post R3 M3 I S F0 p (fun _ w' ct' R' M' F' => out _ w3 ct3 f3 x C3 o3 e3 w' ct' G R' M' S F0 I F') (fun j z => by rw [q] at z; cases z) (fun j z => by rw [q] at z; cases z) (fun j z => by rw [q] at z; cases z) (fun j z => by rw [q] at z; cases z)
    · refine fin _ w ct x _ R C M o (fun w3 ct3 f3 R3 C3 M3 o3 e3 => ⟨v1, ⟨_, (mR_at R3 M3).1⟩, ?_⟩)
      have no : ∀ j', num p (sB x) = some j' → mayP x j' → False := fun j' ej' z => by
        obtain rfl := Option.some.inj (ej.symm.trans ej')
        exact q z
      exact mo_post R3 M3 I S F0 p (fun z => by rw [z] at ej; cases ej) (fun _ _ _ _ w' ct' R' M' F' => out _ w3 ct3 f3 x C3 o3 e3 w' ct' G R' M' S F0 I F') (fun j' z _ y => (no j' z y).elim) (fun j' z _ y => (no j' z y).elim) (fun j' z _ y => (no j' z y).elim)
    · obtain ⟨e0, e10, e23, o2⟩ := fr_e C M o F2
      have M2 := fr_m M F2
      refine fin _ w2 ct2 (uSt x j 2) _ R2 C2 M2 o2 (fun w3 ct3 f3 R3 C3 M3 o3 e3 => ⟨v1, ⟨_, (mR_at R3 M3).1⟩, ?_⟩)
      refine mo_post R3 M3 I S F0 p (fun z => by rw [z] at ej; cases ej) (fun j' ej' _ z => ?_) (fun j' ej' _ _ z => ?_) (fun j' ej' _ _ _ w' ct' G' R' M' S' f' F' => ?_) (fun j' ej' _ _ z => ?_)
      · obtain rfl := Option.some.inj (ej.symm.trans ej')
        exact absurd hm z
      · obtain rfl := Option.some.inj (ej.symm.trans ej')
        exact (o_54 z q).elim
      · obtain rfl := Option.some.inj (ej.symm.trans ej')
        exact out _ w3 ct3 f3 (uSt x j 2) C3 o3 e3 w' ct' G' R' M' S' (mF0_of F0 f' (fun z hz h0 => ⟨hz, st_0 (by decide) h0⟩)) (Inv_void I hj hm.1) F'
      · obtain rfl := Option.some.inj (ej.symm.trans ej')
        exact (o_43 q z).elim
    · obtain ⟨e0, e10, e23, o2⟩ := fr_e C M o F2
      have M2 := fr_m M F2
      refine fin _ w2 ct2 (uPost x j) _ R2 C2 M2 o2 (fun w3 ct3 f3 R3 C3 M3 o3 e3 => ⟨v1, ⟨_, (mR_at R3 M3).1⟩, ?_⟩)
      refine mo_post R3 M3 I S F0 p (fun z => by rw [z] at ej; cases ej) (fun j' ej' _ z => ?_) (fun j' ej' _ _ z => ?_) (fun j' ej' _ _ z => ?_) (fun j' ej' _ _ _ w' ct' G' R' M' S' f' F' => ?_)
      · obtain rfl := Option.some.inj (ej.symm.trans ej')
        exact absurd hm z
      · obtain rfl := Option.some.inj (ej.symm.trans ej')
        exact (o_53 z q).elim
      · obtain rfl := Option.some.inj (ej.symm.trans ej')
        exact (o_43 z q).elim
      · obtain rfl := Option.some.inj (ej.symm.trans ej')
        exact out _ w3 ct3 f3 (uPost x j) C3 o3 e3 w' ct' G' R' M' S' (mF0_of F0 f' (fun z hz h0 => ⟨hz, po_0 h0⟩)) (Inv_post I hj hm.1 q.1) F'
end CASES
