/-! THE CLASS'S WRITING METHODS -/
def uRows (x : xSt) (b j : Nat) : Nat → xSt
  | 0 => x
  | n + 1 => uRo (uRows x b j n) b (rA x j n) (-(rV x j n))
theorem day_of {p : Int64} (h : 0 ≤ p ∧ p ≤ 20000) : ∃ d : Nat, d ≤ 20000 ∧ p = (nI d).toInt64 ∧ p.toInt32 = nI d := by
  have h1 := Int64.le_iff_toInt_le.mp h.1
  have h2 := Int64.le_iff_toInt_le.mp h.2
  have e0 : (0 : Int64).toInt = 0 := rfl
  have e2 : (20000 : Int64).toInt = 20000 := rfl
  rw [e0] at h1
  rw [e2] at h2
  have ep : p = (nI p.toInt.toNat).toInt64 := by
    apply Int64.toInt_inj.mp
    rw [Int32.toInt_toInt64, nI_toInt (by omega)]
    omega
  refine ⟨p.toInt.toNat, by omega, ep, ?_⟩
  generalize p.toInt.toNat = n at ep
  rw [ep]
  exact Int32.toInt32_toInt64 _
theorem Fr.a {ad ad' : xR → Nat} {ct ct' : xR → Option va_E} (h : Fr ad ad' ct ct') {r : xR} (h2 : r.1 ≠ 2) (h4 : r.1 ≠ 4) (h8 : r.1 ≠ 8) (hr : ct r ≠ none) : ad' r = ad r := (h.2 r h2 h4 h8 hr).1
section PLM
variable {E : xE_T} {w : xw_T} {ad : xR → Nat} {ct : xR → Option va_E} {x : xSt} {m : Nat}
theorem pl_atX (hR : xRp w ad ct) (hC : cX E ad ct x m) : w (ad (0, 0, 0)) = some (.inr (4, plF ad x)) := hR.at hC.1.1
theorem ac_atX (hR : xRp w ad ct) (hC : cX E ad ct x m) {i : Nat} (hi : i < sA x) : w (ad (5, i, 0)) = some (.inr (1, acF x i)) := hR.at (hC.2.1 i hi)
theorem ba_atX (hR : xRp w ad ct) (hC : cX E ad ct x m) {j : Nat} (hj : j < sB x) : w (ad (6, j, 0)) = some (.inr (2, baF E ad x j)) := hR.at (hC.2.2.1 j hj).1
theorem rw_atX (hR : xRp w ad ct) (hC : cX E ad ct x m) {j k : Nat} (hj : j < sB x) (hk : k < bC x j) : w (ad (9, j, k)) = some (.inr (3, rwF ad x j k)) := hR.at ((hC.2.2.1 j hj).2.2.1 k hk).1
theorem fr0 {ad' : xR → Nat} {ct' : xR → Option va_E} (hC : cX E ad ct x m) (F : Fr ad ad' ct ct') : ad' (0, 0, 0) = ad (0, 0, 0) := F.a (by decide) (by decide) (by decide) (by rw [hC.1.1]; exact nz)
theorem fr1 {ad' : xR → Nat} {ct' : xR → Option va_E} (hC : cX E ad ct x m) (F : Fr ad ad' ct ct') : ad' (1, 0, 0) = ad (1, 0, 0) := F.a (by decide) (by decide) (by decide) (nLs_ne hC.1.2.1)
theorem fr3 {ad' : xR → Nat} {ct' : xR → Option va_E} (hC : cX E ad ct x m) (F : Fr ad ad' ct ct') : ad' (3, 0, 0) = ad (3, 0, 0) := F.a (by decide) (by decide) (by decide) (nLs_ne hC.1.2.2)
theorem fr5 {ad' : xR → Nat} {ct' : xR → Option va_E} (hC : cX E ad ct x m) (F : Fr ad ad' ct ct') {i : Nat} (hi : i < sA x) : ad' (5, i, 0) = ad (5, i, 0) := F.a (by decide : (5 : Nat) ≠ 2) (by decide : (5 : Nat) ≠ 4) (by decide : (5 : Nat) ≠ 8) (by rw [hC.2.1 i hi]; exact nz)
theorem fr6 {ad' : xR → Nat} {ct' : xR → Option va_E} (hC : cX E ad ct x m) (F : Fr ad ad' ct ct') {i : Nat} (hi : i < sB x) : ad' (6, i, 0) = ad (6, i, 0) := F.a (by decide : (6 : Nat) ≠ 2) (by decide : (6 : Nat) ≠ 4) (by decide : (6 : Nat) ≠ 8) (by rw [(hC.2.2.1 i hi).1]; exact nz)
def okA (o k : Int32) : Prop := (0 ≤ o ∧ o < 10) ∧ (0 ≤ k ∧ k < 6)
theorem pl_account {post : Int32 → xw_T → Prop} (hR : xRp w ad ct) (hC : cC E ad ct x) (hO : sOk x) (o k : Int32) (h2 : ¬ okA o k → post (-2000000002) w) (h4 : okA o k → sA x = 60 → post (-2000000004) w)
    (h1 : okA o k → sA x < 60 → ∀ w' ad' ct', xRp w' ad' ct' → cC E ad' ct' (uNA x o k) → Fr ad ad' ct ct' → post (nI (sA x + 1)) w') : wp_PL_account E post w (ad (0, 0, 0)) o k := by
  have hP := pl_at hR hC
  have hL := hC.1.2.1
  have hn := hO.1
  refine pl_isOffice o ⟨fun q => h2 (fun z => of_decide_eq_false ((b2i_0 _).mp q) z.1), fun q => ⟨fun q2 => h2 (fun z => Int32.not_lt.mpr z.2.1 q2), fun q2 => ⟨fun q3 => ?_, fun q3 => h2 (fun z => q3 z.2.2)⟩⟩⟩
  have hok : okA o k := ⟨of_decide_eq_true ((b2i_ne _).mp q), Int32.not_lt.mp q2, q3⟩
  refine ⟨_, gr_of hP rfl, _, rfl, nl_recv hR hL, nl_size hR hL ⟨fun q4 => ⟨_, gr_of hP rfl, fun q8 hq w9 e9 => ?_⟩, fun q4 => h4 hok ?_⟩⟩
  · have hlt : sA x < 60 := Nat.not_le.mp (fun z => absurd q4 (show ¬ nI (sA x) < nI 60 from nI_nlt z (by omega)))
    have h9 : w9 q8 = some (.inr (1, [.int 0, .int 0, .int 0, .long 0])) := by rw [e9, va_up_self]
    refine ⟨⟨_, by rw [xg_of h9]; rfl⟩, fun w10 e10 => ?_⟩
    rw [xp_of h9, e9, va_up2] at e10
    have h10 : w10 q8 = some (.inr (1, [.int o, .int 0, .int 0, .long 0])) := by rw [e10, va_up_self]; rfl
    refine ⟨⟨_, by rw [xg_of h10]; rfl⟩, fun w11 e11 => ?_⟩
    rw [xp_of h10, e10, va_up2] at e11
    have e11 : w11 = va_up w q8 (some (.inr (1, [.int o, .int k, .int 0, .long 0]))) := e11
    refine ⟨_, rfl, ?_, ?_⟩
    · obtain ⟨fs, hfs⟩ := nl_recv hR hL
      refine ⟨fs, ?_⟩
      rw [e11, va_up_ne _ _ (fun z => by rw [z, hq.1] at hfs; cases hfs)]; exact hfs
    · rw [e11]
      refine pl_newAc hR (cX_iff.mp hC) hlt hq.1 o k (fun w' ad' ct' R' C' F' => ?_)
      have e0 := fr0 (cX_iff.mp hC) F'
      rw [← e0]
      exact ⟨_, gr_of (pl_atX R' C') rfl, _, rfl, nl_recv R' C'.1.2.1, nl_size R' C'.1.2.1 (h1 hok hlt w' ad' ct' R' C' F')⟩
  · have : ¬ sA x < 60 := fun z => q4 (show nI (sA x) < nI 60 from nI_lt z (by omega))
    omega
theorem pl_batch {post : Int32 → xw_T → Prop} (hR : xRp w ad ct) (hC : cC E ad ct x) (hO : sOk x) (p : Int64) (h2 : ¬ (0 ≤ p ∧ p ≤ 20000) → post (-2000000002) w) (h3 : 0 ≤ p ∧ p ≤ 20000 → p < (nI (sO x)).toInt64 → post (-2000000003) w) (h4 : 0 ≤ p ∧ p ≤ 20000 → ¬ p < (nI (sO x)).toInt64 → sB x = 300 → post (-2000000004) w)
    (h1 : ∀ d, d ≤ 20000 → p = (nI d).toInt64 → ¬ p < (nI (sO x)).toInt64 → sB x < 300 → ∀ w' ad' ct', xRp w' ad' ct' → cC E ad' ct' (uNB x d) → Fr ad ad' ct ct' → post (nI (sB x + 1)) w') : wp_PL_batch E post w (ad (0, 0, 0)) p := by
  have hP := pl_at hR hC
  have hL := hC.1.2.2
  have hn := hO.2.1
  refine pl_isDay p ⟨fun q => ⟨⟨_, hP⟩, ?_⟩, fun q => h2 (of_decide_eq_false ((b2i_0 _).mp q))⟩
  have hd := of_decide_eq_true ((b2i_ne _).mp q)
  refine pl_isClosed hR hC p ⟨fun q2 => ⟨⟨_, hP⟩, ?_⟩, fun q2 => h3 hd (of_decide_eq_true ((b2i_ne _).mp q2))⟩
  have hcl := of_decide_eq_false ((b2i_0 _).mp q2)
  refine pl_hasRoom hR hC hO ⟨fun q3 => ⟨_, gr_of hP rfl, fun q8 hq w9 e9 => ?_⟩, fun q3 => h4 hd hcl (by have := of_decide_eq_false ((b2i_0 _).mp q3); omega)⟩
  have hlt := of_decide_eq_true ((b2i_ne _).mp q3)
  obtain ⟨d, hd1, hd2, hd3⟩ := day_of hd
  rw [hd3, e9]
  refine ba_init hR (cX_iff.mp hC) (Nat.le_refl _) hq.1 d (fun w' ad' ct' R' C' F' a6 => ?_)
  have e3 := fr3 (cX_iff.mp hC) F'
  rw [← e3, ← a6]
  refine ⟨_, rfl, nl_recv R' C'.1.2.2, pl_listBa R' C' (Nat.lt_succ_self _) hlt (fun w2 ad2 ct2 R2 C2 F2 => ?_)⟩
  have e0 := fr0 (cX_iff.mp hC) (F'.trans F2)
  rw [← e0]
  exact ⟨_, gr_of (pl_atX R2 C2) rfl, _, rfl, nl_recv R2 C2.1.2.2, nl_size R2 C2.1.2.2 (h1 d hd1 hd2 hcl hlt w2 ad2 ct2 R2 C2 (F'.trans F2))⟩
theorem num_map {p : Int32} {n : Nat} {f : Nat → Nat} : ((num p n).map f = none) ↔ num p n = none := Option.map_eq_none_iff
def okR (x : xSt) (j : Nat) (v : Int64) : Prop := bS x j = 0 ∧ bC x j < 12 ∧ v ≠ 0 ∧ (-100000000 ≤ v ∧ v ≤ 100000000)
theorem pl_row {post : Int32 → xw_T → Prop} (hK : xEok E) (hR : xRp w ad ct) (hC : cC E ad ct x) (hO : sOk x) (p0 p1 : Int32) (v : Int64) (h0 : (∀ j a, num p0 (sB x) = some j → num p1 (sA x) = some a → ¬ okR x j v) → post 0 w)
    (h1 : ∀ j a, num p0 (sB x) = some j → num p1 (sA x) = some a → okR x j v → ∀ w' ad' ct', xRp w' ad' ct' → cC E ad' ct' (uRo x j a v) → Fr ad ad' ct ct' → post 1 w') : wp_PL_row E post w (ad (0, 0, 0)) p0 p1 v := by
  have hP := pl_at hR hC
  have hnA := hO.1
  have hnB := hO.2.1
  refine ⟨⟨_, hP⟩, pl_findBatch hR hC hO p0 ⟨⟨_, hP⟩, pl_findAccount hR hC hO p1 ⟨fun q => h0 (fun j a e1 _ _ => by rw [num_map.mp q] at e1; cases e1), fun q => ⟨fun q2 => h0 (fun j a _ e2 _ => by rw [num_map.mp q2] at e2; cases e2), fun q2 => ?_⟩⟩⟩⟩
  obtain ⟨j, ej⟩ := Option.ne_none_iff_exists'.mp (fun z => q (num_map.mpr z))
  obtain ⟨a, ea⟩ := Option.ne_none_iff_exists'.mp (fun z => q2 (num_map.mpr z))
  have hj := (num_some (by omega) ej).1
  have ha := (num_some (by omega) ea).1
  have hc := (hO.2.2.2.2.2 j hj).1
  have hB := ba_at hR hC hj
  rw [ej, ea]
  have no : ¬ okR x j v → post 0 w := fun z => h0 (fun j' a' e1 _ => by rw [ej] at e1; cases e1; exact z)
  refine ⟨_, rfl, ⟨_, hB⟩, ba_isOpen hK hR hC hO hj ⟨fun q3 => no (fun z => of_decide_eq_false ((b2i_0 _).mp q3) z.1), fun q3 => ⟨⟨_, hB⟩, ba_isFull hR hC hO hj ⟨fun q4 => ⟨fun q5 => no (fun z => z.2.2.1 q5), fun q5 => pl_isWithin v _ _ ⟨fun q6 => ⟨⟨_, hB⟩, ?_⟩, fun q6 => no (fun z => of_decide_eq_false ((b2i_0 _).mp q6) z.2.2.2)⟩⟩, fun q4 => no (fun z => by have := of_decide_eq_true ((b2i_ne _).mp q4); have := z.2.1; omega)⟩⟩⟩⟩
  have h12 : bC x j < 12 := by have := of_decide_eq_false ((b2i_0 _).mp q4); omega
  exact ba_addRow hR (cX_iff.mp hC) hj ha h12 v (fun w' ad' ct' R' C' F' => h1 j a ej ea ⟨of_decide_eq_true ((b2i_ne _).mp q3), h12, q5, of_decide_eq_true ((b2i_ne _).mp q6)⟩ w' ad' ct' R' C' F')
/-- the totals -/
theorem ba_addToTotals {post : xw_T → Prop} (hR : xRp w ad ct) (hC : cX E ad ct x m) {j : Nat} (hj : j < sB x) (hc : bC x j ≤ 12)
    (h : ∀ w' ct', xRp w' ad ct' → cX E ad ct' (uTot x (fun a => aT x a + part x j a)) m → Fr ad ad ct ct' → post w') : wp_BA_addToTotals E post w (ad (6, j, 0)) := by
  have key : ∀ d i w' ct', i + d = bC x j → xRp w' ad ct' → cX E ad ct' (uTot x (fun a => aT x a + sumL (rowF x j a) i)) m → Fr ad ad ct ct' → wl_BA_addToTotals_2 E post (d + 1) w' (ad (6, j, 0)) (nI i) := by
    intro d
    induction d with
    | zero =>
      intro i w' ct' hi R' C' F'
      have hi : i = bC x j := by omega
      subst hi
      have hL : nLs E ad ct' (7, j, 0) (8, j, 0) (bC x j) (fun k => ad (9, j, k)) := (C'.2.2.1 j hj).2.1
      exact ⟨_, gr_of (ba_atX R' C' hj) rfl, _, rfl, nl_recv R' hL, nl_size R' hL ⟨fun _ => h w' ct' R' C' F', fun q => absurd (nI_le (Nat.le_refl _) (by omega)) q⟩⟩
    | succ d ih =>
      intro i w' ct' hi R' C' F'
      have hi2 : i < bC x j := by omega
      have hL : nLs E ad ct' (7, j, 0) (8, j, 0) (bC x j) (fun k => ad (9, j, k)) := (C'.2.2.1 j hj).2.1
      have hB := ba_atX R' C' hj
      have hW : w' (ad (9, j, i)) = some (.inr (3, rwF ad x j i)) := rw_atX R' C' hj hi2
      have hlt : rA x j i < sA x := ((C'.2.2.1 j hj).2.2.1 i hi2).2
      have hA : w' (ad (5, rA x j i, 0)) = some (.inr (1, acF (uTot x (fun a => aT x a + sumL (rowF x j a) i)) (rA x j i))) := ac_atX R' C' hlt
      refine ⟨_, gr_of hB rfl, _, rfl, nl_recv R' hL, nl_size R' hL ⟨fun q => absurd q (nI_ge hi2 (by omega)), fun _ => ⟨_, gr_of hB rfl, _, rfl, nl_recv R' hL, nl_get R' hL hi2 ⟨_, rfl, ⟨_, hW⟩, _, gr_of hW rfl, _, rfl, _, gl_of hA rfl, _, gl_of hW rfl, ⟨_, by rw [xg_of hA]; rfl⟩, fun w14 e14 => ?_⟩⟩⟩⟩
      rw [xp_of hA] at e14
      have e1 : ∀ z, aT x z + sumL (rowF x j z) (i + 1) = aT x z + sumL (rowF x j z) i + rowF x j z i := fun z => (Int64.add_assoc _ _ _).symm
      obtain ⟨ct2, R2, C2, F2⟩ := cX_setA R' C' hlt (uTot x (fun a => aT x a + sumL (rowF x j a) (i + 1))) rfl (fun z hz => by
        unfold acF uTot aO aK aL aT
        dsimp only
        have := e1 z
        unfold aT at this
        rw [this, rowF, if_neg (Ne.symm hz), Int64.add_zero]) rfl rfl
      have e2 : (acF (uTot x (fun a => aT x a + sumL (rowF x j a) i)) (rA x j i)).set 3 (.long (aT (uTot x (fun a => aT x a + sumL (rowF x j a) i)) (rA x j i) + rV x j i)) = acF (uTot x (fun a => aT x a + sumL (rowF x j a) (i + 1))) (rA x j i) := by
        have := e1 (rA x j i)
        show [_, _, _, Value.long (aT x (rA x j i) + sumL (rowF x j (rA x j i)) i + rV x j i)] = [_, _, _, Value.long (aT x (rA x j i) + sumL (rowF x j (rA x j i)) (i + 1))]
        rw [this, rowF, if_pos rfl]
        rfl
      rw [e2] at e14
      rw [← e14] at R2
      rw [nI_1]
      exact ih (i + 1) w14 ct2 (by omega) R2 C2 (F'.trans F2)
  refine ⟨_, key (bC x j) 0 w ct (by omega) hR (cX_same hC _ rfl rfl rfl rfl ?_ rfl rfl (fun _ _ => rfl)) (Fr.refl _ _)⟩
  funext z
  show (aO x z, aK x z, aL x z, aT x z + 0) = x.2.1 z
  rw [Int64.add_zero]; rfl
theorem pl_enter {post : xw_T → Prop} (hR : xRp w ad ct) (hC : cC E ad ct x) {j : Nat} (hj : j < sB x) (hc : bC x j ≤ 12)
    (h : ∀ w' ct', xRp w' ad ct' → cC E ad ct' (uPost x j) → Fr ad ad ct ct' → post w') : wp_PL_enterIntoBooks E post w (ad (0, 0, 0)) (some (ad (6, j, 0))) := by
  have hB := ba_atX hR (cX_iff.mp hC) hj
  refine ⟨_, rfl, ⟨_, by rw [xg_of hB]; rfl⟩, fun w2 e2 => ?_⟩
  rw [xp_of hB] at e2
  obtain ⟨ct2, R2, C2, F2⟩ := cX_setB hR (cX_iff.mp hC) hj (uSt x j 1) rfl rfl (fun z hz => by unfold uSt; dsimp only; rw [if_neg hz]; rfl) rfl rfl
  have e2 : w2 = va_up w (ad (6, j, 0)) (some (.inr (2, baF E ad (uSt x j 1) j))) := by
    rw [e2]
    show va_up w (ad (6, j, 0)) (some (.inr (2, [_, _, .ref (E.2 1), _, _, _]))) = va_up w (ad (6, j, 0)) (some (.inr (2, [_, _, .ref (E.2 (if j = j then 1 else bS x j)), _, _, _])))
    rw [if_pos rfl]; rfl
  rw [← e2] at R2
  have hP2 := pl_atX R2 C2
  have hB2 := ba_atX R2 C2 hj
  refine ⟨_, gi_of hP2 rfl, ⟨_, by rw [xg_of hB2]; rfl⟩, fun w4 e4 => ?_⟩
  rw [xp_of hB2] at e4
  obtain ⟨ct4, R4, C4, F4⟩ := cX_setB R2 C2 hj (uFst (uSt x j 1) j (sR x + 1)) rfl rfl (fun z hz => by unfold uFst; dsimp only; rw [if_neg hz]; rfl) rfl rfl
  have e4 : w4 = va_up w2 (ad (6, j, 0)) (some (.inr (2, baF E ad (uFst (uSt x j 1) j (sR x + 1)) j))) := by
    rw [e4]
    show va_up w2 (ad (6, j, 0)) (some (.inr (2, [_, _, _, _, _, .int (nI (sR x) + 1)]))) = va_up w2 (ad (6, j, 0)) (some (.inr (2, [_, _, _, _, _, .int (nI (if j = j then sR x + 1 else bN x j))])))
    rw [if_pos rfl, nI_1]; rfl
  rw [← e4] at R4
  have hP4 := pl_atX R4 C4
  have hB4 := ba_atX R4 C4 hj
  have hL4 := (C4.2.2.1 j hj).2.1
  refine ⟨_, gi_of hP4 rfl, ⟨_, hB4⟩, _, gr_of hB4 rfl, _, rfl, nl_recv R4 hL4, nl_size R4 hL4 ⟨⟨_, by rw [xg_of hP4]; rfl⟩, fun w8 e8 => ?_⟩⟩
  rw [xp_of hP4] at e8
  obtain ⟨ct8, R8, C8, F8⟩ := cX_setP R4 C4 (uSR (uFst (uSt x j 1) j (sR x + 1)) (sR x + bC x j)) rfl rfl rfl rfl rfl
  have e8 : w8 = va_up w4 (ad (0, 0, 0)) (some (.inr (4, plF ad (uSR (uFst (uSt x j 1) j (sR x + 1)) (sR x + bC x j))))) := by
    rw [e8]
    show va_up w4 (ad (0, 0, 0)) (some (.inr (4, [_, _, _, .int (nI (sR x) + nI (bC x j))]))) = va_up w4 (ad (0, 0, 0)) (some (.inr (4, [_, _, _, .int (nI (sR x + bC x j))])))
    rw [nI_add]; rfl
  rw [← e8] at R8
  refine ⟨⟨_, ba_atX R8 C8 hj⟩, ba_addToTotals R8 C8 hj hc (fun w' ct' R' C' F' => h w' ct' R' ?_ (((F2.trans F4).trans F8).trans F'))⟩
  exact cX_same C' _ rfl rfl rfl rfl rfl rfl rfl (fun _ _ => rfl)
end PLM
