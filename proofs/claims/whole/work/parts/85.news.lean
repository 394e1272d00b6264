/-! NEW OBJECTS OF THE CLASS -/
section PLN
variable {E : xE_T} {w : xw_T} {ad : xR → Nat} {ct : xR → Option va_E} {x : xSt} {m : Nat}
theorem va_up2 {a : Nat} {e f : Option va_E} : va_up (va_up w a e) a f = va_up w a f := by
  funext z
  by_cases h : z = a <;> simp [va_up, h]
theorem xOb1 {a : Nat} {fs : List Value} (h : w a = some (.inr (1, fs))) : xOb w a := ⟨fs, Or.inl h⟩
theorem xOb2 {a : Nat} {fs : List Value} (h : w a = some (.inr (2, fs))) : xOb w a := ⟨fs, Or.inr (Or.inl h)⟩
theorem xOb3 {a : Nat} {fs : List Value} (h : w a = some (.inr (3, fs))) : xOb w a := ⟨fs, Or.inr (Or.inr h)⟩
theorem nz {e : va_E} : (some e : Option va_E) ≠ none := fun q => by cases q
theorem nLs_ne {r ra : xR} {n : Nat} {f : Nat → Nat} (h : nLs E ad ct r ra n f) : ct r ≠ none := by
  obtain ⟨mc, a, q, -⟩ := h; rw [q]; exact nz
/-- a list's array has no name that is used for something else: the add keeps all the rest -/
theorem add_Fr {ad' : xR → Nat} {ct' : xR → Option va_E} {r ra : xR} (hr : r.1 < 10) (hra : ra.1 = 2 ∨ ra.1 = 4 ∨ ra.1 = 8) (hn : ct' r ≠ none) (hc : ∀ z, z ≠ r → z ≠ ra → ct' z = ct z) (ha : ∀ z, z ≠ ra → ad' z = ad z) : Fr ad ad' ct ct' := by
  refine ⟨fun z hz => hc z (fun q => by rw [q] at hz; omega) (fun q => by rw [q] at hz; omega), fun z h2 h4 h8 hz => ?_⟩
  have k : z ≠ ra := fun q => by rw [q] at h2 h4 h8; omega
  refine ⟨ha z k, ?_⟩
  by_cases q : z = r
  · rw [q]; exact hn
  · rw [hc z q k]; exact hz
theorem pl_newAc {post : Int32 → xw_T → Prop} (hR : xRp w ad ct) (hC : cX E ad ct x m) (hn : sA x < 60) {q : Nat} (hq : w q = none) (o k : Int32)
    (h : ∀ w' ad' ct', xRp w' ad' ct' → cX E ad' ct' (uNA x o k) m → Fr ad ad' ct ct' → post 1 w') : wp_AL_add E post (va_up w q (some (.inr (1, [.int o, .int k, .int 0, .long 0])))) (ad (1, 0, 0)) (some q) := by
  obtain ⟨⟨c1, c2, c3⟩, c4, c5, c6, c7⟩ := hC
  have hr := c6 (sA x) (Nat.le_refl _)
  have R1 := hR.new (r := (5, sA x, 0)) hr hq (.inr (1, [.int o, .int k, .int 0, .long 0]))
  have F1 : Fr ad (xup ad (5, sA x, 0) q) ct (xup ct (5, sA x, 0) (some (.inr (1, [.int o, .int k, .int 0, .long 0])))) := Fr_new hr (by decide : (5 : Nat) < 10)
  have e1 : xup ad (5, sA x, 0) q (1, 0, 0) = ad (1, 0, 0) := xup_ne _ _ (tg (by decide))
  rw [← e1]
  have L1 : nLs E (xup ad (5, sA x, 0) q) (xup ct (5, sA x, 0) (some (.inr (1, [.int o, .int k, .int 0, .long 0])))) (1, 0, 0) (2, 0, 0) (sA x) (fun i => ad (5, i, 0)) := nLs_congr c2 (xup_ne _ _ (tg (by decide))) (xup_ne _ _ (tg (by decide))) (xup_ne _ _ (tg (by decide))) (fun _ _ => rfl)
  refine nl_add R1 L1 (by omega) (tg (by decide)) (xOb1 (va_up_self _ _ _)) (fun i hi => ?_) (fun w' ad' ct' R2 L2 hc ha => ?_)
  · have := R1.at (r := (5, i, 0)) (by rw [xup_ne _ _ (tg2 (by omega))]; exact c4 i hi)
    rw [xup_ne _ _ (tg2 (by omega))] at this
    exact xOb1 this
  · have F2 : Fr _ ad' _ ct' := add_Fr (by decide) (Or.inl rfl) (nLs_ne L2) hc ha
    have H : ∀ (t i l : Nat), t ≠ 1 → t ≠ 2 → t ≠ 5 → ct' (t, i, l) = ct (t, i, l) := fun t i l h1 h2 h5 => by rw [hc _ (tg h1) (tg h2), xup_ne _ _ (tg h5)]
    have HA : ∀ (t i l : Nat), t ≠ 2 → t ≠ 5 → ad' (t, i, l) = ad (t, i, l) := fun t i l h2 h5 => by rw [ha _ (tg h2), xup_ne _ _ (tg h5)]
    have H5 : ∀ i, i ≠ sA x → ct' (5, i, 0) = ct (5, i, 0) ∧ ad' (5, i, 0) = ad (5, i, 0) := fun i hi => ⟨by rw [hc _ (tg (by decide)) (tg (by decide)), xup_ne _ _ (tg2 hi)], by rw [ha _ (tg (by decide)), xup_ne _ _ (tg2 hi)]⟩
    refine h w' ad' ct' R2 ⟨⟨?_, ?_, ?_⟩, fun z hz => ?_, fun j hj => ?_, fun z hz => ?_, fun j hj => ?_⟩ (F1.trans F2)
    · rw [H _ _ _ (by decide) (by decide) (by decide), c1]
      unfold plF; rw [HA 1 _ _ (by decide) (by decide), HA 3 _ _ (by decide) (by decide)]; rfl
    · refine nLs_congr L2 rfl rfl rfl (fun i hi => ?_)
      show ad' (5, i, 0) = if i = sA x then q else ad (5, i, 0)
      by_cases e : i = sA x
      · rw [if_pos e, ha _ (tg (by decide)), e, xup_self]
      · rw [if_neg e]; exact (H5 i e).2
    · exact nLs_congr c3 (H _ _ _ (by decide) (by decide) (by decide)) (H _ _ _ (by decide) (by decide) (by decide)) (HA _ _ _ (by decide) (by decide)) (fun _ _ => HA _ _ _ (by decide) (by decide))
    · by_cases e : z = sA x
      · rw [hc _ (tg (by decide)) (tg (by decide)), e, xup_self]
        unfold acF aO aK aL aT uNA
        dsimp only
        rw [if_pos rfl]
      · have hz : z < sA x + 1 := hz
        rw [(H5 z e).1, c4 z (by omega)]
        unfold acF aO aK aL aT uNA
        dsimp only
        rw [if_neg e]
    · exact cB_congr (c5 j hj) (fun t k t1 _ => H _ _ _ (by omega) (by omega) (by omega)) (fun t k t1 _ _ => HA _ _ _ (by omega) (by omega)) (HA _ _ _ (by decide) (by decide)) (fun i hi => (H5 i (by omega)).2) rfl rfl (Nat.le_succ _)
    · have hz : sA x + 1 ≤ z := hz
      rw [(H5 z (by omega)).1]; exact c6 z (by omega)
    · obtain ⟨d1, d2, d3, d4⟩ := c7 j hj
      exact ⟨by rw [H _ _ _ (by decide) (by decide) (by decide)]; exact d1, by rw [H _ _ _ (by decide) (by decide) (by decide)]; exact d2, by rw [H _ _ _ (by decide) (by decide) (by decide)]; exact d3, fun k => by rw [H _ _ _ (by decide) (by decide) (by decide)]; exact d4 k⟩
/-- the new batch: its object lies at q -/
theorem ba_init {post : xw_T → Prop} (hR : xRp w ad ct) (hC : cX E ad ct x m) (hm : m ≤ sB x) {q : Nat} (hq : w q = none) (d : Nat)
    (h : ∀ w' ad' ct', xRp w' ad' ct' → cX E ad' ct' (uNB x d) m → Fr ad ad' ct ct' → ad' (6, sB x, 0) = q → post w') : wp_BA_init E post (va_up w q (some (.inr (2, [.int 0, .null, .null, .int 0, .int 0, .int 0])))) q (nI d) := by
  obtain ⟨⟨c1, c2, c3⟩, c4, c5, c6, c7⟩ := hC
  obtain ⟨n6, n7, n8, n9⟩ := c7 (sB x) (Nat.le_refl _)
  have hB0 : (va_up w q (some (.inr (2, [.int 0, .null, .null, .int 0, .int 0, .int 0])))) q = some (.inr (2, [.int 0, .null, .null, .int 0, .int 0, .int 0])) := va_up_self _ _ _
  refine ⟨⟨_, by rw [xg_of hB0]; rfl⟩, fun w1 e1 => ?_⟩
  rw [xp_of hB0, va_up2] at e1
  have hB1 : w1 q = some (.inr (2, [.int (nI d), .null, .null, .int 0, .int 0, .int 0])) := by rw [e1, va_up_self]; rfl
  intro q2 hq2 w3 e3
  have hqq : q ≠ q2 := fun z => by rw [z, hq2.1] at hB1; cases hB1
  have hw2 : w q2 = none := by have := hq2.1; rw [e1, va_up_ne _ _ (Ne.symm hqq)] at this; exact this
  refine al_init (by rw [e3, va_up_self]) ?_
  have hB5 : (va_up w3 q2 (some (.inr (0, [.int 0, .ref (E.2 6), .int 0])))) q = some (.inr (2, [.int (nI d), .null, .null, .int 0, .int 0, .int 0])) := by rw [va_up_ne _ _ hqq, e3, va_up_ne _ _ hqq]; exact hB1
  refine ⟨⟨_, by rw [xg_of hB5]; rfl⟩, fun w6 e6 => ?_⟩
  rw [xp_of hB5] at e6
  have hB6 : w6 q = some (.inr (2, [.int (nI d), .ref q2, .null, .int 0, .int 0, .int 0])) := by rw [e6, va_up_self]; rfl
  refine ⟨⟨_, by rw [xg_of hB6]; rfl⟩, fun w7 e7 => ?_⟩
  rw [xp_of hB6] at e7
  have R1 := (hR.new (r := (6, sB x, 0)) n6 hq (.inr (2, [.int (nI d), .ref q2, .ref (E.2 0), .int 0, .int 0, .int 0])))
  have R2 := R1.new (r := (7, sB x, 0)) (q := q2) (by rw [xup_ne _ _ (tg (by decide))]; exact n7) (by rw [va_up_ne _ _ (Ne.symm hqq)]; exact hw2) (.inr (0, [.int 0, .ref (E.2 6), .int 0]))
  have ew : w7 = va_up (va_up w q (some (.inr (2, [.int (nI d), .ref q2, .ref (E.2 0), .int 0, .int 0, .int 0])))) q2 (some (.inr (0, [.int 0, .ref (E.2 6), .int 0]))) := by
    rw [e7, e6, e3, e1]
    funext z
    by_cases z1 : z = q
    · subst z1; simp [va_up, hqq]
    · by_cases z2 : z = q2 <;> simp [va_up, z1, z2, Ne.symm hqq]
  rw [← ew] at R2
  have F1 : Fr ad _ ct _ := (Fr_new (e := .inr (2, [.int (nI d), .ref q2, .ref (E.2 0), .int 0, .int 0, .int 0])) (q := q) n6 (by decide : (6 : Nat) < 10)).trans (Fr_new (r := (7, sB x, 0)) (e := .inr (0, [.int 0, .ref (E.2 6), .int 0])) (q := q2) (by rw [xup_ne _ _ (tg (by decide))]; exact n7) (by decide : (7 : Nat) < 10))
  generalize hct : xup (xup ct (6, sB x, 0) (some (.inr (2, [.int (nI d), .ref q2, .ref (E.2 0), .int 0, .int 0, .int 0])))) (7, sB x, 0) (some (.inr (0, [.int 0, .ref (E.2 6), .int 0]))) = ct2 at R2 F1
  generalize had : xup (xup ad (6, sB x, 0) q) (7, sB x, 0) q2 = ad2 at R2 F1
  have H : ∀ (t i l : Nat), t ≠ 6 → t ≠ 7 → ct2 (t, i, l) = ct (t, i, l) ∧ ad2 (t, i, l) = ad (t, i, l) := fun t i l h6 h7 => by
    rw [← hct, ← had, xup_ne _ _ (tg h7), xup_ne _ _ (tg h6), xup_ne _ _ (tg h7), xup_ne _ _ (tg h6)]; exact ⟨rfl, rfl⟩
  have Hj : ∀ (t i l : Nat), i ≠ sB x → ct2 (t, i, l) = ct (t, i, l) ∧ ad2 (t, i, l) = ad (t, i, l) := fun t i l hi => by
    have k6 : ((t, i, l) : xR) ≠ (6, sB x, 0) := fun y => hi (Prod.mk.inj (Prod.mk.inj y).2).1
    have k7 : ((t, i, l) : xR) ≠ (7, sB x, 0) := fun y => hi (Prod.mk.inj (Prod.mk.inj y).2).1
    rw [← hct, ← had, xup_ne _ _ k7, xup_ne _ _ k6, xup_ne _ _ k7, xup_ne _ _ k6]; exact ⟨rfl, rfl⟩
  have a7 : ad2 (7, sB x, 0) = q2 := by rw [← had, xup_self]
  have a6 : ad2 (6, sB x, 0) = q := by rw [← had, xup_ne _ _ (tg (by decide)), xup_self]
  have t7 : ct2 (7, sB x, 0) = some (.inr (0, [.int 0, .ref (E.2 6), .int 0])) := by rw [← hct, xup_self]
  have t6 : ct2 (6, sB x, 0) = some (.inr (2, [.int (nI d), .ref q2, .ref (E.2 0), .int 0, .int 0, .int 0])) := by rw [← hct, xup_ne _ _ (tg (by decide)), xup_self]
  refine h w7 ad2 ct2 R2 ⟨⟨?_, ?_, ?_⟩, fun z hz => ?_, fun j hj => ?_, fun z hz => ?_, fun j hj => ?_⟩ F1 a6
  · rw [(H _ _ _ (by decide) (by decide)).1, c1]
    unfold plF; rw [(H 1 _ _ (by decide) (by decide)).2, (H 3 _ _ (by decide) (by decide)).2]; rfl
  · exact nLs_congr c2 (H _ _ _ (by decide) (by decide)).1 (H _ _ _ (by decide) (by decide)).1 (H _ _ _ (by decide) (by decide)).2 (fun _ _ => (H _ _ _ (by decide) (by decide)).2)
  · exact nLs_congr c3 (H _ _ _ (by decide) (by decide)).1 (H _ _ _ (by decide) (by decide)).1 (H _ _ _ (by decide) (by decide)).2 (fun i hi => (Hj _ _ _ (by omega)).2)
  · rw [(H _ _ _ (by decide) (by decide)).1]; exact c4 z hz
  · by_cases e : j = sB x
    · subst e
      have eb : (uNB x d).2.2.1 (sB x) = (d, 0, false, false, 0, 0) := if_pos rfl
      refine ⟨?_, ?_, fun k hk => ?_, fun k hk => ?_⟩
      · rw [t6]
        unfold baF bD bS bF bK bN
        rw [eb, a7]; rfl
      · have ec : bC (uNB x d) (sB x) = 0 := by unfold bC; rw [eb]
        rw [ec]
        exact ⟨0, E.2 6, t7, Or.inl ⟨rfl, rfl, by rw [(H _ _ _ (by decide) (by decide)).1]; exact n8⟩⟩
      · have ec : bC (uNB x d) (sB x) = 0 := by unfold bC; rw [eb]
        rw [ec] at hk; omega
      · rw [(H _ _ _ (by decide) (by decide)).1]; exact n9 k
    · have hj : j < sB x + 1 := hj
      exact cB_congr (c5 j (by omega)) (fun t k t1 _ => (Hj _ _ _ e).1) (fun t k t1 _ _ => (Hj _ _ _ e).2) (Hj _ _ _ e).2 (fun i hi => (H _ _ _ (by decide) (by decide)).2) (if_neg e) rfl (Nat.le_refl _)
  · rw [(H _ _ _ (by decide) (by decide)).1]; exact c6 z hz
  · have hj : sB x + 1 ≤ j := hj
    obtain ⟨d1, d2, d3, d4⟩ := c7 j (by omega)
    have Q : ∀ t l, ct2 (t, j, l) = ct (t, j, l) := fun t l => (Hj t j l (by omega)).1
    exact ⟨by rw [Q]; exact d1, by rw [Q]; exact d2, by rw [Q]; exact d3, fun k => by rw [Q]; exact d4 k⟩
/-- a row is added -/
theorem ba_addRow {post : xw_T → Prop} (hR : xRp w ad ct) (hC : cX E ad ct x m) {j a : Nat} (hj : j < sB x) (ha : a < sA x) (hc12 : bC x j < 12) (v : Int64)
    (h : ∀ w' ad' ct', xRp w' ad' ct' → cX E ad' ct' (uRo x j a v) m → Fr ad ad' ct ct' → post w') : wp_BA_addRow E post w (ad (6, j, 0)) (some (ad (5, a, 0))) v := by
  obtain ⟨⟨c1, c2, c3⟩, c4, c5, c6, c7⟩ := hC
  obtain ⟨g1, g2, g3, g4⟩ := c5 j hj
  have hB := hR.at g1
  refine ⟨_, gr_of hB rfl, fun q hq w3 e3 => ?_⟩
  have hq := hq.1
  have h3 : w3 q = some (.inr (3, [.null, .long 0])) := by rw [e3, va_up_self]
  refine ⟨⟨_, by rw [xg_of h3]; rfl⟩, fun w4 e4 => ?_⟩
  rw [xp_of h3, e3, va_up2] at e4
  have h4 : w4 q = some (.inr (3, [.ref (ad (5, a, 0)), .long 0])) := by rw [e4, va_up_self]; rfl
  refine ⟨⟨_, by rw [xg_of h4]; rfl⟩, fun w5 e5 => ?_⟩
  rw [xp_of h4, e4, va_up2] at e5
  have hr := g4 (bC x j) (Nat.le_refl _)
  have R1 := hR.new (r := (9, j, bC x j)) hr hq (.inr (3, [.ref (ad (5, a, 0)), .long v]))
  have F1 : Fr ad (xup ad (9, j, bC x j) q) ct (xup ct (9, j, bC x j) (some (.inr (3, [.ref (ad (5, a, 0)), .long v])))) := Fr_new hr (by decide : (9 : Nat) < 10)
  have ew : w5 = va_up w q (some (.inr (3, [.ref (ad (5, a, 0)), .long v]))) := e5
  rw [← ew] at R1
  have e7 : xup ad (9, j, bC x j) q (7, j, 0) = ad (7, j, 0) := xup_ne _ _ (tg (by decide))
  have L1 : nLs E (xup ad (9, j, bC x j) q) (xup ct (9, j, bC x j) (some (.inr (3, [.ref (ad (5, a, 0)), .long v])))) (7, j, 0) (8, j, 0) (bC x j) (fun k => ad (9, j, k)) := nLs_congr g2 (xup_ne _ _ (tg (by decide))) (xup_ne _ _ (tg (by decide))) (xup_ne _ _ (tg (by decide))) (fun _ _ => rfl)
  refine ⟨_, rfl, ?_, ?_⟩
  · have := nl_recv R1 L1
    rw [e7] at this; exact this
  · rw [← e7]
    refine nl_add R1 L1 (by omega) (tg (by decide)) (xOb3 (by rw [ew]; exact va_up_self _ _ _)) (fun i hi => ?_) (fun w' ad' ct' R2 L2 hc hA => ?_)
    · have := R1.at (r := (9, j, i)) (by rw [xup_ne _ _ (tg3 (by omega))]; exact (g3 i hi).1)
      rw [xup_ne _ _ (tg3 (by omega))] at this
      exact xOb3 this
    · have F2 : Fr _ ad' _ ct' := add_Fr (by decide : (7 : Nat) < 10) (Or.inr (Or.inr rfl)) (nLs_ne L2) hc hA
      have H : ∀ (t i l : Nat), t ≠ 7 → t ≠ 8 → t ≠ 9 → ct' (t, i, l) = ct (t, i, l) := fun t i l h1 h2 h5 => by rw [hc _ (tg h1) (tg h2), xup_ne _ _ (tg h5)]
      have HA : ∀ (t i l : Nat), t ≠ 8 → t ≠ 9 → ad' (t, i, l) = ad (t, i, l) := fun t i l h2 h5 => by rw [hA _ (tg h2), xup_ne _ _ (tg h5)]
      have Hj : ∀ (t i l : Nat), i ≠ j → ct' (t, i, l) = ct (t, i, l) ∧ ad' (t, i, l) = ad (t, i, l) := fun t i l hi => by
        have k7 : ((t, i, l) : xR) ≠ (7, j, 0) := fun y => hi (Prod.mk.inj (Prod.mk.inj y).2).1
        have k8 : ((t, i, l) : xR) ≠ (8, j, 0) := fun y => hi (Prod.mk.inj (Prod.mk.inj y).2).1
        have k9 : ((t, i, l) : xR) ≠ (9, j, bC x j) := fun y => hi (Prod.mk.inj (Prod.mk.inj y).2).1
        rw [hc _ k7 k8, hA _ k8, xup_ne _ _ k9, xup_ne _ _ k9]; exact ⟨rfl, rfl⟩
      have H9 : ∀ k, k ≠ bC x j → ct' (9, j, k) = ct (9, j, k) ∧ ad' (9, j, k) = ad (9, j, k) := fun k hk => by
        rw [hc _ (tg (by decide)) (tg (by decide)), hA _ (tg (by decide)), xup_ne _ _ (tg3 hk), xup_ne _ _ (tg3 hk)]; exact ⟨rfl, rfl⟩
      have eb : (uRo x j a v).2.2.1 j = (bD x j, bS x j, bF x j, bK x j, bN x j, bC x j + 1) := by
        unfold uRo; dsimp only; rw [if_pos rfl]
      have eC : bC (uRo x j a v) j = bC x j + 1 := by show ((uRo x j a v).2.2.1 j).2.2.2.2.2 = _; rw [eb]
      refine h w' ad' ct' R2 ⟨⟨?_, ?_, ?_⟩, fun z hz => ?_, fun i hi => ?_, fun z hz => ?_, fun i hi => ?_⟩ (F1.trans F2)
      · rw [H _ _ _ (by decide) (by decide) (by decide), c1]
        unfold plF; rw [HA 1 _ _ (by decide) (by decide), HA 3 _ _ (by decide) (by decide)]; rfl
      · exact nLs_congr c2 (H _ _ _ (by decide) (by decide) (by decide)) (H _ _ _ (by decide) (by decide) (by decide)) (HA _ _ _ (by decide) (by decide)) (fun _ _ => HA _ _ _ (by decide) (by decide))
      · exact nLs_congr c3 (H _ _ _ (by decide) (by decide) (by decide)) (H _ _ _ (by decide) (by decide) (by decide)) (HA _ _ _ (by decide) (by decide)) (fun _ _ => HA _ _ _ (by decide) (by decide))
      · rw [H _ _ _ (by decide) (by decide) (by decide)]; exact c4 z hz
      · by_cases e : i = j
        · subst e
          refine ⟨?_, ?_, fun k hk => ?_, fun k hk => ?_⟩
          · rw [H _ _ _ (by decide) (by decide) (by decide), g1]
            unfold baF; rw [HA 7 _ _ (by decide) (by decide)]
            rfl
          · rw [eC]
            refine nLs_congr L2 rfl rfl rfl (fun k hk => ?_)
            show ad' (9, i, k) = if k = bC x i then q else ad (9, i, k)
            by_cases e : k = bC x i
            · rw [if_pos e, hA _ (tg (by decide)), e, xup_self]
            · rw [if_neg e]; exact (H9 k e).2
          · rw [eC] at hk
            by_cases e : k = bC x i
            · subst e
              have er : (uRo x i a v).2.2.2.1 i (bC x i) = (a, v) := if_pos ⟨rfl, rfl⟩
              rw [hc _ (tg (by decide)) (tg (by decide)), xup_self]
              unfold rwF rA rV
              rw [er, HA 5 _ _ (by decide) (by decide)]
              exact ⟨rfl, ha⟩
            · have er : (uRo x i a v).2.2.2.1 i k = x.2.2.2.1 i k := if_neg (fun y => e y.2)
              have g3k := g3 k (by omega)
              rw [(H9 k e).1, g3k.1]
              unfold rwF rA rV
              rw [er, HA 5 _ _ (by decide) (by decide)]
              exact ⟨rfl, g3k.2⟩
          · rw [eC] at hk
            rw [(H9 k (by omega)).1]; exact g4 k (by omega)
        · have ex : (uRo x j a v).2.2.1 i = x.2.2.1 i := by unfold uRo; dsimp only; rw [if_neg e]; rfl
          have er : (uRo x j a v).2.2.2.1 i = x.2.2.2.1 i := by funext k; exact if_neg (fun y => e y.1)
          exact cB_congr (c5 i hi) (fun t k t1 _ => (Hj _ _ _ e).1) (fun t k t1 _ _ => (Hj _ _ _ e).2) (Hj _ _ _ e).2 (fun z hz => HA _ _ _ (by decide) (by decide)) ex er (Nat.le_refl _)
      · rw [H _ _ _ (by decide) (by decide) (by decide)]; exact c6 z hz
      · obtain ⟨d1, d2, d3, d4⟩ := c7 i hi
        have hij : i ≠ j := fun y => by rw [y] at hi; exact absurd hj (Nat.not_lt.mpr hi)
        have Q : ∀ t l, ct' (t, i, l) = ct (t, i, l) := fun t l => (Hj t i l hij).1
        exact ⟨by rw [Q]; exact d1, by rw [Q]; exact d2, by rw [Q]; exact d3, fun k => by rw [Q]; exact d4 k⟩
/-- the batch m goes into the list -/
theorem pl_listBa {post : Int32 → xw_T → Prop} (hR : xRp w ad ct) (hC : cX E ad ct x m) (hm : m < sB x) (hn : m < 300)
    (h : ∀ w' ad' ct', xRp w' ad' ct' → cX E ad' ct' x (m + 1) → Fr ad ad' ct ct' → post 1 w') : wp_AL_add E post w (ad (3, 0, 0)) (some (ad (6, m, 0))) := by
  obtain ⟨⟨c1, c2, c3⟩, c4, c5, c6, c7⟩ := hC
  refine nl_add hR c3 hn (tg (by decide)) (xOb2 (hR.at (c5 m hm).1)) (fun i hi => xOb2 (hR.at (c5 i (by omega)).1)) (fun w' ad' ct' R2 L2 hc ha => ?_)
  have F2 : Fr ad ad' ct ct' := add_Fr (by decide : (3 : Nat) < 10) (Or.inr (Or.inl rfl)) (nLs_ne L2) hc ha
  have H : ∀ (t i l : Nat), t ≠ 3 → t ≠ 4 → ct' (t, i, l) = ct (t, i, l) := fun t i l h1 h2 => hc _ (tg h1) (tg h2)
  have HA : ∀ (t i l : Nat), t ≠ 4 → ad' (t, i, l) = ad (t, i, l) := fun t i l h2 => ha _ (tg h2)
  refine h w' ad' ct' R2 ⟨⟨?_, ?_, ?_⟩, fun z hz => ?_, fun i hi => ?_, fun z hz => ?_, fun i hi => ?_⟩ F2
  · rw [H _ _ _ (by decide) (by decide), c1]
    unfold plF; rw [HA 1 _ _ (by decide), HA 3 _ _ (by decide)]
  · exact nLs_congr c2 (H _ _ _ (by decide) (by decide)) (H _ _ _ (by decide) (by decide)) (HA _ _ _ (by decide)) (fun _ _ => HA _ _ _ (by decide))
  · refine nLs_congr L2 rfl rfl rfl (fun i hi => ?_)
    show ad' (6, i, 0) = if i = m then ad (6, m, 0) else ad (6, i, 0)
    rw [HA _ _ _ (by decide)]
    by_cases e : i = m
    · rw [if_pos e, e]
    · rw [if_neg e]
  · rw [H _ _ _ (by decide) (by decide)]; exact c4 z hz
  · exact cB_congr (c5 i hi) (fun t k t1 _ => H _ _ _ (by omega) (by omega)) (fun t k t1 _ _ => HA _ _ _ (by omega)) (HA _ _ _ (by decide)) (fun z hz => HA _ _ _ (by decide)) rfl rfl (Nat.le_refl _)
  · rw [H _ _ _ (by decide) (by decide)]; exact c6 z hz
  · obtain ⟨d1, d2, d3, d4⟩ := c7 i hi
    exact ⟨by rw [H _ _ _ (by decide) (by decide)]; exact d1, by rw [H _ _ _ (by decide) (by decide)]; exact d2, by rw [H _ _ _ (by decide) (by decide)]; exact d3, fun k => by rw [H _ _ _ (by decide) (by decide)]; exact d4 k⟩
end PLN
