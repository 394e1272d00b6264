/-! THE CLASS'S WRITES: how each changes the state -/
def uLim (x : xSt) (i : Nat) (l : Int32) : xSt := (x.1, fun z => (aO x z, aK x z, if z = i then l else aL x z, aT x z), x.2.2)
def uTot (x : xSt) (t : Nat → Int64) : xSt := (x.1, fun z => (aO x z, aK x z, aL x z, t z), x.2.2)
def uSt (x : xSt) (j s : Nat) : xSt := (x.1, x.2.1, fun z => (bD x z, if z = j then s else bS x z, bF x z, bK x z, bN x z, bC x z), x.2.2.2)
def uFail (x : xSt) (j : Nat) (b : Bool) : xSt := (x.1, x.2.1, fun z => (bD x z, bS x z, if z = j then b else bF x z, bK x z, bN x z, bC x z), x.2.2.2)
def uBack (x : xSt) (j : Nat) : xSt := (x.1, x.2.1, fun z => (bD x z, bS x z, bF x z, if z = j then true else bK x z, bN x z, bC x z), x.2.2.2)
def uFst (x : xSt) (j n : Nat) : xSt := (x.1, x.2.1, fun z => (bD x z, bS x z, bF x z, bK x z, if z = j then n else bN x z, bC x z), x.2.2.2)
def uFo (x : xSt) (n : Nat) : xSt := ((sA x, sB x, sP x, n, sR x), x.2)
def uSR (x : xSt) (n : Nat) : xSt := ((sA x, sB x, sP x, sO x, n), x.2)
def uPB (x : xSt) (j : Nat) : xSt := ((sA x, sB x, sP x + 1, sO x, sR x), x.2.1, x.2.2.1, x.2.2.2.1, fun z => if z = sP x then j else pB x z)
def uNA (x : xSt) (o k : Int32) : xSt := ((sA x + 1, sB x, sP x, sO x, sR x), fun z => if z = sA x then (o, k, 0, 0) else x.2.1 z, x.2.2)
def uNB (x : xSt) (d : Nat) : xSt := ((sA x, sB x + 1, sP x, sO x, sR x), x.2.1, fun z => if z = sB x then (d, 0, false, false, 0, 0) else x.2.2.1 z, x.2.2.2)
def uRo (x : xSt) (j a : Nat) (v : Int64) : xSt := (x.1, x.2.1, fun z => (bD x z, bS x z, bF x z, bK x z, bN x z, if z = j then bC x z + 1 else bC x z), fun z k => if z = j ∧ k = bC x j then (a, v) else x.2.2.2.1 z k, x.2.2.2.2)
/-- a batch goes into the books -/
def uPost (x : xSt) (j : Nat) : xSt := uPB (uTot (uSR (uFst (uSt x j 1) j (sR x + 1)) (sR x + bC x j)) (fun a => aT x a + part x j a)) j
/-- m of the batches stand in the list -/
def cB (E : xE_T) (ad : xR → Nat) (ct : xR → Option va_E) (x : xSt) (j : Nat) : Prop :=
  ct (6, j, 0) = some (.inr (2, baF E ad x j)) ∧ nLs E ad ct (7, j, 0) (8, j, 0) (bC x j) (fun k => ad (9, j, k)) ∧ (∀ k, k < bC x j → ct (9, j, k) = some (.inr (3, rwF ad x j k)) ∧ rA x j k < sA x) ∧ ∀ k, bC x j ≤ k → ct (9, j, k) = none
def cX (E : xE_T) (ad : xR → Nat) (ct : xR → Option va_E) (x : xSt) (m : Nat) : Prop :=
  (ct (0, 0, 0) = some (.inr (4, plF ad x)) ∧ nLs E ad ct (1, 0, 0) (2, 0, 0) (sA x) (fun i => ad (5, i, 0)) ∧ nLs E ad ct (3, 0, 0) (4, 0, 0) m (fun j => ad (6, j, 0))) ∧
  (∀ i, i < sA x → ct (5, i, 0) = some (.inr (1, acF x i))) ∧
  (∀ j, j < sB x → cB E ad ct x j) ∧
  (∀ i, sA x ≤ i → ct (5, i, 0) = none) ∧
  (∀ j, sB x ≤ j → ct (6, j, 0) = none ∧ ct (7, j, 0) = none ∧ ct (8, j, 0) = none ∧ ∀ k, ct (9, j, k) = none)
theorem cX_iff {E : xE_T} {ad : xR → Nat} {ct : xR → Option va_E} {x : xSt} : cC E ad ct x ↔ cX E ad ct x (sB x) := Iff.rfl
/-- what a step of the program keeps -/
def Fr (ad ad' : xR → Nat) (ct ct' : xR → Option va_E) : Prop := (∀ r : xR, 10 ≤ r.1 → ct' r = ct r) ∧ ∀ r : xR, r.1 ≠ 2 → r.1 ≠ 4 → r.1 ≠ 8 → ct r ≠ none → ad' r = ad r ∧ ct' r ≠ none
theorem Fr.refl (ad : xR → Nat) (ct : xR → Option va_E) : Fr ad ad ct ct := ⟨fun _ _ => rfl, fun _ _ _ _ h => ⟨rfl, h⟩⟩
theorem Fr.trans {ad ad' ad2 : xR → Nat} {ct ct' ct2 : xR → Option va_E} (h : Fr ad ad' ct ct') (g : Fr ad' ad2 ct' ct2) : Fr ad ad2 ct ct2 :=
  ⟨fun r hr => (g.1 r hr).trans (h.1 r hr), fun r h2 h4 h8 hr => ⟨(g.2 r h2 h4 h8 (h.2 r h2 h4 h8 hr).2).1.trans (h.2 r h2 h4 h8 hr).1, (g.2 r h2 h4 h8 (h.2 r h2 h4 h8 hr).2).2⟩⟩
theorem tg {a b i j k l : Nat} (h : a ≠ b) : ((a, i, k) : xR) ≠ (b, j, l) := fun q => h (Prod.mk.inj q).1
theorem tg2 {a i j k l : Nat} (h : i ≠ j) : ((a, i, k) : xR) ≠ (a, j, l) := fun q => h (Prod.mk.inj (Prod.mk.inj q).2).1
theorem tg3 {a i k l : Nat} (h : k ≠ l) : ((a, i, k) : xR) ≠ (a, i, l) := fun q => h (Prod.mk.inj (Prod.mk.inj q).2).2
theorem nLs_congr {E : xE_T} {ad ad' : xR → Nat} {ct ct' : xR → Option va_E} {r ra : xR} {n : Nat} {f f' : Nat → Nat} (h : nLs E ad ct r ra n f) (h1 : ct' r = ct r) (h2 : ct' ra = ct ra) (h3 : ad' ra = ad ra) (h4 : ∀ i, i < n → f' i = f i) : nLs E ad' ct' r ra n f' := by
  obtain ⟨mc, a, g1, g2⟩ := h
  refine ⟨mc, a, h1.trans g1, ?_⟩
  rcases g2 with ⟨q1, q2, q3⟩ | ⟨q1, q2, cap, g, q3, q4, q5, q6⟩
  · exact Or.inl ⟨q1, q2, h2.trans q3⟩
  · exact Or.inr ⟨q1.trans h3.symm, q2, cap, g, h2.trans q3, q4, q5, fun i hi => (q6 i hi).trans (by rw [h4 i hi])⟩
theorem cB_congr {E : xE_T} {ad ad' : xR → Nat} {ct ct' : xR → Option va_E} {x x' : xSt} {j : Nat} (h : cB E ad ct x j) (hf : ∀ t k, 6 ≤ t → t ≤ 9 → ct' (t, j, k) = ct (t, j, k)) (ha : ∀ t k, 7 ≤ t → t ≤ 9 → ct (t, j, k) ≠ none → ad' (t, j, k) = ad (t, j, k)) (h8 : ad' (8, j, 0) = ad (8, j, 0)) (h5 : ∀ i, i < sA x → ad' (5, i, 0) = ad (5, i, 0)) (hx : x'.2.2.1 j = x.2.2.1 j) (hr : x'.2.2.2.1 j = x.2.2.2.1 j) (hA : sA x ≤ sA x') : cB E ad' ct' x' j := by
  obtain ⟨g1, g2, g3, g4⟩ := h
  have eC : bC x' j = bC x j := by unfold bC; rw [hx]
  have eA : ∀ k, rA x' j k = rA x j k := fun k => by unfold rA; rw [hr]
  have eV : ∀ k, rV x' j k = rV x j k := fun k => by unfold rV; rw [hr]
  have n7 : ct (7, j, 0) ≠ none := by obtain ⟨mc, a, q, -⟩ := g2; rw [q]; exact fun z => by cases z
  refine ⟨?_, ?_, fun k hk => ?_, fun k hk => ?_⟩
  · rw [hf 6 0 (by decide) (by decide), g1]
    unfold baF bD bS bF bK bN
    rw [hx, ha 7 0 (by decide) (by decide) n7]
  · rw [eC]
    refine nLs_congr g2 (hf 7 0 (by decide) (by decide)) (hf 8 0 (by decide) (by decide)) h8 (fun k hk => ha 9 k (by decide) (by decide) ?_)
    rw [(g3 k hk).1]; exact fun z => by cases z
  · rw [eC] at hk
    refine ⟨?_, ?_⟩
    · rw [hf 9 k (by decide) (by decide), (g3 k hk).1]
      unfold rwF
      rw [eA, eV, h5 _ (g3 k hk).2]
    · rw [eA]; exact Nat.lt_of_lt_of_le (g3 k hk).2 hA
  · rw [eC] at hk
    rw [hf 9 k (by decide) (by decide)]; exact g4 k hk
section PLW
variable {E : xE_T} {w : xw_T} {ad : xR → Nat} {ct : xR → Option va_E} {x : xSt} {m : Nat}
theorem Fr_set {r : xR} {e e0 : va_E} (h0 : ct r = some e0) (hr : r.1 < 10) : Fr ad ad ct (xup ct r (some e)) := by
  refine ⟨fun z hz => xup_ne _ _ (fun q => by rw [q] at hz; omega), fun z _ _ _ hz => ⟨rfl, ?_⟩⟩
  by_cases q : z = r
  · rw [q, xup_self]; exact fun y => by cases y
  · rw [xup_ne _ _ q]; exact hz
theorem Fr_new {r : xR} {e : va_E} {q : Nat} (h0 : ct r = none) (hr : r.1 < 10) : Fr ad (xup ad r q) ct (xup ct r (some e)) := by
  refine ⟨fun z hz => xup_ne _ _ (fun q => by rw [q] at hz; omega), fun z _ _ _ hz => ?_⟩
  have k : z ≠ r := fun y => hz (by rw [y]; exact h0)
  rw [xup_ne _ _ k, xup_ne _ _ k]
  exact ⟨rfl, hz⟩
theorem cX_setA {i : Nat} (hR : xRp w ad ct) (hC : cX E ad ct x m) (hi : i < sA x) (x' : xSt) (h1 : x'.1 = x.1) (h2 : ∀ z, z ≠ i → acF x' z = acF x z) (h3 : x'.2.2.1 = x.2.2.1) (h4 : x'.2.2.2.1 = x.2.2.2.1) :
    ∃ ct', xRp (va_up w (ad (5, i, 0)) (some (.inr (1, acF x' i)))) ad ct' ∧ cX E ad ct' x' m ∧ Fr ad ad ct ct' := by
  obtain ⟨⟨c1, c2, c3⟩, c4, c5, c6, c7⟩ := hC
  have eA : sA x' = sA x := by unfold sA; rw [h1]
  have eB : sB x' = sB x := by unfold sB; rw [h1]
  refine ⟨_, hR.set (c4 i hi) _, ⟨⟨?_, ?_, ?_⟩, fun z hz => ?_, fun j hj => ?_, fun z hz => ?_, fun j hj => ?_⟩, Fr_set (c4 i hi) (by decide : (5 : Nat) < 10)⟩
  · rw [xup_ne _ _ (tg (by decide)), c1]
    unfold plF sO sR; rw [h1]
  · rw [eA]; exact nLs_congr c2 (xup_ne _ _ (tg (by decide))) (xup_ne _ _ (tg (by decide))) rfl (fun _ _ => rfl)
  · exact nLs_congr c3 (xup_ne _ _ (tg (by decide))) (xup_ne _ _ (tg (by decide))) rfl (fun _ _ => rfl)
  · rw [eA] at hz
    by_cases q : z = i
    · rw [q, xup_self]
    · rw [xup_ne _ _ (tg2 q), c4 z hz, h2 z q]
  · rw [eB] at hj
    exact cB_congr (c5 j hj) (fun t k t1 _ => xup_ne _ _ (tg (by omega))) (fun _ _ _ _ _ => rfl) rfl (fun _ _ => rfl) (by rw [h3]) (by rw [h4]) (by omega)
  · rw [eA] at hz
    rw [xup_ne _ _ (tg2 (by omega))]; exact c6 z hz
  · rw [eB] at hj
    obtain ⟨d1, d2, d3, d4⟩ := c7 j hj
    exact ⟨by rw [xup_ne _ _ (tg (by decide))]; exact d1, by rw [xup_ne _ _ (tg (by decide))]; exact d2, by rw [xup_ne _ _ (tg (by decide))]; exact d3, fun k => by rw [xup_ne _ _ (tg (by decide))]; exact d4 k⟩
theorem cX_setB {i : Nat} (hR : xRp w ad ct) (hC : cX E ad ct x m) (hi : i < sB x) (x' : xSt) (h1 : x'.1 = x.1) (h2 : x'.2.1 = x.2.1) (h3 : ∀ z, z ≠ i → x'.2.2.1 z = x.2.2.1 z) (hc : bC x' i = bC x i) (h4 : x'.2.2.2.1 = x.2.2.2.1) :
    ∃ ct', xRp (va_up w (ad (6, i, 0)) (some (.inr (2, baF E ad x' i)))) ad ct' ∧ cX E ad ct' x' m ∧ Fr ad ad ct ct' := by
  obtain ⟨⟨c1, c2, c3⟩, c4, c5, c6, c7⟩ := hC
  have eA : sA x' = sA x := by unfold sA; rw [h1]
  have eB : sB x' = sB x := by unfold sB; rw [h1]
  refine ⟨_, hR.set (c5 i hi).1 _, ⟨⟨?_, ?_, ?_⟩, fun z hz => ?_, fun j hj => ?_, fun z hz => ?_, fun j hj => ?_⟩, Fr_set (c5 i hi).1 (by decide : (6 : Nat) < 10)⟩
  · rw [xup_ne _ _ (tg (by decide)), c1]
    unfold plF sO sR; rw [h1]
  · rw [eA]; exact nLs_congr c2 (xup_ne _ _ (tg (by decide))) (xup_ne _ _ (tg (by decide))) rfl (fun _ _ => rfl)
  · exact nLs_congr c3 (xup_ne _ _ (tg (by decide))) (xup_ne _ _ (tg (by decide))) rfl (fun _ _ => rfl)
  · rw [eA] at hz
    rw [xup_ne _ _ (tg (by decide)), c4 z hz]
    unfold acF aO aK aL aT; rw [h2]
  · rw [eB] at hj
    by_cases q : j = i
    · subst q
      obtain ⟨g1, g2, g3, g4⟩ := c5 j hj
      refine ⟨xup_self _ _ _, ?_, fun k hk => ?_, fun k hk => ?_⟩
      · rw [hc]; exact nLs_congr g2 (xup_ne _ _ (tg (by decide))) (xup_ne _ _ (tg (by decide))) rfl (fun _ _ => rfl)
      · rw [hc] at hk
        rw [xup_ne _ _ (tg (by decide)), (g3 k hk).1, eA]
        unfold rwF rA rV; rw [h4]; exact ⟨rfl, (g3 k hk).2⟩
      · rw [hc] at hk
        rw [xup_ne _ _ (tg (by decide))]; exact g4 k hk
    · exact cB_congr (c5 j hj) (fun t k t1 _ => xup_ne _ _ (fun y => q (Prod.mk.inj (Prod.mk.inj y).2).1)) (fun _ _ _ _ _ => rfl) rfl (fun _ _ => rfl) (h3 j q) (by rw [h4]) (by omega)
  · rw [eA] at hz
    rw [xup_ne _ _ (tg (by decide))]; exact c6 z hz
  · rw [eB] at hj
    obtain ⟨d1, d2, d3, d4⟩ := c7 j hj
    exact ⟨by rw [xup_ne _ _ (tg2 (by omega))]; exact d1, by rw [xup_ne _ _ (tg (by decide))]; exact d2, by rw [xup_ne _ _ (tg (by decide))]; exact d3, fun k => by rw [xup_ne _ _ (tg (by decide))]; exact d4 k⟩
theorem cX_setP (hR : xRp w ad ct) (hC : cX E ad ct x m) (x' : xSt) (eA : sA x' = sA x) (eB : sB x' = sB x) (h2 : x'.2.1 = x.2.1) (h3 : x'.2.2.1 = x.2.2.1) (h4 : x'.2.2.2.1 = x.2.2.2.1) :
    ∃ ct', xRp (va_up w (ad (0, 0, 0)) (some (.inr (4, plF ad x')))) ad ct' ∧ cX E ad ct' x' m ∧ Fr ad ad ct ct' := by
  obtain ⟨⟨c1, c2, c3⟩, c4, c5, c6, c7⟩ := hC
  refine ⟨_, hR.set c1 _, ⟨⟨xup_self _ _ _, ?_, ?_⟩, fun z hz => ?_, fun j hj => ?_, fun z hz => ?_, fun j hj => ?_⟩, Fr_set c1 (by decide : (0 : Nat) < 10)⟩
  · rw [eA]; exact nLs_congr c2 (xup_ne _ _ (tg (by decide))) (xup_ne _ _ (tg (by decide))) rfl (fun _ _ => rfl)
  · exact nLs_congr c3 (xup_ne _ _ (tg (by decide))) (xup_ne _ _ (tg (by decide))) rfl (fun _ _ => rfl)
  · rw [eA] at hz
    rw [xup_ne _ _ (tg (by decide)), c4 z hz]
    unfold acF aO aK aL aT; rw [h2]
  · rw [eB] at hj
    exact cB_congr (c5 j hj) (fun t k t1 _ => xup_ne _ _ (tg (by omega))) (fun _ _ _ _ _ => rfl) rfl (fun _ _ => rfl) (by rw [h3]) (by rw [h4]) (by omega)
  · rw [eA] at hz
    rw [xup_ne _ _ (tg (by decide))]; exact c6 z hz
  · rw [eB] at hj
    obtain ⟨d1, d2, d3, d4⟩ := c7 j hj
    exact ⟨by rw [xup_ne _ _ (tg (by decide))]; exact d1, by rw [xup_ne _ _ (tg (by decide))]; exact d2, by rw [xup_ne _ _ (tg (by decide))]; exact d3, fun k => by rw [xup_ne _ _ (tg (by decide))]; exact d4 k⟩
/-- nothing that the program holds has changed -/
theorem cX_same {ct' : xR → Option va_E} (hC : cX E ad ct x m) (x' : xSt) (eA : sA x' = sA x) (eB : sB x' = sB x) (eO : sO x' = sO x) (eR : sR x' = sR x) (h2 : x'.2.1 = x.2.1) (h3 : x'.2.2.1 = x.2.2.1) (h4 : x'.2.2.2.1 = x.2.2.2.1) (hct : ∀ r : xR, r.1 < 10 → ct' r = ct r) : cX E ad ct' x' m := by
  obtain ⟨⟨c1, c2, c3⟩, c4, c5, c6, c7⟩ := hC
  have H : ∀ (t a b : Nat), t < 10 → ct' (t, a, b) = ct (t, a, b) := fun t a b h => hct (t, a, b) h
  refine ⟨⟨?_, ?_, ?_⟩, fun z hz => ?_, fun j hj => ?_, fun z hz => ?_, fun j hj => ?_⟩
  · rw [H _ _ _ (by decide), c1]; unfold plF; rw [eO, eR]
  · rw [eA]; exact nLs_congr c2 (H _ _ _ (by decide)) (H _ _ _ (by decide)) rfl (fun _ _ => rfl)
  · exact nLs_congr c3 (H _ _ _ (by decide)) (H _ _ _ (by decide)) rfl (fun _ _ => rfl)
  · rw [eA] at hz
    rw [H _ _ _ (by decide), c4 z hz]
    unfold acF aO aK aL aT; rw [h2]
  · rw [eB] at hj
    exact cB_congr (c5 j hj) (fun t k t1 t2 => H _ _ _ (by omega)) (fun _ _ _ _ _ => rfl) rfl (fun _ _ => rfl) (by rw [h3]) (by rw [h4]) (by omega)
  · rw [eA] at hz
    rw [H _ _ _ (by decide)]; exact c6 z hz
  · rw [eB] at hj
    obtain ⟨d1, d2, d3, d4⟩ := c7 j hj
    exact ⟨by rw [H _ _ _ (by decide)]; exact d1, by rw [H _ _ _ (by decide)]; exact d2, by rw [H _ _ _ (by decide)]; exact d3, fun k => by rw [H _ _ _ (by decide)]; exact d4 k⟩
end PLW
