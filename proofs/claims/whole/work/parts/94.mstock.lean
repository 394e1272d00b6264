/-! THE REFERENCE: stock -/
/-- the state of a count's batch ahead of its posting -/
def uSk0 (x : xSt) (a b : Nat) (v : Int64) : xSt := uRo (uRo (uNB x (sO x)) (sB x) a v) (sB x) b (-v)
theorem sk_n (x : xSt) (a : Nat) (v : Int64) : bC (uNB x (sO x)) (sB x) = 0 ∧ bS (uNB x (sO x)) (sB x) = 0 ∧ bF (uNB x (sO x)) (sB x) = false ∧ bC (uRo (uNB x (sO x)) (sB x) a v) (sB x) = 1 := by
  have e := uNB_n x (sO x)
  have e0 : bC (uNB x (sO x)) (sB x) = 0 := by unfold bC; rw [e]
  refine ⟨e0, by unfold bS; rw [e], by unfold bF; rw [e], ?_⟩
  rw [uRo_c, e0]
theorem Inv_sk1 {x : xSt} (hI : xInv x) (hlt : sB x < 300) {a : Nat} (ha : a < sA x) (v : Int64) : xInv (uRo (uNB x (sO x)) (sB x) a v) :=
  Inv_ro (Inv_nb hI hI.1.2.2.2.1 hlt) (Nat.lt_succ_self _) (sk_n x a v).2.1 (by rw [(sk_n x a v).1]; decide) ha
theorem Inv_sk0 {x : xSt} (hI : xInv x) (hlt : sB x < 300) {a b : Nat} (ha : a < sA x) (hb : b < sA x) (v : Int64) : xInv (uSk0 x a b v) :=
  Inv_ro (Inv_sk1 hI hlt ha v) (Nat.lt_succ_self _) (sk_n x a v).2.1 (by rw [(sk_n x a v).2.2.2]; decide) hb
theorem oSum_sk (x : xSt) (a b : Nat) (v : Int64) : oSum (uSk0 x a b v) (sB x) := by
  have e2 : bC (uSk0 x a b v) (sB x) = 2 := by unfold uSk0; rw [uRo_c, (sk_n x a v).2.2.2]
  have r1 : rV (uSk0 x a b v) (sB x) 1 = -v := by
    have := (uRo_r (uRo (uNB x (sO x)) (sB x) a v) (sB x) b (-v)).2
    rw [(sk_n x a v).2.2.2] at this
    exact this
  have r0 : rV (uSk0 x a b v) (sB x) 0 = v := by
    have h1 := (uRo_o (uRo (uNB x (sO x)) (sB x) a v) (sB x) b (-v) (z := sB x) (k := 0) (by rw [(sk_n x a v).2.2.2]; omega)).2
    have h2 := (uRo_r (uNB x (sO x)) (sB x) a v).2
    rw [(sk_n x a v).1] at h2
    exact h1.trans h2
  refine ⟨by rw [e2]; decide, ?_⟩
  rw [e2]
  show 0 + rV (uSk0 x a b v) (sB x) 0 + rV (uSk0 x a b v) (sB x) 1 = 0
  rw [r0, r1]
  grind
theorem Inv_stk {x : xSt} (hI : xInv x) (hlt : sB x < 300) {a b : Nat} (ha : a < sA x) (hb : b < sA x) (v : Int64) : xInv (uStk x a b v) :=
  Inv_post (Inv_sk0 hI hlt ha hb v) (Nat.lt_succ_self _) (sk_n x a v).2.1 (oSum_sk x a b v)
section MOT
variable {E : xE_T} {w : xw_T} {ad : xR → Nat} {ct : xR → Option va_E} {x : xSt} {G : xG} {th : Int32}
theorem fI_0 {r : Option Nat} (hr : ∀ i, r = some i → i < 60) : fI r = 0 ↔ r = none := by
  cases r with
  | none => exact ⟨fun _ => rfl, fun _ => rfl⟩
  | some i =>
    have := hr i rfl
    exact ⟨fun z => absurd z (nI_ne0 (by omega) (by omega)), fun z => by cases z⟩
theorem isFst_60 {o k : Int32} {r : Option Nat} (hA : sA x ≤ 60) (h : isFst x o k r) : ∀ i, r = some i → i < 60 := by
  intro i e
  subst e
  have := isFst_lt h
  omega
theorem mo_stock {post : Int32 → xw_T → Prop} (hR : xRp w ad ct) (hM : mR E ad ct (hd x th) G) (hI : xInv x) (hS : mS x G) (o k : Int32) (v : Int64) (h2 : ¬ okS o k v → ∀ w' ct', xRp w' ad ct' → mR E ad ct' (hd x 0) G → Fm ct ct' → post (-2000000002) w')
    (h0 : okS o k v → stk x o k v = 0 → ∀ w' ct', xRp w' ad ct' → mR E ad ct' (hd x 0) G → Fm ct ct' → post 0 w')
    (h3 : okS o k v → stk x o k v ≠ 0 → (isFst x o k none ∨ isFst x o 5 none ∨ ¬ (-1000000000 ≤ stk x o k v ∧ stk x o k v ≤ 1000000000)) → ∀ w' ct', xRp w' ad ct' → mR E ad ct' (hd x 0) G → Fm ct ct' → post (-2000000003) w')
    (h4 : okS o k v → stk x o k v ≠ 0 → ∀ a b, isFst x o k (some a) → isFst x o 5 (some b) → (-1000000000 ≤ stk x o k v ∧ stk x o k v ≤ 1000000000) → sB x = 300 → ∀ w' ct', xRp w' ad ct' → mR E ad ct' (hd x 0) G → Fm ct ct' → post (-2000000004) w')
    (h1 : okS o k v → stk x o k v ≠ 0 → ∀ a b, isFst x o k (some a) → isFst x o 5 (some b) → (-1000000000 ≤ stk x o k v ∧ stk x o k v ≤ 1000000000) → sB x < 300 → ∀ w' ct' G', xRp w' ad ct' → mR E ad ct' (hd (uStk x a b (stk x o k v)) 0) G' → mS (uStk x a b (stk x o k v)) G' → gF G' = upd (gF G) (sB x + 1) 1 → Fm ct ct' → post (stk x o k v).toInt32 w') : wp_MO_stock E post w (ad (10, 0, 0)) o k v := by
  have hO := hI.ok
  have hA := hO.1.1
  have hB := hO.1.2.1
  have hoo := hO.1.2.2.2.1
  refine mo_begin hR hM (fun w1 ct1 R1 M1 F1 => mo_isIn _ _ _ ⟨fun q => h2 (fun z => of_decide_eq_false ((b2i_0 _).mp q) ((rng rfl).mpr z.1)) w1 ct1 R1 M1 F1, fun q => mo_isIn _ _ _ ⟨fun q2 => h2 (fun z => of_decide_eq_false ((b2i_0 _).mp q2) ((rng rfl).mpr z.2.1)) w1 ct1 R1 M1 F1, fun q2 => mo_isIn _ _ _ ⟨fun q3 => ?_, fun q3 => h2 (fun z => of_decide_eq_false ((b2i_0 _).mp q3) z.2.2) w1 ct1 R1 M1 F1⟩⟩⟩)
  have hok : okS o k v := ⟨(rng rfl).mp (of_decide_eq_true ((b2i_ne _).mp q)), (rng rfl).mp (of_decide_eq_true ((b2i_ne _).mp q2)), of_decide_eq_true ((b2i_ne _).mp q3)⟩
  obtain ⟨m10, m11, m12, -⟩ := mR_at R1 M1
  have hS2 : ∀ i, i < sA x → gO G (i + 1) = aO x i ∧ gK G (i + 1) = aK x i := fun i hi => ⟨(hS.1 i hi).1, (hS.1 i hi).2.1⟩
  have key : ∀ d i, i + d = sA x → wl_MO_stock_51 E post (d + 1) w1 (ad (10, 0, 0)) o k v (sumL (kindF x o k) i) (nI (i + 1)) := by
    intro d
    induction d with
    | zero =>
      intro i hi
      have hi : i = sA x := by omega
      subst hi
      refine ⟨_, gi_of m10 rfl, fun _ => ?_, fun z => absurd (show nI (sA x) < nI (sA x + 1) from nI_lt (by omega) (by omega)) z⟩
      show (¬ stk x o k v = 0 → _) ∧ (stk x o k v = 0 → _)
      refine ⟨fun q5 => ⟨⟨_, m10⟩, mo_first R1 M1 hA hS2 o k (fun ra hra => ?_)⟩, fun q5 => h0 hok q5 w1 ct1 R1 M1 F1⟩
      refine ⟨fun z => h3 hok q5 (Or.inl ?_) w1 ct1 R1 M1 F1, fun z => ⟨⟨_, m10⟩, mo_first R1 M1 hA hS2 o 5 (fun rb hrb => ⟨fun z2 => h3 hok q5 (Or.inr (Or.inl ?_)) w1 ct1 R1 M1 F1, fun z2 => mo_isIn _ _ _ ⟨fun z3 => ⟨_, gi_of m10 rfl, fun z4 => ?_, fun z4 => ?_⟩, fun z3 => h3 hok q5 (Or.inr (Or.inr (of_decide_eq_false ((b2i_0 _).mp z3)))) w1 ct1 R1 M1 F1⟩⟩)⟩⟩
      · rw [(fI_0 (isFst_60 hA hra)).mp z] at hra; exact hra
      · rw [(fI_0 (isFst_60 hA hrb)).mp z2] at hrb; exact hrb
      · obtain ⟨a, rfl⟩ := Option.ne_none_iff_exists'.mp (fun y => z ((fI_0 (isFst_60 hA hra)).mpr y))
        obtain ⟨b, rfl⟩ := Option.ne_none_iff_exists'.mp (fun y => z2 ((fI_0 (isFst_60 hA hrb)).mpr y))
        have hlt : sB x < 300 := by
          rcases Nat.lt_or_ge (sB x) 300 with y | y
          · exact y
          · exact absurd (show nI (sB x) = nI 300 by rw [show sB x = 300 by omega]) z4
        have haA := isFst_lt hra
        have hbA := isFst_lt hrb
        have hrg := of_decide_eq_true ((b2i_ne _).mp z3)
        have V : vp_in (nI (sB x + 1)) 301 := vp_in_nI (by omega) (by decide)
        have enar : vp_nar .boolean 1 = 1 := nar_b true
        have fin := h1 hok q5 a b hra hrb hrg hlt
        refine ⟨_, gl_of m10 rfl, ⟨_, m10⟩, ?_⟩
        show wp_MO_make E _ w1 (ad (10, 0, 0)) ((nI (sO x)).toInt64 - 1 + 1)
        rw [cl_1]
        refine mo_make R1 M1 hO hS hlt (sO x) (fun w11 ct11 G11 R11 M11 S11 f11 F11 => ?_)
        obtain ⟨n10, -, -, -, -, -, -, n17, -⟩ := mR_at R11 M11
        refine ⟨_, gr_of n10 rfl, _, rfl, _, _, xaI_of n17, V, fun w16 e16 => ?_⟩
        have e16 : w16 = va_up w11 (ad (17, 0, 0)) (some (xcI (E.1 3) 301 (upd (gF G11) (nI (sB x + 1)).toNatClampNeg (vp_nar .boolean 1)))) := e16
        rw [nI_clamp (by omega), enar, f11] at e16
        obtain ⟨ct16, R16, M16, F16⟩ := mR_gF R11 M11 (upd (gF G) (sB x + 1) 1)
        rw [← e16] at R16
        have S16 : mS (uNB x (sO x)) (sgF G11 (upd (gF G) (sB x + 1) 1)) := by
          have := mS_gF S11 (sB x) 1 (Nat.lt_succ_self _)
          rw [f11] at this
          exact this
        have g16 : gF (sgF G11 (upd (gF G) (sB x + 1) 1)) = upd (gF G) (sB x + 1) 1 := rfl
        generalize sgF G11 (upd (gF G) (sB x + 1) 1) = G16 at M16 S16 g16
        have k10 := (mR_at R16 M16).1
        refine ⟨⟨_, k10⟩, mo_first R16 M16 hA (fun i hi => ⟨(S16.1 i hi).1, (S16.1 i hi).2.1⟩) o k (fun ra' hra' => ⟨⟨_, k10⟩, ?_⟩)⟩
        have hra' : isFst x o k ra' := hra'
        rw [isFst_uniq hra' hra]
        show wp_MO_put E _ w16 (ad (10, 0, 0)) (nI (sB x + 1)) (nI (a + 1)) (stk x o k v)
        have hI16 : xInv (uNB x (sO x)) := Inv_nb hI hoo hlt
        refine mo_put R16 M16 hlt (fun z hz => (hI16.1.2.2.2.2.2 z hz).1) S16 (Nat.lt_succ_self _) (by rw [(sk_n x a v).1]; decide) _ (fun w20 ct20 G20 R20 M20 S20 f20 F20 => ?_)
        have l10 := (mR_at R20 M20).1
        have hI20 := Inv_sk1 hI hlt haA (stk x o k v)
        refine ⟨⟨_, l10⟩, mo_first R20 M20 hA (fun i hi => ⟨(S20.1 i hi).1, (S20.1 i hi).2.1⟩) o 5 (fun rb' hrb' => ⟨⟨_, l10⟩, ?_⟩)⟩
        have hrb' : isFst x o 5 rb' := hrb'
        rw [isFst_uniq hrb' hrb]
        show wp_MO_put E _ w20 (ad (10, 0, 0)) (nI (sB x + 1)) (nI (b + 1)) (-(stk x o k v))
        refine mo_put R20 M20 hlt (fun z hz => (hI20.1.2.2.2.2.2 z hz).1) S20 (Nat.lt_succ_self _) (by rw [(sk_n x a (stk x o k v)).2.2.2]; decide) _ (fun w24 ct24 G24 R24 M24 S24 f24 F24 => ?_)
        have p10 := (mR_at R24 M24).1
        have hI24 := Inv_sk0 hI hlt haA hbA (stk x o k v)
        have e24 : gF G24 = upd (gF G) (sB x + 1) 1 := (f24.trans f20).trans g16
        have hgf : ¬ gF G24 (sB x + 1) = 0 := by rw [e24, pk_us]; decide
        have hbf : bF (uSk0 x a b (stk x o k v)) (sB x) = false := (sk_n x a v).2.2.1
        refine ⟨⟨_, p10⟩, mo_go (x := uSk0 x a b (stk x o k v)) R24 M24 hI24 S24 (Nat.lt_succ_self _) (sk_n x a v).2.1 (fun _ y => absurd (oSum_sk x a b (stk x o k v)) (y hgf)) (fun y => by rw [hbf] at y; cases y) (fun _ _ w26 ct26 G26 R26 M26 S26 f26 F26 => ⟨fun y => absurd y (by decide), fun _ => ?_⟩)⟩
        exact fin w26 ct26 G26 R26 M26 S26 (f26.trans e24) (((((F1.trans F11).trans F16).trans F20).trans F24).trans F26)
      · obtain ⟨a, rfl⟩ := Option.ne_none_iff_exists'.mp (fun y => z ((fI_0 (isFst_60 hA hra)).mpr y))
        obtain ⟨b, rfl⟩ := Option.ne_none_iff_exists'.mp (fun y => z2 ((fI_0 (isFst_60 hA hrb)).mpr y))
        exact h4 hok q5 a b hra hrb (of_decide_eq_true ((b2i_ne _).mp z3)) ((nI_eq (show sB x < _ by omega) (by decide)).mp (show nI (sB x) = nI 300 from z4)) w1 ct1 R1 M1 F1
    | succ d ih =>
      intro i hi
      have h9 := ih (i + 1) (by omega)
      have hi2 : i < sA x := by omega
      have hs := hS2 i hi2
      have V : vp_in (nI (i + 1)) 61 := vp_in_nI (by omega) (by decide)
      have go : ¬ (aO x i = o ∧ aK x i = k) → wl_MO_stock_51 E post (d + 1) w1 (ad (10, 0, 0)) o k v (sumL (kindF x o k) i) (nI (i + 1) + 1) := by
        intro z
        have e : sumL (kindF x o k) (i + 1) = sumL (kindF x o k) i := by
          show sumL (kindF x o k) i + kindF x o k i = _
          rw [kindF, if_neg z, Int64.add_zero]
        rw [e] at h9
        rw [nI_1]; exact h9
      refine ⟨_, gi_of m10 rfl, fun z => absurd z (show ¬ nI (sA x) < nI (i + 1) from nI_nlt (by omega) (by omega)), fun _ => ⟨_, gr_of m10 rfl, _, rfl, _, _, xaI_of m11, V, ?_⟩⟩
      rw [nI_clamp (by omega), hs.1]
      refine ⟨fun z => go (fun y => z y.1), fun z => ⟨_, gr_of m10 rfl, _, rfl, _, _, xaI_of m12, V, ?_⟩⟩
      rw [hs.2]
      refine ⟨fun z2 => go (fun y => z2 y.2), fun z2 => ⟨⟨_, m10⟩, mo_ever R1 M1 hO hS hi2 ?_⟩⟩
      have e : sumL (kindF x o k) (i + 1) = sumL (kindF x o k) i + mTot x i := by
        show sumL (kindF x o k) i + kindF x o k i = _
        rw [kindF, if_pos ⟨z, z2⟩, hI.2.2.2.2.1 i hi2]
      rw [e] at h9
      rw [nI_1]; exact h9
  exact ⟨_, key (sA x) 0 (by omega)⟩
end MOT
