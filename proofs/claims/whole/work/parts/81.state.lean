/-! THE STATE OF THE BOOKS, and how the program holds it -/
abbrev xSt : Type := (Nat × Nat × Nat × Nat × Nat) × (Nat → Int32 × Int32 × Int32 × Int64) × (Nat → Nat × Nat × Bool × Bool × Nat × Nat) × (Nat → Nat → Nat × Int64) × (Nat → Nat)
def sA (x : xSt) : Nat := x.1.1
def sB (x : xSt) : Nat := x.1.2.1
def sP (x : xSt) : Nat := x.1.2.2.1
def sO (x : xSt) : Nat := x.1.2.2.2.1
def sR (x : xSt) : Nat := x.1.2.2.2.2
def aO (x : xSt) (i : Nat) : Int32 := (x.2.1 i).1
def aK (x : xSt) (i : Nat) : Int32 := (x.2.1 i).2.1
def aL (x : xSt) (i : Nat) : Int32 := (x.2.1 i).2.2.1
def aT (x : xSt) (i : Nat) : Int64 := (x.2.1 i).2.2.2
def bD (x : xSt) (j : Nat) : Nat := (x.2.2.1 j).1
def bS (x : xSt) (j : Nat) : Nat := (x.2.2.1 j).2.1
def bF (x : xSt) (j : Nat) : Bool := (x.2.2.1 j).2.2.1
def bK (x : xSt) (j : Nat) : Bool := (x.2.2.1 j).2.2.2.1
def bN (x : xSt) (j : Nat) : Nat := (x.2.2.1 j).2.2.2.2.1
def bC (x : xSt) (j : Nat) : Nat := (x.2.2.1 j).2.2.2.2.2
def rA (x : xSt) (j k : Nat) : Nat := (x.2.2.2.1 j k).1
def rV (x : xSt) (j k : Nat) : Int64 := (x.2.2.2.1 j k).2
def pB (x : xSt) (k : Nat) : Nat := x.2.2.2.2 k
def b2i (b : Bool) : Int32 := if b then 1 else 0
/-- what the objects of the program hold -/
abbrev plF (ad : xR → Nat) (x : xSt) : List Value := [.ref (ad (1, 0, 0)), .ref (ad (3, 0, 0)), .int (nI (sO x)), .int (nI (sR x))]
abbrev acF (x : xSt) (i : Nat) : List Value := [.int (aO x i), .int (aK x i), .int (aL x i), .long (aT x i)]
abbrev baF (E : xE_T) (ad : xR → Nat) (x : xSt) (j : Nat) : List Value := [.int (nI (bD x j)), .ref (ad (7, j, 0)), .ref (E.2 (bS x j)), .int (b2i (bF x j)), .int (b2i (bK x j)), .int (nI (bN x j))]
abbrev rwF (ad : xR → Nat) (x : xSt) (j k : Nat) : List Value := [.ref (ad (5, rA x j k, 0)), .long (rV x j k)]
def cC (E : xE_T) (ad : xR → Nat) (ct : xR → Option va_E) (x : xSt) : Prop :=
  (ct (0, 0, 0) = some (.inr (4, plF ad x)) ∧ nLs E ad ct (1, 0, 0) (2, 0, 0) (sA x) (fun i => ad (5, i, 0)) ∧ nLs E ad ct (3, 0, 0) (4, 0, 0) (sB x) (fun j => ad (6, j, 0))) ∧
  (∀ i, i < sA x → ct (5, i, 0) = some (.inr (1, acF x i))) ∧
  (∀ j, j < sB x → ct (6, j, 0) = some (.inr (2, baF E ad x j)) ∧ nLs E ad ct (7, j, 0) (8, j, 0) (bC x j) (fun k => ad (9, j, k)) ∧ (∀ k, k < bC x j → ct (9, j, k) = some (.inr (3, rwF ad x j k)) ∧ rA x j k < sA x) ∧ ∀ k, bC x j ≤ k → ct (9, j, k) = none) ∧
  (∀ i, sA x ≤ i → ct (5, i, 0) = none) ∧
  (∀ j, sB x ≤ j → ct (6, j, 0) = none ∧ ct (7, j, 0) = none ∧ ct (8, j, 0) = none ∧ ∀ k, ct (9, j, k) = none)
/-- the bounds that every walk needs -/
def sOk (x : xSt) : Prop := sA x ≤ 60 ∧ sB x ≤ 300 ∧ sP x ≤ sB x ∧ sO x ≤ 20001 ∧ sR x ≤ 3600 ∧ ∀ j, j < sB x → bC x j ≤ 12 ∧ bS x j ≤ 2 ∧ bD x j ≤ 20001 ∧ bN x j ≤ 3601
/-- a number, as the callers write it, of n things: the place of the thing -/
def num (p : Int32) (n : Nat) : Option Nat := if 1 ≤ p.toInt ∧ p.toInt ≤ n then some (p.toInt.toNat - 1) else none
theorem num_cases (p : Int32) {n : Nat} (hn : n < 2 ^ 31 - 1) : (p < 1 ∧ num p n = none) ∨ (¬ p < 1 ∧ nI n < p ∧ num p n = none) ∨ ∃ i, i < n ∧ p = nI (i + 1) ∧ num p n = some i := by
  have h1 : (1 : Int32).toInt = 1 := rfl
  have hnI : (nI n).toInt = (n : Int) := nI_toInt (by omega)
  by_cases h : p < 1
  · refine Or.inl ⟨h, if_neg (fun q => ?_)⟩
    have := Int32.lt_iff_toInt_lt.mp h
    omega
  · have h' : ¬ p.toInt < 1 := fun q => h (Int32.lt_iff_toInt_lt.mpr (by rw [h1]; exact q))
    by_cases h2 : nI n < p
    · refine Or.inr (Or.inl ⟨h, h2, if_neg (fun q => ?_)⟩)
      have := Int32.lt_iff_toInt_lt.mp h2
      omega
    · have h2' : ¬ (n : Int) < p.toInt := fun q => h2 (Int32.lt_iff_toInt_lt.mpr (by rw [hnI]; exact q))
      refine Or.inr (Or.inr ⟨p.toInt.toNat - 1, by omega, ?_, if_pos ⟨by omega, by omega⟩⟩)
      apply Int32.toInt_inj.mp
      rw [nI_toInt (by omega)]
      omega
section PLF
variable {E : xE_T} {w : xw_T} {ad : xR → Nat} {ct : xR → Option va_E} {x : xSt}
theorem pl_at (hR : xRp w ad ct) (hC : cC E ad ct x) : w (ad (0, 0, 0)) = some (.inr (4, plF ad x)) := hR.at hC.1.1
theorem ac_at (hR : xRp w ad ct) (hC : cC E ad ct x) {i : Nat} (hi : i < sA x) : w (ad (5, i, 0)) = some (.inr (1, acF x i)) := hR.at (hC.2.1 i hi)
theorem ba_at (hR : xRp w ad ct) (hC : cC E ad ct x) {j : Nat} (hj : j < sB x) : w (ad (6, j, 0)) = some (.inr (2, baF E ad x j)) := hR.at (hC.2.2.1 j hj).1
theorem rw_at (hR : xRp w ad ct) (hC : cC E ad ct x) {j k : Nat} (hj : j < sB x) (hk : k < bC x j) : w (ad (9, j, k)) = some (.inr (3, rwF ad x j k)) := hR.at ((hC.2.2.1 j hj).2.2.1 k hk).1
theorem gi_of {a ci k : Nat} {fs : List Value} {v : Int32} (h : w a = some (.inr (ci, fs))) (hk : fs[k]? = some (.int v)) : xgI w a ci k = some v := by
  rw [xgI, xg_of h, hk]; rfl
theorem gl_of {a ci k : Nat} {fs : List Value} {v : Int64} (h : w a = some (.inr (ci, fs))) (hk : fs[k]? = some (.long v)) : xgL w a ci k = some v := by
  rw [xgL, xg_of h, hk]; rfl
theorem gr_of {a ci k q : Nat} {fs : List Value} (h : w a = some (.inr (ci, fs))) (hk : fs[k]? = some (.ref q)) : xgR w a ci k = some (some q) := by
  rw [xgR, xg_of h, hk]; rfl
theorem pl_findAccount {post : Option Nat → xw_T → Prop} (hR : xRp w ad ct) (hC : cC E ad ct x) (hO : sOk x) (p : Int32) (h : post ((num p (sA x)).map (fun i => ad (5, i, 0))) w) : wp_PL_findAccount E post w (ad (0, 0, 0)) p := by
  have hL := hC.1.2.1
  have hP := pl_at hR hC
  have hn : sA x ≤ 60 := hO.1
  rcases num_cases p (n := sA x) (by omega) with ⟨h1, h2⟩ | ⟨h1, h2, h3⟩ | ⟨i, hi, h1, h2⟩
  · rw [h2] at h
    exact ⟨fun _ => h, fun q => absurd h1 q⟩
  · rw [h3] at h
    refine ⟨fun q => absurd q h1, fun _ => ⟨_, gr_of hP rfl, _, rfl, nl_recv hR hL, nl_size hR hL ⟨fun _ => h, fun q => absurd h2 q⟩⟩⟩
  · rw [h2] at h
    subst h1
    have g1 : ¬ nI (i + 1) < 1 := nI_nlt (b := 1) (by omega) (by omega)
    have g2 : ¬ nI (sA x) < nI (i + 1) := nI_nlt (by omega) (by omega)
    refine ⟨fun q => absurd q g1, fun _ => ⟨_, gr_of hP rfl, _, rfl, nl_recv hR hL, nl_size hR hL ⟨fun q => absurd q g2, fun _ => ⟨_, gr_of hP rfl, _, rfl, nl_recv hR hL, ?_⟩⟩⟩⟩
    rw [nI_pred]
    exact nl_get hR hL hi ⟨_, rfl, ⟨_, ac_at hR hC hi⟩, h⟩
theorem pl_findBatch {post : Option Nat → xw_T → Prop} (hR : xRp w ad ct) (hC : cC E ad ct x) (hO : sOk x) (p : Int32) (h : post ((num p (sB x)).map (fun i => ad (6, i, 0))) w) : wp_PL_findBatch E post w (ad (0, 0, 0)) p := by
  have hL := hC.1.2.2
  have hP := pl_at hR hC
  have hn : sB x ≤ 300 := hO.2.1
  rcases num_cases p (n := sB x) (by omega) with ⟨h1, h2⟩ | ⟨h1, h2, h3⟩ | ⟨i, hi, h1, h2⟩
  · rw [h2] at h
    exact ⟨fun _ => h, fun q => absurd h1 q⟩
  · rw [h3] at h
    refine ⟨fun q => absurd q h1, fun _ => ⟨_, gr_of hP rfl, _, rfl, nl_recv hR hL, nl_size hR hL ⟨fun _ => h, fun q => absurd h2 q⟩⟩⟩
  · rw [h2] at h
    subst h1
    have g1 : ¬ nI (i + 1) < 1 := nI_nlt (b := 1) (by omega) (by omega)
    have g2 : ¬ nI (sB x) < nI (i + 1) := nI_nlt (by omega) (by omega)
    refine ⟨fun q => absurd q g1, fun _ => ⟨_, gr_of hP rfl, _, rfl, nl_recv hR hL, nl_size hR hL ⟨fun q => absurd q g2, fun _ => ⟨_, gr_of hP rfl, _, rfl, nl_recv hR hL, ?_⟩⟩⟩⟩
    rw [nI_pred]
    exact nl_get hR hL hi ⟨_, rfl, ⟨_, ba_at hR hC hi⟩, h⟩
/-- small answers -/
theorem pl_isWithin {post : Int32 → xw_T → Prop} (v lo hi : Int64) (h : post (b2i (decide (lo ≤ v ∧ v ≤ hi))) w) : wp_PL_isWithin E post w v lo hi := by
  refine ⟨fun h1 => ?_, fun h1 => ⟨fun h2 => ?_, fun h2 => ?_⟩⟩
  · have e : decide (lo ≤ v ∧ v ≤ hi) = false := decide_eq_false (fun q => Int64.not_lt.mpr q.1 h1)
    rw [e] at h; exact h
  · have e : decide (lo ≤ v ∧ v ≤ hi) = false := decide_eq_false (fun q => Int64.not_lt.mpr q.2 h2)
    rw [e] at h; exact h
  · have e : decide (lo ≤ v ∧ v ≤ hi) = true := decide_eq_true ⟨Int64.not_lt.mp h1, Int64.not_lt.mp h2⟩
    rw [e] at h; exact h
theorem mo_isIn {post : Int32 → xw_T → Prop} (v lo hi : Int64) (h : post (b2i (decide (lo ≤ v ∧ v ≤ hi))) w) : wp_MO_isIn E post w v lo hi := pl_isWithin (E := E) v lo hi h
theorem pl_isOffice {post : Int32 → xw_T → Prop} (v : Int32) (h : post (b2i (decide (0 ≤ v ∧ v < 10))) w) : wp_PL_isOffice E post w v := by
  refine ⟨fun h1 => ?_, fun h1 => ⟨fun h2 => ?_, fun h2 => ?_⟩⟩
  · have e : decide (0 ≤ v ∧ v < 10) = false := decide_eq_false (fun q => Int32.not_lt.mpr q.1 h1)
    rw [e] at h; exact h
  · have e : decide (0 ≤ v ∧ v < 10) = false := decide_eq_false (fun q => Int32.not_lt.mpr h2 q.2)
    rw [e] at h; exact h
  · have e : decide (0 ≤ v ∧ v < 10) = true := decide_eq_true ⟨Int32.not_lt.mp h1, Int32.not_le.mp h2⟩
    rw [e] at h; exact h
theorem b2i_nar (b : Bool) : narrow .boolean (.int (b2i b)) = .int (b2i b) := by cases b <;> rfl
theorem b2i_fits (b : Bool) : fits .boolean (.int (b2i b)) = true := by cases b <;> rfl
theorem b2i_0 (b : Bool) : b2i b = 0 ↔ b = false := by cases b <;> decide
theorem b2i_1 (b : Bool) : b2i b = 1 ↔ b = true := by cases b <;> decide
theorem pl_isDay {post : Int32 → xw_T → Prop} (v : Int64) (h : post (b2i (decide (0 ≤ v ∧ v ≤ 20000))) w) : wp_PL_isDay E post w v := pl_isWithin (E := E) v 0 20000 ⟨b2i_nar _, h⟩
theorem pl_isClosed {post : Int32 → xw_T → Prop} (hR : xRp w ad ct) (hC : cC E ad ct x) (v : Int64) (h : post (b2i (decide (v < (nI (sO x)).toInt64))) w) : wp_PL_isClosed E post w (ad (0, 0, 0)) v := by
  refine ⟨_, gi_of (pl_at hR hC) rfl, fun h1 => ?_, fun h1 => ?_⟩
  · have e : decide (v < (nI (sO x)).toInt64) = false := decide_eq_false (fun q => Int64.not_lt.mpr h1 q)
    rw [e] at h; exact h
  · have e : decide (v < (nI (sO x)).toInt64) = true := decide_eq_true (Int64.not_le.mp h1)
    rw [e] at h; exact h
theorem pl_hasRoom {post : Int32 → xw_T → Prop} (hR : xRp w ad ct) (hC : cC E ad ct x) (hO : sOk x) (h : post (b2i (decide (sB x < 300))) w) : wp_PL_hasRoomForBatch E post w (ad (0, 0, 0)) := by
  have hL := hC.1.2.2
  have hn : sB x ≤ 300 := hO.2.1
  refine ⟨_, gr_of (pl_at hR hC) rfl, _, rfl, nl_recv hR hL, nl_size hR hL ⟨fun h1 => ?_, fun h1 => ?_⟩⟩
  · have e : decide (sB x < 300) = false := decide_eq_false (fun q => absurd h1 (show ¬ nI 300 ≤ nI (sB x) from nI_ge q (by omega)))
    rw [e] at h; exact h
  · have e : decide (sB x < 300) = true := decide_eq_true (Nat.not_le.mp (fun q => h1 (show nI 300 ≤ nI (sB x) from nI_le q (by omega))))
    rw [e] at h; exact h
theorem ba_isOpen {post : Int32 → xw_T → Prop} (hK : xEok E) (hR : xRp w ad ct) (hC : cC E ad ct x) (hO : sOk x) {j : Nat} (hj : j < sB x) (h : post (b2i (decide (bS x j = 0))) w) : wp_BA_isOpen E post w (ad (6, j, 0)) := by
  have hs := (hO.2.2.2.2.2 j hj).2.1
  have key : (some (E.2 (bS x j)) = some (E.2 0)) ↔ bS x j = 0 := by
    constructor
    · intro q
      have q := Option.some.inj q
      rcases (show bS x j = 0 ∨ bS x j = 1 ∨ bS x j = 2 by omega) with e | e | e
      · exact e
      · rw [e] at q; exact absurd q.symm hK.1.1
      · rw [e] at q; exact absurd q.symm hK.1.2.1
    · intro q; rw [q]
  refine ⟨_, gr_of (ba_at hR hC hj) rfl, fun h1 => ?_, fun h1 => ?_⟩
  · rw [decide_eq_false (fun q => h1 (key.mpr q))] at h; exact h
  · rw [decide_eq_true (key.mp h1)] at h; exact h
theorem ba_size {post : Int32 → xw_T → Prop} (hR : xRp w ad ct) (hC : cC E ad ct x) {j : Nat} (hj : j < sB x) (h : post (nI (bC x j)) w) : wp_BA_size E post w (ad (6, j, 0)) :=
  ⟨_, gr_of (ba_at hR hC hj) rfl, _, rfl, nl_recv hR (hC.2.2.1 j hj).2.1, nl_size hR (hC.2.2.1 j hj).2.1 h⟩
theorem ba_isFull {post : Int32 → xw_T → Prop} (hR : xRp w ad ct) (hC : cC E ad ct x) (hO : sOk x) {j : Nat} (hj : j < sB x) (h : post (b2i (decide (12 ≤ bC x j))) w) : wp_BA_isFull E post w (ad (6, j, 0)) := by
  have hL := (hC.2.2.1 j hj).2.1
  have hc := (hO.2.2.2.2.2 j hj).1
  refine ⟨_, gr_of (ba_at hR hC hj) rfl, _, rfl, nl_recv hR hL, nl_size hR hL ⟨fun h1 => ?_, fun h1 => ?_⟩⟩
  · rw [decide_eq_false (fun q => absurd h1 (show ¬ nI (bC x j) < nI 12 from nI_nlt q (by omega)))] at h; exact h
  · rw [decide_eq_true (Nat.not_lt.mp (fun q => h1 (show nI (bC x j) < nI 12 from nI_lt q (by omega))))] at h; exact h
end PLF
