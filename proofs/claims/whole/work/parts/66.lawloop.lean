/-! the law: its loop, its beginning -/
def wl_LA_law (E : xE_T) (L : Nat) (xs : Nat → Int32) (a1 a2 a3 : Nat) : Nat → xw_T → Nat → Int32 → Prop
  | 0 => fun _ _ _ => False
  | n + 1 => fun w k i => k ≤ 512 ∧ (¬ nI L - 5 < i → (vp_in i L ∧ ((xs i.toNatClampNeg) &&& 15 = nI 0 → wc_104 E L xs (fun w => wl_LA_law E L xs a1 a2 a3 n w (k + 1) (i + 5)) w a1 a2 a3 i) ∧ ((xs i.toNatClampNeg) &&& 15 = nI 1 → wc_141 E L xs (fun w => wl_LA_law E L xs a1 a2 a3 n w (k + 1) (i + 5)) w a1 a2 a3 i) ∧ ((xs i.toNatClampNeg) &&& 15 = nI 2 → wc_198 E L xs (fun w => wl_LA_law E L xs a1 a2 a3 n w (k + 1) (i + 5)) w a1 a2 a3 i) ∧ ((xs i.toNatClampNeg) &&& 15 = nI 3 → wc_279 E L xs (fun w => wl_LA_law E L xs a1 a2 a3 n w (k + 1) (i + 5)) w a1 a2 a3 i) ∧ ((xs i.toNatClampNeg) &&& 15 = nI 4 → wc_335 E L xs (fun w => wl_LA_law E L xs a1 a2 a3 n w (k + 1) (i + 5)) w a1 a2 a3 i) ∧ ((xs i.toNatClampNeg) &&& 15 = nI 5 → wc_405 E L xs (fun w => wl_LA_law E L xs a1 a2 a3 n w (k + 1) (i + 5)) w a1 a2 a3 i) ∧ ((xs i.toNatClampNeg) &&& 15 = nI 6 → wc_462 E L xs (fun w => wl_LA_law E L xs a1 a2 a3 n w (k + 1) (i + 5)) w a1 a2 a3 i) ∧ ((xs i.toNatClampNeg) &&& 15 = nI 7 → wc_487 E L xs (fun w => wl_LA_law E L xs a1 a2 a3 n w (k + 1) (i + 5)) w a1 a2 a3 i) ∧ ((xs i.toNatClampNeg) &&& 15 = nI 8 → wc_568 E L xs (fun w => wl_LA_law E L xs a1 a2 a3 n w (k + 1) (i + 5)) w a1 a2 a3 i) ∧ ((xs i.toNatClampNeg) &&& 15 = nI 9 → wc_637 E L xs (fun w => wl_LA_law E L xs a1 a2 a3 n w (k + 1) (i + 5)) w a1 a2 a3 i) ∧ ((xs i.toNatClampNeg) &&& 15 = nI 10 → wc_690 E L xs (fun w => wl_LA_law E L xs a1 a2 a3 n w (k + 1) (i + 5)) w a1 a2 a3 i) ∧ ((xs i.toNatClampNeg) &&& 15 = nI 11 → wc_716 E L xs (fun w => wl_LA_law E L xs a1 a2 a3 n w (k + 1) (i + 5)) w a1 a2 a3 i) ∧ ((xs i.toNatClampNeg) &&& 15 = nI 12 → wc_729 E L xs (fun w => wl_LA_law E L xs a1 a2 a3 n w (k + 1) (i + 5)) w a1 a2 a3 i) ∧ ((xs i.toNatClampNeg) &&& 15 = nI 13 ∨ (xs i.toNatClampNeg) &&& 15 = nI 14 ∨ (xs i.toNatClampNeg) &&& 15 = nI 15 → wl_LA_law E L xs a1 a2 a3 n w (k + 1) (i + 5))))
section LAWL
variable {p : Program} {l : Launch} {e : Env} {s : State} {m : MethodId} {args : Array Value} {below : List Frame} {meth : Method} {c : Code} {Q : State → Prop} {D : va_G} {E : xE_T} {A : Nat → Prop} {b L : Nat} {xs : Nat → Int32}
set_option maxHeartbeats 4000000 in
set_option maxRecDepth 100000 in
theorem k_loop (hlT : l.stackTraces = false) (hx : p.tables.exec = Jvm.exec) (hb : c.code = cLA_law) (hml : c.maxLocals = 7) (hown : s.vm.findClass RLA = some m.cls) (hr : meth.sig.returnType = ret) (hlocks : meth.locks = false) (hts : ∀ w ∈ xTB, w.before #[Value.ref b] s = true) (hK : va_K D vwCl (xtys E) s) (hE : xF E (fun q => s.heap.size ≤ q) s) (hX : va_X b L xs s s.heap) (hbl : b < s.heap.size) (hbA : ¬ s.heap.size ≤ b) {a1 a2 a3 : Nat} :
    ∀ (n : Nat) (w : xw_T) (k : Nat) (i : Int32) (H : Heap) (locs : List Loc) (ls : Array Slot), lv_has ls 7 [(4, .int (i)), (3, .ref a3), (2, .ref a2), (1, .ref a1), (0, .ref b)] → xw_S D vwCl (fun q => s.heap.size ≤ q) s.heap w H locs → wl_LA_law E L xs a1 a2 a3 n w k i → W p l e room_1 s m #[Value.ref b] below meth c H locs (17 + 27 * k) (9541 + 4791 * k) (lw_Z below #[Value.ref b] s) (F0 m 23 ls []) := by
  intro n
  induction n with
  | zero => intro w k i H locs ls hl hw h; exact h.elim
  | succ n ih =>
    intro w k i H locs ls hl hw h
    dsimp only [wl_LA_law] at h
    obtain ⟨hkk, h⟩ := h
    refine lv_iload hx hb dLA_law_23 (lv_at hl 0 rfl) ?_
    refine lv_aload_n hx hb dLA_law_25 rfl (lv_at hl 4 rfl) ?_
    refine va_slen hx hb hX hbl hbA hw.2.1 dLA_law_26 ?_
    refine lv_iconst (v := 5) hx hb dLA_law_27 (by decide) ?_
    refine lv_isub hx hb dLA_law_28 ?_
    refine lv_icmp_gt (tgt := 749) hx hb dLA_law_29 rfl (fun hc => ?_) (fun hc => ?_)
    · refine lv_iconst (v := 1) hx hb dLA_law_749 (by decide) ?_
      refine va_forget (fun q hq => hw.2.1.2.2 q hq) ?_
      refine W.widen (k := 601024) (n := 7293034) (by omega) (by omega) ?_
      exact lw_ret hx hb hr hlocks dLA_law_750
    replace h := h hc
    obtain ⟨hin9, h⟩ := h
    refine lv_aload_n hx hb dLA_law_32 rfl (lv_at hl 4 rfl) ?_
    refine lv_iload hx hb dLA_law_33 (lv_at hl 0 rfl) ?_
    refine va_sld hx hb hX hbl hbA hw.2.1 hin9 dLA_law_35 ?_
    refine lv_bipush (v := 15) hx hb dLA_law_36 (by decide) ?_
    refine lv_iand hx hb dLA_law_38 ?_
    obtain ⟨j, hj, ej⟩ := pk_andE (xs i.toNatClampNeg) (m := 15) 4 (by decide)
    rw [ej]
    rcases (show j = 0 ∨ j = 1 ∨ j = 2 ∨ j = 3 ∨ j = 4 ∨ j = 5 ∨ j = 6 ∨ j = 7 ∨ j = 8 ∨ j = 9 ∨ j = 10 ∨ j = 11 ∨ j = 12 ∨ j = 13 ∨ j = 14 ∨ j = 15 by omega) with rfl | rfl | rfl | rfl | rfl | rfl | rfl | rfl | rfl | rfl | rfl | rfl | rfl | rfl | rfl | rfl
    · replace h := h.1 ej
      refine lv_tableIn (tgt := 104) hx hb dLA_law_39 (by decide) (by decide) rfl rfl ?_
      exact k_104 hlT hx hb hml hown hts hK hE hX hbl hbA hl hw hkk h (fun w H locs ls hl hw h => ih w (k + 1) (i + 5) H locs ls hl hw h)
    · replace h := h.2.1 ej
      refine lv_tableIn (tgt := 141) hx hb dLA_law_39 (by decide) (by decide) rfl rfl ?_
      exact k_141 hlT hx hb hml hown hts hK hE hX hbl hbA hl hw hkk h (fun w H locs ls hl hw h => ih w (k + 1) (i + 5) H locs ls hl hw h)
    · replace h := h.2.2.1 ej
      refine lv_tableIn (tgt := 198) hx hb dLA_law_39 (by decide) (by decide) rfl rfl ?_
      exact k_198 hlT hx hb hml hown hts hK hE hX hbl hbA hl hw hkk h (fun w H locs ls hl hw h => ih w (k + 1) (i + 5) H locs ls hl hw h)
    · replace h := h.2.2.2.1 ej
      refine lv_tableIn (tgt := 279) hx hb dLA_law_39 (by decide) (by decide) rfl rfl ?_
      exact k_279 hlT hx hb hml hown hts hK hE hX hbl hbA hl hw hkk h (fun w H locs ls hl hw h => ih w (k + 1) (i + 5) H locs ls hl hw h)
    · replace h := h.2.2.2.2.1 ej
      refine lv_tableIn (tgt := 335) hx hb dLA_law_39 (by decide) (by decide) rfl rfl ?_
      exact k_335 hlT hx hb hml hown hts hK hE hX hbl hbA hl hw hkk h (fun w H locs ls hl hw h => ih w (k + 1) (i + 5) H locs ls hl hw h)
    · replace h := h.2.2.2.2.2.1 ej
      refine lv_tableIn (tgt := 405) hx hb dLA_law_39 (by decide) (by decide) rfl rfl ?_
      exact k_405 hlT hx hb hml hown hts hK hE hX hbl hbA hl hw hkk h (fun w H locs ls hl hw h => ih w (k + 1) (i + 5) H locs ls hl hw h)
    · replace h := h.2.2.2.2.2.2.1 ej
      refine lv_tableIn (tgt := 462) hx hb dLA_law_39 (by decide) (by decide) rfl rfl ?_
      exact k_462 hlT hx hb hml hown hts hK hE hX hbl hbA hl hw hkk h (fun w H locs ls hl hw h => ih w (k + 1) (i + 5) H locs ls hl hw h)
    · replace h := h.2.2.2.2.2.2.2.1 ej
      refine lv_tableIn (tgt := 487) hx hb dLA_law_39 (by decide) (by decide) rfl rfl ?_
      exact k_487 hlT hx hb hml hown hts hK hE hX hbl hbA hl hw hkk h (fun w H locs ls hl hw h => ih w (k + 1) (i + 5) H locs ls hl hw h)
    · replace h := h.2.2.2.2.2.2.2.2.1 ej
      refine lv_tableIn (tgt := 568) hx hb dLA_law_39 (by decide) (by decide) rfl rfl ?_
      exact k_568 hlT hx hb hml hown hts hK hE hX hbl hbA hl hw hkk h (fun w H locs ls hl hw h => ih w (k + 1) (i + 5) H locs ls hl hw h)
    · replace h := h.2.2.2.2.2.2.2.2.2.1 ej
      refine lv_tableIn (tgt := 637) hx hb dLA_law_39 (by decide) (by decide) rfl rfl ?_
      exact k_637 hlT hx hb hml hown hts hK hE hX hbl hbA hl hw hkk h (fun w H locs ls hl hw h => ih w (k + 1) (i + 5) H locs ls hl hw h)
    · replace h := h.2.2.2.2.2.2.2.2.2.2.1 ej
      refine lv_tableIn (tgt := 690) hx hb dLA_law_39 (by decide) (by decide) rfl rfl ?_
      exact k_690 hlT hx hb hml hown hts hK hE hX hbl hbA hl hw hkk h (fun w H locs ls hl hw h => ih w (k + 1) (i + 5) H locs ls hl hw h)
    · replace h := h.2.2.2.2.2.2.2.2.2.2.2.1 ej
      refine lv_tableIn (tgt := 716) hx hb dLA_law_39 (by decide) (by decide) rfl rfl ?_
      exact k_716 hlT hx hb hml hown hts hK hE hX hbl hbA hl hw hkk h (fun w H locs ls hl hw h => ih w (k + 1) (i + 5) H locs ls hl hw h)
    · replace h := h.2.2.2.2.2.2.2.2.2.2.2.2.1 ej
      refine lv_tableIn (tgt := 729) hx hb dLA_law_39 (by decide) (by decide) rfl rfl ?_
      exact k_729 hlT hx hb hml hown hts hK hE hX hbl hbA hl hw hkk h (fun w H locs ls hl hw h => ih w (k + 1) (i + 5) H locs ls hl hw h)
    · replace h := h.2.2.2.2.2.2.2.2.2.2.2.2.2 (Or.inl ej)
      refine lv_tableOut (tgt := 743) hx hb dLA_law_39 (by decide) rfl ?_
      refine lv_iinc (k := 0) (v := i + 5) (lv' := [(4, .int (i + 5)), (3, .ref a3), (2, .ref a2), (1, .ref a1), (0, .ref b)]) hx hb dLA_law_743 hl rfl rfl (by decide) (by first | rfl | simp [va_rf_cat, xcat_i, xcat_l, xcat_r, xcat_n]) (fun ls hl => ?_)
      refine lv_goto (tgt := 23) hx hb dLA_law_746 rfl ?_
      refine W.widen (k := 17 + 27 * (k + 1)) (n := 9541 + 4791 * (k + 1)) (by omega) (by omega) ?_
      exact ih w (k + 1) (i + 5) H locs ls hl hw h
    · replace h := h.2.2.2.2.2.2.2.2.2.2.2.2.2 (Or.inr (Or.inl ej))
      refine lv_tableOut (tgt := 743) hx hb dLA_law_39 (by decide) rfl ?_
      refine lv_iinc (k := 0) (v := i + 5) (lv' := [(4, .int (i + 5)), (3, .ref a3), (2, .ref a2), (1, .ref a1), (0, .ref b)]) hx hb dLA_law_743 hl rfl rfl (by decide) (by first | rfl | simp [va_rf_cat, xcat_i, xcat_l, xcat_r, xcat_n]) (fun ls hl => ?_)
      refine lv_goto (tgt := 23) hx hb dLA_law_746 rfl ?_
      refine W.widen (k := 17 + 27 * (k + 1)) (n := 9541 + 4791 * (k + 1)) (by omega) (by omega) ?_
      exact ih w (k + 1) (i + 5) H locs ls hl hw h
    · replace h := h.2.2.2.2.2.2.2.2.2.2.2.2.2 (Or.inr (Or.inr ej))
      refine lv_tableOut (tgt := 743) hx hb dLA_law_39 (by decide) rfl ?_
      refine lv_iinc (k := 0) (v := i + 5) (lv' := [(4, .int (i + 5)), (3, .ref a3), (2, .ref a2), (1, .ref a1), (0, .ref b)]) hx hb dLA_law_743 hl rfl rfl (by decide) (by first | rfl | simp [va_rf_cat, xcat_i, xcat_l, xcat_r, xcat_n]) (fun ls hl => ?_)
      refine lv_goto (tgt := 23) hx hb dLA_law_746 rfl ?_
      refine W.widen (k := 17 + 27 * (k + 1)) (n := 9541 + 4791 * (k + 1)) (by omega) (by omega) ?_
      exact ih w (k + 1) (i + 5) H locs ls hl hw h
end LAWL
def wp_LA_law (E : xE_T) (L : Nat) (xs : Nat → Int32) (w : xw_T) : Prop := ∀ q1 : Nat, (w q1 = none ∧ q1 ≠ E.2 6) → ∀ w2, w2 = va_up w q1 (some (.inr (4, [.null, .null, .int 0, .int 0]))) → (wp_PL_init E (fun w4 => ∀ q5 : Nat, (w4 q5 = none ∧ q5 ≠ E.2 6) → ∀ w6, w6 = va_up w4 q5 (some (.inr (5, [.int 0, .int 0, .null, .null, .null, .int 0, .null, .null, .null, .null, .null, .null, .null, .null, .int 0, .null, .long 0]))) → (wp_MO_init E (fun w8 => ∀ q9 : Nat, (w8 q9 = none ∧ q9 ≠ E.2 6) → ∀ w10, w10 = va_up w8 q9 (some (xcL (E.1 2) 1 (fun _ => 0))) → (∃ n, wl_LA_law E L xs q1 q5 q9 n w10 0 0)) w6 q5)) w2 q1)
section LAWB
variable {p : Program} {l : Launch} {e : Env} {s : State} {m : MethodId} {args : Array Value} {below : List Frame} {meth : Method} {c : Code} {Q : State → Prop} {D : va_G} {E : xE_T} {A : Nat → Prop} {b L : Nat} {xs : Nat → Int32}
set_option maxHeartbeats 4000000 in
set_option maxRecDepth 100000 in
theorem k_law (hlT : l.stackTraces = false) (C9 : lw_At p s m meth c b L xs) (hK : va_K D vwCl (xtys E) s) (hE : xF E (fun q => s.heap.size ≤ q) s) (h : wp_LA_law E L xs (fun _ => none)) : W p l e room_1 s m #[Value.ref b] below meth c s.heap [] 0 0 (lw_Z below #[Value.ref b] s) (entryFrame m ([Value.ref b] : List Value).toArray 7) := by
  obtain ⟨hx, hb, hr, hml, hown, hts9, hX, hbl, hlocks, -⟩ := C9
  have hts : ∀ w ∈ xTB, w.before #[Value.ref b] s = true := fun w hw => hts9 w (xTB_in w hw)
  have hown : s.vm.findClass RLA = some m.cls := hown
  have hbA : ¬ s.heap.size ≤ b := by omega
  obtain ⟨A, hAe⟩ : ∃ A : Nat → Prop, A = (fun q => s.heap.size ≤ q) := ⟨_, rfl⟩
  have hw : xw_S D vwCl (fun q => s.heap.size ≤ q) s.heap (fun _ => none) s.heap [] := by
    refine ⟨⟨[], fun a e => ⟨fun h => ?_, fun h => ?_⟩, fun k q hk => ?_, ⟨fun i j x y hi _ _ => ?_, fun k q hk => ?_⟩⟩, va_S.rf, fun q h => h⟩
    · cases h
    · obtain ⟨k, hk⟩ := h
      simp at hk
    · simp at hk
    · simp at hi
    · simp at hk
  refine xl_start (lvs := [(0, .ref b)]) (Nat.le_of_ble_eq_true rfl) rfl (fun ls hl => ?_)
  unfold wp_LA_law at h
  generalize (fun _ => none : xw_T) = w at hw h
  refine xw_new (ci := 4) (fs := [.null, .null, .int 0, .int 0]) (C := RPL) (T := TPL) (N := 4) hx hb hts inPL tyPL tyPL_ok hown (hts _ mw_472) (hts _ mw_473) (hts _ mw_95) hK hw rfl (by decide +kernel) (Nat.le_of_ble_eq_true rfl) (Nat.le_of_ble_eq_true rfl) dLA_law_0 (fun q1 H hq hqA hw => ?_)
  replace h := h _ ⟨hq, xq6 hE hqA⟩ _ rfl
  generalize va_up w q1 (some (.inr (4, [.null, .null, .int 0, .int 0]))) = w2 at hw h
  refine lv_dup hx hb dLA_law_3 rfl ?_
  have hcall := h
  clear h
  refine xw_callv (va_runI (As := []) (rest := [.ref q1]) ⟨hx, hb, hml, hown, hts⟩ (c_PL_init l D E (fun q => s.heap.size ≤ q) _ w2 q1 hcall) (cwI 0 hts (xG_I mw_470) rfl rfl rfl (hts _ mw_95) (hts _ mw_469) (hts _ mw_471) rfl (by decide +kernel) ⟨(Nat.le_of_ble_eq_true rfl), (Nat.le_of_ble_eq_true rfl)⟩) (xw_preS hw hK hE) rfl rfl hl.1 rfl (lv_room (by first | exact Nat.le_of_ble_eq_true rfl | simp [va_rf_cat, xcat_i, xcat_l, xcat_r, xcat_n])) dLA_law_4 ⟨(Nat.le_of_ble_eq_true rfl), (Nat.le_of_ble_eq_true rfl)⟩) hw (fun w4 H locs h hw => ?_)
  clear hcall
  refine lv_astore_n (i := 1) (lv' := [(1, .ref q1), (0, .ref b)]) hx hb dLA_law_7 rfl hl (by decide) (by first | rfl | simp [va_rf_cat, xcat_i, xcat_l, xcat_r, xcat_n]) (fun ls hl => ?_)
  refine xw_new (ci := 5) (fs := [.int 0, .int 0, .null, .null, .null, .int 0, .null, .null, .null, .null, .null, .null, .null, .null, .int 0, .null, .long 0]) (C := RMO) (T := TMO) (N := 17) hx hb hts inMO tyMO tyMO_ok hown (hts _ mw_467) (hts _ mw_468) (hts _ mw_294) hK hw rfl (by decide +kernel) (Nat.le_of_ble_eq_true rfl) (Nat.le_of_ble_eq_true rfl) dLA_law_8 (fun q5 H hq hqA hw => ?_)
  replace h := h _ ⟨hq, xq6 hE hqA⟩ _ rfl
  generalize va_up w4 q5 (some (.inr (5, [.int 0, .int 0, .null, .null, .null, .int 0, .null, .null, .null, .null, .null, .null, .null, .null, .int 0, .null, .long 0]))) = w6 at hw h
  refine lv_dup hx hb dLA_law_11 rfl ?_
  have hcall := h
  clear h
  refine xw_callv (va_runI (As := []) (rest := [.ref q5]) ⟨hx, hb, hml, hown, hts⟩ (c_MO_init l D E (fun q => s.heap.size ≤ q) _ w6 q5 hcall) (cwI 0 hts (xG_I mw_465) rfl rfl rfl (hts _ mw_294) (hts _ mw_464) (hts _ mw_466) rfl (by decide +kernel) ⟨(Nat.le_of_ble_eq_true rfl), (Nat.le_of_ble_eq_true rfl)⟩) (xw_preS hw hK hE) rfl rfl hl.1 rfl (lv_room (by first | exact Nat.le_of_ble_eq_true rfl | simp [va_rf_cat, xcat_i, xcat_l, xcat_r, xcat_n])) dLA_law_12 ⟨(Nat.le_of_ble_eq_true rfl), (Nat.le_of_ble_eq_true rfl)⟩) hw (fun w8 H locs h hw => ?_)
  clear hcall
  refine lv_astore_n (i := 2) (lv' := [(2, .ref q5), (1, .ref q1), (0, .ref b)]) hx hb dLA_law_15 rfl hl (by decide) (by first | rfl | simp [va_rf_cat, xcat_i, xcat_l, xcat_r, xcat_n]) (fun ls hl => ?_)
  refine lv_iconst (v := 1) hx hb dLA_law_16 (by decide) ?_
  refine xw_newl (N' := 1) hx hb (hts _ mw_275) hK hw (by decide) (by decide) (by decide) (Nat.le_of_ble_eq_true rfl) (Nat.le_of_ble_eq_true rfl) dLA_law_17 (fun q9 H hq hqA hw => ?_)
  replace h := h _ ⟨hq, xq6 hE hqA⟩ _ rfl
  generalize va_up w8 q9 (some (xcL (E.1 2) 1 (fun _ => 0))) = w10 at hw h
  refine lv_astore_n (i := 3) (lv' := [(3, .ref q9), (2, .ref q5), (1, .ref q1), (0, .ref b)]) hx hb dLA_law_19 rfl hl (by decide) (by first | rfl | simp [va_rf_cat, xcat_i, xcat_l, xcat_r, xcat_n]) (fun ls hl => ?_)
  refine lv_iconst (v := 0) hx hb dLA_law_20 (by decide) ?_
  refine lv_istore (i := 4) (lv' := [(4, .int 0), (3, .ref q9), (2, .ref q5), (1, .ref q1), (0, .ref b)]) hx hb dLA_law_21 hl (by decide) (by first | rfl | simp [va_rf_cat, xcat_i, xcat_l, xcat_r, xcat_n]) (fun ls hl => ?_)
  obtain ⟨n, h⟩ := h
  exact k_loop hlT hx hb hml hown hr hlocks hts hK hE hX hbl hbA n _ 0 0 _ _ _ (lv_sub hl [0, 1, 2, 3, 4] rfl) hw h
end LAWB
