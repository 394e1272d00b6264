/-! meanings and walks: REF 1 -/
def wp_MO_row (E : xE_T) (post : Int32 → xw_T → Prop) (w : xw_T) (h0 : Nat) (p0 : Int32) (p1 : Int32) (p2 : Int64) : Prop := (∃ v0, xg w h0 5 0 = some v0) ∧ ∀ w1, w1 = xp w h0 0 (.int 0) → ((∃ fs, w1 h0 = some (.inr (5, fs))) ∧ wp_MO_isBatch E (fun r2 w3 => (r2 = 0 → (post 0 w3)) ∧ (¬ r2 = 0 → ((∃ fs, w3 h0 = some (.inr (5, fs))) ∧ wp_MO_isAccount E (fun r4 w5 => (r4 = 0 → (post 0 w5)) ∧ (¬ r4 = 0 → ((p2 = 0 → (post 0 w5)) ∧ (¬ p2 = 0 → (wp_MO_isIn E (fun r6 w7 => (r6 = 0 → (post 0 w7)) ∧ (¬ r6 = 0 → (∃ v8, xgR w7 h0 5 6 = some v8 ∧ (∃ a9 : Nat, v8 = some a9 ∧ (∃ n10 f11, xaI w7 a9 (E.1 1) = some (n10, f11) ∧ vp_in p0 n10 ∧ ((¬ (f11 p0.toNatClampNeg) = 0 → (post 0 w7)) ∧ ((f11 p0.toNatClampNeg) = 0 → (∃ v12, xgR w7 h0 5 11 = some v12 ∧ (∃ a13 : Nat, v12 = some a13 ∧ (∃ n14 f15, xaI w7 a13 (E.1 1) = some (n14, f15) ∧ vp_in p0 n14 ∧ ((12 ≤ (f15 p0.toNatClampNeg) → (post 0 w7)) ∧ (¬ 12 ≤ (f15 p0.toNatClampNeg) → ((∃ fs, w7 h0 = some (.inr (5, fs))) ∧ wp_MO_put E (fun w17 => post 1 w17) w7 h0 p0 p1 p2))))))))))))) w5 p2 (-100000000) 100000000))))) w3 h0 p1))) w1 h0 p0)
set_option maxHeartbeats 4000000 in
set_option maxRecDepth 100000 in
theorem c_MO_row (l : Launch) (D : va_G) (E : xE_T) (A : Nat → Prop) (post : Int32 → xw_T → Prop) (w : xw_T) (h0 : Nat) (p0 : Int32) (p1 : Int32) (p2 : Int64) (h : wp_MO_row E post w h0 p0 p1 p2) : Met l yMO_row (xW yMO_row cMO_row 6 (some (.boolean))) ({ frames := 2, cells := 0, slots := 0, locals := 46 } : Room) (va_Pc [.ref h0, .int p0, .int p1, .long p2] (xP D E A w)) (va_Qi post (xB D A) A) 0 0 A := by
  refine Met.ofW (cc := cMO_row) (maxL := 6) (ret := (some (.boolean))) (by decide) rfl ?_
  intro p e s m args below meth c s₁ B hml hv
  obtain ⟨rfl, hw, hK, hE⟩ := hv
  have hx := B.exec
  have hb := B.bytes
  have hr := B.returns
  have hts : ∀ w ∈ xTB, w.before _ s = true := fun w hw => atoms_spec (ws := xW yMO_row cMO_row 6 (some (.boolean))) B.pre w (List.mem_cons_of_mem _ hw)
  have hown : s.vm.findClass RMO = some m.cls := findClass_of_methodNamed B.named
  have hlocks := B.notSynchronized
  have hw : xw_S D vwCl A s.heap w s.heap [] := xw_S0 hw
  refine xl_start (lvs := [(0, .ref h0), (1, .int p0), (2, .int p1), (3, .long p2)]) (by first | exact Nat.le_of_ble_eq_true rfl | simp [lg_sl, va_rf_cat, xcat_i, xcat_l, xcat_r, xcat_n]) (by first | rfl | simp [lv_args, va_rf_cat, xcat_i, xcat_l, xcat_r, xcat_n]) (fun ls hl => ?_)
  unfold wp_MO_row at h
  refine lv_aload_n hx hb dMO_row_0 rfl (lv_at hl 0 rfl) ?_
  refine lv_iconst (v := 0) hx hb dMO_row_1 (by decide) ?_
  obtain ⟨hv, h⟩ := h
  refine xw_put (ty := (.int)) (C := RMO) (T := TMO) (N := 17) (ref := RMO) hx hb hts inMO tyMO tyMO_ok nmMO hown hK hw rfl 0 (by decide) (hts _ mw_288) (fun _ h9 => h9) rfl (by decide +kernel) rfl rfl hv dMO_row_2 (fun H locs hw => ?_)
  replace h := h _ rfl
  generalize xp w h0 0 (.int 0) = w1 at hw h
  refine lv_aload_n hx hb dMO_row_5 rfl (lv_at hl 0 rfl) ?_
  refine lv_iload_n hx hb dMO_row_6 rfl (lv_at hl 1 rfl) ?_
  obtain ⟨⟨fs, hk⟩, h⟩ := h
  have hcall := h
  clear h
  refine xw_calli (va_runV (As := [.int p0]) (rest := []) ⟨hx, hb, hml, hown, hts⟩ (c_MO_isBatch l D E A _ w1 h0 p0 hcall) (cwV 1 hts (xG_V mw_315 mw_316 mw_317 mw_294 mw_318) rfl rfl rfl (by decide +kernel) ⟨(Nat.le_of_ble_eq_true rfl), (Nat.le_of_ble_eq_true rfl)⟩) (xw_preV (ci := 5) hw hK hE rfl hk) rfl rfl hl.1 rfl (lv_room (by first | exact Nat.le_of_ble_eq_true rfl | simp [va_rf_cat, xcat_i, xcat_l, xcat_r, xcat_n])) dMO_row_7 ⟨(Nat.le_of_ble_eq_true rfl), (Nat.le_of_ble_eq_true rfl)⟩) hw (fun r2 w3 H locs h hw => ?_)
  clear hcall
  refine lv_if_eq (tgt := 44) hx hb dMO_row_10 rfl (fun hc => ?_) (fun hc => ?_)
  · replace h := h.1 hc
    refine lv_iconst (v := 0) hx hb dMO_row_44 (by decide) ?_
    refine lv_istore (i := 5) (lv' := [(5, .int 0), (0, .ref h0), (1, .int p0), (2, .int p1), (3, .long p2)]) hx hb dMO_row_45 hl (by decide) (by first | rfl | simp [va_rf_cat, xcat_i, xcat_l, xcat_r, xcat_n]) (fun ls hl => ?_)
    refine lv_iload hx hb dMO_row_47 (lv_at hl 0 rfl) ?_
    refine lv_if_eq (tgt := 76) hx hb dMO_row_49 rfl (fun _ => ?_) (fun hc => absurd hc (by decide))
    refine lv_iconst (v := 0) hx hb dMO_row_76 (by decide) ?_
    refine lv_istore (i := 5) (lv' := [(5, .int 0), (0, .ref h0), (1, .int p0), (2, .int p1), (3, .long p2)]) hx hb dMO_row_77 hl (by decide) (by first | rfl | simp [va_rf_cat, xcat_i, xcat_l, xcat_r, xcat_n]) (fun ls hl => ?_)
    refine lv_iload hx hb dMO_row_79 (lv_at hl 0 rfl) ?_
    refine lv_if_eq (tgt := 91) hx hb dMO_row_81 rfl (fun _ => ?_) (fun hc => absurd hc (by decide))
    refine lv_iload hx hb dMO_row_91 (lv_at hl 0 rfl) ?_
    refine W.widen (k := 0) (n := 0) (Nat.le_of_ble_eq_true rfl) (Nat.le_of_ble_eq_true rfl) ?_
    exact xw_zret (by decide) hx hb hr hlocks hw h dMO_row_93
  · replace h := h.2 hc
    refine lv_aload_n hx hb dMO_row_13 rfl (lv_at hl 0 rfl) ?_
    refine lv_iload_n hx hb dMO_row_14 rfl (lv_at hl 2 rfl) ?_
    obtain ⟨⟨fs, hk⟩, h⟩ := h
    have hcall := h
    clear h
    refine xw_calli (va_runV (As := [.int p1]) (rest := []) ⟨hx, hb, hml, hown, hts⟩ (c_MO_isAccount l D E A _ w3 h0 p1 hcall) (cwV 1 hts (xG_V mw_311 mw_312 mw_313 mw_294 mw_314) rfl rfl rfl (by decide +kernel) ⟨(Nat.le_of_ble_eq_true rfl), (Nat.le_of_ble_eq_true rfl)⟩) (xw_preV (ci := 5) hw hK hE rfl hk) rfl rfl hl.1 rfl (lv_room (by first | exact Nat.le_of_ble_eq_true rfl | simp [va_rf_cat, xcat_i, xcat_l, xcat_r, xcat_n])) dMO_row_15 ⟨(Nat.le_of_ble_eq_true rfl), (Nat.le_of_ble_eq_true rfl)⟩) hw (fun r4 w5 H locs h hw => ?_)
    clear hcall
    refine lv_if_eq (tgt := 44) hx hb dMO_row_18 rfl (fun hc => ?_) (fun hc => ?_)
    · replace h := h.1 hc
      refine lv_iconst (v := 0) hx hb dMO_row_44 (by decide) ?_
      refine lv_istore (i := 5) (lv' := [(5, .int 0), (0, .ref h0), (1, .int p0), (2, .int p1), (3, .long p2)]) hx hb dMO_row_45 hl (by decide) (by first | rfl | simp [va_rf_cat, xcat_i, xcat_l, xcat_r, xcat_n]) (fun ls hl => ?_)
      refine lv_iload hx hb dMO_row_47 (lv_at hl 0 rfl) ?_
      refine lv_if_eq (tgt := 76) hx hb dMO_row_49 rfl (fun _ => ?_) (fun hc => absurd hc (by decide))
      refine lv_iconst (v := 0) hx hb dMO_row_76 (by decide) ?_
      refine lv_istore (i := 5) (lv' := [(5, .int 0), (0, .ref h0), (1, .int p0), (2, .int p1), (3, .long p2)]) hx hb dMO_row_77 hl (by decide) (by first | rfl | simp [va_rf_cat, xcat_i, xcat_l, xcat_r, xcat_n]) (fun ls hl => ?_)
      refine lv_iload hx hb dMO_row_79 (lv_at hl 0 rfl) ?_
      refine lv_if_eq (tgt := 91) hx hb dMO_row_81 rfl (fun _ => ?_) (fun hc => absurd hc (by decide))
      refine lv_iload hx hb dMO_row_91 (lv_at hl 0 rfl) ?_
      refine W.widen (k := 0) (n := 0) (Nat.le_of_ble_eq_true rfl) (Nat.le_of_ble_eq_true rfl) ?_
      exact xw_zret (by decide) hx hb hr hlocks hw h dMO_row_93
    · replace h := h.2 hc
      refine lv_lload_n hx hb dMO_row_21 rfl (lv_at hl 3 rfl) ?_
      refine lv_lconst (v := 0) hx hb dMO_row_22 (by decide) ?_
      refine xl_lc_eq (tgt := 44) hx hb dMO_row_23 dMO_row_24 rfl (fun hc => ?_) (fun hc => ?_)
      · replace h := h.1 hc
        refine lv_iconst (v := 0) hx hb dMO_row_44 (by decide) ?_
        refine lv_istore (i := 5) (lv' := [(5, .int 0), (0, .ref h0), (1, .int p0), (2, .int p1), (3, .long p2)]) hx hb dMO_row_45 hl (by decide) (by first | rfl | simp [va_rf_cat, xcat_i, xcat_l, xcat_r, xcat_n]) (fun ls hl => ?_)
        refine lv_iload hx hb dMO_row_47 (lv_at hl 0 rfl) ?_
        refine lv_if_eq (tgt := 76) hx hb dMO_row_49 rfl (fun _ => ?_) (fun hc => absurd hc (by decide))
        refine lv_iconst (v := 0) hx hb dMO_row_76 (by decide) ?_
        refine lv_istore (i := 5) (lv' := [(5, .int 0), (0, .ref h0), (1, .int p0), (2, .int p1), (3, .long p2)]) hx hb dMO_row_77 hl (by decide) (by first | rfl | simp [va_rf_cat, xcat_i, xcat_l, xcat_r, xcat_n]) (fun ls hl => ?_)
        refine lv_iload hx hb dMO_row_79 (lv_at hl 0 rfl) ?_
        refine lv_if_eq (tgt := 91) hx hb dMO_row_81 rfl (fun _ => ?_) (fun hc => absurd hc (by decide))
        refine lv_iload hx hb dMO_row_91 (lv_at hl 0 rfl) ?_
        refine W.widen (k := 0) (n := 0) (Nat.le_of_ble_eq_true rfl) (Nat.le_of_ble_eq_true rfl) ?_
        exact xw_zret (by decide) hx hb hr hlocks hw h dMO_row_93
      · replace h := h.2 hc
        refine lv_lload_n hx hb dMO_row_27 rfl (lv_at hl 3 rfl) ?_
        refine lv_ldc2 (v := (-100000000)) hx hb hown (hts _ mw_310) dMO_row_28 ?_
        refine lv_ldc2 (v := 100000000) hx hb hown (hts _ mw_309) dMO_row_31 ?_
        have hcall := h
        clear h
        refine xw_calli (va_runS (As := [.long p2, .long (-100000000), .long 100000000]) (rest := []) ⟨hx, hb, hml, hown, hts⟩ (c_MO_isIn l D E A _ w5 p2 (-100000000) 100000000 hcall) (va_cwS 3 hts (xG_S mw_292 mw_293 mw_294 mw_295) rfl rfl rfl (by decide +kernel) ⟨(Nat.le_of_ble_eq_true rfl), (Nat.le_of_ble_eq_true rfl)⟩) (xw_preS hw hK hE) rfl rfl hl.1 rfl (lv_room (by first | exact Nat.le_of_ble_eq_true rfl | simp [va_rf_cat, xcat_i, xcat_l, xcat_r, xcat_n])) dMO_row_34 ⟨(Nat.le_of_ble_eq_true rfl), (Nat.le_of_ble_eq_true rfl)⟩) hw (fun r6 w7 H locs h hw => ?_)
        clear hcall
        refine lv_if_eq (tgt := 44) hx hb dMO_row_37 rfl (fun hc => ?_) (fun hc => ?_)
        · replace h := h.1 hc
          refine lv_iconst (v := 0) hx hb dMO_row_44 (by decide) ?_
          refine lv_istore (i := 5) (lv' := [(5, .int 0), (0, .ref h0), (1, .int p0), (2, .int p1), (3, .long p2)]) hx hb dMO_row_45 hl (by decide) (by first | rfl | simp [va_rf_cat, xcat_i, xcat_l, xcat_r, xcat_n]) (fun ls hl => ?_)
          refine lv_iload hx hb dMO_row_47 (lv_at hl 0 rfl) ?_
          refine lv_if_eq (tgt := 76) hx hb dMO_row_49 rfl (fun _ => ?_) (fun hc => absurd hc (by decide))
          refine lv_iconst (v := 0) hx hb dMO_row_76 (by decide) ?_
          refine lv_istore (i := 5) (lv' := [(5, .int 0), (0, .ref h0), (1, .int p0), (2, .int p1), (3, .long p2)]) hx hb dMO_row_77 hl (by decide) (by first | rfl | simp [va_rf_cat, xcat_i, xcat_l, xcat_r, xcat_n]) (fun ls hl => ?_)
          refine lv_iload hx hb dMO_row_79 (lv_at hl 0 rfl) ?_
          refine lv_if_eq (tgt := 91) hx hb dMO_row_81 rfl (fun _ => ?_) (fun hc => absurd hc (by decide))
          refine lv_iload hx hb dMO_row_91 (lv_at hl 0 rfl) ?_
          refine W.widen (k := 0) (n := 0) (Nat.le_of_ble_eq_true rfl) (Nat.le_of_ble_eq_true rfl) ?_
          exact xw_zret (by decide) hx hb hr hlocks hw h dMO_row_93
        · replace h := h.2 hc
          refine lv_iconst (v := 1) hx hb dMO_row_40 (by decide) ?_
          refine lv_goto (tgt := 45) hx hb dMO_row_41 rfl ?_
          refine lv_istore (i := 5) (lv' := [(5, .int 1), (0, .ref h0), (1, .int p0), (2, .int p1), (3, .long p2)]) hx hb dMO_row_45 hl (by decide) (by first | rfl | simp [va_rf_cat, xcat_i, xcat_l, xcat_r, xcat_n]) (fun ls hl => ?_)
          refine lv_iload hx hb dMO_row_47 (lv_at hl 0 rfl) ?_
          refine lv_if_eq (tgt := 76) hx hb dMO_row_49 rfl (fun hc => absurd hc (by decide)) (fun _ => ?_)
          refine lv_aload_n hx hb dMO_row_52 rfl (lv_at hl 1 rfl) ?_
          obtain ⟨v8, hv, h⟩ := h
          refine xw_getR (C := RMO) (T := TMO) (N := 17) (ref := RMO) hx hb hts inMO hown hK hw rfl 6 (by decide) (hts _ mw_283) (fun _ h9 => h9) hv dMO_row_53 ?_
          refine lv_iload_n hx hb dMO_row_56 rfl (lv_at hl 2 rfl) ?_
          obtain ⟨a9, rfl, h⟩ := h
          obtain ⟨n10, f11, ha, hin9, h⟩ := h
          refine xw_iald hx hb hK hw 1 rfl ha hin9 dMO_row_57 ?_
          refine lv_if_ne (tgt := 76) hx hb dMO_row_58 rfl (fun hc => ?_) (fun hc => ?_)
          · replace h := h.1 hc
            refine lv_iconst (v := 0) hx hb dMO_row_76 (by decide) ?_
            refine lv_istore (i := 5) (lv' := [(5, .int 0), (0, .ref h0), (1, .int p0), (2, .int p1), (3, .long p2)]) hx hb dMO_row_77 hl (by decide) (by first | rfl | simp [va_rf_cat, xcat_i, xcat_l, xcat_r, xcat_n]) (fun ls hl => ?_)
            refine lv_iload hx hb dMO_row_79 (lv_at hl 0 rfl) ?_
            refine lv_if_eq (tgt := 91) hx hb dMO_row_81 rfl (fun _ => ?_) (fun hc => absurd hc (by decide))
            refine lv_iload hx hb dMO_row_91 (lv_at hl 0 rfl) ?_
            refine W.widen (k := 0) (n := 0) (Nat.le_of_ble_eq_true rfl) (Nat.le_of_ble_eq_true rfl) ?_
            exact xw_zret (by decide) hx hb hr hlocks hw h dMO_row_93
          · replace h := h.2 hc
            refine lv_aload_n hx hb dMO_row_61 rfl (lv_at hl 1 rfl) ?_
            obtain ⟨v12, hv, h⟩ := h
            refine xw_getR (C := RMO) (T := TMO) (N := 17) (ref := RMO) hx hb hts inMO hown hK hw rfl 11 (by decide) (hts _ mw_277) (fun _ h9 => h9) hv dMO_row_62 ?_
            refine lv_iload_n hx hb dMO_row_65 rfl (lv_at hl 2 rfl) ?_
            obtain ⟨a13, rfl, h⟩ := h
            obtain ⟨n14, f15, ha, hin9, h⟩ := h
            refine xw_iald hx hb hK hw 1 rfl ha hin9 dMO_row_66 ?_
            refine lv_bipush (v := 12) hx hb dMO_row_67 (by decide) ?_
            refine lv_icmp_ge (tgt := 76) hx hb dMO_row_69 rfl (fun hc => ?_) (fun hc => ?_)
            · replace h := h.1 hc
              refine lv_iconst (v := 0) hx hb dMO_row_76 (by decide) ?_
              refine lv_istore (i := 5) (lv' := [(5, .int 0), (0, .ref h0), (1, .int p0), (2, .int p1), (3, .long p2)]) hx hb dMO_row_77 hl (by decide) (by first | rfl | simp [va_rf_cat, xcat_i, xcat_l, xcat_r, xcat_n]) (fun ls hl => ?_)
              refine lv_iload hx hb dMO_row_79 (lv_at hl 0 rfl) ?_
              refine lv_if_eq (tgt := 91) hx hb dMO_row_81 rfl (fun _ => ?_) (fun hc => absurd hc (by decide))
              refine lv_iload hx hb dMO_row_91 (lv_at hl 0 rfl) ?_
              refine W.widen (k := 0) (n := 0) (Nat.le_of_ble_eq_true rfl) (Nat.le_of_ble_eq_true rfl) ?_
              exact xw_zret (by decide) hx hb hr hlocks hw h dMO_row_93
            · replace h := h.2 hc
              refine lv_iconst (v := 1) hx hb dMO_row_72 (by decide) ?_
              refine lv_goto (tgt := 77) hx hb dMO_row_73 rfl ?_
              refine lv_istore (i := 5) (lv' := [(5, .int 1), (0, .ref h0), (1, .int p0), (2, .int p1), (3, .long p2)]) hx hb dMO_row_77 hl (by decide) (by first | rfl | simp [va_rf_cat, xcat_i, xcat_l, xcat_r, xcat_n]) (fun ls hl => ?_)
              refine lv_iload hx hb dMO_row_79 (lv_at hl 0 rfl) ?_
              refine lv_if_eq (tgt := 91) hx hb dMO_row_81 rfl (fun hc => absurd hc (by decide)) (fun _ => ?_)
              refine lv_aload_n hx hb dMO_row_84 rfl (lv_at hl 1 rfl) ?_
              refine lv_iload_n hx hb dMO_row_85 rfl (lv_at hl 2 rfl) ?_
              refine lv_iload_n hx hb dMO_row_86 rfl (lv_at hl 3 rfl) ?_
              refine lv_lload_n hx hb dMO_row_87 rfl (lv_at hl 4 rfl) ?_
              obtain ⟨⟨fs, hk⟩, h⟩ := h
              have hcall := h
              clear h
              refine xw_callv (va_runV (As := [.int p0, .int p1, .long p2]) (rest := []) ⟨hx, hb, hml, hown, hts⟩ (c_MO_put l D E A _ w7 h0 p0 p1 p2 hcall) (cwV 3 hts (xG_V mw_305 mw_306 mw_307 mw_294 mw_308) rfl rfl rfl (by decide +kernel) ⟨(Nat.le_of_ble_eq_true rfl), (Nat.le_of_ble_eq_true rfl)⟩) (xw_preV (ci := 5) hw hK hE rfl hk) rfl rfl hl.1 rfl (lv_room (by first | exact Nat.le_of_ble_eq_true rfl | simp [va_rf_cat, xcat_i, xcat_l, xcat_r, xcat_n])) dMO_row_88 ⟨(Nat.le_of_ble_eq_true rfl), (Nat.le_of_ble_eq_true rfl)⟩) hw (fun w17 H locs h hw => ?_)
              clear hcall
              refine lv_iload hx hb dMO_row_91 (lv_at hl 0 rfl) ?_
              refine W.widen (k := 0) (n := 0) (Nat.le_of_ble_eq_true rfl) (Nat.le_of_ble_eq_true rfl) ?_
              exact xw_zret (by decide) hx hb hr hlocks hw h dMO_row_93
def wl_MO_part_6 (E : xE_T) (post : Int64 → xw_T → Prop) : Nat → xw_T → Nat → Int32 → Int32 → Int32 → Int64 → Int32 → Prop
  | 0 => fun _ _ _ _ _ _ _ => False
  | n6 + 1 => fun w x0 x1 x2 x3 x4 x6 => (x2 ≤ x6 → (post x4 w)) ∧ (¬ x2 ≤ x6 → (∃ v1, xgR w x0 5 12 = some v1 ∧ (∃ a2 : Nat, v1 = some a2 ∧ (∃ n3 f4, xaI w a2 (E.1 1) = some (n3, f4) ∧ vp_in ((12 * x1) + x6) n3 ∧ ((¬ (f4 ((12 * x1) + x6).toNatClampNeg) = x3 → (wl_MO_part_6 E post n6 w x0 x1 x2 x3 x4 (x6 + 1))) ∧ ((f4 ((12 * x1) + x6).toNatClampNeg) = x3 → (∃ v5, xgR w x0 5 13 = some v5 ∧ (∃ a6 : Nat, v5 = some a6 ∧ (∃ n7 f8, xaL w a6 (E.1 2) = some (n7, f8) ∧ vp_in ((12 * x1) + x6) n7 ∧ (wl_MO_part_6 E post n6 w x0 x1 x2 x3 (x4 + (f8 ((12 * x1) + x6).toNatClampNeg)) (x6 + 1)))))))))))
def wp_MO_part (E : xE_T) (post : Int64 → xw_T → Prop) (w : xw_T) (h0 : Nat) (p0 : Int32) (p1 : Int32) (p2 : Int32) : Prop := ∃ n6, wl_MO_part_6 E post n6 w h0 p0 p1 p2 0 0
set_option maxHeartbeats 4000000 in
set_option maxRecDepth 100000 in
theorem c_MO_part (l : Launch) (D : va_G) (E : xE_T) (A : Nat → Prop) (post : Int64 → xw_T → Prop) (w : xw_T) (h0 : Nat) (p0 : Int32) (p1 : Int32) (p2 : Int32) (h : wp_MO_part E post w h0 p0 p1 p2) : Met l yMO_part (xW yMO_part cMO_part 7 (some (.long))) ({ frames := 0, cells := 0, slots := 0, locals := 0 } : Room) (va_Pc [.ref h0, .int p0, .int p1, .int p2] (xP D E A w)) (va_Ql post (xB D A) A) 0 0 A := by
  refine Met.ofW (cc := cMO_part) (maxL := 7) (ret := (some (.long))) (by decide) rfl ?_
  intro p e s m args below meth c s₁ B hml hv
  obtain ⟨rfl, hw, hK, hE⟩ := hv
  have hx := B.exec
  have hb := B.bytes
  have hr := B.returns
  have hts : ∀ w ∈ xTB, w.before _ s = true := fun w hw => atoms_spec (ws := xW yMO_part cMO_part 7 (some (.long))) B.pre w (List.mem_cons_of_mem _ hw)
  have hown : s.vm.findClass RMO = some m.cls := findClass_of_methodNamed B.named
  have hlocks := B.notSynchronized
  have hw : xw_S D vwCl A s.heap w s.heap [] := xw_S0 hw
  have lo_6 : ∀ (n6 : Nat) (w : xw_T) (x0 : Nat) (x1 : Int32) (x2 : Int32) (x3 : Int32) (x4 : Int64) (x6 : Int32) (H : Heap) (locs : List Loc) (ls : Array Slot), lv_has ls 7 [(0, .ref x0), (1, .int x1), (2, .int x2), (3, .int x3), (4, .long x4), (6, .int x6)] → xw_S D vwCl A s.heap w H locs → wl_MO_part_6 E post n6 w x0 x1 x2 x3 x4 x6 → W p l e (headSpec (xW yMO_part cMO_part 7 (some (.long))) ({ frames := 0, cells := 0, slots := 0, locals := 0 } : Room)).room s m ([.ref h0, .int p0, .int p1, .int p2] : List Value).toArray below meth c H locs 0 0 (MQ below (va_Ql post (xB D A) A) ([.ref h0, .int p0, .int p1, .int p2] : List Value).toArray s 0 0 A) (F0 m 6 ls []) := by
    intro n6
    induction n6 with
    | zero => intro w x0 x1 x2 x3 x4 x6 H locs ls hl hw h; exact h.elim
    | succ n6 ih6 =>
      intro w x0 x1 x2 x3 x4 x6 H locs ls hl hw h
      dsimp only [wl_MO_part_6] at h
      refine lv_iload hx hb dMO_part_6 (lv_at hl 5 rfl) ?_
      refine lv_iload_n hx hb dMO_part_8 rfl (lv_at hl 2 rfl) ?_
      refine lv_icmp_ge (tgt := 56) hx hb dMO_part_9 rfl (fun hc => ?_) (fun hc => ?_)
      · replace h := h.1 hc
        refine lv_lload hx hb dMO_part_56 (lv_at hl 4 rfl) ?_
        refine W.widen (k := 0) (n := 0) (Nat.le_of_ble_eq_true rfl) (Nat.le_of_ble_eq_true rfl) ?_
        exact xw_lret hx hb hr hlocks hw h dMO_part_58
      · replace h := h.2 hc
        refine lv_aload_n hx hb dMO_part_12 rfl (lv_at hl 0 rfl) ?_
        obtain ⟨v1, hv, h⟩ := h
        refine xw_getR (C := RMO) (T := TMO) (N := 17) (ref := RMO) hx hb hts inMO hown hK hw rfl 12 (by decide) (hts _ mw_276) (fun _ h9 => h9) hv dMO_part_13 ?_
        refine lv_bipush (v := 12) hx hb dMO_part_16 (by decide) ?_
        refine lv_iload_n hx hb dMO_part_18 rfl (lv_at hl 1 rfl) ?_
        refine lv_imul hx hb dMO_part_19 ?_
        refine lv_iload hx hb dMO_part_20 (lv_at hl 5 rfl) ?_
        refine lv_iadd hx hb dMO_part_22 ?_
        obtain ⟨a2, rfl, h⟩ := h
        obtain ⟨n3, f4, ha, hin9, h⟩ := h
        refine xw_iald hx hb hK hw 1 rfl ha hin9 dMO_part_23 ?_
        refine lv_iload_n hx hb dMO_part_24 rfl (lv_at hl 3 rfl) ?_
        refine lv_icmp_ne (tgt := 46) hx hb dMO_part_25 rfl (fun hc => ?_) (fun hc => ?_)
        · replace h := h.1 hc
          refine lv_lload hx hb dMO_part_46 (lv_at hl 4 rfl) ?_
          refine lv_lstore (i := 4) (lv' := [(4, .long x4), (0, .ref x0), (1, .int x1), (2, .int x2), (3, .int x3), (6, .int x6)]) hx hb dMO_part_48 hl (by decide) (by first | rfl | simp [va_rf_cat, xcat_i, xcat_l, xcat_r, xcat_n]) (fun ls hl => ?_)
          refine lv_iinc (k := 5) (v := x6 + 1) (lv' := [(6, .int (x6 + 1)), (4, .long x4), (0, .ref x0), (1, .int x1), (2, .int x2), (3, .int x3)]) hx hb dMO_part_50 hl rfl rfl (by decide) (by first | rfl | simp [va_rf_cat, xcat_i, xcat_l, xcat_r, xcat_n]) (fun ls hl => ?_)
          refine lv_goto (tgt := 6) hx hb dMO_part_53 rfl ?_
          exact ih6 _ x0 x1 x2 x3 x4 (x6 + 1) _ _ _ (lv_sub hl [2, 3, 4, 5, 1, 0] rfl) hw h
        · replace h := h.2 hc
          refine lv_lload hx hb dMO_part_28 (lv_at hl 4 rfl) ?_
          refine lv_aload_n hx hb dMO_part_30 rfl (lv_at hl 0 rfl) ?_
          obtain ⟨v5, hv, h⟩ := h
          refine xw_getR (C := RMO) (T := TMO) (N := 17) (ref := RMO) hx hb hts inMO hown hK hw rfl 13 (by decide) (hts _ mw_274) (fun _ h9 => h9) hv dMO_part_31 ?_
          refine lv_bipush (v := 12) hx hb dMO_part_34 (by decide) ?_
          refine lv_iload_n hx hb dMO_part_36 rfl (lv_at hl 1 rfl) ?_
          refine lv_imul hx hb dMO_part_37 ?_
          refine lv_iload hx hb dMO_part_38 (lv_at hl 5 rfl) ?_
          refine lv_iadd hx hb dMO_part_40 ?_
          obtain ⟨a6, rfl, h⟩ := h
          obtain ⟨n7, f8, ha, hin9, h⟩ := h
          refine xw_lald hx hb hK hw 2 rfl ha hin9 dMO_part_41 ?_
          refine lv_ladd hx hb dMO_part_42 ?_
          refine lv_goto (tgt := 48) hx hb dMO_part_43 rfl ?_
          refine lv_lstore (i := 4) (lv' := [(4, .long (x4 + (f8 ((12 * x1) + x6).toNatClampNeg))), (0, .ref x0), (1, .int x1), (2, .int x2), (3, .int x3), (6, .int x6)]) hx hb dMO_part_48 hl (by decide) (by first | rfl | simp [va_rf_cat, xcat_i, xcat_l, xcat_r, xcat_n]) (fun ls hl => ?_)
          refine lv_iinc (k := 5) (v := x6 + 1) (lv' := [(6, .int (x6 + 1)), (4, .long (x4 + (f8 ((12 * x1) + x6).toNatClampNeg))), (0, .ref x0), (1, .int x1), (2, .int x2), (3, .int x3)]) hx hb dMO_part_50 hl rfl rfl (by decide) (by first | rfl | simp [va_rf_cat, xcat_i, xcat_l, xcat_r, xcat_n]) (fun ls hl => ?_)
          refine lv_goto (tgt := 6) hx hb dMO_part_53 rfl ?_
          exact ih6 _ x0 x1 x2 x3 (x4 + (f8 ((12 * x1) + x6).toNatClampNeg)) (x6 + 1) _ _ _ (lv_sub hl [2, 3, 4, 5, 1, 0] rfl) hw h
  refine xl_start (lvs := [(0, .ref h0), (1, .int p0), (2, .int p1), (3, .int p2)]) (by first | exact Nat.le_of_ble_eq_true rfl | simp [lg_sl, va_rf_cat, xcat_i, xcat_l, xcat_r, xcat_n]) (by first | rfl | simp [lv_args, va_rf_cat, xcat_i, xcat_l, xcat_r, xcat_n]) (fun ls hl => ?_)
  unfold wp_MO_part at h
  refine lv_lconst (v := 0) hx hb dMO_part_0 (by decide) ?_
  refine lv_lstore (i := 4) (lv' := [(4, .long 0), (0, .ref h0), (1, .int p0), (2, .int p1), (3, .int p2)]) hx hb dMO_part_1 hl (by decide) (by first | rfl | simp [va_rf_cat, xcat_i, xcat_l, xcat_r, xcat_n]) (fun ls hl => ?_)
  refine lv_iconst (v := 0) hx hb dMO_part_3 (by decide) ?_
  refine lv_istore (i := 6) (lv' := [(6, .int 0), (4, .long 0), (0, .ref h0), (1, .int p0), (2, .int p1), (3, .int p2)]) hx hb dMO_part_4 hl (by decide) (by first | rfl | simp [va_rf_cat, xcat_i, xcat_l, xcat_r, xcat_n]) (fun ls hl => ?_)
  obtain ⟨n6, h⟩ := h
  refine W.widen (k := 0) (n := 0) (Nat.le_of_ble_eq_true rfl) (Nat.le_of_ble_eq_true rfl) ?_
  exact lo_6 n6 _ h0 p0 p1 p2 0 0 _ _ _ (lv_sub hl [2, 3, 4, 5, 1, 0] rfl) hw h
def wl_MO_balanceOf_6 (E : xE_T) (post : Int64 → xw_T → Prop) : Nat → xw_T → Nat → Int32 → Int64 → Int64 → Int32 → Prop
  | 0 => fun _ _ _ _ _ _ => False
  | n6 + 1 => fun w x0 x1 x2 x4 x6 => ∃ v1, xgI w x0 5 14 = some v1 ∧ ((v1 ≤ x6 → (post x4 w)) ∧ (¬ v1 ≤ x6 → (∃ v2, xgR w x0 5 15 = some v2 ∧ (∃ a3 : Nat, v2 = some a3 ∧ (∃ n4 f5, xaI w a3 (E.1 1) = some (n4, f5) ∧ vp_in x6 n4 ∧ (∃ v6, xgR w x0 5 7 = some v6 ∧ (∃ a7 : Nat, v6 = some a7 ∧ (∃ n8 f9, xaL w a7 (E.1 2) = some (n8, f9) ∧ vp_in (f5 x6.toNatClampNeg) n8 ∧ ((x2 < (f9 (f5 x6.toNatClampNeg).toNatClampNeg) → (wl_MO_balanceOf_6 E post n6 w x0 x1 x2 x4 (x6 + 1))) ∧ (¬ x2 < (f9 (f5 x6.toNatClampNeg).toNatClampNeg) → (∃ v10, xgR w x0 5 11 = some v10 ∧ (∃ a11 : Nat, v10 = some a11 ∧ (∃ n12 f13, xaI w a11 (E.1 1) = some (n12, f13) ∧ vp_in (f5 x6.toNatClampNeg) n12 ∧ ((∃ fs, w x0 = some (.inr (5, fs))) ∧ wp_MO_part E (fun r14 w15 => wl_MO_balanceOf_6 E post n6 w15 x0 x1 x2 (x4 + r14) (x6 + 1)) w x0 (f5 x6.toNatClampNeg) (f13 (f5 x6.toNatClampNeg).toNatClampNeg) x1))))))))))))))
def wp_MO_balanceOf (E : xE_T) (post : Int64 → xw_T → Prop) (w : xw_T) (h0 : Nat) (p0 : Int32) (p1 : Int64) : Prop := ∃ n6, wl_MO_balanceOf_6 E post n6 w h0 p0 p1 0 0
set_option maxHeartbeats 4000000 in
set_option maxRecDepth 100000 in
theorem c_MO_balanceOf (l : Launch) (D : va_G) (E : xE_T) (A : Nat → Prop) (post : Int64 → xw_T → Prop) (w : xw_T) (h0 : Nat) (p0 : Int32) (p1 : Int64) (h : wp_MO_balanceOf E post w h0 p0 p1) : Met l yMO_balanceOf (xW yMO_balanceOf cMO_balanceOf 8 (some (.long))) ({ frames := 1, cells := 0, slots := 0, locals := 26 } : Room) (va_Pc [.ref h0, .int p0, .long p1] (xP D E A w)) (va_Ql post (xB D A) A) 0 0 A := by
  refine Met.ofW (cc := cMO_balanceOf) (maxL := 8) (ret := (some (.long))) (by decide) rfl ?_
  intro p e s m args below meth c s₁ B hml hv
  obtain ⟨rfl, hw, hK, hE⟩ := hv
  have hx := B.exec
  have hb := B.bytes
  have hr := B.returns
  have hts : ∀ w ∈ xTB, w.before _ s = true := fun w hw => atoms_spec (ws := xW yMO_balanceOf cMO_balanceOf 8 (some (.long))) B.pre w (List.mem_cons_of_mem _ hw)
  have hown : s.vm.findClass RMO = some m.cls := findClass_of_methodNamed B.named
  have hlocks := B.notSynchronized
  have hw : xw_S D vwCl A s.heap w s.heap [] := xw_S0 hw
  have lo_6 : ∀ (n6 : Nat) (w : xw_T) (x0 : Nat) (x1 : Int32) (x2 : Int64) (x4 : Int64) (x6 : Int32) (H : Heap) (locs : List Loc) (ls : Array Slot), lv_has ls 8 [(0, .ref x0), (1, .int x1), (2, .long x2), (4, .long x4), (6, .int x6)] → xw_S D vwCl A s.heap w H locs → wl_MO_balanceOf_6 E post n6 w x0 x1 x2 x4 x6 → W p l e (headSpec (xW yMO_balanceOf cMO_balanceOf 8 (some (.long))) ({ frames := 1, cells := 0, slots := 0, locals := 26 } : Room)).room s m ([.ref h0, .int p0, .long p1] : List Value).toArray below meth c H locs 0 0 (MQ below (va_Ql post (xB D A) A) ([.ref h0, .int p0, .long p1] : List Value).toArray s 0 0 A) (F0 m 6 ls []) := by
    intro n6
    induction n6 with
    | zero => intro w x0 x1 x2 x4 x6 H locs ls hl hw h; exact h.elim
    | succ n6 ih6 =>
      intro w x0 x1 x2 x4 x6 H locs ls hl hw h
      dsimp only [wl_MO_balanceOf_6] at h
      refine lv_iload hx hb dMO_balanceOf_6 (lv_at hl 4 rfl) ?_
      refine lv_aload_n hx hb dMO_balanceOf_8 rfl (lv_at hl 0 rfl) ?_
      obtain ⟨v1, hv, h⟩ := h
      refine xw_getI (C := RMO) (T := TMO) (N := 17) (ref := RMO) hx hb hts inMO hown hK hw rfl 14 (by decide) (hts _ mw_323) (fun _ h9 => h9) hv dMO_balanceOf_9 ?_
      refine lv_icmp_ge (tgt := 66) hx hb dMO_balanceOf_12 rfl (fun hc => ?_) (fun hc => ?_)
      · replace h := h.1 hc
        refine lv_lload hx hb dMO_balanceOf_66 (lv_at hl 3 rfl) ?_
        refine W.widen (k := 0) (n := 0) (Nat.le_of_ble_eq_true rfl) (Nat.le_of_ble_eq_true rfl) ?_
        exact xw_lret hx hb hr hlocks hw h dMO_balanceOf_68
      · replace h := h.2 hc
        refine lv_aload_n hx hb dMO_balanceOf_15 rfl (lv_at hl 0 rfl) ?_
        obtain ⟨v2, hv, h⟩ := h
        refine xw_getR (C := RMO) (T := TMO) (N := 17) (ref := RMO) hx hb hts inMO hown hK hw rfl 15 (by decide) (hts _ mw_272) (fun _ h9 => h9) hv dMO_balanceOf_16 ?_
        refine lv_iload hx hb dMO_balanceOf_19 (lv_at hl 4 rfl) ?_
        obtain ⟨a3, rfl, h⟩ := h
        obtain ⟨n4, f5, ha, hin9, h⟩ := h
        refine xw_iald hx hb hK hw 1 rfl ha hin9 dMO_balanceOf_21 ?_
        refine lv_istore (i := 7) (lv' := [(7, .int (f5 x6.toNatClampNeg)), (0, .ref x0), (1, .int x1), (2, .long x2), (4, .long x4), (6, .int x6)]) hx hb dMO_balanceOf_22 hl (by decide) (by first | rfl | simp [va_rf_cat, xcat_i, xcat_l, xcat_r, xcat_n]) (fun ls hl => ?_)
        refine lv_aload_n hx hb dMO_balanceOf_24 rfl (lv_at hl 1 rfl) ?_
        obtain ⟨v6, hv, h⟩ := h
        refine xw_getR (C := RMO) (T := TMO) (N := 17) (ref := RMO) hx hb hts inMO hown hK hw rfl 7 (by decide) (hts _ mw_282) (fun _ h9 => h9) hv dMO_balanceOf_25 ?_
        refine lv_iload hx hb dMO_balanceOf_28 (lv_at hl 0 rfl) ?_
        obtain ⟨a7, rfl, h⟩ := h
        obtain ⟨n8, f9, ha, hin9, h⟩ := h
        refine xw_lald hx hb hK hw 2 rfl ha hin9 dMO_balanceOf_30 ?_
        refine lv_lload_n hx hb dMO_balanceOf_31 rfl (lv_at hl 3 rfl) ?_
        refine xl_lc_gt (tgt := 56) hx hb dMO_balanceOf_32 dMO_balanceOf_33 rfl (fun hc => ?_) (fun hc => ?_)
        · replace h := h.1 hc
          refine lv_lload hx hb dMO_balanceOf_56 (lv_at hl 4 rfl) ?_
          refine lv_lstore (i := 4) (lv' := [(4, .long x4), (7, .int (f5 x6.toNatClampNeg)), (0, .ref x0), (1, .int x1), (2, .long x2), (6, .int x6)]) hx hb dMO_balanceOf_58 hl (by decide) (by first | rfl | simp [va_rf_cat, xcat_i, xcat_l, xcat_r, xcat_n]) (fun ls hl => ?_)
          refine lv_iinc (k := 5) (v := x6 + 1) (lv' := [(6, .int (x6 + 1)), (4, .long x4), (7, .int (f5 x6.toNatClampNeg)), (0, .ref x0), (1, .int x1), (2, .long x2)]) hx hb dMO_balanceOf_60 hl rfl rfl (by decide) (by first | rfl | simp [va_rf_cat, xcat_i, xcat_l, xcat_r, xcat_n]) (fun ls hl => ?_)
          refine lv_goto (tgt := 6) hx hb dMO_balanceOf_63 rfl ?_
          exact ih6 _ x0 x1 x2 x4 (x6 + 1) _ _ _ (lv_sub hl [3, 4, 5, 1, 0] rfl) hw h
        · replace h := h.2 hc
          refine lv_lload hx hb dMO_balanceOf_36 (lv_at hl 4 rfl) ?_
          refine lv_aload_n hx hb dMO_balanceOf_38 rfl (lv_at hl 1 rfl) ?_
          refine lv_iload hx hb dMO_balanceOf_39 (lv_at hl 0 rfl) ?_
          refine lv_aload_n hx hb dMO_balanceOf_41 rfl (lv_at hl 1 rfl) ?_
          obtain ⟨v10, hv, h⟩ := h
          refine xw_getR (C := RMO) (T := TMO) (N := 17) (ref := RMO) hx hb hts inMO hown hK hw rfl 11 (by decide) (hts _ mw_277) (fun _ h9 => h9) hv dMO_balanceOf_42 ?_
          refine lv_iload hx hb dMO_balanceOf_45 (lv_at hl 0 rfl) ?_
          obtain ⟨a11, rfl, h⟩ := h
          obtain ⟨n12, f13, ha, hin9, h⟩ := h
          refine xw_iald hx hb hK hw 1 rfl ha hin9 dMO_balanceOf_47 ?_
          refine lv_iload_n hx hb dMO_balanceOf_48 rfl (lv_at hl 2 rfl) ?_
          obtain ⟨⟨fs, hk⟩, h⟩ := h
          have hcall := h
          clear h
          refine xw_calll (va_runV (As := [.int (f5 x6.toNatClampNeg), .int (f13 (f5 x6.toNatClampNeg).toNatClampNeg), .int x1]) (rest := [.long x4]) ⟨hx, hb, hml, hown, hts⟩ (c_MO_part l D E A _ w x0 (f5 x6.toNatClampNeg) (f13 (f5 x6.toNatClampNeg).toNatClampNeg) x1 hcall) (cwV 3 hts (xG_V mw_319 mw_320 mw_321 mw_294 mw_322) rfl rfl rfl (by decide +kernel) ⟨(Nat.le_of_ble_eq_true rfl), (Nat.le_of_ble_eq_true rfl)⟩) (xw_preV (ci := 5) hw hK hE rfl hk) rfl rfl hl.1 rfl (lv_room (by first | exact Nat.le_of_ble_eq_true rfl | simp [va_rf_cat, xcat_i, xcat_l, xcat_r, xcat_n])) dMO_balanceOf_49 ⟨(Nat.le_of_ble_eq_true rfl), (Nat.le_of_ble_eq_true rfl)⟩) hw (fun r14 w15 H locs h hw => ?_)
          clear hcall
          refine lv_ladd hx hb dMO_balanceOf_52 ?_
          refine lv_goto (tgt := 58) hx hb dMO_balanceOf_53 rfl ?_
          refine lv_lstore (i := 4) (lv' := [(4, .long (x4 + r14)), (7, .int (f5 x6.toNatClampNeg)), (0, .ref x0), (1, .int x1), (2, .long x2), (6, .int x6)]) hx hb dMO_balanceOf_58 hl (by decide) (by first | rfl | simp [va_rf_cat, xcat_i, xcat_l, xcat_r, xcat_n]) (fun ls hl => ?_)
          refine lv_iinc (k := 5) (v := x6 + 1) (lv' := [(6, .int (x6 + 1)), (4, .long (x4 + r14)), (7, .int (f5 x6.toNatClampNeg)), (0, .ref x0), (1, .int x1), (2, .long x2)]) hx hb dMO_balanceOf_60 hl rfl rfl (by decide) (by first | rfl | simp [va_rf_cat, xcat_i, xcat_l, xcat_r, xcat_n]) (fun ls hl => ?_)
          refine lv_goto (tgt := 6) hx hb dMO_balanceOf_63 rfl ?_
          exact ih6 _ x0 x1 x2 (x4 + r14) (x6 + 1) _ _ _ (lv_sub hl [3, 4, 5, 1, 0] rfl) hw h
  refine xl_start (lvs := [(0, .ref h0), (1, .int p0), (2, .long p1)]) (by first | exact Nat.le_of_ble_eq_true rfl | simp [lg_sl, va_rf_cat, xcat_i, xcat_l, xcat_r, xcat_n]) (by first | rfl | simp [lv_args, va_rf_cat, xcat_i, xcat_l, xcat_r, xcat_n]) (fun ls hl => ?_)
  unfold wp_MO_balanceOf at h
  refine lv_lconst (v := 0) hx hb dMO_balanceOf_0 (by decide) ?_
  refine lv_lstore (i := 4) (lv' := [(4, .long 0), (0, .ref h0), (1, .int p0), (2, .long p1)]) hx hb dMO_balanceOf_1 hl (by decide) (by first | rfl | simp [va_rf_cat, xcat_i, xcat_l, xcat_r, xcat_n]) (fun ls hl => ?_)
  refine lv_iconst (v := 0) hx hb dMO_balanceOf_3 (by decide) ?_
  refine lv_istore (i := 6) (lv' := [(6, .int 0), (4, .long 0), (0, .ref h0), (1, .int p0), (2, .long p1)]) hx hb dMO_balanceOf_4 hl (by decide) (by first | rfl | simp [va_rf_cat, xcat_i, xcat_l, xcat_r, xcat_n]) (fun ls hl => ?_)
  obtain ⟨n6, h⟩ := h
  refine W.widen (k := 0) (n := 0) (Nat.le_of_ble_eq_true rfl) (Nat.le_of_ble_eq_true rfl) ?_
  exact lo_6 n6 _ h0 p0 p1 0 0 _ _ _ (lv_sub hl [2, 3, 4, 1, 0] rfl) hw h
def wl_MO_stops_60 (E : xE_T) (post : Int32 → xw_T → Prop) : Nat → xw_T → Nat → Int32 → Int32 → Int32 → Prop
  | 0 => fun _ _ _ _ _ => False
  | n60 + 1 => fun w x0 x1 x4 x5 => ∃ v1, xgR w x0 5 11 = some v1 ∧ (∃ a2 : Nat, v1 = some a2 ∧ (∃ n3 f4, xaI w a2 (E.1 1) = some (n3, f4) ∧ vp_in x1 n3 ∧ (((f4 x1.toNatClampNeg) ≤ x4 → (post x4 w)) ∧ (¬ (f4 x1.toNatClampNeg) ≤ x4 → ((x5 = 0 → (post x4 w)) ∧ (¬ x5 = 0 → (∃ v5, xgR w x0 5 12 = some v5 ∧ (∃ a6 : Nat, v5 = some a6 ∧ (∃ n7 f8, xaI w a6 (E.1 1) = some (n7, f8) ∧ vp_in ((12 * x1) + x4) n7 ∧ (∃ v9, xgR w x0 5 9 = some v9 ∧ (∃ a10 : Nat, v9 = some a10 ∧ (∃ n11 f12, xaI w a10 (E.1 3) = some (n11, f12) ∧ vp_in x1 n11 ∧ ((¬ (f12 x1.toNatClampNeg) = 0 → (wl_MO_stops_60 E post n60 w x0 x1 (x4 + 1) 1)) ∧ ((f12 x1.toNatClampNeg) = 0 → (∃ v13, xgR w x0 5 3 = some v13 ∧ (∃ a14 : Nat, v13 = some a14 ∧ (∃ n15 f16, xaI w a14 (E.1 1) = some (n15, f16) ∧ vp_in (f8 ((12 * x1) + x4).toNatClampNeg) n15 ∧ ((¬ (f16 (f8 ((12 * x1) + x4).toNatClampNeg).toNatClampNeg) = 3 → (wl_MO_stops_60 E post n60 w x0 x1 (x4 + 1) 1)) ∧ ((f16 (f8 ((12 * x1) + x4).toNatClampNeg).toNatClampNeg) = 3 → (∃ v17, xgR w x0 5 13 = some v17 ∧ (∃ a18 : Nat, v17 = some a18 ∧ (∃ n19 f20, xaL w a18 (E.1 2) = some (n19, f20) ∧ vp_in ((12 * x1) + x4) n19 ∧ ((0 ≤ (f20 ((12 * x1) + x4).toNatClampNeg) → (wl_MO_stops_60 E post n60 w x0 x1 (x4 + 1) 1)) ∧ (¬ 0 ≤ (f20 ((12 * x1) + x4).toNatClampNeg) → ((∃ fs, w x0 = some (.inr (5, fs))) ∧ wp_MO_balanceOf E (fun r21 w22 => (∃ fs, w22 x0 = some (.inr (5, fs))) ∧ wp_MO_part E (fun r23 w24 => ∃ v25, xgR w24 x0 5 4 = some v25 ∧ (∃ a26 : Nat, v25 = some a26 ∧ (∃ n27 f28, xaL w24 a26 (E.1 2) = some (n27, f28) ∧ vp_in (f8 ((12 * x1) + x4).toNatClampNeg) n27 ∧ (((r21 + r23) < (-(f28 (f8 ((12 * x1) + x4).toNatClampNeg).toNatClampNeg)) → (wl_MO_stops_60 E post n60 w24 x0 x1 x4 0)) ∧ (¬ (r21 + r23) < (-(f28 (f8 ((12 * x1) + x4).toNatClampNeg).toNatClampNeg)) → (wl_MO_stops_60 E post n60 w24 x0 x1 (x4 + 1) 1)))))) w22 x0 x1 (x4 + 1) (f8 ((12 * x1) + x4).toNatClampNeg)) w x0 (f8 ((12 * x1) + x4).toNatClampNeg) 9223372036854775807)))))))))))))))))))))))))
def wl_MO_stops_5 (E : xE_T) (post : Int32 → xw_T → Prop) : Nat → xw_T → Nat → Int32 → Int64 → Int32 → Prop
  | 0 => fun _ _ _ _ _ => False
  | n5 + 1 => fun w x0 x1 x2 x4 => ∃ v29, xgR w x0 5 11 = some v29 ∧ (∃ a30 : Nat, v29 = some a30 ∧ (∃ n31 f32, xaI w a30 (E.1 1) = some (n31, f32) ∧ vp_in x1 n31 ∧ (((f32 x1.toNatClampNeg) ≤ x4 → (∃ v33, xgR w x0 5 11 = some v33 ∧ (∃ a34 : Nat, v33 = some a34 ∧ (∃ n35 f36, xaI w a34 (E.1 1) = some (n35, f36) ∧ vp_in x1 n35 ∧ (((f36 x1.toNatClampNeg) = 0 → (post (-1) w)) ∧ (¬ (f36 x1.toNatClampNeg) = 0 → ((x2 = 0 → (∃ n60, wl_MO_stops_60 E post n60 w x0 x1 0 1)) ∧ (¬ x2 = 0 → (post (-1) w))))))))) ∧ (¬ (f32 x1.toNatClampNeg) ≤ x4 → (∃ v37, xgR w x0 5 13 = some v37 ∧ (∃ a38 : Nat, v37 = some a38 ∧ (∃ n39 f40, xaL w a38 (E.1 2) = some (n39, f40) ∧ vp_in ((12 * x1) + x4) n39 ∧ (wl_MO_stops_5 E post n5 w x0 x1 (x2 + (f40 ((12 * x1) + x4).toNatClampNeg)) (x4 + 1)))))))))
def wp_MO_stops (E : xE_T) (post : Int32 → xw_T → Prop) (w : xw_T) (h0 : Nat) (p0 : Int32) : Prop := ∃ n5, wl_MO_stops_5 E post n5 w h0 p0 0 0
set_option maxHeartbeats 4000000 in
set_option maxRecDepth 100000 in
theorem c_MO_stops (l : Launch) (D : va_G) (E : xE_T) (A : Nat → Prop) (post : Int32 → xw_T → Prop) (w : xw_T) (h0 : Nat) (p0 : Int32) (h : wp_MO_stops E post w h0 p0) : Met l yMO_stops (xW yMO_stops cMO_stops 8 (some (.int))) ({ frames := 2, cells := 0, slots := 0, locals := 53 } : Room) (va_Pc [.ref h0, .int p0] (xP D E A w)) (va_Qi post (xB D A) A) 0 0 A := by
  refine Met.ofW (cc := cMO_stops) (maxL := 8) (ret := (some (.int))) (by decide) rfl ?_
  intro p e s m args below meth c s₁ B hml hv
  obtain ⟨rfl, hw, hK, hE⟩ := hv
  have hx := B.exec
  have hb := B.bytes
  have hr := B.returns
  have hts : ∀ w ∈ xTB, w.before _ s = true := fun w hw => atoms_spec (ws := xW yMO_stops cMO_stops 8 (some (.int))) B.pre w (List.mem_cons_of_mem _ hw)
  have hown : s.vm.findClass RMO = some m.cls := findClass_of_methodNamed B.named
  have hlocks := B.notSynchronized
  have hw : xw_S D vwCl A s.heap w s.heap [] := xw_S0 hw
  have lo_60 : ∀ (n60 : Nat) (w : xw_T) (x0 : Nat) (x1 : Int32) (x4 : Int32) (x5 : Int32) (H : Heap) (locs : List Loc) (ls : Array Slot), lv_has ls 8 [(0, .ref x0), (1, .int x1), (4, .int x4), (5, .int x5)] → xw_S D vwCl A s.heap w H locs → wl_MO_stops_60 E post n60 w x0 x1 x4 x5 → W p l e (headSpec (xW yMO_stops cMO_stops 8 (some (.int))) ({ frames := 2, cells := 0, slots := 0, locals := 53 } : Room)).room s m ([.ref h0, .int p0] : List Value).toArray below meth c H locs 0 0 (MQ below (va_Qi post (xB D A) A) ([.ref h0, .int p0] : List Value).toArray s 0 0 A) (F0 m 60 ls []) := by
    intro n60
    induction n60 with
    | zero => intro w x0 x1 x4 x5 H locs ls hl hw h; exact h.elim
    | succ n60 ih60 =>
      intro w x0 x1 x4 x5 H locs ls hl hw h
      dsimp only [wl_MO_stops_60] at h
      refine lv_iload hx hb dMO_stops_60 (lv_at hl 2 rfl) ?_
      refine lv_aload_n hx hb dMO_stops_62 rfl (lv_at hl 0 rfl) ?_
      obtain ⟨v1, hv, h⟩ := h
      refine xw_getR (C := RMO) (T := TMO) (N := 17) (ref := RMO) hx hb hts inMO hown hK hw rfl 11 (by decide) (hts _ mw_277) (fun _ h9 => h9) hv dMO_stops_63 ?_
      refine lv_iload_n hx hb dMO_stops_66 rfl (lv_at hl 1 rfl) ?_
      obtain ⟨a2, rfl, h⟩ := h
      obtain ⟨n3, f4, ha, hin9, h⟩ := h
      refine xw_iald hx hb hK hw 1 rfl ha hin9 dMO_stops_67 ?_
      refine lv_icmp_ge (tgt := 198) hx hb dMO_stops_68 rfl (fun hc => ?_) (fun hc => ?_)
      · replace h := h.1 hc
        refine lv_iload hx hb dMO_stops_198 (lv_at hl 2 rfl) ?_
        refine W.widen (k := 0) (n := 0) (Nat.le_of_ble_eq_true rfl) (Nat.le_of_ble_eq_true rfl) ?_
        exact xw_iret hx hb hr hlocks hw h dMO_stops_200
      · replace h := h.2 hc
        refine lv_iload hx hb dMO_stops_71 (lv_at hl 3 rfl) ?_
        refine lv_if_eq (tgt := 198) hx hb dMO_stops_73 rfl (fun hc => ?_) (fun hc => ?_)
        · replace h := h.1 hc
          refine lv_iload hx hb dMO_stops_198 (lv_at hl 2 rfl) ?_
          refine W.widen (k := 0) (n := 0) (Nat.le_of_ble_eq_true rfl) (Nat.le_of_ble_eq_true rfl) ?_
          exact xw_iret hx hb hr hlocks hw h dMO_stops_200
        · replace h := h.2 hc
          refine lv_aload_n hx hb dMO_stops_76 rfl (lv_at hl 0 rfl) ?_
          obtain ⟨v5, hv, h⟩ := h
          refine xw_getR (C := RMO) (T := TMO) (N := 17) (ref := RMO) hx hb hts inMO hown hK hw rfl 12 (by decide) (hts _ mw_276) (fun _ h9 => h9) hv dMO_stops_77 ?_
          refine lv_bipush (v := 12) hx hb dMO_stops_80 (by decide) ?_
          refine lv_iload_n hx hb dMO_stops_82 rfl (lv_at hl 1 rfl) ?_
          refine lv_imul hx hb dMO_stops_83 ?_
          refine lv_iload hx hb dMO_stops_84 (lv_at hl 2 rfl) ?_
          refine lv_iadd hx hb dMO_stops_86 ?_
          obtain ⟨a6, rfl, h⟩ := h
          obtain ⟨n7, f8, ha, hin9, h⟩ := h
          refine xw_iald hx hb hK hw 1 rfl ha hin9 dMO_stops_87 ?_
          refine lv_istore (i := 6) (lv' := [(6, .int (f8 ((12 * x1) + x4).toNatClampNeg)), (0, .ref x0), (1, .int x1), (4, .int x4), (5, .int x5)]) hx hb dMO_stops_88 hl (by decide) (by first | rfl | simp [va_rf_cat, xcat_i, xcat_l, xcat_r, xcat_n]) (fun ls hl => ?_)
          refine lv_aload_n hx hb dMO_stops_90 rfl (lv_at hl 1 rfl) ?_
          obtain ⟨v9, hv, h⟩ := h
          refine xw_getR (C := RMO) (T := TMO) (N := 17) (ref := RMO) hx hb hts inMO hown hK hw rfl 9 (by decide) (hts _ mw_280) (fun _ h9 => h9) hv dMO_stops_91 ?_
          refine lv_iload_n hx hb dMO_stops_94 rfl (lv_at hl 2 rfl) ?_
          obtain ⟨a10, rfl, h⟩ := h
          obtain ⟨n11, f12, ha, hin9, h⟩ := h
          refine xw_zald hx hb hK hw 3 rfl ha hin9 dMO_stops_95 ?_
          refine lv_if_ne (tgt := 131) hx hb dMO_stops_96 rfl (fun hc => ?_) (fun hc => ?_)
          · replace h := h.1 hc
            refine lv_iconst (v := 0) hx hb dMO_stops_131 (by decide) ?_
            refine lv_istore (i := 7) (lv' := [(7, .int 0), (6, .int (f8 ((12 * x1) + x4).toNatClampNeg)), (0, .ref x0), (1, .int x1), (4, .int x4), (5, .int x5)]) hx hb dMO_stops_132 hl (by decide) (by first | rfl | simp [va_rf_cat, xcat_i, xcat_l, xcat_r, xcat_n]) (fun ls hl => ?_)
            refine lv_iload hx hb dMO_stops_134 (lv_at hl 0 rfl) ?_
            refine lv_if_eq (tgt := 172) hx hb dMO_stops_136 rfl (fun _ => ?_) (fun hc => absurd hc (by decide))
            refine lv_iconst (v := 1) hx hb dMO_stops_172 (by decide) ?_
            refine lv_goto (tgt := 177) hx hb dMO_stops_173 rfl ?_
            refine lv_istore (i := 5) (lv' := [(5, .int 1), (7, .int 0), (6, .int (f8 ((12 * x1) + x4).toNatClampNeg)), (0, .ref x0), (1, .int x1), (4, .int x4)]) hx hb dMO_stops_177 hl (by decide) (by first | rfl | simp [va_rf_cat, xcat_i, xcat_l, xcat_r, xcat_n]) (fun ls hl => ?_)
            refine lv_iload hx hb dMO_stops_179 (lv_at hl 0 rfl) ?_
            refine lv_if_eq (tgt := 191) hx hb dMO_stops_181 rfl (fun hc => absurd hc (by decide)) (fun _ => ?_)
            refine lv_iload hx hb dMO_stops_184 (lv_at hl 5 rfl) ?_
            refine lv_iconst (v := 1) hx hb dMO_stops_186 (by decide) ?_
            refine lv_iadd hx hb dMO_stops_187 ?_
            refine lv_goto (tgt := 193) hx hb dMO_stops_188 rfl ?_
            refine lv_istore (i := 4) (lv' := [(4, .int (x4 + 1)), (5, .int 1), (7, .int 0), (6, .int (f8 ((12 * x1) + x4).toNatClampNeg)), (0, .ref x0), (1, .int x1)]) hx hb dMO_stops_193 hl (by decide) (by first | rfl | simp [va_rf_cat, xcat_i, xcat_l, xcat_r, xcat_n]) (fun ls hl => ?_)
            refine lv_goto (tgt := 60) hx hb dMO_stops_195 rfl ?_
            exact ih60 _ x0 x1 (x4 + 1) 1 _ _ _ (lv_sub hl [4, 5, 0, 1] rfl) hw h
          · replace h := h.2 hc
            refine lv_aload_n hx hb dMO_stops_99 rfl (lv_at hl 1 rfl) ?_
            obtain ⟨v13, hv, h⟩ := h
            refine xw_getR (C := RMO) (T := TMO) (N := 17) (ref := RMO) hx hb hts inMO hown hK hw rfl 3 (by decide) (hts _ mw_285) (fun _ h9 => h9) hv dMO_stops_100 ?_
            refine lv_iload hx hb dMO_stops_103 (lv_at hl 0 rfl) ?_
            obtain ⟨a14, rfl, h⟩ := h
            obtain ⟨n15, f16, ha, hin9, h⟩ := h
            refine xw_iald hx hb hK hw 1 rfl ha hin9 dMO_stops_105 ?_
            refine lv_iconst (v := 3) hx hb dMO_stops_106 (by decide) ?_
            refine lv_icmp_ne (tgt := 131) hx hb dMO_stops_107 rfl (fun hc => ?_) (fun hc => ?_)
            · replace h := h.1 hc
              refine lv_iconst (v := 0) hx hb dMO_stops_131 (by decide) ?_
              refine lv_istore (i := 7) (lv' := [(7, .int 0), (6, .int (f8 ((12 * x1) + x4).toNatClampNeg)), (0, .ref x0), (1, .int x1), (4, .int x4), (5, .int x5)]) hx hb dMO_stops_132 hl (by decide) (by first | rfl | simp [va_rf_cat, xcat_i, xcat_l, xcat_r, xcat_n]) (fun ls hl => ?_)
              refine lv_iload hx hb dMO_stops_134 (lv_at hl 0 rfl) ?_
              refine lv_if_eq (tgt := 172) hx hb dMO_stops_136 rfl (fun _ => ?_) (fun hc => absurd hc (by decide))
              refine lv_iconst (v := 1) hx hb dMO_stops_172 (by decide) ?_
              refine lv_goto (tgt := 177) hx hb dMO_stops_173 rfl ?_
              refine lv_istore (i := 5) (lv' := [(5, .int 1), (7, .int 0), (6, .int (f8 ((12 * x1) + x4).toNatClampNeg)), (0, .ref x0), (1, .int x1), (4, .int x4)]) hx hb dMO_stops_177 hl (by decide) (by first | rfl | simp [va_rf_cat, xcat_i, xcat_l, xcat_r, xcat_n]) (fun ls hl => ?_)
              refine lv_iload hx hb dMO_stops_179 (lv_at hl 0 rfl) ?_
              refine lv_if_eq (tgt := 191) hx hb dMO_stops_181 rfl (fun hc => absurd hc (by decide)) (fun _ => ?_)
              refine lv_iload hx hb dMO_stops_184 (lv_at hl 5 rfl) ?_
              refine lv_iconst (v := 1) hx hb dMO_stops_186 (by decide) ?_
              refine lv_iadd hx hb dMO_stops_187 ?_
              refine lv_goto (tgt := 193) hx hb dMO_stops_188 rfl ?_
              refine lv_istore (i := 4) (lv' := [(4, .int (x4 + 1)), (5, .int 1), (7, .int 0), (6, .int (f8 ((12 * x1) + x4).toNatClampNeg)), (0, .ref x0), (1, .int x1)]) hx hb dMO_stops_193 hl (by decide) (by first | rfl | simp [va_rf_cat, xcat_i, xcat_l, xcat_r, xcat_n]) (fun ls hl => ?_)
              refine lv_goto (tgt := 60) hx hb dMO_stops_195 rfl ?_
              exact ih60 _ x0 x1 (x4 + 1) 1 _ _ _ (lv_sub hl [4, 5, 0, 1] rfl) hw h
            · replace h := h.2 hc
              refine lv_aload_n hx hb dMO_stops_110 rfl (lv_at hl 1 rfl) ?_
              obtain ⟨v17, hv, h⟩ := h
              refine xw_getR (C := RMO) (T := TMO) (N := 17) (ref := RMO) hx hb hts inMO hown hK hw rfl 13 (by decide) (hts _ mw_274) (fun _ h9 => h9) hv dMO_stops_111 ?_
              refine lv_bipush (v := 12) hx hb dMO_stops_114 (by decide) ?_
              refine lv_iload_n hx hb dMO_stops_116 rfl (lv_at hl 2 rfl) ?_
              refine lv_imul hx hb dMO_stops_117 ?_
              refine lv_iload hx hb dMO_stops_118 (lv_at hl 3 rfl) ?_
              refine lv_iadd hx hb dMO_stops_120 ?_
              obtain ⟨a18, rfl, h⟩ := h
              obtain ⟨n19, f20, ha, hin9, h⟩ := h
              refine xw_lald hx hb hK hw 2 rfl ha hin9 dMO_stops_121 ?_
              refine lv_lconst (v := 0) hx hb dMO_stops_122 (by decide) ?_
              refine xl_lc_ge (tgt := 131) hx hb dMO_stops_123 dMO_stops_124 rfl (fun hc => ?_) (fun hc => ?_)
              · replace h := h.1 hc
                refine lv_iconst (v := 0) hx hb dMO_stops_131 (by decide) ?_
                refine lv_istore (i := 7) (lv' := [(7, .int 0), (6, .int (f8 ((12 * x1) + x4).toNatClampNeg)), (0, .ref x0), (1, .int x1), (4, .int x4), (5, .int x5)]) hx hb dMO_stops_132 hl (by decide) (by first | rfl | simp [va_rf_cat, xcat_i, xcat_l, xcat_r, xcat_n]) (fun ls hl => ?_)
                refine lv_iload hx hb dMO_stops_134 (lv_at hl 0 rfl) ?_
                refine lv_if_eq (tgt := 172) hx hb dMO_stops_136 rfl (fun _ => ?_) (fun hc => absurd hc (by decide))
                refine lv_iconst (v := 1) hx hb dMO_stops_172 (by decide) ?_
                refine lv_goto (tgt := 177) hx hb dMO_stops_173 rfl ?_
                refine lv_istore (i := 5) (lv' := [(5, .int 1), (7, .int 0), (6, .int (f8 ((12 * x1) + x4).toNatClampNeg)), (0, .ref x0), (1, .int x1), (4, .int x4)]) hx hb dMO_stops_177 hl (by decide) (by first | rfl | simp [va_rf_cat, xcat_i, xcat_l, xcat_r, xcat_n]) (fun ls hl => ?_)
                refine lv_iload hx hb dMO_stops_179 (lv_at hl 0 rfl) ?_
                refine lv_if_eq (tgt := 191) hx hb dMO_stops_181 rfl (fun hc => absurd hc (by decide)) (fun _ => ?_)
                refine lv_iload hx hb dMO_stops_184 (lv_at hl 5 rfl) ?_
                refine lv_iconst (v := 1) hx hb dMO_stops_186 (by decide) ?_
                refine lv_iadd hx hb dMO_stops_187 ?_
                refine lv_goto (tgt := 193) hx hb dMO_stops_188 rfl ?_
                refine lv_istore (i := 4) (lv' := [(4, .int (x4 + 1)), (5, .int 1), (7, .int 0), (6, .int (f8 ((12 * x1) + x4).toNatClampNeg)), (0, .ref x0), (1, .int x1)]) hx hb dMO_stops_193 hl (by decide) (by first | rfl | simp [va_rf_cat, xcat_i, xcat_l, xcat_r, xcat_n]) (fun ls hl => ?_)
                refine lv_goto (tgt := 60) hx hb dMO_stops_195 rfl ?_
                exact ih60 _ x0 x1 (x4 + 1) 1 _ _ _ (lv_sub hl [4, 5, 0, 1] rfl) hw h
              · replace h := h.2 hc
                refine lv_iconst (v := 1) hx hb dMO_stops_127 (by decide) ?_
                refine lv_goto (tgt := 132) hx hb dMO_stops_128 rfl ?_
                refine lv_istore (i := 7) (lv' := [(7, .int 1), (6, .int (f8 ((12 * x1) + x4).toNatClampNeg)), (0, .ref x0), (1, .int x1), (4, .int x4), (5, .int x5)]) hx hb dMO_stops_132 hl (by decide) (by first | rfl | simp [va_rf_cat, xcat_i, xcat_l, xcat_r, xcat_n]) (fun ls hl => ?_)
                refine lv_iload hx hb dMO_stops_134 (lv_at hl 0 rfl) ?_
                refine lv_if_eq (tgt := 172) hx hb dMO_stops_136 rfl (fun hc => absurd hc (by decide)) (fun _ => ?_)
                refine lv_aload_n hx hb dMO_stops_139 rfl (lv_at hl 2 rfl) ?_
                refine lv_iload hx hb dMO_stops_140 (lv_at hl 1 rfl) ?_
                refine lv_ldc2 (v := 9223372036854775807) hx hb hown (hts _ mw_328) dMO_stops_142 ?_
                obtain ⟨⟨fs, hk⟩, h⟩ := h
                have hcall := h
                clear h
                refine xw_calll (va_runV (As := [.int (f8 ((12 * x1) + x4).toNatClampNeg), .long 9223372036854775807]) (rest := []) ⟨hx, hb, hml, hown, hts⟩ (c_MO_balanceOf l D E A _ w x0 (f8 ((12 * x1) + x4).toNatClampNeg) 9223372036854775807 hcall) (cwV 2 hts (xG_V mw_324 mw_325 mw_326 mw_294 mw_327) rfl rfl rfl (by decide +kernel) ⟨(Nat.le_of_ble_eq_true rfl), (Nat.le_of_ble_eq_true rfl)⟩) (xw_preV (ci := 5) hw hK hE rfl hk) rfl rfl hl.1 rfl (lv_room (by first | exact Nat.le_of_ble_eq_true rfl | simp [va_rf_cat, xcat_i, xcat_l, xcat_r, xcat_n])) dMO_stops_145 ⟨(Nat.le_of_ble_eq_true rfl), (Nat.le_of_ble_eq_true rfl)⟩) hw (fun r21 w22 H locs h hw => ?_)
                clear hcall
                refine lv_aload_n hx hb dMO_stops_148 rfl (lv_at hl 2 rfl) ?_
                refine lv_iload_n hx hb dMO_stops_149 rfl (lv_at hl 3 rfl) ?_
                refine lv_iload hx hb dMO_stops_150 (lv_at hl 4 rfl) ?_
                refine lv_iconst (v := 1) hx hb dMO_stops_152 (by decide) ?_
                refine lv_iadd hx hb dMO_stops_153 ?_
                refine lv_iload hx hb dMO_stops_154 (lv_at hl 1 rfl) ?_
                obtain ⟨⟨fs, hk⟩, h⟩ := h
                have hcall := h
                clear h
                refine xw_calll (va_runV (As := [.int x1, .int (x4 + 1), .int (f8 ((12 * x1) + x4).toNatClampNeg)]) (rest := [.long r21]) ⟨hx, hb, hml, hown, hts⟩ (c_MO_part l D E A _ w22 x0 x1 (x4 + 1) (f8 ((12 * x1) + x4).toNatClampNeg) hcall) (cwV 3 hts (xG_V mw_319 mw_320 mw_321 mw_294 mw_322) rfl rfl rfl (by decide +kernel) ⟨(Nat.le_of_ble_eq_true rfl), (Nat.le_of_ble_eq_true rfl)⟩) (xw_preV (ci := 5) hw hK hE rfl hk) rfl rfl hl.1 rfl (lv_room (by first | exact Nat.le_of_ble_eq_true rfl | simp [va_rf_cat, xcat_i, xcat_l, xcat_r, xcat_n])) dMO_stops_156 ⟨(Nat.le_of_ble_eq_true rfl), (Nat.le_of_ble_eq_true rfl)⟩) hw (fun r23 w24 H locs h hw => ?_)
                clear hcall
                refine lv_ladd hx hb dMO_stops_159 ?_
                refine lv_aload_n hx hb dMO_stops_160 rfl (lv_at hl 2 rfl) ?_
                obtain ⟨v25, hv, h⟩ := h
                refine xw_getR (C := RMO) (T := TMO) (N := 17) (ref := RMO) hx hb hts inMO hown hK hw rfl 4 (by decide) (hts _ mw_284) (fun _ h9 => h9) hv dMO_stops_161 ?_
                refine lv_iload hx hb dMO_stops_164 (lv_at hl 1 rfl) ?_
                obtain ⟨a26, rfl, h⟩ := h
                obtain ⟨n27, f28, ha, hin9, h⟩ := h
                refine xw_lald hx hb hK hw 2 rfl ha hin9 dMO_stops_166 ?_
                refine lv_lneg hx hb dMO_stops_167 ?_
                refine xl_lc_lt (tgt := 176) hx hb dMO_stops_168 dMO_stops_169 rfl (fun hc => ?_) (fun hc => ?_)
                · replace h := h.1 hc
                  refine lv_iconst (v := 0) hx hb dMO_stops_176 (by decide) ?_
                  refine lv_istore (i := 5) (lv' := [(5, .int 0), (7, .int 1), (6, .int (f8 ((12 * x1) + x4).toNatClampNeg)), (0, .ref x0), (1, .int x1), (4, .int x4)]) hx hb dMO_stops_177 hl (by decide) (by first | rfl | simp [va_rf_cat, xcat_i, xcat_l, xcat_r, xcat_n]) (fun ls hl => ?_)
                  refine lv_iload hx hb dMO_stops_179 (lv_at hl 0 rfl) ?_
                  refine lv_if_eq (tgt := 191) hx hb dMO_stops_181 rfl (fun _ => ?_) (fun hc => absurd hc (by decide))
                  refine lv_iload hx hb dMO_stops_191 (lv_at hl 5 rfl) ?_
                  refine lv_istore (i := 4) (lv' := [(4, .int x4), (5, .int 0), (7, .int 1), (6, .int (f8 ((12 * x1) + x4).toNatClampNeg)), (0, .ref x0), (1, .int x1)]) hx hb dMO_stops_193 hl (by decide) (by first | rfl | simp [va_rf_cat, xcat_i, xcat_l, xcat_r, xcat_n]) (fun ls hl => ?_)
                  refine lv_goto (tgt := 60) hx hb dMO_stops_195 rfl ?_
                  exact ih60 _ x0 x1 x4 0 _ _ _ (lv_sub hl [4, 5, 0, 1] rfl) hw h
                · replace h := h.2 hc
                  refine lv_iconst (v := 1) hx hb dMO_stops_172 (by decide) ?_
                  refine lv_goto (tgt := 177) hx hb dMO_stops_173 rfl ?_
                  refine lv_istore (i := 5) (lv' := [(5, .int 1), (7, .int 1), (6, .int (f8 ((12 * x1) + x4).toNatClampNeg)), (0, .ref x0), (1, .int x1), (4, .int x4)]) hx hb dMO_stops_177 hl (by decide) (by first | rfl | simp [va_rf_cat, xcat_i, xcat_l, xcat_r, xcat_n]) (fun ls hl => ?_)
                  refine lv_iload hx hb dMO_stops_179 (lv_at hl 0 rfl) ?_
                  refine lv_if_eq (tgt := 191) hx hb dMO_stops_181 rfl (fun hc => absurd hc (by decide)) (fun _ => ?_)
                  refine lv_iload hx hb dMO_stops_184 (lv_at hl 5 rfl) ?_
                  refine lv_iconst (v := 1) hx hb dMO_stops_186 (by decide) ?_
                  refine lv_iadd hx hb dMO_stops_187 ?_
                  refine lv_goto (tgt := 193) hx hb dMO_stops_188 rfl ?_
                  refine lv_istore (i := 4) (lv' := [(4, .int (x4 + 1)), (5, .int 1), (7, .int 1), (6, .int (f8 ((12 * x1) + x4).toNatClampNeg)), (0, .ref x0), (1, .int x1)]) hx hb dMO_stops_193 hl (by decide) (by first | rfl | simp [va_rf_cat, xcat_i, xcat_l, xcat_r, xcat_n]) (fun ls hl => ?_)
                  refine lv_goto (tgt := 60) hx hb dMO_stops_195 rfl ?_
                  exact ih60 _ x0 x1 (x4 + 1) 1 _ _ _ (lv_sub hl [4, 5, 0, 1] rfl) hw h
  have lo_5 : ∀ (n5 : Nat) (w : xw_T) (x0 : Nat) (x1 : Int32) (x2 : Int64) (x4 : Int32) (H : Heap) (locs : List Loc) (ls : Array Slot), lv_has ls 8 [(0, .ref x0), (1, .int x1), (2, .long x2), (4, .int x4)] → xw_S D vwCl A s.heap w H locs → wl_MO_stops_5 E post n5 w x0 x1 x2 x4 → W p l e (headSpec (xW yMO_stops cMO_stops 8 (some (.int))) ({ frames := 2, cells := 0, slots := 0, locals := 53 } : Room)).room s m ([.ref h0, .int p0] : List Value).toArray below meth c H locs 0 0 (MQ below (va_Qi post (xB D A) A) ([.ref h0, .int p0] : List Value).toArray s 0 0 A) (F0 m 5 ls []) := by
    intro n5
    induction n5 with
    | zero => intro w x0 x1 x2 x4 H locs ls hl hw h; exact h.elim
    | succ n5 ih5 =>
      intro w x0 x1 x2 x4 H locs ls hl hw h
      dsimp only [wl_MO_stops_5] at h
      refine lv_iload hx hb dMO_stops_5 (lv_at hl 3 rfl) ?_
      refine lv_aload_n hx hb dMO_stops_7 rfl (lv_at hl 0 rfl) ?_
      obtain ⟨v29, hv, h⟩ := h
      refine xw_getR (C := RMO) (T := TMO) (N := 17) (ref := RMO) hx hb hts inMO hown hK hw rfl 11 (by decide) (hts _ mw_277) (fun _ h9 => h9) hv dMO_stops_8 ?_
      refine lv_iload_n hx hb dMO_stops_11 rfl (lv_at hl 1 rfl) ?_
      obtain ⟨a30, rfl, h⟩ := h
      obtain ⟨n31, f32, ha, hin9, h⟩ := h
      refine xw_iald hx hb hK hw 1 rfl ha hin9 dMO_stops_12 ?_
      refine lv_icmp_ge (tgt := 37) hx hb dMO_stops_13 rfl (fun hc => ?_) (fun hc => ?_)
      · replace h := h.1 hc
        refine lv_aload_n hx hb dMO_stops_37 rfl (lv_at hl 0 rfl) ?_
        obtain ⟨v33, hv, h⟩ := h
        refine xw_getR (C := RMO) (T := TMO) (N := 17) (ref := RMO) hx hb hts inMO hown hK hw rfl 11 (by decide) (hts _ mw_277) (fun _ h9 => h9) hv dMO_stops_38 ?_
        refine lv_iload_n hx hb dMO_stops_41 rfl (lv_at hl 1 rfl) ?_
        obtain ⟨a34, rfl, h⟩ := h
        obtain ⟨n35, f36, ha, hin9, h⟩ := h
        refine xw_iald hx hb hK hw 1 rfl ha hin9 dMO_stops_42 ?_
        refine lv_if_eq (tgt := 52) hx hb dMO_stops_43 rfl (fun hc => ?_) (fun hc => ?_)
        · replace h := h.1 hc
          refine lv_iconst (v := (-1)) hx hb dMO_stops_52 (by decide) ?_
          refine W.widen (k := 0) (n := 0) (Nat.le_of_ble_eq_true rfl) (Nat.le_of_ble_eq_true rfl) ?_
          exact xw_iret hx hb hr hlocks hw h dMO_stops_53
        · replace h := h.2 hc
          refine lv_lload_n hx hb dMO_stops_46 rfl (lv_at hl 2 rfl) ?_
          refine lv_lconst (v := 0) hx hb dMO_stops_47 (by decide) ?_
          refine xl_lc_eq (tgt := 54) hx hb dMO_stops_48 dMO_stops_49 rfl (fun hc => ?_) (fun hc => ?_)
          · replace h := h.1 hc
            refine lv_iconst (v := 0) hx hb dMO_stops_54 (by decide) ?_
            refine lv_istore (i := 4) (lv' := [(4, .int 0), (0, .ref x0), (1, .int x1), (2, .long x2)]) hx hb dMO_stops_55 hl (by decide) (by first | rfl | simp [va_rf_cat, xcat_i, xcat_l, xcat_r, xcat_n]) (fun ls hl => ?_)
            refine lv_iconst (v := 1) hx hb dMO_stops_57 (by decide) ?_
            refine lv_istore (i := 5) (lv' := [(5, .int 1), (4, .int 0), (0, .ref x0), (1, .int x1), (2, .long x2)]) hx hb dMO_stops_58 hl (by decide) (by first | rfl | simp [va_rf_cat, xcat_i, xcat_l, xcat_r, xcat_n]) (fun ls hl => ?_)
            obtain ⟨n60, h⟩ := h
            refine W.widen (k := 0) (n := 0) (Nat.le_of_ble_eq_true rfl) (Nat.le_of_ble_eq_true rfl) ?_
            exact lo_60 n60 _ x0 x1 0 1 _ _ _ (lv_sub hl [2, 3, 1, 0] rfl) hw h
          · replace h := h.2 hc
            refine lv_iconst (v := (-1)) hx hb dMO_stops_52 (by decide) ?_
            refine W.widen (k := 0) (n := 0) (Nat.le_of_ble_eq_true rfl) (Nat.le_of_ble_eq_true rfl) ?_
            exact xw_iret hx hb hr hlocks hw h dMO_stops_53
      · replace h := h.2 hc
        refine lv_lload_n hx hb dMO_stops_16 rfl (lv_at hl 2 rfl) ?_
        refine lv_aload_n hx hb dMO_stops_17 rfl (lv_at hl 0 rfl) ?_
        obtain ⟨v37, hv, h⟩ := h
        refine xw_getR (C := RMO) (T := TMO) (N := 17) (ref := RMO) hx hb hts inMO hown hK hw rfl 13 (by decide) (hts _ mw_274) (fun _ h9 => h9) hv dMO_stops_18 ?_
        refine lv_bipush (v := 12) hx hb dMO_stops_21 (by decide) ?_
        refine lv_iload_n hx hb dMO_stops_23 rfl (lv_at hl 1 rfl) ?_
        refine lv_imul hx hb dMO_stops_24 ?_
        refine lv_iload hx hb dMO_stops_25 (lv_at hl 3 rfl) ?_
        refine lv_iadd hx hb dMO_stops_27 ?_
        obtain ⟨a38, rfl, h⟩ := h
        obtain ⟨n39, f40, ha, hin9, h⟩ := h
        refine xw_lald hx hb hK hw 2 rfl ha hin9 dMO_stops_28 ?_
        refine lv_ladd hx hb dMO_stops_29 ?_
        refine lv_lstore_n (i := 2) (lv' := [(2, .long (x2 + (f40 ((12 * x1) + x4).toNatClampNeg))), (0, .ref x0), (1, .int x1), (4, .int x4)]) hx hb dMO_stops_30 rfl hl (by decide) (by first | rfl | simp [va_rf_cat, xcat_i, xcat_l, xcat_r, xcat_n]) (fun ls hl => ?_)
        refine lv_iinc (k := 3) (v := x4 + 1) (lv' := [(4, .int (x4 + 1)), (2, .long (x2 + (f40 ((12 * x1) + x4).toNatClampNeg))), (0, .ref x0), (1, .int x1)]) hx hb dMO_stops_31 hl rfl rfl (by decide) (by first | rfl | simp [va_rf_cat, xcat_i, xcat_l, xcat_r, xcat_n]) (fun ls hl => ?_)
        refine lv_goto (tgt := 5) hx hb dMO_stops_34 rfl ?_
        exact ih5 _ x0 x1 (x2 + (f40 ((12 * x1) + x4).toNatClampNeg)) (x4 + 1) _ _ _ (lv_sub hl [2, 3, 1, 0] rfl) hw h
  refine xl_start (lvs := [(0, .ref h0), (1, .int p0)]) (by first | exact Nat.le_of_ble_eq_true rfl | simp [lg_sl, va_rf_cat, xcat_i, xcat_l, xcat_r, xcat_n]) (by first | rfl | simp [lv_args, va_rf_cat, xcat_i, xcat_l, xcat_r, xcat_n]) (fun ls hl => ?_)
  unfold wp_MO_stops at h
  refine lv_lconst (v := 0) hx hb dMO_stops_0 (by decide) ?_
  refine lv_lstore_n (i := 2) (lv' := [(2, .long 0), (0, .ref h0), (1, .int p0)]) hx hb dMO_stops_1 rfl hl (by decide) (by first | rfl | simp [va_rf_cat, xcat_i, xcat_l, xcat_r, xcat_n]) (fun ls hl => ?_)
  refine lv_iconst (v := 0) hx hb dMO_stops_2 (by decide) ?_
  refine lv_istore (i := 4) (lv' := [(4, .int 0), (2, .long 0), (0, .ref h0), (1, .int p0)]) hx hb dMO_stops_3 hl (by decide) (by first | rfl | simp [va_rf_cat, xcat_i, xcat_l, xcat_r, xcat_n]) (fun ls hl => ?_)
  obtain ⟨n5, h⟩ := h
  refine W.widen (k := 0) (n := 0) (Nat.le_of_ble_eq_true rfl) (Nat.le_of_ble_eq_true rfl) ?_
  exact lo_5 n5 _ h0 p0 0 0 _ _ _ (lv_sub hl [2, 3, 1, 0] rfl) hw h
def wp_MO_go (E : xE_T) (post : Int32 → xw_T → Prop) (w : xw_T) (h0 : Nat) (p0 : Int32) : Prop := (∃ fs, w h0 = some (.inr (5, fs))) ∧ wp_MO_stops E (fun r1 w2 => ∃ v3, xgR w2 h0 5 6 = some v3 ∧ (∃ a4 : Nat, v3 = some a4 ∧ (∃ n5 f6, xaI w2 a4 (E.1 1) = some (n5, f6) ∧ vp_in p0 n5 ∧ ∀ w7, w7 = va_up w2 a4 (some (xcI (E.1 1) n5 (upd f6 p0.toNatClampNeg 2))) → ((r1 < 0 → (post (-1) w7)) ∧ (¬ r1 < 0 → (∃ v8, xgR w7 h0 5 11 = some v8 ∧ (∃ a9 : Nat, v8 = some a9 ∧ (∃ n10 f11, xaI w7 a9 (E.1 1) = some (n10, f11) ∧ vp_in p0 n10 ∧ (((f11 p0.toNatClampNeg) ≤ r1 → (∃ v12, xgR w7 h0 5 8 = some v12 ∧ (∃ a13 : Nat, v12 = some a13 ∧ (∃ n14 f15, xaI w7 a13 (E.1 3) = some (n14, f15) ∧ vp_in p0 n14 ∧ (((f15 p0.toNatClampNeg) = 0 → (∃ v16, xgR w7 h0 5 6 = some v16 ∧ (∃ a17 : Nat, v16 = some a17 ∧ (∃ n18 f19, xaI w7 a17 (E.1 1) = some (n18, f19) ∧ vp_in p0 n18 ∧ ∀ w20, w20 = va_up w7 a17 (some (xcI (E.1 1) n18 (upd f19 p0.toNatClampNeg 1))) → (∃ v21, xgR w20 h0 5 15 = some v21 ∧ (∃ v22, xgI w20 h0 5 14 = some v22 ∧ (∃ a23 : Nat, v21 = some a23 ∧ (∃ n24 f25, xaI w20 a23 (E.1 1) = some (n24, f25) ∧ vp_in v22 n24 ∧ ∀ w26, w26 = va_up w20 a23 (some (xcI (E.1 1) n24 (upd f25 v22.toNatClampNeg p0))) → (∃ v27, xgI w26 h0 5 14 = some v27 ∧ ((∃ v0, xg w26 h0 5 14 = some v0) ∧ ∀ w28, w28 = xp w26 h0 14 (.int (v27 + 1)) → (post 1 w28))))))))))) ∧ (¬ (f15 p0.toNatClampNeg) = 0 → (post 0 w7))))))) ∧ (¬ (f11 p0.toNatClampNeg) ≤ r1 → ((r1 = 0 → (post (-1) w7)) ∧ (¬ r1 = 0 → (∃ v29, xgR w7 h0 5 8 = some v29 ∧ (∃ a30 : Nat, v29 = some a30 ∧ (∃ n31 f32, xaI w7 a30 (E.1 3) = some (n31, f32) ∧ vp_in p0 n31 ∧ ((¬ (f32 p0.toNatClampNeg) = 0 → (∃ v33, xgR w7 h0 5 8 = some v33 ∧ (∃ a34 : Nat, v33 = some a34 ∧ (∃ n35 f36, xaI w7 a34 (E.1 3) = some (n35, f36) ∧ vp_in p0 n35 ∧ (((f36 p0.toNatClampNeg) = 0 → (∃ v37, xgR w7 h0 5 6 = some v37 ∧ (∃ a38 : Nat, v37 = some a38 ∧ (∃ n39 f40, xaI w7 a38 (E.1 1) = some (n39, f40) ∧ vp_in p0 n39 ∧ ∀ w41, w41 = va_up w7 a38 (some (xcI (E.1 1) n39 (upd f40 p0.toNatClampNeg 1))) → (∃ v42, xgR w41 h0 5 15 = some v42 ∧ (∃ v43, xgI w41 h0 5 14 = some v43 ∧ (∃ a44 : Nat, v42 = some a44 ∧ (∃ n45 f46, xaI w41 a44 (E.1 1) = some (n45, f46) ∧ vp_in v43 n45 ∧ ∀ w47, w47 = va_up w41 a44 (some (xcI (E.1 1) n45 (upd f46 v43.toNatClampNeg p0))) → (∃ v48, xgI w47 h0 5 14 = some v48 ∧ ((∃ v0, xg w47 h0 5 14 = some v0) ∧ ∀ w49, w49 = xp w47 h0 14 (.int (v48 + 1)) → (post 1 w49))))))))))) ∧ (¬ (f36 p0.toNatClampNeg) = 0 → (post 0 w7))))))) ∧ ((f32 p0.toNatClampNeg) = 0 → (post (-1) w7)))))))))))))))))) w h0 p0
set_option maxHeartbeats 4000000 in
set_option maxRecDepth 100000 in
theorem c_MO_go (l : Launch) (D : va_G) (E : xE_T) (A : Nat → Prop) (post : Int32 → xw_T → Prop) (w : xw_T) (h0 : Nat) (p0 : Int32) (h : wp_MO_go E post w h0 p0) : Met l yMO_go (xW yMO_go cMO_go 3 (some (.int))) ({ frames := 3, cells := 0, slots := 0, locals := 80 } : Room) (va_Pc [.ref h0, .int p0] (xP D E A w)) (va_Qi post (xB D A) A) 0 0 A := by
  refine Met.ofW (cc := cMO_go) (maxL := 3) (ret := (some (.int))) (by decide) rfl ?_
  intro p e s m args below meth c s₁ B hml hv
  obtain ⟨rfl, hw, hK, hE⟩ := hv
  have hx := B.exec
  have hb := B.bytes
  have hr := B.returns
  have hts : ∀ w ∈ xTB, w.before _ s = true := fun w hw => atoms_spec (ws := xW yMO_go cMO_go 3 (some (.int))) B.pre w (List.mem_cons_of_mem _ hw)
  have hown : s.vm.findClass RMO = some m.cls := findClass_of_methodNamed B.named
  have hlocks := B.notSynchronized
  have hw : xw_S D vwCl A s.heap w s.heap [] := xw_S0 hw
  refine xl_start (lvs := [(0, .ref h0), (1, .int p0)]) (by first | exact Nat.le_of_ble_eq_true rfl | simp [lg_sl, va_rf_cat, xcat_i, xcat_l, xcat_r, xcat_n]) (by first | rfl | simp [lv_args, va_rf_cat, xcat_i, xcat_l, xcat_r, xcat_n]) (fun ls hl => ?_)
  unfold wp_MO_go at h
  refine lv_aload_n hx hb dMO_go_0 rfl (lv_at hl 0 rfl) ?_
  refine lv_iload_n hx hb dMO_go_1 rfl (lv_at hl 1 rfl) ?_
  obtain ⟨⟨fs, hk⟩, h⟩ := h
  have hcall := h
  clear h
  refine xw_calli (va_runV (As := [.int p0]) (rest := []) ⟨hx, hb, hml, hown, hts⟩ (c_MO_stops l D E A _ w h0 p0 hcall) (cwV 1 hts (xG_V mw_329 mw_330 mw_331 mw_294 mw_332) rfl rfl rfl (by decide +kernel) ⟨(Nat.le_of_ble_eq_true rfl), (Nat.le_of_ble_eq_true rfl)⟩) (xw_preV (ci := 5) hw hK hE rfl hk) rfl rfl hl.1 rfl (lv_room (by first | exact Nat.le_of_ble_eq_true rfl | simp [va_rf_cat, xcat_i, xcat_l, xcat_r, xcat_n])) dMO_go_2 ⟨(Nat.le_of_ble_eq_true rfl), (Nat.le_of_ble_eq_true rfl)⟩) hw (fun r1 w2 H locs h hw => ?_)
  clear hcall
  refine lv_istore_n (i := 2) (lv' := [(2, .int r1), (0, .ref h0), (1, .int p0)]) hx hb dMO_go_5 rfl hl (by decide) (by first | rfl | simp [va_rf_cat, xcat_i, xcat_l, xcat_r, xcat_n]) (fun ls hl => ?_)
  refine lv_aload_n hx hb dMO_go_6 rfl (lv_at hl 1 rfl) ?_
  obtain ⟨v3, hv, h⟩ := h
  refine xw_getR (C := RMO) (T := TMO) (N := 17) (ref := RMO) hx hb hts inMO hown hK hw rfl 6 (by decide) (hts _ mw_283) (fun _ h9 => h9) hv dMO_go_7 ?_
  refine lv_iload_n hx hb dMO_go_10 rfl (lv_at hl 2 rfl) ?_
  refine lv_iconst (v := 2) hx hb dMO_go_11 (by decide) ?_
  obtain ⟨a4, rfl, h⟩ := h
  obtain ⟨n5, f6, ha, hin9, h⟩ := h
  refine xw_iast hx hb hK hw 1 rfl ha hin9 dMO_go_12 (fun H locs hw => ?_)
  replace h := h _ rfl
  generalize va_up w2 a4 (some (xcI (E.1 1) n5 (upd f6 p0.toNatClampNeg 2))) = w7 at hw h
  refine lv_iload_n hx hb dMO_go_13 rfl (lv_at hl 0 rfl) ?_
  refine lv_if_lt (tgt := 40) hx hb dMO_go_14 rfl (fun hc => ?_) (fun hc => ?_)
  · replace h := h.1 hc
    refine lv_iconst (v := (-1)) hx hb dMO_go_40 (by decide) ?_
    refine W.widen (k := 0) (n := 0) (Nat.le_of_ble_eq_true rfl) (Nat.le_of_ble_eq_true rfl) ?_
    exact xw_iret hx hb hr hlocks hw h dMO_go_41
  · replace h := h.2 hc
    refine lv_iload_n hx hb dMO_go_17 rfl (lv_at hl 0 rfl) ?_
    refine lv_aload_n hx hb dMO_go_18 rfl (lv_at hl 1 rfl) ?_
    obtain ⟨v8, hv, h⟩ := h
    refine xw_getR (C := RMO) (T := TMO) (N := 17) (ref := RMO) hx hb hts inMO hown hK hw rfl 11 (by decide) (hts _ mw_277) (fun _ h9 => h9) hv dMO_go_19 ?_
    refine lv_iload_n hx hb dMO_go_22 rfl (lv_at hl 2 rfl) ?_
    obtain ⟨a9, rfl, h⟩ := h
    obtain ⟨n10, f11, ha, hin9, h⟩ := h
    refine xw_iald hx hb hK hw 1 rfl ha hin9 dMO_go_23 ?_
    refine lv_icmp_ge (tgt := 42) hx hb dMO_go_24 rfl (fun hc => ?_) (fun hc => ?_)
    · replace h := h.1 hc
      refine lv_aload_n hx hb dMO_go_42 rfl (lv_at hl 1 rfl) ?_
      obtain ⟨v12, hv, h⟩ := h
      refine xw_getR (C := RMO) (T := TMO) (N := 17) (ref := RMO) hx hb hts inMO hown hK hw rfl 8 (by decide) (hts _ mw_281) (fun _ h9 => h9) hv dMO_go_43 ?_
      refine lv_iload_n hx hb dMO_go_46 rfl (lv_at hl 2 rfl) ?_
      obtain ⟨a13, rfl, h⟩ := h
      obtain ⟨n14, f15, ha, hin9, h⟩ := h
      refine xw_zald hx hb hK hw 3 rfl ha hin9 dMO_go_47 ?_
      refine lv_if_eq (tgt := 53) hx hb dMO_go_48 rfl (fun hc => ?_) (fun hc => ?_)
      · replace h := h.1 hc
        refine lv_aload_n hx hb dMO_go_53 rfl (lv_at hl 1 rfl) ?_
        obtain ⟨v16, hv, h⟩ := h
        refine xw_getR (C := RMO) (T := TMO) (N := 17) (ref := RMO) hx hb hts inMO hown hK hw rfl 6 (by decide) (hts _ mw_283) (fun _ h9 => h9) hv dMO_go_54 ?_
        refine lv_iload_n hx hb dMO_go_57 rfl (lv_at hl 2 rfl) ?_
        refine lv_iconst (v := 1) hx hb dMO_go_58 (by decide) ?_
        obtain ⟨a17, rfl, h⟩ := h
        obtain ⟨n18, f19, ha, hin9, h⟩ := h
        refine xw_iast hx hb hK hw 1 rfl ha hin9 dMO_go_59 (fun H locs hw => ?_)
        replace h := h _ rfl
        generalize va_up w7 a17 (some (xcI (E.1 1) n18 (upd f19 p0.toNatClampNeg 1))) = w20 at hw h
        refine lv_aload_n hx hb dMO_go_60 rfl (lv_at hl 1 rfl) ?_
        obtain ⟨v21, hv, h⟩ := h
        refine xw_getR (C := RMO) (T := TMO) (N := 17) (ref := RMO) hx hb hts inMO hown hK hw rfl 15 (by decide) (hts _ mw_272) (fun _ h9 => h9) hv dMO_go_61 ?_
        refine lv_aload_n hx hb dMO_go_64 rfl (lv_at hl 1 rfl) ?_
        obtain ⟨v22, hv, h⟩ := h
        refine xw_getI (C := RMO) (T := TMO) (N := 17) (ref := RMO) hx hb hts inMO hown hK hw rfl 14 (by decide) (hts _ mw_323) (fun _ h9 => h9) hv dMO_go_65 ?_
        refine lv_iload_n hx hb dMO_go_68 rfl (lv_at hl 2 rfl) ?_
        obtain ⟨a23, rfl, h⟩ := h
        obtain ⟨n24, f25, ha, hin9, h⟩ := h
        refine xw_iast hx hb hK hw 1 rfl ha hin9 dMO_go_69 (fun H locs hw => ?_)
        replace h := h _ rfl
        generalize va_up w20 a23 (some (xcI (E.1 1) n24 (upd f25 v22.toNatClampNeg p0))) = w26 at hw h
        refine lv_aload_n hx hb dMO_go_70 rfl (lv_at hl 1 rfl) ?_
        refine lv_dup hx hb dMO_go_71 rfl ?_
        obtain ⟨v27, hv, h⟩ := h
        refine xw_getI (C := RMO) (T := TMO) (N := 17) (ref := RMO) hx hb hts inMO hown hK hw rfl 14 (by decide) (hts _ mw_323) (fun _ h9 => h9) hv dMO_go_72 ?_
        refine lv_iconst (v := 1) hx hb dMO_go_75 (by decide) ?_
        refine lv_iadd hx hb dMO_go_76 ?_
        obtain ⟨hv, h⟩ := h
        refine xw_put (ty := (.int)) (C := RMO) (T := TMO) (N := 17) (ref := RMO) hx hb hts inMO tyMO tyMO_ok nmMO hown hK hw rfl 14 (by decide) (hts _ mw_323) (fun _ h9 => h9) rfl (by decide +kernel) rfl rfl hv dMO_go_77 (fun H locs hw => ?_)
        replace h := h _ rfl
        generalize xp w26 h0 14 (.int (v27 + 1)) = w28 at hw h
        refine lv_iconst (v := 1) hx hb dMO_go_80 (by decide) ?_
        refine W.widen (k := 0) (n := 0) (Nat.le_of_ble_eq_true rfl) (Nat.le_of_ble_eq_true rfl) ?_
        exact xw_iret hx hb hr hlocks hw h dMO_go_81
      · replace h := h.2 hc
        refine lv_iconst (v := 0) hx hb dMO_go_51 (by decide) ?_
        refine W.widen (k := 0) (n := 0) (Nat.le_of_ble_eq_true rfl) (Nat.le_of_ble_eq_true rfl) ?_
        exact xw_iret hx hb hr hlocks hw h dMO_go_52
    · replace h := h.2 hc
      refine lv_iload_n hx hb dMO_go_27 rfl (lv_at hl 0 rfl) ?_
      refine lv_if_eq (tgt := 40) hx hb dMO_go_28 rfl (fun hc => ?_) (fun hc => ?_)
      · replace h := h.1 hc
        refine lv_iconst (v := (-1)) hx hb dMO_go_40 (by decide) ?_
        refine W.widen (k := 0) (n := 0) (Nat.le_of_ble_eq_true rfl) (Nat.le_of_ble_eq_true rfl) ?_
        exact xw_iret hx hb hr hlocks hw h dMO_go_41
      · replace h := h.2 hc
        refine lv_aload_n hx hb dMO_go_31 rfl (lv_at hl 1 rfl) ?_
        obtain ⟨v29, hv, h⟩ := h
        refine xw_getR (C := RMO) (T := TMO) (N := 17) (ref := RMO) hx hb hts inMO hown hK hw rfl 8 (by decide) (hts _ mw_281) (fun _ h9 => h9) hv dMO_go_32 ?_
        refine lv_iload_n hx hb dMO_go_35 rfl (lv_at hl 2 rfl) ?_
        obtain ⟨a30, rfl, h⟩ := h
        obtain ⟨n31, f32, ha, hin9, h⟩ := h
        refine xw_zald hx hb hK hw 3 rfl ha hin9 dMO_go_36 ?_
        refine lv_if_ne (tgt := 42) hx hb dMO_go_37 rfl (fun hc => ?_) (fun hc => ?_)
        · replace h := h.1 hc
          refine lv_aload_n hx hb dMO_go_42 rfl (lv_at hl 1 rfl) ?_
          obtain ⟨v33, hv, h⟩ := h
          refine xw_getR (C := RMO) (T := TMO) (N := 17) (ref := RMO) hx hb hts inMO hown hK hw rfl 8 (by decide) (hts _ mw_281) (fun _ h9 => h9) hv dMO_go_43 ?_
          refine lv_iload_n hx hb dMO_go_46 rfl (lv_at hl 2 rfl) ?_
          obtain ⟨a34, rfl, h⟩ := h
          obtain ⟨n35, f36, ha, hin9, h⟩ := h
          refine xw_zald hx hb hK hw 3 rfl ha hin9 dMO_go_47 ?_
          refine lv_if_eq (tgt := 53) hx hb dMO_go_48 rfl (fun hc => ?_) (fun hc => ?_)
          · replace h := h.1 hc
            refine lv_aload_n hx hb dMO_go_53 rfl (lv_at hl 1 rfl) ?_
            obtain ⟨v37, hv, h⟩ := h
            refine xw_getR (C := RMO) (T := TMO) (N := 17) (ref := RMO) hx hb hts inMO hown hK hw rfl 6 (by decide) (hts _ mw_283) (fun _ h9 => h9) hv dMO_go_54 ?_
            refine lv_iload_n hx hb dMO_go_57 rfl (lv_at hl 2 rfl) ?_
            refine lv_iconst (v := 1) hx hb dMO_go_58 (by decide) ?_
            obtain ⟨a38, rfl, h⟩ := h
            obtain ⟨n39, f40, ha, hin9, h⟩ := h
            refine xw_iast hx hb hK hw 1 rfl ha hin9 dMO_go_59 (fun H locs hw => ?_)
            replace h := h _ rfl
            generalize va_up w7 a38 (some (xcI (E.1 1) n39 (upd f40 p0.toNatClampNeg 1))) = w41 at hw h
            refine lv_aload_n hx hb dMO_go_60 rfl (lv_at hl 1 rfl) ?_
            obtain ⟨v42, hv, h⟩ := h
            refine xw_getR (C := RMO) (T := TMO) (N := 17) (ref := RMO) hx hb hts inMO hown hK hw rfl 15 (by decide) (hts _ mw_272) (fun _ h9 => h9) hv dMO_go_61 ?_
            refine lv_aload_n hx hb dMO_go_64 rfl (lv_at hl 1 rfl) ?_
            obtain ⟨v43, hv, h⟩ := h
            refine xw_getI (C := RMO) (T := TMO) (N := 17) (ref := RMO) hx hb hts inMO hown hK hw rfl 14 (by decide) (hts _ mw_323) (fun _ h9 => h9) hv dMO_go_65 ?_
            refine lv_iload_n hx hb dMO_go_68 rfl (lv_at hl 2 rfl) ?_
            obtain ⟨a44, rfl, h⟩ := h
            obtain ⟨n45, f46, ha, hin9, h⟩ := h
            refine xw_iast hx hb hK hw 1 rfl ha hin9 dMO_go_69 (fun H locs hw => ?_)
            replace h := h _ rfl
            generalize va_up w41 a44 (some (xcI (E.1 1) n45 (upd f46 v43.toNatClampNeg p0))) = w47 at hw h
            refine lv_aload_n hx hb dMO_go_70 rfl (lv_at hl 1 rfl) ?_
            refine lv_dup hx hb dMO_go_71 rfl ?_
            obtain ⟨v48, hv, h⟩ := h
            refine xw_getI (C := RMO) (T := TMO) (N := 17) (ref := RMO) hx hb hts inMO hown hK hw rfl 14 (by decide) (hts _ mw_323) (fun _ h9 => h9) hv dMO_go_72 ?_
            refine lv_iconst (v := 1) hx hb dMO_go_75 (by decide) ?_
            refine lv_iadd hx hb dMO_go_76 ?_
            obtain ⟨hv, h⟩ := h
            refine xw_put (ty := (.int)) (C := RMO) (T := TMO) (N := 17) (ref := RMO) hx hb hts inMO tyMO tyMO_ok nmMO hown hK hw rfl 14 (by decide) (hts _ mw_323) (fun _ h9 => h9) rfl (by decide +kernel) rfl rfl hv dMO_go_77 (fun H locs hw => ?_)
            replace h := h _ rfl
            generalize xp w47 h0 14 (.int (v48 + 1)) = w49 at hw h
            refine lv_iconst (v := 1) hx hb dMO_go_80 (by decide) ?_
            refine W.widen (k := 0) (n := 0) (Nat.le_of_ble_eq_true rfl) (Nat.le_of_ble_eq_true rfl) ?_
            exact xw_iret hx hb hr hlocks hw h dMO_go_81
          · replace h := h.2 hc
            refine lv_iconst (v := 0) hx hb dMO_go_51 (by decide) ?_
            refine W.widen (k := 0) (n := 0) (Nat.le_of_ble_eq_true rfl) (Nat.le_of_ble_eq_true rfl) ?_
            exact xw_iret hx hb hr hlocks hw h dMO_go_52
        · replace h := h.2 hc
          refine lv_iconst (v := (-1)) hx hb dMO_go_40 (by decide) ?_
          refine W.widen (k := 0) (n := 0) (Nat.le_of_ble_eq_true rfl) (Nat.le_of_ble_eq_true rfl) ?_
          exact xw_iret hx hb hr hlocks hw h dMO_go_41
def wp_MO_post (E : xE_T) (post : Int32 → xw_T → Prop) (w : xw_T) (h0 : Nat) (p0 : Int32) : Prop := (∃ v0, xg w h0 5 0 = some v0) ∧ ∀ w1, w1 = xp w h0 0 (.int 0) → ((∃ fs, w1 h0 = some (.inr (5, fs))) ∧ wp_MO_isBatch E (fun r2 w3 => (¬ r2 = 0 → (∃ v4, xgR w3 h0 5 6 = some v4 ∧ (∃ a5 : Nat, v4 = some a5 ∧ (∃ n6 f7, xaI w3 a5 (E.1 1) = some (n6, f7) ∧ vp_in p0 n6 ∧ ((¬ (f7 p0.toNatClampNeg) = 0 → (post (-2000000003) w3)) ∧ ((f7 p0.toNatClampNeg) = 0 → (∃ v8, xgR w3 h0 5 7 = some v8 ∧ (∃ a9 : Nat, v8 = some a9 ∧ (∃ n10 f11, xaL w3 a9 (E.1 2) = some (n10, f11) ∧ vp_in p0 n10 ∧ (∃ v12, xgL w3 h0 5 16 = some v12 ∧ ((v12 < (f11 p0.toNatClampNeg) → ((∃ fs, w3 h0 = some (.inr (5, fs))) ∧ wp_MO_go E (fun r13 w14 => (0 ≤ r13 → ((∃ v0, xg w14 h0 5 0 = some v0) ∧ ∀ w15, w15 = xp w14 h0 0 (.int 0) → ((0 ≤ r13 → (post r13 w15)) ∧ (¬ 0 ≤ r13 → (post 0 w15))))) ∧ (¬ 0 ≤ r13 → ((∃ v0, xg w14 h0 5 0 = some v0) ∧ ∀ w16, w16 = xp w14 h0 0 (.int 1) → ((0 ≤ r13 → (post r13 w16)) ∧ (¬ 0 ≤ r13 → (post 0 w16)))))) w3 h0 p0)) ∧ (¬ v12 < (f11 p0.toNatClampNeg) → (post (-2000000003) w3))))))))))))) ∧ (r2 = 0 → (post (-2000000001) w3))) w1 h0 p0)
set_option maxHeartbeats 4000000 in
set_option maxRecDepth 100000 in
theorem c_MO_post (l : Launch) (D : va_G) (E : xE_T) (A : Nat → Prop) (post : Int32 → xw_T → Prop) (w : xw_T) (h0 : Nat) (p0 : Int32) (h : wp_MO_post E post w h0 p0) : Met l yMO_post (xW yMO_post cMO_post 3 (some (.int))) ({ frames := 4, cells := 0, slots := 0, locals := 102 } : Room) (va_Pc [.ref h0, .int p0] (xP D E A w)) (va_Qi post (xB D A) A) 0 0 A := by
  refine Met.ofW (cc := cMO_post) (maxL := 3) (ret := (some (.int))) (by decide) rfl ?_
  intro p e s m args below meth c s₁ B hml hv
  obtain ⟨rfl, hw, hK, hE⟩ := hv
  have hx := B.exec
  have hb := B.bytes
  have hr := B.returns
  have hts : ∀ w ∈ xTB, w.before _ s = true := fun w hw => atoms_spec (ws := xW yMO_post cMO_post 3 (some (.int))) B.pre w (List.mem_cons_of_mem _ hw)
  have hown : s.vm.findClass RMO = some m.cls := findClass_of_methodNamed B.named
  have hlocks := B.notSynchronized
  have hw : xw_S D vwCl A s.heap w s.heap [] := xw_S0 hw
  refine xl_start (lvs := [(0, .ref h0), (1, .int p0)]) (by first | exact Nat.le_of_ble_eq_true rfl | simp [lg_sl, va_rf_cat, xcat_i, xcat_l, xcat_r, xcat_n]) (by first | rfl | simp [lv_args, va_rf_cat, xcat_i, xcat_l, xcat_r, xcat_n]) (fun ls hl => ?_)
  unfold wp_MO_post at h
  refine lv_aload_n hx hb dMO_post_0 rfl (lv_at hl 0 rfl) ?_
  refine lv_iconst (v := 0) hx hb dMO_post_1 (by decide) ?_
  obtain ⟨hv, h⟩ := h
  refine xw_put (ty := (.int)) (C := RMO) (T := TMO) (N := 17) (ref := RMO) hx hb hts inMO tyMO tyMO_ok nmMO hown hK hw rfl 0 (by decide) (hts _ mw_288) (fun _ h9 => h9) rfl (by decide +kernel) rfl rfl hv dMO_post_2 (fun H locs hw => ?_)
  replace h := h _ rfl
  generalize xp w h0 0 (.int 0) = w1 at hw h
  refine lv_aload_n hx hb dMO_post_5 rfl (lv_at hl 0 rfl) ?_
  refine lv_iload_n hx hb dMO_post_6 rfl (lv_at hl 1 rfl) ?_
  obtain ⟨⟨fs, hk⟩, h⟩ := h
  have hcall := h
  clear h
  refine xw_calli (va_runV (As := [.int p0]) (rest := []) ⟨hx, hb, hml, hown, hts⟩ (c_MO_isBatch l D E A _ w1 h0 p0 hcall) (cwV 1 hts (xG_V mw_315 mw_316 mw_317 mw_294 mw_318) rfl rfl rfl (by decide +kernel) ⟨(Nat.le_of_ble_eq_true rfl), (Nat.le_of_ble_eq_true rfl)⟩) (xw_preV (ci := 5) hw hK hE rfl hk) rfl rfl hl.1 rfl (lv_room (by first | exact Nat.le_of_ble_eq_true rfl | simp [va_rf_cat, xcat_i, xcat_l, xcat_r, xcat_n])) dMO_post_7 ⟨(Nat.le_of_ble_eq_true rfl), (Nat.le_of_ble_eq_true rfl)⟩) hw (fun r2 w3 H locs h hw => ?_)
  clear hcall
  refine lv_if_ne (tgt := 16) hx hb dMO_post_10 rfl (fun hc => ?_) (fun hc => ?_)
  · replace h := h.1 hc
    refine lv_aload_n hx hb dMO_post_16 rfl (lv_at hl 0 rfl) ?_
    obtain ⟨v4, hv, h⟩ := h
    refine xw_getR (C := RMO) (T := TMO) (N := 17) (ref := RMO) hx hb hts inMO hown hK hw rfl 6 (by decide) (hts _ mw_283) (fun _ h9 => h9) hv dMO_post_17 ?_
    refine lv_iload_n hx hb dMO_post_20 rfl (lv_at hl 1 rfl) ?_
    obtain ⟨a5, rfl, h⟩ := h
    obtain ⟨n6, f7, ha, hin9, h⟩ := h
    refine xw_iald hx hb hK hw 1 rfl ha hin9 dMO_post_21 ?_
    refine lv_if_ne (tgt := 39) hx hb dMO_post_22 rfl (fun hc => ?_) (fun hc => ?_)
    · replace h := h.1 hc
      refine lv_ldc (v := (-2000000003)) hx hb hown (hts _ mw_303) dMO_post_39 ?_
      refine W.widen (k := 0) (n := 0) (Nat.le_of_ble_eq_true rfl) (Nat.le_of_ble_eq_true rfl) ?_
      exact xw_iret hx hb hr hlocks hw h dMO_post_41
    · replace h := h.2 hc
      refine lv_aload_n hx hb dMO_post_25 rfl (lv_at hl 0 rfl) ?_
      obtain ⟨v8, hv, h⟩ := h
      refine xw_getR (C := RMO) (T := TMO) (N := 17) (ref := RMO) hx hb hts inMO hown hK hw rfl 7 (by decide) (hts _ mw_282) (fun _ h9 => h9) hv dMO_post_26 ?_
      refine lv_iload_n hx hb dMO_post_29 rfl (lv_at hl 1 rfl) ?_
      obtain ⟨a9, rfl, h⟩ := h
      obtain ⟨n10, f11, ha, hin9, h⟩ := h
      refine xw_lald hx hb hK hw 2 rfl ha hin9 dMO_post_30 ?_
      refine lv_aload_n hx hb dMO_post_31 rfl (lv_at hl 0 rfl) ?_
      obtain ⟨v12, hv, h⟩ := h
      refine xw_getL (C := RMO) (T := TMO) (N := 17) (ref := RMO) hx hb hts inMO hown hK hw rfl 16 (by decide) (hts _ mw_270) (fun _ h9 => h9) hv dMO_post_32 ?_
      refine xl_lc_gt (tgt := 42) hx hb dMO_post_35 dMO_post_36 rfl (fun hc => ?_) (fun hc => ?_)
      · replace h := h.1 hc
        refine lv_aload_n hx hb dMO_post_42 rfl (lv_at hl 0 rfl) ?_
        refine lv_iload_n hx hb dMO_post_43 rfl (lv_at hl 1 rfl) ?_
        obtain ⟨⟨fs, hk⟩, h⟩ := h
        have hcall := h
        clear h
        refine xw_calli (va_runV (As := [.int p0]) (rest := []) ⟨hx, hb, hml, hown, hts⟩ (c_MO_go l D E A _ w3 h0 p0 hcall) (cwV 1 hts (xG_V mw_333 mw_334 mw_335 mw_294 mw_336) rfl rfl rfl (by decide +kernel) ⟨(Nat.le_of_ble_eq_true rfl), (Nat.le_of_ble_eq_true rfl)⟩) (xw_preV (ci := 5) hw hK hE rfl hk) rfl rfl hl.1 rfl (lv_room (by first | exact Nat.le_of_ble_eq_true rfl | simp [va_rf_cat, xcat_i, xcat_l, xcat_r, xcat_n])) dMO_post_44 ⟨(Nat.le_of_ble_eq_true rfl), (Nat.le_of_ble_eq_true rfl)⟩) hw (fun r13 w14 H locs h hw => ?_)
        clear hcall
        refine lv_istore_n (i := 2) (lv' := [(2, .int r13), (0, .ref h0), (1, .int p0)]) hx hb dMO_post_47 rfl hl (by decide) (by first | rfl | simp [va_rf_cat, xcat_i, xcat_l, xcat_r, xcat_n]) (fun ls hl => ?_)
        refine lv_aload_n hx hb dMO_post_48 rfl (lv_at hl 1 rfl) ?_
        refine lv_iload_n hx hb dMO_post_49 rfl (lv_at hl 0 rfl) ?_
        refine lv_if_ge (tgt := 57) hx hb dMO_post_50 rfl (fun hc => ?_) (fun hc => ?_)
        · replace h := h.1 hc
          refine lv_iconst (v := 0) hx hb dMO_post_57 (by decide) ?_
          obtain ⟨hv, h⟩ := h
          refine xw_put (ty := (.int)) (C := RMO) (T := TMO) (N := 17) (ref := RMO) hx hb hts inMO tyMO tyMO_ok nmMO hown hK hw rfl 0 (by decide) (hts _ mw_288) (fun _ h9 => h9) rfl (by decide +kernel) rfl rfl hv dMO_post_58 (fun H locs hw => ?_)
          replace h := h _ rfl
          generalize xp w14 h0 0 (.int 0) = w15 at hw h
          refine lv_iload_n hx hb dMO_post_61 rfl (lv_at hl 0 rfl) ?_
          refine lv_if_ge (tgt := 69) hx hb dMO_post_62 rfl (fun hc => ?_) (fun hc => ?_)
          · replace h := h.1 hc
            refine lv_iload_n hx hb dMO_post_69 rfl (lv_at hl 0 rfl) ?_
            refine W.widen (k := 0) (n := 0) (Nat.le_of_ble_eq_true rfl) (Nat.le_of_ble_eq_true rfl) ?_
            exact xw_iret hx hb hr hlocks hw h dMO_post_70
          · replace h := h.2 hc
            refine lv_iconst (v := 0) hx hb dMO_post_65 (by decide) ?_
            refine lv_goto (tgt := 70) hx hb dMO_post_66 rfl ?_
            refine W.widen (k := 0) (n := 0) (Nat.le_of_ble_eq_true rfl) (Nat.le_of_ble_eq_true rfl) ?_
            exact xw_iret hx hb hr hlocks hw h dMO_post_70
        · replace h := h.2 hc
          refine lv_iconst (v := 1) hx hb dMO_post_53 (by decide) ?_
          refine lv_goto (tgt := 58) hx hb dMO_post_54 rfl ?_
          obtain ⟨hv, h⟩ := h
          refine xw_put (ty := (.int)) (C := RMO) (T := TMO) (N := 17) (ref := RMO) hx hb hts inMO tyMO tyMO_ok nmMO hown hK hw rfl 0 (by decide) (hts _ mw_288) (fun _ h9 => h9) rfl (by decide +kernel) rfl rfl hv dMO_post_58 (fun H locs hw => ?_)
          replace h := h _ rfl
          generalize xp w14 h0 0 (.int 1) = w16 at hw h
          refine lv_iload_n hx hb dMO_post_61 rfl (lv_at hl 0 rfl) ?_
          refine lv_if_ge (tgt := 69) hx hb dMO_post_62 rfl (fun hc => ?_) (fun hc => ?_)
          · replace h := h.1 hc
            refine lv_iload_n hx hb dMO_post_69 rfl (lv_at hl 0 rfl) ?_
            refine W.widen (k := 0) (n := 0) (Nat.le_of_ble_eq_true rfl) (Nat.le_of_ble_eq_true rfl) ?_
            exact xw_iret hx hb hr hlocks hw h dMO_post_70
          · replace h := h.2 hc
            refine lv_iconst (v := 0) hx hb dMO_post_65 (by decide) ?_
            refine lv_goto (tgt := 70) hx hb dMO_post_66 rfl ?_
            refine W.widen (k := 0) (n := 0) (Nat.le_of_ble_eq_true rfl) (Nat.le_of_ble_eq_true rfl) ?_
            exact xw_iret hx hb hr hlocks hw h dMO_post_70
      · replace h := h.2 hc
        refine lv_ldc (v := (-2000000003)) hx hb hown (hts _ mw_303) dMO_post_39 ?_
        refine W.widen (k := 0) (n := 0) (Nat.le_of_ble_eq_true rfl) (Nat.le_of_ble_eq_true rfl) ?_
        exact xw_iret hx hb hr hlocks hw h dMO_post_41
  · replace h := h.2 hc
    refine lv_ldc (v := (-2000000001)) hx hb hown (hts _ mw_337) dMO_post_13 ?_
    refine W.widen (k := 0) (n := 0) (Nat.le_of_ble_eq_true rfl) (Nat.le_of_ble_eq_true rfl) ?_
    exact xw_iret hx hb hr hlocks hw h dMO_post_15
def wp_MO_balance (E : xE_T) (post : Int64 → xw_T → Prop) (w : xw_T) (h0 : Nat) (p0 : Int32) (p1 : Int64) : Prop := (∃ v0, xg w h0 5 0 = some v0) ∧ ∀ w1, w1 = xp w h0 0 (.int 0) → ((∃ fs, w1 h0 = some (.inr (5, fs))) ∧ wp_MO_isAccount E (fun r2 w3 => (r2 = 0 → (post (-2000000001) w3)) ∧ (¬ r2 = 0 → ((∃ fs, w3 h0 = some (.inr (5, fs))) ∧ wp_MO_balanceOf E (fun r4 w5 => post r4 w5) w3 h0 p0 p1))) w1 h0 p0)
set_option maxHeartbeats 4000000 in
set_option maxRecDepth 100000 in
theorem c_MO_balance (l : Launch) (D : va_G) (E : xE_T) (A : Nat → Prop) (post : Int64 → xw_T → Prop) (w : xw_T) (h0 : Nat) (p0 : Int32) (p1 : Int64) (h : wp_MO_balance E post w h0 p0 p1) : Met l yMO_balance (xW yMO_balance cMO_balance 4 (some (.long))) ({ frames := 2, cells := 0, slots := 0, locals := 53 } : Room) (va_Pc [.ref h0, .int p0, .long p1] (xP D E A w)) (va_Ql post (xB D A) A) 0 0 A := by
  refine Met.ofW (cc := cMO_balance) (maxL := 4) (ret := (some (.long))) (by decide) rfl ?_
  intro p e s m args below meth c s₁ B hml hv
  obtain ⟨rfl, hw, hK, hE⟩ := hv
  have hx := B.exec
  have hb := B.bytes
  have hr := B.returns
  have hts : ∀ w ∈ xTB, w.before _ s = true := fun w hw => atoms_spec (ws := xW yMO_balance cMO_balance 4 (some (.long))) B.pre w (List.mem_cons_of_mem _ hw)
  have hown : s.vm.findClass RMO = some m.cls := findClass_of_methodNamed B.named
  have hlocks := B.notSynchronized
  have hw : xw_S D vwCl A s.heap w s.heap [] := xw_S0 hw
  refine xl_start (lvs := [(0, .ref h0), (1, .int p0), (2, .long p1)]) (by first | exact Nat.le_of_ble_eq_true rfl | simp [lg_sl, va_rf_cat, xcat_i, xcat_l, xcat_r, xcat_n]) (by first | rfl | simp [lv_args, va_rf_cat, xcat_i, xcat_l, xcat_r, xcat_n]) (fun ls hl => ?_)
  unfold wp_MO_balance at h
  refine lv_aload_n hx hb dMO_balance_0 rfl (lv_at hl 0 rfl) ?_
  refine lv_iconst (v := 0) hx hb dMO_balance_1 (by decide) ?_
  obtain ⟨hv, h⟩ := h
  refine xw_put (ty := (.int)) (C := RMO) (T := TMO) (N := 17) (ref := RMO) hx hb hts inMO tyMO tyMO_ok nmMO hown hK hw rfl 0 (by decide) (hts _ mw_288) (fun _ h9 => h9) rfl (by decide +kernel) rfl rfl hv dMO_balance_2 (fun H locs hw => ?_)
  replace h := h _ rfl
  generalize xp w h0 0 (.int 0) = w1 at hw h
  refine lv_aload_n hx hb dMO_balance_5 rfl (lv_at hl 0 rfl) ?_
  refine lv_iload_n hx hb dMO_balance_6 rfl (lv_at hl 1 rfl) ?_
  obtain ⟨⟨fs, hk⟩, h⟩ := h
  have hcall := h
  clear h
  refine xw_calli (va_runV (As := [.int p0]) (rest := []) ⟨hx, hb, hml, hown, hts⟩ (c_MO_isAccount l D E A _ w1 h0 p0 hcall) (cwV 1 hts (xG_V mw_311 mw_312 mw_313 mw_294 mw_314) rfl rfl rfl (by decide +kernel) ⟨(Nat.le_of_ble_eq_true rfl), (Nat.le_of_ble_eq_true rfl)⟩) (xw_preV (ci := 5) hw hK hE rfl hk) rfl rfl hl.1 rfl (lv_room (by first | exact Nat.le_of_ble_eq_true rfl | simp [va_rf_cat, xcat_i, xcat_l, xcat_r, xcat_n])) dMO_balance_7 ⟨(Nat.le_of_ble_eq_true rfl), (Nat.le_of_ble_eq_true rfl)⟩) hw (fun r2 w3 H locs h hw => ?_)
  clear hcall
  refine lv_if_eq (tgt := 22) hx hb dMO_balance_10 rfl (fun hc => ?_) (fun hc => ?_)
  · replace h := h.1 hc
    refine lv_ldc2 (v := (-2000000001)) hx hb hown (hts _ mw_338) dMO_balance_22 ?_
    refine W.widen (k := 0) (n := 0) (Nat.le_of_ble_eq_true rfl) (Nat.le_of_ble_eq_true rfl) ?_
    exact xw_lret hx hb hr hlocks hw h dMO_balance_25
  · replace h := h.2 hc
    refine lv_aload_n hx hb dMO_balance_13 rfl (lv_at hl 0 rfl) ?_
    refine lv_iload_n hx hb dMO_balance_14 rfl (lv_at hl 1 rfl) ?_
    refine lv_lload_n hx hb dMO_balance_15 rfl (lv_at hl 2 rfl) ?_
    obtain ⟨⟨fs, hk⟩, h⟩ := h
    have hcall := h
    clear h
    refine xw_calll (va_runV (As := [.int p0, .long p1]) (rest := []) ⟨hx, hb, hml, hown, hts⟩ (c_MO_balanceOf l D E A _ w3 h0 p0 p1 hcall) (cwV 2 hts (xG_V mw_324 mw_325 mw_326 mw_294 mw_327) rfl rfl rfl (by decide +kernel) ⟨(Nat.le_of_ble_eq_true rfl), (Nat.le_of_ble_eq_true rfl)⟩) (xw_preV (ci := 5) hw hK hE rfl hk) rfl rfl hl.1 rfl (lv_room (by first | exact Nat.le_of_ble_eq_true rfl | simp [va_rf_cat, xcat_i, xcat_l, xcat_r, xcat_n])) dMO_balance_16 ⟨(Nat.le_of_ble_eq_true rfl), (Nat.le_of_ble_eq_true rfl)⟩) hw (fun r4 w5 H locs h hw => ?_)
    clear hcall
    refine lv_goto (tgt := 25) hx hb dMO_balance_19 rfl ?_
    refine W.widen (k := 0) (n := 0) (Nat.le_of_ble_eq_true rfl) (Nat.le_of_ble_eq_true rfl) ?_
    exact xw_lret hx hb hr hlocks hw h dMO_balance_25
def wp_MO_close (E : xE_T) (post : Int32 → xw_T → Prop) (w : xw_T) (h0 : Nat) (p0 : Int64) : Prop := (∃ v0, xg w h0 5 0 = some v0) ∧ ∀ w1, w1 = xp w h0 0 (.int 0) → (wp_MO_isIn E (fun r2 w3 => (¬ r2 = 0 → (∃ v4, xgL w3 h0 5 16 = some v4 ∧ ((p0 ≤ v4 → (∃ v5, xgL w3 h0 5 16 = some v5 ∧ ((∃ v0, xg w3 h0 5 16 = some v0) ∧ ∀ w6, w6 = xp w3 h0 16 (.long (v5 + ((0 : Int32).toInt64))) → (post 0 w6)))) ∧ (¬ p0 ≤ v4 → (∃ v7, xgL w3 h0 5 16 = some v7 ∧ (∃ v8, xgL w3 h0 5 16 = some v8 ∧ ((∃ v0, xg w3 h0 5 16 = some v0) ∧ ∀ w9, w9 = xp w3 h0 16 (.long (v8 + (((p0 - v7).toInt32).toInt64))) → (post ((p0 - v7).toInt32) w9)))))))) ∧ (r2 = 0 → (post (-2000000002) w3))) w1 p0 0 20000)
set_option maxHeartbeats 4000000 in
set_option maxRecDepth 100000 in
theorem c_MO_close (l : Launch) (D : va_G) (E : xE_T) (A : Nat → Prop) (post : Int32 → xw_T → Prop) (w : xw_T) (h0 : Nat) (p0 : Int64) (h : wp_MO_close E post w h0 p0) : Met l yMO_close (xW yMO_close cMO_close 4 (some (.int))) ({ frames := 1, cells := 0, slots := 0, locals := 25 } : Room) (va_Pc [.ref h0, .long p0] (xP D E A w)) (va_Qi post (xB D A) A) 0 0 A := by
  refine Met.ofW (cc := cMO_close) (maxL := 4) (ret := (some (.int))) (by decide) rfl ?_
  intro p e s m args below meth c s₁ B hml hv
  obtain ⟨rfl, hw, hK, hE⟩ := hv
  have hx := B.exec
  have hb := B.bytes
  have hr := B.returns
  have hts : ∀ w ∈ xTB, w.before _ s = true := fun w hw => atoms_spec (ws := xW yMO_close cMO_close 4 (some (.int))) B.pre w (List.mem_cons_of_mem _ hw)
  have hown : s.vm.findClass RMO = some m.cls := findClass_of_methodNamed B.named
  have hlocks := B.notSynchronized
  have hw : xw_S D vwCl A s.heap w s.heap [] := xw_S0 hw
  refine xl_start (lvs := [(0, .ref h0), (1, .long p0)]) (by first | exact Nat.le_of_ble_eq_true rfl | simp [lg_sl, va_rf_cat, xcat_i, xcat_l, xcat_r, xcat_n]) (by first | rfl | simp [lv_args, va_rf_cat, xcat_i, xcat_l, xcat_r, xcat_n]) (fun ls hl => ?_)
  unfold wp_MO_close at h
  refine lv_aload_n hx hb dMO_close_0 rfl (lv_at hl 0 rfl) ?_
  refine lv_iconst (v := 0) hx hb dMO_close_1 (by decide) ?_
  obtain ⟨hv, h⟩ := h
  refine xw_put (ty := (.int)) (C := RMO) (T := TMO) (N := 17) (ref := RMO) hx hb hts inMO tyMO tyMO_ok nmMO hown hK hw rfl 0 (by decide) (hts _ mw_288) (fun _ h9 => h9) rfl (by decide +kernel) rfl rfl hv dMO_close_2 (fun H locs hw => ?_)
  replace h := h _ rfl
  generalize xp w h0 0 (.int 0) = w1 at hw h
  refine lv_lload_n hx hb dMO_close_5 rfl (lv_at hl 1 rfl) ?_
  refine lv_lconst (v := 0) hx hb dMO_close_6 (by decide) ?_
  refine lv_ldc2 (v := 20000) hx hb hown (hts _ mw_304) dMO_close_7 ?_
  have hcall := h
  clear h
  refine xw_calli (va_runS (As := [.long p0, .long 0, .long 20000]) (rest := []) ⟨hx, hb, hml, hown, hts⟩ (c_MO_isIn l D E A _ w1 p0 0 20000 hcall) (va_cwS 3 hts (xG_S mw_292 mw_293 mw_294 mw_295) rfl rfl rfl (by decide +kernel) ⟨(Nat.le_of_ble_eq_true rfl), (Nat.le_of_ble_eq_true rfl)⟩) (xw_preS hw hK hE) rfl rfl hl.1 rfl (lv_room (by first | exact Nat.le_of_ble_eq_true rfl | simp [va_rf_cat, xcat_i, xcat_l, xcat_r, xcat_n])) dMO_close_10 ⟨(Nat.le_of_ble_eq_true rfl), (Nat.le_of_ble_eq_true rfl)⟩) hw (fun r2 w3 H locs h hw => ?_)
  clear hcall
  refine lv_if_ne (tgt := 19) hx hb dMO_close_13 rfl (fun hc => ?_) (fun hc => ?_)
  · replace h := h.1 hc
    refine lv_lload_n hx hb dMO_close_19 rfl (lv_at hl 1 rfl) ?_
    refine lv_aload_n hx hb dMO_close_20 rfl (lv_at hl 0 rfl) ?_
    obtain ⟨v4, hv, h⟩ := h
    refine xw_getL (C := RMO) (T := TMO) (N := 17) (ref := RMO) hx hb hts inMO hown hK hw rfl 16 (by decide) (hts _ mw_270) (fun _ h9 => h9) hv dMO_close_21 ?_
    refine xl_lc_le (tgt := 38) hx hb dMO_close_24 dMO_close_25 rfl (fun hc => ?_) (fun hc => ?_)
    · replace h := h.1 hc
      refine lv_iconst (v := 0) hx hb dMO_close_38 (by decide) ?_
      refine lv_istore_n (i := 3) (lv' := [(3, .int 0), (0, .ref h0), (1, .long p0)]) hx hb dMO_close_39 rfl hl (by decide) (by first | rfl | simp [va_rf_cat, xcat_i, xcat_l, xcat_r, xcat_n]) (fun ls hl => ?_)
      refine lv_aload_n hx hb dMO_close_40 rfl (lv_at hl 1 rfl) ?_
      refine lv_aload_n hx hb dMO_close_41 rfl (lv_at hl 1 rfl) ?_
      obtain ⟨v5, hv, h⟩ := h
      refine xw_getL (C := RMO) (T := TMO) (N := 17) (ref := RMO) hx hb hts inMO hown hK hw rfl 16 (by decide) (hts _ mw_270) (fun _ h9 => h9) hv dMO_close_42 ?_
      refine lv_iload_n hx hb dMO_close_45 rfl (lv_at hl 0 rfl) ?_
      refine lv_i2l hx hb dMO_close_46 rfl ?_
      refine lv_ladd hx hb dMO_close_47 ?_
      obtain ⟨hv, h⟩ := h
      refine xw_put (ty := (.long)) (C := RMO) (T := TMO) (N := 17) (ref := RMO) hx hb hts inMO tyMO tyMO_ok nmMO hown hK hw rfl 16 (by decide) (hts _ mw_270) (fun _ h9 => h9) rfl (by decide +kernel) rfl rfl hv dMO_close_48 (fun H locs hw => ?_)
      replace h := h _ rfl
      generalize xp w3 h0 16 (.long (v5 + ((0 : Int32).toInt64))) = w6 at hw h
      refine lv_iload_n hx hb dMO_close_51 rfl (lv_at hl 0 rfl) ?_
      refine W.widen (k := 0) (n := 0) (Nat.le_of_ble_eq_true rfl) (Nat.le_of_ble_eq_true rfl) ?_
      exact xw_iret hx hb hr hlocks hw h dMO_close_52
    · replace h := h.2 hc
      refine lv_lload_n hx hb dMO_close_28 rfl (lv_at hl 1 rfl) ?_
      refine lv_aload_n hx hb dMO_close_29 rfl (lv_at hl 0 rfl) ?_
      obtain ⟨v7, hv, h⟩ := h
      refine xw_getL (C := RMO) (T := TMO) (N := 17) (ref := RMO) hx hb hts inMO hown hK hw rfl 16 (by decide) (hts _ mw_270) (fun _ h9 => h9) hv dMO_close_30 ?_
      refine lv_lsub hx hb dMO_close_33 ?_
      refine lv_l2i hx hb dMO_close_34 rfl ?_
      refine lv_goto (tgt := 39) hx hb dMO_close_35 rfl ?_
      refine lv_istore_n (i := 3) (lv' := [(3, .int ((p0 - v7).toInt32)), (0, .ref h0), (1, .long p0)]) hx hb dMO_close_39 rfl hl (by decide) (by first | rfl | simp [va_rf_cat, xcat_i, xcat_l, xcat_r, xcat_n]) (fun ls hl => ?_)
      refine lv_aload_n hx hb dMO_close_40 rfl (lv_at hl 1 rfl) ?_
      refine lv_aload_n hx hb dMO_close_41 rfl (lv_at hl 1 rfl) ?_
      obtain ⟨v8, hv, h⟩ := h
      refine xw_getL (C := RMO) (T := TMO) (N := 17) (ref := RMO) hx hb hts inMO hown hK hw rfl 16 (by decide) (hts _ mw_270) (fun _ h9 => h9) hv dMO_close_42 ?_
      refine lv_iload_n hx hb dMO_close_45 rfl (lv_at hl 0 rfl) ?_
      refine lv_i2l hx hb dMO_close_46 rfl ?_
      refine lv_ladd hx hb dMO_close_47 ?_
      obtain ⟨hv, h⟩ := h
      refine xw_put (ty := (.long)) (C := RMO) (T := TMO) (N := 17) (ref := RMO) hx hb hts inMO tyMO tyMO_ok nmMO hown hK hw rfl 16 (by decide) (hts _ mw_270) (fun _ h9 => h9) rfl (by decide +kernel) rfl rfl hv dMO_close_48 (fun H locs hw => ?_)
      replace h := h _ rfl
      generalize xp w3 h0 16 (.long (v8 + (((p0 - v7).toInt32).toInt64))) = w9 at hw h
      refine lv_iload_n hx hb dMO_close_51 rfl (lv_at hl 0 rfl) ?_
      refine W.widen (k := 0) (n := 0) (Nat.le_of_ble_eq_true rfl) (Nat.le_of_ble_eq_true rfl) ?_
      exact xw_iret hx hb hr hlocks hw h dMO_close_52
  · replace h := h.2 hc
    refine lv_ldc (v := (-2000000002)) hx hb hown (hts _ mw_289) dMO_close_16 ?_
    refine W.widen (k := 0) (n := 0) (Nat.le_of_ble_eq_true rfl) (Nat.le_of_ble_eq_true rfl) ?_
    exact xw_iret hx hb hr hlocks hw h dMO_close_18
def wl_MO_batchOf_4 (E : xE_T) (post : Int32 → xw_T → Prop) : Nat → xw_T → Nat → Int32 → Int32 → Int32 → Prop
  | 0 => fun _ _ _ _ _ => False
  | n4 + 1 => fun w x0 x1 x2 x3 => ∃ v1, xgI w x0 5 14 = some v1 ∧ ((v1 ≤ x3 → (post 0 w)) ∧ (¬ v1 ≤ x3 → ((x1 ≤ 0 → (post 0 w)) ∧ (¬ x1 ≤ 0 → (∃ v2, xgR w x0 5 11 = some v2 ∧ (∃ v3, xgR w x0 5 15 = some v3 ∧ (∃ a4 : Nat, v3 = some a4 ∧ (∃ n5 f6, xaI w a4 (E.1 1) = some (n5, f6) ∧ vp_in x3 n5 ∧ (∃ a7 : Nat, v2 = some a7 ∧ (∃ n8 f9, xaI w a7 (E.1 1) = some (n8, f9) ∧ vp_in (f6 x3.toNatClampNeg) n8 ∧ ((0 < (x2 - (f9 (f6 x3.toNatClampNeg).toNatClampNeg)) → (wl_MO_batchOf_4 E post n4 w x0 x1 (x2 - (f9 (f6 x3.toNatClampNeg).toNatClampNeg)) (x3 + 1))) ∧ (¬ 0 < (x2 - (f9 (f6 x3.toNatClampNeg).toNatClampNeg)) → (∃ v10, xgR w x0 5 15 = some v10 ∧ (∃ a11 : Nat, v10 = some a11 ∧ (∃ n12 f13, xaI w a11 (E.1 1) = some (n12, f13) ∧ vp_in x3 n12 ∧ (post (f13 x3.toNatClampNeg) w))))))))))))))))
def wp_MO_batchOf (E : xE_T) (post : Int32 → xw_T → Prop) (w : xw_T) (h0 : Nat) (p0 : Int32) : Prop := ∃ n4, wl_MO_batchOf_4 E post n4 w h0 p0 p0 0
set_option maxHeartbeats 4000000 in
set_option maxRecDepth 100000 in
theorem c_MO_batchOf (l : Launch) (D : va_G) (E : xE_T) (A : Nat → Prop) (post : Int32 → xw_T → Prop) (w : xw_T) (h0 : Nat) (p0 : Int32) (h : wp_MO_batchOf E post w h0 p0) : Met l yMO_batchOf (xW yMO_batchOf cMO_batchOf 4 (some (.int))) ({ frames := 0, cells := 0, slots := 0, locals := 0 } : Room) (va_Pc [.ref h0, .int p0] (xP D E A w)) (va_Qi post (xB D A) A) 0 0 A := by
  refine Met.ofW (cc := cMO_batchOf) (maxL := 4) (ret := (some (.int))) (by decide) rfl ?_
  intro p e s m args below meth c s₁ B hml hv
  obtain ⟨rfl, hw, hK, hE⟩ := hv
  have hx := B.exec
  have hb := B.bytes
  have hr := B.returns
  have hts : ∀ w ∈ xTB, w.before _ s = true := fun w hw => atoms_spec (ws := xW yMO_batchOf cMO_batchOf 4 (some (.int))) B.pre w (List.mem_cons_of_mem _ hw)
  have hown : s.vm.findClass RMO = some m.cls := findClass_of_methodNamed B.named
  have hlocks := B.notSynchronized
  have hw : xw_S D vwCl A s.heap w s.heap [] := xw_S0 hw
  have lo_4 : ∀ (n4 : Nat) (w : xw_T) (x0 : Nat) (x1 : Int32) (x2 : Int32) (x3 : Int32) (H : Heap) (locs : List Loc) (ls : Array Slot), lv_has ls 4 [(0, .ref x0), (1, .int x1), (2, .int x2), (3, .int x3)] → xw_S D vwCl A s.heap w H locs → wl_MO_batchOf_4 E post n4 w x0 x1 x2 x3 → W p l e (headSpec (xW yMO_batchOf cMO_batchOf 4 (some (.int))) ({ frames := 0, cells := 0, slots := 0, locals := 0 } : Room)).room s m ([.ref h0, .int p0] : List Value).toArray below meth c H locs 0 0 (MQ below (va_Qi post (xB D A) A) ([.ref h0, .int p0] : List Value).toArray s 0 0 A) (F0 m 4 ls []) := by
    intro n4
    induction n4 with
    | zero => intro w x0 x1 x2 x3 H locs ls hl hw h; exact h.elim
    | succ n4 ih4 =>
      intro w x0 x1 x2 x3 H locs ls hl hw h
      dsimp only [wl_MO_batchOf_4] at h
      refine lv_iload_n hx hb dMO_batchOf_4 rfl (lv_at hl 3 rfl) ?_
      refine lv_aload_n hx hb dMO_batchOf_5 rfl (lv_at hl 0 rfl) ?_
      obtain ⟨v1, hv, h⟩ := h
      refine xw_getI (C := RMO) (T := TMO) (N := 17) (ref := RMO) hx hb hts inMO hown hK hw rfl 14 (by decide) (hts _ mw_323) (fun _ h9 => h9) hv dMO_batchOf_6 ?_
      refine lv_icmp_ge (tgt := 47) hx hb dMO_batchOf_9 rfl (fun hc => ?_) (fun hc => ?_)
      · replace h := h.1 hc
        refine lv_iconst (v := 0) hx hb dMO_batchOf_47 (by decide) ?_
        refine W.widen (k := 0) (n := 0) (Nat.le_of_ble_eq_true rfl) (Nat.le_of_ble_eq_true rfl) ?_
        exact xw_iret hx hb hr hlocks hw h dMO_batchOf_48
      · replace h := h.2 hc
        refine lv_iload_n hx hb dMO_batchOf_12 rfl (lv_at hl 1 rfl) ?_
        refine lv_if_le (tgt := 47) hx hb dMO_batchOf_13 rfl (fun hc => ?_) (fun hc => ?_)
        · replace h := h.1 hc
          refine lv_iconst (v := 0) hx hb dMO_batchOf_47 (by decide) ?_
          refine W.widen (k := 0) (n := 0) (Nat.le_of_ble_eq_true rfl) (Nat.le_of_ble_eq_true rfl) ?_
          exact xw_iret hx hb hr hlocks hw h dMO_batchOf_48
        · replace h := h.2 hc
          refine lv_iload_n hx hb dMO_batchOf_16 rfl (lv_at hl 2 rfl) ?_
          refine lv_aload_n hx hb dMO_batchOf_17 rfl (lv_at hl 0 rfl) ?_
          obtain ⟨v2, hv, h⟩ := h
          refine xw_getR (C := RMO) (T := TMO) (N := 17) (ref := RMO) hx hb hts inMO hown hK hw rfl 11 (by decide) (hts _ mw_277) (fun _ h9 => h9) hv dMO_batchOf_18 ?_
          refine lv_aload_n hx hb dMO_batchOf_21 rfl (lv_at hl 0 rfl) ?_
          obtain ⟨v3, hv, h⟩ := h
          refine xw_getR (C := RMO) (T := TMO) (N := 17) (ref := RMO) hx hb hts inMO hown hK hw rfl 15 (by decide) (hts _ mw_272) (fun _ h9 => h9) hv dMO_batchOf_22 ?_
          refine lv_iload_n hx hb dMO_batchOf_25 rfl (lv_at hl 3 rfl) ?_
          obtain ⟨a4, rfl, h⟩ := h
          obtain ⟨n5, f6, ha, hin9, h⟩ := h
          refine xw_iald hx hb hK hw 1 rfl ha hin9 dMO_batchOf_26 ?_
          obtain ⟨a7, rfl, h⟩ := h
          obtain ⟨n8, f9, ha, hin9, h⟩ := h
          refine xw_iald hx hb hK hw 1 rfl ha hin9 dMO_batchOf_27 ?_
          refine lv_isub hx hb dMO_batchOf_28 ?_
          refine lv_istore_n (i := 2) (lv' := [(2, .int (x2 - (f9 (f6 x3.toNatClampNeg).toNatClampNeg))), (0, .ref x0), (1, .int x1), (3, .int x3)]) hx hb dMO_batchOf_29 rfl hl (by decide) (by first | rfl | simp [va_rf_cat, xcat_i, xcat_l, xcat_r, xcat_n]) (fun ls hl => ?_)
          refine lv_iload_n hx hb dMO_batchOf_30 rfl (lv_at hl 0 rfl) ?_
          refine lv_if_gt (tgt := 41) hx hb dMO_batchOf_31 rfl (fun hc => ?_) (fun hc => ?_)
          · replace h := h.1 hc
            refine lv_iinc (k := 3) (v := x3 + 1) (lv' := [(3, .int (x3 + 1)), (2, .int (x2 - (f9 (f6 x3.toNatClampNeg).toNatClampNeg))), (0, .ref x0), (1, .int x1)]) hx hb dMO_batchOf_41 hl rfl rfl (by decide) (by first | rfl | simp [va_rf_cat, xcat_i, xcat_l, xcat_r, xcat_n]) (fun ls hl => ?_)
            refine lv_goto (tgt := 4) hx hb dMO_batchOf_44 rfl ?_
            exact ih4 _ x0 x1 (x2 - (f9 (f6 x3.toNatClampNeg).toNatClampNeg)) (x3 + 1) _ _ _ (lv_sub hl [2, 3, 1, 0] rfl) hw h
          · replace h := h.2 hc
            refine lv_aload_n hx hb dMO_batchOf_34 rfl (lv_at hl 1 rfl) ?_
            obtain ⟨v10, hv, h⟩ := h
            refine xw_getR (C := RMO) (T := TMO) (N := 17) (ref := RMO) hx hb hts inMO hown hK hw rfl 15 (by decide) (hts _ mw_272) (fun _ h9 => h9) hv dMO_batchOf_35 ?_
            refine lv_iload_n hx hb dMO_batchOf_38 rfl (lv_at hl 3 rfl) ?_
            obtain ⟨a11, rfl, h⟩ := h
            obtain ⟨n12, f13, ha, hin9, h⟩ := h
            refine xw_iald hx hb hK hw 1 rfl ha hin9 dMO_batchOf_39 ?_
            refine W.widen (k := 0) (n := 0) (Nat.le_of_ble_eq_true rfl) (Nat.le_of_ble_eq_true rfl) ?_
            exact xw_iret hx hb hr hlocks hw h dMO_batchOf_40
  refine xl_start (lvs := [(0, .ref h0), (1, .int p0)]) (by first | exact Nat.le_of_ble_eq_true rfl | simp [lg_sl, va_rf_cat, xcat_i, xcat_l, xcat_r, xcat_n]) (by first | rfl | simp [lv_args, va_rf_cat, xcat_i, xcat_l, xcat_r, xcat_n]) (fun ls hl => ?_)
  unfold wp_MO_batchOf at h
  refine lv_iload_n hx hb dMO_batchOf_0 rfl (lv_at hl 1 rfl) ?_
  refine lv_istore_n (i := 2) (lv' := [(2, .int p0), (0, .ref h0), (1, .int p0)]) hx hb dMO_batchOf_1 rfl hl (by decide) (by first | rfl | simp [va_rf_cat, xcat_i, xcat_l, xcat_r, xcat_n]) (fun ls hl => ?_)
  refine lv_iconst (v := 0) hx hb dMO_batchOf_2 (by decide) ?_
  refine lv_istore_n (i := 3) (lv' := [(3, .int 0), (2, .int p0), (0, .ref h0), (1, .int p0)]) hx hb dMO_batchOf_3 rfl hl (by decide) (by first | rfl | simp [va_rf_cat, xcat_i, xcat_l, xcat_r, xcat_n]) (fun ls hl => ?_)
  obtain ⟨n4, h⟩ := h
  refine W.widen (k := 0) (n := 0) (Nat.le_of_ble_eq_true rfl) (Nat.le_of_ble_eq_true rfl) ?_
  exact lo_4 n4 _ h0 p0 p0 0 _ _ _ (lv_sub hl [2, 3, 1, 0] rfl) hw h
