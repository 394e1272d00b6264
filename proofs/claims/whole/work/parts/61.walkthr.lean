/-! meanings and walks: THR 0 -/
def wp_PL_post (E : xE_T) (post : Int32 → xw_T → Prop) (postT : xw_T → Prop) (w : xw_T) (h0 : Nat) (p0 : Int32) : Prop := (∃ fs, w h0 = some (.inr (4, fs))) ∧ wp_PL_findBatch E (fun r1 w2 => (¬ r1 = none → (∃ a3 : Nat, r1 = some a3 ∧ ((∃ fs, w2 a3 = some (.inr (2, fs))) ∧ wp_BA_isOpen E (fun r4 w5 => (r4 = 0 → (post (-2000000003) w5)) ∧ (¬ r4 = 0 → (∃ v6, xgI w5 a3 2 0 = some v6 ∧ ((∃ fs, w5 h0 = some (.inr (4, fs))) ∧ wp_PL_isClosed E (fun r7 w8 => (r7 = 0 → ((∃ fs, w8 a3 = some (.inr (2, fs))) ∧ wp_BA_outcomeOfPosting E (fun r9 w10 => (¬ r9 = (some (E.2 3)) → ((∃ v0, xg w10 a3 2 2 = some v0) ∧ ∀ w11, w11 = xp w10 a3 2 (.ref (E.2 2)) → ((¬ r9 = (some (E.2 5)) → (post 0 w11)) ∧ (r9 = (some (E.2 5)) → (postT w11))))) ∧ (r9 = (some (E.2 3)) → ((∃ fs, w10 h0 = some (.inr (4, fs))) ∧ wp_PL_enterIntoBooks E (fun w13 => post 1 w13) w10 h0 (some a3)))) w8 a3)) ∧ (¬ r7 = 0 → (post (-2000000003) w8))) w5 h0 v6.toInt64)))) w2 a3))) ∧ (r1 = none → (post (-2000000001) w2))) w h0 p0
set_option maxHeartbeats 4000000 in
set_option maxRecDepth 100000 in
theorem c_PL_post (l : Launch) (hlT : l.stackTraces = false) (D : va_G) (E : xE_T) (A : Nat → Prop) (post : Int32 → xw_T → Prop) (postT : xw_T → Prop) (w : xw_T) (h0 : Nat) (p0 : Int32) (h : wp_PL_post E post postT w h0 p0) : xMetT l yPL_post (xW yPL_post cPL_post 4 (some (.int))) ({ frames := 6, cells := 1, slots := 6, locals := 134 } : Room) (va_Pc [.ref h0, .int p0] (xP D E A w)) D A post postT 1 6 := by
  refine xMetT.ofW (cc := cPL_post) (maxL := 4) (ret := (some (.int))) (by decide) rfl ?_
  intro p e s m args below meth c s₁ B hml hv
  obtain ⟨rfl, hw, hK, hE⟩ := hv
  have hx := B.exec
  have hb := B.bytes
  have hr := B.returns
  have hts : ∀ w ∈ xTB, w.before _ s = true := fun w hw => atoms_spec (ws := xW yPL_post cPL_post 4 (some (.int))) B.pre w (List.mem_cons_of_mem _ hw)
  have hown : s.vm.findClass RPL = some m.cls := findClass_of_methodNamed B.named
  have hout : ∀ z : Nat, ∀ x ∈ c.exceptionTable.toList, covers x z = false := by
    have h9 := B.noHandlers (atoms_spec (ws := xW yPL_post cPL_post 4 (some (.int))) B.pre _ List.mem_cons_self)
    have h8 : c.exceptionTable.toList = [] := List.eq_nil_of_length_eq_zero (by simpa [Array.isEmpty] using h9)
    intro z x hx
    rw [h8] at hx
    cases hx
  have hlocks := B.notSynchronized
  have hw : xw_S D vwCl A s.heap w s.heap [] := xw_S0 hw
  refine xl_start (lvs := [(0, .ref h0), (1, .int p0)]) (by first | exact Nat.le_of_ble_eq_true rfl | simp [lg_sl, va_rf_cat, xcat_i, xcat_l, xcat_r, xcat_n]) (by first | rfl | simp [lv_args, va_rf_cat, xcat_i, xcat_l, xcat_r, xcat_n]) (fun ls hl => ?_)
  unfold wp_PL_post at h
  refine lv_aload_n hx hb dPL_post_0 rfl (lv_at hl 0 rfl) ?_
  refine lv_iload_n hx hb dPL_post_1 rfl (lv_at hl 1 rfl) ?_
  obtain ⟨⟨fs, hk⟩, h⟩ := h
  have hcall := h
  clear h
  refine xw_callq (va_runV (As := [.int p0]) (rest := []) ⟨hx, hb, hml, hown, hts⟩ (c_PL_findBatch l D E A _ w h0 p0 hcall) (cwV 1 hts (xG_V mw_171 mw_172 mw_173 mw_95 mw_174) rfl rfl rfl (by decide +kernel) ⟨(Nat.le_of_ble_eq_true rfl), (Nat.le_of_ble_eq_true rfl)⟩) (xw_preV (ci := 4) hw hK hE rfl hk) rfl rfl hl.1 rfl (lv_room (by first | exact Nat.le_of_ble_eq_true rfl | simp [va_rf_cat, xcat_i, xcat_l, xcat_r, xcat_n])) dPL_post_2 ⟨(Nat.le_of_ble_eq_true rfl), (Nat.le_of_ble_eq_true rfl)⟩) hw (fun r1 w2 H locs h hw => ?_)
  clear hcall
  refine xl_astore_n (i := 2) (lv' := [(2, va_rf r1), (0, .ref h0), (1, .int p0)]) hx hb dPL_post_5 rfl hl (by decide) (by first | rfl | simp [va_rf_cat, xcat_i, xcat_l, xcat_r, xcat_n]) (fun ls hl => ?_)
  refine xl_aload_n hx hb dPL_post_6 rfl (lv_at hl 0 rfl) ?_
  refine xl_ifnonnull (tgt := 13) hx hb dPL_post_7 rfl (fun hc => ?_) (fun hc => ?_)
  · replace h := h.1 hc
    refine xl_aload_n hx hb dPL_post_13 rfl (lv_at hl 0 rfl) ?_
    obtain ⟨a3, rfl, h⟩ := h
    obtain ⟨⟨fs, hk⟩, h⟩ := h
    have hcall := h
    clear h
    refine xw_calli (va_runV (As := []) (rest := []) ⟨hx, hb, hml, hown, hts⟩ (c_BA_isOpen l D E A _ w2 a3 hcall) (cwV 0 hts (xG_V mw_163 mw_164 mw_165 mw_110 mw_166) rfl rfl rfl (by decide +kernel) ⟨(Nat.le_of_ble_eq_true rfl), (Nat.le_of_ble_eq_true rfl)⟩) (xw_preV (ci := 2) hw hK hE rfl hk) rfl rfl hl.1 rfl (lv_room (by first | exact Nat.le_of_ble_eq_true rfl | simp [va_rf_cat, xcat_i, xcat_l, xcat_r, xcat_n])) dPL_post_14 ⟨(Nat.le_of_ble_eq_true rfl), (Nat.le_of_ble_eq_true rfl)⟩) hw (fun r4 w5 H locs h hw => ?_)
    clear hcall
    refine lv_if_eq (tgt := 32) hx hb dPL_post_17 rfl (fun hc => ?_) (fun hc => ?_)
    · replace h := h.1 hc
      refine lv_ldc (v := (-2000000003)) hx hb hown (hts _ mw_118) dPL_post_32 ?_
      refine xT_ret ?_
      refine W.widen (k := 1) (n := 6) (Nat.le_of_ble_eq_true rfl) (Nat.le_of_ble_eq_true rfl) ?_
      exact xw_iret hx hb hr hlocks hw h dPL_post_34
    · replace h := h.2 hc
      refine lv_aload_n hx hb dPL_post_20 rfl (lv_at hl 1 rfl) ?_
      refine lv_aload_n hx hb dPL_post_21 rfl (lv_at hl 0 rfl) ?_
      obtain ⟨v6, hv, h⟩ := h
      refine xw_getI (C := RBA) (T := TBA) (N := 6) (ref := RBA) hx hb hts inBA hown hK hw rfl 0 (by decide) (hts _ mw_186) (fun _ h9 => h9) hv dPL_post_22 ?_
      refine lv_i2l hx hb dPL_post_25 rfl ?_
      obtain ⟨⟨fs, hk⟩, h⟩ := h
      have hcall := h
      clear h
      refine xw_calli (va_runV (As := [.long v6.toInt64]) (rest := []) ⟨hx, hb, hml, hown, hts⟩ (c_PL_isClosed l D E A _ w5 h0 v6.toInt64 hcall) (cwV 1 hts (xG_V mw_119 mw_120 mw_121 mw_95 mw_122) rfl rfl rfl (by decide +kernel) ⟨(Nat.le_of_ble_eq_true rfl), (Nat.le_of_ble_eq_true rfl)⟩) (xw_preV (ci := 4) hw hK hE rfl hk) rfl rfl hl.1 rfl (lv_room (by first | exact Nat.le_of_ble_eq_true rfl | simp [va_rf_cat, xcat_i, xcat_l, xcat_r, xcat_n])) dPL_post_26 ⟨(Nat.le_of_ble_eq_true rfl), (Nat.le_of_ble_eq_true rfl)⟩) hw (fun r7 w8 H locs h hw => ?_)
      clear hcall
      refine lv_if_eq (tgt := 35) hx hb dPL_post_29 rfl (fun hc => ?_) (fun hc => ?_)
      · replace h := h.1 hc
        refine lv_aload_n hx hb dPL_post_35 rfl (lv_at hl 0 rfl) ?_
        obtain ⟨⟨fs, hk⟩, h⟩ := h
        have hcall := h
        clear h
        refine xw_callq (va_runV (As := []) (rest := []) ⟨hx, hb, hml, hown, hts⟩ (c_BA_outcomeOfPosting l D E A _ w8 a3 hcall) (cwV 0 hts (xG_V mw_266 mw_267 mw_268 mw_110 mw_269) rfl rfl rfl (by decide +kernel) ⟨(Nat.le_of_ble_eq_true rfl), (Nat.le_of_ble_eq_true rfl)⟩) (xw_preV (ci := 2) hw hK hE rfl hk) rfl rfl hl.1 rfl (lv_room (by first | exact Nat.le_of_ble_eq_true rfl | simp [va_rf_cat, xcat_i, xcat_l, xcat_r, xcat_n])) dPL_post_36 ⟨(Nat.le_of_ble_eq_true rfl), (Nat.le_of_ble_eq_true rfl)⟩) hw (fun r9 w10 H locs h hw => ?_)
        clear hcall
        refine xl_astore_n (i := 3) (lv' := [(3, va_rf r9), (2, .ref a3), (0, .ref h0), (1, .int p0)]) hx hb dPL_post_39 rfl hl (by decide) (by first | rfl | simp [va_rf_cat, xcat_i, xcat_l, xcat_r, xcat_n]) (fun ls hl => ?_)
        refine xl_aload_n hx hb dPL_post_40 rfl (lv_at hl 0 rfl) ?_
        refine va_gets hx hb hE.2.2.2.1.1 hw.2.1 hown (hts _ mw_265) (fun _ h9 => h9) dPL_post_41 ?_
        refine lv_acmp_ne (rx := r9) (ry := (some (E.2 3))) (tgt := 54) hx hb dPL_post_44 rfl (fun hc => ?_) (fun hc => ?_)
        · replace h := h.1 hc
          refine lv_aload_n hx hb dPL_post_54 rfl (lv_at hl 1 rfl) ?_
          refine va_gets hx hb hE.2.2.1.2.2 hw.2.1 hown (hts _ mw_264) (fun _ h9 => h9) dPL_post_55 ?_
          obtain ⟨hv, h⟩ := h
          refine xw_put (ty := (.object "PostLedger$Standing")) (C := RBA) (T := TBA) (N := 6) (ref := RBA) hx hb hts inBA tyBA tyBA_ok nmBA hown hK hw rfl 2 (by decide) (hts _ mw_188) (fun _ h9 => h9) rfl (by decide +kernel) rfl rfl hv dPL_post_58 (fun H locs hw => ?_)
          replace h := h _ rfl
          generalize xp w10 a3 2 (.ref (E.2 2)) = w11 at hw h
          refine xl_aload_n hx hb dPL_post_61 rfl (lv_at hl 0 rfl) ?_
          refine va_gets hx hb hE.2.2.2.1.2.2 hw.2.1 hown (hts _ mw_263) (fun _ h9 => h9) dPL_post_62 ?_
          refine lv_acmp_ne (rx := r9) (ry := (some (E.2 5))) (tgt := 78) hx hb dPL_post_65 rfl (fun hc => ?_) (fun hc => ?_)
          · replace h := h.1 hc
            refine lv_iconst (v := 0) hx hb dPL_post_78 (by decide) ?_
            refine xT_ret ?_
            refine W.widen (k := 1) (n := 6) (Nat.le_of_ble_eq_true rfl) (Nat.le_of_ble_eq_true rfl) ?_
            exact xw_iret hx hb hr hlocks hw h dPL_post_79
          · replace h := h.2 hc
            exact xT_throw hx hb hlT hown hts hE hw h (hl.1.trans hml.symm) (hts _ mw_261) (hts _ mw_262) dPL_post_68 dPL_post_71 dPL_post_72 dPL_post_74 dPL_post_77 (hout _) (Nat.le_of_ble_eq_true rfl) (Nat.le_of_ble_eq_true rfl) (Nat.le_of_ble_eq_true rfl) (Nat.le_of_ble_eq_true rfl) (Nat.le_of_ble_eq_true rfl) (Nat.le_of_ble_eq_true rfl) hlocks
        · replace h := h.2 hc
          refine lv_aload_n hx hb dPL_post_47 rfl (lv_at hl 2 rfl) ?_
          refine lv_aload_n hx hb dPL_post_48 rfl (lv_at hl 1 rfl) ?_
          obtain ⟨⟨fs, hk⟩, h⟩ := h
          have hcall := h
          clear h
          refine xw_callv (va_runV (As := [.ref a3]) (rest := []) ⟨hx, hb, hml, hown, hts⟩ (c_PL_enterIntoBooks l D E A _ w10 h0 (some a3) hcall) (cwV 1 hts (xG_V mw_202 mw_203 mw_204 mw_95 mw_205) rfl rfl rfl (by decide +kernel) ⟨(Nat.le_of_ble_eq_true rfl), (Nat.le_of_ble_eq_true rfl)⟩) (xw_preV (ci := 4) hw hK hE rfl hk) rfl rfl hl.1 rfl (lv_room (by first | exact Nat.le_of_ble_eq_true rfl | simp [va_rf_cat, xcat_i, xcat_l, xcat_r, xcat_n])) dPL_post_49 ⟨(Nat.le_of_ble_eq_true rfl), (Nat.le_of_ble_eq_true rfl)⟩) hw (fun w13 H locs h hw => ?_)
          clear hcall
          refine lv_iconst (v := 1) hx hb dPL_post_52 (by decide) ?_
          refine xT_ret ?_
          refine W.widen (k := 1) (n := 6) (Nat.le_of_ble_eq_true rfl) (Nat.le_of_ble_eq_true rfl) ?_
          exact xw_iret hx hb hr hlocks hw h dPL_post_53
      · replace h := h.2 hc
        refine lv_ldc (v := (-2000000003)) hx hb hown (hts _ mw_118) dPL_post_32 ?_
        refine xT_ret ?_
        refine W.widen (k := 1) (n := 6) (Nat.le_of_ble_eq_true rfl) (Nat.le_of_ble_eq_true rfl) ?_
        exact xw_iret hx hb hr hlocks hw h dPL_post_34
  · replace h := h.2 hc
    refine lv_ldc (v := (-2000000001)) hx hb hown (hts _ mw_232) dPL_post_10 ?_
    refine xT_ret ?_
    refine W.widen (k := 1) (n := 6) (Nat.le_of_ble_eq_true rfl) (Nat.le_of_ble_eq_true rfl) ?_
    exact xw_iret hx hb hr hlocks hw h dPL_post_12
