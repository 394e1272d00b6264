/-! meanings and walks: REF 2 -/
def wl_MO_reverse_97 (E : xE_T) (post : Int32 → xw_T → Prop) : Nat → xw_T → Nat → Int32 → Int32 → Int32 → Prop
  | 0 => fun _ _ _ _ _ => False
  | n97 + 1 => fun w x0 x2 x3 x4 => ∃ v1, xgR w x0 5 11 = some v1 ∧ (∃ a2 : Nat, v1 = some a2 ∧ (∃ n3 f4, xaI w a2 (E.1 1) = some (n3, f4) ∧ vp_in x2 n3 ∧ (((f4 x2.toNatClampNeg) ≤ x4 → ((∃ fs, w x0 = some (.inr (5, fs))) ∧ wp_MO_go E (fun r5 w6 => post r5 w6) w x0 x3)) ∧ (¬ (f4 x2.toNatClampNeg) ≤ x4 → (∃ v7, xgR w x0 5 12 = some v7 ∧ (∃ a8 : Nat, v7 = some a8 ∧ (∃ n9 f10, xaI w a8 (E.1 1) = some (n9, f10) ∧ vp_in ((12 * x2) + x4) n9 ∧ (∃ v11, xgR w x0 5 13 = some v11 ∧ (∃ a12 : Nat, v11 = some a12 ∧ (∃ n13 f14, xaL w a12 (E.1 2) = some (n13, f14) ∧ vp_in ((12 * x2) + x4) n13 ∧ ((∃ fs, w x0 = some (.inr (5, fs))) ∧ wp_MO_put E (fun w16 => wl_MO_reverse_97 E post n97 w16 x0 x2 x3 (x4 + 1)) w x0 x3 (f10 ((12 * x2) + x4).toNatClampNeg) (-(f14 ((12 * x2) + x4).toNatClampNeg)))))))))))))
def wp_MO_reverse (E : xE_T) (post : Int32 → xw_T → Prop) (w : xw_T) (h0 : Nat) (p0 : Int32) : Prop := (∃ v0, xg w h0 5 0 = some v0) ∧ ∀ w17, w17 = xp w h0 0 (.int 0) → ((∃ fs, w17 h0 = some (.inr (5, fs))) ∧ wp_MO_batchOf E (fun r18 w19 => (r18 = 0 → (post 0 w19)) ∧ (¬ r18 = 0 → (∃ v20, xgR w19 h0 5 10 = some v20 ∧ (∃ a21 : Nat, v20 = some a21 ∧ (∃ n22 f23, xaI w19 a21 (E.1 3) = some (n22, f23) ∧ vp_in r18 n22 ∧ (((f23 r18.toNatClampNeg) = 0 → (∃ v24, xgI w19 h0 5 5 = some v24 ∧ ((¬ v24 = 300 → (∃ v25, xgR w19 h0 5 10 = some v25 ∧ (∃ a26 : Nat, v25 = some a26 ∧ (∃ n27 f28, xaI w19 a26 (E.1 3) = some (n27, f28) ∧ vp_in r18 n27 ∧ ∀ w29, w29 = va_up w19 a26 (some (xcI (E.1 3) n27 (upd f28 r18.toNatClampNeg (vp_nar .boolean 1)))) → (∃ v30, xgR w29 h0 5 7 = some v30 ∧ (∃ a31 : Nat, v30 = some a31 ∧ (∃ n32 f33, xaL w29 a31 (E.1 2) = some (n32, f33) ∧ vp_in r18 n32 ∧ (∃ v34, xgL w29 h0 5 16 = some v34 ∧ (((f33 r18.toNatClampNeg) ≤ v34 → (∃ v35, xgL w29 h0 5 16 = some v35 ∧ ((∃ fs, w29 h0 = some (.inr (5, fs))) ∧ wp_MO_make E (fun r36 w37 => ∃ v38, xgR w37 h0 5 10 = some v38 ∧ (∃ a39 : Nat, v38 = some a39 ∧ (∃ n40 f41, xaI w37 a39 (E.1 3) = some (n40, f41) ∧ vp_in r36 n40 ∧ ∀ w42, w42 = va_up w37 a39 (some (xcI (E.1 3) n40 (upd f41 r36.toNatClampNeg (vp_nar .boolean 1)))) → (∃ v43, xgR w42 h0 5 9 = some v43 ∧ (∃ a44 : Nat, v43 = some a44 ∧ (∃ n45 f46, xaI w42 a44 (E.1 3) = some (n45, f46) ∧ vp_in r36 n45 ∧ ∀ w47, w47 = va_up w42 a44 (some (xcI (E.1 3) n45 (upd f46 r36.toNatClampNeg (vp_nar .boolean 1)))) → (∃ n97, wl_MO_reverse_97 E post n97 w47 h0 r18 r36 0))))))) w29 h0 (v35 + 1)))) ∧ (¬ (f33 r18.toNatClampNeg) ≤ v34 → (∃ v48, xgR w29 h0 5 7 = some v48 ∧ (∃ a49 : Nat, v48 = some a49 ∧ (∃ n50 f51, xaL w29 a49 (E.1 2) = some (n50, f51) ∧ vp_in r18 n50 ∧ ((∃ fs, w29 h0 = some (.inr (5, fs))) ∧ wp_MO_make E (fun r52 w53 => ∃ v54, xgR w53 h0 5 10 = some v54 ∧ (∃ a55 : Nat, v54 = some a55 ∧ (∃ n56 f57, xaI w53 a55 (E.1 3) = some (n56, f57) ∧ vp_in r52 n56 ∧ ∀ w58, w58 = va_up w53 a55 (some (xcI (E.1 3) n56 (upd f57 r52.toNatClampNeg (vp_nar .boolean 1)))) → (∃ v59, xgR w58 h0 5 9 = some v59 ∧ (∃ a60 : Nat, v59 = some a60 ∧ (∃ n61 f62, xaI w58 a60 (E.1 3) = some (n61, f62) ∧ vp_in r52 n61 ∧ ∀ w63, w63 = va_up w58 a60 (some (xcI (E.1 3) n61 (upd f62 r52.toNatClampNeg (vp_nar .boolean 1)))) → (∃ n97, wl_MO_reverse_97 E post n97 w63 h0 r18 r52 0))))))) w29 h0 (f51 r18.toNatClampNeg))))))))))))))) ∧ (v24 = 300 → (post (-2000000004) w19))))) ∧ (¬ (f23 r18.toNatClampNeg) = 0 → (post 0 w19)))))))) w17 h0 p0)
set_option maxHeartbeats 4000000 in
set_option maxRecDepth 100000 in
theorem c_MO_reverse (l : Launch) (D : va_G) (E : xE_T) (A : Nat → Prop) (post : Int32 → xw_T → Prop) (w : xw_T) (h0 : Nat) (p0 : Int32) (h : wp_MO_reverse E post w h0 p0) : Met l yMO_reverse (xW yMO_reverse cMO_reverse 5 (some (.int))) ({ frames := 4, cells := 0, slots := 0, locals := 102 } : Room) (va_Pc [.ref h0, .int p0] (xP D E A w)) (va_Qi post (xB D A) A) 0 0 A := by
  refine Met.ofW (cc := cMO_reverse) (maxL := 5) (ret := (some (.int))) (by decide) rfl ?_
  intro p e s m args below meth c s₁ B hml hv
  obtain ⟨rfl, hw, hK, hE⟩ := hv
  have hx := B.exec
  have hb := B.bytes
  have hr := B.returns
  have hts : ∀ w ∈ xTB, w.before _ s = true := fun w hw => atoms_spec (ws := xW yMO_reverse cMO_reverse 5 (some (.int))) B.pre w (List.mem_cons_of_mem _ hw)
  have hown : s.vm.findClass RMO = some m.cls := findClass_of_methodNamed B.named
  have hlocks := B.notSynchronized
  have hw : xw_S D vwCl A s.heap w s.heap [] := xw_S0 hw
  have lo_97 : ∀ (n97 : Nat) (w : xw_T) (x0 : Nat) (x2 : Int32) (x3 : Int32) (x4 : Int32) (H : Heap) (locs : List Loc) (ls : Array Slot), lv_has ls 5 [(0, .ref x0), (2, .int x2), (3, .int x3), (4, .int x4)] → xw_S D vwCl A s.heap w H locs → wl_MO_reverse_97 E post n97 w x0 x2 x3 x4 → W p l e (headSpec (xW yMO_reverse cMO_reverse 5 (some (.int))) ({ frames := 4, cells := 0, slots := 0, locals := 102 } : Room)).room s m ([.ref h0, .int p0] : List Value).toArray below meth c H locs 0 0 (MQ below (va_Qi post (xB D A) A) ([.ref h0, .int p0] : List Value).toArray s 0 0 A) (F0 m 97 ls []) := by
    intro n97
    induction n97 with
    | zero => intro w x0 x2 x3 x4 H locs ls hl hw h; exact h.elim
    | succ n97 ih97 =>
      intro w x0 x2 x3 x4 H locs ls hl hw h
      dsimp only [wl_MO_reverse_97] at h
      refine lv_iload hx hb dMO_reverse_97 (lv_at hl 3 rfl) ?_
      refine lv_aload_n hx hb dMO_reverse_99 rfl (lv_at hl 0 rfl) ?_
      obtain ⟨v1, hv, h⟩ := h
      refine xw_getR (C := RMO) (T := TMO) (N := 17) (ref := RMO) hx hb hts inMO hown hK hw rfl 11 (by decide) (hts _ mw_277) (fun _ h9 => h9) hv dMO_reverse_100 ?_
      refine lv_iload_n hx hb dMO_reverse_103 rfl (lv_at hl 1 rfl) ?_
      obtain ⟨a2, rfl, h⟩ := h
      obtain ⟨n3, f4, ha, hin9, h⟩ := h
      refine xw_iald hx hb hK hw 1 rfl ha hin9 dMO_reverse_104 ?_
      refine lv_icmp_ge (tgt := 144) hx hb dMO_reverse_105 rfl (fun hc => ?_) (fun hc => ?_)
      · replace h := h.1 hc
        refine lv_aload_n hx hb dMO_reverse_144 rfl (lv_at hl 0 rfl) ?_
        refine lv_iload_n hx hb dMO_reverse_145 rfl (lv_at hl 2 rfl) ?_
        obtain ⟨⟨fs, hk⟩, h⟩ := h
        have hcall := h
        clear h
        refine xw_calli (va_runV (As := [.int x3]) (rest := []) ⟨hx, hb, hml, hown, hts⟩ (c_MO_go l D E A _ w x0 x3 hcall) (cwV 1 hts (xG_V mw_333 mw_334 mw_335 mw_294 mw_336) rfl rfl rfl (by decide +kernel) ⟨(Nat.le_of_ble_eq_true rfl), (Nat.le_of_ble_eq_true rfl)⟩) (xw_preV (ci := 5) hw hK hE rfl hk) rfl rfl hl.1 rfl (lv_room (by first | exact Nat.le_of_ble_eq_true rfl | simp [va_rf_cat, xcat_i, xcat_l, xcat_r, xcat_n])) dMO_reverse_146 ⟨(Nat.le_of_ble_eq_true rfl), (Nat.le_of_ble_eq_true rfl)⟩) hw (fun r5 w6 H locs h hw => ?_)
        clear hcall
        refine W.widen (k := 0) (n := 0) (Nat.le_of_ble_eq_true rfl) (Nat.le_of_ble_eq_true rfl) ?_
        exact xw_iret hx hb hr hlocks hw h dMO_reverse_149
      · replace h := h.2 hc
        refine lv_aload_n hx hb dMO_reverse_108 rfl (lv_at hl 0 rfl) ?_
        refine lv_iload_n hx hb dMO_reverse_109 rfl (lv_at hl 2 rfl) ?_
        refine lv_aload_n hx hb dMO_reverse_110 rfl (lv_at hl 0 rfl) ?_
        obtain ⟨v7, hv, h⟩ := h
        refine xw_getR (C := RMO) (T := TMO) (N := 17) (ref := RMO) hx hb hts inMO hown hK hw rfl 12 (by decide) (hts _ mw_276) (fun _ h9 => h9) hv dMO_reverse_111 ?_
        refine lv_bipush (v := 12) hx hb dMO_reverse_114 (by decide) ?_
        refine lv_iload_n hx hb dMO_reverse_116 rfl (lv_at hl 1 rfl) ?_
        refine lv_imul hx hb dMO_reverse_117 ?_
        refine lv_iload hx hb dMO_reverse_118 (lv_at hl 3 rfl) ?_
        refine lv_iadd hx hb dMO_reverse_120 ?_
        obtain ⟨a8, rfl, h⟩ := h
        obtain ⟨n9, f10, ha, hin9, h⟩ := h
        refine xw_iald hx hb hK hw 1 rfl ha hin9 dMO_reverse_121 ?_
        refine lv_aload_n hx hb dMO_reverse_122 rfl (lv_at hl 0 rfl) ?_
        obtain ⟨v11, hv, h⟩ := h
        refine xw_getR (C := RMO) (T := TMO) (N := 17) (ref := RMO) hx hb hts inMO hown hK hw rfl 13 (by decide) (hts _ mw_274) (fun _ h9 => h9) hv dMO_reverse_123 ?_
        refine lv_bipush (v := 12) hx hb dMO_reverse_126 (by decide) ?_
        refine lv_iload_n hx hb dMO_reverse_128 rfl (lv_at hl 1 rfl) ?_
        refine lv_imul hx hb dMO_reverse_129 ?_
        refine lv_iload hx hb dMO_reverse_130 (lv_at hl 3 rfl) ?_
        refine lv_iadd hx hb dMO_reverse_132 ?_
        obtain ⟨a12, rfl, h⟩ := h
        obtain ⟨n13, f14, ha, hin9, h⟩ := h
        refine xw_lald hx hb hK hw 2 rfl ha hin9 dMO_reverse_133 ?_
        refine lv_lneg hx hb dMO_reverse_134 ?_
        obtain ⟨⟨fs, hk⟩, h⟩ := h
        have hcall := h
        clear h
        refine xw_callv (va_runV (As := [.int x3, .int (f10 ((12 * x2) + x4).toNatClampNeg), .long (-(f14 ((12 * x2) + x4).toNatClampNeg))]) (rest := []) ⟨hx, hb, hml, hown, hts⟩ (c_MO_put l D E A _ w x0 x3 (f10 ((12 * x2) + x4).toNatClampNeg) (-(f14 ((12 * x2) + x4).toNatClampNeg)) hcall) (cwV 3 hts (xG_V mw_305 mw_306 mw_307 mw_294 mw_308) rfl rfl rfl (by decide +kernel) ⟨(Nat.le_of_ble_eq_true rfl), (Nat.le_of_ble_eq_true rfl)⟩) (xw_preV (ci := 5) hw hK hE rfl hk) rfl rfl hl.1 rfl (lv_room (by first | exact Nat.le_of_ble_eq_true rfl | simp [va_rf_cat, xcat_i, xcat_l, xcat_r, xcat_n])) dMO_reverse_135 ⟨(Nat.le_of_ble_eq_true rfl), (Nat.le_of_ble_eq_true rfl)⟩) hw (fun w16 H locs h hw => ?_)
        clear hcall
        refine lv_iinc (k := 3) (v := x4 + 1) (lv' := [(4, .int (x4 + 1)), (0, .ref x0), (2, .int x2), (3, .int x3)]) hx hb dMO_reverse_138 hl rfl rfl (by decide) (by first | rfl | simp [va_rf_cat, xcat_i, xcat_l, xcat_r, xcat_n]) (fun ls hl => ?_)
        refine lv_goto (tgt := 97) hx hb dMO_reverse_141 rfl ?_
        exact ih97 _ x0 x2 x3 (x4 + 1) _ _ _ (lv_sub hl [1, 2, 3, 0] rfl) hw h
  refine xl_start (lvs := [(0, .ref h0), (1, .int p0)]) (by first | exact Nat.le_of_ble_eq_true rfl | simp [lg_sl, va_rf_cat, xcat_i, xcat_l, xcat_r, xcat_n]) (by first | rfl | simp [lv_args, va_rf_cat, xcat_i, xcat_l, xcat_r, xcat_n]) (fun ls hl => ?_)
  unfold wp_MO_reverse at h
  refine lv_aload_n hx hb dMO_reverse_0 rfl (lv_at hl 0 rfl) ?_
  refine lv_iconst (v := 0) hx hb dMO_reverse_1 (by decide) ?_
  obtain ⟨hv, h⟩ := h
  refine xw_put (ty := (.int)) (C := RMO) (T := TMO) (N := 17) (ref := RMO) hx hb hts inMO tyMO tyMO_ok nmMO hown hK hw rfl 0 (by decide) (hts _ mw_288) (fun _ h9 => h9) rfl (by decide +kernel) rfl rfl hv dMO_reverse_2 (fun H locs hw => ?_)
  replace h := h _ rfl
  generalize xp w h0 0 (.int 0) = w17 at hw h
  refine lv_aload_n hx hb dMO_reverse_5 rfl (lv_at hl 0 rfl) ?_
  refine lv_iload_n hx hb dMO_reverse_6 rfl (lv_at hl 1 rfl) ?_
  obtain ⟨⟨fs, hk⟩, h⟩ := h
  have hcall := h
  clear h
  refine xw_calli (va_runV (As := [.int p0]) (rest := []) ⟨hx, hb, hml, hown, hts⟩ (c_MO_batchOf l D E A _ w17 h0 p0 hcall) (cwV 1 hts (xG_V mw_339 mw_340 mw_341 mw_294 mw_342) rfl rfl rfl (by decide +kernel) ⟨(Nat.le_of_ble_eq_true rfl), (Nat.le_of_ble_eq_true rfl)⟩) (xw_preV (ci := 5) hw hK hE rfl hk) rfl rfl hl.1 rfl (lv_room (by first | exact Nat.le_of_ble_eq_true rfl | simp [va_rf_cat, xcat_i, xcat_l, xcat_r, xcat_n])) dMO_reverse_7 ⟨(Nat.le_of_ble_eq_true rfl), (Nat.le_of_ble_eq_true rfl)⟩) hw (fun r18 w19 H locs h hw => ?_)
  clear hcall
  refine lv_istore_n (i := 2) (lv' := [(2, .int r18), (0, .ref h0), (1, .int p0)]) hx hb dMO_reverse_10 rfl hl (by decide) (by first | rfl | simp [va_rf_cat, xcat_i, xcat_l, xcat_r, xcat_n]) (fun ls hl => ?_)
  refine lv_iload_n hx hb dMO_reverse_11 rfl (lv_at hl 0 rfl) ?_
  refine lv_if_eq (tgt := 24) hx hb dMO_reverse_12 rfl (fun hc => ?_) (fun hc => ?_)
  · replace h := h.1 hc
    refine lv_iconst (v := 0) hx hb dMO_reverse_24 (by decide) ?_
    refine W.widen (k := 0) (n := 0) (Nat.le_of_ble_eq_true rfl) (Nat.le_of_ble_eq_true rfl) ?_
    exact xw_iret hx hb hr hlocks hw h dMO_reverse_25
  · replace h := h.2 hc
    refine lv_aload_n hx hb dMO_reverse_15 rfl (lv_at hl 1 rfl) ?_
    obtain ⟨v20, hv, h⟩ := h
    refine xw_getR (C := RMO) (T := TMO) (N := 17) (ref := RMO) hx hb hts inMO hown hK hw rfl 10 (by decide) (hts _ mw_278) (fun _ h9 => h9) hv dMO_reverse_16 ?_
    refine lv_iload_n hx hb dMO_reverse_19 rfl (lv_at hl 0 rfl) ?_
    obtain ⟨a21, rfl, h⟩ := h
    obtain ⟨n22, f23, ha, hin9, h⟩ := h
    refine xw_zald hx hb hK hw 3 rfl ha hin9 dMO_reverse_20 ?_
    refine lv_if_eq (tgt := 26) hx hb dMO_reverse_21 rfl (fun hc => ?_) (fun hc => ?_)
    · replace h := h.1 hc
      refine lv_aload_n hx hb dMO_reverse_26 rfl (lv_at hl 1 rfl) ?_
      obtain ⟨v24, hv, h⟩ := h
      refine xw_getI (C := RMO) (T := TMO) (N := 17) (ref := RMO) hx hb hts inMO hown hK hw rfl 5 (by decide) (hts _ mw_298) (fun _ h9 => h9) hv dMO_reverse_27 ?_
      refine lv_sipush (v := 300) hx hb dMO_reverse_30 (by decide) ?_
      refine lv_icmp_ne (tgt := 39) hx hb dMO_reverse_33 rfl (fun hc => ?_) (fun hc => ?_)
      · replace h := h.1 hc
        refine lv_aload_n hx hb dMO_reverse_39 rfl (lv_at hl 1 rfl) ?_
        obtain ⟨v25, hv, h⟩ := h
        refine xw_getR (C := RMO) (T := TMO) (N := 17) (ref := RMO) hx hb hts inMO hown hK hw rfl 10 (by decide) (hts _ mw_278) (fun _ h9 => h9) hv dMO_reverse_40 ?_
        refine lv_iload_n hx hb dMO_reverse_43 rfl (lv_at hl 0 rfl) ?_
        refine lv_iconst (v := 1) hx hb dMO_reverse_44 (by decide) ?_
        obtain ⟨a26, rfl, h⟩ := h
        obtain ⟨n27, f28, ha, hin9, h⟩ := h
        refine xw_zast hx hb hK hw 3 rfl ha hin9 dMO_reverse_45 (fun H locs hw => ?_)
        replace h := h _ rfl
        generalize va_up w19 a26 (some (xcI (E.1 3) n27 (upd f28 r18.toNatClampNeg (vp_nar .boolean 1)))) = w29 at hw h
        refine lv_aload_n hx hb dMO_reverse_46 rfl (lv_at hl 1 rfl) ?_
        refine lv_aload_n hx hb dMO_reverse_47 rfl (lv_at hl 1 rfl) ?_
        obtain ⟨v30, hv, h⟩ := h
        refine xw_getR (C := RMO) (T := TMO) (N := 17) (ref := RMO) hx hb hts inMO hown hK hw rfl 7 (by decide) (hts _ mw_282) (fun _ h9 => h9) hv dMO_reverse_48 ?_
        refine lv_iload_n hx hb dMO_reverse_51 rfl (lv_at hl 0 rfl) ?_
        obtain ⟨a31, rfl, h⟩ := h
        obtain ⟨n32, f33, ha, hin9, h⟩ := h
        refine xw_lald hx hb hK hw 2 rfl ha hin9 dMO_reverse_52 ?_
        refine lv_aload_n hx hb dMO_reverse_53 rfl (lv_at hl 1 rfl) ?_
        obtain ⟨v34, hv, h⟩ := h
        refine xw_getL (C := RMO) (T := TMO) (N := 17) (ref := RMO) hx hb hts inMO hown hK hw rfl 16 (by decide) (hts _ mw_270) (fun _ h9 => h9) hv dMO_reverse_54 ?_
        refine xl_lc_le (tgt := 70) hx hb dMO_reverse_57 dMO_reverse_58 rfl (fun hc => ?_) (fun hc => ?_)
        · replace h := h.1 hc
          refine lv_aload_n hx hb dMO_reverse_70 rfl (lv_at hl 1 rfl) ?_
          obtain ⟨v35, hv, h⟩ := h
          refine xw_getL (C := RMO) (T := TMO) (N := 17) (ref := RMO) hx hb hts inMO hown hK hw rfl 16 (by decide) (hts _ mw_270) (fun _ h9 => h9) hv dMO_reverse_71 ?_
          refine lv_lconst (v := 1) hx hb dMO_reverse_74 (by decide) ?_
          refine lv_ladd hx hb dMO_reverse_75 ?_
          obtain ⟨⟨fs, hk⟩, h⟩ := h
          have hcall := h
          clear h
          refine xw_calli (va_runV (As := [.long (v35 + 1)]) (rest := []) ⟨hx, hb, hml, hown, hts⟩ (c_MO_make l D E A _ w29 h0 (v35 + 1) hcall) (cwV 1 hts (xG_V mw_299 mw_300 mw_301 mw_294 mw_302) rfl rfl rfl (by decide +kernel) ⟨(Nat.le_of_ble_eq_true rfl), (Nat.le_of_ble_eq_true rfl)⟩) (xw_preV (ci := 5) hw hK hE rfl hk) rfl rfl hl.1 rfl (lv_room (by first | exact Nat.le_of_ble_eq_true rfl | simp [va_rf_cat, xcat_i, xcat_l, xcat_r, xcat_n])) dMO_reverse_76 ⟨(Nat.le_of_ble_eq_true rfl), (Nat.le_of_ble_eq_true rfl)⟩) hw (fun r36 w37 H locs h hw => ?_)
          clear hcall
          refine lv_istore_n (i := 3) (lv' := [(3, .int r36), (2, .int r18), (0, .ref h0), (1, .int p0)]) hx hb dMO_reverse_79 rfl hl (by decide) (by first | rfl | simp [va_rf_cat, xcat_i, xcat_l, xcat_r, xcat_n]) (fun ls hl => ?_)
          refine lv_aload_n hx hb dMO_reverse_80 rfl (lv_at hl 2 rfl) ?_
          obtain ⟨v38, hv, h⟩ := h
          refine xw_getR (C := RMO) (T := TMO) (N := 17) (ref := RMO) hx hb hts inMO hown hK hw rfl 10 (by decide) (hts _ mw_278) (fun _ h9 => h9) hv dMO_reverse_81 ?_
          refine lv_iload_n hx hb dMO_reverse_84 rfl (lv_at hl 0 rfl) ?_
          refine lv_iconst (v := 1) hx hb dMO_reverse_85 (by decide) ?_
          obtain ⟨a39, rfl, h⟩ := h
          obtain ⟨n40, f41, ha, hin9, h⟩ := h
          refine xw_zast hx hb hK hw 3 rfl ha hin9 dMO_reverse_86 (fun H locs hw => ?_)
          replace h := h _ rfl
          generalize va_up w37 a39 (some (xcI (E.1 3) n40 (upd f41 r36.toNatClampNeg (vp_nar .boolean 1)))) = w42 at hw h
          refine lv_aload_n hx hb dMO_reverse_87 rfl (lv_at hl 2 rfl) ?_
          obtain ⟨v43, hv, h⟩ := h
          refine xw_getR (C := RMO) (T := TMO) (N := 17) (ref := RMO) hx hb hts inMO hown hK hw rfl 9 (by decide) (hts _ mw_280) (fun _ h9 => h9) hv dMO_reverse_88 ?_
          refine lv_iload_n hx hb dMO_reverse_91 rfl (lv_at hl 0 rfl) ?_
          refine lv_iconst (v := 1) hx hb dMO_reverse_92 (by decide) ?_
          obtain ⟨a44, rfl, h⟩ := h
          obtain ⟨n45, f46, ha, hin9, h⟩ := h
          refine xw_zast hx hb hK hw 3 rfl ha hin9 dMO_reverse_93 (fun H locs hw => ?_)
          replace h := h _ rfl
          generalize va_up w42 a44 (some (xcI (E.1 3) n45 (upd f46 r36.toNatClampNeg (vp_nar .boolean 1)))) = w47 at hw h
          refine lv_iconst (v := 0) hx hb dMO_reverse_94 (by decide) ?_
          refine lv_istore (i := 4) (lv' := [(4, .int 0), (3, .int r36), (2, .int r18), (0, .ref h0), (1, .int p0)]) hx hb dMO_reverse_95 hl (by decide) (by first | rfl | simp [va_rf_cat, xcat_i, xcat_l, xcat_r, xcat_n]) (fun ls hl => ?_)
          obtain ⟨n97, h⟩ := h
          refine W.widen (k := 0) (n := 0) (Nat.le_of_ble_eq_true rfl) (Nat.le_of_ble_eq_true rfl) ?_
          exact lo_97 n97 _ h0 r18 r36 0 _ _ _ (lv_sub hl [3, 2, 1, 0] rfl) hw h
        · replace h := h.2 hc
          refine lv_aload_n hx hb dMO_reverse_61 rfl (lv_at hl 1 rfl) ?_
          obtain ⟨v48, hv, h⟩ := h
          refine xw_getR (C := RMO) (T := TMO) (N := 17) (ref := RMO) hx hb hts inMO hown hK hw rfl 7 (by decide) (hts _ mw_282) (fun _ h9 => h9) hv dMO_reverse_62 ?_
          refine lv_iload_n hx hb dMO_reverse_65 rfl (lv_at hl 0 rfl) ?_
          obtain ⟨a49, rfl, h⟩ := h
          obtain ⟨n50, f51, ha, hin9, h⟩ := h
          refine xw_lald hx hb hK hw 2 rfl ha hin9 dMO_reverse_66 ?_
          refine lv_goto (tgt := 76) hx hb dMO_reverse_67 rfl ?_
          obtain ⟨⟨fs, hk⟩, h⟩ := h
          have hcall := h
          clear h
          refine xw_calli (va_runV (As := [.long (f51 r18.toNatClampNeg)]) (rest := []) ⟨hx, hb, hml, hown, hts⟩ (c_MO_make l D E A _ w29 h0 (f51 r18.toNatClampNeg) hcall) (cwV 1 hts (xG_V mw_299 mw_300 mw_301 mw_294 mw_302) rfl rfl rfl (by decide +kernel) ⟨(Nat.le_of_ble_eq_true rfl), (Nat.le_of_ble_eq_true rfl)⟩) (xw_preV (ci := 5) hw hK hE rfl hk) rfl rfl hl.1 rfl (lv_room (by first | exact Nat.le_of_ble_eq_true rfl | simp [va_rf_cat, xcat_i, xcat_l, xcat_r, xcat_n])) dMO_reverse_76 ⟨(Nat.le_of_ble_eq_true rfl), (Nat.le_of_ble_eq_true rfl)⟩) hw (fun r52 w53 H locs h hw => ?_)
          clear hcall
          refine lv_istore_n (i := 3) (lv' := [(3, .int r52), (2, .int r18), (0, .ref h0), (1, .int p0)]) hx hb dMO_reverse_79 rfl hl (by decide) (by first | rfl | simp [va_rf_cat, xcat_i, xcat_l, xcat_r, xcat_n]) (fun ls hl => ?_)
          refine lv_aload_n hx hb dMO_reverse_80 rfl (lv_at hl 2 rfl) ?_
          obtain ⟨v54, hv, h⟩ := h
          refine xw_getR (C := RMO) (T := TMO) (N := 17) (ref := RMO) hx hb hts inMO hown hK hw rfl 10 (by decide) (hts _ mw_278) (fun _ h9 => h9) hv dMO_reverse_81 ?_
          refine lv_iload_n hx hb dMO_reverse_84 rfl (lv_at hl 0 rfl) ?_
          refine lv_iconst (v := 1) hx hb dMO_reverse_85 (by decide) ?_
          obtain ⟨a55, rfl, h⟩ := h
          obtain ⟨n56, f57, ha, hin9, h⟩ := h
          refine xw_zast hx hb hK hw 3 rfl ha hin9 dMO_reverse_86 (fun H locs hw => ?_)
          replace h := h _ rfl
          generalize va_up w53 a55 (some (xcI (E.1 3) n56 (upd f57 r52.toNatClampNeg (vp_nar .boolean 1)))) = w58 at hw h
          refine lv_aload_n hx hb dMO_reverse_87 rfl (lv_at hl 2 rfl) ?_
          obtain ⟨v59, hv, h⟩ := h
          refine xw_getR (C := RMO) (T := TMO) (N := 17) (ref := RMO) hx hb hts inMO hown hK hw rfl 9 (by decide) (hts _ mw_280) (fun _ h9 => h9) hv dMO_reverse_88 ?_
          refine lv_iload_n hx hb dMO_reverse_91 rfl (lv_at hl 0 rfl) ?_
          refine lv_iconst (v := 1) hx hb dMO_reverse_92 (by decide) ?_
          obtain ⟨a60, rfl, h⟩ := h
          obtain ⟨n61, f62, ha, hin9, h⟩ := h
          refine xw_zast hx hb hK hw 3 rfl ha hin9 dMO_reverse_93 (fun H locs hw => ?_)
          replace h := h _ rfl
          generalize va_up w58 a60 (some (xcI (E.1 3) n61 (upd f62 r52.toNatClampNeg (vp_nar .boolean 1)))) = w63 at hw h
          refine lv_iconst (v := 0) hx hb dMO_reverse_94 (by decide) ?_
          refine lv_istore (i := 4) (lv' := [(4, .int 0), (3, .int r52), (2, .int r18), (0, .ref h0), (1, .int p0)]) hx hb dMO_reverse_95 hl (by decide) (by first | rfl | simp [va_rf_cat, xcat_i, xcat_l, xcat_r, xcat_n]) (fun ls hl => ?_)
          obtain ⟨n97, h⟩ := h
          refine W.widen (k := 0) (n := 0) (Nat.le_of_ble_eq_true rfl) (Nat.le_of_ble_eq_true rfl) ?_
          exact lo_97 n97 _ h0 r18 r52 0 _ _ _ (lv_sub hl [3, 2, 1, 0] rfl) hw h
      · replace h := h.2 hc
        refine lv_ldc (v := (-2000000004)) hx hb hown (hts _ mw_291) dMO_reverse_36 ?_
        refine W.widen (k := 0) (n := 0) (Nat.le_of_ble_eq_true rfl) (Nat.le_of_ble_eq_true rfl) ?_
        exact xw_iret hx hb hr hlocks hw h dMO_reverse_38
    · replace h := h.2 hc
      refine lv_iconst (v := 0) hx hb dMO_reverse_24 (by decide) ?_
      refine W.widen (k := 0) (n := 0) (Nat.le_of_ble_eq_true rfl) (Nat.le_of_ble_eq_true rfl) ?_
      exact xw_iret hx hb hr hlocks hw h dMO_reverse_25
def wl_MO_first_2 (E : xE_T) (post : Int32 → xw_T → Prop) : Nat → xw_T → Nat → Int32 → Int32 → Int32 → Prop
  | 0 => fun _ _ _ _ _ => False
  | n2 + 1 => fun w x0 x1 x2 x3 => ∃ v1, xgI w x0 5 1 = some v1 ∧ ((v1 < x3 → (∃ v2, xgI w x0 5 1 = some v2 ∧ ((v2 < x3 → (post 0 w)) ∧ (¬ v2 < x3 → (post x3 w))))) ∧ (¬ v1 < x3 → (∃ v3, xgR w x0 5 2 = some v3 ∧ (∃ a4 : Nat, v3 = some a4 ∧ (∃ n5 f6, xaI w a4 (E.1 1) = some (n5, f6) ∧ vp_in x3 n5 ∧ ((¬ (f6 x3.toNatClampNeg) = x1 → (wl_MO_first_2 E post n2 w x0 x1 x2 (x3 + 1))) ∧ ((f6 x3.toNatClampNeg) = x1 → (∃ v7, xgR w x0 5 3 = some v7 ∧ (∃ a8 : Nat, v7 = some a8 ∧ (∃ n9 f10, xaI w a8 (E.1 1) = some (n9, f10) ∧ vp_in x3 n9 ∧ (((f10 x3.toNatClampNeg) = x2 → (∃ v11, xgI w x0 5 1 = some v11 ∧ ((v11 < x3 → (post 0 w)) ∧ (¬ v11 < x3 → (post x3 w))))) ∧ (¬ (f10 x3.toNatClampNeg) = x2 → (wl_MO_first_2 E post n2 w x0 x1 x2 (x3 + 1))))))))))))))
def wp_MO_first (E : xE_T) (post : Int32 → xw_T → Prop) (w : xw_T) (h0 : Nat) (p0 : Int32) (p1 : Int32) : Prop := ∃ n2, wl_MO_first_2 E post n2 w h0 p0 p1 1
set_option maxHeartbeats 4000000 in
set_option maxRecDepth 100000 in
theorem c_MO_first (l : Launch) (D : va_G) (E : xE_T) (A : Nat → Prop) (post : Int32 → xw_T → Prop) (w : xw_T) (h0 : Nat) (p0 : Int32) (p1 : Int32) (h : wp_MO_first E post w h0 p0 p1) : Met l yMO_first (xW yMO_first cMO_first 4 (some (.int))) ({ frames := 0, cells := 0, slots := 0, locals := 0 } : Room) (va_Pc [.ref h0, .int p0, .int p1] (xP D E A w)) (va_Qi post (xB D A) A) 0 0 A := by
  refine Met.ofW (cc := cMO_first) (maxL := 4) (ret := (some (.int))) (by decide) rfl ?_
  intro p e s m args below meth c s₁ B hml hv
  obtain ⟨rfl, hw, hK, hE⟩ := hv
  have hx := B.exec
  have hb := B.bytes
  have hr := B.returns
  have hts : ∀ w ∈ xTB, w.before _ s = true := fun w hw => atoms_spec (ws := xW yMO_first cMO_first 4 (some (.int))) B.pre w (List.mem_cons_of_mem _ hw)
  have hown : s.vm.findClass RMO = some m.cls := findClass_of_methodNamed B.named
  have hlocks := B.notSynchronized
  have hw : xw_S D vwCl A s.heap w s.heap [] := xw_S0 hw
  have lo_2 : ∀ (n2 : Nat) (w : xw_T) (x0 : Nat) (x1 : Int32) (x2 : Int32) (x3 : Int32) (H : Heap) (locs : List Loc) (ls : Array Slot), lv_has ls 4 [(0, .ref x0), (1, .int x1), (2, .int x2), (3, .int x3)] → xw_S D vwCl A s.heap w H locs → wl_MO_first_2 E post n2 w x0 x1 x2 x3 → W p l e (headSpec (xW yMO_first cMO_first 4 (some (.int))) ({ frames := 0, cells := 0, slots := 0, locals := 0 } : Room)).room s m ([.ref h0, .int p0, .int p1] : List Value).toArray below meth c H locs 0 0 (MQ below (va_Qi post (xB D A) A) ([.ref h0, .int p0, .int p1] : List Value).toArray s 0 0 A) (F0 m 2 ls []) := by
    intro n2
    induction n2 with
    | zero => intro w x0 x1 x2 x3 H locs ls hl hw h; exact h.elim
    | succ n2 ih2 =>
      intro w x0 x1 x2 x3 H locs ls hl hw h
      dsimp only [wl_MO_first_2] at h
      refine lv_iload_n hx hb dMO_first_2 rfl (lv_at hl 3 rfl) ?_
      refine lv_aload_n hx hb dMO_first_3 rfl (lv_at hl 0 rfl) ?_
      obtain ⟨v1, hv, h⟩ := h
      refine xw_getI (C := RMO) (T := TMO) (N := 17) (ref := RMO) hx hb hts inMO hown hK hw rfl 1 (by decide) (hts _ mw_290) (fun _ h9 => h9) hv dMO_first_4 ?_
      refine lv_icmp_gt (tgt := 36) hx hb dMO_first_7 rfl (fun hc => ?_) (fun hc => ?_)
      · replace h := h.1 hc
        refine lv_iload_n hx hb dMO_first_36 rfl (lv_at hl 3 rfl) ?_
        refine lv_aload_n hx hb dMO_first_37 rfl (lv_at hl 0 rfl) ?_
        obtain ⟨v2, hv, h⟩ := h
        refine xw_getI (C := RMO) (T := TMO) (N := 17) (ref := RMO) hx hb hts inMO hown hK hw rfl 1 (by decide) (hts _ mw_290) (fun _ h9 => h9) hv dMO_first_38 ?_
        refine lv_icmp_gt (tgt := 48) hx hb dMO_first_41 rfl (fun hc => ?_) (fun hc => ?_)
        · replace h := h.1 hc
          refine lv_iconst (v := 0) hx hb dMO_first_48 (by decide) ?_
          refine W.widen (k := 0) (n := 0) (Nat.le_of_ble_eq_true rfl) (Nat.le_of_ble_eq_true rfl) ?_
          exact xw_iret hx hb hr hlocks hw h dMO_first_49
        · replace h := h.2 hc
          refine lv_iload_n hx hb dMO_first_44 rfl (lv_at hl 3 rfl) ?_
          refine lv_goto (tgt := 49) hx hb dMO_first_45 rfl ?_
          refine W.widen (k := 0) (n := 0) (Nat.le_of_ble_eq_true rfl) (Nat.le_of_ble_eq_true rfl) ?_
          exact xw_iret hx hb hr hlocks hw h dMO_first_49
      · replace h := h.2 hc
        refine lv_aload_n hx hb dMO_first_10 rfl (lv_at hl 0 rfl) ?_
        obtain ⟨v3, hv, h⟩ := h
        refine xw_getR (C := RMO) (T := TMO) (N := 17) (ref := RMO) hx hb hts inMO hown hK hw rfl 2 (by decide) (hts _ mw_286) (fun _ h9 => h9) hv dMO_first_11 ?_
        refine lv_iload_n hx hb dMO_first_14 rfl (lv_at hl 3 rfl) ?_
        obtain ⟨a4, rfl, h⟩ := h
        obtain ⟨n5, f6, ha, hin9, h⟩ := h
        refine xw_iald hx hb hK hw 1 rfl ha hin9 dMO_first_15 ?_
        refine lv_iload_n hx hb dMO_first_16 rfl (lv_at hl 1 rfl) ?_
        refine lv_icmp_ne (tgt := 30) hx hb dMO_first_17 rfl (fun hc => ?_) (fun hc => ?_)
        · replace h := h.1 hc
          refine lv_iinc (k := 3) (v := x3 + 1) (lv' := [(3, .int (x3 + 1)), (0, .ref x0), (1, .int x1), (2, .int x2)]) hx hb dMO_first_30 hl rfl rfl (by decide) (by first | rfl | simp [va_rf_cat, xcat_i, xcat_l, xcat_r, xcat_n]) (fun ls hl => ?_)
          refine lv_goto (tgt := 2) hx hb dMO_first_33 rfl ?_
          exact ih2 _ x0 x1 x2 (x3 + 1) _ _ _ (lv_sub hl [1, 2, 3, 0] rfl) hw h
        · replace h := h.2 hc
          refine lv_aload_n hx hb dMO_first_20 rfl (lv_at hl 0 rfl) ?_
          obtain ⟨v7, hv, h⟩ := h
          refine xw_getR (C := RMO) (T := TMO) (N := 17) (ref := RMO) hx hb hts inMO hown hK hw rfl 3 (by decide) (hts _ mw_285) (fun _ h9 => h9) hv dMO_first_21 ?_
          refine lv_iload_n hx hb dMO_first_24 rfl (lv_at hl 3 rfl) ?_
          obtain ⟨a8, rfl, h⟩ := h
          obtain ⟨n9, f10, ha, hin9, h⟩ := h
          refine xw_iald hx hb hK hw 1 rfl ha hin9 dMO_first_25 ?_
          refine lv_iload_n hx hb dMO_first_26 rfl (lv_at hl 2 rfl) ?_
          refine lv_icmp_eq (tgt := 36) hx hb dMO_first_27 rfl (fun hc => ?_) (fun hc => ?_)
          · replace h := h.1 hc
            refine lv_iload_n hx hb dMO_first_36 rfl (lv_at hl 3 rfl) ?_
            refine lv_aload_n hx hb dMO_first_37 rfl (lv_at hl 0 rfl) ?_
            obtain ⟨v11, hv, h⟩ := h
            refine xw_getI (C := RMO) (T := TMO) (N := 17) (ref := RMO) hx hb hts inMO hown hK hw rfl 1 (by decide) (hts _ mw_290) (fun _ h9 => h9) hv dMO_first_38 ?_
            refine lv_icmp_gt (tgt := 48) hx hb dMO_first_41 rfl (fun hc => ?_) (fun hc => ?_)
            · replace h := h.1 hc
              refine lv_iconst (v := 0) hx hb dMO_first_48 (by decide) ?_
              refine W.widen (k := 0) (n := 0) (Nat.le_of_ble_eq_true rfl) (Nat.le_of_ble_eq_true rfl) ?_
              exact xw_iret hx hb hr hlocks hw h dMO_first_49
            · replace h := h.2 hc
              refine lv_iload_n hx hb dMO_first_44 rfl (lv_at hl 3 rfl) ?_
              refine lv_goto (tgt := 49) hx hb dMO_first_45 rfl ?_
              refine W.widen (k := 0) (n := 0) (Nat.le_of_ble_eq_true rfl) (Nat.le_of_ble_eq_true rfl) ?_
              exact xw_iret hx hb hr hlocks hw h dMO_first_49
          · replace h := h.2 hc
            refine lv_iinc (k := 3) (v := x3 + 1) (lv' := [(3, .int (x3 + 1)), (0, .ref x0), (1, .int x1), (2, .int x2)]) hx hb dMO_first_30 hl rfl rfl (by decide) (by first | rfl | simp [va_rf_cat, xcat_i, xcat_l, xcat_r, xcat_n]) (fun ls hl => ?_)
            refine lv_goto (tgt := 2) hx hb dMO_first_33 rfl ?_
            exact ih2 _ x0 x1 x2 (x3 + 1) _ _ _ (lv_sub hl [1, 2, 3, 0] rfl) hw h
  refine xl_start (lvs := [(0, .ref h0), (1, .int p0), (2, .int p1)]) (by first | exact Nat.le_of_ble_eq_true rfl | simp [lg_sl, va_rf_cat, xcat_i, xcat_l, xcat_r, xcat_n]) (by first | rfl | simp [lv_args, va_rf_cat, xcat_i, xcat_l, xcat_r, xcat_n]) (fun ls hl => ?_)
  unfold wp_MO_first at h
  refine lv_iconst (v := 1) hx hb dMO_first_0 (by decide) ?_
  refine lv_istore_n (i := 3) (lv' := [(3, .int 1), (0, .ref h0), (1, .int p0), (2, .int p1)]) hx hb dMO_first_1 rfl hl (by decide) (by first | rfl | simp [va_rf_cat, xcat_i, xcat_l, xcat_r, xcat_n]) (fun ls hl => ?_)
  obtain ⟨n2, h⟩ := h
  refine W.widen (k := 0) (n := 0) (Nat.le_of_ble_eq_true rfl) (Nat.le_of_ble_eq_true rfl) ?_
  exact lo_2 n2 _ h0 p0 p1 1 _ _ _ (lv_sub hl [1, 2, 3, 0] rfl) hw h
def wl_MO_stock_51 (E : xE_T) (post : Int32 → xw_T → Prop) : Nat → xw_T → Nat → Int32 → Int32 → Int64 → Int64 → Int32 → Prop
  | 0 => fun _ _ _ _ _ _ _ => False
  | n51 + 1 => fun w x0 x1 x2 x3 x5 x7 => ∃ v1, xgI w x0 5 1 = some v1 ∧ ((v1 < x7 → ((¬ (x3 - x5) = 0 → ((∃ fs, w x0 = some (.inr (5, fs))) ∧ wp_MO_first E (fun r2 w3 => (r2 = 0 → (post (-2000000003) w3)) ∧ (¬ r2 = 0 → ((∃ fs, w3 x0 = some (.inr (5, fs))) ∧ wp_MO_first E (fun r4 w5 => (r4 = 0 → (post (-2000000003) w5)) ∧ (¬ r4 = 0 → (wp_MO_isIn E (fun r6 w7 => (¬ r6 = 0 → (∃ v8, xgI w7 x0 5 5 = some v8 ∧ ((¬ v8 = 300 → (∃ v9, xgL w7 x0 5 16 = some v9 ∧ ((∃ fs, w7 x0 = some (.inr (5, fs))) ∧ wp_MO_make E (fun r10 w11 => ∃ v12, xgR w11 x0 5 9 = some v12 ∧ (∃ a13 : Nat, v12 = some a13 ∧ (∃ n14 f15, xaI w11 a13 (E.1 3) = some (n14, f15) ∧ vp_in r10 n14 ∧ ∀ w16, w16 = va_up w11 a13 (some (xcI (E.1 3) n14 (upd f15 r10.toNatClampNeg (vp_nar .boolean 1)))) → ((∃ fs, w16 x0 = some (.inr (5, fs))) ∧ wp_MO_first E (fun r17 w18 => (∃ fs, w18 x0 = some (.inr (5, fs))) ∧ wp_MO_put E (fun w20 => (∃ fs, w20 x0 = some (.inr (5, fs))) ∧ wp_MO_first E (fun r21 w22 => (∃ fs, w22 x0 = some (.inr (5, fs))) ∧ wp_MO_put E (fun w24 => (∃ fs, w24 x0 = some (.inr (5, fs))) ∧ wp_MO_go E (fun r25 w26 => (r25 ≤ 0 → (post 0 w26)) ∧ (¬ r25 ≤ 0 → (post ((x3 - x5).toInt32) w26))) w24 x0 r10) w22 x0 r10 r21 (-(x3 - x5))) w20 x0 x1 5) w18 x0 r10 r17 (x3 - x5)) w16 x0 x1 x2)))) w7 x0 (v9 + 1)))) ∧ (v8 = 300 → (post (-2000000004) w7))))) ∧ (r6 = 0 → (post (-2000000003) w7))) w5 (x3 - x5) (-1000000000) 1000000000))) w3 x0 x1 5))) w x0 x1 x2)) ∧ ((x3 - x5) = 0 → (post 0 w)))) ∧ (¬ v1 < x7 → (∃ v27, xgR w x0 5 2 = some v27 ∧ (∃ a28 : Nat, v27 = some a28 ∧ (∃ n29 f30, xaI w a28 (E.1 1) = some (n29, f30) ∧ vp_in x7 n29 ∧ ((¬ (f30 x7.toNatClampNeg) = x1 → (wl_MO_stock_51 E post n51 w x0 x1 x2 x3 x5 (x7 + 1))) ∧ ((f30 x7.toNatClampNeg) = x1 → (∃ v31, xgR w x0 5 3 = some v31 ∧ (∃ a32 : Nat, v31 = some a32 ∧ (∃ n33 f34, xaI w a32 (E.1 1) = some (n33, f34) ∧ vp_in x7 n33 ∧ ((¬ (f34 x7.toNatClampNeg) = x2 → (wl_MO_stock_51 E post n51 w x0 x1 x2 x3 x5 (x7 + 1))) ∧ ((f34 x7.toNatClampNeg) = x2 → ((∃ fs, w x0 = some (.inr (5, fs))) ∧ wp_MO_balanceOf E (fun r35 w36 => wl_MO_stock_51 E post n51 w36 x0 x1 x2 x3 (x5 + r35) (x7 + 1)) w x0 x7 9223372036854775807)))))))))))))
def wp_MO_stock (E : xE_T) (post : Int32 → xw_T → Prop) (w : xw_T) (h0 : Nat) (p0 : Int32) (p1 : Int32) (p2 : Int64) : Prop := (∃ v0, xg w h0 5 0 = some v0) ∧ ∀ w37, w37 = xp w h0 0 (.int 0) → (wp_MO_isIn E (fun r38 w39 => (r38 = 0 → (post (-2000000002) w39)) ∧ (¬ r38 = 0 → (wp_MO_isIn E (fun r40 w41 => (r40 = 0 → (post (-2000000002) w41)) ∧ (¬ r40 = 0 → (wp_MO_isIn E (fun r42 w43 => (¬ r42 = 0 → (∃ n51, wl_MO_stock_51 E post n51 w43 h0 p0 p1 p2 0 1)) ∧ (r42 = 0 → (post (-2000000002) w43))) w41 p2 (-100000000) 100000000))) w39 p1.toInt64 0 4))) w37 p0.toInt64 0 9)
set_option maxHeartbeats 4000000 in
set_option maxRecDepth 100000 in
theorem c_MO_stock (l : Launch) (D : va_G) (E : xE_T) (A : Nat → Prop) (post : Int32 → xw_T → Prop) (w : xw_T) (h0 : Nat) (p0 : Int32) (p1 : Int32) (p2 : Int64) (h : wp_MO_stock E post w h0 p0 p1 p2) : Met l yMO_stock (xW yMO_stock cMO_stock 11 (some (.int))) ({ frames := 4, cells := 0, slots := 0, locals := 102 } : Room) (va_Pc [.ref h0, .int p0, .int p1, .long p2] (xP D E A w)) (va_Qi post (xB D A) A) 0 0 A := by
  refine Met.ofW (cc := cMO_stock) (maxL := 11) (ret := (some (.int))) (by decide) rfl ?_
  intro p e s m args below meth c s₁ B hml hv
  obtain ⟨rfl, hw, hK, hE⟩ := hv
  have hx := B.exec
  have hb := B.bytes
  have hr := B.returns
  have hts : ∀ w ∈ xTB, w.before _ s = true := fun w hw => atoms_spec (ws := xW yMO_stock cMO_stock 11 (some (.int))) B.pre w (List.mem_cons_of_mem _ hw)
  have hown : s.vm.findClass RMO = some m.cls := findClass_of_methodNamed B.named
  have hlocks := B.notSynchronized
  have hw : xw_S D vwCl A s.heap w s.heap [] := xw_S0 hw
  have lo_51 : ∀ (n51 : Nat) (w : xw_T) (x0 : Nat) (x1 : Int32) (x2 : Int32) (x3 : Int64) (x5 : Int64) (x7 : Int32) (H : Heap) (locs : List Loc) (ls : Array Slot), lv_has ls 11 [(0, .ref x0), (1, .int x1), (2, .int x2), (3, .long x3), (5, .long x5), (7, .int x7)] → xw_S D vwCl A s.heap w H locs → wl_MO_stock_51 E post n51 w x0 x1 x2 x3 x5 x7 → W p l e (headSpec (xW yMO_stock cMO_stock 11 (some (.int))) ({ frames := 4, cells := 0, slots := 0, locals := 102 } : Room)).room s m ([.ref h0, .int p0, .int p1, .long p2] : List Value).toArray below meth c H locs 0 0 (MQ below (va_Qi post (xB D A) A) ([.ref h0, .int p0, .int p1, .long p2] : List Value).toArray s 0 0 A) (F0 m 51 ls []) := by
    intro n51
    induction n51 with
    | zero => intro w x0 x1 x2 x3 x5 x7 H locs ls hl hw h; exact h.elim
    | succ n51 ih51 =>
      intro w x0 x1 x2 x3 x5 x7 H locs ls hl hw h
      dsimp only [wl_MO_stock_51] at h
      refine lv_iload hx hb dMO_stock_51 (lv_at hl 5 rfl) ?_
      refine lv_aload_n hx hb dMO_stock_53 rfl (lv_at hl 0 rfl) ?_
      obtain ⟨v1, hv, h⟩ := h
      refine xw_getI (C := RMO) (T := TMO) (N := 17) (ref := RMO) hx hb hts inMO hown hK hw rfl 1 (by decide) (hts _ mw_290) (fun _ h9 => h9) hv dMO_stock_54 ?_
      refine lv_icmp_gt (tgt := 107) hx hb dMO_stock_57 rfl (fun hc => ?_) (fun hc => ?_)
      · replace h := h.1 hc
        refine lv_lload_n hx hb dMO_stock_107 rfl (lv_at hl 3 rfl) ?_
        refine lv_lload hx hb dMO_stock_108 (lv_at hl 4 rfl) ?_
        refine lv_lsub hx hb dMO_stock_110 ?_
        refine lv_lstore (i := 7) (lv' := [(7, .long (x3 - x5)), (0, .ref x0), (1, .int x1), (2, .int x2), (3, .long x3), (5, .long x5)]) hx hb dMO_stock_111 hl (by decide) (by first | rfl | simp [va_rf_cat, xcat_i, xcat_l, xcat_r, xcat_n]) (fun ls hl => ?_)
        refine lv_lload hx hb dMO_stock_113 (lv_at hl 0 rfl) ?_
        refine lv_lconst (v := 0) hx hb dMO_stock_115 (by decide) ?_
        refine xl_lc_ne (tgt := 122) hx hb dMO_stock_116 dMO_stock_117 rfl (fun hc => ?_) (fun hc => ?_)
        · replace h := h.1 hc
          refine lv_aload_n hx hb dMO_stock_122 rfl (lv_at hl 1 rfl) ?_
          refine lv_iload_n hx hb dMO_stock_123 rfl (lv_at hl 2 rfl) ?_
          refine lv_iload_n hx hb dMO_stock_124 rfl (lv_at hl 3 rfl) ?_
          obtain ⟨⟨fs, hk⟩, h⟩ := h
          have hcall := h
          clear h
          refine xw_calli (va_runV (As := [.int x1, .int x2]) (rest := []) ⟨hx, hb, hml, hown, hts⟩ (c_MO_first l D E A _ w x0 x1 x2 hcall) (cwV 2 hts (xG_V mw_343 mw_344 mw_345 mw_294 mw_346) rfl rfl rfl (by decide +kernel) ⟨(Nat.le_of_ble_eq_true rfl), (Nat.le_of_ble_eq_true rfl)⟩) (xw_preV (ci := 5) hw hK hE rfl hk) rfl rfl hl.1 rfl (lv_room (by first | exact Nat.le_of_ble_eq_true rfl | simp [va_rf_cat, xcat_i, xcat_l, xcat_r, xcat_n])) dMO_stock_125 ⟨(Nat.le_of_ble_eq_true rfl), (Nat.le_of_ble_eq_true rfl)⟩) hw (fun r2 w3 H locs h hw => ?_)
          clear hcall
          refine lv_if_eq (tgt := 154) hx hb dMO_stock_128 rfl (fun hc => ?_) (fun hc => ?_)
          · replace h := h.1 hc
            refine lv_ldc (v := (-2000000003)) hx hb hown (hts _ mw_303) dMO_stock_154 ?_
            refine W.widen (k := 0) (n := 0) (Nat.le_of_ble_eq_true rfl) (Nat.le_of_ble_eq_true rfl) ?_
            exact xw_iret hx hb hr hlocks hw h dMO_stock_156
          · replace h := h.2 hc
            refine lv_aload_n hx hb dMO_stock_131 rfl (lv_at hl 1 rfl) ?_
            refine lv_iload_n hx hb dMO_stock_132 rfl (lv_at hl 2 rfl) ?_
            refine lv_iconst (v := 5) hx hb dMO_stock_133 (by decide) ?_
            obtain ⟨⟨fs, hk⟩, h⟩ := h
            have hcall := h
            clear h
            refine xw_calli (va_runV (As := [.int x1, .int 5]) (rest := []) ⟨hx, hb, hml, hown, hts⟩ (c_MO_first l D E A _ w3 x0 x1 5 hcall) (cwV 2 hts (xG_V mw_343 mw_344 mw_345 mw_294 mw_346) rfl rfl rfl (by decide +kernel) ⟨(Nat.le_of_ble_eq_true rfl), (Nat.le_of_ble_eq_true rfl)⟩) (xw_preV (ci := 5) hw hK hE rfl hk) rfl rfl hl.1 rfl (lv_room (by first | exact Nat.le_of_ble_eq_true rfl | simp [va_rf_cat, xcat_i, xcat_l, xcat_r, xcat_n])) dMO_stock_134 ⟨(Nat.le_of_ble_eq_true rfl), (Nat.le_of_ble_eq_true rfl)⟩) hw (fun r4 w5 H locs h hw => ?_)
            clear hcall
            refine lv_if_eq (tgt := 154) hx hb dMO_stock_137 rfl (fun hc => ?_) (fun hc => ?_)
            · replace h := h.1 hc
              refine lv_ldc (v := (-2000000003)) hx hb hown (hts _ mw_303) dMO_stock_154 ?_
              refine W.widen (k := 0) (n := 0) (Nat.le_of_ble_eq_true rfl) (Nat.le_of_ble_eq_true rfl) ?_
              exact xw_iret hx hb hr hlocks hw h dMO_stock_156
            · replace h := h.2 hc
              refine lv_lload hx hb dMO_stock_140 (lv_at hl 0 rfl) ?_
              refine lv_ldc2 (v := (-1000000000)) hx hb hown (hts _ mw_348) dMO_stock_142 ?_
              refine lv_ldc2 (v := 1000000000) hx hb hown (hts _ mw_347) dMO_stock_145 ?_
              have hcall := h
              clear h
              refine xw_calli (va_runS (As := [.long (x3 - x5), .long (-1000000000), .long 1000000000]) (rest := []) ⟨hx, hb, hml, hown, hts⟩ (c_MO_isIn l D E A _ w5 (x3 - x5) (-1000000000) 1000000000 hcall) (va_cwS 3 hts (xG_S mw_292 mw_293 mw_294 mw_295) rfl rfl rfl (by decide +kernel) ⟨(Nat.le_of_ble_eq_true rfl), (Nat.le_of_ble_eq_true rfl)⟩) (xw_preS hw hK hE) rfl rfl hl.1 rfl (lv_room (by first | exact Nat.le_of_ble_eq_true rfl | simp [va_rf_cat, xcat_i, xcat_l, xcat_r, xcat_n])) dMO_stock_148 ⟨(Nat.le_of_ble_eq_true rfl), (Nat.le_of_ble_eq_true rfl)⟩) hw (fun r6 w7 H locs h hw => ?_)
              clear hcall
              refine lv_if_ne (tgt := 157) hx hb dMO_stock_151 rfl (fun hc => ?_) (fun hc => ?_)
              · replace h := h.1 hc
                refine lv_aload_n hx hb dMO_stock_157 rfl (lv_at hl 1 rfl) ?_
                obtain ⟨v8, hv, h⟩ := h
                refine xw_getI (C := RMO) (T := TMO) (N := 17) (ref := RMO) hx hb hts inMO hown hK hw rfl 5 (by decide) (hts _ mw_298) (fun _ h9 => h9) hv dMO_stock_158 ?_
                refine lv_sipush (v := 300) hx hb dMO_stock_161 (by decide) ?_
                refine lv_icmp_ne (tgt := 170) hx hb dMO_stock_164 rfl (fun hc => ?_) (fun hc => ?_)
                · replace h := h.1 hc
                  refine lv_aload_n hx hb dMO_stock_170 rfl (lv_at hl 1 rfl) ?_
                  refine lv_aload_n hx hb dMO_stock_171 rfl (lv_at hl 1 rfl) ?_
                  obtain ⟨v9, hv, h⟩ := h
                  refine xw_getL (C := RMO) (T := TMO) (N := 17) (ref := RMO) hx hb hts inMO hown hK hw rfl 16 (by decide) (hts _ mw_270) (fun _ h9 => h9) hv dMO_stock_172 ?_
                  refine lv_lconst (v := 1) hx hb dMO_stock_175 (by decide) ?_
                  refine lv_ladd hx hb dMO_stock_176 ?_
                  obtain ⟨⟨fs, hk⟩, h⟩ := h
                  have hcall := h
                  clear h
                  refine xw_calli (va_runV (As := [.long (v9 + 1)]) (rest := []) ⟨hx, hb, hml, hown, hts⟩ (c_MO_make l D E A _ w7 x0 (v9 + 1) hcall) (cwV 1 hts (xG_V mw_299 mw_300 mw_301 mw_294 mw_302) rfl rfl rfl (by decide +kernel) ⟨(Nat.le_of_ble_eq_true rfl), (Nat.le_of_ble_eq_true rfl)⟩) (xw_preV (ci := 5) hw hK hE rfl hk) rfl rfl hl.1 rfl (lv_room (by first | exact Nat.le_of_ble_eq_true rfl | simp [va_rf_cat, xcat_i, xcat_l, xcat_r, xcat_n])) dMO_stock_177 ⟨(Nat.le_of_ble_eq_true rfl), (Nat.le_of_ble_eq_true rfl)⟩) hw (fun r10 w11 H locs h hw => ?_)
                  clear hcall
                  refine lv_istore (i := 9) (lv' := [(9, .int r10), (7, .long (x3 - x5)), (0, .ref x0), (1, .int x1), (2, .int x2), (3, .long x3), (5, .long x5)]) hx hb dMO_stock_180 hl (by decide) (by first | rfl | simp [va_rf_cat, xcat_i, xcat_l, xcat_r, xcat_n]) (fun ls hl => ?_)
                  refine lv_aload_n hx hb dMO_stock_182 rfl (lv_at hl 2 rfl) ?_
                  obtain ⟨v12, hv, h⟩ := h
                  refine xw_getR (C := RMO) (T := TMO) (N := 17) (ref := RMO) hx hb hts inMO hown hK hw rfl 9 (by decide) (hts _ mw_280) (fun _ h9 => h9) hv dMO_stock_183 ?_
                  refine lv_iload hx hb dMO_stock_186 (lv_at hl 0 rfl) ?_
                  refine lv_iconst (v := 1) hx hb dMO_stock_188 (by decide) ?_
                  obtain ⟨a13, rfl, h⟩ := h
                  obtain ⟨n14, f15, ha, hin9, h⟩ := h
                  refine xw_zast hx hb hK hw 3 rfl ha hin9 dMO_stock_189 (fun H locs hw => ?_)
                  replace h := h _ rfl
                  generalize va_up w11 a13 (some (xcI (E.1 3) n14 (upd f15 r10.toNatClampNeg (vp_nar .boolean 1)))) = w16 at hw h
                  refine lv_aload_n hx hb dMO_stock_190 rfl (lv_at hl 2 rfl) ?_
                  refine lv_iload hx hb dMO_stock_191 (lv_at hl 0 rfl) ?_
                  refine lv_aload_n hx hb dMO_stock_193 rfl (lv_at hl 2 rfl) ?_
                  refine lv_iload_n hx hb dMO_stock_194 rfl (lv_at hl 3 rfl) ?_
                  refine lv_iload_n hx hb dMO_stock_195 rfl (lv_at hl 4 rfl) ?_
                  obtain ⟨⟨fs, hk⟩, h⟩ := h
                  have hcall := h
                  clear h
                  refine xw_calli (va_runV (As := [.int x1, .int x2]) (rest := [.int r10, .ref x0]) ⟨hx, hb, hml, hown, hts⟩ (c_MO_first l D E A _ w16 x0 x1 x2 hcall) (cwV 2 hts (xG_V mw_343 mw_344 mw_345 mw_294 mw_346) rfl rfl rfl (by decide +kernel) ⟨(Nat.le_of_ble_eq_true rfl), (Nat.le_of_ble_eq_true rfl)⟩) (xw_preV (ci := 5) hw hK hE rfl hk) rfl rfl hl.1 rfl (lv_room (by first | exact Nat.le_of_ble_eq_true rfl | simp [va_rf_cat, xcat_i, xcat_l, xcat_r, xcat_n])) dMO_stock_196 ⟨(Nat.le_of_ble_eq_true rfl), (Nat.le_of_ble_eq_true rfl)⟩) hw (fun r17 w18 H locs h hw => ?_)
                  clear hcall
                  refine lv_lload hx hb dMO_stock_199 (lv_at hl 1 rfl) ?_
                  obtain ⟨⟨fs, hk⟩, h⟩ := h
                  have hcall := h
                  clear h
                  refine xw_callv (va_runV (As := [.int r10, .int r17, .long (x3 - x5)]) (rest := []) ⟨hx, hb, hml, hown, hts⟩ (c_MO_put l D E A _ w18 x0 r10 r17 (x3 - x5) hcall) (cwV 3 hts (xG_V mw_305 mw_306 mw_307 mw_294 mw_308) rfl rfl rfl (by decide +kernel) ⟨(Nat.le_of_ble_eq_true rfl), (Nat.le_of_ble_eq_true rfl)⟩) (xw_preV (ci := 5) hw hK hE rfl hk) rfl rfl hl.1 rfl (lv_room (by first | exact Nat.le_of_ble_eq_true rfl | simp [va_rf_cat, xcat_i, xcat_l, xcat_r, xcat_n])) dMO_stock_201 ⟨(Nat.le_of_ble_eq_true rfl), (Nat.le_of_ble_eq_true rfl)⟩) hw (fun w20 H locs h hw => ?_)
                  clear hcall
                  refine lv_aload_n hx hb dMO_stock_204 rfl (lv_at hl 2 rfl) ?_
                  refine lv_iload hx hb dMO_stock_205 (lv_at hl 0 rfl) ?_
                  refine lv_aload_n hx hb dMO_stock_207 rfl (lv_at hl 2 rfl) ?_
                  refine lv_iload_n hx hb dMO_stock_208 rfl (lv_at hl 3 rfl) ?_
                  refine lv_iconst (v := 5) hx hb dMO_stock_209 (by decide) ?_
                  obtain ⟨⟨fs, hk⟩, h⟩ := h
                  have hcall := h
                  clear h
                  refine xw_calli (va_runV (As := [.int x1, .int 5]) (rest := [.int r10, .ref x0]) ⟨hx, hb, hml, hown, hts⟩ (c_MO_first l D E A _ w20 x0 x1 5 hcall) (cwV 2 hts (xG_V mw_343 mw_344 mw_345 mw_294 mw_346) rfl rfl rfl (by decide +kernel) ⟨(Nat.le_of_ble_eq_true rfl), (Nat.le_of_ble_eq_true rfl)⟩) (xw_preV (ci := 5) hw hK hE rfl hk) rfl rfl hl.1 rfl (lv_room (by first | exact Nat.le_of_ble_eq_true rfl | simp [va_rf_cat, xcat_i, xcat_l, xcat_r, xcat_n])) dMO_stock_210 ⟨(Nat.le_of_ble_eq_true rfl), (Nat.le_of_ble_eq_true rfl)⟩) hw (fun r21 w22 H locs h hw => ?_)
                  clear hcall
                  refine lv_lload hx hb dMO_stock_213 (lv_at hl 1 rfl) ?_
                  refine lv_lneg hx hb dMO_stock_215 ?_
                  obtain ⟨⟨fs, hk⟩, h⟩ := h
                  have hcall := h
                  clear h
                  refine xw_callv (va_runV (As := [.int r10, .int r21, .long (-(x3 - x5))]) (rest := []) ⟨hx, hb, hml, hown, hts⟩ (c_MO_put l D E A _ w22 x0 r10 r21 (-(x3 - x5)) hcall) (cwV 3 hts (xG_V mw_305 mw_306 mw_307 mw_294 mw_308) rfl rfl rfl (by decide +kernel) ⟨(Nat.le_of_ble_eq_true rfl), (Nat.le_of_ble_eq_true rfl)⟩) (xw_preV (ci := 5) hw hK hE rfl hk) rfl rfl hl.1 rfl (lv_room (by first | exact Nat.le_of_ble_eq_true rfl | simp [va_rf_cat, xcat_i, xcat_l, xcat_r, xcat_n])) dMO_stock_216 ⟨(Nat.le_of_ble_eq_true rfl), (Nat.le_of_ble_eq_true rfl)⟩) hw (fun w24 H locs h hw => ?_)
                  clear hcall
                  refine lv_aload_n hx hb dMO_stock_219 rfl (lv_at hl 2 rfl) ?_
                  refine lv_iload hx hb dMO_stock_220 (lv_at hl 0 rfl) ?_
                  obtain ⟨⟨fs, hk⟩, h⟩ := h
                  have hcall := h
                  clear h
                  refine xw_calli (va_runV (As := [.int r10]) (rest := []) ⟨hx, hb, hml, hown, hts⟩ (c_MO_go l D E A _ w24 x0 r10 hcall) (cwV 1 hts (xG_V mw_333 mw_334 mw_335 mw_294 mw_336) rfl rfl rfl (by decide +kernel) ⟨(Nat.le_of_ble_eq_true rfl), (Nat.le_of_ble_eq_true rfl)⟩) (xw_preV (ci := 5) hw hK hE rfl hk) rfl rfl hl.1 rfl (lv_room (by first | exact Nat.le_of_ble_eq_true rfl | simp [va_rf_cat, xcat_i, xcat_l, xcat_r, xcat_n])) dMO_stock_222 ⟨(Nat.le_of_ble_eq_true rfl), (Nat.le_of_ble_eq_true rfl)⟩) hw (fun r25 w26 H locs h hw => ?_)
                  clear hcall
                  refine lv_istore (i := 10) (lv' := [(10, .int r25), (9, .int r10), (7, .long (x3 - x5)), (0, .ref x0), (1, .int x1), (2, .int x2), (3, .long x3), (5, .long x5)]) hx hb dMO_stock_225 hl (by decide) (by first | rfl | simp [va_rf_cat, xcat_i, xcat_l, xcat_r, xcat_n]) (fun ls hl => ?_)
                  refine lv_iload hx hb dMO_stock_227 (lv_at hl 0 rfl) ?_
                  refine lv_if_le (tgt := 238) hx hb dMO_stock_229 rfl (fun hc => ?_) (fun hc => ?_)
                  · replace h := h.1 hc
                    refine lv_iconst (v := 0) hx hb dMO_stock_238 (by decide) ?_
                    refine W.widen (k := 0) (n := 0) (Nat.le_of_ble_eq_true rfl) (Nat.le_of_ble_eq_true rfl) ?_
                    exact xw_iret hx hb hr hlocks hw h dMO_stock_239
                  · replace h := h.2 hc
                    refine lv_lload hx hb dMO_stock_232 (lv_at hl 2 rfl) ?_
                    refine lv_l2i hx hb dMO_stock_234 rfl ?_
                    refine lv_goto (tgt := 239) hx hb dMO_stock_235 rfl ?_
                    refine W.widen (k := 0) (n := 0) (Nat.le_of_ble_eq_true rfl) (Nat.le_of_ble_eq_true rfl) ?_
                    exact xw_iret hx hb hr hlocks hw h dMO_stock_239
                · replace h := h.2 hc
                  refine lv_ldc (v := (-2000000004)) hx hb hown (hts _ mw_291) dMO_stock_167 ?_
                  refine W.widen (k := 0) (n := 0) (Nat.le_of_ble_eq_true rfl) (Nat.le_of_ble_eq_true rfl) ?_
                  exact xw_iret hx hb hr hlocks hw h dMO_stock_169
              · replace h := h.2 hc
                refine lv_ldc (v := (-2000000003)) hx hb hown (hts _ mw_303) dMO_stock_154 ?_
                refine W.widen (k := 0) (n := 0) (Nat.le_of_ble_eq_true rfl) (Nat.le_of_ble_eq_true rfl) ?_
                exact xw_iret hx hb hr hlocks hw h dMO_stock_156
        · replace h := h.2 hc
          refine lv_iconst (v := 0) hx hb dMO_stock_120 (by decide) ?_
          refine W.widen (k := 0) (n := 0) (Nat.le_of_ble_eq_true rfl) (Nat.le_of_ble_eq_true rfl) ?_
          exact xw_iret hx hb hr hlocks hw h dMO_stock_121
      · replace h := h.2 hc
        refine lv_aload_n hx hb dMO_stock_60 rfl (lv_at hl 0 rfl) ?_
        obtain ⟨v27, hv, h⟩ := h
        refine xw_getR (C := RMO) (T := TMO) (N := 17) (ref := RMO) hx hb hts inMO hown hK hw rfl 2 (by decide) (hts _ mw_286) (fun _ h9 => h9) hv dMO_stock_61 ?_
        refine lv_iload hx hb dMO_stock_64 (lv_at hl 5 rfl) ?_
        obtain ⟨a28, rfl, h⟩ := h
        obtain ⟨n29, f30, ha, hin9, h⟩ := h
        refine xw_iald hx hb hK hw 1 rfl ha hin9 dMO_stock_66 ?_
        refine lv_iload_n hx hb dMO_stock_67 rfl (lv_at hl 1 rfl) ?_
        refine lv_icmp_ne (tgt := 97) hx hb dMO_stock_68 rfl (fun hc => ?_) (fun hc => ?_)
        · replace h := h.1 hc
          refine lv_lload hx hb dMO_stock_97 (lv_at hl 4 rfl) ?_
          refine lv_lstore (i := 5) (lv' := [(5, .long x5), (0, .ref x0), (1, .int x1), (2, .int x2), (3, .long x3), (7, .int x7)]) hx hb dMO_stock_99 hl (by decide) (by first | rfl | simp [va_rf_cat, xcat_i, xcat_l, xcat_r, xcat_n]) (fun ls hl => ?_)
          refine lv_iinc (k := 5) (v := x7 + 1) (lv' := [(7, .int (x7 + 1)), (5, .long x5), (0, .ref x0), (1, .int x1), (2, .int x2), (3, .long x3)]) hx hb dMO_stock_101 hl rfl rfl (by decide) (by first | rfl | simp [va_rf_cat, xcat_i, xcat_l, xcat_r, xcat_n]) (fun ls hl => ?_)
          refine lv_goto (tgt := 51) hx hb dMO_stock_104 rfl ?_
          exact ih51 _ x0 x1 x2 x3 x5 (x7 + 1) _ _ _ (lv_sub hl [2, 3, 4, 5, 1, 0] rfl) hw h
        · replace h := h.2 hc
          refine lv_aload_n hx hb dMO_stock_71 rfl (lv_at hl 0 rfl) ?_
          obtain ⟨v31, hv, h⟩ := h
          refine xw_getR (C := RMO) (T := TMO) (N := 17) (ref := RMO) hx hb hts inMO hown hK hw rfl 3 (by decide) (hts _ mw_285) (fun _ h9 => h9) hv dMO_stock_72 ?_
          refine lv_iload hx hb dMO_stock_75 (lv_at hl 5 rfl) ?_
          obtain ⟨a32, rfl, h⟩ := h
          obtain ⟨n33, f34, ha, hin9, h⟩ := h
          refine xw_iald hx hb hK hw 1 rfl ha hin9 dMO_stock_77 ?_
          refine lv_iload_n hx hb dMO_stock_78 rfl (lv_at hl 2 rfl) ?_
          refine lv_icmp_ne (tgt := 97) hx hb dMO_stock_79 rfl (fun hc => ?_) (fun hc => ?_)
          · replace h := h.1 hc
            refine lv_lload hx hb dMO_stock_97 (lv_at hl 4 rfl) ?_
            refine lv_lstore (i := 5) (lv' := [(5, .long x5), (0, .ref x0), (1, .int x1), (2, .int x2), (3, .long x3), (7, .int x7)]) hx hb dMO_stock_99 hl (by decide) (by first | rfl | simp [va_rf_cat, xcat_i, xcat_l, xcat_r, xcat_n]) (fun ls hl => ?_)
            refine lv_iinc (k := 5) (v := x7 + 1) (lv' := [(7, .int (x7 + 1)), (5, .long x5), (0, .ref x0), (1, .int x1), (2, .int x2), (3, .long x3)]) hx hb dMO_stock_101 hl rfl rfl (by decide) (by first | rfl | simp [va_rf_cat, xcat_i, xcat_l, xcat_r, xcat_n]) (fun ls hl => ?_)
            refine lv_goto (tgt := 51) hx hb dMO_stock_104 rfl ?_
            exact ih51 _ x0 x1 x2 x3 x5 (x7 + 1) _ _ _ (lv_sub hl [2, 3, 4, 5, 1, 0] rfl) hw h
          · replace h := h.2 hc
            refine lv_lload hx hb dMO_stock_82 (lv_at hl 4 rfl) ?_
            refine lv_aload_n hx hb dMO_stock_84 rfl (lv_at hl 0 rfl) ?_
            refine lv_iload hx hb dMO_stock_85 (lv_at hl 5 rfl) ?_
            refine lv_ldc2 (v := 9223372036854775807) hx hb hown (hts _ mw_328) dMO_stock_87 ?_
            obtain ⟨⟨fs, hk⟩, h⟩ := h
            have hcall := h
            clear h
            refine xw_calll (va_runV (As := [.int x7, .long 9223372036854775807]) (rest := [.long x5]) ⟨hx, hb, hml, hown, hts⟩ (c_MO_balanceOf l D E A _ w x0 x7 9223372036854775807 hcall) (cwV 2 hts (xG_V mw_324 mw_325 mw_326 mw_294 mw_327) rfl rfl rfl (by decide +kernel) ⟨(Nat.le_of_ble_eq_true rfl), (Nat.le_of_ble_eq_true rfl)⟩) (xw_preV (ci := 5) hw hK hE rfl hk) rfl rfl hl.1 rfl (lv_room (by first | exact Nat.le_of_ble_eq_true rfl | simp [va_rf_cat, xcat_i, xcat_l, xcat_r, xcat_n])) dMO_stock_90 ⟨(Nat.le_of_ble_eq_true rfl), (Nat.le_of_ble_eq_true rfl)⟩) hw (fun r35 w36 H locs h hw => ?_)
            clear hcall
            refine lv_ladd hx hb dMO_stock_93 ?_
            refine lv_goto (tgt := 99) hx hb dMO_stock_94 rfl ?_
            refine lv_lstore (i := 5) (lv' := [(5, .long (x5 + r35)), (0, .ref x0), (1, .int x1), (2, .int x2), (3, .long x3), (7, .int x7)]) hx hb dMO_stock_99 hl (by decide) (by first | rfl | simp [va_rf_cat, xcat_i, xcat_l, xcat_r, xcat_n]) (fun ls hl => ?_)
            refine lv_iinc (k := 5) (v := x7 + 1) (lv' := [(7, .int (x7 + 1)), (5, .long (x5 + r35)), (0, .ref x0), (1, .int x1), (2, .int x2), (3, .long x3)]) hx hb dMO_stock_101 hl rfl rfl (by decide) (by first | rfl | simp [va_rf_cat, xcat_i, xcat_l, xcat_r, xcat_n]) (fun ls hl => ?_)
            refine lv_goto (tgt := 51) hx hb dMO_stock_104 rfl ?_
            exact ih51 _ x0 x1 x2 x3 (x5 + r35) (x7 + 1) _ _ _ (lv_sub hl [2, 3, 4, 5, 1, 0] rfl) hw h
  refine xl_start (lvs := [(0, .ref h0), (1, .int p0), (2, .int p1), (3, .long p2)]) (by first | exact Nat.le_of_ble_eq_true rfl | simp [lg_sl, va_rf_cat, xcat_i, xcat_l, xcat_r, xcat_n]) (by first | rfl | simp [lv_args, va_rf_cat, xcat_i, xcat_l, xcat_r, xcat_n]) (fun ls hl => ?_)
  unfold wp_MO_stock at h
  refine lv_aload_n hx hb dMO_stock_0 rfl (lv_at hl 0 rfl) ?_
  refine lv_iconst (v := 0) hx hb dMO_stock_1 (by decide) ?_
  obtain ⟨hv, h⟩ := h
  refine xw_put (ty := (.int)) (C := RMO) (T := TMO) (N := 17) (ref := RMO) hx hb hts inMO tyMO tyMO_ok nmMO hown hK hw rfl 0 (by decide) (hts _ mw_288) (fun _ h9 => h9) rfl (by decide +kernel) rfl rfl hv dMO_stock_2 (fun H locs hw => ?_)
  replace h := h _ rfl
  generalize xp w h0 0 (.int 0) = w37 at hw h
  refine lv_iload_n hx hb dMO_stock_5 rfl (lv_at hl 1 rfl) ?_
  refine lv_i2l hx hb dMO_stock_6 rfl ?_
  refine lv_lconst (v := 0) hx hb dMO_stock_7 (by decide) ?_
  refine lv_ldc2 (v := 9) hx hb hown (hts _ mw_297) dMO_stock_8 ?_
  have hcall := h
  clear h
  refine xw_calli (va_runS (As := [.long p0.toInt64, .long 0, .long 9]) (rest := []) ⟨hx, hb, hml, hown, hts⟩ (c_MO_isIn l D E A _ w37 p0.toInt64 0 9 hcall) (va_cwS 3 hts (xG_S mw_292 mw_293 mw_294 mw_295) rfl rfl rfl (by decide +kernel) ⟨(Nat.le_of_ble_eq_true rfl), (Nat.le_of_ble_eq_true rfl)⟩) (xw_preS hw hK hE) rfl rfl hl.1 rfl (lv_room (by first | exact Nat.le_of_ble_eq_true rfl | simp [va_rf_cat, xcat_i, xcat_l, xcat_r, xcat_n])) dMO_stock_11 ⟨(Nat.le_of_ble_eq_true rfl), (Nat.le_of_ble_eq_true rfl)⟩) hw (fun r38 w39 H locs h hw => ?_)
  clear hcall
  refine lv_if_eq (tgt := 42) hx hb dMO_stock_14 rfl (fun hc => ?_) (fun hc => ?_)
  · replace h := h.1 hc
    refine lv_ldc (v := (-2000000002)) hx hb hown (hts _ mw_289) dMO_stock_42 ?_
    refine W.widen (k := 0) (n := 0) (Nat.le_of_ble_eq_true rfl) (Nat.le_of_ble_eq_true rfl) ?_
    exact xw_iret hx hb hr hlocks hw h dMO_stock_44
  · replace h := h.2 hc
    refine lv_iload_n hx hb dMO_stock_17 rfl (lv_at hl 2 rfl) ?_
    refine lv_i2l hx hb dMO_stock_18 rfl ?_
    refine lv_lconst (v := 0) hx hb dMO_stock_19 (by decide) ?_
    refine lv_ldc2 (v := 4) hx hb hown (hts _ mw_349) dMO_stock_20 ?_
    have hcall := h
    clear h
    refine xw_calli (va_runS (As := [.long p1.toInt64, .long 0, .long 4]) (rest := []) ⟨hx, hb, hml, hown, hts⟩ (c_MO_isIn l D E A _ w39 p1.toInt64 0 4 hcall) (va_cwS 3 hts (xG_S mw_292 mw_293 mw_294 mw_295) rfl rfl rfl (by decide +kernel) ⟨(Nat.le_of_ble_eq_true rfl), (Nat.le_of_ble_eq_true rfl)⟩) (xw_preS hw hK hE) rfl rfl hl.1 rfl (lv_room (by first | exact Nat.le_of_ble_eq_true rfl | simp [va_rf_cat, xcat_i, xcat_l, xcat_r, xcat_n])) dMO_stock_23 ⟨(Nat.le_of_ble_eq_true rfl), (Nat.le_of_ble_eq_true rfl)⟩) hw (fun r40 w41 H locs h hw => ?_)
    clear hcall
    refine lv_if_eq (tgt := 42) hx hb dMO_stock_26 rfl (fun hc => ?_) (fun hc => ?_)
    · replace h := h.1 hc
      refine lv_ldc (v := (-2000000002)) hx hb hown (hts _ mw_289) dMO_stock_42 ?_
      refine W.widen (k := 0) (n := 0) (Nat.le_of_ble_eq_true rfl) (Nat.le_of_ble_eq_true rfl) ?_
      exact xw_iret hx hb hr hlocks hw h dMO_stock_44
    · replace h := h.2 hc
      refine lv_lload_n hx hb dMO_stock_29 rfl (lv_at hl 3 rfl) ?_
      refine lv_ldc2 (v := (-100000000)) hx hb hown (hts _ mw_310) dMO_stock_30 ?_
      refine lv_ldc2 (v := 100000000) hx hb hown (hts _ mw_309) dMO_stock_33 ?_
      have hcall := h
      clear h
      refine xw_calli (va_runS (As := [.long p2, .long (-100000000), .long 100000000]) (rest := []) ⟨hx, hb, hml, hown, hts⟩ (c_MO_isIn l D E A _ w41 p2 (-100000000) 100000000 hcall) (va_cwS 3 hts (xG_S mw_292 mw_293 mw_294 mw_295) rfl rfl rfl (by decide +kernel) ⟨(Nat.le_of_ble_eq_true rfl), (Nat.le_of_ble_eq_true rfl)⟩) (xw_preS hw hK hE) rfl rfl hl.1 rfl (lv_room (by first | exact Nat.le_of_ble_eq_true rfl | simp [va_rf_cat, xcat_i, xcat_l, xcat_r, xcat_n])) dMO_stock_36 ⟨(Nat.le_of_ble_eq_true rfl), (Nat.le_of_ble_eq_true rfl)⟩) hw (fun r42 w43 H locs h hw => ?_)
      clear hcall
      refine lv_if_ne (tgt := 45) hx hb dMO_stock_39 rfl (fun hc => ?_) (fun hc => ?_)
      · replace h := h.1 hc
        refine lv_lconst (v := 0) hx hb dMO_stock_45 (by decide) ?_
        refine lv_lstore (i := 5) (lv' := [(5, .long 0), (0, .ref h0), (1, .int p0), (2, .int p1), (3, .long p2)]) hx hb dMO_stock_46 hl (by decide) (by first | rfl | simp [va_rf_cat, xcat_i, xcat_l, xcat_r, xcat_n]) (fun ls hl => ?_)
        refine lv_iconst (v := 1) hx hb dMO_stock_48 (by decide) ?_
        refine lv_istore (i := 7) (lv' := [(7, .int 1), (5, .long 0), (0, .ref h0), (1, .int p0), (2, .int p1), (3, .long p2)]) hx hb dMO_stock_49 hl (by decide) (by first | rfl | simp [va_rf_cat, xcat_i, xcat_l, xcat_r, xcat_n]) (fun ls hl => ?_)
        obtain ⟨n51, h⟩ := h
        refine W.widen (k := 0) (n := 0) (Nat.le_of_ble_eq_true rfl) (Nat.le_of_ble_eq_true rfl) ?_
        exact lo_51 n51 _ h0 p0 p1 p2 0 1 _ _ _ (lv_sub hl [2, 3, 4, 5, 1, 0] rfl) hw h
      · replace h := h.2 hc
        refine lv_ldc (v := (-2000000002)) hx hb hown (hts _ mw_289) dMO_stock_42 ?_
        refine W.widen (k := 0) (n := 0) (Nat.le_of_ble_eq_true rfl) (Nat.le_of_ble_eq_true rfl) ?_
        exact xw_iret hx hb hr hlocks hw h dMO_stock_44
def wp_MO_limit (E : xE_T) (post : Int32 → xw_T → Prop) (w : xw_T) (h0 : Nat) (p0 : Int32) (p1 : Int64) : Prop := (∃ v0, xg w h0 5 0 = some v0) ∧ ∀ w1, w1 = xp w h0 0 (.int 0) → ((∃ fs, w1 h0 = some (.inr (5, fs))) ∧ wp_MO_isAccount E (fun r2 w3 => (¬ r2 = 0 → (wp_MO_isIn E (fun r4 w5 => (¬ r4 = 0 → (∃ v6, xgR w5 h0 5 4 = some v6 ∧ (∃ a7 : Nat, v6 = some a7 ∧ (∃ n8 f9, xaL w5 a7 (E.1 2) = some (n8, f9) ∧ vp_in p0 n8 ∧ (∃ v10, xgR w5 h0 5 4 = some v10 ∧ (∃ a11 : Nat, v10 = some a11 ∧ (∃ n12 f13, xaL w5 a11 (E.1 2) = some (n12, f13) ∧ vp_in p0 n12 ∧ ∀ w14, w14 = va_up w5 a11 (some (xcL (E.1 2) n12 (vp_updL f13 p0.toNatClampNeg p1))) → (post ((f9 p0.toNatClampNeg).toInt32) w14)))))))) ∧ (r4 = 0 → (post (-2000000002) w5))) w3 p1 0 100000000)) ∧ (r2 = 0 → (post (-2000000001) w3))) w1 h0 p0)
set_option maxHeartbeats 4000000 in
set_option maxRecDepth 100000 in
theorem c_MO_limit (l : Launch) (D : va_G) (E : xE_T) (A : Nat → Prop) (post : Int32 → xw_T → Prop) (w : xw_T) (h0 : Nat) (p0 : Int32) (p1 : Int64) (h : wp_MO_limit E post w h0 p0 p1) : Met l yMO_limit (xW yMO_limit cMO_limit 5 (some (.int))) ({ frames := 2, cells := 0, slots := 0, locals := 46 } : Room) (va_Pc [.ref h0, .int p0, .long p1] (xP D E A w)) (va_Qi post (xB D A) A) 0 0 A := by
  refine Met.ofW (cc := cMO_limit) (maxL := 5) (ret := (some (.int))) (by decide) rfl ?_
  intro p e s m args below meth c s₁ B hml hv
  obtain ⟨rfl, hw, hK, hE⟩ := hv
  have hx := B.exec
  have hb := B.bytes
  have hr := B.returns
  have hts : ∀ w ∈ xTB, w.before _ s = true := fun w hw => atoms_spec (ws := xW yMO_limit cMO_limit 5 (some (.int))) B.pre w (List.mem_cons_of_mem _ hw)
  have hown : s.vm.findClass RMO = some m.cls := findClass_of_methodNamed B.named
  have hlocks := B.notSynchronized
  have hw : xw_S D vwCl A s.heap w s.heap [] := xw_S0 hw
  refine xl_start (lvs := [(0, .ref h0), (1, .int p0), (2, .long p1)]) (by first | exact Nat.le_of_ble_eq_true rfl | simp [lg_sl, va_rf_cat, xcat_i, xcat_l, xcat_r, xcat_n]) (by first | rfl | simp [lv_args, va_rf_cat, xcat_i, xcat_l, xcat_r, xcat_n]) (fun ls hl => ?_)
  unfold wp_MO_limit at h
  refine lv_aload_n hx hb dMO_limit_0 rfl (lv_at hl 0 rfl) ?_
  refine lv_iconst (v := 0) hx hb dMO_limit_1 (by decide) ?_
  obtain ⟨hv, h⟩ := h
  refine xw_put (ty := (.int)) (C := RMO) (T := TMO) (N := 17) (ref := RMO) hx hb hts inMO tyMO tyMO_ok nmMO hown hK hw rfl 0 (by decide) (hts _ mw_288) (fun _ h9 => h9) rfl (by decide +kernel) rfl rfl hv dMO_limit_2 (fun H locs hw => ?_)
  replace h := h _ rfl
  generalize xp w h0 0 (.int 0) = w1 at hw h
  refine lv_aload_n hx hb dMO_limit_5 rfl (lv_at hl 0 rfl) ?_
  refine lv_iload_n hx hb dMO_limit_6 rfl (lv_at hl 1 rfl) ?_
  obtain ⟨⟨fs, hk⟩, h⟩ := h
  have hcall := h
  clear h
  refine xw_calli (va_runV (As := [.int p0]) (rest := []) ⟨hx, hb, hml, hown, hts⟩ (c_MO_isAccount l D E A _ w1 h0 p0 hcall) (cwV 1 hts (xG_V mw_311 mw_312 mw_313 mw_294 mw_314) rfl rfl rfl (by decide +kernel) ⟨(Nat.le_of_ble_eq_true rfl), (Nat.le_of_ble_eq_true rfl)⟩) (xw_preV (ci := 5) hw hK hE rfl hk) rfl rfl hl.1 rfl (lv_room (by first | exact Nat.le_of_ble_eq_true rfl | simp [va_rf_cat, xcat_i, xcat_l, xcat_r, xcat_n])) dMO_limit_7 ⟨(Nat.le_of_ble_eq_true rfl), (Nat.le_of_ble_eq_true rfl)⟩) hw (fun r2 w3 H locs h hw => ?_)
  clear hcall
  refine lv_if_ne (tgt := 16) hx hb dMO_limit_10 rfl (fun hc => ?_) (fun hc => ?_)
  · replace h := h.1 hc
    refine lv_lload_n hx hb dMO_limit_16 rfl (lv_at hl 2 rfl) ?_
    refine lv_lconst (v := 0) hx hb dMO_limit_17 (by decide) ?_
    refine lv_ldc2 (v := 100000000) hx hb hown (hts _ mw_309) dMO_limit_18 ?_
    have hcall := h
    clear h
    refine xw_calli (va_runS (As := [.long p1, .long 0, .long 100000000]) (rest := []) ⟨hx, hb, hml, hown, hts⟩ (c_MO_isIn l D E A _ w3 p1 0 100000000 hcall) (va_cwS 3 hts (xG_S mw_292 mw_293 mw_294 mw_295) rfl rfl rfl (by decide +kernel) ⟨(Nat.le_of_ble_eq_true rfl), (Nat.le_of_ble_eq_true rfl)⟩) (xw_preS hw hK hE) rfl rfl hl.1 rfl (lv_room (by first | exact Nat.le_of_ble_eq_true rfl | simp [va_rf_cat, xcat_i, xcat_l, xcat_r, xcat_n])) dMO_limit_21 ⟨(Nat.le_of_ble_eq_true rfl), (Nat.le_of_ble_eq_true rfl)⟩) hw (fun r4 w5 H locs h hw => ?_)
    clear hcall
    refine lv_if_ne (tgt := 30) hx hb dMO_limit_24 rfl (fun hc => ?_) (fun hc => ?_)
    · replace h := h.1 hc
      refine lv_aload_n hx hb dMO_limit_30 rfl (lv_at hl 0 rfl) ?_
      obtain ⟨v6, hv, h⟩ := h
      refine xw_getR (C := RMO) (T := TMO) (N := 17) (ref := RMO) hx hb hts inMO hown hK hw rfl 4 (by decide) (hts _ mw_284) (fun _ h9 => h9) hv dMO_limit_31 ?_
      refine lv_iload_n hx hb dMO_limit_34 rfl (lv_at hl 1 rfl) ?_
      obtain ⟨a7, rfl, h⟩ := h
      obtain ⟨n8, f9, ha, hin9, h⟩ := h
      refine xw_lald hx hb hK hw 2 rfl ha hin9 dMO_limit_35 ?_
      refine lv_l2i hx hb dMO_limit_36 rfl ?_
      refine lv_istore (i := 4) (lv' := [(4, .int ((f9 p0.toNatClampNeg).toInt32)), (0, .ref h0), (1, .int p0), (2, .long p1)]) hx hb dMO_limit_37 hl (by decide) (by first | rfl | simp [va_rf_cat, xcat_i, xcat_l, xcat_r, xcat_n]) (fun ls hl => ?_)
      refine lv_aload_n hx hb dMO_limit_39 rfl (lv_at hl 1 rfl) ?_
      obtain ⟨v10, hv, h⟩ := h
      refine xw_getR (C := RMO) (T := TMO) (N := 17) (ref := RMO) hx hb hts inMO hown hK hw rfl 4 (by decide) (hts _ mw_284) (fun _ h9 => h9) hv dMO_limit_40 ?_
      refine lv_iload_n hx hb dMO_limit_43 rfl (lv_at hl 2 rfl) ?_
      refine lv_lload_n hx hb dMO_limit_44 rfl (lv_at hl 3 rfl) ?_
      obtain ⟨a11, rfl, h⟩ := h
      obtain ⟨n12, f13, ha, hin9, h⟩ := h
      refine xw_last hx hb hK hw 2 rfl ha hin9 dMO_limit_45 (fun H locs hw => ?_)
      replace h := h _ rfl
      generalize va_up w5 a11 (some (xcL (E.1 2) n12 (vp_updL f13 p0.toNatClampNeg p1))) = w14 at hw h
      refine lv_iload hx hb dMO_limit_46 (lv_at hl 0 rfl) ?_
      refine W.widen (k := 0) (n := 0) (Nat.le_of_ble_eq_true rfl) (Nat.le_of_ble_eq_true rfl) ?_
      exact xw_iret hx hb hr hlocks hw h dMO_limit_48
    · replace h := h.2 hc
      refine lv_ldc (v := (-2000000002)) hx hb hown (hts _ mw_289) dMO_limit_27 ?_
      refine W.widen (k := 0) (n := 0) (Nat.le_of_ble_eq_true rfl) (Nat.le_of_ble_eq_true rfl) ?_
      exact xw_iret hx hb hr hlocks hw h dMO_limit_29
  · replace h := h.2 hc
    refine lv_ldc (v := (-2000000001)) hx hb hown (hts _ mw_337) dMO_limit_13 ?_
    refine W.widen (k := 0) (n := 0) (Nat.le_of_ble_eq_true rfl) (Nat.le_of_ble_eq_true rfl) ?_
    exact xw_iret hx hb hr hlocks hw h dMO_limit_15
def wp_MO_fails (E : xE_T) (post : Int32 → xw_T → Prop) (w : xw_T) (h0 : Nat) (p0 : Int32) (p1 : Int32) : Prop := (∃ v0, xg w h0 5 0 = some v0) ∧ ∀ w1, w1 = xp w h0 0 (.int 0) → ((∃ fs, w1 h0 = some (.inr (5, fs))) ∧ wp_MO_isBatch E (fun r2 w3 => (r2 = 0 → (post 0 w3)) ∧ (¬ r2 = 0 → (∃ v4, xgR w3 h0 5 6 = some v4 ∧ (∃ a5 : Nat, v4 = some a5 ∧ (∃ n6 f7, xaI w3 a5 (E.1 1) = some (n6, f7) ∧ vp_in p0 n6 ∧ (((f7 p0.toNatClampNeg) = 0 → (∃ v8, xgR w3 h0 5 8 = some v8 ∧ (∃ a9 : Nat, v8 = some a9 ∧ (∃ n10 f11, xaI w3 a9 (E.1 3) = some (n10, f11) ∧ vp_in p0 n10 ∧ (((f11 p0.toNatClampNeg) = p1 → (∃ v12, xgR w3 h0 5 8 = some v12 ∧ (∃ a13 : Nat, v12 = some a13 ∧ (∃ n14 f15, xaI w3 a13 (E.1 3) = some (n14, f15) ∧ vp_in p0 n14 ∧ ∀ w16, w16 = va_up w3 a13 (some (xcI (E.1 3) n14 (upd f15 p0.toNatClampNeg (vp_nar .boolean p1)))) → (post 0 w16))))) ∧ (¬ (f11 p0.toNatClampNeg) = p1 → (∃ v17, xgR w3 h0 5 8 = some v17 ∧ (∃ a18 : Nat, v17 = some a18 ∧ (∃ n19 f20, xaI w3 a18 (E.1 3) = some (n19, f20) ∧ vp_in p0 n19 ∧ ∀ w21, w21 = va_up w3 a18 (some (xcI (E.1 3) n19 (upd f20 p0.toNatClampNeg (vp_nar .boolean p1)))) → (post 1 w21)))))))))) ∧ (¬ (f7 p0.toNatClampNeg) = 0 → (post 0 w3)))))))) w1 h0 p0)
set_option maxHeartbeats 4000000 in
set_option maxRecDepth 100000 in
theorem c_MO_fails (l : Launch) (D : va_G) (E : xE_T) (A : Nat → Prop) (post : Int32 → xw_T → Prop) (w : xw_T) (h0 : Nat) (p0 : Int32) (p1 : Int32) (h : wp_MO_fails E post w h0 p0 p1) : Met l yMO_fails (xW yMO_fails cMO_fails 4 (some (.boolean))) ({ frames := 2, cells := 0, slots := 0, locals := 46 } : Room) (va_Pc [.ref h0, .int p0, .int p1] (xP D E A w)) (va_Qi post (xB D A) A) 0 0 A := by
  refine Met.ofW (cc := cMO_fails) (maxL := 4) (ret := (some (.boolean))) (by decide) rfl ?_
  intro p e s m args below meth c s₁ B hml hv
  obtain ⟨rfl, hw, hK, hE⟩ := hv
  have hx := B.exec
  have hb := B.bytes
  have hr := B.returns
  have hts : ∀ w ∈ xTB, w.before _ s = true := fun w hw => atoms_spec (ws := xW yMO_fails cMO_fails 4 (some (.boolean))) B.pre w (List.mem_cons_of_mem _ hw)
  have hown : s.vm.findClass RMO = some m.cls := findClass_of_methodNamed B.named
  have hlocks := B.notSynchronized
  have hw : xw_S D vwCl A s.heap w s.heap [] := xw_S0 hw
  refine xl_start (lvs := [(0, .ref h0), (1, .int p0), (2, .int p1)]) (by first | exact Nat.le_of_ble_eq_true rfl | simp [lg_sl, va_rf_cat, xcat_i, xcat_l, xcat_r, xcat_n]) (by first | rfl | simp [lv_args, va_rf_cat, xcat_i, xcat_l, xcat_r, xcat_n]) (fun ls hl => ?_)
  unfold wp_MO_fails at h
  refine lv_aload_n hx hb dMO_fails_0 rfl (lv_at hl 0 rfl) ?_
  refine lv_iconst (v := 0) hx hb dMO_fails_1 (by decide) ?_
  obtain ⟨hv, h⟩ := h
  refine xw_put (ty := (.int)) (C := RMO) (T := TMO) (N := 17) (ref := RMO) hx hb hts inMO tyMO tyMO_ok nmMO hown hK hw rfl 0 (by decide) (hts _ mw_288) (fun _ h9 => h9) rfl (by decide +kernel) rfl rfl hv dMO_fails_2 (fun H locs hw => ?_)
  replace h := h _ rfl
  generalize xp w h0 0 (.int 0) = w1 at hw h
  refine lv_aload_n hx hb dMO_fails_5 rfl (lv_at hl 0 rfl) ?_
  refine lv_iload_n hx hb dMO_fails_6 rfl (lv_at hl 1 rfl) ?_
  obtain ⟨⟨fs, hk⟩, h⟩ := h
  have hcall := h
  clear h
  refine xw_calli (va_runV (As := [.int p0]) (rest := []) ⟨hx, hb, hml, hown, hts⟩ (c_MO_isBatch l D E A _ w1 h0 p0 hcall) (cwV 1 hts (xG_V mw_315 mw_316 mw_317 mw_294 mw_318) rfl rfl rfl (by decide +kernel) ⟨(Nat.le_of_ble_eq_true rfl), (Nat.le_of_ble_eq_true rfl)⟩) (xw_preV (ci := 5) hw hK hE rfl hk) rfl rfl hl.1 rfl (lv_room (by first | exact Nat.le_of_ble_eq_true rfl | simp [va_rf_cat, xcat_i, xcat_l, xcat_r, xcat_n])) dMO_fails_7 ⟨(Nat.le_of_ble_eq_true rfl), (Nat.le_of_ble_eq_true rfl)⟩) hw (fun r2 w3 H locs h hw => ?_)
  clear hcall
  refine lv_if_eq (tgt := 22) hx hb dMO_fails_10 rfl (fun hc => ?_) (fun hc => ?_)
  · replace h := h.1 hc
    refine lv_iconst (v := 0) hx hb dMO_fails_22 (by decide) ?_
    refine W.widen (k := 0) (n := 0) (Nat.le_of_ble_eq_true rfl) (Nat.le_of_ble_eq_true rfl) ?_
    exact xw_zret (by decide) hx hb hr hlocks hw h dMO_fails_23
  · replace h := h.2 hc
    refine lv_aload_n hx hb dMO_fails_13 rfl (lv_at hl 0 rfl) ?_
    obtain ⟨v4, hv, h⟩ := h
    refine xw_getR (C := RMO) (T := TMO) (N := 17) (ref := RMO) hx hb hts inMO hown hK hw rfl 6 (by decide) (hts _ mw_283) (fun _ h9 => h9) hv dMO_fails_14 ?_
    refine lv_iload_n hx hb dMO_fails_17 rfl (lv_at hl 1 rfl) ?_
    obtain ⟨a5, rfl, h⟩ := h
    obtain ⟨n6, f7, ha, hin9, h⟩ := h
    refine xw_iald hx hb hK hw 1 rfl ha hin9 dMO_fails_18 ?_
    refine lv_if_eq (tgt := 24) hx hb dMO_fails_19 rfl (fun hc => ?_) (fun hc => ?_)
    · replace h := h.1 hc
      refine lv_aload_n hx hb dMO_fails_24 rfl (lv_at hl 0 rfl) ?_
      obtain ⟨v8, hv, h⟩ := h
      refine xw_getR (C := RMO) (T := TMO) (N := 17) (ref := RMO) hx hb hts inMO hown hK hw rfl 8 (by decide) (hts _ mw_281) (fun _ h9 => h9) hv dMO_fails_25 ?_
      refine lv_iload_n hx hb dMO_fails_28 rfl (lv_at hl 1 rfl) ?_
      obtain ⟨a9, rfl, h⟩ := h
      obtain ⟨n10, f11, ha, hin9, h⟩ := h
      refine xw_zald hx hb hK hw 3 rfl ha hin9 dMO_fails_29 ?_
      refine lv_iload_n hx hb dMO_fails_30 rfl (lv_at hl 2 rfl) ?_
      refine lv_icmp_eq (tgt := 38) hx hb dMO_fails_31 rfl (fun hc => ?_) (fun hc => ?_)
      · replace h := h.1 hc
        refine lv_iconst (v := 0) hx hb dMO_fails_38 (by decide) ?_
        refine lv_istore_n (i := 3) (lv' := [(3, .int 0), (0, .ref h0), (1, .int p0), (2, .int p1)]) hx hb dMO_fails_39 rfl hl (by decide) (by first | rfl | simp [va_rf_cat, xcat_i, xcat_l, xcat_r, xcat_n]) (fun ls hl => ?_)
        refine lv_aload_n hx hb dMO_fails_40 rfl (lv_at hl 1 rfl) ?_
        obtain ⟨v12, hv, h⟩ := h
        refine xw_getR (C := RMO) (T := TMO) (N := 17) (ref := RMO) hx hb hts inMO hown hK hw rfl 8 (by decide) (hts _ mw_281) (fun _ h9 => h9) hv dMO_fails_41 ?_
        refine lv_iload_n hx hb dMO_fails_44 rfl (lv_at hl 2 rfl) ?_
        refine lv_iload_n hx hb dMO_fails_45 rfl (lv_at hl 3 rfl) ?_
        obtain ⟨a13, rfl, h⟩ := h
        obtain ⟨n14, f15, ha, hin9, h⟩ := h
        refine xw_zast hx hb hK hw 3 rfl ha hin9 dMO_fails_46 (fun H locs hw => ?_)
        replace h := h _ rfl
        generalize va_up w3 a13 (some (xcI (E.1 3) n14 (upd f15 p0.toNatClampNeg (vp_nar .boolean p1)))) = w16 at hw h
        refine lv_iload_n hx hb dMO_fails_47 rfl (lv_at hl 0 rfl) ?_
        refine W.widen (k := 0) (n := 0) (Nat.le_of_ble_eq_true rfl) (Nat.le_of_ble_eq_true rfl) ?_
        exact xw_zret (by decide) hx hb hr hlocks hw h dMO_fails_48
      · replace h := h.2 hc
        refine lv_iconst (v := 1) hx hb dMO_fails_34 (by decide) ?_
        refine lv_goto (tgt := 39) hx hb dMO_fails_35 rfl ?_
        refine lv_istore_n (i := 3) (lv' := [(3, .int 1), (0, .ref h0), (1, .int p0), (2, .int p1)]) hx hb dMO_fails_39 rfl hl (by decide) (by first | rfl | simp [va_rf_cat, xcat_i, xcat_l, xcat_r, xcat_n]) (fun ls hl => ?_)
        refine lv_aload_n hx hb dMO_fails_40 rfl (lv_at hl 1 rfl) ?_
        obtain ⟨v17, hv, h⟩ := h
        refine xw_getR (C := RMO) (T := TMO) (N := 17) (ref := RMO) hx hb hts inMO hown hK hw rfl 8 (by decide) (hts _ mw_281) (fun _ h9 => h9) hv dMO_fails_41 ?_
        refine lv_iload_n hx hb dMO_fails_44 rfl (lv_at hl 2 rfl) ?_
        refine lv_iload_n hx hb dMO_fails_45 rfl (lv_at hl 3 rfl) ?_
        obtain ⟨a18, rfl, h⟩ := h
        obtain ⟨n19, f20, ha, hin9, h⟩ := h
        refine xw_zast hx hb hK hw 3 rfl ha hin9 dMO_fails_46 (fun H locs hw => ?_)
        replace h := h _ rfl
        generalize va_up w3 a18 (some (xcI (E.1 3) n19 (upd f20 p0.toNatClampNeg (vp_nar .boolean p1)))) = w21 at hw h
        refine lv_iload_n hx hb dMO_fails_47 rfl (lv_at hl 0 rfl) ?_
        refine W.widen (k := 0) (n := 0) (Nat.le_of_ble_eq_true rfl) (Nat.le_of_ble_eq_true rfl) ?_
        exact xw_zret (by decide) hx hb hr hlocks hw h dMO_fails_48
    · replace h := h.2 hc
      refine lv_iconst (v := 0) hx hb dMO_fails_22 (by decide) ?_
      refine W.widen (k := 0) (n := 0) (Nat.le_of_ble_eq_true rfl) (Nat.le_of_ble_eq_true rfl) ?_
      exact xw_zret (by decide) hx hb hr hlocks hw h dMO_fails_23
def wl_MO_hold_34 (E : xE_T) (post : Int64 → xw_T → Prop) (K : xw_T → Nat → Int32 → Int64 → Int32 → Prop) : Nat → xw_T → Nat → Int32 → Int64 → Int32 → Int32 → Prop
  | 0 => fun _ _ _ _ _ _ => False
  | n34 + 1 => fun w x0 x1 x2 x4 x5 => ∃ v1, xgR w x0 5 11 = some v1 ∧ (∃ a2 : Nat, v1 = some a2 ∧ (∃ n3 f4, xaI w a2 (E.1 1) = some (n3, f4) ∧ vp_in x4 n3 ∧ (((f4 x4.toNatClampNeg) ≤ x5 → (K w x0 x1 x2 (x4 + 1))) ∧ (¬ (f4 x4.toNatClampNeg) ≤ x5 → (∃ v5, xgR w x0 5 6 = some v5 ∧ (∃ a6 : Nat, v5 = some a6 ∧ (∃ n7 f8, xaI w a6 (E.1 1) = some (n7, f8) ∧ vp_in x4 n7 ∧ ((¬ (f8 x4.toNatClampNeg) = 0 → (K w x0 x1 x2 (x4 + 1))) ∧ ((f8 x4.toNatClampNeg) = 0 → (∃ v9, xgR w x0 5 13 = some v9 ∧ (∃ a10 : Nat, v9 = some a10 ∧ (∃ n11 f12, xaL w a10 (E.1 2) = some (n11, f12) ∧ vp_in ((12 * x4) + x5) n11 ∧ (∃ v13, xgR w x0 5 12 = some v13 ∧ (∃ a14 : Nat, v13 = some a14 ∧ (∃ n15 f16, xaI w a14 (E.1 1) = some (n15, f16) ∧ vp_in ((12 * x4) + x5) n15 ∧ ((¬ (f16 ((12 * x4) + x5).toNatClampNeg) = x1 → (wl_MO_hold_34 E post K n34 w x0 x1 x2 x4 (x5 + 1))) ∧ ((f16 ((12 * x4) + x5).toNatClampNeg) = x1 → ((0 ≤ (f12 ((12 * x4) + x5).toNatClampNeg) → (wl_MO_hold_34 E post K n34 w x0 x1 x2 x4 (x5 + 1))) ∧ (¬ 0 ≤ (f12 ((12 * x4) + x5).toNatClampNeg) → (wl_MO_hold_34 E post K n34 w x0 x1 (x2 - (f12 ((12 * x4) + x5).toNatClampNeg)) x4 (x5 + 1)))))))))))))))))))))
def wl_MO_hold_22 (E : xE_T) (post : Int64 → xw_T → Prop) : Nat → xw_T → Nat → Int32 → Int64 → Int32 → Prop
  | 0 => fun _ _ _ _ _ => False
  | n22 + 1 => fun w x0 x1 x2 x4 => ∃ v17, xgI w x0 5 5 = some v17 ∧ ((v17 < x4 → (post x2 w)) ∧ (¬ v17 < x4 → (∃ n34, wl_MO_hold_34 E post (fun w x0 x1 x2 x4 => wl_MO_hold_22 E post n22 w x0 x1 x2 x4) n34 w x0 x1 x2 x4 0)))
def wp_MO_hold (E : xE_T) (post : Int64 → xw_T → Prop) (w : xw_T) (h0 : Nat) (p0 : Int32) : Prop := (∃ v0, xg w h0 5 0 = some v0) ∧ ∀ w18, w18 = xp w h0 0 (.int 0) → ((∃ fs, w18 h0 = some (.inr (5, fs))) ∧ wp_MO_isAccount E (fun r19 w20 => (¬ r19 = 0 → (∃ n22, wl_MO_hold_22 E post n22 w20 h0 p0 0 1)) ∧ (r19 = 0 → (post (-2000000001) w20))) w18 h0 p0)
set_option maxHeartbeats 4000000 in
set_option maxRecDepth 100000 in
theorem c_MO_hold (l : Launch) (D : va_G) (E : xE_T) (A : Nat → Prop) (post : Int64 → xw_T → Prop) (w : xw_T) (h0 : Nat) (p0 : Int32) (h : wp_MO_hold E post w h0 p0) : Met l yMO_hold (xW yMO_hold cMO_hold 8 (some (.long))) ({ frames := 2, cells := 0, slots := 0, locals := 46 } : Room) (va_Pc [.ref h0, .int p0] (xP D E A w)) (va_Ql post (xB D A) A) 0 0 A := by
  refine Met.ofW (cc := cMO_hold) (maxL := 8) (ret := (some (.long))) (by decide) rfl ?_
  intro p e s m args below meth c s₁ B hml hv
  obtain ⟨rfl, hw, hK, hE⟩ := hv
  have hx := B.exec
  have hb := B.bytes
  have hr := B.returns
  have hts : ∀ w ∈ xTB, w.before _ s = true := fun w hw => atoms_spec (ws := xW yMO_hold cMO_hold 8 (some (.long))) B.pre w (List.mem_cons_of_mem _ hw)
  have hown : s.vm.findClass RMO = some m.cls := findClass_of_methodNamed B.named
  have hlocks := B.notSynchronized
  have hw : xw_S D vwCl A s.heap w s.heap [] := xw_S0 hw
  have lo_22 : ∀ (n22 : Nat) (w : xw_T) (x0 : Nat) (x1 : Int32) (x2 : Int64) (x4 : Int32) (H : Heap) (locs : List Loc) (ls : Array Slot), lv_has ls 8 [(0, .ref x0), (1, .int x1), (2, .long x2), (4, .int x4)] → xw_S D vwCl A s.heap w H locs → wl_MO_hold_22 E post n22 w x0 x1 x2 x4 → W p l e (headSpec (xW yMO_hold cMO_hold 8 (some (.long))) ({ frames := 2, cells := 0, slots := 0, locals := 46 } : Room)).room s m ([.ref h0, .int p0] : List Value).toArray below meth c H locs 0 0 (MQ below (va_Ql post (xB D A) A) ([.ref h0, .int p0] : List Value).toArray s 0 0 A) (F0 m 22 ls []) := by
    intro n22
    induction n22 with
    | zero => intro w x0 x1 x2 x4 H locs ls hl hw h; exact h.elim
    | succ n22 ih22 =>
      have lo_34 : ∀ (n34 : Nat) (w : xw_T) (x0 : Nat) (x1 : Int32) (x2 : Int64) (x4 : Int32) (x5 : Int32) (H : Heap) (locs : List Loc) (ls : Array Slot), lv_has ls 8 [(0, .ref x0), (1, .int x1), (2, .long x2), (4, .int x4), (5, .int x5)] → xw_S D vwCl A s.heap w H locs → wl_MO_hold_34 E post (fun w x0 x1 x2 x4 => wl_MO_hold_22 E post n22 w x0 x1 x2 x4) n34 w x0 x1 x2 x4 x5 → W p l e (headSpec (xW yMO_hold cMO_hold 8 (some (.long))) ({ frames := 2, cells := 0, slots := 0, locals := 46 } : Room)).room s m ([.ref h0, .int p0] : List Value).toArray below meth c H locs 0 0 (MQ below (va_Ql post (xB D A) A) ([.ref h0, .int p0] : List Value).toArray s 0 0 A) (F0 m 34 ls []) := by
        intro n34
        induction n34 with
        | zero => intro w x0 x1 x2 x4 x5 H locs ls hl hw h; exact h.elim
        | succ n34 ih34 =>
          intro w x0 x1 x2 x4 x5 H locs ls hl hw h
          dsimp only [wl_MO_hold_34] at h
          refine lv_iload hx hb dMO_hold_34 (lv_at hl 4 rfl) ?_
          refine lv_aload_n hx hb dMO_hold_36 rfl (lv_at hl 0 rfl) ?_
          obtain ⟨v1, hv, h⟩ := h
          refine xw_getR (C := RMO) (T := TMO) (N := 17) (ref := RMO) hx hb hts inMO hown hK hw rfl 11 (by decide) (hts _ mw_277) (fun _ h9 => h9) hv dMO_hold_37 ?_
          refine lv_iload hx hb dMO_hold_40 (lv_at hl 3 rfl) ?_
          obtain ⟨a2, rfl, h⟩ := h
          obtain ⟨n3, f4, ha, hin9, h⟩ := h
          refine xw_iald hx hb hK hw 1 rfl ha hin9 dMO_hold_42 ?_
          refine lv_icmp_ge (tgt := 110) hx hb dMO_hold_43 rfl (fun hc => ?_) (fun hc => ?_)
          · replace h := h.1 hc
            refine lv_iinc (k := 3) (v := x4 + 1) (lv' := [(4, .int (x4 + 1)), (0, .ref x0), (1, .int x1), (2, .long x2), (5, .int x5)]) hx hb dMO_hold_110 hl rfl rfl (by decide) (by first | rfl | simp [va_rf_cat, xcat_i, xcat_l, xcat_r, xcat_n]) (fun ls hl => ?_)
            refine lv_goto (tgt := 22) hx hb dMO_hold_113 rfl ?_
            exact ih22 _ x0 x1 x2 (x4 + 1) _ _ _ (lv_sub hl [1, 2, 3, 0] rfl) hw h
          · replace h := h.2 hc
            refine lv_aload_n hx hb dMO_hold_46 rfl (lv_at hl 0 rfl) ?_
            obtain ⟨v5, hv, h⟩ := h
            refine xw_getR (C := RMO) (T := TMO) (N := 17) (ref := RMO) hx hb hts inMO hown hK hw rfl 6 (by decide) (hts _ mw_283) (fun _ h9 => h9) hv dMO_hold_47 ?_
            refine lv_iload hx hb dMO_hold_50 (lv_at hl 3 rfl) ?_
            obtain ⟨a6, rfl, h⟩ := h
            obtain ⟨n7, f8, ha, hin9, h⟩ := h
            refine xw_iald hx hb hK hw 1 rfl ha hin9 dMO_hold_52 ?_
            refine lv_if_ne (tgt := 110) hx hb dMO_hold_53 rfl (fun hc => ?_) (fun hc => ?_)
            · replace h := h.1 hc
              refine lv_iinc (k := 3) (v := x4 + 1) (lv' := [(4, .int (x4 + 1)), (0, .ref x0), (1, .int x1), (2, .long x2), (5, .int x5)]) hx hb dMO_hold_110 hl rfl rfl (by decide) (by first | rfl | simp [va_rf_cat, xcat_i, xcat_l, xcat_r, xcat_n]) (fun ls hl => ?_)
              refine lv_goto (tgt := 22) hx hb dMO_hold_113 rfl ?_
              exact ih22 _ x0 x1 x2 (x4 + 1) _ _ _ (lv_sub hl [1, 2, 3, 0] rfl) hw h
            · replace h := h.2 hc
              refine lv_aload_n hx hb dMO_hold_56 rfl (lv_at hl 0 rfl) ?_
              obtain ⟨v9, hv, h⟩ := h
              refine xw_getR (C := RMO) (T := TMO) (N := 17) (ref := RMO) hx hb hts inMO hown hK hw rfl 13 (by decide) (hts _ mw_274) (fun _ h9 => h9) hv dMO_hold_57 ?_
              refine lv_bipush (v := 12) hx hb dMO_hold_60 (by decide) ?_
              refine lv_iload hx hb dMO_hold_62 (lv_at hl 3 rfl) ?_
              refine lv_imul hx hb dMO_hold_64 ?_
              refine lv_iload hx hb dMO_hold_65 (lv_at hl 4 rfl) ?_
              refine lv_iadd hx hb dMO_hold_67 ?_
              obtain ⟨a10, rfl, h⟩ := h
              obtain ⟨n11, f12, ha, hin9, h⟩ := h
              refine xw_lald hx hb hK hw 2 rfl ha hin9 dMO_hold_68 ?_
              refine lv_lstore (i := 6) (lv' := [(6, .long (f12 ((12 * x4) + x5).toNatClampNeg)), (0, .ref x0), (1, .int x1), (2, .long x2), (4, .int x4), (5, .int x5)]) hx hb dMO_hold_69 hl (by decide) (by first | rfl | simp [va_rf_cat, xcat_i, xcat_l, xcat_r, xcat_n]) (fun ls hl => ?_)
              refine lv_aload_n hx hb dMO_hold_71 rfl (lv_at hl 1 rfl) ?_
              obtain ⟨v13, hv, h⟩ := h
              refine xw_getR (C := RMO) (T := TMO) (N := 17) (ref := RMO) hx hb hts inMO hown hK hw rfl 12 (by decide) (hts _ mw_276) (fun _ h9 => h9) hv dMO_hold_72 ?_
              refine lv_bipush (v := 12) hx hb dMO_hold_75 (by decide) ?_
              refine lv_iload hx hb dMO_hold_77 (lv_at hl 4 rfl) ?_
              refine lv_imul hx hb dMO_hold_79 ?_
              refine lv_iload hx hb dMO_hold_80 (lv_at hl 5 rfl) ?_
              refine lv_iadd hx hb dMO_hold_82 ?_
              obtain ⟨a14, rfl, h⟩ := h
              obtain ⟨n15, f16, ha, hin9, h⟩ := h
              refine xw_iald hx hb hK hw 1 rfl ha hin9 dMO_hold_83 ?_
              refine lv_iload_n hx hb dMO_hold_84 rfl (lv_at hl 2 rfl) ?_
              refine lv_icmp_ne (tgt := 102) hx hb dMO_hold_85 rfl (fun hc => ?_) (fun hc => ?_)
              · replace h := h.1 hc
                refine lv_lload_n hx hb dMO_hold_102 rfl (lv_at hl 3 rfl) ?_
                refine lv_lstore_n (i := 2) (lv' := [(2, .long x2), (6, .long (f12 ((12 * x4) + x5).toNatClampNeg)), (0, .ref x0), (1, .int x1), (4, .int x4), (5, .int x5)]) hx hb dMO_hold_103 rfl hl (by decide) (by first | rfl | simp [va_rf_cat, xcat_i, xcat_l, xcat_r, xcat_n]) (fun ls hl => ?_)
                refine lv_iinc (k := 5) (v := x5 + 1) (lv' := [(5, .int (x5 + 1)), (2, .long x2), (6, .long (f12 ((12 * x4) + x5).toNatClampNeg)), (0, .ref x0), (1, .int x1), (4, .int x4)]) hx hb dMO_hold_104 hl rfl rfl (by decide) (by first | rfl | simp [va_rf_cat, xcat_i, xcat_l, xcat_r, xcat_n]) (fun ls hl => ?_)
                refine lv_goto (tgt := 34) hx hb dMO_hold_107 rfl ?_
                exact ih34 _ x0 x1 x2 x4 (x5 + 1) _ _ _ (lv_sub hl [3, 4, 1, 5, 0] rfl) hw h
              · replace h := h.2 hc
                refine lv_lload hx hb dMO_hold_88 (lv_at hl 0 rfl) ?_
                refine lv_lconst (v := 0) hx hb dMO_hold_90 (by decide) ?_
                refine xl_lc_ge (tgt := 102) hx hb dMO_hold_91 dMO_hold_92 rfl (fun hc => ?_) (fun hc => ?_)
                · replace h := h.1 hc
                  refine lv_lload_n hx hb dMO_hold_102 rfl (lv_at hl 3 rfl) ?_
                  refine lv_lstore_n (i := 2) (lv' := [(2, .long x2), (6, .long (f12 ((12 * x4) + x5).toNatClampNeg)), (0, .ref x0), (1, .int x1), (4, .int x4), (5, .int x5)]) hx hb dMO_hold_103 rfl hl (by decide) (by first | rfl | simp [va_rf_cat, xcat_i, xcat_l, xcat_r, xcat_n]) (fun ls hl => ?_)
                  refine lv_iinc (k := 5) (v := x5 + 1) (lv' := [(5, .int (x5 + 1)), (2, .long x2), (6, .long (f12 ((12 * x4) + x5).toNatClampNeg)), (0, .ref x0), (1, .int x1), (4, .int x4)]) hx hb dMO_hold_104 hl rfl rfl (by decide) (by first | rfl | simp [va_rf_cat, xcat_i, xcat_l, xcat_r, xcat_n]) (fun ls hl => ?_)
                  refine lv_goto (tgt := 34) hx hb dMO_hold_107 rfl ?_
                  exact ih34 _ x0 x1 x2 x4 (x5 + 1) _ _ _ (lv_sub hl [3, 4, 1, 5, 0] rfl) hw h
                · replace h := h.2 hc
                  refine lv_lload_n hx hb dMO_hold_95 rfl (lv_at hl 3 rfl) ?_
                  refine lv_lload hx hb dMO_hold_96 (lv_at hl 0 rfl) ?_
                  refine lv_lsub hx hb dMO_hold_98 ?_
                  refine lv_goto (tgt := 103) hx hb dMO_hold_99 rfl ?_
                  refine lv_lstore_n (i := 2) (lv' := [(2, .long (x2 - (f12 ((12 * x4) + x5).toNatClampNeg))), (6, .long (f12 ((12 * x4) + x5).toNatClampNeg)), (0, .ref x0), (1, .int x1), (4, .int x4), (5, .int x5)]) hx hb dMO_hold_103 rfl hl (by decide) (by first | rfl | simp [va_rf_cat, xcat_i, xcat_l, xcat_r, xcat_n]) (fun ls hl => ?_)
                  refine lv_iinc (k := 5) (v := x5 + 1) (lv' := [(5, .int (x5 + 1)), (2, .long (x2 - (f12 ((12 * x4) + x5).toNatClampNeg))), (6, .long (f12 ((12 * x4) + x5).toNatClampNeg)), (0, .ref x0), (1, .int x1), (4, .int x4)]) hx hb dMO_hold_104 hl rfl rfl (by decide) (by first | rfl | simp [va_rf_cat, xcat_i, xcat_l, xcat_r, xcat_n]) (fun ls hl => ?_)
                  refine lv_goto (tgt := 34) hx hb dMO_hold_107 rfl ?_
                  exact ih34 _ x0 x1 (x2 - (f12 ((12 * x4) + x5).toNatClampNeg)) x4 (x5 + 1) _ _ _ (lv_sub hl [3, 4, 1, 5, 0] rfl) hw h
      intro w x0 x1 x2 x4 H locs ls hl hw h
      dsimp only [wl_MO_hold_22] at h
      refine lv_iload hx hb dMO_hold_22 (lv_at hl 3 rfl) ?_
      refine lv_aload_n hx hb dMO_hold_24 rfl (lv_at hl 0 rfl) ?_
      obtain ⟨v17, hv, h⟩ := h
      refine xw_getI (C := RMO) (T := TMO) (N := 17) (ref := RMO) hx hb hts inMO hown hK hw rfl 5 (by decide) (hts _ mw_298) (fun _ h9 => h9) hv dMO_hold_25 ?_
      refine lv_icmp_gt (tgt := 116) hx hb dMO_hold_28 rfl (fun hc => ?_) (fun hc => ?_)
      · replace h := h.1 hc
        refine lv_lload_n hx hb dMO_hold_116 rfl (lv_at hl 2 rfl) ?_
        refine W.widen (k := 0) (n := 0) (Nat.le_of_ble_eq_true rfl) (Nat.le_of_ble_eq_true rfl) ?_
        exact xw_lret hx hb hr hlocks hw h dMO_hold_117
      · replace h := h.2 hc
        refine lv_iconst (v := 0) hx hb dMO_hold_31 (by decide) ?_
        refine lv_istore (i := 5) (lv' := [(5, .int 0), (0, .ref x0), (1, .int x1), (2, .long x2), (4, .int x4)]) hx hb dMO_hold_32 hl (by decide) (by first | rfl | simp [va_rf_cat, xcat_i, xcat_l, xcat_r, xcat_n]) (fun ls hl => ?_)
        obtain ⟨n34, h⟩ := h
        refine W.widen (k := 0) (n := 0) (Nat.le_of_ble_eq_true rfl) (Nat.le_of_ble_eq_true rfl) ?_
        exact lo_34 n34 _ x0 x1 x2 x4 0 _ _ _ (lv_sub hl [1, 2, 3, 4, 0] rfl) hw h
  refine xl_start (lvs := [(0, .ref h0), (1, .int p0)]) (by first | exact Nat.le_of_ble_eq_true rfl | simp [lg_sl, va_rf_cat, xcat_i, xcat_l, xcat_r, xcat_n]) (by first | rfl | simp [lv_args, va_rf_cat, xcat_i, xcat_l, xcat_r, xcat_n]) (fun ls hl => ?_)
  unfold wp_MO_hold at h
  refine lv_aload_n hx hb dMO_hold_0 rfl (lv_at hl 0 rfl) ?_
  refine lv_iconst (v := 0) hx hb dMO_hold_1 (by decide) ?_
  obtain ⟨hv, h⟩ := h
  refine xw_put (ty := (.int)) (C := RMO) (T := TMO) (N := 17) (ref := RMO) hx hb hts inMO tyMO tyMO_ok nmMO hown hK hw rfl 0 (by decide) (hts _ mw_288) (fun _ h9 => h9) rfl (by decide +kernel) rfl rfl hv dMO_hold_2 (fun H locs hw => ?_)
  replace h := h _ rfl
  generalize xp w h0 0 (.int 0) = w18 at hw h
  refine lv_aload_n hx hb dMO_hold_5 rfl (lv_at hl 0 rfl) ?_
  refine lv_iload_n hx hb dMO_hold_6 rfl (lv_at hl 1 rfl) ?_
  obtain ⟨⟨fs, hk⟩, h⟩ := h
  have hcall := h
  clear h
  refine xw_calli (va_runV (As := [.int p0]) (rest := []) ⟨hx, hb, hml, hown, hts⟩ (c_MO_isAccount l D E A _ w18 h0 p0 hcall) (cwV 1 hts (xG_V mw_311 mw_312 mw_313 mw_294 mw_314) rfl rfl rfl (by decide +kernel) ⟨(Nat.le_of_ble_eq_true rfl), (Nat.le_of_ble_eq_true rfl)⟩) (xw_preV (ci := 5) hw hK hE rfl hk) rfl rfl hl.1 rfl (lv_room (by first | exact Nat.le_of_ble_eq_true rfl | simp [va_rf_cat, xcat_i, xcat_l, xcat_r, xcat_n])) dMO_hold_7 ⟨(Nat.le_of_ble_eq_true rfl), (Nat.le_of_ble_eq_true rfl)⟩) hw (fun r19 w20 H locs h hw => ?_)
  clear hcall
  refine lv_if_ne (tgt := 17) hx hb dMO_hold_10 rfl (fun hc => ?_) (fun hc => ?_)
  · replace h := h.1 hc
    refine lv_lconst (v := 0) hx hb dMO_hold_17 (by decide) ?_
    refine lv_lstore_n (i := 2) (lv' := [(2, .long 0), (0, .ref h0), (1, .int p0)]) hx hb dMO_hold_18 rfl hl (by decide) (by first | rfl | simp [va_rf_cat, xcat_i, xcat_l, xcat_r, xcat_n]) (fun ls hl => ?_)
    refine lv_iconst (v := 1) hx hb dMO_hold_19 (by decide) ?_
    refine lv_istore (i := 4) (lv' := [(4, .int 1), (2, .long 0), (0, .ref h0), (1, .int p0)]) hx hb dMO_hold_20 hl (by decide) (by first | rfl | simp [va_rf_cat, xcat_i, xcat_l, xcat_r, xcat_n]) (fun ls hl => ?_)
    obtain ⟨n22, h⟩ := h
    refine W.widen (k := 0) (n := 0) (Nat.le_of_ble_eq_true rfl) (Nat.le_of_ble_eq_true rfl) ?_
    exact lo_22 n22 _ h0 p0 0 1 _ _ _ (lv_sub hl [2, 3, 1, 0] rfl) hw h
  · replace h := h.2 hc
    refine lv_ldc2 (v := (-2000000001)) hx hb hown (hts _ mw_338) dMO_hold_13 ?_
    refine W.widen (k := 0) (n := 0) (Nat.le_of_ble_eq_true rfl) (Nat.le_of_ble_eq_true rfl) ?_
    exact xw_lret hx hb hr hlocks hw h dMO_hold_16
def wl_MO_rows_9 (E : xE_T) (post : Int32 → xw_T → Prop) : Nat → xw_T → Nat → Int32 → Int32 → Prop
  | 0 => fun _ _ _ _ => False
  | n9 + 1 => fun w x0 x1 x2 => ∃ v1, xgI w x0 5 14 = some v1 ∧ ((v1 ≤ x2 → (post x1 w)) ∧ (¬ v1 ≤ x2 → (∃ v2, xgR w x0 5 11 = some v2 ∧ (∃ v3, xgR w x0 5 15 = some v3 ∧ (∃ a4 : Nat, v3 = some a4 ∧ (∃ n5 f6, xaI w a4 (E.1 1) = some (n5, f6) ∧ vp_in x2 n5 ∧ (∃ a7 : Nat, v2 = some a7 ∧ (∃ n8 f9, xaI w a7 (E.1 1) = some (n8, f9) ∧ vp_in (f6 x2.toNatClampNeg) n8 ∧ (wl_MO_rows_9 E post n9 w x0 (x1 + (f9 (f6 x2.toNatClampNeg).toNatClampNeg)) (x2 + 1))))))))))
def wp_MO_rows (E : xE_T) (post : Int32 → xw_T → Prop) (w : xw_T) (h0 : Nat) : Prop := (∃ v0, xg w h0 5 0 = some v0) ∧ ∀ w10, w10 = xp w h0 0 (.int 0) → (∃ n9, wl_MO_rows_9 E post n9 w10 h0 0 0)
set_option maxHeartbeats 4000000 in
set_option maxRecDepth 100000 in
theorem c_MO_rows (l : Launch) (D : va_G) (E : xE_T) (A : Nat → Prop) (post : Int32 → xw_T → Prop) (w : xw_T) (h0 : Nat) (h : wp_MO_rows E post w h0) : Met l yMO_rows (xW yMO_rows cMO_rows 3 (some (.int))) ({ frames := 0, cells := 0, slots := 0, locals := 0 } : Room) (va_Pc [.ref h0] (xP D E A w)) (va_Qi post (xB D A) A) 0 0 A := by
  refine Met.ofW (cc := cMO_rows) (maxL := 3) (ret := (some (.int))) (by decide) rfl ?_
  intro p e s m args below meth c s₁ B hml hv
  obtain ⟨rfl, hw, hK, hE⟩ := hv
  have hx := B.exec
  have hb := B.bytes
  have hr := B.returns
  have hts : ∀ w ∈ xTB, w.before _ s = true := fun w hw => atoms_spec (ws := xW yMO_rows cMO_rows 3 (some (.int))) B.pre w (List.mem_cons_of_mem _ hw)
  have hown : s.vm.findClass RMO = some m.cls := findClass_of_methodNamed B.named
  have hlocks := B.notSynchronized
  have hw : xw_S D vwCl A s.heap w s.heap [] := xw_S0 hw
  have lo_9 : ∀ (n9 : Nat) (w : xw_T) (x0 : Nat) (x1 : Int32) (x2 : Int32) (H : Heap) (locs : List Loc) (ls : Array Slot), lv_has ls 3 [(0, .ref x0), (1, .int x1), (2, .int x2)] → xw_S D vwCl A s.heap w H locs → wl_MO_rows_9 E post n9 w x0 x1 x2 → W p l e (headSpec (xW yMO_rows cMO_rows 3 (some (.int))) ({ frames := 0, cells := 0, slots := 0, locals := 0 } : Room)).room s m ([.ref h0] : List Value).toArray below meth c H locs 0 0 (MQ below (va_Qi post (xB D A) A) ([.ref h0] : List Value).toArray s 0 0 A) (F0 m 9 ls []) := by
    intro n9
    induction n9 with
    | zero => intro w x0 x1 x2 H locs ls hl hw h; exact h.elim
    | succ n9 ih9 =>
      intro w x0 x1 x2 H locs ls hl hw h
      dsimp only [wl_MO_rows_9] at h
      refine lv_iload_n hx hb dMO_rows_9 rfl (lv_at hl 2 rfl) ?_
      refine lv_aload_n hx hb dMO_rows_10 rfl (lv_at hl 0 rfl) ?_
      obtain ⟨v1, hv, h⟩ := h
      refine xw_getI (C := RMO) (T := TMO) (N := 17) (ref := RMO) hx hb hts inMO hown hK hw rfl 14 (by decide) (hts _ mw_323) (fun _ h9 => h9) hv dMO_rows_11 ?_
      refine lv_icmp_ge (tgt := 37) hx hb dMO_rows_14 rfl (fun hc => ?_) (fun hc => ?_)
      · replace h := h.1 hc
        refine lv_iload_n hx hb dMO_rows_37 rfl (lv_at hl 1 rfl) ?_
        refine W.widen (k := 0) (n := 0) (Nat.le_of_ble_eq_true rfl) (Nat.le_of_ble_eq_true rfl) ?_
        exact xw_iret hx hb hr hlocks hw h dMO_rows_38
      · replace h := h.2 hc
        refine lv_iload_n hx hb dMO_rows_17 rfl (lv_at hl 1 rfl) ?_
        refine lv_aload_n hx hb dMO_rows_18 rfl (lv_at hl 0 rfl) ?_
        obtain ⟨v2, hv, h⟩ := h
        refine xw_getR (C := RMO) (T := TMO) (N := 17) (ref := RMO) hx hb hts inMO hown hK hw rfl 11 (by decide) (hts _ mw_277) (fun _ h9 => h9) hv dMO_rows_19 ?_
        refine lv_aload_n hx hb dMO_rows_22 rfl (lv_at hl 0 rfl) ?_
        obtain ⟨v3, hv, h⟩ := h
        refine xw_getR (C := RMO) (T := TMO) (N := 17) (ref := RMO) hx hb hts inMO hown hK hw rfl 15 (by decide) (hts _ mw_272) (fun _ h9 => h9) hv dMO_rows_23 ?_
        refine lv_iload_n hx hb dMO_rows_26 rfl (lv_at hl 2 rfl) ?_
        obtain ⟨a4, rfl, h⟩ := h
        obtain ⟨n5, f6, ha, hin9, h⟩ := h
        refine xw_iald hx hb hK hw 1 rfl ha hin9 dMO_rows_27 ?_
        obtain ⟨a7, rfl, h⟩ := h
        obtain ⟨n8, f9, ha, hin9, h⟩ := h
        refine xw_iald hx hb hK hw 1 rfl ha hin9 dMO_rows_28 ?_
        refine lv_iadd hx hb dMO_rows_29 ?_
        refine lv_istore_n (i := 1) (lv' := [(1, .int (x1 + (f9 (f6 x2.toNatClampNeg).toNatClampNeg))), (0, .ref x0), (2, .int x2)]) hx hb dMO_rows_30 rfl hl (by decide) (by first | rfl | simp [va_rf_cat, xcat_i, xcat_l, xcat_r, xcat_n]) (fun ls hl => ?_)
        refine lv_iinc (k := 2) (v := x2 + 1) (lv' := [(2, .int (x2 + 1)), (1, .int (x1 + (f9 (f6 x2.toNatClampNeg).toNatClampNeg))), (0, .ref x0)]) hx hb dMO_rows_31 hl rfl rfl (by decide) (by first | rfl | simp [va_rf_cat, xcat_i, xcat_l, xcat_r, xcat_n]) (fun ls hl => ?_)
        refine lv_goto (tgt := 9) hx hb dMO_rows_34 rfl ?_
        exact ih9 _ x0 (x1 + (f9 (f6 x2.toNatClampNeg).toNatClampNeg)) (x2 + 1) _ _ _ (lv_sub hl [2, 1, 0] rfl) hw h
  refine xl_start (lvs := [(0, .ref h0)]) (by first | exact Nat.le_of_ble_eq_true rfl | simp [lg_sl, va_rf_cat, xcat_i, xcat_l, xcat_r, xcat_n]) (by first | rfl | simp [lv_args, va_rf_cat, xcat_i, xcat_l, xcat_r, xcat_n]) (fun ls hl => ?_)
  unfold wp_MO_rows at h
  refine lv_aload_n hx hb dMO_rows_0 rfl (lv_at hl 0 rfl) ?_
  refine lv_iconst (v := 0) hx hb dMO_rows_1 (by decide) ?_
  obtain ⟨hv, h⟩ := h
  refine xw_put (ty := (.int)) (C := RMO) (T := TMO) (N := 17) (ref := RMO) hx hb hts inMO tyMO tyMO_ok nmMO hown hK hw rfl 0 (by decide) (hts _ mw_288) (fun _ h9 => h9) rfl (by decide +kernel) rfl rfl hv dMO_rows_2 (fun H locs hw => ?_)
  replace h := h _ rfl
  generalize xp w h0 0 (.int 0) = w10 at hw h
  refine lv_iconst (v := 0) hx hb dMO_rows_5 (by decide) ?_
  refine lv_istore_n (i := 1) (lv' := [(1, .int 0), (0, .ref h0)]) hx hb dMO_rows_6 rfl hl (by decide) (by first | rfl | simp [va_rf_cat, xcat_i, xcat_l, xcat_r, xcat_n]) (fun ls hl => ?_)
  refine lv_iconst (v := 0) hx hb dMO_rows_7 (by decide) ?_
  refine lv_istore_n (i := 2) (lv' := [(2, .int 0), (1, .int 0), (0, .ref h0)]) hx hb dMO_rows_8 rfl hl (by decide) (by first | rfl | simp [va_rf_cat, xcat_i, xcat_l, xcat_r, xcat_n]) (fun ls hl => ?_)
  obtain ⟨n9, h⟩ := h
  refine W.widen (k := 0) (n := 0) (Nat.le_of_ble_eq_true rfl) (Nat.le_of_ble_eq_true rfl) ?_
  exact lo_9 n9 _ h0 0 0 _ _ _ (lv_sub hl [2, 1, 0] rfl) hw h
def wl_MO_all_9 (E : xE_T) (post : Int64 → xw_T → Prop) : Nat → xw_T → Nat → Int64 → Int32 → Prop
  | 0 => fun _ _ _ _ => False
  | n9 + 1 => fun w x0 x1 x3 => ∃ v1, xgI w x0 5 1 = some v1 ∧ ((v1 < x3 → (post x1 w)) ∧ (¬ v1 < x3 → ((∃ fs, w x0 = some (.inr (5, fs))) ∧ wp_MO_balanceOf E (fun r2 w3 => wl_MO_all_9 E post n9 w3 x0 (x1 + r2) (x3 + 1)) w x0 x3 9223372036854775807)))
def wp_MO_all (E : xE_T) (post : Int64 → xw_T → Prop) (w : xw_T) (h0 : Nat) : Prop := (∃ v0, xg w h0 5 0 = some v0) ∧ ∀ w4, w4 = xp w h0 0 (.int 0) → (∃ n9, wl_MO_all_9 E post n9 w4 h0 0 1)
set_option maxHeartbeats 4000000 in
set_option maxRecDepth 100000 in
theorem c_MO_all (l : Launch) (D : va_G) (E : xE_T) (A : Nat → Prop) (post : Int64 → xw_T → Prop) (w : xw_T) (h0 : Nat) (h : wp_MO_all E post w h0) : Met l yMO_all (xW yMO_all cMO_all 4 (some (.long))) ({ frames := 2, cells := 0, slots := 0, locals := 53 } : Room) (va_Pc [.ref h0] (xP D E A w)) (va_Ql post (xB D A) A) 0 0 A := by
  refine Met.ofW (cc := cMO_all) (maxL := 4) (ret := (some (.long))) (by decide) rfl ?_
  intro p e s m args below meth c s₁ B hml hv
  obtain ⟨rfl, hw, hK, hE⟩ := hv
  have hx := B.exec
  have hb := B.bytes
  have hr := B.returns
  have hts : ∀ w ∈ xTB, w.before _ s = true := fun w hw => atoms_spec (ws := xW yMO_all cMO_all 4 (some (.long))) B.pre w (List.mem_cons_of_mem _ hw)
  have hown : s.vm.findClass RMO = some m.cls := findClass_of_methodNamed B.named
  have hlocks := B.notSynchronized
  have hw : xw_S D vwCl A s.heap w s.heap [] := xw_S0 hw
  have lo_9 : ∀ (n9 : Nat) (w : xw_T) (x0 : Nat) (x1 : Int64) (x3 : Int32) (H : Heap) (locs : List Loc) (ls : Array Slot), lv_has ls 4 [(0, .ref x0), (1, .long x1), (3, .int x3)] → xw_S D vwCl A s.heap w H locs → wl_MO_all_9 E post n9 w x0 x1 x3 → W p l e (headSpec (xW yMO_all cMO_all 4 (some (.long))) ({ frames := 2, cells := 0, slots := 0, locals := 53 } : Room)).room s m ([.ref h0] : List Value).toArray below meth c H locs 0 0 (MQ below (va_Ql post (xB D A) A) ([.ref h0] : List Value).toArray s 0 0 A) (F0 m 9 ls []) := by
    intro n9
    induction n9 with
    | zero => intro w x0 x1 x3 H locs ls hl hw h; exact h.elim
    | succ n9 ih9 =>
      intro w x0 x1 x3 H locs ls hl hw h
      dsimp only [wl_MO_all_9] at h
      refine lv_iload_n hx hb dMO_all_9 rfl (lv_at hl 2 rfl) ?_
      refine lv_aload_n hx hb dMO_all_10 rfl (lv_at hl 0 rfl) ?_
      obtain ⟨v1, hv, h⟩ := h
      refine xw_getI (C := RMO) (T := TMO) (N := 17) (ref := RMO) hx hb hts inMO hown hK hw rfl 1 (by decide) (hts _ mw_290) (fun _ h9 => h9) hv dMO_all_11 ?_
      refine lv_icmp_gt (tgt := 34) hx hb dMO_all_14 rfl (fun hc => ?_) (fun hc => ?_)
      · replace h := h.1 hc
        refine lv_lload_n hx hb dMO_all_34 rfl (lv_at hl 1 rfl) ?_
        refine W.widen (k := 0) (n := 0) (Nat.le_of_ble_eq_true rfl) (Nat.le_of_ble_eq_true rfl) ?_
        exact xw_lret hx hb hr hlocks hw h dMO_all_35
      · replace h := h.2 hc
        refine lv_lload_n hx hb dMO_all_17 rfl (lv_at hl 1 rfl) ?_
        refine lv_aload_n hx hb dMO_all_18 rfl (lv_at hl 0 rfl) ?_
        refine lv_iload_n hx hb dMO_all_19 rfl (lv_at hl 2 rfl) ?_
        refine lv_ldc2 (v := 9223372036854775807) hx hb hown (hts _ mw_328) dMO_all_20 ?_
        obtain ⟨⟨fs, hk⟩, h⟩ := h
        have hcall := h
        clear h
        refine xw_calll (va_runV (As := [.int x3, .long 9223372036854775807]) (rest := [.long x1]) ⟨hx, hb, hml, hown, hts⟩ (c_MO_balanceOf l D E A _ w x0 x3 9223372036854775807 hcall) (cwV 2 hts (xG_V mw_324 mw_325 mw_326 mw_294 mw_327) rfl rfl rfl (by decide +kernel) ⟨(Nat.le_of_ble_eq_true rfl), (Nat.le_of_ble_eq_true rfl)⟩) (xw_preV (ci := 5) hw hK hE rfl hk) rfl rfl hl.1 rfl (lv_room (by first | exact Nat.le_of_ble_eq_true rfl | simp [va_rf_cat, xcat_i, xcat_l, xcat_r, xcat_n])) dMO_all_23 ⟨(Nat.le_of_ble_eq_true rfl), (Nat.le_of_ble_eq_true rfl)⟩) hw (fun r2 w3 H locs h hw => ?_)
        clear hcall
        refine lv_ladd hx hb dMO_all_26 ?_
        refine lv_lstore_n (i := 1) (lv' := [(1, .long (x1 + r2)), (0, .ref x0), (3, .int x3)]) hx hb dMO_all_27 rfl hl (by decide) (by first | rfl | simp [va_rf_cat, xcat_i, xcat_l, xcat_r, xcat_n]) (fun ls hl => ?_)
        refine lv_iinc (k := 2) (v := x3 + 1) (lv' := [(3, .int (x3 + 1)), (1, .long (x1 + r2)), (0, .ref x0)]) hx hb dMO_all_28 hl rfl rfl (by decide) (by first | rfl | simp [va_rf_cat, xcat_i, xcat_l, xcat_r, xcat_n]) (fun ls hl => ?_)
        refine lv_goto (tgt := 9) hx hb dMO_all_31 rfl ?_
        exact ih9 _ x0 (x1 + r2) (x3 + 1) _ _ _ (lv_sub hl [2, 1, 0] rfl) hw h
  refine xl_start (lvs := [(0, .ref h0)]) (by first | exact Nat.le_of_ble_eq_true rfl | simp [lg_sl, va_rf_cat, xcat_i, xcat_l, xcat_r, xcat_n]) (by first | rfl | simp [lv_args, va_rf_cat, xcat_i, xcat_l, xcat_r, xcat_n]) (fun ls hl => ?_)
  unfold wp_MO_all at h
  refine lv_aload_n hx hb dMO_all_0 rfl (lv_at hl 0 rfl) ?_
  refine lv_iconst (v := 0) hx hb dMO_all_1 (by decide) ?_
  obtain ⟨hv, h⟩ := h
  refine xw_put (ty := (.int)) (C := RMO) (T := TMO) (N := 17) (ref := RMO) hx hb hts inMO tyMO tyMO_ok nmMO hown hK hw rfl 0 (by decide) (hts _ mw_288) (fun _ h9 => h9) rfl (by decide +kernel) rfl rfl hv dMO_all_2 (fun H locs hw => ?_)
  replace h := h _ rfl
  generalize xp w h0 0 (.int 0) = w4 at hw h
  refine lv_lconst (v := 0) hx hb dMO_all_5 (by decide) ?_
  refine lv_lstore_n (i := 1) (lv' := [(1, .long 0), (0, .ref h0)]) hx hb dMO_all_6 rfl hl (by decide) (by first | rfl | simp [va_rf_cat, xcat_i, xcat_l, xcat_r, xcat_n]) (fun ls hl => ?_)
  refine lv_iconst (v := 1) hx hb dMO_all_7 (by decide) ?_
  refine lv_istore_n (i := 3) (lv' := [(3, .int 1), (1, .long 0), (0, .ref h0)]) hx hb dMO_all_8 rfl hl (by decide) (by first | rfl | simp [va_rf_cat, xcat_i, xcat_l, xcat_r, xcat_n]) (fun ls hl => ?_)
  obtain ⟨n9, h⟩ := h
  refine W.widen (k := 0) (n := 0) (Nat.le_of_ble_eq_true rfl) (Nat.le_of_ble_eq_true rfl) ?_
  exact lo_9 n9 _ h0 0 1 _ _ _ (lv_sub hl [2, 1, 0] rfl) hw h
