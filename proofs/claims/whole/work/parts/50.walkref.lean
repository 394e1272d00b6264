/-! meanings and walks: REF 0 -/
def wp_MO_init (E : xE_T) (post : xw_T → Prop) (w : xw_T) (h0 : Nat) : Prop := ∀ q1 : Nat, (w q1 = none ∧ q1 ≠ E.2 6) → ∀ w2, w2 = va_up w q1 (some (xcI (E.1 1) 61 (fun _ => 0))) → ((∃ v0, xg w2 h0 5 2 = some v0) ∧ ∀ w3, w3 = xp w2 h0 2 (.ref q1) → (∀ q4 : Nat, (w3 q4 = none ∧ q4 ≠ E.2 6) → ∀ w5, w5 = va_up w3 q4 (some (xcI (E.1 1) 61 (fun _ => 0))) → ((∃ v0, xg w5 h0 5 3 = some v0) ∧ ∀ w6, w6 = xp w5 h0 3 (.ref q4) → (∀ q7 : Nat, (w6 q7 = none ∧ q7 ≠ E.2 6) → ∀ w8, w8 = va_up w6 q7 (some (xcL (E.1 2) 61 (fun _ => 0))) → ((∃ v0, xg w8 h0 5 4 = some v0) ∧ ∀ w9, w9 = xp w8 h0 4 (.ref q7) → (∀ q10 : Nat, (w9 q10 = none ∧ q10 ≠ E.2 6) → ∀ w11, w11 = va_up w9 q10 (some (xcI (E.1 1) 301 (fun _ => 0))) → ((∃ v0, xg w11 h0 5 6 = some v0) ∧ ∀ w12, w12 = xp w11 h0 6 (.ref q10) → (∀ q13 : Nat, (w12 q13 = none ∧ q13 ≠ E.2 6) → ∀ w14, w14 = va_up w12 q13 (some (xcL (E.1 2) 301 (fun _ => 0))) → ((∃ v0, xg w14 h0 5 7 = some v0) ∧ ∀ w15, w15 = xp w14 h0 7 (.ref q13) → (∀ q16 : Nat, (w15 q16 = none ∧ q16 ≠ E.2 6) → ∀ w17, w17 = va_up w15 q16 (some (xcI (E.1 3) 301 (fun _ => 0))) → ((∃ v0, xg w17 h0 5 8 = some v0) ∧ ∀ w18, w18 = xp w17 h0 8 (.ref q16) → (∀ q19 : Nat, (w18 q19 = none ∧ q19 ≠ E.2 6) → ∀ w20, w20 = va_up w18 q19 (some (xcI (E.1 3) 301 (fun _ => 0))) → ((∃ v0, xg w20 h0 5 9 = some v0) ∧ ∀ w21, w21 = xp w20 h0 9 (.ref q19) → (∀ q22 : Nat, (w21 q22 = none ∧ q22 ≠ E.2 6) → ∀ w23, w23 = va_up w21 q22 (some (xcI (E.1 3) 301 (fun _ => 0))) → ((∃ v0, xg w23 h0 5 10 = some v0) ∧ ∀ w24, w24 = xp w23 h0 10 (.ref q22) → (∀ q25 : Nat, (w24 q25 = none ∧ q25 ≠ E.2 6) → ∀ w26, w26 = va_up w24 q25 (some (xcI (E.1 1) 301 (fun _ => 0))) → ((∃ v0, xg w26 h0 5 11 = some v0) ∧ ∀ w27, w27 = xp w26 h0 11 (.ref q25) → (∀ q28 : Nat, (w27 q28 = none ∧ q28 ≠ E.2 6) → ∀ w29, w29 = va_up w27 q28 (some (xcI (E.1 1) 3612 (fun _ => 0))) → ((∃ v0, xg w29 h0 5 12 = some v0) ∧ ∀ w30, w30 = xp w29 h0 12 (.ref q28) → (∀ q31 : Nat, (w30 q31 = none ∧ q31 ≠ E.2 6) → ∀ w32, w32 = va_up w30 q31 (some (xcL (E.1 2) 3612 (fun _ => 0))) → ((∃ v0, xg w32 h0 5 13 = some v0) ∧ ∀ w33, w33 = xp w32 h0 13 (.ref q31) → (∀ q34 : Nat, (w33 q34 = none ∧ q34 ≠ E.2 6) → ∀ w35, w35 = va_up w33 q34 (some (xcI (E.1 1) 300 (fun _ => 0))) → ((∃ v0, xg w35 h0 5 15 = some v0) ∧ ∀ w36, w36 = xp w35 h0 15 (.ref q34) → ((∃ v0, xg w36 h0 5 16 = some v0) ∧ ∀ w37, w37 = xp w36 h0 16 (.long (-1)) → ((∃ v0, xg w37 h0 5 16 = some v0) ∧ ∀ w38, w38 = xp w37 h0 16 (.long (-1)) → (post w38))))))))))))))))))))))))))
set_option maxHeartbeats 4000000 in
set_option maxRecDepth 100000 in
theorem c_MO_init (l : Launch) (D : va_G) (E : xE_T) (A : Nat → Prop) (post : xw_T → Prop) (w : xw_T) (h0 : Nat) (h : wp_MO_init E post w h0) : Met l yMO_init (xW yMO_init cMO_init 1 none) ({ frames := 1, cells := 12, slots := 9513, locals := 12 } : Room) (va_Pc [.ref h0] (xP D E A w)) (va_Qv post (xB D A) A) 12 9513 A := by
  refine Met.ofW (cc := cMO_init) (maxL := 1) (ret := none) (by decide) rfl ?_
  intro p e s m args below meth c s₁ B hml hv
  obtain ⟨rfl, hw, hK, hE⟩ := hv
  have hx := B.exec
  have hb := B.bytes
  have hr := B.returns
  have hts : ∀ w ∈ xTB, w.before _ s = true := fun w hw => atoms_spec (ws := xW yMO_init cMO_init 1 none) B.pre w (List.mem_cons_of_mem _ hw)
  have hown : s.vm.findClass RMO = some m.cls := findClass_of_methodNamed B.named
  have hlocks := B.notSynchronized
  have hin : meth.name = "<init>" := (name_of_methodNamed B.named B.method).1
  have hw : xw_S D vwCl A s.heap w s.heap [] := xw_S0 hw
  refine xl_start (lvs := [(0, .ref h0)]) (by first | exact Nat.le_of_ble_eq_true rfl | simp [lg_sl, va_rf_cat, xcat_i, xcat_l, xcat_r, xcat_n]) (by first | rfl | simp [lv_args, va_rf_cat, xcat_i, xcat_l, xcat_r, xcat_n]) (fun ls hl => ?_)
  unfold wp_MO_init at h
  refine lv_aload_n hx hb dMO_init_0 rfl (lv_at hl 0 rfl) ?_
  refine W.objInit hx hb hown (hts _ mw_287) (hts _ mw_1) (hts _ mw_2) rfl (by rw [hml]; exact hl.1) rfl dMO_init_1 (Nat.le_of_ble_eq_true rfl) (Nat.le_of_ble_eq_true rfl) ?_
  refine lv_aload_n hx hb dMO_init_4 rfl (lv_at hl 0 rfl) ?_
  refine lv_bipush (v := 61) hx hb dMO_init_5 (by decide) ?_
  refine xw_newi (N' := 61) hx hb (hts _ mw_273) hK hw (by decide) (by decide) (by decide) (Nat.le_of_ble_eq_true rfl) (Nat.le_of_ble_eq_true rfl) dMO_init_7 (fun q1 H hq hqA hw => ?_)
  replace h := h _ ⟨hq, xq6 hE hqA⟩ _ rfl
  generalize va_up w q1 (some (xcI (E.1 1) 61 (fun _ => 0))) = w2 at hw h
  obtain ⟨hv, h⟩ := h
  refine xw_putF (ty := (.array .int)) (C := RMO) (T := TMO) (N := 17) (ref := RMO) hx hb hts inMO tyMO tyMO_ok nmMO hown hK hw rfl 2 (by decide) (hts _ mw_286) (fun _ h9 => h9) rfl hin rfl (by decide +kernel) rfl rfl hv dMO_init_9 (fun H locs hw => ?_)
  replace h := h _ rfl
  generalize xp w2 h0 2 (.ref q1) = w3 at hw h
  refine lv_aload_n hx hb dMO_init_12 rfl (lv_at hl 0 rfl) ?_
  refine lv_bipush (v := 61) hx hb dMO_init_13 (by decide) ?_
  refine xw_newi (N' := 61) hx hb (hts _ mw_273) hK hw (by decide) (by decide) (by decide) (Nat.le_of_ble_eq_true rfl) (Nat.le_of_ble_eq_true rfl) dMO_init_15 (fun q4 H hq hqA hw => ?_)
  replace h := h _ ⟨hq, xq6 hE hqA⟩ _ rfl
  generalize va_up w3 q4 (some (xcI (E.1 1) 61 (fun _ => 0))) = w5 at hw h
  obtain ⟨hv, h⟩ := h
  refine xw_putF (ty := (.array .int)) (C := RMO) (T := TMO) (N := 17) (ref := RMO) hx hb hts inMO tyMO tyMO_ok nmMO hown hK hw rfl 3 (by decide) (hts _ mw_285) (fun _ h9 => h9) rfl hin rfl (by decide +kernel) rfl rfl hv dMO_init_17 (fun H locs hw => ?_)
  replace h := h _ rfl
  generalize xp w5 h0 3 (.ref q4) = w6 at hw h
  refine lv_aload_n hx hb dMO_init_20 rfl (lv_at hl 0 rfl) ?_
  refine lv_bipush (v := 61) hx hb dMO_init_21 (by decide) ?_
  refine xw_newl (N' := 61) hx hb (hts _ mw_275) hK hw (by decide) (by decide) (by decide) (Nat.le_of_ble_eq_true rfl) (Nat.le_of_ble_eq_true rfl) dMO_init_23 (fun q7 H hq hqA hw => ?_)
  replace h := h _ ⟨hq, xq6 hE hqA⟩ _ rfl
  generalize va_up w6 q7 (some (xcL (E.1 2) 61 (fun _ => 0))) = w8 at hw h
  obtain ⟨hv, h⟩ := h
  refine xw_putF (ty := (.array .long)) (C := RMO) (T := TMO) (N := 17) (ref := RMO) hx hb hts inMO tyMO tyMO_ok nmMO hown hK hw rfl 4 (by decide) (hts _ mw_284) (fun _ h9 => h9) rfl hin rfl (by decide +kernel) rfl rfl hv dMO_init_25 (fun H locs hw => ?_)
  replace h := h _ rfl
  generalize xp w8 h0 4 (.ref q7) = w9 at hw h
  refine lv_aload_n hx hb dMO_init_28 rfl (lv_at hl 0 rfl) ?_
  refine lv_sipush (v := 301) hx hb dMO_init_29 (by decide) ?_
  refine xw_newi (N' := 301) hx hb (hts _ mw_273) hK hw (by decide) (by decide) (by decide) (Nat.le_of_ble_eq_true rfl) (Nat.le_of_ble_eq_true rfl) dMO_init_32 (fun q10 H hq hqA hw => ?_)
  replace h := h _ ⟨hq, xq6 hE hqA⟩ _ rfl
  generalize va_up w9 q10 (some (xcI (E.1 1) 301 (fun _ => 0))) = w11 at hw h
  obtain ⟨hv, h⟩ := h
  refine xw_putF (ty := (.array .int)) (C := RMO) (T := TMO) (N := 17) (ref := RMO) hx hb hts inMO tyMO tyMO_ok nmMO hown hK hw rfl 6 (by decide) (hts _ mw_283) (fun _ h9 => h9) rfl hin rfl (by decide +kernel) rfl rfl hv dMO_init_34 (fun H locs hw => ?_)
  replace h := h _ rfl
  generalize xp w11 h0 6 (.ref q10) = w12 at hw h
  refine lv_aload_n hx hb dMO_init_37 rfl (lv_at hl 0 rfl) ?_
  refine lv_sipush (v := 301) hx hb dMO_init_38 (by decide) ?_
  refine xw_newl (N' := 301) hx hb (hts _ mw_275) hK hw (by decide) (by decide) (by decide) (Nat.le_of_ble_eq_true rfl) (Nat.le_of_ble_eq_true rfl) dMO_init_41 (fun q13 H hq hqA hw => ?_)
  replace h := h _ ⟨hq, xq6 hE hqA⟩ _ rfl
  generalize va_up w12 q13 (some (xcL (E.1 2) 301 (fun _ => 0))) = w14 at hw h
  obtain ⟨hv, h⟩ := h
  refine xw_putF (ty := (.array .long)) (C := RMO) (T := TMO) (N := 17) (ref := RMO) hx hb hts inMO tyMO tyMO_ok nmMO hown hK hw rfl 7 (by decide) (hts _ mw_282) (fun _ h9 => h9) rfl hin rfl (by decide +kernel) rfl rfl hv dMO_init_43 (fun H locs hw => ?_)
  replace h := h _ rfl
  generalize xp w14 h0 7 (.ref q13) = w15 at hw h
  refine lv_aload_n hx hb dMO_init_46 rfl (lv_at hl 0 rfl) ?_
  refine lv_sipush (v := 301) hx hb dMO_init_47 (by decide) ?_
  refine xw_newz (N' := 301) hx hb (hts _ mw_279) hK hw (by decide) (by decide) (by decide) (Nat.le_of_ble_eq_true rfl) (Nat.le_of_ble_eq_true rfl) dMO_init_50 (fun q16 H hq hqA hw => ?_)
  replace h := h _ ⟨hq, xq6 hE hqA⟩ _ rfl
  generalize va_up w15 q16 (some (xcI (E.1 3) 301 (fun _ => 0))) = w17 at hw h
  obtain ⟨hv, h⟩ := h
  refine xw_putF (ty := (.array .boolean)) (C := RMO) (T := TMO) (N := 17) (ref := RMO) hx hb hts inMO tyMO tyMO_ok nmMO hown hK hw rfl 8 (by decide) (hts _ mw_281) (fun _ h9 => h9) rfl hin rfl (by decide +kernel) rfl rfl hv dMO_init_52 (fun H locs hw => ?_)
  replace h := h _ rfl
  generalize xp w17 h0 8 (.ref q16) = w18 at hw h
  refine lv_aload_n hx hb dMO_init_55 rfl (lv_at hl 0 rfl) ?_
  refine lv_sipush (v := 301) hx hb dMO_init_56 (by decide) ?_
  refine xw_newz (N' := 301) hx hb (hts _ mw_279) hK hw (by decide) (by decide) (by decide) (Nat.le_of_ble_eq_true rfl) (Nat.le_of_ble_eq_true rfl) dMO_init_59 (fun q19 H hq hqA hw => ?_)
  replace h := h _ ⟨hq, xq6 hE hqA⟩ _ rfl
  generalize va_up w18 q19 (some (xcI (E.1 3) 301 (fun _ => 0))) = w20 at hw h
  obtain ⟨hv, h⟩ := h
  refine xw_putF (ty := (.array .boolean)) (C := RMO) (T := TMO) (N := 17) (ref := RMO) hx hb hts inMO tyMO tyMO_ok nmMO hown hK hw rfl 9 (by decide) (hts _ mw_280) (fun _ h9 => h9) rfl hin rfl (by decide +kernel) rfl rfl hv dMO_init_61 (fun H locs hw => ?_)
  replace h := h _ rfl
  generalize xp w20 h0 9 (.ref q19) = w21 at hw h
  refine lv_aload_n hx hb dMO_init_64 rfl (lv_at hl 0 rfl) ?_
  refine lv_sipush (v := 301) hx hb dMO_init_65 (by decide) ?_
  refine xw_newz (N' := 301) hx hb (hts _ mw_279) hK hw (by decide) (by decide) (by decide) (Nat.le_of_ble_eq_true rfl) (Nat.le_of_ble_eq_true rfl) dMO_init_68 (fun q22 H hq hqA hw => ?_)
  replace h := h _ ⟨hq, xq6 hE hqA⟩ _ rfl
  generalize va_up w21 q22 (some (xcI (E.1 3) 301 (fun _ => 0))) = w23 at hw h
  obtain ⟨hv, h⟩ := h
  refine xw_putF (ty := (.array .boolean)) (C := RMO) (T := TMO) (N := 17) (ref := RMO) hx hb hts inMO tyMO tyMO_ok nmMO hown hK hw rfl 10 (by decide) (hts _ mw_278) (fun _ h9 => h9) rfl hin rfl (by decide +kernel) rfl rfl hv dMO_init_70 (fun H locs hw => ?_)
  replace h := h _ rfl
  generalize xp w23 h0 10 (.ref q22) = w24 at hw h
  refine lv_aload_n hx hb dMO_init_73 rfl (lv_at hl 0 rfl) ?_
  refine lv_sipush (v := 301) hx hb dMO_init_74 (by decide) ?_
  refine xw_newi (N' := 301) hx hb (hts _ mw_273) hK hw (by decide) (by decide) (by decide) (Nat.le_of_ble_eq_true rfl) (Nat.le_of_ble_eq_true rfl) dMO_init_77 (fun q25 H hq hqA hw => ?_)
  replace h := h _ ⟨hq, xq6 hE hqA⟩ _ rfl
  generalize va_up w24 q25 (some (xcI (E.1 1) 301 (fun _ => 0))) = w26 at hw h
  obtain ⟨hv, h⟩ := h
  refine xw_putF (ty := (.array .int)) (C := RMO) (T := TMO) (N := 17) (ref := RMO) hx hb hts inMO tyMO tyMO_ok nmMO hown hK hw rfl 11 (by decide) (hts _ mw_277) (fun _ h9 => h9) rfl hin rfl (by decide +kernel) rfl rfl hv dMO_init_79 (fun H locs hw => ?_)
  replace h := h _ rfl
  generalize xp w26 h0 11 (.ref q25) = w27 at hw h
  refine lv_aload_n hx hb dMO_init_82 rfl (lv_at hl 0 rfl) ?_
  refine lv_sipush (v := 3612) hx hb dMO_init_83 (by decide) ?_
  refine xw_newi (N' := 3612) hx hb (hts _ mw_273) hK hw (by decide) (by decide) (by decide) (Nat.le_of_ble_eq_true rfl) (Nat.le_of_ble_eq_true rfl) dMO_init_86 (fun q28 H hq hqA hw => ?_)
  replace h := h _ ⟨hq, xq6 hE hqA⟩ _ rfl
  generalize va_up w27 q28 (some (xcI (E.1 1) 3612 (fun _ => 0))) = w29 at hw h
  obtain ⟨hv, h⟩ := h
  refine xw_putF (ty := (.array .int)) (C := RMO) (T := TMO) (N := 17) (ref := RMO) hx hb hts inMO tyMO tyMO_ok nmMO hown hK hw rfl 12 (by decide) (hts _ mw_276) (fun _ h9 => h9) rfl hin rfl (by decide +kernel) rfl rfl hv dMO_init_88 (fun H locs hw => ?_)
  replace h := h _ rfl
  generalize xp w29 h0 12 (.ref q28) = w30 at hw h
  refine lv_aload_n hx hb dMO_init_91 rfl (lv_at hl 0 rfl) ?_
  refine lv_sipush (v := 3612) hx hb dMO_init_92 (by decide) ?_
  refine xw_newl (N' := 3612) hx hb (hts _ mw_275) hK hw (by decide) (by decide) (by decide) (Nat.le_of_ble_eq_true rfl) (Nat.le_of_ble_eq_true rfl) dMO_init_95 (fun q31 H hq hqA hw => ?_)
  replace h := h _ ⟨hq, xq6 hE hqA⟩ _ rfl
  generalize va_up w30 q31 (some (xcL (E.1 2) 3612 (fun _ => 0))) = w32 at hw h
  obtain ⟨hv, h⟩ := h
  refine xw_putF (ty := (.array .long)) (C := RMO) (T := TMO) (N := 17) (ref := RMO) hx hb hts inMO tyMO tyMO_ok nmMO hown hK hw rfl 13 (by decide) (hts _ mw_274) (fun _ h9 => h9) rfl hin rfl (by decide +kernel) rfl rfl hv dMO_init_97 (fun H locs hw => ?_)
  replace h := h _ rfl
  generalize xp w32 h0 13 (.ref q31) = w33 at hw h
  refine lv_aload_n hx hb dMO_init_100 rfl (lv_at hl 0 rfl) ?_
  refine lv_sipush (v := 300) hx hb dMO_init_101 (by decide) ?_
  refine xw_newi (N' := 300) hx hb (hts _ mw_273) hK hw (by decide) (by decide) (by decide) (Nat.le_of_ble_eq_true rfl) (Nat.le_of_ble_eq_true rfl) dMO_init_104 (fun q34 H hq hqA hw => ?_)
  replace h := h _ ⟨hq, xq6 hE hqA⟩ _ rfl
  generalize va_up w33 q34 (some (xcI (E.1 1) 300 (fun _ => 0))) = w35 at hw h
  obtain ⟨hv, h⟩ := h
  refine xw_putF (ty := (.array .int)) (C := RMO) (T := TMO) (N := 17) (ref := RMO) hx hb hts inMO tyMO tyMO_ok nmMO hown hK hw rfl 15 (by decide) (hts _ mw_272) (fun _ h9 => h9) rfl hin rfl (by decide +kernel) rfl rfl hv dMO_init_106 (fun H locs hw => ?_)
  replace h := h _ rfl
  generalize xp w35 h0 15 (.ref q34) = w36 at hw h
  refine lv_aload_n hx hb dMO_init_109 rfl (lv_at hl 0 rfl) ?_
  refine lv_ldc2 (v := (-1)) hx hb hown (hts _ mw_271) dMO_init_110 ?_
  obtain ⟨hv, h⟩ := h
  refine xw_put (ty := (.long)) (C := RMO) (T := TMO) (N := 17) (ref := RMO) hx hb hts inMO tyMO tyMO_ok nmMO hown hK hw rfl 16 (by decide) (hts _ mw_270) (fun _ h9 => h9) rfl (by decide +kernel) rfl rfl hv dMO_init_113 (fun H locs hw => ?_)
  replace h := h _ rfl
  generalize xp w36 h0 16 (.long (-1)) = w37 at hw h
  refine lv_aload_n hx hb dMO_init_116 rfl (lv_at hl 0 rfl) ?_
  refine lv_ldc2 (v := (-1)) hx hb hown (hts _ mw_271) dMO_init_117 ?_
  obtain ⟨hv, h⟩ := h
  refine xw_put (ty := (.long)) (C := RMO) (T := TMO) (N := 17) (ref := RMO) hx hb hts inMO tyMO tyMO_ok nmMO hown hK hw rfl 16 (by decide) (hts _ mw_270) (fun _ h9 => h9) rfl (by decide +kernel) rfl rfl hv dMO_init_120 (fun H locs hw => ?_)
  replace h := h _ rfl
  generalize xp w37 h0 16 (.long (-1)) = w38 at hw h
  refine W.widen (k := 12) (n := 9513) (Nat.le_of_ble_eq_true rfl) (Nat.le_of_ble_eq_true rfl) ?_
  exact xw_vret hx hb hr hlocks hw h dMO_init_123
def wp_MO_thrown (E : xE_T) (post : Int32 → xw_T → Prop) (w : xw_T) (h0 : Nat) : Prop := ∃ v1, xgI w h0 5 0 = some v1 ∧ (post v1 w)
set_option maxHeartbeats 4000000 in
set_option maxRecDepth 100000 in
theorem c_MO_thrown (l : Launch) (D : va_G) (E : xE_T) (A : Nat → Prop) (post : Int32 → xw_T → Prop) (w : xw_T) (h0 : Nat) (h : wp_MO_thrown E post w h0) : Met l yMO_thrown (xW yMO_thrown cMO_thrown 1 (some (.int))) ({ frames := 0, cells := 0, slots := 0, locals := 0 } : Room) (va_Pc [.ref h0] (xP D E A w)) (va_Qi post (xB D A) A) 0 0 A := by
  refine Met.ofW (cc := cMO_thrown) (maxL := 1) (ret := (some (.int))) (by decide) rfl ?_
  intro p e s m args below meth c s₁ B hml hv
  obtain ⟨rfl, hw, hK, hE⟩ := hv
  have hx := B.exec
  have hb := B.bytes
  have hr := B.returns
  have hts : ∀ w ∈ xTB, w.before _ s = true := fun w hw => atoms_spec (ws := xW yMO_thrown cMO_thrown 1 (some (.int))) B.pre w (List.mem_cons_of_mem _ hw)
  have hown : s.vm.findClass RMO = some m.cls := findClass_of_methodNamed B.named
  have hlocks := B.notSynchronized
  have hw : xw_S D vwCl A s.heap w s.heap [] := xw_S0 hw
  refine xl_start (lvs := [(0, .ref h0)]) (by first | exact Nat.le_of_ble_eq_true rfl | simp [lg_sl, va_rf_cat, xcat_i, xcat_l, xcat_r, xcat_n]) (by first | rfl | simp [lv_args, va_rf_cat, xcat_i, xcat_l, xcat_r, xcat_n]) (fun ls hl => ?_)
  unfold wp_MO_thrown at h
  refine lv_aload_n hx hb dMO_thrown_0 rfl (lv_at hl 0 rfl) ?_
  obtain ⟨v1, hv, h⟩ := h
  refine xw_getI (C := RMO) (T := TMO) (N := 17) (ref := RMO) hx hb hts inMO hown hK hw rfl 0 (by decide) (hts _ mw_288) (fun _ h9 => h9) hv dMO_thrown_1 ?_
  refine W.widen (k := 0) (n := 0) (Nat.le_of_ble_eq_true rfl) (Nat.le_of_ble_eq_true rfl) ?_
  exact xw_iret hx hb hr hlocks hw h dMO_thrown_4
def wp_MO_isIn (E : xE_T) (post : Int32 → xw_T → Prop) (w : xw_T) (p0 : Int64) (p1 : Int64) (p2 : Int64) : Prop := (p0 < p1 → (post 0 w)) ∧ (¬ p0 < p1 → ((p2 < p0 → (post 0 w)) ∧ (¬ p2 < p0 → (post 1 w))))
set_option maxHeartbeats 4000000 in
set_option maxRecDepth 100000 in
theorem c_MO_isIn (l : Launch) (D : va_G) (E : xE_T) (A : Nat → Prop) (post : Int32 → xw_T → Prop) (w : xw_T) (p0 : Int64) (p1 : Int64) (p2 : Int64) (h : wp_MO_isIn E post w p0 p1 p2) : Met l yMO_isIn (xW yMO_isIn cMO_isIn 6 (some (.boolean))) ({ frames := 0, cells := 0, slots := 0, locals := 0 } : Room) (va_Pc [.long p0, .long p1, .long p2] (xP D E A w)) (va_Qi post (xB D A) A) 0 0 A := by
  refine Met.ofW (cc := cMO_isIn) (maxL := 6) (ret := (some (.boolean))) (by decide) rfl ?_
  intro p e s m args below meth c s₁ B hml hv
  obtain ⟨rfl, hw, hK, hE⟩ := hv
  have hx := B.exec
  have hb := B.bytes
  have hr := B.returns
  have hts : ∀ w ∈ xTB, w.before _ s = true := fun w hw => atoms_spec (ws := xW yMO_isIn cMO_isIn 6 (some (.boolean))) B.pre w (List.mem_cons_of_mem _ hw)
  have hown : s.vm.findClass RMO = some m.cls := findClass_of_methodNamed B.named
  have hlocks := B.notSynchronized
  have hw : xw_S D vwCl A s.heap w s.heap [] := xw_S0 hw
  refine xl_start (lvs := [(0, .long p0), (2, .long p1), (4, .long p2)]) (by first | exact Nat.le_of_ble_eq_true rfl | simp [lg_sl, va_rf_cat, xcat_i, xcat_l, xcat_r, xcat_n]) (by first | rfl | simp [lv_args, va_rf_cat, xcat_i, xcat_l, xcat_r, xcat_n]) (fun ls hl => ?_)
  unfold wp_MO_isIn at h
  refine lv_lload_n hx hb dMO_isIn_0 rfl (lv_at hl 0 rfl) ?_
  refine lv_lload_n hx hb dMO_isIn_1 rfl (lv_at hl 1 rfl) ?_
  refine xl_lc_lt (tgt := 17) hx hb dMO_isIn_2 dMO_isIn_3 rfl (fun hc => ?_) (fun hc => ?_)
  · replace h := h.1 hc
    refine lv_iconst (v := 0) hx hb dMO_isIn_17 (by decide) ?_
    refine W.widen (k := 0) (n := 0) (Nat.le_of_ble_eq_true rfl) (Nat.le_of_ble_eq_true rfl) ?_
    exact xw_zret (by decide) hx hb hr hlocks hw h dMO_isIn_18
  · replace h := h.2 hc
    refine lv_lload_n hx hb dMO_isIn_6 rfl (lv_at hl 0 rfl) ?_
    refine lv_lload hx hb dMO_isIn_7 (lv_at hl 2 rfl) ?_
    refine xl_lc_gt (tgt := 17) hx hb dMO_isIn_9 dMO_isIn_10 rfl (fun hc => ?_) (fun hc => ?_)
    · replace h := h.1 hc
      refine lv_iconst (v := 0) hx hb dMO_isIn_17 (by decide) ?_
      refine W.widen (k := 0) (n := 0) (Nat.le_of_ble_eq_true rfl) (Nat.le_of_ble_eq_true rfl) ?_
      exact xw_zret (by decide) hx hb hr hlocks hw h dMO_isIn_18
    · replace h := h.2 hc
      refine lv_iconst (v := 1) hx hb dMO_isIn_13 (by decide) ?_
      refine lv_goto (tgt := 18) hx hb dMO_isIn_14 rfl ?_
      refine W.widen (k := 0) (n := 0) (Nat.le_of_ble_eq_true rfl) (Nat.le_of_ble_eq_true rfl) ?_
      exact xw_zret (by decide) hx hb hr hlocks hw h dMO_isIn_18
def wp_MO_account (E : xE_T) (post : Int32 → xw_T → Prop) (w : xw_T) (h0 : Nat) (p0 : Int32) (p1 : Int32) : Prop := (∃ v0, xg w h0 5 0 = some v0) ∧ ∀ w1, w1 = xp w h0 0 (.int 0) → (wp_MO_isIn E (fun r2 w3 => (r2 = 0 → (post (-2000000002) w3)) ∧ (¬ r2 = 0 → (wp_MO_isIn E (fun r4 w5 => (¬ r4 = 0 → (∃ v6, xgI w5 h0 5 1 = some v6 ∧ ((¬ v6 = 60 → (∃ v7, xgI w5 h0 5 1 = some v7 ∧ ((∃ v0, xg w5 h0 5 1 = some v0) ∧ ∀ w8, w8 = xp w5 h0 1 (.int (v7 + 1)) → (∃ v9, xgR w8 h0 5 2 = some v9 ∧ (∃ v10, xgI w8 h0 5 1 = some v10 ∧ (∃ a11 : Nat, v9 = some a11 ∧ (∃ n12 f13, xaI w8 a11 (E.1 1) = some (n12, f13) ∧ vp_in v10 n12 ∧ ∀ w14, w14 = va_up w8 a11 (some (xcI (E.1 1) n12 (upd f13 v10.toNatClampNeg p0))) → (∃ v15, xgR w14 h0 5 3 = some v15 ∧ (∃ v16, xgI w14 h0 5 1 = some v16 ∧ (∃ a17 : Nat, v15 = some a17 ∧ (∃ n18 f19, xaI w14 a17 (E.1 1) = some (n18, f19) ∧ vp_in v16 n18 ∧ ∀ w20, w20 = va_up w14 a17 (some (xcI (E.1 1) n18 (upd f19 v16.toNatClampNeg p1))) → (∃ v21, xgI w20 h0 5 1 = some v21 ∧ (post v21 w20))))))))))))) ∧ (v6 = 60 → (post (-2000000004) w5))))) ∧ (r4 = 0 → (post (-2000000002) w5))) w3 p1.toInt64 0 5))) w1 p0.toInt64 0 9)
set_option maxHeartbeats 4000000 in
set_option maxRecDepth 100000 in
theorem c_MO_account (l : Launch) (D : va_G) (E : xE_T) (A : Nat → Prop) (post : Int32 → xw_T → Prop) (w : xw_T) (h0 : Nat) (p0 : Int32) (p1 : Int32) (h : wp_MO_account E post w h0 p0 p1) : Met l yMO_account (xW yMO_account cMO_account 3 (some (.int))) ({ frames := 1, cells := 0, slots := 0, locals := 25 } : Room) (va_Pc [.ref h0, .int p0, .int p1] (xP D E A w)) (va_Qi post (xB D A) A) 0 0 A := by
  refine Met.ofW (cc := cMO_account) (maxL := 3) (ret := (some (.int))) (by decide) rfl ?_
  intro p e s m args below meth c s₁ B hml hv
  obtain ⟨rfl, hw, hK, hE⟩ := hv
  have hx := B.exec
  have hb := B.bytes
  have hr := B.returns
  have hts : ∀ w ∈ xTB, w.before _ s = true := fun w hw => atoms_spec (ws := xW yMO_account cMO_account 3 (some (.int))) B.pre w (List.mem_cons_of_mem _ hw)
  have hown : s.vm.findClass RMO = some m.cls := findClass_of_methodNamed B.named
  have hlocks := B.notSynchronized
  have hw : xw_S D vwCl A s.heap w s.heap [] := xw_S0 hw
  refine xl_start (lvs := [(0, .ref h0), (1, .int p0), (2, .int p1)]) (by first | exact Nat.le_of_ble_eq_true rfl | simp [lg_sl, va_rf_cat, xcat_i, xcat_l, xcat_r, xcat_n]) (by first | rfl | simp [lv_args, va_rf_cat, xcat_i, xcat_l, xcat_r, xcat_n]) (fun ls hl => ?_)
  unfold wp_MO_account at h
  refine lv_aload_n hx hb dMO_account_0 rfl (lv_at hl 0 rfl) ?_
  refine lv_iconst (v := 0) hx hb dMO_account_1 (by decide) ?_
  obtain ⟨hv, h⟩ := h
  refine xw_put (ty := (.int)) (C := RMO) (T := TMO) (N := 17) (ref := RMO) hx hb hts inMO tyMO tyMO_ok nmMO hown hK hw rfl 0 (by decide) (hts _ mw_288) (fun _ h9 => h9) rfl (by decide +kernel) rfl rfl hv dMO_account_2 (fun H locs hw => ?_)
  replace h := h _ rfl
  generalize xp w h0 0 (.int 0) = w1 at hw h
  refine lv_iload_n hx hb dMO_account_5 rfl (lv_at hl 1 rfl) ?_
  refine lv_i2l hx hb dMO_account_6 rfl ?_
  refine lv_lconst (v := 0) hx hb dMO_account_7 (by decide) ?_
  refine lv_ldc2 (v := 9) hx hb hown (hts _ mw_297) dMO_account_8 ?_
  have hcall := h
  clear h
  refine xw_calli (va_runS (As := [.long p0.toInt64, .long 0, .long 9]) (rest := []) ⟨hx, hb, hml, hown, hts⟩ (c_MO_isIn l D E A _ w1 p0.toInt64 0 9 hcall) (va_cwS 3 hts (xG_S mw_292 mw_293 mw_294 mw_295) rfl rfl rfl (by decide +kernel) ⟨(Nat.le_of_ble_eq_true rfl), (Nat.le_of_ble_eq_true rfl)⟩) (xw_preS hw hK hE) rfl rfl hl.1 rfl (lv_room (by first | exact Nat.le_of_ble_eq_true rfl | simp [va_rf_cat, xcat_i, xcat_l, xcat_r, xcat_n])) dMO_account_11 ⟨(Nat.le_of_ble_eq_true rfl), (Nat.le_of_ble_eq_true rfl)⟩) hw (fun r2 w3 H locs h hw => ?_)
  clear hcall
  refine lv_if_eq (tgt := 29) hx hb dMO_account_14 rfl (fun hc => ?_) (fun hc => ?_)
  · replace h := h.1 hc
    refine lv_ldc (v := (-2000000002)) hx hb hown (hts _ mw_289) dMO_account_29 ?_
    refine W.widen (k := 0) (n := 0) (Nat.le_of_ble_eq_true rfl) (Nat.le_of_ble_eq_true rfl) ?_
    exact xw_iret hx hb hr hlocks hw h dMO_account_31
  · replace h := h.2 hc
    refine lv_iload_n hx hb dMO_account_17 rfl (lv_at hl 2 rfl) ?_
    refine lv_i2l hx hb dMO_account_18 rfl ?_
    refine lv_lconst (v := 0) hx hb dMO_account_19 (by decide) ?_
    refine lv_ldc2 (v := 5) hx hb hown (hts _ mw_296) dMO_account_20 ?_
    have hcall := h
    clear h
    refine xw_calli (va_runS (As := [.long p1.toInt64, .long 0, .long 5]) (rest := []) ⟨hx, hb, hml, hown, hts⟩ (c_MO_isIn l D E A _ w3 p1.toInt64 0 5 hcall) (va_cwS 3 hts (xG_S mw_292 mw_293 mw_294 mw_295) rfl rfl rfl (by decide +kernel) ⟨(Nat.le_of_ble_eq_true rfl), (Nat.le_of_ble_eq_true rfl)⟩) (xw_preS hw hK hE) rfl rfl hl.1 rfl (lv_room (by first | exact Nat.le_of_ble_eq_true rfl | simp [va_rf_cat, xcat_i, xcat_l, xcat_r, xcat_n])) dMO_account_23 ⟨(Nat.le_of_ble_eq_true rfl), (Nat.le_of_ble_eq_true rfl)⟩) hw (fun r4 w5 H locs h hw => ?_)
    clear hcall
    refine lv_if_ne (tgt := 32) hx hb dMO_account_26 rfl (fun hc => ?_) (fun hc => ?_)
    · replace h := h.1 hc
      refine lv_aload_n hx hb dMO_account_32 rfl (lv_at hl 0 rfl) ?_
      obtain ⟨v6, hv, h⟩ := h
      refine xw_getI (C := RMO) (T := TMO) (N := 17) (ref := RMO) hx hb hts inMO hown hK hw rfl 1 (by decide) (hts _ mw_290) (fun _ h9 => h9) hv dMO_account_33 ?_
      refine lv_bipush (v := 60) hx hb dMO_account_36 (by decide) ?_
      refine lv_icmp_ne (tgt := 44) hx hb dMO_account_38 rfl (fun hc => ?_) (fun hc => ?_)
      · replace h := h.1 hc
        refine lv_aload_n hx hb dMO_account_44 rfl (lv_at hl 0 rfl) ?_
        refine lv_dup hx hb dMO_account_45 rfl ?_
        obtain ⟨v7, hv, h⟩ := h
        refine xw_getI (C := RMO) (T := TMO) (N := 17) (ref := RMO) hx hb hts inMO hown hK hw rfl 1 (by decide) (hts _ mw_290) (fun _ h9 => h9) hv dMO_account_46 ?_
        refine lv_iconst (v := 1) hx hb dMO_account_49 (by decide) ?_
        refine lv_iadd hx hb dMO_account_50 ?_
        obtain ⟨hv, h⟩ := h
        refine xw_put (ty := (.int)) (C := RMO) (T := TMO) (N := 17) (ref := RMO) hx hb hts inMO tyMO tyMO_ok nmMO hown hK hw rfl 1 (by decide) (hts _ mw_290) (fun _ h9 => h9) rfl (by decide +kernel) rfl rfl hv dMO_account_51 (fun H locs hw => ?_)
        replace h := h _ rfl
        generalize xp w5 h0 1 (.int (v7 + 1)) = w8 at hw h
        refine lv_aload_n hx hb dMO_account_54 rfl (lv_at hl 0 rfl) ?_
        obtain ⟨v9, hv, h⟩ := h
        refine xw_getR (C := RMO) (T := TMO) (N := 17) (ref := RMO) hx hb hts inMO hown hK hw rfl 2 (by decide) (hts _ mw_286) (fun _ h9 => h9) hv dMO_account_55 ?_
        refine lv_aload_n hx hb dMO_account_58 rfl (lv_at hl 0 rfl) ?_
        obtain ⟨v10, hv, h⟩ := h
        refine xw_getI (C := RMO) (T := TMO) (N := 17) (ref := RMO) hx hb hts inMO hown hK hw rfl 1 (by decide) (hts _ mw_290) (fun _ h9 => h9) hv dMO_account_59 ?_
        refine lv_iload_n hx hb dMO_account_62 rfl (lv_at hl 1 rfl) ?_
        obtain ⟨a11, rfl, h⟩ := h
        obtain ⟨n12, f13, ha, hin9, h⟩ := h
        refine xw_iast hx hb hK hw 1 rfl ha hin9 dMO_account_63 (fun H locs hw => ?_)
        replace h := h _ rfl
        generalize va_up w8 a11 (some (xcI (E.1 1) n12 (upd f13 v10.toNatClampNeg p0))) = w14 at hw h
        refine lv_aload_n hx hb dMO_account_64 rfl (lv_at hl 0 rfl) ?_
        obtain ⟨v15, hv, h⟩ := h
        refine xw_getR (C := RMO) (T := TMO) (N := 17) (ref := RMO) hx hb hts inMO hown hK hw rfl 3 (by decide) (hts _ mw_285) (fun _ h9 => h9) hv dMO_account_65 ?_
        refine lv_aload_n hx hb dMO_account_68 rfl (lv_at hl 0 rfl) ?_
        obtain ⟨v16, hv, h⟩ := h
        refine xw_getI (C := RMO) (T := TMO) (N := 17) (ref := RMO) hx hb hts inMO hown hK hw rfl 1 (by decide) (hts _ mw_290) (fun _ h9 => h9) hv dMO_account_69 ?_
        refine lv_iload_n hx hb dMO_account_72 rfl (lv_at hl 2 rfl) ?_
        obtain ⟨a17, rfl, h⟩ := h
        obtain ⟨n18, f19, ha, hin9, h⟩ := h
        refine xw_iast hx hb hK hw 1 rfl ha hin9 dMO_account_73 (fun H locs hw => ?_)
        replace h := h _ rfl
        generalize va_up w14 a17 (some (xcI (E.1 1) n18 (upd f19 v16.toNatClampNeg p1))) = w20 at hw h
        refine lv_aload_n hx hb dMO_account_74 rfl (lv_at hl 0 rfl) ?_
        obtain ⟨v21, hv, h⟩ := h
        refine xw_getI (C := RMO) (T := TMO) (N := 17) (ref := RMO) hx hb hts inMO hown hK hw rfl 1 (by decide) (hts _ mw_290) (fun _ h9 => h9) hv dMO_account_75 ?_
        refine W.widen (k := 0) (n := 0) (Nat.le_of_ble_eq_true rfl) (Nat.le_of_ble_eq_true rfl) ?_
        exact xw_iret hx hb hr hlocks hw h dMO_account_78
      · replace h := h.2 hc
        refine lv_ldc (v := (-2000000004)) hx hb hown (hts _ mw_291) dMO_account_41 ?_
        refine W.widen (k := 0) (n := 0) (Nat.le_of_ble_eq_true rfl) (Nat.le_of_ble_eq_true rfl) ?_
        exact xw_iret hx hb hr hlocks hw h dMO_account_43
    · replace h := h.2 hc
      refine lv_ldc (v := (-2000000002)) hx hb hown (hts _ mw_289) dMO_account_29 ?_
      refine W.widen (k := 0) (n := 0) (Nat.le_of_ble_eq_true rfl) (Nat.le_of_ble_eq_true rfl) ?_
      exact xw_iret hx hb hr hlocks hw h dMO_account_31
def wp_MO_make (E : xE_T) (post : Int32 → xw_T → Prop) (w : xw_T) (h0 : Nat) (p0 : Int64) : Prop := ∃ v1, xgI w h0 5 5 = some v1 ∧ ((∃ v0, xg w h0 5 5 = some v0) ∧ ∀ w2, w2 = xp w h0 5 (.int (v1 + 1)) → (∃ v3, xgR w2 h0 5 6 = some v3 ∧ (∃ v4, xgI w2 h0 5 5 = some v4 ∧ (∃ a5 : Nat, v3 = some a5 ∧ (∃ n6 f7, xaI w2 a5 (E.1 1) = some (n6, f7) ∧ vp_in v4 n6 ∧ ∀ w8, w8 = va_up w2 a5 (some (xcI (E.1 1) n6 (upd f7 v4.toNatClampNeg 0))) → (∃ v9, xgR w8 h0 5 7 = some v9 ∧ (∃ v10, xgI w8 h0 5 5 = some v10 ∧ (∃ a11 : Nat, v9 = some a11 ∧ (∃ n12 f13, xaL w8 a11 (E.1 2) = some (n12, f13) ∧ vp_in v10 n12 ∧ ∀ w14, w14 = va_up w8 a11 (some (xcL (E.1 2) n12 (vp_updL f13 v10.toNatClampNeg p0))) → (∃ v15, xgI w14 h0 5 5 = some v15 ∧ (post v15 w14)))))))))))
set_option maxHeartbeats 4000000 in
set_option maxRecDepth 100000 in
theorem c_MO_make (l : Launch) (D : va_G) (E : xE_T) (A : Nat → Prop) (post : Int32 → xw_T → Prop) (w : xw_T) (h0 : Nat) (p0 : Int64) (h : wp_MO_make E post w h0 p0) : Met l yMO_make (xW yMO_make cMO_make 3 (some (.int))) ({ frames := 0, cells := 0, slots := 0, locals := 0 } : Room) (va_Pc [.ref h0, .long p0] (xP D E A w)) (va_Qi post (xB D A) A) 0 0 A := by
  refine Met.ofW (cc := cMO_make) (maxL := 3) (ret := (some (.int))) (by decide) rfl ?_
  intro p e s m args below meth c s₁ B hml hv
  obtain ⟨rfl, hw, hK, hE⟩ := hv
  have hx := B.exec
  have hb := B.bytes
  have hr := B.returns
  have hts : ∀ w ∈ xTB, w.before _ s = true := fun w hw => atoms_spec (ws := xW yMO_make cMO_make 3 (some (.int))) B.pre w (List.mem_cons_of_mem _ hw)
  have hown : s.vm.findClass RMO = some m.cls := findClass_of_methodNamed B.named
  have hlocks := B.notSynchronized
  have hw : xw_S D vwCl A s.heap w s.heap [] := xw_S0 hw
  refine xl_start (lvs := [(0, .ref h0), (1, .long p0)]) (by first | exact Nat.le_of_ble_eq_true rfl | simp [lg_sl, va_rf_cat, xcat_i, xcat_l, xcat_r, xcat_n]) (by first | rfl | simp [lv_args, va_rf_cat, xcat_i, xcat_l, xcat_r, xcat_n]) (fun ls hl => ?_)
  unfold wp_MO_make at h
  refine lv_aload_n hx hb dMO_make_0 rfl (lv_at hl 0 rfl) ?_
  refine lv_dup hx hb dMO_make_1 rfl ?_
  obtain ⟨v1, hv, h⟩ := h
  refine xw_getI (C := RMO) (T := TMO) (N := 17) (ref := RMO) hx hb hts inMO hown hK hw rfl 5 (by decide) (hts _ mw_298) (fun _ h9 => h9) hv dMO_make_2 ?_
  refine lv_iconst (v := 1) hx hb dMO_make_5 (by decide) ?_
  refine lv_iadd hx hb dMO_make_6 ?_
  obtain ⟨hv, h⟩ := h
  refine xw_put (ty := (.int)) (C := RMO) (T := TMO) (N := 17) (ref := RMO) hx hb hts inMO tyMO tyMO_ok nmMO hown hK hw rfl 5 (by decide) (hts _ mw_298) (fun _ h9 => h9) rfl (by decide +kernel) rfl rfl hv dMO_make_7 (fun H locs hw => ?_)
  replace h := h _ rfl
  generalize xp w h0 5 (.int (v1 + 1)) = w2 at hw h
  refine lv_aload_n hx hb dMO_make_10 rfl (lv_at hl 0 rfl) ?_
  obtain ⟨v3, hv, h⟩ := h
  refine xw_getR (C := RMO) (T := TMO) (N := 17) (ref := RMO) hx hb hts inMO hown hK hw rfl 6 (by decide) (hts _ mw_283) (fun _ h9 => h9) hv dMO_make_11 ?_
  refine lv_aload_n hx hb dMO_make_14 rfl (lv_at hl 0 rfl) ?_
  obtain ⟨v4, hv, h⟩ := h
  refine xw_getI (C := RMO) (T := TMO) (N := 17) (ref := RMO) hx hb hts inMO hown hK hw rfl 5 (by decide) (hts _ mw_298) (fun _ h9 => h9) hv dMO_make_15 ?_
  refine lv_iconst (v := 0) hx hb dMO_make_18 (by decide) ?_
  obtain ⟨a5, rfl, h⟩ := h
  obtain ⟨n6, f7, ha, hin9, h⟩ := h
  refine xw_iast hx hb hK hw 1 rfl ha hin9 dMO_make_19 (fun H locs hw => ?_)
  replace h := h _ rfl
  generalize va_up w2 a5 (some (xcI (E.1 1) n6 (upd f7 v4.toNatClampNeg 0))) = w8 at hw h
  refine lv_aload_n hx hb dMO_make_20 rfl (lv_at hl 0 rfl) ?_
  obtain ⟨v9, hv, h⟩ := h
  refine xw_getR (C := RMO) (T := TMO) (N := 17) (ref := RMO) hx hb hts inMO hown hK hw rfl 7 (by decide) (hts _ mw_282) (fun _ h9 => h9) hv dMO_make_21 ?_
  refine lv_aload_n hx hb dMO_make_24 rfl (lv_at hl 0 rfl) ?_
  obtain ⟨v10, hv, h⟩ := h
  refine xw_getI (C := RMO) (T := TMO) (N := 17) (ref := RMO) hx hb hts inMO hown hK hw rfl 5 (by decide) (hts _ mw_298) (fun _ h9 => h9) hv dMO_make_25 ?_
  refine lv_lload_n hx hb dMO_make_28 rfl (lv_at hl 1 rfl) ?_
  obtain ⟨a11, rfl, h⟩ := h
  obtain ⟨n12, f13, ha, hin9, h⟩ := h
  refine xw_last hx hb hK hw 2 rfl ha hin9 dMO_make_29 (fun H locs hw => ?_)
  replace h := h _ rfl
  generalize va_up w8 a11 (some (xcL (E.1 2) n12 (vp_updL f13 v10.toNatClampNeg p0))) = w14 at hw h
  refine lv_aload_n hx hb dMO_make_30 rfl (lv_at hl 0 rfl) ?_
  obtain ⟨v15, hv, h⟩ := h
  refine xw_getI (C := RMO) (T := TMO) (N := 17) (ref := RMO) hx hb hts inMO hown hK hw rfl 5 (by decide) (hts _ mw_298) (fun _ h9 => h9) hv dMO_make_31 ?_
  refine W.widen (k := 0) (n := 0) (Nat.le_of_ble_eq_true rfl) (Nat.le_of_ble_eq_true rfl) ?_
  exact xw_iret hx hb hr hlocks hw h dMO_make_34
def wp_MO_batch (E : xE_T) (post : Int32 → xw_T → Prop) (w : xw_T) (h0 : Nat) (p0 : Int64) : Prop := (∃ v0, xg w h0 5 0 = some v0) ∧ ∀ w1, w1 = xp w h0 0 (.int 0) → (wp_MO_isIn E (fun r2 w3 => (¬ r2 = 0 → (∃ v4, xgL w3 h0 5 16 = some v4 ∧ ((v4 < p0 → (∃ v5, xgI w3 h0 5 5 = some v5 ∧ ((¬ v5 = 300 → ((∃ fs, w3 h0 = some (.inr (5, fs))) ∧ wp_MO_make E (fun r6 w7 => post r6 w7) w3 h0 p0)) ∧ (v5 = 300 → (post (-2000000004) w3))))) ∧ (¬ v4 < p0 → (post (-2000000003) w3))))) ∧ (r2 = 0 → (post (-2000000002) w3))) w1 p0 0 20000)
set_option maxHeartbeats 4000000 in
set_option maxRecDepth 100000 in
theorem c_MO_batch (l : Launch) (D : va_G) (E : xE_T) (A : Nat → Prop) (post : Int32 → xw_T → Prop) (w : xw_T) (h0 : Nat) (p0 : Int64) (h : wp_MO_batch E post w h0 p0) : Met l yMO_batch (xW yMO_batch cMO_batch 3 (some (.int))) ({ frames := 1, cells := 0, slots := 0, locals := 25 } : Room) (va_Pc [.ref h0, .long p0] (xP D E A w)) (va_Qi post (xB D A) A) 0 0 A := by
  refine Met.ofW (cc := cMO_batch) (maxL := 3) (ret := (some (.int))) (by decide) rfl ?_
  intro p e s m args below meth c s₁ B hml hv
  obtain ⟨rfl, hw, hK, hE⟩ := hv
  have hx := B.exec
  have hb := B.bytes
  have hr := B.returns
  have hts : ∀ w ∈ xTB, w.before _ s = true := fun w hw => atoms_spec (ws := xW yMO_batch cMO_batch 3 (some (.int))) B.pre w (List.mem_cons_of_mem _ hw)
  have hown : s.vm.findClass RMO = some m.cls := findClass_of_methodNamed B.named
  have hlocks := B.notSynchronized
  have hw : xw_S D vwCl A s.heap w s.heap [] := xw_S0 hw
  refine xl_start (lvs := [(0, .ref h0), (1, .long p0)]) (by first | exact Nat.le_of_ble_eq_true rfl | simp [lg_sl, va_rf_cat, xcat_i, xcat_l, xcat_r, xcat_n]) (by first | rfl | simp [lv_args, va_rf_cat, xcat_i, xcat_l, xcat_r, xcat_n]) (fun ls hl => ?_)
  unfold wp_MO_batch at h
  refine lv_aload_n hx hb dMO_batch_0 rfl (lv_at hl 0 rfl) ?_
  refine lv_iconst (v := 0) hx hb dMO_batch_1 (by decide) ?_
  obtain ⟨hv, h⟩ := h
  refine xw_put (ty := (.int)) (C := RMO) (T := TMO) (N := 17) (ref := RMO) hx hb hts inMO tyMO tyMO_ok nmMO hown hK hw rfl 0 (by decide) (hts _ mw_288) (fun _ h9 => h9) rfl (by decide +kernel) rfl rfl hv dMO_batch_2 (fun H locs hw => ?_)
  replace h := h _ rfl
  generalize xp w h0 0 (.int 0) = w1 at hw h
  refine lv_lload_n hx hb dMO_batch_5 rfl (lv_at hl 1 rfl) ?_
  refine lv_lconst (v := 0) hx hb dMO_batch_6 (by decide) ?_
  refine lv_ldc2 (v := 20000) hx hb hown (hts _ mw_304) dMO_batch_7 ?_
  have hcall := h
  clear h
  refine xw_calli (va_runS (As := [.long p0, .long 0, .long 20000]) (rest := []) ⟨hx, hb, hml, hown, hts⟩ (c_MO_isIn l D E A _ w1 p0 0 20000 hcall) (va_cwS 3 hts (xG_S mw_292 mw_293 mw_294 mw_295) rfl rfl rfl (by decide +kernel) ⟨(Nat.le_of_ble_eq_true rfl), (Nat.le_of_ble_eq_true rfl)⟩) (xw_preS hw hK hE) rfl rfl hl.1 rfl (lv_room (by first | exact Nat.le_of_ble_eq_true rfl | simp [va_rf_cat, xcat_i, xcat_l, xcat_r, xcat_n])) dMO_batch_10 ⟨(Nat.le_of_ble_eq_true rfl), (Nat.le_of_ble_eq_true rfl)⟩) hw (fun r2 w3 H locs h hw => ?_)
  clear hcall
  refine lv_if_ne (tgt := 19) hx hb dMO_batch_13 rfl (fun hc => ?_) (fun hc => ?_)
  · replace h := h.1 hc
    refine lv_lload_n hx hb dMO_batch_19 rfl (lv_at hl 1 rfl) ?_
    refine lv_aload_n hx hb dMO_batch_20 rfl (lv_at hl 0 rfl) ?_
    obtain ⟨v4, hv, h⟩ := h
    refine xw_getL (C := RMO) (T := TMO) (N := 17) (ref := RMO) hx hb hts inMO hown hK hw rfl 16 (by decide) (hts _ mw_270) (fun _ h9 => h9) hv dMO_batch_21 ?_
    refine xl_lc_gt (tgt := 33) hx hb dMO_batch_24 dMO_batch_25 rfl (fun hc => ?_) (fun hc => ?_)
    · replace h := h.1 hc
      refine lv_aload_n hx hb dMO_batch_33 rfl (lv_at hl 0 rfl) ?_
      obtain ⟨v5, hv, h⟩ := h
      refine xw_getI (C := RMO) (T := TMO) (N := 17) (ref := RMO) hx hb hts inMO hown hK hw rfl 5 (by decide) (hts _ mw_298) (fun _ h9 => h9) hv dMO_batch_34 ?_
      refine lv_sipush (v := 300) hx hb dMO_batch_37 (by decide) ?_
      refine lv_icmp_ne (tgt := 48) hx hb dMO_batch_40 rfl (fun hc => ?_) (fun hc => ?_)
      · replace h := h.1 hc
        refine lv_aload_n hx hb dMO_batch_48 rfl (lv_at hl 0 rfl) ?_
        refine lv_lload_n hx hb dMO_batch_49 rfl (lv_at hl 1 rfl) ?_
        obtain ⟨⟨fs, hk⟩, h⟩ := h
        have hcall := h
        clear h
        refine xw_calli (va_runV (As := [.long p0]) (rest := []) ⟨hx, hb, hml, hown, hts⟩ (c_MO_make l D E A _ w3 h0 p0 hcall) (cwV 1 hts (xG_V mw_299 mw_300 mw_301 mw_294 mw_302) rfl rfl rfl (by decide +kernel) ⟨(Nat.le_of_ble_eq_true rfl), (Nat.le_of_ble_eq_true rfl)⟩) (xw_preV (ci := 5) hw hK hE rfl hk) rfl rfl hl.1 rfl (lv_room (by first | exact Nat.le_of_ble_eq_true rfl | simp [va_rf_cat, xcat_i, xcat_l, xcat_r, xcat_n])) dMO_batch_50 ⟨(Nat.le_of_ble_eq_true rfl), (Nat.le_of_ble_eq_true rfl)⟩) hw (fun r6 w7 H locs h hw => ?_)
        clear hcall
        refine W.widen (k := 0) (n := 0) (Nat.le_of_ble_eq_true rfl) (Nat.le_of_ble_eq_true rfl) ?_
        exact xw_iret hx hb hr hlocks hw h dMO_batch_53
      · replace h := h.2 hc
        refine lv_ldc (v := (-2000000004)) hx hb hown (hts _ mw_291) dMO_batch_43 ?_
        refine lv_goto (tgt := 53) hx hb dMO_batch_45 rfl ?_
        refine W.widen (k := 0) (n := 0) (Nat.le_of_ble_eq_true rfl) (Nat.le_of_ble_eq_true rfl) ?_
        exact xw_iret hx hb hr hlocks hw h dMO_batch_53
    · replace h := h.2 hc
      refine lv_ldc (v := (-2000000003)) hx hb hown (hts _ mw_303) dMO_batch_28 ?_
      refine lv_goto (tgt := 53) hx hb dMO_batch_30 rfl ?_
      refine W.widen (k := 0) (n := 0) (Nat.le_of_ble_eq_true rfl) (Nat.le_of_ble_eq_true rfl) ?_
      exact xw_iret hx hb hr hlocks hw h dMO_batch_53
  · replace h := h.2 hc
    refine lv_ldc (v := (-2000000002)) hx hb hown (hts _ mw_289) dMO_batch_16 ?_
    refine W.widen (k := 0) (n := 0) (Nat.le_of_ble_eq_true rfl) (Nat.le_of_ble_eq_true rfl) ?_
    exact xw_iret hx hb hr hlocks hw h dMO_batch_18
def wp_MO_isBatch (E : xE_T) (post : Int32 → xw_T → Prop) (w : xw_T) (h0 : Nat) (p0 : Int32) : Prop := ∃ v1, xgI w h0 5 5 = some v1 ∧ (wp_MO_isIn E (fun r2 w3 => narrow (.boolean) (.int r2) = .int r2 ∧ post r2 w3) w p0.toInt64 1 v1.toInt64)
set_option maxHeartbeats 4000000 in
set_option maxRecDepth 100000 in
theorem c_MO_isBatch (l : Launch) (D : va_G) (E : xE_T) (A : Nat → Prop) (post : Int32 → xw_T → Prop) (w : xw_T) (h0 : Nat) (p0 : Int32) (h : wp_MO_isBatch E post w h0 p0) : Met l yMO_isBatch (xW yMO_isBatch cMO_isBatch 2 (some (.boolean))) ({ frames := 1, cells := 0, slots := 0, locals := 25 } : Room) (va_Pc [.ref h0, .int p0] (xP D E A w)) (va_Qi post (xB D A) A) 0 0 A := by
  refine Met.ofW (cc := cMO_isBatch) (maxL := 2) (ret := (some (.boolean))) (by decide) rfl ?_
  intro p e s m args below meth c s₁ B hml hv
  obtain ⟨rfl, hw, hK, hE⟩ := hv
  have hx := B.exec
  have hb := B.bytes
  have hr := B.returns
  have hts : ∀ w ∈ xTB, w.before _ s = true := fun w hw => atoms_spec (ws := xW yMO_isBatch cMO_isBatch 2 (some (.boolean))) B.pre w (List.mem_cons_of_mem _ hw)
  have hown : s.vm.findClass RMO = some m.cls := findClass_of_methodNamed B.named
  have hlocks := B.notSynchronized
  have hw : xw_S D vwCl A s.heap w s.heap [] := xw_S0 hw
  refine xl_start (lvs := [(0, .ref h0), (1, .int p0)]) (by first | exact Nat.le_of_ble_eq_true rfl | simp [lg_sl, va_rf_cat, xcat_i, xcat_l, xcat_r, xcat_n]) (by first | rfl | simp [lv_args, va_rf_cat, xcat_i, xcat_l, xcat_r, xcat_n]) (fun ls hl => ?_)
  unfold wp_MO_isBatch at h
  refine lv_iload_n hx hb dMO_isBatch_0 rfl (lv_at hl 1 rfl) ?_
  refine lv_i2l hx hb dMO_isBatch_1 rfl ?_
  refine lv_lconst (v := 1) hx hb dMO_isBatch_2 (by decide) ?_
  refine lv_aload_n hx hb dMO_isBatch_3 rfl (lv_at hl 0 rfl) ?_
  obtain ⟨v1, hv, h⟩ := h
  refine xw_getI (C := RMO) (T := TMO) (N := 17) (ref := RMO) hx hb hts inMO hown hK hw rfl 5 (by decide) (hts _ mw_298) (fun _ h9 => h9) hv dMO_isBatch_4 ?_
  refine lv_i2l hx hb dMO_isBatch_7 rfl ?_
  have hcall := h
  clear h
  refine xw_calli (va_runS (As := [.long p0.toInt64, .long 1, .long v1.toInt64]) (rest := []) ⟨hx, hb, hml, hown, hts⟩ (c_MO_isIn l D E A _ w p0.toInt64 1 v1.toInt64 hcall) (va_cwS 3 hts (xG_S mw_292 mw_293 mw_294 mw_295) rfl rfl rfl (by decide +kernel) ⟨(Nat.le_of_ble_eq_true rfl), (Nat.le_of_ble_eq_true rfl)⟩) (xw_preS hw hK hE) rfl rfl hl.1 rfl (lv_room (by first | exact Nat.le_of_ble_eq_true rfl | simp [va_rf_cat, xcat_i, xcat_l, xcat_r, xcat_n])) dMO_isBatch_8 ⟨(Nat.le_of_ble_eq_true rfl), (Nat.le_of_ble_eq_true rfl)⟩) hw (fun r2 w3 H locs h hw => ?_)
  clear hcall
  obtain ⟨hnz, h⟩ := h
  refine W.widen (k := 0) (n := 0) (Nat.le_of_ble_eq_true rfl) (Nat.le_of_ble_eq_true rfl) ?_
  exact xw_zret hnz hx hb hr hlocks hw h dMO_isBatch_11
def wp_MO_isAccount (E : xE_T) (post : Int32 → xw_T → Prop) (w : xw_T) (h0 : Nat) (p0 : Int32) : Prop := ∃ v1, xgI w h0 5 1 = some v1 ∧ (wp_MO_isIn E (fun r2 w3 => narrow (.boolean) (.int r2) = .int r2 ∧ post r2 w3) w p0.toInt64 1 v1.toInt64)
set_option maxHeartbeats 4000000 in
set_option maxRecDepth 100000 in
theorem c_MO_isAccount (l : Launch) (D : va_G) (E : xE_T) (A : Nat → Prop) (post : Int32 → xw_T → Prop) (w : xw_T) (h0 : Nat) (p0 : Int32) (h : wp_MO_isAccount E post w h0 p0) : Met l yMO_isAccount (xW yMO_isAccount cMO_isAccount 2 (some (.boolean))) ({ frames := 1, cells := 0, slots := 0, locals := 25 } : Room) (va_Pc [.ref h0, .int p0] (xP D E A w)) (va_Qi post (xB D A) A) 0 0 A := by
  refine Met.ofW (cc := cMO_isAccount) (maxL := 2) (ret := (some (.boolean))) (by decide) rfl ?_
  intro p e s m args below meth c s₁ B hml hv
  obtain ⟨rfl, hw, hK, hE⟩ := hv
  have hx := B.exec
  have hb := B.bytes
  have hr := B.returns
  have hts : ∀ w ∈ xTB, w.before _ s = true := fun w hw => atoms_spec (ws := xW yMO_isAccount cMO_isAccount 2 (some (.boolean))) B.pre w (List.mem_cons_of_mem _ hw)
  have hown : s.vm.findClass RMO = some m.cls := findClass_of_methodNamed B.named
  have hlocks := B.notSynchronized
  have hw : xw_S D vwCl A s.heap w s.heap [] := xw_S0 hw
  refine xl_start (lvs := [(0, .ref h0), (1, .int p0)]) (by first | exact Nat.le_of_ble_eq_true rfl | simp [lg_sl, va_rf_cat, xcat_i, xcat_l, xcat_r, xcat_n]) (by first | rfl | simp [lv_args, va_rf_cat, xcat_i, xcat_l, xcat_r, xcat_n]) (fun ls hl => ?_)
  unfold wp_MO_isAccount at h
  refine lv_iload_n hx hb dMO_isAccount_0 rfl (lv_at hl 1 rfl) ?_
  refine lv_i2l hx hb dMO_isAccount_1 rfl ?_
  refine lv_lconst (v := 1) hx hb dMO_isAccount_2 (by decide) ?_
  refine lv_aload_n hx hb dMO_isAccount_3 rfl (lv_at hl 0 rfl) ?_
  obtain ⟨v1, hv, h⟩ := h
  refine xw_getI (C := RMO) (T := TMO) (N := 17) (ref := RMO) hx hb hts inMO hown hK hw rfl 1 (by decide) (hts _ mw_290) (fun _ h9 => h9) hv dMO_isAccount_4 ?_
  refine lv_i2l hx hb dMO_isAccount_7 rfl ?_
  have hcall := h
  clear h
  refine xw_calli (va_runS (As := [.long p0.toInt64, .long 1, .long v1.toInt64]) (rest := []) ⟨hx, hb, hml, hown, hts⟩ (c_MO_isIn l D E A _ w p0.toInt64 1 v1.toInt64 hcall) (va_cwS 3 hts (xG_S mw_292 mw_293 mw_294 mw_295) rfl rfl rfl (by decide +kernel) ⟨(Nat.le_of_ble_eq_true rfl), (Nat.le_of_ble_eq_true rfl)⟩) (xw_preS hw hK hE) rfl rfl hl.1 rfl (lv_room (by first | exact Nat.le_of_ble_eq_true rfl | simp [va_rf_cat, xcat_i, xcat_l, xcat_r, xcat_n])) dMO_isAccount_8 ⟨(Nat.le_of_ble_eq_true rfl), (Nat.le_of_ble_eq_true rfl)⟩) hw (fun r2 w3 H locs h hw => ?_)
  clear hcall
  obtain ⟨hnz, h⟩ := h
  refine W.widen (k := 0) (n := 0) (Nat.le_of_ble_eq_true rfl) (Nat.le_of_ble_eq_true rfl) ?_
  exact xw_zret hnz hx hb hr hlocks hw h dMO_isAccount_11
def wp_MO_put (E : xE_T) (post : xw_T → Prop) (w : xw_T) (h0 : Nat) (p0 : Int32) (p1 : Int32) (p2 : Int64) : Prop := ∃ v1, xgR w h0 5 12 = some v1 ∧ (∃ v2, xgR w h0 5 11 = some v2 ∧ (∃ a3 : Nat, v2 = some a3 ∧ (∃ n4 f5, xaI w a3 (E.1 1) = some (n4, f5) ∧ vp_in p0 n4 ∧ (∃ a6 : Nat, v1 = some a6 ∧ (∃ n7 f8, xaI w a6 (E.1 1) = some (n7, f8) ∧ vp_in ((12 * p0) + (f5 p0.toNatClampNeg)) n7 ∧ ∀ w9, w9 = va_up w a6 (some (xcI (E.1 1) n7 (upd f8 ((12 * p0) + (f5 p0.toNatClampNeg)).toNatClampNeg p1))) → (∃ v10, xgR w9 h0 5 13 = some v10 ∧ (∃ v11, xgR w9 h0 5 11 = some v11 ∧ (∃ a12 : Nat, v11 = some a12 ∧ (∃ n13 f14, xaI w9 a12 (E.1 1) = some (n13, f14) ∧ vp_in p0 n13 ∧ (∃ a15 : Nat, v10 = some a15 ∧ (∃ n16 f17, xaL w9 a15 (E.1 2) = some (n16, f17) ∧ vp_in ((12 * p0) + (f14 p0.toNatClampNeg)) n16 ∧ ∀ w18, w18 = va_up w9 a15 (some (xcL (E.1 2) n16 (vp_updL f17 ((12 * p0) + (f14 p0.toNatClampNeg)).toNatClampNeg p2))) → (∃ v19, xgR w18 h0 5 11 = some v19 ∧ (∃ a20 : Nat, v19 = some a20 ∧ (∃ n21 f22, xaI w18 a20 (E.1 1) = some (n21, f22) ∧ vp_in p0 n21 ∧ (∃ n23 f24, xaI w18 a20 (E.1 1) = some (n23, f24) ∧ vp_in p0 n23 ∧ ∀ w25, w25 = va_up w18 a20 (some (xcI (E.1 1) n23 (upd f24 p0.toNatClampNeg ((f22 p0.toNatClampNeg) + 1)))) → (post w25))))))))))))))))
set_option maxHeartbeats 4000000 in
set_option maxRecDepth 100000 in
theorem c_MO_put (l : Launch) (D : va_G) (E : xE_T) (A : Nat → Prop) (post : xw_T → Prop) (w : xw_T) (h0 : Nat) (p0 : Int32) (p1 : Int32) (p2 : Int64) (h : wp_MO_put E post w h0 p0 p1 p2) : Met l yMO_put (xW yMO_put cMO_put 5 none) ({ frames := 0, cells := 0, slots := 0, locals := 0 } : Room) (va_Pc [.ref h0, .int p0, .int p1, .long p2] (xP D E A w)) (va_Qv post (xB D A) A) 0 0 A := by
  refine Met.ofW (cc := cMO_put) (maxL := 5) (ret := none) (by decide) rfl ?_
  intro p e s m args below meth c s₁ B hml hv
  obtain ⟨rfl, hw, hK, hE⟩ := hv
  have hx := B.exec
  have hb := B.bytes
  have hr := B.returns
  have hts : ∀ w ∈ xTB, w.before _ s = true := fun w hw => atoms_spec (ws := xW yMO_put cMO_put 5 none) B.pre w (List.mem_cons_of_mem _ hw)
  have hown : s.vm.findClass RMO = some m.cls := findClass_of_methodNamed B.named
  have hlocks := B.notSynchronized
  have hw : xw_S D vwCl A s.heap w s.heap [] := xw_S0 hw
  refine xl_start (lvs := [(0, .ref h0), (1, .int p0), (2, .int p1), (3, .long p2)]) (by first | exact Nat.le_of_ble_eq_true rfl | simp [lg_sl, va_rf_cat, xcat_i, xcat_l, xcat_r, xcat_n]) (by first | rfl | simp [lv_args, va_rf_cat, xcat_i, xcat_l, xcat_r, xcat_n]) (fun ls hl => ?_)
  unfold wp_MO_put at h
  refine lv_aload_n hx hb dMO_put_0 rfl (lv_at hl 0 rfl) ?_
  obtain ⟨v1, hv, h⟩ := h
  refine xw_getR (C := RMO) (T := TMO) (N := 17) (ref := RMO) hx hb hts inMO hown hK hw rfl 12 (by decide) (hts _ mw_276) (fun _ h9 => h9) hv dMO_put_1 ?_
  refine lv_bipush (v := 12) hx hb dMO_put_4 (by decide) ?_
  refine lv_iload_n hx hb dMO_put_6 rfl (lv_at hl 1 rfl) ?_
  refine lv_imul hx hb dMO_put_7 ?_
  refine lv_aload_n hx hb dMO_put_8 rfl (lv_at hl 0 rfl) ?_
  obtain ⟨v2, hv, h⟩ := h
  refine xw_getR (C := RMO) (T := TMO) (N := 17) (ref := RMO) hx hb hts inMO hown hK hw rfl 11 (by decide) (hts _ mw_277) (fun _ h9 => h9) hv dMO_put_9 ?_
  refine lv_iload_n hx hb dMO_put_12 rfl (lv_at hl 1 rfl) ?_
  obtain ⟨a3, rfl, h⟩ := h
  obtain ⟨n4, f5, ha, hin9, h⟩ := h
  refine xw_iald hx hb hK hw 1 rfl ha hin9 dMO_put_13 ?_
  refine lv_iadd hx hb dMO_put_14 ?_
  refine lv_iload_n hx hb dMO_put_15 rfl (lv_at hl 2 rfl) ?_
  obtain ⟨a6, rfl, h⟩ := h
  obtain ⟨n7, f8, ha, hin9, h⟩ := h
  refine xw_iast hx hb hK hw 1 rfl ha hin9 dMO_put_16 (fun H locs hw => ?_)
  replace h := h _ rfl
  generalize va_up w a6 (some (xcI (E.1 1) n7 (upd f8 ((12 * p0) + (f5 p0.toNatClampNeg)).toNatClampNeg p1))) = w9 at hw h
  refine lv_aload_n hx hb dMO_put_17 rfl (lv_at hl 0 rfl) ?_
  obtain ⟨v10, hv, h⟩ := h
  refine xw_getR (C := RMO) (T := TMO) (N := 17) (ref := RMO) hx hb hts inMO hown hK hw rfl 13 (by decide) (hts _ mw_274) (fun _ h9 => h9) hv dMO_put_18 ?_
  refine lv_bipush (v := 12) hx hb dMO_put_21 (by decide) ?_
  refine lv_iload_n hx hb dMO_put_23 rfl (lv_at hl 1 rfl) ?_
  refine lv_imul hx hb dMO_put_24 ?_
  refine lv_aload_n hx hb dMO_put_25 rfl (lv_at hl 0 rfl) ?_
  obtain ⟨v11, hv, h⟩ := h
  refine xw_getR (C := RMO) (T := TMO) (N := 17) (ref := RMO) hx hb hts inMO hown hK hw rfl 11 (by decide) (hts _ mw_277) (fun _ h9 => h9) hv dMO_put_26 ?_
  refine lv_iload_n hx hb dMO_put_29 rfl (lv_at hl 1 rfl) ?_
  obtain ⟨a12, rfl, h⟩ := h
  obtain ⟨n13, f14, ha, hin9, h⟩ := h
  refine xw_iald hx hb hK hw 1 rfl ha hin9 dMO_put_30 ?_
  refine lv_iadd hx hb dMO_put_31 ?_
  refine lv_lload_n hx hb dMO_put_32 rfl (lv_at hl 3 rfl) ?_
  obtain ⟨a15, rfl, h⟩ := h
  obtain ⟨n16, f17, ha, hin9, h⟩ := h
  refine xw_last hx hb hK hw 2 rfl ha hin9 dMO_put_33 (fun H locs hw => ?_)
  replace h := h _ rfl
  generalize va_up w9 a15 (some (xcL (E.1 2) n16 (vp_updL f17 ((12 * p0) + (f14 p0.toNatClampNeg)).toNatClampNeg p2))) = w18 at hw h
  refine lv_aload_n hx hb dMO_put_34 rfl (lv_at hl 0 rfl) ?_
  obtain ⟨v19, hv, h⟩ := h
  refine xw_getR (C := RMO) (T := TMO) (N := 17) (ref := RMO) hx hb hts inMO hown hK hw rfl 11 (by decide) (hts _ mw_277) (fun _ h9 => h9) hv dMO_put_35 ?_
  refine lv_iload_n hx hb dMO_put_38 rfl (lv_at hl 1 rfl) ?_
  refine lv_dup2_11 hx hb dMO_put_39 rfl (va_rf_cat _) ?_
  obtain ⟨a20, rfl, h⟩ := h
  obtain ⟨n21, f22, ha, hin9, h⟩ := h
  refine xw_iald hx hb hK hw 1 rfl ha hin9 dMO_put_40 ?_
  refine lv_iconst (v := 1) hx hb dMO_put_41 (by decide) ?_
  refine lv_iadd hx hb dMO_put_42 ?_
  obtain ⟨n23, f24, ha, hin9, h⟩ := h
  refine xw_iast hx hb hK hw 1 rfl ha hin9 dMO_put_43 (fun H locs hw => ?_)
  replace h := h _ rfl
  generalize va_up w18 a20 (some (xcI (E.1 1) n23 (upd f24 p0.toNatClampNeg ((f22 p0.toNatClampNeg) + 1)))) = w25 at hw h
  refine W.widen (k := 0) (n := 0) (Nat.le_of_ble_eq_true rfl) (Nat.le_of_ble_eq_true rfl) ?_
  exact xw_vret hx hb hr hlocks hw h dMO_put_44
