/-! meanings and walks: CLS 0 -/
def wp_PL_init (E : xE_T) (post : xw_T → Prop) (w : xw_T) (h0 : Nat) : Prop := ∀ q1 : Nat, (w q1 = none ∧ q1 ≠ E.2 6) → ∀ w2, w2 = va_up w q1 (some (.inr (0, [.int 0, .null, .int 0]))) → (wp_AL_init E (fun w4 => (∃ v0, xg w4 h0 4 0 = some v0) ∧ ∀ w5, w5 = xp w4 h0 0 (.ref q1) → (∀ q6 : Nat, (w5 q6 = none ∧ q6 ≠ E.2 6) → ∀ w7, w7 = va_up w5 q6 (some (.inr (0, [.int 0, .null, .int 0]))) → (wp_AL_init E (fun w9 => (∃ v0, xg w9 h0 4 1 = some v0) ∧ ∀ w10, w10 = xp w9 h0 1 (.ref q6) → ((∃ v0, xg w10 h0 4 2 = some v0) ∧ ∀ w11, w11 = xp w10 h0 2 (.int 0) → ((∃ v0, xg w11 h0 4 3 = some v0) ∧ ∀ w12, w12 = xp w11 h0 3 (.int 0) → (post w12)))) w7 q6))) w2 q1)
set_option maxHeartbeats 4000000 in
set_option maxRecDepth 100000 in
theorem c_PL_init (l : Launch) (D : va_G) (E : xE_T) (A : Nat → Prop) (post : xw_T → Prop) (w : xw_T) (h0 : Nat) (h : wp_PL_init E post w h0) : Met l yPL_init (xW yPL_init cPL_init 1 none) ({ frames := 4, cells := 2, slots := 6, locals := 72 } : Room) (va_Pc [.ref h0] (xP D E A w)) (va_Qv post (xB D A) A) 2 6 A := by
  refine Met.ofW (cc := cPL_init) (maxL := 1) (ret := none) (by decide) rfl ?_
  intro p e s m args below meth c s₁ B hml hv
  obtain ⟨rfl, hw, hK, hE⟩ := hv
  have hx := B.exec
  have hb := B.bytes
  have hr := B.returns
  have hts : ∀ w ∈ xTB, w.before _ s = true := fun w hw => atoms_spec (ws := xW yPL_init cPL_init 1 none) B.pre w (List.mem_cons_of_mem _ hw)
  have hown : s.vm.findClass RPL = some m.cls := findClass_of_methodNamed B.named
  have hlocks := B.notSynchronized
  have hin : meth.name = "<init>" := (name_of_methodNamed B.named B.method).1
  have hw : xw_S D vwCl A s.heap w s.heap [] := xw_S0 hw
  refine xl_start (lvs := [(0, .ref h0)]) (by first | exact Nat.le_of_ble_eq_true rfl | simp [lg_sl, va_rf_cat, xcat_i, xcat_l, xcat_r, xcat_n]) (by first | rfl | simp [lv_args, va_rf_cat, xcat_i, xcat_l, xcat_r, xcat_n]) (fun ls hl => ?_)
  unfold wp_PL_init at h
  refine lv_aload_n hx hb dPL_init_0 rfl (lv_at hl 0 rfl) ?_
  refine W.objInit hx hb hown (hts _ mw_24) (hts _ mw_1) (hts _ mw_2) rfl (by rw [hml]; exact hl.1) rfl dPL_init_1 (Nat.le_of_ble_eq_true rfl) (Nat.le_of_ble_eq_true rfl) ?_
  refine lv_aload_n hx hb dPL_init_4 rfl (lv_at hl 0 rfl) ?_
  refine xw_new (ci := 0) (fs := [.int 0, .null, .int 0]) (C := RAL) (T := TAL) (N := 3) hx hb hts inAL tyAL tyAL_ok hown (hts _ mw_21) (hts _ mw_22) (hts _ mw_19) hK hw rfl (by decide +kernel) (Nat.le_of_ble_eq_true rfl) (Nat.le_of_ble_eq_true rfl) dPL_init_5 (fun q1 H hq hqA hw => ?_)
  replace h := h _ ⟨hq, xq6 hE hqA⟩ _ rfl
  generalize va_up w q1 (some (.inr (0, [.int 0, .null, .int 0]))) = w2 at hw h
  refine lv_dup hx hb dPL_init_8 rfl ?_
  have hcall := h
  clear h
  refine xw_callv (va_runI (As := []) (rest := [.ref q1, .ref h0]) ⟨hx, hb, hml, hown, hts⟩ (c_AL_init l D E A _ w2 q1 hcall) (cwI 0 hts (xG_I mw_18) rfl rfl rfl (hts _ mw_19) (hts _ mw_17) (hts _ mw_20) rfl (by decide +kernel) ⟨(Nat.le_of_ble_eq_true rfl), (Nat.le_of_ble_eq_true rfl)⟩) (xw_preS hw hK hE) rfl rfl hl.1 rfl (lv_room (by first | exact Nat.le_of_ble_eq_true rfl | simp [va_rf_cat, xcat_i, xcat_l, xcat_r, xcat_n])) dPL_init_9 ⟨(Nat.le_of_ble_eq_true rfl), (Nat.le_of_ble_eq_true rfl)⟩) hw (fun w4 H locs h hw => ?_)
  clear hcall
  obtain ⟨hv, h⟩ := h
  refine xw_putF (ty := (.object "java/util/ArrayList")) (C := RPL) (T := TPL) (N := 4) (ref := RPL) hx hb hts inPL tyPL tyPL_ok nmPL hown hK hw rfl 0 (by decide) (hts _ mw_23) (fun _ h9 => h9) rfl hin rfl (by decide +kernel) rfl rfl hv dPL_init_12 (fun H locs hw => ?_)
  replace h := h _ rfl
  generalize xp w4 h0 0 (.ref q1) = w5 at hw h
  refine lv_aload_n hx hb dPL_init_15 rfl (lv_at hl 0 rfl) ?_
  refine xw_new (ci := 0) (fs := [.int 0, .null, .int 0]) (C := RAL) (T := TAL) (N := 3) hx hb hts inAL tyAL tyAL_ok hown (hts _ mw_21) (hts _ mw_22) (hts _ mw_19) hK hw rfl (by decide +kernel) (Nat.le_of_ble_eq_true rfl) (Nat.le_of_ble_eq_true rfl) dPL_init_16 (fun q6 H hq hqA hw => ?_)
  replace h := h _ ⟨hq, xq6 hE hqA⟩ _ rfl
  generalize va_up w5 q6 (some (.inr (0, [.int 0, .null, .int 0]))) = w7 at hw h
  refine lv_dup hx hb dPL_init_19 rfl ?_
  have hcall := h
  clear h
  refine xw_callv (va_runI (As := []) (rest := [.ref q6, .ref h0]) ⟨hx, hb, hml, hown, hts⟩ (c_AL_init l D E A _ w7 q6 hcall) (cwI 0 hts (xG_I mw_18) rfl rfl rfl (hts _ mw_19) (hts _ mw_17) (hts _ mw_20) rfl (by decide +kernel) ⟨(Nat.le_of_ble_eq_true rfl), (Nat.le_of_ble_eq_true rfl)⟩) (xw_preS hw hK hE) rfl rfl hl.1 rfl (lv_room (by first | exact Nat.le_of_ble_eq_true rfl | simp [va_rf_cat, xcat_i, xcat_l, xcat_r, xcat_n])) dPL_init_20 ⟨(Nat.le_of_ble_eq_true rfl), (Nat.le_of_ble_eq_true rfl)⟩) hw (fun w9 H locs h hw => ?_)
  clear hcall
  obtain ⟨hv, h⟩ := h
  refine xw_putF (ty := (.object "java/util/ArrayList")) (C := RPL) (T := TPL) (N := 4) (ref := RPL) hx hb hts inPL tyPL tyPL_ok nmPL hown hK hw rfl 1 (by decide) (hts _ mw_16) (fun _ h9 => h9) rfl hin rfl (by decide +kernel) rfl rfl hv dPL_init_23 (fun H locs hw => ?_)
  replace h := h _ rfl
  generalize xp w9 h0 1 (.ref q6) = w10 at hw h
  refine lv_aload_n hx hb dPL_init_26 rfl (lv_at hl 0 rfl) ?_
  refine lv_iconst (v := 0) hx hb dPL_init_27 (by decide) ?_
  obtain ⟨hv, h⟩ := h
  refine xw_put (ty := (.int)) (C := RPL) (T := TPL) (N := 4) (ref := RPL) hx hb hts inPL tyPL tyPL_ok nmPL hown hK hw rfl 2 (by decide) (hts _ mw_15) (fun _ h9 => h9) rfl (by decide +kernel) rfl rfl hv dPL_init_28 (fun H locs hw => ?_)
  replace h := h _ rfl
  generalize xp w10 h0 2 (.int 0) = w11 at hw h
  refine lv_aload_n hx hb dPL_init_31 rfl (lv_at hl 0 rfl) ?_
  refine lv_iconst (v := 0) hx hb dPL_init_32 (by decide) ?_
  obtain ⟨hv, h⟩ := h
  refine xw_put (ty := (.int)) (C := RPL) (T := TPL) (N := 4) (ref := RPL) hx hb hts inPL tyPL tyPL_ok nmPL hown hK hw rfl 3 (by decide) (hts _ mw_14) (fun _ h9 => h9) rfl (by decide +kernel) rfl rfl hv dPL_init_33 (fun H locs hw => ?_)
  replace h := h _ rfl
  generalize xp w11 h0 3 (.int 0) = w12 at hw h
  refine W.widen (k := 2) (n := 6) (Nat.le_of_ble_eq_true rfl) (Nat.le_of_ble_eq_true rfl) ?_
  exact xw_vret hx hb hr hlocks hw h dPL_init_36
def wp_PL_isOffice (E : xE_T) (post : Int32 → xw_T → Prop) (w : xw_T) (p0 : Int32) : Prop := (p0 < 0 → (post 0 w)) ∧ (¬ p0 < 0 → ((10 ≤ p0 → (post 0 w)) ∧ (¬ 10 ≤ p0 → (post 1 w))))
set_option maxHeartbeats 4000000 in
set_option maxRecDepth 100000 in
theorem c_PL_isOffice (l : Launch) (D : va_G) (E : xE_T) (A : Nat → Prop) (post : Int32 → xw_T → Prop) (w : xw_T) (p0 : Int32) (h : wp_PL_isOffice E post w p0) : Met l yPL_isOffice (xW yPL_isOffice cPL_isOffice 1 (some (.boolean))) ({ frames := 0, cells := 0, slots := 0, locals := 0 } : Room) (va_Pc [.int p0] (xP D E A w)) (va_Qi post (xB D A) A) 0 0 A := by
  refine Met.ofW (cc := cPL_isOffice) (maxL := 1) (ret := (some (.boolean))) (by decide) rfl ?_
  intro p e s m args below meth c s₁ B hml hv
  obtain ⟨rfl, hw, hK, hE⟩ := hv
  have hx := B.exec
  have hb := B.bytes
  have hr := B.returns
  have hts : ∀ w ∈ xTB, w.before _ s = true := fun w hw => atoms_spec (ws := xW yPL_isOffice cPL_isOffice 1 (some (.boolean))) B.pre w (List.mem_cons_of_mem _ hw)
  have hown : s.vm.findClass RPL = some m.cls := findClass_of_methodNamed B.named
  have hlocks := B.notSynchronized
  have hw : xw_S D vwCl A s.heap w s.heap [] := xw_S0 hw
  refine xl_start (lvs := [(0, .int p0)]) (by first | exact Nat.le_of_ble_eq_true rfl | simp [lg_sl, va_rf_cat, xcat_i, xcat_l, xcat_r, xcat_n]) (by first | rfl | simp [lv_args, va_rf_cat, xcat_i, xcat_l, xcat_r, xcat_n]) (fun ls hl => ?_)
  unfold wp_PL_isOffice at h
  refine lv_iload_n hx hb dPL_isOffice_0 rfl (lv_at hl 0 rfl) ?_
  refine lv_if_lt (tgt := 14) hx hb dPL_isOffice_1 rfl (fun hc => ?_) (fun hc => ?_)
  · replace h := h.1 hc
    refine lv_iconst (v := 0) hx hb dPL_isOffice_14 (by decide) ?_
    refine W.widen (k := 0) (n := 0) (Nat.le_of_ble_eq_true rfl) (Nat.le_of_ble_eq_true rfl) ?_
    exact xw_zret (by decide) hx hb hr hlocks hw h dPL_isOffice_15
  · replace h := h.2 hc
    refine lv_iload_n hx hb dPL_isOffice_4 rfl (lv_at hl 0 rfl) ?_
    refine lv_bipush (v := 10) hx hb dPL_isOffice_5 (by decide) ?_
    refine lv_icmp_ge (tgt := 14) hx hb dPL_isOffice_7 rfl (fun hc => ?_) (fun hc => ?_)
    · replace h := h.1 hc
      refine lv_iconst (v := 0) hx hb dPL_isOffice_14 (by decide) ?_
      refine W.widen (k := 0) (n := 0) (Nat.le_of_ble_eq_true rfl) (Nat.le_of_ble_eq_true rfl) ?_
      exact xw_zret (by decide) hx hb hr hlocks hw h dPL_isOffice_15
    · replace h := h.2 hc
      refine lv_iconst (v := 1) hx hb dPL_isOffice_10 (by decide) ?_
      refine lv_goto (tgt := 15) hx hb dPL_isOffice_11 rfl ?_
      refine W.widen (k := 0) (n := 0) (Nat.le_of_ble_eq_true rfl) (Nat.le_of_ble_eq_true rfl) ?_
      exact xw_zret (by decide) hx hb hr hlocks hw h dPL_isOffice_15
def wp_AC_init (E : xE_T) (post : xw_T → Prop) (w : xw_T) (h0 : Nat) (p0 : Int32) (p1 : Int32) : Prop := (∃ v0, xg w h0 1 0 = some v0) ∧ ∀ w1, w1 = xp w h0 0 (.int p0) → ((∃ v0, xg w1 h0 1 1 = some v0) ∧ ∀ w2, w2 = xp w1 h0 1 (.int p1) → (post w2))
set_option maxHeartbeats 4000000 in
set_option maxRecDepth 100000 in
theorem c_AC_init (l : Launch) (D : va_G) (E : xE_T) (A : Nat → Prop) (post : xw_T → Prop) (w : xw_T) (h0 : Nat) (p0 : Int32) (p1 : Int32) (h : wp_AC_init E post w h0 p0 p1) : Met l yAC_init (xW yAC_init cAC_init 3 none) ({ frames := 1, cells := 0, slots := 0, locals := 12 } : Room) (va_Pc [.ref h0, .int p0, .int p1] (xP D E A w)) (va_Qv post (xB D A) A) 0 0 A := by
  refine Met.ofW (cc := cAC_init) (maxL := 3) (ret := none) (by decide) rfl ?_
  intro p e s m args below meth c s₁ B hml hv
  obtain ⟨rfl, hw, hK, hE⟩ := hv
  have hx := B.exec
  have hb := B.bytes
  have hr := B.returns
  have hts : ∀ w ∈ xTB, w.before _ s = true := fun w hw => atoms_spec (ws := xW yAC_init cAC_init 3 none) B.pre w (List.mem_cons_of_mem _ hw)
  have hown : s.vm.findClass RAC = some m.cls := findClass_of_methodNamed B.named
  have hlocks := B.notSynchronized
  have hin : meth.name = "<init>" := (name_of_methodNamed B.named B.method).1
  have hw : xw_S D vwCl A s.heap w s.heap [] := xw_S0 hw
  refine xl_start (lvs := [(0, .ref h0), (1, .int p0), (2, .int p1)]) (by first | exact Nat.le_of_ble_eq_true rfl | simp [lg_sl, va_rf_cat, xcat_i, xcat_l, xcat_r, xcat_n]) (by first | rfl | simp [lv_args, va_rf_cat, xcat_i, xcat_l, xcat_r, xcat_n]) (fun ls hl => ?_)
  unfold wp_AC_init at h
  refine lv_aload_n hx hb dAC_init_0 rfl (lv_at hl 0 rfl) ?_
  refine W.objInit hx hb hown (hts _ mw_28) (hts _ mw_1) (hts _ mw_2) rfl (by rw [hml]; exact hl.1) rfl dAC_init_1 (Nat.le_of_ble_eq_true rfl) (Nat.le_of_ble_eq_true rfl) ?_
  refine lv_aload_n hx hb dAC_init_4 rfl (lv_at hl 0 rfl) ?_
  refine lv_iload_n hx hb dAC_init_5 rfl (lv_at hl 1 rfl) ?_
  obtain ⟨hv, h⟩ := h
  refine xw_putF (ty := (.int)) (C := RAC) (T := TAC) (N := 4) (ref := RAC) hx hb hts inAC tyAC tyAC_ok nmAC hown hK hw rfl 0 (by decide) (hts _ mw_27) (fun _ h9 => h9) rfl hin rfl (by decide +kernel) rfl rfl hv dAC_init_6 (fun H locs hw => ?_)
  replace h := h _ rfl
  generalize xp w h0 0 (.int p0) = w1 at hw h
  refine lv_aload_n hx hb dAC_init_9 rfl (lv_at hl 0 rfl) ?_
  refine lv_iload_n hx hb dAC_init_10 rfl (lv_at hl 2 rfl) ?_
  obtain ⟨hv, h⟩ := h
  refine xw_putF (ty := (.int)) (C := RAC) (T := TAC) (N := 4) (ref := RAC) hx hb hts inAC tyAC tyAC_ok nmAC hown hK hw rfl 1 (by decide) (hts _ mw_26) (fun _ h9 => h9) rfl hin rfl (by decide +kernel) rfl rfl hv dAC_init_11 (fun H locs hw => ?_)
  replace h := h _ rfl
  generalize xp w1 h0 1 (.int p1) = w2 at hw h
  refine W.widen (k := 0) (n := 0) (Nat.le_of_ble_eq_true rfl) (Nat.le_of_ble_eq_true rfl) ?_
  exact xw_vret hx hb hr hlocks hw h dAC_init_14
def wp_PL_account (E : xE_T) (post : Int32 → xw_T → Prop) (w : xw_T) (h0 : Nat) (p0 : Int32) (p1 : Int32) : Prop := wp_PL_isOffice E (fun r1 w2 => (r1 = 0 → (post (-2000000002) w2)) ∧ (¬ r1 = 0 → ((p1 < 0 → (post (-2000000002) w2)) ∧ (¬ p1 < 0 → ((p1 < 6 → (∃ v3, xgR w2 h0 4 0 = some v3 ∧ (∃ a4 : Nat, v3 = some a4 ∧ ((∃ fs, w2 a4 = some (.inr (0, fs))) ∧ wp_AL_size E (fun r5 w6 => (r5 < 60 → (∃ v7, xgR w6 h0 4 0 = some v7 ∧ (∀ q8 : Nat, (w6 q8 = none ∧ q8 ≠ E.2 6) → ∀ w9, w9 = va_up w6 q8 (some (.inr (1, [.int 0, .int 0, .int 0, .long 0]))) → (wp_AC_init E (fun w11 => ∃ a12 : Nat, v7 = some a12 ∧ ((∃ fs, w11 a12 = some (.inr (0, fs))) ∧ wp_AL_add E (fun r13 w14 => ∃ v15, xgR w14 h0 4 0 = some v15 ∧ (∃ a16 : Nat, v15 = some a16 ∧ ((∃ fs, w14 a16 = some (.inr (0, fs))) ∧ wp_AL_size E (fun r17 w18 => post r17 w18) w14 a16))) w11 a12 (some q8))) w9 q8 p0 p1)))) ∧ (¬ r5 < 60 → (post (-2000000004) w6))) w2 a4)))) ∧ (¬ p1 < 6 → (post (-2000000002) w2))))))) w p0
set_option maxHeartbeats 4000000 in
set_option maxRecDepth 100000 in
theorem c_PL_account (l : Launch) (D : va_G) (E : xE_T) (A : Nat → Prop) (post : Int32 → xw_T → Prop) (w : xw_T) (h0 : Nat) (p0 : Int32) (p1 : Int32) (h : wp_PL_account E post w h0 p0 p1) : Met l yPL_account (xW yPL_account cPL_account 3 (some (.int))) ({ frames := 7, cells := 2, slots := 370, locals := 149 } : Room) (va_Pc [.ref h0, .int p0, .int p1] (xP D E A w)) (va_Qi post (xB D A) A) 2 370 A := by
  refine Met.ofW (cc := cPL_account) (maxL := 3) (ret := (some (.int))) (by decide) rfl ?_
  intro p e s m args below meth c s₁ B hml hv
  obtain ⟨rfl, hw, hK, hE⟩ := hv
  have hx := B.exec
  have hb := B.bytes
  have hr := B.returns
  have hts : ∀ w ∈ xTB, w.before _ s = true := fun w hw => atoms_spec (ws := xW yPL_account cPL_account 3 (some (.int))) B.pre w (List.mem_cons_of_mem _ hw)
  have hown : s.vm.findClass RPL = some m.cls := findClass_of_methodNamed B.named
  have hlocks := B.notSynchronized
  have hw : xw_S D vwCl A s.heap w s.heap [] := xw_S0 hw
  refine xl_start (lvs := [(0, .ref h0), (1, .int p0), (2, .int p1)]) (by first | exact Nat.le_of_ble_eq_true rfl | simp [lg_sl, va_rf_cat, xcat_i, xcat_l, xcat_r, xcat_n]) (by first | rfl | simp [lv_args, va_rf_cat, xcat_i, xcat_l, xcat_r, xcat_n]) (fun ls hl => ?_)
  unfold wp_PL_account at h
  refine lv_iload_n hx hb dPL_account_0 rfl (lv_at hl 1 rfl) ?_
  have hcall := h
  clear h
  refine xw_calli (va_runS (As := [.int p0]) (rest := []) ⟨hx, hb, hml, hown, hts⟩ (c_PL_isOffice l D E A _ w p0 hcall) (va_cwS 1 hts (xG_S mw_93 mw_94 mw_95 mw_96) rfl rfl rfl (by decide +kernel) ⟨(Nat.le_of_ble_eq_true rfl), (Nat.le_of_ble_eq_true rfl)⟩) (xw_preS hw hK hE) rfl rfl hl.1 rfl (lv_room (by first | exact Nat.le_of_ble_eq_true rfl | simp [va_rf_cat, xcat_i, xcat_l, xcat_r, xcat_n])) dPL_account_1 ⟨(Nat.le_of_ble_eq_true rfl), (Nat.le_of_ble_eq_true rfl)⟩) hw (fun r1 w2 H locs h hw => ?_)
  clear hcall
  refine lv_if_eq (tgt := 17) hx hb dPL_account_4 rfl (fun hc => ?_) (fun hc => ?_)
  · replace h := h.1 hc
    refine lv_ldc (v := (-2000000002)) hx hb hown (hts _ mw_77) dPL_account_17 ?_
    refine W.widen (k := 2) (n := 370) (Nat.le_of_ble_eq_true rfl) (Nat.le_of_ble_eq_true rfl) ?_
    exact xw_iret hx hb hr hlocks hw h dPL_account_19
  · replace h := h.2 hc
    refine lv_iload_n hx hb dPL_account_7 rfl (lv_at hl 2 rfl) ?_
    refine lv_if_lt (tgt := 17) hx hb dPL_account_8 rfl (fun hc => ?_) (fun hc => ?_)
    · replace h := h.1 hc
      refine lv_ldc (v := (-2000000002)) hx hb hown (hts _ mw_77) dPL_account_17 ?_
      refine W.widen (k := 2) (n := 370) (Nat.le_of_ble_eq_true rfl) (Nat.le_of_ble_eq_true rfl) ?_
      exact xw_iret hx hb hr hlocks hw h dPL_account_19
    · replace h := h.2 hc
      refine lv_iload_n hx hb dPL_account_11 rfl (lv_at hl 2 rfl) ?_
      refine lv_bipush (v := 6) hx hb dPL_account_12 (by decide) ?_
      refine lv_icmp_lt (tgt := 20) hx hb dPL_account_14 rfl (fun hc => ?_) (fun hc => ?_)
      · replace h := h.1 hc
        refine lv_aload_n hx hb dPL_account_20 rfl (lv_at hl 0 rfl) ?_
        obtain ⟨v3, hv, h⟩ := h
        refine xw_getR (C := RPL) (T := TPL) (N := 4) (ref := RPL) hx hb hts inPL hown hK hw rfl 0 (by decide) (hts _ mw_23) (fun _ h9 => h9) hv dPL_account_21 ?_
        obtain ⟨a4, rfl, h⟩ := h
        obtain ⟨⟨fs, hk⟩, h⟩ := h
        have hcall := h
        clear h
        refine xw_calli (va_runV (As := []) (rest := []) ⟨hx, hb, hml, hown, hts⟩ (c_AL_size l D E A _ w2 a4 hcall) (cwV 0 hts (xG_V mw_78 mw_79 mw_80 mw_19 mw_81) rfl rfl rfl (by decide +kernel) ⟨(Nat.le_of_ble_eq_true rfl), (Nat.le_of_ble_eq_true rfl)⟩) (xw_preV (ci := 0) hw hK hE rfl hk) rfl rfl hl.1 rfl (lv_room (by first | exact Nat.le_of_ble_eq_true rfl | simp [va_rf_cat, xcat_i, xcat_l, xcat_r, xcat_n])) dPL_account_24 ⟨(Nat.le_of_ble_eq_true rfl), (Nat.le_of_ble_eq_true rfl)⟩) hw (fun r5 w6 H locs h hw => ?_)
        clear hcall
        refine lv_bipush (v := 60) hx hb dPL_account_27 (by decide) ?_
        refine lv_icmp_lt (tgt := 35) hx hb dPL_account_29 rfl (fun hc => ?_) (fun hc => ?_)
        · replace h := h.1 hc
          refine lv_aload_n hx hb dPL_account_35 rfl (lv_at hl 0 rfl) ?_
          obtain ⟨v7, hv, h⟩ := h
          refine xw_getR (C := RPL) (T := TPL) (N := 4) (ref := RPL) hx hb hts inPL hown hK hw rfl 0 (by decide) (hts _ mw_23) (fun _ h9 => h9) hv dPL_account_36 ?_
          refine xw_new (ci := 1) (fs := [.int 0, .int 0, .int 0, .long 0]) (C := RAC) (T := TAC) (N := 4) hx hb hts inAC tyAC tyAC_ok hown (hts _ mw_90) (hts _ mw_91) (hts _ mw_88) hK hw rfl (by decide +kernel) (Nat.le_of_ble_eq_true rfl) (Nat.le_of_ble_eq_true rfl) dPL_account_39 (fun q8 H hq hqA hw => ?_)
          replace h := h _ ⟨hq, xq6 hE hqA⟩ _ rfl
          generalize va_up w6 q8 (some (.inr (1, [.int 0, .int 0, .int 0, .long 0]))) = w9 at hw h
          refine lv_dup hx hb dPL_account_42 rfl ?_
          refine lv_iload_n hx hb dPL_account_43 rfl (lv_at hl 1 rfl) ?_
          refine lv_iload_n hx hb dPL_account_44 rfl (lv_at hl 2 rfl) ?_
          have hcall := h
          clear h
          refine xw_callv (va_runI (As := [.int p0, .int p1]) (rest := [.ref q8, va_rf v7]) ⟨hx, hb, hml, hown, hts⟩ (c_AC_init l D E A _ w9 q8 p0 p1 hcall) (cwI 2 hts (xG_I mw_87) rfl rfl rfl (hts _ mw_88) (hts _ mw_86) (hts _ mw_89) rfl (by decide +kernel) ⟨(Nat.le_of_ble_eq_true rfl), (Nat.le_of_ble_eq_true rfl)⟩) (xw_preS hw hK hE) rfl rfl hl.1 rfl (lv_room (by first | exact Nat.le_of_ble_eq_true rfl | simp [va_rf_cat, xcat_i, xcat_l, xcat_r, xcat_n])) dPL_account_45 ⟨(Nat.le_of_ble_eq_true rfl), (Nat.le_of_ble_eq_true rfl)⟩) hw (fun w11 H locs h hw => ?_)
          clear hcall
          obtain ⟨a12, rfl, h⟩ := h
          obtain ⟨⟨fs, hk⟩, h⟩ := h
          have hcall := h
          clear h
          refine xw_calli (va_runV (As := [.ref q8]) (rest := []) ⟨hx, hb, hml, hown, hts⟩ (c_AL_add l D E A _ w11 a12 (some q8) hcall) (cwV 1 hts (xG_V mw_82 mw_83 mw_84 mw_19 mw_85) rfl rfl rfl (by decide +kernel) ⟨(Nat.le_of_ble_eq_true rfl), (Nat.le_of_ble_eq_true rfl)⟩) (xw_preV (ci := 0) hw hK hE rfl hk) rfl rfl hl.1 rfl (lv_room (by first | exact Nat.le_of_ble_eq_true rfl | simp [va_rf_cat, xcat_i, xcat_l, xcat_r, xcat_n])) dPL_account_48 ⟨(Nat.le_of_ble_eq_true rfl), (Nat.le_of_ble_eq_true rfl)⟩) hw (fun r13 w14 H locs h hw => ?_)
          clear hcall
          refine lv_pop hx hb dPL_account_51 rfl ?_
          refine lv_aload_n hx hb dPL_account_52 rfl (lv_at hl 0 rfl) ?_
          obtain ⟨v15, hv, h⟩ := h
          refine xw_getR (C := RPL) (T := TPL) (N := 4) (ref := RPL) hx hb hts inPL hown hK hw rfl 0 (by decide) (hts _ mw_23) (fun _ h9 => h9) hv dPL_account_53 ?_
          obtain ⟨a16, rfl, h⟩ := h
          obtain ⟨⟨fs, hk⟩, h⟩ := h
          have hcall := h
          clear h
          refine xw_calli (va_runV (As := []) (rest := []) ⟨hx, hb, hml, hown, hts⟩ (c_AL_size l D E A _ w14 a16 hcall) (cwV 0 hts (xG_V mw_78 mw_79 mw_80 mw_19 mw_81) rfl rfl rfl (by decide +kernel) ⟨(Nat.le_of_ble_eq_true rfl), (Nat.le_of_ble_eq_true rfl)⟩) (xw_preV (ci := 0) hw hK hE rfl hk) rfl rfl hl.1 rfl (lv_room (by first | exact Nat.le_of_ble_eq_true rfl | simp [va_rf_cat, xcat_i, xcat_l, xcat_r, xcat_n])) dPL_account_56 ⟨(Nat.le_of_ble_eq_true rfl), (Nat.le_of_ble_eq_true rfl)⟩) hw (fun r17 w18 H locs h hw => ?_)
          clear hcall
          refine W.widen (k := 2) (n := 370) (Nat.le_of_ble_eq_true rfl) (Nat.le_of_ble_eq_true rfl) ?_
          exact xw_iret hx hb hr hlocks hw h dPL_account_59
        · replace h := h.2 hc
          refine lv_ldc (v := (-2000000004)) hx hb hown (hts _ mw_92) dPL_account_32 ?_
          refine W.widen (k := 2) (n := 370) (Nat.le_of_ble_eq_true rfl) (Nat.le_of_ble_eq_true rfl) ?_
          exact xw_iret hx hb hr hlocks hw h dPL_account_34
      · replace h := h.2 hc
        refine lv_ldc (v := (-2000000002)) hx hb hown (hts _ mw_77) dPL_account_17 ?_
        refine W.widen (k := 2) (n := 370) (Nat.le_of_ble_eq_true rfl) (Nat.le_of_ble_eq_true rfl) ?_
        exact xw_iret hx hb hr hlocks hw h dPL_account_19
def wp_PL_isWithin (E : xE_T) (post : Int32 → xw_T → Prop) (w : xw_T) (p0 : Int64) (p1 : Int64) (p2 : Int64) : Prop := (p0 < p1 → (post 0 w)) ∧ (¬ p0 < p1 → ((p2 < p0 → (post 0 w)) ∧ (¬ p2 < p0 → (post 1 w))))
set_option maxHeartbeats 4000000 in
set_option maxRecDepth 100000 in
theorem c_PL_isWithin (l : Launch) (D : va_G) (E : xE_T) (A : Nat → Prop) (post : Int32 → xw_T → Prop) (w : xw_T) (p0 : Int64) (p1 : Int64) (p2 : Int64) (h : wp_PL_isWithin E post w p0 p1 p2) : Met l yPL_isWithin (xW yPL_isWithin cPL_isWithin 6 (some (.boolean))) ({ frames := 0, cells := 0, slots := 0, locals := 0 } : Room) (va_Pc [.long p0, .long p1, .long p2] (xP D E A w)) (va_Qi post (xB D A) A) 0 0 A := by
  refine Met.ofW (cc := cPL_isWithin) (maxL := 6) (ret := (some (.boolean))) (by decide) rfl ?_
  intro p e s m args below meth c s₁ B hml hv
  obtain ⟨rfl, hw, hK, hE⟩ := hv
  have hx := B.exec
  have hb := B.bytes
  have hr := B.returns
  have hts : ∀ w ∈ xTB, w.before _ s = true := fun w hw => atoms_spec (ws := xW yPL_isWithin cPL_isWithin 6 (some (.boolean))) B.pre w (List.mem_cons_of_mem _ hw)
  have hown : s.vm.findClass RPL = some m.cls := findClass_of_methodNamed B.named
  have hlocks := B.notSynchronized
  have hw : xw_S D vwCl A s.heap w s.heap [] := xw_S0 hw
  refine xl_start (lvs := [(0, .long p0), (2, .long p1), (4, .long p2)]) (by first | exact Nat.le_of_ble_eq_true rfl | simp [lg_sl, va_rf_cat, xcat_i, xcat_l, xcat_r, xcat_n]) (by first | rfl | simp [lv_args, va_rf_cat, xcat_i, xcat_l, xcat_r, xcat_n]) (fun ls hl => ?_)
  unfold wp_PL_isWithin at h
  refine lv_lload_n hx hb dPL_isWithin_0 rfl (lv_at hl 0 rfl) ?_
  refine lv_lload_n hx hb dPL_isWithin_1 rfl (lv_at hl 1 rfl) ?_
  refine xl_lc_lt (tgt := 17) hx hb dPL_isWithin_2 dPL_isWithin_3 rfl (fun hc => ?_) (fun hc => ?_)
  · replace h := h.1 hc
    refine lv_iconst (v := 0) hx hb dPL_isWithin_17 (by decide) ?_
    refine W.widen (k := 0) (n := 0) (Nat.le_of_ble_eq_true rfl) (Nat.le_of_ble_eq_true rfl) ?_
    exact xw_zret (by decide) hx hb hr hlocks hw h dPL_isWithin_18
  · replace h := h.2 hc
    refine lv_lload_n hx hb dPL_isWithin_6 rfl (lv_at hl 0 rfl) ?_
    refine lv_lload hx hb dPL_isWithin_7 (lv_at hl 2 rfl) ?_
    refine xl_lc_gt (tgt := 17) hx hb dPL_isWithin_9 dPL_isWithin_10 rfl (fun hc => ?_) (fun hc => ?_)
    · replace h := h.1 hc
      refine lv_iconst (v := 0) hx hb dPL_isWithin_17 (by decide) ?_
      refine W.widen (k := 0) (n := 0) (Nat.le_of_ble_eq_true rfl) (Nat.le_of_ble_eq_true rfl) ?_
      exact xw_zret (by decide) hx hb hr hlocks hw h dPL_isWithin_18
    · replace h := h.2 hc
      refine lv_iconst (v := 1) hx hb dPL_isWithin_13 (by decide) ?_
      refine lv_goto (tgt := 18) hx hb dPL_isWithin_14 rfl ?_
      refine W.widen (k := 0) (n := 0) (Nat.le_of_ble_eq_true rfl) (Nat.le_of_ble_eq_true rfl) ?_
      exact xw_zret (by decide) hx hb hr hlocks hw h dPL_isWithin_18
def wp_PL_isDay (E : xE_T) (post : Int32 → xw_T → Prop) (w : xw_T) (p0 : Int64) : Prop := wp_PL_isWithin E (fun r1 w2 => narrow (.boolean) (.int r1) = .int r1 ∧ post r1 w2) w p0 0 20000
set_option maxHeartbeats 4000000 in
set_option maxRecDepth 100000 in
theorem c_PL_isDay (l : Launch) (D : va_G) (E : xE_T) (A : Nat → Prop) (post : Int32 → xw_T → Prop) (w : xw_T) (p0 : Int64) (h : wp_PL_isDay E post w p0) : Met l yPL_isDay (xW yPL_isDay cPL_isDay 2 (some (.boolean))) ({ frames := 1, cells := 0, slots := 0, locals := 25 } : Room) (va_Pc [.long p0] (xP D E A w)) (va_Qi post (xB D A) A) 0 0 A := by
  refine Met.ofW (cc := cPL_isDay) (maxL := 2) (ret := (some (.boolean))) (by decide) rfl ?_
  intro p e s m args below meth c s₁ B hml hv
  obtain ⟨rfl, hw, hK, hE⟩ := hv
  have hx := B.exec
  have hb := B.bytes
  have hr := B.returns
  have hts : ∀ w ∈ xTB, w.before _ s = true := fun w hw => atoms_spec (ws := xW yPL_isDay cPL_isDay 2 (some (.boolean))) B.pre w (List.mem_cons_of_mem _ hw)
  have hown : s.vm.findClass RPL = some m.cls := findClass_of_methodNamed B.named
  have hlocks := B.notSynchronized
  have hw : xw_S D vwCl A s.heap w s.heap [] := xw_S0 hw
  refine xl_start (lvs := [(0, .long p0)]) (by first | exact Nat.le_of_ble_eq_true rfl | simp [lg_sl, va_rf_cat, xcat_i, xcat_l, xcat_r, xcat_n]) (by first | rfl | simp [lv_args, va_rf_cat, xcat_i, xcat_l, xcat_r, xcat_n]) (fun ls hl => ?_)
  unfold wp_PL_isDay at h
  refine lv_lload_n hx hb dPL_isDay_0 rfl (lv_at hl 0 rfl) ?_
  refine lv_lconst (v := 0) hx hb dPL_isDay_1 (by decide) ?_
  refine lv_ldc2 (v := 20000) hx hb hown (hts _ mw_100) dPL_isDay_2 ?_
  have hcall := h
  clear h
  refine xw_calli (va_runS (As := [.long p0, .long 0, .long 20000]) (rest := []) ⟨hx, hb, hml, hown, hts⟩ (c_PL_isWithin l D E A _ w p0 0 20000 hcall) (va_cwS 3 hts (xG_S mw_97 mw_98 mw_95 mw_99) rfl rfl rfl (by decide +kernel) ⟨(Nat.le_of_ble_eq_true rfl), (Nat.le_of_ble_eq_true rfl)⟩) (xw_preS hw hK hE) rfl rfl hl.1 rfl (lv_room (by first | exact Nat.le_of_ble_eq_true rfl | simp [va_rf_cat, xcat_i, xcat_l, xcat_r, xcat_n])) dPL_isDay_5 ⟨(Nat.le_of_ble_eq_true rfl), (Nat.le_of_ble_eq_true rfl)⟩) hw (fun r1 w2 H locs h hw => ?_)
  clear hcall
  obtain ⟨hnz, h⟩ := h
  refine W.widen (k := 0) (n := 0) (Nat.le_of_ble_eq_true rfl) (Nat.le_of_ble_eq_true rfl) ?_
  exact xw_zret hnz hx hb hr hlocks hw h dPL_isDay_8
def wp_PL_isClosed (E : xE_T) (post : Int32 → xw_T → Prop) (w : xw_T) (h0 : Nat) (p0 : Int64) : Prop := ∃ v1, xgI w h0 4 2 = some v1 ∧ ((v1.toInt64 ≤ p0 → (post 0 w)) ∧ (¬ v1.toInt64 ≤ p0 → (post 1 w)))
set_option maxHeartbeats 4000000 in
set_option maxRecDepth 100000 in
theorem c_PL_isClosed (l : Launch) (D : va_G) (E : xE_T) (A : Nat → Prop) (post : Int32 → xw_T → Prop) (w : xw_T) (h0 : Nat) (p0 : Int64) (h : wp_PL_isClosed E post w h0 p0) : Met l yPL_isClosed (xW yPL_isClosed cPL_isClosed 3 (some (.boolean))) ({ frames := 0, cells := 0, slots := 0, locals := 0 } : Room) (va_Pc [.ref h0, .long p0] (xP D E A w)) (va_Qi post (xB D A) A) 0 0 A := by
  refine Met.ofW (cc := cPL_isClosed) (maxL := 3) (ret := (some (.boolean))) (by decide) rfl ?_
  intro p e s m args below meth c s₁ B hml hv
  obtain ⟨rfl, hw, hK, hE⟩ := hv
  have hx := B.exec
  have hb := B.bytes
  have hr := B.returns
  have hts : ∀ w ∈ xTB, w.before _ s = true := fun w hw => atoms_spec (ws := xW yPL_isClosed cPL_isClosed 3 (some (.boolean))) B.pre w (List.mem_cons_of_mem _ hw)
  have hown : s.vm.findClass RPL = some m.cls := findClass_of_methodNamed B.named
  have hlocks := B.notSynchronized
  have hw : xw_S D vwCl A s.heap w s.heap [] := xw_S0 hw
  refine xl_start (lvs := [(0, .ref h0), (1, .long p0)]) (by first | exact Nat.le_of_ble_eq_true rfl | simp [lg_sl, va_rf_cat, xcat_i, xcat_l, xcat_r, xcat_n]) (by first | rfl | simp [lv_args, va_rf_cat, xcat_i, xcat_l, xcat_r, xcat_n]) (fun ls hl => ?_)
  unfold wp_PL_isClosed at h
  refine lv_lload_n hx hb dPL_isClosed_0 rfl (lv_at hl 1 rfl) ?_
  refine lv_aload_n hx hb dPL_isClosed_1 rfl (lv_at hl 0 rfl) ?_
  obtain ⟨v1, hv, h⟩ := h
  refine xw_getI (C := RPL) (T := TPL) (N := 4) (ref := RPL) hx hb hts inPL hown hK hw rfl 2 (by decide) (hts _ mw_15) (fun _ h9 => h9) hv dPL_isClosed_2 ?_
  refine lv_i2l hx hb dPL_isClosed_5 rfl ?_
  refine xl_lc_ge (tgt := 14) hx hb dPL_isClosed_6 dPL_isClosed_7 rfl (fun hc => ?_) (fun hc => ?_)
  · replace h := h.1 hc
    refine lv_iconst (v := 0) hx hb dPL_isClosed_14 (by decide) ?_
    refine W.widen (k := 0) (n := 0) (Nat.le_of_ble_eq_true rfl) (Nat.le_of_ble_eq_true rfl) ?_
    exact xw_zret (by decide) hx hb hr hlocks hw h dPL_isClosed_15
  · replace h := h.2 hc
    refine lv_iconst (v := 1) hx hb dPL_isClosed_10 (by decide) ?_
    refine lv_goto (tgt := 15) hx hb dPL_isClosed_11 rfl ?_
    refine W.widen (k := 0) (n := 0) (Nat.le_of_ble_eq_true rfl) (Nat.le_of_ble_eq_true rfl) ?_
    exact xw_zret (by decide) hx hb hr hlocks hw h dPL_isClosed_15
def wp_PL_hasRoomForBatch (E : xE_T) (post : Int32 → xw_T → Prop) (w : xw_T) (h0 : Nat) : Prop := ∃ v1, xgR w h0 4 1 = some v1 ∧ (∃ a2 : Nat, v1 = some a2 ∧ ((∃ fs, w a2 = some (.inr (0, fs))) ∧ wp_AL_size E (fun r3 w4 => (300 ≤ r3 → (post 0 w4)) ∧ (¬ 300 ≤ r3 → (post 1 w4))) w a2))
set_option maxHeartbeats 4000000 in
set_option maxRecDepth 100000 in
theorem c_PL_hasRoomForBatch (l : Launch) (D : va_G) (E : xE_T) (A : Nat → Prop) (post : Int32 → xw_T → Prop) (w : xw_T) (h0 : Nat) (h : wp_PL_hasRoomForBatch E post w h0) : Met l yPL_hasRoomForBatch (xW yPL_hasRoomForBatch cPL_hasRoomForBatch 1 (some (.boolean))) ({ frames := 1, cells := 0, slots := 0, locals := 20 } : Room) (va_Pc [.ref h0] (xP D E A w)) (va_Qi post (xB D A) A) 0 0 A := by
  refine Met.ofW (cc := cPL_hasRoomForBatch) (maxL := 1) (ret := (some (.boolean))) (by decide) rfl ?_
  intro p e s m args below meth c s₁ B hml hv
  obtain ⟨rfl, hw, hK, hE⟩ := hv
  have hx := B.exec
  have hb := B.bytes
  have hr := B.returns
  have hts : ∀ w ∈ xTB, w.before _ s = true := fun w hw => atoms_spec (ws := xW yPL_hasRoomForBatch cPL_hasRoomForBatch 1 (some (.boolean))) B.pre w (List.mem_cons_of_mem _ hw)
  have hown : s.vm.findClass RPL = some m.cls := findClass_of_methodNamed B.named
  have hlocks := B.notSynchronized
  have hw : xw_S D vwCl A s.heap w s.heap [] := xw_S0 hw
  refine xl_start (lvs := [(0, .ref h0)]) (by first | exact Nat.le_of_ble_eq_true rfl | simp [lg_sl, va_rf_cat, xcat_i, xcat_l, xcat_r, xcat_n]) (by first | rfl | simp [lv_args, va_rf_cat, xcat_i, xcat_l, xcat_r, xcat_n]) (fun ls hl => ?_)
  unfold wp_PL_hasRoomForBatch at h
  refine lv_aload_n hx hb dPL_hasRoomForBatch_0 rfl (lv_at hl 0 rfl) ?_
  obtain ⟨v1, hv, h⟩ := h
  refine xw_getR (C := RPL) (T := TPL) (N := 4) (ref := RPL) hx hb hts inPL hown hK hw rfl 1 (by decide) (hts _ mw_16) (fun _ h9 => h9) hv dPL_hasRoomForBatch_1 ?_
  obtain ⟨a2, rfl, h⟩ := h
  obtain ⟨⟨fs, hk⟩, h⟩ := h
  have hcall := h
  clear h
  refine xw_calli (va_runV (As := []) (rest := []) ⟨hx, hb, hml, hown, hts⟩ (c_AL_size l D E A _ w a2 hcall) (cwV 0 hts (xG_V mw_78 mw_79 mw_80 mw_19 mw_81) rfl rfl rfl (by decide +kernel) ⟨(Nat.le_of_ble_eq_true rfl), (Nat.le_of_ble_eq_true rfl)⟩) (xw_preV (ci := 0) hw hK hE rfl hk) rfl rfl hl.1 rfl (lv_room (by first | exact Nat.le_of_ble_eq_true rfl | simp [va_rf_cat, xcat_i, xcat_l, xcat_r, xcat_n])) dPL_hasRoomForBatch_4 ⟨(Nat.le_of_ble_eq_true rfl), (Nat.le_of_ble_eq_true rfl)⟩) hw (fun r3 w4 H locs h hw => ?_)
  clear hcall
  refine lv_sipush (v := 300) hx hb dPL_hasRoomForBatch_7 (by decide) ?_
  refine lv_icmp_ge (tgt := 17) hx hb dPL_hasRoomForBatch_10 rfl (fun hc => ?_) (fun hc => ?_)
  · replace h := h.1 hc
    refine lv_iconst (v := 0) hx hb dPL_hasRoomForBatch_17 (by decide) ?_
    refine W.widen (k := 0) (n := 0) (Nat.le_of_ble_eq_true rfl) (Nat.le_of_ble_eq_true rfl) ?_
    exact xw_zret (by decide) hx hb hr hlocks hw h dPL_hasRoomForBatch_18
  · replace h := h.2 hc
    refine lv_iconst (v := 1) hx hb dPL_hasRoomForBatch_13 (by decide) ?_
    refine lv_goto (tgt := 18) hx hb dPL_hasRoomForBatch_14 rfl ?_
    refine W.widen (k := 0) (n := 0) (Nat.le_of_ble_eq_true rfl) (Nat.le_of_ble_eq_true rfl) ?_
    exact xw_zret (by decide) hx hb hr hlocks hw h dPL_hasRoomForBatch_18
def wp_BA_init (E : xE_T) (post : xw_T → Prop) (w : xw_T) (h0 : Nat) (p0 : Int32) : Prop := (∃ v0, xg w h0 2 0 = some v0) ∧ ∀ w1, w1 = xp w h0 0 (.int p0) → (∀ q2 : Nat, (w1 q2 = none ∧ q2 ≠ E.2 6) → ∀ w3, w3 = va_up w1 q2 (some (.inr (0, [.int 0, .null, .int 0]))) → (wp_AL_init E (fun w5 => (∃ v0, xg w5 h0 2 1 = some v0) ∧ ∀ w6, w6 = xp w5 h0 1 (.ref q2) → ((∃ v0, xg w6 h0 2 2 = some v0) ∧ ∀ w7, w7 = xp w6 h0 2 (.ref (E.2 0)) → (post w7))) w3 q2))
set_option maxHeartbeats 4000000 in
set_option maxRecDepth 100000 in
theorem c_BA_init (l : Launch) (D : va_G) (E : xE_T) (A : Nat → Prop) (post : xw_T → Prop) (w : xw_T) (h0 : Nat) (p0 : Int32) (h : wp_BA_init E post w h0 p0) : Met l yBA_init (xW yBA_init cBA_init 2 none) ({ frames := 4, cells := 1, slots := 3, locals := 72 } : Room) (va_Pc [.ref h0, .int p0] (xP D E A w)) (va_Qv post (xB D A) A) 1 3 A := by
  refine Met.ofW (cc := cBA_init) (maxL := 2) (ret := none) (by decide) rfl ?_
  intro p e s m args below meth c s₁ B hml hv
  obtain ⟨rfl, hw, hK, hE⟩ := hv
  have hx := B.exec
  have hb := B.bytes
  have hr := B.returns
  have hts : ∀ w ∈ xTB, w.before _ s = true := fun w hw => atoms_spec (ws := xW yBA_init cBA_init 2 none) B.pre w (List.mem_cons_of_mem _ hw)
  have hown : s.vm.findClass RBA = some m.cls := findClass_of_methodNamed B.named
  have hlocks := B.notSynchronized
  have hin : meth.name = "<init>" := (name_of_methodNamed B.named B.method).1
  have hw : xw_S D vwCl A s.heap w s.heap [] := xw_S0 hw
  refine xl_start (lvs := [(0, .ref h0), (1, .int p0)]) (by first | exact Nat.le_of_ble_eq_true rfl | simp [lg_sl, va_rf_cat, xcat_i, xcat_l, xcat_r, xcat_n]) (by first | rfl | simp [lv_args, va_rf_cat, xcat_i, xcat_l, xcat_r, xcat_n]) (fun ls hl => ?_)
  unfold wp_BA_init at h
  refine lv_aload_n hx hb dBA_init_0 rfl (lv_at hl 0 rfl) ?_
  refine W.objInit hx hb hown (hts _ mw_107) (hts _ mw_1) (hts _ mw_2) rfl (by rw [hml]; exact hl.1) rfl dBA_init_1 (Nat.le_of_ble_eq_true rfl) (Nat.le_of_ble_eq_true rfl) ?_
  refine lv_aload_n hx hb dBA_init_4 rfl (lv_at hl 0 rfl) ?_
  refine lv_iload_n hx hb dBA_init_5 rfl (lv_at hl 1 rfl) ?_
  obtain ⟨hv, h⟩ := h
  refine xw_putF (ty := (.int)) (C := RBA) (T := TBA) (N := 6) (ref := RBA) hx hb hts inBA tyBA tyBA_ok nmBA hown hK hw rfl 0 (by decide) (hts _ mw_106) (fun _ h9 => h9) rfl hin rfl (by decide +kernel) rfl rfl hv dBA_init_6 (fun H locs hw => ?_)
  replace h := h _ rfl
  generalize xp w h0 0 (.int p0) = w1 at hw h
  refine lv_aload_n hx hb dBA_init_9 rfl (lv_at hl 0 rfl) ?_
  refine xw_new (ci := 0) (fs := [.int 0, .null, .int 0]) (C := RAL) (T := TAL) (N := 3) hx hb hts inAL tyAL tyAL_ok hown (hts _ mw_105) (hts _ mw_22) (hts _ mw_19) hK hw rfl (by decide +kernel) (Nat.le_of_ble_eq_true rfl) (Nat.le_of_ble_eq_true rfl) dBA_init_10 (fun q2 H hq hqA hw => ?_)
  replace h := h _ ⟨hq, xq6 hE hqA⟩ _ rfl
  generalize va_up w1 q2 (some (.inr (0, [.int 0, .null, .int 0]))) = w3 at hw h
  refine lv_dup hx hb dBA_init_13 rfl ?_
  have hcall := h
  clear h
  refine xw_callv (va_runI (As := []) (rest := [.ref q2, .ref h0]) ⟨hx, hb, hml, hown, hts⟩ (c_AL_init l D E A _ w3 q2 hcall) (cwI 0 hts (xG_I mw_18) rfl rfl rfl (hts _ mw_19) (hts _ mw_104) (hts _ mw_20) rfl (by decide +kernel) ⟨(Nat.le_of_ble_eq_true rfl), (Nat.le_of_ble_eq_true rfl)⟩) (xw_preS hw hK hE) rfl rfl hl.1 rfl (lv_room (by first | exact Nat.le_of_ble_eq_true rfl | simp [va_rf_cat, xcat_i, xcat_l, xcat_r, xcat_n])) dBA_init_14 ⟨(Nat.le_of_ble_eq_true rfl), (Nat.le_of_ble_eq_true rfl)⟩) hw (fun w5 H locs h hw => ?_)
  clear hcall
  obtain ⟨hv, h⟩ := h
  refine xw_putF (ty := (.object "java/util/ArrayList")) (C := RBA) (T := TBA) (N := 6) (ref := RBA) hx hb hts inBA tyBA tyBA_ok nmBA hown hK hw rfl 1 (by decide) (hts _ mw_103) (fun _ h9 => h9) rfl hin rfl (by decide +kernel) rfl rfl hv dBA_init_17 (fun H locs hw => ?_)
  replace h := h _ rfl
  generalize xp w5 h0 1 (.ref q2) = w6 at hw h
  refine lv_aload_n hx hb dBA_init_20 rfl (lv_at hl 0 rfl) ?_
  refine va_gets hx hb hE.2.2.1.1 hw.2.1 hown (hts _ mw_102) (fun _ h9 => h9) dBA_init_21 ?_
  obtain ⟨hv, h⟩ := h
  refine xw_put (ty := (.object "PostLedger$Standing")) (C := RBA) (T := TBA) (N := 6) (ref := RBA) hx hb hts inBA tyBA tyBA_ok nmBA hown hK hw rfl 2 (by decide) (hts _ mw_101) (fun _ h9 => h9) rfl (by decide +kernel) rfl rfl hv dBA_init_24 (fun H locs hw => ?_)
  replace h := h _ rfl
  generalize xp w6 h0 2 (.ref (E.2 0)) = w7 at hw h
  refine W.widen (k := 1) (n := 3) (Nat.le_of_ble_eq_true rfl) (Nat.le_of_ble_eq_true rfl) ?_
  exact xw_vret hx hb hr hlocks hw h dBA_init_27
def wp_PL_batch (E : xE_T) (post : Int32 → xw_T → Prop) (w : xw_T) (h0 : Nat) (p0 : Int64) : Prop := wp_PL_isDay E (fun r1 w2 => (¬ r1 = 0 → ((∃ fs, w2 h0 = some (.inr (4, fs))) ∧ wp_PL_isClosed E (fun r3 w4 => (r3 = 0 → ((∃ fs, w4 h0 = some (.inr (4, fs))) ∧ wp_PL_hasRoomForBatch E (fun r5 w6 => (¬ r5 = 0 → (∃ v7, xgR w6 h0 4 1 = some v7 ∧ (∀ q8 : Nat, (w6 q8 = none ∧ q8 ≠ E.2 6) → ∀ w9, w9 = va_up w6 q8 (some (.inr (2, [.int 0, .null, .null, .int 0, .int 0, .int 0]))) → (wp_BA_init E (fun w11 => ∃ a12 : Nat, v7 = some a12 ∧ ((∃ fs, w11 a12 = some (.inr (0, fs))) ∧ wp_AL_add E (fun r13 w14 => ∃ v15, xgR w14 h0 4 1 = some v15 ∧ (∃ a16 : Nat, v15 = some a16 ∧ ((∃ fs, w14 a16 = some (.inr (0, fs))) ∧ wp_AL_size E (fun r17 w18 => post r17 w18) w14 a16))) w11 a12 (some q8))) w9 q8 p0.toInt32)))) ∧ (r5 = 0 → (post (-2000000004) w6))) w4 h0)) ∧ (¬ r3 = 0 → (post (-2000000003) w4))) w2 h0 p0)) ∧ (r1 = 0 → (post (-2000000002) w2))) w p0
set_option maxHeartbeats 4000000 in
set_option maxRecDepth 100000 in
theorem c_PL_batch (l : Launch) (D : va_G) (E : xE_T) (A : Nat → Prop) (post : Int32 → xw_T → Prop) (w : xw_T) (h0 : Nat) (p0 : Int64) (h : wp_PL_batch E post w h0 p0) : Met l yPL_batch (xW yPL_batch cPL_batch 3 (some (.int))) ({ frames := 7, cells := 3, slots := 375, locals := 149 } : Room) (va_Pc [.ref h0, .long p0] (xP D E A w)) (va_Qi post (xB D A) A) 3 375 A := by
  refine Met.ofW (cc := cPL_batch) (maxL := 3) (ret := (some (.int))) (by decide) rfl ?_
  intro p e s m args below meth c s₁ B hml hv
  obtain ⟨rfl, hw, hK, hE⟩ := hv
  have hx := B.exec
  have hb := B.bytes
  have hr := B.returns
  have hts : ∀ w ∈ xTB, w.before _ s = true := fun w hw => atoms_spec (ws := xW yPL_batch cPL_batch 3 (some (.int))) B.pre w (List.mem_cons_of_mem _ hw)
  have hown : s.vm.findClass RPL = some m.cls := findClass_of_methodNamed B.named
  have hlocks := B.notSynchronized
  have hw : xw_S D vwCl A s.heap w s.heap [] := xw_S0 hw
  refine xl_start (lvs := [(0, .ref h0), (1, .long p0)]) (by first | exact Nat.le_of_ble_eq_true rfl | simp [lg_sl, va_rf_cat, xcat_i, xcat_l, xcat_r, xcat_n]) (by first | rfl | simp [lv_args, va_rf_cat, xcat_i, xcat_l, xcat_r, xcat_n]) (fun ls hl => ?_)
  unfold wp_PL_batch at h
  refine lv_lload_n hx hb dPL_batch_0 rfl (lv_at hl 1 rfl) ?_
  have hcall := h
  clear h
  refine xw_calli (va_runS (As := [.long p0]) (rest := []) ⟨hx, hb, hml, hown, hts⟩ (c_PL_isDay l D E A _ w p0 hcall) (va_cwS 1 hts (xG_S mw_123 mw_124 mw_95 mw_125) rfl rfl rfl (by decide +kernel) ⟨(Nat.le_of_ble_eq_true rfl), (Nat.le_of_ble_eq_true rfl)⟩) (xw_preS hw hK hE) rfl rfl hl.1 rfl (lv_room (by first | exact Nat.le_of_ble_eq_true rfl | simp [va_rf_cat, xcat_i, xcat_l, xcat_r, xcat_n])) dPL_batch_1 ⟨(Nat.le_of_ble_eq_true rfl), (Nat.le_of_ble_eq_true rfl)⟩) hw (fun r1 w2 H locs h hw => ?_)
  clear hcall
  refine lv_if_ne (tgt := 10) hx hb dPL_batch_4 rfl (fun hc => ?_) (fun hc => ?_)
  · replace h := h.1 hc
    refine lv_aload_n hx hb dPL_batch_10 rfl (lv_at hl 0 rfl) ?_
    refine lv_lload_n hx hb dPL_batch_11 rfl (lv_at hl 1 rfl) ?_
    obtain ⟨⟨fs, hk⟩, h⟩ := h
    have hcall := h
    clear h
    refine xw_calli (va_runV (As := [.long p0]) (rest := []) ⟨hx, hb, hml, hown, hts⟩ (c_PL_isClosed l D E A _ w2 h0 p0 hcall) (cwV 1 hts (xG_V mw_119 mw_120 mw_121 mw_95 mw_122) rfl rfl rfl (by decide +kernel) ⟨(Nat.le_of_ble_eq_true rfl), (Nat.le_of_ble_eq_true rfl)⟩) (xw_preV (ci := 4) hw hK hE rfl hk) rfl rfl hl.1 rfl (lv_room (by first | exact Nat.le_of_ble_eq_true rfl | simp [va_rf_cat, xcat_i, xcat_l, xcat_r, xcat_n])) dPL_batch_12 ⟨(Nat.le_of_ble_eq_true rfl), (Nat.le_of_ble_eq_true rfl)⟩) hw (fun r3 w4 H locs h hw => ?_)
    clear hcall
    refine lv_if_eq (tgt := 21) hx hb dPL_batch_15 rfl (fun hc => ?_) (fun hc => ?_)
    · replace h := h.1 hc
      refine lv_aload_n hx hb dPL_batch_21 rfl (lv_at hl 0 rfl) ?_
      obtain ⟨⟨fs, hk⟩, h⟩ := h
      have hcall := h
      clear h
      refine xw_calli (va_runV (As := []) (rest := []) ⟨hx, hb, hml, hown, hts⟩ (c_PL_hasRoomForBatch l D E A _ w4 h0 hcall) (cwV 0 hts (xG_V mw_114 mw_115 mw_116 mw_95 mw_117) rfl rfl rfl (by decide +kernel) ⟨(Nat.le_of_ble_eq_true rfl), (Nat.le_of_ble_eq_true rfl)⟩) (xw_preV (ci := 4) hw hK hE rfl hk) rfl rfl hl.1 rfl (lv_room (by first | exact Nat.le_of_ble_eq_true rfl | simp [va_rf_cat, xcat_i, xcat_l, xcat_r, xcat_n])) dPL_batch_22 ⟨(Nat.le_of_ble_eq_true rfl), (Nat.le_of_ble_eq_true rfl)⟩) hw (fun r5 w6 H locs h hw => ?_)
      clear hcall
      refine lv_if_ne (tgt := 31) hx hb dPL_batch_25 rfl (fun hc => ?_) (fun hc => ?_)
      · replace h := h.1 hc
        refine lv_aload_n hx hb dPL_batch_31 rfl (lv_at hl 0 rfl) ?_
        obtain ⟨v7, hv, h⟩ := h
        refine xw_getR (C := RPL) (T := TPL) (N := 4) (ref := RPL) hx hb hts inPL hown hK hw rfl 1 (by decide) (hts _ mw_16) (fun _ h9 => h9) hv dPL_batch_32 ?_
        refine xw_new (ci := 2) (fs := [.int 0, .null, .null, .int 0, .int 0, .int 0]) (C := RBA) (T := TBA) (N := 6) hx hb hts inBA tyBA tyBA_ok hown (hts _ mw_112) (hts _ mw_113) (hts _ mw_110) hK hw rfl (by decide +kernel) (Nat.le_of_ble_eq_true rfl) (Nat.le_of_ble_eq_true rfl) dPL_batch_35 (fun q8 H hq hqA hw => ?_)
        replace h := h _ ⟨hq, xq6 hE hqA⟩ _ rfl
        generalize va_up w6 q8 (some (.inr (2, [.int 0, .null, .null, .int 0, .int 0, .int 0]))) = w9 at hw h
        refine lv_dup hx hb dPL_batch_38 rfl ?_
        refine lv_lload_n hx hb dPL_batch_39 rfl (lv_at hl 1 rfl) ?_
        refine lv_l2i hx hb dPL_batch_40 rfl ?_
        have hcall := h
        clear h
        refine xw_callv (va_runI (As := [.int p0.toInt32]) (rest := [.ref q8, va_rf v7]) ⟨hx, hb, hml, hown, hts⟩ (c_BA_init l D E A _ w9 q8 p0.toInt32 hcall) (cwI 1 hts (xG_I mw_109) rfl rfl rfl (hts _ mw_110) (hts _ mw_108) (hts _ mw_111) rfl (by decide +kernel) ⟨(Nat.le_of_ble_eq_true rfl), (Nat.le_of_ble_eq_true rfl)⟩) (xw_preS hw hK hE) rfl rfl hl.1 rfl (lv_room (by first | exact Nat.le_of_ble_eq_true rfl | simp [va_rf_cat, xcat_i, xcat_l, xcat_r, xcat_n])) dPL_batch_41 ⟨(Nat.le_of_ble_eq_true rfl), (Nat.le_of_ble_eq_true rfl)⟩) hw (fun w11 H locs h hw => ?_)
        clear hcall
        obtain ⟨a12, rfl, h⟩ := h
        obtain ⟨⟨fs, hk⟩, h⟩ := h
        have hcall := h
        clear h
        refine xw_calli (va_runV (As := [.ref q8]) (rest := []) ⟨hx, hb, hml, hown, hts⟩ (c_AL_add l D E A _ w11 a12 (some q8) hcall) (cwV 1 hts (xG_V mw_82 mw_83 mw_84 mw_19 mw_85) rfl rfl rfl (by decide +kernel) ⟨(Nat.le_of_ble_eq_true rfl), (Nat.le_of_ble_eq_true rfl)⟩) (xw_preV (ci := 0) hw hK hE rfl hk) rfl rfl hl.1 rfl (lv_room (by first | exact Nat.le_of_ble_eq_true rfl | simp [va_rf_cat, xcat_i, xcat_l, xcat_r, xcat_n])) dPL_batch_44 ⟨(Nat.le_of_ble_eq_true rfl), (Nat.le_of_ble_eq_true rfl)⟩) hw (fun r13 w14 H locs h hw => ?_)
        clear hcall
        refine lv_pop hx hb dPL_batch_47 rfl ?_
        refine lv_aload_n hx hb dPL_batch_48 rfl (lv_at hl 0 rfl) ?_
        obtain ⟨v15, hv, h⟩ := h
        refine xw_getR (C := RPL) (T := TPL) (N := 4) (ref := RPL) hx hb hts inPL hown hK hw rfl 1 (by decide) (hts _ mw_16) (fun _ h9 => h9) hv dPL_batch_49 ?_
        obtain ⟨a16, rfl, h⟩ := h
        obtain ⟨⟨fs, hk⟩, h⟩ := h
        have hcall := h
        clear h
        refine xw_calli (va_runV (As := []) (rest := []) ⟨hx, hb, hml, hown, hts⟩ (c_AL_size l D E A _ w14 a16 hcall) (cwV 0 hts (xG_V mw_78 mw_79 mw_80 mw_19 mw_81) rfl rfl rfl (by decide +kernel) ⟨(Nat.le_of_ble_eq_true rfl), (Nat.le_of_ble_eq_true rfl)⟩) (xw_preV (ci := 0) hw hK hE rfl hk) rfl rfl hl.1 rfl (lv_room (by first | exact Nat.le_of_ble_eq_true rfl | simp [va_rf_cat, xcat_i, xcat_l, xcat_r, xcat_n])) dPL_batch_52 ⟨(Nat.le_of_ble_eq_true rfl), (Nat.le_of_ble_eq_true rfl)⟩) hw (fun r17 w18 H locs h hw => ?_)
        clear hcall
        refine W.widen (k := 3) (n := 375) (Nat.le_of_ble_eq_true rfl) (Nat.le_of_ble_eq_true rfl) ?_
        exact xw_iret hx hb hr hlocks hw h dPL_batch_55
      · replace h := h.2 hc
        refine lv_ldc (v := (-2000000004)) hx hb hown (hts _ mw_92) dPL_batch_28 ?_
        refine W.widen (k := 3) (n := 375) (Nat.le_of_ble_eq_true rfl) (Nat.le_of_ble_eq_true rfl) ?_
        exact xw_iret hx hb hr hlocks hw h dPL_batch_30
    · replace h := h.2 hc
      refine lv_ldc (v := (-2000000003)) hx hb hown (hts _ mw_118) dPL_batch_18 ?_
      refine W.widen (k := 3) (n := 375) (Nat.le_of_ble_eq_true rfl) (Nat.le_of_ble_eq_true rfl) ?_
      exact xw_iret hx hb hr hlocks hw h dPL_batch_20
  · replace h := h.2 hc
    refine lv_ldc (v := (-2000000002)) hx hb hown (hts _ mw_77) dPL_batch_7 ?_
    refine W.widen (k := 3) (n := 375) (Nat.le_of_ble_eq_true rfl) (Nat.le_of_ble_eq_true rfl) ?_
    exact xw_iret hx hb hr hlocks hw h dPL_batch_9
def wp_PL_findBatch (E : xE_T) (post : Option Nat → xw_T → Prop) (w : xw_T) (h0 : Nat) (p0 : Int32) : Prop := (p0 < 1 → (post none w)) ∧ (¬ p0 < 1 → (∃ v1, xgR w h0 4 1 = some v1 ∧ (∃ a2 : Nat, v1 = some a2 ∧ ((∃ fs, w a2 = some (.inr (0, fs))) ∧ wp_AL_size E (fun r3 w4 => (r3 < p0 → (post none w4)) ∧ (¬ r3 < p0 → (∃ v5, xgR w4 h0 4 1 = some v5 ∧ (∃ a6 : Nat, v5 = some a6 ∧ ((∃ fs, w4 a6 = some (.inr (0, fs))) ∧ wp_AL_get E (fun r7 w8 => ∃ a9 : Nat, r7 = some a9 ∧ ((∃ fs, w8 a9 = some (.inr (2, fs))) ∧ (post (some a9) w8))) w4 a6 (p0 - 1)))))) w a2))))
set_option maxHeartbeats 4000000 in
set_option maxRecDepth 100000 in
theorem c_PL_findBatch (l : Launch) (D : va_G) (E : xE_T) (A : Nat → Prop) (post : Option Nat → xw_T → Prop) (w : xw_T) (h0 : Nat) (p0 : Int32) (h : wp_PL_findBatch E post w h0 p0) : Met l yPL_findBatch (xW yPL_findBatch cPL_findBatch 2 (some (.object "PostLedger$Batch"))) ({ frames := 3, cells := 0, slots := 0, locals := 64 } : Room) (va_Pc [.ref h0, .int p0] (xP D E A w)) (va_Qq post (xB D A) A) 0 0 A := by
  refine Met.ofW (cc := cPL_findBatch) (maxL := 2) (ret := (some (.object "PostLedger$Batch"))) (by decide) rfl ?_
  intro p e s m args below meth c s₁ B hml hv
  obtain ⟨rfl, hw, hK, hE⟩ := hv
  have hx := B.exec
  have hb := B.bytes
  have hr := B.returns
  have hts : ∀ w ∈ xTB, w.before _ s = true := fun w hw => atoms_spec (ws := xW yPL_findBatch cPL_findBatch 2 (some (.object "PostLedger$Batch"))) B.pre w (List.mem_cons_of_mem _ hw)
  have hown : s.vm.findClass RPL = some m.cls := findClass_of_methodNamed B.named
  have hlocks := B.notSynchronized
  have hw : xw_S D vwCl A s.heap w s.heap [] := xw_S0 hw
  refine xl_start (lvs := [(0, .ref h0), (1, .int p0)]) (by first | exact Nat.le_of_ble_eq_true rfl | simp [lg_sl, va_rf_cat, xcat_i, xcat_l, xcat_r, xcat_n]) (by first | rfl | simp [lv_args, va_rf_cat, xcat_i, xcat_l, xcat_r, xcat_n]) (fun ls hl => ?_)
  unfold wp_PL_findBatch at h
  refine lv_iload_n hx hb dPL_findBatch_0 rfl (lv_at hl 1 rfl) ?_
  refine lv_iconst (v := 1) hx hb dPL_findBatch_1 (by decide) ?_
  refine lv_icmp_lt (tgt := 32) hx hb dPL_findBatch_2 rfl (fun hc => ?_) (fun hc => ?_)
  · replace h := h.1 hc
    refine lv_null hx hb dPL_findBatch_32 ?_
    refine W.widen (k := 0) (n := 0) (Nat.le_of_ble_eq_true rfl) (Nat.le_of_ble_eq_true rfl) ?_
    exact xw_aret (r := none) (Or.inl ⟨_, rfl⟩) hx hb hr hlocks hw h dPL_findBatch_33
  · replace h := h.2 hc
    refine lv_iload_n hx hb dPL_findBatch_5 rfl (lv_at hl 1 rfl) ?_
    refine lv_aload_n hx hb dPL_findBatch_6 rfl (lv_at hl 0 rfl) ?_
    obtain ⟨v1, hv, h⟩ := h
    refine xw_getR (C := RPL) (T := TPL) (N := 4) (ref := RPL) hx hb hts inPL hown hK hw rfl 1 (by decide) (hts _ mw_16) (fun _ h9 => h9) hv dPL_findBatch_7 ?_
    obtain ⟨a2, rfl, h⟩ := h
    obtain ⟨⟨fs, hk⟩, h⟩ := h
    have hcall := h
    clear h
    refine xw_calli (va_runV (As := []) (rest := [.int p0]) ⟨hx, hb, hml, hown, hts⟩ (c_AL_size l D E A _ w a2 hcall) (cwV 0 hts (xG_V mw_78 mw_79 mw_80 mw_19 mw_81) rfl rfl rfl (by decide +kernel) ⟨(Nat.le_of_ble_eq_true rfl), (Nat.le_of_ble_eq_true rfl)⟩) (xw_preV (ci := 0) hw hK hE rfl hk) rfl rfl hl.1 rfl (lv_room (by first | exact Nat.le_of_ble_eq_true rfl | simp [va_rf_cat, xcat_i, xcat_l, xcat_r, xcat_n])) dPL_findBatch_10 ⟨(Nat.le_of_ble_eq_true rfl), (Nat.le_of_ble_eq_true rfl)⟩) hw (fun r3 w4 H locs h hw => ?_)
    clear hcall
    refine lv_icmp_gt (tgt := 32) hx hb dPL_findBatch_13 rfl (fun hc => ?_) (fun hc => ?_)
    · replace h := h.1 hc
      refine lv_null hx hb dPL_findBatch_32 ?_
      refine W.widen (k := 0) (n := 0) (Nat.le_of_ble_eq_true rfl) (Nat.le_of_ble_eq_true rfl) ?_
      exact xw_aret (r := none) (Or.inl ⟨_, rfl⟩) hx hb hr hlocks hw h dPL_findBatch_33
    · replace h := h.2 hc
      refine lv_aload_n hx hb dPL_findBatch_16 rfl (lv_at hl 0 rfl) ?_
      obtain ⟨v5, hv, h⟩ := h
      refine xw_getR (C := RPL) (T := TPL) (N := 4) (ref := RPL) hx hb hts inPL hown hK hw rfl 1 (by decide) (hts _ mw_16) (fun _ h9 => h9) hv dPL_findBatch_17 ?_
      refine lv_iload_n hx hb dPL_findBatch_20 rfl (lv_at hl 1 rfl) ?_
      refine lv_iconst (v := 1) hx hb dPL_findBatch_21 (by decide) ?_
      refine lv_isub hx hb dPL_findBatch_22 ?_
      obtain ⟨a6, rfl, h⟩ := h
      obtain ⟨⟨fs, hk⟩, h⟩ := h
      have hcall := h
      clear h
      refine xw_callq (va_runV (As := [.int (p0 - 1)]) (rest := []) ⟨hx, hb, hml, hown, hts⟩ (c_AL_get l D E A _ w4 a6 (p0 - 1) hcall) (cwV 1 hts (xG_V mw_138 mw_139 mw_140 mw_19 mw_141) rfl rfl rfl (by decide +kernel) ⟨(Nat.le_of_ble_eq_true rfl), (Nat.le_of_ble_eq_true rfl)⟩) (xw_preV (ci := 0) hw hK hE rfl hk) rfl rfl hl.1 rfl (lv_room (by first | exact Nat.le_of_ble_eq_true rfl | simp [va_rf_cat, xcat_i, xcat_l, xcat_r, xcat_n])) dPL_findBatch_23 ⟨(Nat.le_of_ble_eq_true rfl), (Nat.le_of_ble_eq_true rfl)⟩) hw (fun r7 w8 H locs h hw => ?_)
      clear hcall
      obtain ⟨a9, rfl, h⟩ := h
      obtain ⟨⟨fs, hk⟩, h⟩ := h
      refine va_castS hx hb hown (hts _ mw_112) (hK.1 2 _ rfl).2 (xw_recv hK hw (ci := 2) rfl hk) dPL_findBatch_26 ?_
      refine lv_goto (tgt := 33) hx hb dPL_findBatch_29 rfl ?_
      refine W.widen (k := 0) (n := 0) (Nat.le_of_ble_eq_true rfl) (Nat.le_of_ble_eq_true rfl) ?_
      exact xw_aret (r := (some a9)) (Or.inl ⟨_, rfl⟩) hx hb hr hlocks hw h dPL_findBatch_33
def wp_PL_findAccount (E : xE_T) (post : Option Nat → xw_T → Prop) (w : xw_T) (h0 : Nat) (p0 : Int32) : Prop := (p0 < 1 → (post none w)) ∧ (¬ p0 < 1 → (∃ v1, xgR w h0 4 0 = some v1 ∧ (∃ a2 : Nat, v1 = some a2 ∧ ((∃ fs, w a2 = some (.inr (0, fs))) ∧ wp_AL_size E (fun r3 w4 => (r3 < p0 → (post none w4)) ∧ (¬ r3 < p0 → (∃ v5, xgR w4 h0 4 0 = some v5 ∧ (∃ a6 : Nat, v5 = some a6 ∧ ((∃ fs, w4 a6 = some (.inr (0, fs))) ∧ wp_AL_get E (fun r7 w8 => ∃ a9 : Nat, r7 = some a9 ∧ ((∃ fs, w8 a9 = some (.inr (1, fs))) ∧ (post (some a9) w8))) w4 a6 (p0 - 1)))))) w a2))))
set_option maxHeartbeats 4000000 in
set_option maxRecDepth 100000 in
theorem c_PL_findAccount (l : Launch) (D : va_G) (E : xE_T) (A : Nat → Prop) (post : Option Nat → xw_T → Prop) (w : xw_T) (h0 : Nat) (p0 : Int32) (h : wp_PL_findAccount E post w h0 p0) : Met l yPL_findAccount (xW yPL_findAccount cPL_findAccount 2 (some (.object "PostLedger$Account"))) ({ frames := 3, cells := 0, slots := 0, locals := 64 } : Room) (va_Pc [.ref h0, .int p0] (xP D E A w)) (va_Qq post (xB D A) A) 0 0 A := by
  refine Met.ofW (cc := cPL_findAccount) (maxL := 2) (ret := (some (.object "PostLedger$Account"))) (by decide) rfl ?_
  intro p e s m args below meth c s₁ B hml hv
  obtain ⟨rfl, hw, hK, hE⟩ := hv
  have hx := B.exec
  have hb := B.bytes
  have hr := B.returns
  have hts : ∀ w ∈ xTB, w.before _ s = true := fun w hw => atoms_spec (ws := xW yPL_findAccount cPL_findAccount 2 (some (.object "PostLedger$Account"))) B.pre w (List.mem_cons_of_mem _ hw)
  have hown : s.vm.findClass RPL = some m.cls := findClass_of_methodNamed B.named
  have hlocks := B.notSynchronized
  have hw : xw_S D vwCl A s.heap w s.heap [] := xw_S0 hw
  refine xl_start (lvs := [(0, .ref h0), (1, .int p0)]) (by first | exact Nat.le_of_ble_eq_true rfl | simp [lg_sl, va_rf_cat, xcat_i, xcat_l, xcat_r, xcat_n]) (by first | rfl | simp [lv_args, va_rf_cat, xcat_i, xcat_l, xcat_r, xcat_n]) (fun ls hl => ?_)
  unfold wp_PL_findAccount at h
  refine lv_iload_n hx hb dPL_findAccount_0 rfl (lv_at hl 1 rfl) ?_
  refine lv_iconst (v := 1) hx hb dPL_findAccount_1 (by decide) ?_
  refine lv_icmp_lt (tgt := 32) hx hb dPL_findAccount_2 rfl (fun hc => ?_) (fun hc => ?_)
  · replace h := h.1 hc
    refine lv_null hx hb dPL_findAccount_32 ?_
    refine W.widen (k := 0) (n := 0) (Nat.le_of_ble_eq_true rfl) (Nat.le_of_ble_eq_true rfl) ?_
    exact xw_aret (r := none) (Or.inl ⟨_, rfl⟩) hx hb hr hlocks hw h dPL_findAccount_33
  · replace h := h.2 hc
    refine lv_iload_n hx hb dPL_findAccount_5 rfl (lv_at hl 1 rfl) ?_
    refine lv_aload_n hx hb dPL_findAccount_6 rfl (lv_at hl 0 rfl) ?_
    obtain ⟨v1, hv, h⟩ := h
    refine xw_getR (C := RPL) (T := TPL) (N := 4) (ref := RPL) hx hb hts inPL hown hK hw rfl 0 (by decide) (hts _ mw_23) (fun _ h9 => h9) hv dPL_findAccount_7 ?_
    obtain ⟨a2, rfl, h⟩ := h
    obtain ⟨⟨fs, hk⟩, h⟩ := h
    have hcall := h
    clear h
    refine xw_calli (va_runV (As := []) (rest := [.int p0]) ⟨hx, hb, hml, hown, hts⟩ (c_AL_size l D E A _ w a2 hcall) (cwV 0 hts (xG_V mw_78 mw_79 mw_80 mw_19 mw_81) rfl rfl rfl (by decide +kernel) ⟨(Nat.le_of_ble_eq_true rfl), (Nat.le_of_ble_eq_true rfl)⟩) (xw_preV (ci := 0) hw hK hE rfl hk) rfl rfl hl.1 rfl (lv_room (by first | exact Nat.le_of_ble_eq_true rfl | simp [va_rf_cat, xcat_i, xcat_l, xcat_r, xcat_n])) dPL_findAccount_10 ⟨(Nat.le_of_ble_eq_true rfl), (Nat.le_of_ble_eq_true rfl)⟩) hw (fun r3 w4 H locs h hw => ?_)
    clear hcall
    refine lv_icmp_gt (tgt := 32) hx hb dPL_findAccount_13 rfl (fun hc => ?_) (fun hc => ?_)
    · replace h := h.1 hc
      refine lv_null hx hb dPL_findAccount_32 ?_
      refine W.widen (k := 0) (n := 0) (Nat.le_of_ble_eq_true rfl) (Nat.le_of_ble_eq_true rfl) ?_
      exact xw_aret (r := none) (Or.inl ⟨_, rfl⟩) hx hb hr hlocks hw h dPL_findAccount_33
    · replace h := h.2 hc
      refine lv_aload_n hx hb dPL_findAccount_16 rfl (lv_at hl 0 rfl) ?_
      obtain ⟨v5, hv, h⟩ := h
      refine xw_getR (C := RPL) (T := TPL) (N := 4) (ref := RPL) hx hb hts inPL hown hK hw rfl 0 (by decide) (hts _ mw_23) (fun _ h9 => h9) hv dPL_findAccount_17 ?_
      refine lv_iload_n hx hb dPL_findAccount_20 rfl (lv_at hl 1 rfl) ?_
      refine lv_iconst (v := 1) hx hb dPL_findAccount_21 (by decide) ?_
      refine lv_isub hx hb dPL_findAccount_22 ?_
      obtain ⟨a6, rfl, h⟩ := h
      obtain ⟨⟨fs, hk⟩, h⟩ := h
      have hcall := h
      clear h
      refine xw_callq (va_runV (As := [.int (p0 - 1)]) (rest := []) ⟨hx, hb, hml, hown, hts⟩ (c_AL_get l D E A _ w4 a6 (p0 - 1) hcall) (cwV 1 hts (xG_V mw_138 mw_139 mw_140 mw_19 mw_141) rfl rfl rfl (by decide +kernel) ⟨(Nat.le_of_ble_eq_true rfl), (Nat.le_of_ble_eq_true rfl)⟩) (xw_preV (ci := 0) hw hK hE rfl hk) rfl rfl hl.1 rfl (lv_room (by first | exact Nat.le_of_ble_eq_true rfl | simp [va_rf_cat, xcat_i, xcat_l, xcat_r, xcat_n])) dPL_findAccount_23 ⟨(Nat.le_of_ble_eq_true rfl), (Nat.le_of_ble_eq_true rfl)⟩) hw (fun r7 w8 H locs h hw => ?_)
      clear hcall
      obtain ⟨a9, rfl, h⟩ := h
      obtain ⟨⟨fs, hk⟩, h⟩ := h
      refine va_castS hx hb hown (hts _ mw_90) (hK.1 1 _ rfl).2 (xw_recv hK hw (ci := 1) rfl hk) dPL_findAccount_26 ?_
      refine lv_goto (tgt := 33) hx hb dPL_findAccount_29 rfl ?_
      refine W.widen (k := 0) (n := 0) (Nat.le_of_ble_eq_true rfl) (Nat.le_of_ble_eq_true rfl) ?_
      exact xw_aret (r := (some a9)) (Or.inl ⟨_, rfl⟩) hx hb hr hlocks hw h dPL_findAccount_33
def wp_BA_isOpen (E : xE_T) (post : Int32 → xw_T → Prop) (w : xw_T) (h0 : Nat) : Prop := ∃ v1, xgR w h0 2 2 = some v1 ∧ ((¬ v1 = (some (E.2 0)) → (post 0 w)) ∧ (v1 = (some (E.2 0)) → (post 1 w)))
set_option maxHeartbeats 4000000 in
set_option maxRecDepth 100000 in
theorem c_BA_isOpen (l : Launch) (D : va_G) (E : xE_T) (A : Nat → Prop) (post : Int32 → xw_T → Prop) (w : xw_T) (h0 : Nat) (h : wp_BA_isOpen E post w h0) : Met l yBA_isOpen (xW yBA_isOpen cBA_isOpen 1 (some (.boolean))) ({ frames := 0, cells := 0, slots := 0, locals := 0 } : Room) (va_Pc [.ref h0] (xP D E A w)) (va_Qi post (xB D A) A) 0 0 A := by
  refine Met.ofW (cc := cBA_isOpen) (maxL := 1) (ret := (some (.boolean))) (by decide) rfl ?_
  intro p e s m args below meth c s₁ B hml hv
  obtain ⟨rfl, hw, hK, hE⟩ := hv
  have hx := B.exec
  have hb := B.bytes
  have hr := B.returns
  have hts : ∀ w ∈ xTB, w.before _ s = true := fun w hw => atoms_spec (ws := xW yBA_isOpen cBA_isOpen 1 (some (.boolean))) B.pre w (List.mem_cons_of_mem _ hw)
  have hown : s.vm.findClass RBA = some m.cls := findClass_of_methodNamed B.named
  have hlocks := B.notSynchronized
  have hw : xw_S D vwCl A s.heap w s.heap [] := xw_S0 hw
  refine xl_start (lvs := [(0, .ref h0)]) (by first | exact Nat.le_of_ble_eq_true rfl | simp [lg_sl, va_rf_cat, xcat_i, xcat_l, xcat_r, xcat_n]) (by first | rfl | simp [lv_args, va_rf_cat, xcat_i, xcat_l, xcat_r, xcat_n]) (fun ls hl => ?_)
  unfold wp_BA_isOpen at h
  refine lv_aload_n hx hb dBA_isOpen_0 rfl (lv_at hl 0 rfl) ?_
  obtain ⟨v1, hv, h⟩ := h
  refine xw_getR (C := RBA) (T := TBA) (N := 6) (ref := RBA) hx hb hts inBA hown hK hw rfl 2 (by decide) (hts _ mw_101) (fun _ h9 => h9) hv dBA_isOpen_1 ?_
  refine va_gets hx hb hE.2.2.1.1 hw.2.1 hown (hts _ mw_102) (fun _ h9 => h9) dBA_isOpen_4 ?_
  refine lv_acmp_ne (rx := v1) (ry := (some (E.2 0))) (tgt := 14) hx hb dBA_isOpen_7 rfl (fun hc => ?_) (fun hc => ?_)
  · replace h := h.1 hc
    refine lv_iconst (v := 0) hx hb dBA_isOpen_14 (by decide) ?_
    refine W.widen (k := 0) (n := 0) (Nat.le_of_ble_eq_true rfl) (Nat.le_of_ble_eq_true rfl) ?_
    exact xw_zret (by decide) hx hb hr hlocks hw h dBA_isOpen_15
  · replace h := h.2 hc
    refine lv_iconst (v := 1) hx hb dBA_isOpen_10 (by decide) ?_
    refine lv_goto (tgt := 15) hx hb dBA_isOpen_11 rfl ?_
    refine W.widen (k := 0) (n := 0) (Nat.le_of_ble_eq_true rfl) (Nat.le_of_ble_eq_true rfl) ?_
    exact xw_zret (by decide) hx hb hr hlocks hw h dBA_isOpen_15
def wp_BA_isFull (E : xE_T) (post : Int32 → xw_T → Prop) (w : xw_T) (h0 : Nat) : Prop := ∃ v1, xgR w h0 2 1 = some v1 ∧ (∃ a2 : Nat, v1 = some a2 ∧ ((∃ fs, w a2 = some (.inr (0, fs))) ∧ wp_AL_size E (fun r3 w4 => (r3 < 12 → (post 0 w4)) ∧ (¬ r3 < 12 → (post 1 w4))) w a2))
set_option maxHeartbeats 4000000 in
set_option maxRecDepth 100000 in
theorem c_BA_isFull (l : Launch) (D : va_G) (E : xE_T) (A : Nat → Prop) (post : Int32 → xw_T → Prop) (w : xw_T) (h0 : Nat) (h : wp_BA_isFull E post w h0) : Met l yBA_isFull (xW yBA_isFull cBA_isFull 1 (some (.boolean))) ({ frames := 1, cells := 0, slots := 0, locals := 20 } : Room) (va_Pc [.ref h0] (xP D E A w)) (va_Qi post (xB D A) A) 0 0 A := by
  refine Met.ofW (cc := cBA_isFull) (maxL := 1) (ret := (some (.boolean))) (by decide) rfl ?_
  intro p e s m args below meth c s₁ B hml hv
  obtain ⟨rfl, hw, hK, hE⟩ := hv
  have hx := B.exec
  have hb := B.bytes
  have hr := B.returns
  have hts : ∀ w ∈ xTB, w.before _ s = true := fun w hw => atoms_spec (ws := xW yBA_isFull cBA_isFull 1 (some (.boolean))) B.pre w (List.mem_cons_of_mem _ hw)
  have hown : s.vm.findClass RBA = some m.cls := findClass_of_methodNamed B.named
  have hlocks := B.notSynchronized
  have hw : xw_S D vwCl A s.heap w s.heap [] := xw_S0 hw
  refine xl_start (lvs := [(0, .ref h0)]) (by first | exact Nat.le_of_ble_eq_true rfl | simp [lg_sl, va_rf_cat, xcat_i, xcat_l, xcat_r, xcat_n]) (by first | rfl | simp [lv_args, va_rf_cat, xcat_i, xcat_l, xcat_r, xcat_n]) (fun ls hl => ?_)
  unfold wp_BA_isFull at h
  refine lv_aload_n hx hb dBA_isFull_0 rfl (lv_at hl 0 rfl) ?_
  obtain ⟨v1, hv, h⟩ := h
  refine xw_getR (C := RBA) (T := TBA) (N := 6) (ref := RBA) hx hb hts inBA hown hK hw rfl 1 (by decide) (hts _ mw_103) (fun _ h9 => h9) hv dBA_isFull_1 ?_
  obtain ⟨a2, rfl, h⟩ := h
  obtain ⟨⟨fs, hk⟩, h⟩ := h
  have hcall := h
  clear h
  refine xw_calli (va_runV (As := []) (rest := []) ⟨hx, hb, hml, hown, hts⟩ (c_AL_size l D E A _ w a2 hcall) (cwV 0 hts (xG_V mw_142 mw_79 mw_80 mw_19 mw_81) rfl rfl rfl (by decide +kernel) ⟨(Nat.le_of_ble_eq_true rfl), (Nat.le_of_ble_eq_true rfl)⟩) (xw_preV (ci := 0) hw hK hE rfl hk) rfl rfl hl.1 rfl (lv_room (by first | exact Nat.le_of_ble_eq_true rfl | simp [va_rf_cat, xcat_i, xcat_l, xcat_r, xcat_n])) dBA_isFull_4 ⟨(Nat.le_of_ble_eq_true rfl), (Nat.le_of_ble_eq_true rfl)⟩) hw (fun r3 w4 H locs h hw => ?_)
  clear hcall
  refine lv_bipush (v := 12) hx hb dBA_isFull_7 (by decide) ?_
  refine lv_icmp_lt (tgt := 16) hx hb dBA_isFull_9 rfl (fun hc => ?_) (fun hc => ?_)
  · replace h := h.1 hc
    refine lv_iconst (v := 0) hx hb dBA_isFull_16 (by decide) ?_
    refine W.widen (k := 0) (n := 0) (Nat.le_of_ble_eq_true rfl) (Nat.le_of_ble_eq_true rfl) ?_
    exact xw_zret (by decide) hx hb hr hlocks hw h dBA_isFull_17
  · replace h := h.2 hc
    refine lv_iconst (v := 1) hx hb dBA_isFull_12 (by decide) ?_
    refine lv_goto (tgt := 17) hx hb dBA_isFull_13 rfl ?_
    refine W.widen (k := 0) (n := 0) (Nat.le_of_ble_eq_true rfl) (Nat.le_of_ble_eq_true rfl) ?_
    exact xw_zret (by decide) hx hb hr hlocks hw h dBA_isFull_17
