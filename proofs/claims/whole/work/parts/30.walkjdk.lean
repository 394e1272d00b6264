/-! meanings and walks: JDK 0 -/
def wp_AN_init (E : xE_T) (post : xw_T → Prop) (w : xw_T) (h0 : Nat) : Prop := post w
set_option maxHeartbeats 4000000 in
set_option maxRecDepth 100000 in
theorem c_AN_init (l : Launch) (D : va_G) (E : xE_T) (A : Nat → Prop) (post : xw_T → Prop) (w : xw_T) (h0 : Nat) (h : wp_AN_init E post w h0) : Met l yAN_init (xW yAN_init cAN_init 1 none) ({ frames := 1, cells := 0, slots := 0, locals := 12 } : Room) (va_Pc [.ref h0] (xP D E A w)) (va_Qv post (xB D A) A) 0 0 A := by
  refine Met.ofW (cc := cAN_init) (maxL := 1) (ret := none) (by decide) rfl ?_
  intro p e s m args below meth c s₁ B hml hv
  obtain ⟨rfl, hw, hK, hE⟩ := hv
  have hx := B.exec
  have hb := B.bytes
  have hr := B.returns
  have hts : ∀ w ∈ xTB, w.before _ s = true := fun w hw => atoms_spec (ws := xW yAN_init cAN_init 1 none) B.pre w (List.mem_cons_of_mem _ hw)
  have hown : s.vm.findClass RAN = some m.cls := findClass_of_methodNamed B.named
  have hlocks := B.notSynchronized
  have hin : meth.name = "<init>" := (name_of_methodNamed B.named B.method).1
  have hw : xw_S D vwCl A s.heap w s.heap [] := xw_S0 hw
  refine xl_start (lvs := [(0, .ref h0)]) (by first | exact Nat.le_of_ble_eq_true rfl | simp [lg_sl, va_rf_cat, xcat_i, xcat_l, xcat_r, xcat_n]) (by first | rfl | simp [lv_args, va_rf_cat, xcat_i, xcat_l, xcat_r, xcat_n]) (fun ls hl => ?_)
  unfold wp_AN_init at h
  refine lv_aload_n hx hb dAN_init_0 rfl (lv_at hl 0 rfl) ?_
  refine W.objInit hx hb hown (hts _ mw_0) (hts _ mw_1) (hts _ mw_2) rfl (by rw [hml]; exact hl.1) rfl dAN_init_1 (Nat.le_of_ble_eq_true rfl) (Nat.le_of_ble_eq_true rfl) ?_
  refine W.widen (k := 0) (n := 0) (Nat.le_of_ble_eq_true rfl) (Nat.le_of_ble_eq_true rfl) ?_
  exact xw_vret hx hb hr hlocks hw h dAN_init_4
def wp_AB_init (E : xE_T) (post : xw_T → Prop) (w : xw_T) (h0 : Nat) : Prop := wp_AN_init E (fun w2 => (∃ v0, xg w2 h0 0 0 = some v0) ∧ ∀ w3, w3 = xp w2 h0 0 (.int 0) → (post w3)) w h0
set_option maxHeartbeats 4000000 in
set_option maxRecDepth 100000 in
theorem c_AB_init (l : Launch) (D : va_G) (E : xE_T) (A : Nat → Prop) (post : xw_T → Prop) (w : xw_T) (h0 : Nat) (h : wp_AB_init E post w h0) : Met l yAB_init (xW yAB_init cAB_init 1 none) ({ frames := 2, cells := 0, slots := 0, locals := 32 } : Room) (va_Pc [.ref h0] (xP D E A w)) (va_Qv post (xB D A) A) 0 0 A := by
  refine Met.ofW (cc := cAB_init) (maxL := 1) (ret := none) (by decide) rfl ?_
  intro p e s m args below meth c s₁ B hml hv
  obtain ⟨rfl, hw, hK, hE⟩ := hv
  have hx := B.exec
  have hb := B.bytes
  have hr := B.returns
  have hts : ∀ w ∈ xTB, w.before _ s = true := fun w hw => atoms_spec (ws := xW yAB_init cAB_init 1 none) B.pre w (List.mem_cons_of_mem _ hw)
  have hown : s.vm.findClass RAB = some m.cls := findClass_of_methodNamed B.named
  have hlocks := B.notSynchronized
  have hin : meth.name = "<init>" := (name_of_methodNamed B.named B.method).1
  have hw : xw_S D vwCl A s.heap w s.heap [] := xw_S0 hw
  refine xl_start (lvs := [(0, .ref h0)]) (by first | exact Nat.le_of_ble_eq_true rfl | simp [lg_sl, va_rf_cat, xcat_i, xcat_l, xcat_r, xcat_n]) (by first | rfl | simp [lv_args, va_rf_cat, xcat_i, xcat_l, xcat_r, xcat_n]) (fun ls hl => ?_)
  unfold wp_AB_init at h
  refine lv_aload_n hx hb dAB_init_0 rfl (lv_at hl 0 rfl) ?_
  have hcall := h
  clear h
  refine xw_callv (va_runI (As := []) (rest := []) ⟨hx, hb, hml, hown, hts⟩ (c_AN_init l D E A _ w h0 hcall) (cwI 0 hts (xG_I mw_5) rfl rfl rfl (hts _ mw_6) (hts _ mw_4) (hts _ mw_7) rfl (by decide +kernel) ⟨(Nat.le_of_ble_eq_true rfl), (Nat.le_of_ble_eq_true rfl)⟩) (xw_preS hw hK hE) rfl rfl hl.1 rfl (lv_room (by first | exact Nat.le_of_ble_eq_true rfl | simp [va_rf_cat, xcat_i, xcat_l, xcat_r, xcat_n])) dAB_init_1 ⟨(Nat.le_of_ble_eq_true rfl), (Nat.le_of_ble_eq_true rfl)⟩) hw (fun w2 H locs h hw => ?_)
  clear hcall
  refine lv_aload_n hx hb dAB_init_4 rfl (lv_at hl 0 rfl) ?_
  refine lv_iconst (v := 0) hx hb dAB_init_5 (by decide) ?_
  obtain ⟨hv, h⟩ := h
  refine xw_put (ty := (.int)) (C := RAL) (T := TAL) (N := 3) (ref := "java/util/AbstractList") hx hb hts inAL tyAL tyAL_ok nmAL hown hK hw rfl 0 (by decide) (hts _ mw_3) (fun _ h9 => h9) rfl (by decide +kernel) rfl rfl hv dAB_init_6 (fun H locs hw => ?_)
  replace h := h _ rfl
  generalize xp w2 h0 0 (.int 0) = w3 at hw h
  refine W.widen (k := 0) (n := 0) (Nat.le_of_ble_eq_true rfl) (Nat.le_of_ble_eq_true rfl) ?_
  exact xw_vret hx hb hr hlocks hw h dAB_init_9
def wp_AL_init (E : xE_T) (post : xw_T → Prop) (w : xw_T) (h0 : Nat) : Prop := wp_AB_init E (fun w2 => (∃ v0, xg w2 h0 0 1 = some v0) ∧ ∀ w3, w3 = xp w2 h0 1 (.ref (E.2 6)) → (post w3)) w h0
set_option maxHeartbeats 4000000 in
set_option maxRecDepth 100000 in
theorem c_AL_init (l : Launch) (D : va_G) (E : xE_T) (A : Nat → Prop) (post : xw_T → Prop) (w : xw_T) (h0 : Nat) (h : wp_AL_init E post w h0) : Met l yAL_init (xW yAL_init cAL_init 1 none) ({ frames := 3, cells := 0, slots := 0, locals := 52 } : Room) (va_Pc [.ref h0] (xP D E A w)) (va_Qv post (xB D A) A) 0 0 A := by
  refine Met.ofW (cc := cAL_init) (maxL := 1) (ret := none) (by decide) rfl ?_
  intro p e s m args below meth c s₁ B hml hv
  obtain ⟨rfl, hw, hK, hE⟩ := hv
  have hx := B.exec
  have hb := B.bytes
  have hr := B.returns
  have hts : ∀ w ∈ xTB, w.before _ s = true := fun w hw => atoms_spec (ws := xW yAL_init cAL_init 1 none) B.pre w (List.mem_cons_of_mem _ hw)
  have hown : s.vm.findClass RAL = some m.cls := findClass_of_methodNamed B.named
  have hlocks := B.notSynchronized
  have hin : meth.name = "<init>" := (name_of_methodNamed B.named B.method).1
  have hw : xw_S D vwCl A s.heap w s.heap [] := xw_S0 hw
  refine xl_start (lvs := [(0, .ref h0)]) (by first | exact Nat.le_of_ble_eq_true rfl | simp [lg_sl, va_rf_cat, xcat_i, xcat_l, xcat_r, xcat_n]) (by first | rfl | simp [lv_args, va_rf_cat, xcat_i, xcat_l, xcat_r, xcat_n]) (fun ls hl => ?_)
  unfold wp_AL_init at h
  refine lv_aload_n hx hb dAL_init_0 rfl (lv_at hl 0 rfl) ?_
  have hcall := h
  clear h
  refine xw_callv (va_runI (As := []) (rest := []) ⟨hx, hb, hml, hown, hts⟩ (c_AB_init l D E A _ w h0 hcall) (cwI 0 hts (xG_I mw_11) rfl rfl rfl (hts _ mw_12) (hts _ mw_10) (hts _ mw_13) rfl (by decide +kernel) ⟨(Nat.le_of_ble_eq_true rfl), (Nat.le_of_ble_eq_true rfl)⟩) (xw_preS hw hK hE) rfl rfl hl.1 rfl (lv_room (by first | exact Nat.le_of_ble_eq_true rfl | simp [va_rf_cat, xcat_i, xcat_l, xcat_r, xcat_n])) dAL_init_1 ⟨(Nat.le_of_ble_eq_true rfl), (Nat.le_of_ble_eq_true rfl)⟩) hw (fun w2 H locs h hw => ?_)
  clear hcall
  refine lv_aload_n hx hb dAL_init_4 rfl (lv_at hl 0 rfl) ?_
  refine va_gets hx hb hE.2.2.2.2.1.1 hw.2.1 hown (hts _ mw_9) (fun _ h9 => h9) dAL_init_5 ?_
  obtain ⟨hv, h⟩ := h
  refine xw_put (ty := (.array (.object "java/lang/Object"))) (C := RAL) (T := TAL) (N := 3) (ref := RAL) hx hb hts inAL tyAL tyAL_ok nmAL hown hK hw rfl 1 (by decide) (hts _ mw_8) (fun _ h9 => h9) rfl (by decide +kernel) rfl rfl hv dAL_init_8 (fun H locs hw => ?_)
  replace h := h _ rfl
  generalize xp w2 h0 1 (.ref (E.2 6)) = w3 at hw h
  refine W.widen (k := 0) (n := 0) (Nat.le_of_ble_eq_true rfl) (Nat.le_of_ble_eq_true rfl) ?_
  exact xw_vret hx hb hr hlocks hw h dAL_init_11
def wp_AL_size (E : xE_T) (post : Int32 → xw_T → Prop) (w : xw_T) (h0 : Nat) : Prop := ∃ v1, xgI w h0 0 2 = some v1 ∧ (post v1 w)
set_option maxHeartbeats 4000000 in
set_option maxRecDepth 100000 in
theorem c_AL_size (l : Launch) (D : va_G) (E : xE_T) (A : Nat → Prop) (post : Int32 → xw_T → Prop) (w : xw_T) (h0 : Nat) (h : wp_AL_size E post w h0) : Met l yAL_size (xW yAL_size cAL_size 1 (some (.int))) ({ frames := 0, cells := 0, slots := 0, locals := 0 } : Room) (va_Pc [.ref h0] (xP D E A w)) (va_Qi post (xB D A) A) 0 0 A := by
  refine Met.ofW (cc := cAL_size) (maxL := 1) (ret := (some (.int))) (by decide) rfl ?_
  intro p e s m args below meth c s₁ B hml hv
  obtain ⟨rfl, hw, hK, hE⟩ := hv
  have hx := B.exec
  have hb := B.bytes
  have hr := B.returns
  have hts : ∀ w ∈ xTB, w.before _ s = true := fun w hw => atoms_spec (ws := xW yAL_size cAL_size 1 (some (.int))) B.pre w (List.mem_cons_of_mem _ hw)
  have hown : s.vm.findClass RAL = some m.cls := findClass_of_methodNamed B.named
  have hlocks := B.notSynchronized
  have hw : xw_S D vwCl A s.heap w s.heap [] := xw_S0 hw
  refine xl_start (lvs := [(0, .ref h0)]) (by first | exact Nat.le_of_ble_eq_true rfl | simp [lg_sl, va_rf_cat, xcat_i, xcat_l, xcat_r, xcat_n]) (by first | rfl | simp [lv_args, va_rf_cat, xcat_i, xcat_l, xcat_r, xcat_n]) (fun ls hl => ?_)
  unfold wp_AL_size at h
  refine lv_aload_n hx hb dAL_size_0 rfl (lv_at hl 0 rfl) ?_
  obtain ⟨v1, hv, h⟩ := h
  refine xw_getI (C := RAL) (T := TAL) (N := 3) (ref := RAL) hx hb hts inAL hown hK hw rfl 2 (by decide) (hts _ mw_25) (fun _ h9 => h9) hv dAL_size_1 ?_
  refine W.widen (k := 0) (n := 0) (Nat.le_of_ble_eq_true rfl) (Nat.le_of_ble_eq_true rfl) ?_
  exact xw_iret hx hb hr hlocks hw h dAL_size_4
def wp_AS_hugeLength (E : xE_T) (post : Int32 → xw_T → Prop) (w : xw_T) (p0 : Int32) (p1 : Int32) : Prop := (0 ≤ (p0 + p1) → ((2147483639 < (p0 + p1) → (post (p0 + p1) w)) ∧ (¬ 2147483639 < (p0 + p1) → (post 2147483639 w)))) ∧ (¬ 0 ≤ (p0 + p1) → (False))
set_option maxHeartbeats 4000000 in
set_option maxRecDepth 100000 in
theorem c_AS_hugeLength (l : Launch) (D : va_G) (E : xE_T) (A : Nat → Prop) (post : Int32 → xw_T → Prop) (w : xw_T) (p0 : Int32) (p1 : Int32) (h : wp_AS_hugeLength E post w p0 p1) : Met l yAS_hugeLength (xW yAS_hugeLength cAS_hugeLength 3 (some (.int))) ({ frames := 0, cells := 0, slots := 0, locals := 0 } : Room) (va_Pc [.int p0, .int p1] (xP D E A w)) (va_Qi post (xB D A) A) 0 0 A := by
  refine Met.ofW (cc := cAS_hugeLength) (maxL := 3) (ret := (some (.int))) (by decide) rfl ?_
  intro p e s m args below meth c s₁ B hml hv
  obtain ⟨rfl, hw, hK, hE⟩ := hv
  have hx := B.exec
  have hb := B.bytes
  have hr := B.returns
  have hts : ∀ w ∈ xTB, w.before _ s = true := fun w hw => atoms_spec (ws := xW yAS_hugeLength cAS_hugeLength 3 (some (.int))) B.pre w (List.mem_cons_of_mem _ hw)
  have hown : s.vm.findClass RAS = some m.cls := findClass_of_methodNamed B.named
  have hlocks := B.notSynchronized
  have hw : xw_S D vwCl A s.heap w s.heap [] := xw_S0 hw
  refine xl_start (lvs := [(0, .int p0), (1, .int p1)]) (by first | exact Nat.le_of_ble_eq_true rfl | simp [lg_sl, va_rf_cat, xcat_i, xcat_l, xcat_r, xcat_n]) (by first | rfl | simp [lv_args, va_rf_cat, xcat_i, xcat_l, xcat_r, xcat_n]) (fun ls hl => ?_)
  unfold wp_AS_hugeLength at h
  refine lv_iload_n hx hb dAS_hugeLength_0 rfl (lv_at hl 0 rfl) ?_
  refine lv_iload_n hx hb dAS_hugeLength_1 rfl (lv_at hl 1 rfl) ?_
  refine lv_iadd hx hb dAS_hugeLength_2 ?_
  refine lv_istore_n (i := 2) (lv' := [(2, .int (p0 + p1)), (0, .int p0), (1, .int p1)]) hx hb dAS_hugeLength_3 rfl hl (by decide) (by first | rfl | simp [va_rf_cat, xcat_i, xcat_l, xcat_r, xcat_n]) (fun ls hl => ?_)
  refine lv_iload_n hx hb dAS_hugeLength_4 rfl (lv_at hl 0 rfl) ?_
  refine lv_if_ge (tgt := 49) hx hb dAS_hugeLength_5 rfl (fun hc => ?_) (fun hc => ?_)
  · replace h := h.1 hc
    refine lv_iload_n hx hb dAS_hugeLength_49 rfl (lv_at hl 0 rfl) ?_
    refine lv_ldc (v := 2147483639) hx hb hown (hts _ mw_29) dAS_hugeLength_50 ?_
    refine lv_icmp_gt (tgt := 58) hx hb dAS_hugeLength_52 rfl (fun hc => ?_) (fun hc => ?_)
    · replace h := h.1 hc
      refine lv_iload_n hx hb dAS_hugeLength_58 rfl (lv_at hl 0 rfl) ?_
      refine W.widen (k := 0) (n := 0) (Nat.le_of_ble_eq_true rfl) (Nat.le_of_ble_eq_true rfl) ?_
      exact xw_iret hx hb hr hlocks hw h dAS_hugeLength_59
    · replace h := h.2 hc
      refine lv_ldc (v := 2147483639) hx hb hown (hts _ mw_29) dAS_hugeLength_55 ?_
      refine W.widen (k := 0) (n := 0) (Nat.le_of_ble_eq_true rfl) (Nat.le_of_ble_eq_true rfl) ?_
      exact xw_iret hx hb hr hlocks hw h dAS_hugeLength_57
  · replace h := h.2 hc
    exact h.elim
def wp_AS_newLength (E : xE_T) (post : Int32 → xw_T → Prop) (w : xw_T) (p0 : Int32) (p1 : Int32) (p2 : Int32) : Prop := ∀ r1 : Int32, r1 = (if p1 < p2 then p2 else p1) → (((p0 + r1) ≤ 0 → (wp_AS_hugeLength E (fun r2 w3 => post r2 w3) w p0 p1)) ∧ (¬ (p0 + r1) ≤ 0 → ((2147483639 < (p0 + r1) → (wp_AS_hugeLength E (fun r4 w5 => post r4 w5) w p0 p1)) ∧ (¬ 2147483639 < (p0 + r1) → (post (p0 + r1) w)))))
set_option maxHeartbeats 4000000 in
set_option maxRecDepth 100000 in
theorem c_AS_newLength (l : Launch) (D : va_G) (E : xE_T) (A : Nat → Prop) (post : Int32 → xw_T → Prop) (w : xw_T) (p0 : Int32) (p1 : Int32) (p2 : Int32) (h : wp_AS_newLength E post w p0 p1 p2) : Met l yAS_newLength (xW yAS_newLength cAS_newLength 4 (some (.int))) ({ frames := 1, cells := 0, slots := 0, locals := 22 } : Room) (va_Pc [.int p0, .int p1, .int p2] (xP D E A w)) (va_Qi post (xB D A) A) 0 0 A := by
  refine Met.ofW (cc := cAS_newLength) (maxL := 4) (ret := (some (.int))) (by decide) rfl ?_
  intro p e s m args below meth c s₁ B hml hv
  obtain ⟨rfl, hw, hK, hE⟩ := hv
  have hx := B.exec
  have hb := B.bytes
  have hr := B.returns
  have hts : ∀ w ∈ xTB, w.before _ s = true := fun w hw => atoms_spec (ws := xW yAS_newLength cAS_newLength 4 (some (.int))) B.pre w (List.mem_cons_of_mem _ hw)
  have hown : s.vm.findClass RAS = some m.cls := findClass_of_methodNamed B.named
  have hlocks := B.notSynchronized
  have hw : xw_S D vwCl A s.heap w s.heap [] := xw_S0 hw
  refine xl_start (lvs := [(0, .int p0), (1, .int p1), (2, .int p2)]) (by first | exact Nat.le_of_ble_eq_true rfl | simp [lg_sl, va_rf_cat, xcat_i, xcat_l, xcat_r, xcat_n]) (by first | rfl | simp [lv_args, va_rf_cat, xcat_i, xcat_l, xcat_r, xcat_n]) (fun ls hl => ?_)
  unfold wp_AS_newLength at h
  refine lv_iload_n hx hb dAS_newLength_0 rfl (lv_at hl 0 rfl) ?_
  refine lv_iload_n hx hb dAS_newLength_1 rfl (lv_at hl 1 rfl) ?_
  refine lv_iload_n hx hb dAS_newLength_2 rfl (lv_at hl 2 rfl) ?_
  refine va_mmax hx hb (hml.trans hl.1.symm) hown (hts _ mw_35) (hts _ mw_36) (hts _ mw_37) (hts _ mw_34) (Nat.le_of_ble_eq_true rfl) (by first | exact Nat.le_of_ble_eq_true rfl | simp [va_rf_cat, xcat_i, xcat_l, xcat_r, xcat_n]) (Nat.le_of_ble_eq_true rfl) (Nat.le_of_ble_eq_true rfl) dAS_newLength_3 ?_
  replace h := h _ rfl
  generalize (if p1 < p2 then p2 else p1) = r1 at h ⊢
  refine lv_iadd hx hb dAS_newLength_6 ?_
  refine lv_istore_n (i := 3) (lv' := [(3, .int (p0 + r1)), (0, .int p0), (1, .int p1), (2, .int p2)]) hx hb dAS_newLength_7 rfl hl (by decide) (by first | rfl | simp [va_rf_cat, xcat_i, xcat_l, xcat_r, xcat_n]) (fun ls hl => ?_)
  refine lv_iconst (v := 0) hx hb dAS_newLength_8 (by decide) ?_
  refine lv_iload_n hx hb dAS_newLength_9 rfl (lv_at hl 0 rfl) ?_
  refine lv_icmp_ge (tgt := 21) hx hb dAS_newLength_10 rfl (fun hc => ?_) (fun hc => ?_)
  · replace h := h.1 hc
    refine lv_iload_n hx hb dAS_newLength_21 rfl (lv_at hl 1 rfl) ?_
    refine lv_iload_n hx hb dAS_newLength_22 rfl (lv_at hl 2 rfl) ?_
    have hcall := h
    clear h
    refine xw_calli (va_runS (As := [.int p0, .int p1]) (rest := []) ⟨hx, hb, hml, hown, hts⟩ (c_AS_hugeLength l D E A _ w p0 p1 hcall) (va_cwS 2 hts (xG_S mw_30 mw_31 mw_32 mw_33) rfl rfl rfl (by decide +kernel) ⟨(Nat.le_of_ble_eq_true rfl), (Nat.le_of_ble_eq_true rfl)⟩) (xw_preS hw hK hE) rfl rfl hl.1 rfl (lv_room (by first | exact Nat.le_of_ble_eq_true rfl | simp [va_rf_cat, xcat_i, xcat_l, xcat_r, xcat_n])) dAS_newLength_23 ⟨(Nat.le_of_ble_eq_true rfl), (Nat.le_of_ble_eq_true rfl)⟩) hw (fun r2 w3 H locs h hw => ?_)
    clear hcall
    refine W.widen (k := 0) (n := 0) (Nat.le_of_ble_eq_true rfl) (Nat.le_of_ble_eq_true rfl) ?_
    exact xw_iret hx hb hr hlocks hw h dAS_newLength_26
  · replace h := h.2 hc
    refine lv_iload_n hx hb dAS_newLength_13 rfl (lv_at hl 0 rfl) ?_
    refine lv_ldc (v := 2147483639) hx hb hown (hts _ mw_29) dAS_newLength_14 ?_
    refine lv_icmp_gt (tgt := 21) hx hb dAS_newLength_16 rfl (fun hc => ?_) (fun hc => ?_)
    · replace h := h.1 hc
      refine lv_iload_n hx hb dAS_newLength_21 rfl (lv_at hl 1 rfl) ?_
      refine lv_iload_n hx hb dAS_newLength_22 rfl (lv_at hl 2 rfl) ?_
      have hcall := h
      clear h
      refine xw_calli (va_runS (As := [.int p0, .int p1]) (rest := []) ⟨hx, hb, hml, hown, hts⟩ (c_AS_hugeLength l D E A _ w p0 p1 hcall) (va_cwS 2 hts (xG_S mw_30 mw_31 mw_32 mw_33) rfl rfl rfl (by decide +kernel) ⟨(Nat.le_of_ble_eq_true rfl), (Nat.le_of_ble_eq_true rfl)⟩) (xw_preS hw hK hE) rfl rfl hl.1 rfl (lv_room (by first | exact Nat.le_of_ble_eq_true rfl | simp [va_rf_cat, xcat_i, xcat_l, xcat_r, xcat_n])) dAS_newLength_23 ⟨(Nat.le_of_ble_eq_true rfl), (Nat.le_of_ble_eq_true rfl)⟩) hw (fun r4 w5 H locs h hw => ?_)
      clear hcall
      refine W.widen (k := 0) (n := 0) (Nat.le_of_ble_eq_true rfl) (Nat.le_of_ble_eq_true rfl) ?_
      exact xw_iret hx hb hr hlocks hw h dAS_newLength_26
    · replace h := h.2 hc
      refine lv_iload_n hx hb dAS_newLength_19 rfl (lv_at hl 0 rfl) ?_
      refine W.widen (k := 0) (n := 0) (Nat.le_of_ble_eq_true rfl) (Nat.le_of_ble_eq_true rfl) ?_
      exact xw_iret hx hb hr hlocks hw h dAS_newLength_20
def wp_AR_copyOf2 (E : xE_T) (post : Option Nat → xw_T → Prop) (w : xw_T) (p0 : Option Nat) (p1 : Int32) (p2 : Option Nat) : Prop := (¬ p2 = (some (E.2 7)) → (False)) ∧ (p2 = (some (E.2 7)) → (∃ n3 : Nat, ¬ p1 < 0 ∧ p1.toNatClampNeg = n3 ∧ n3 ≤ 366 ∧ ∀ q1 : Nat, (w q1 = none ∧ q1 ≠ E.2 6) → ∀ w2, w2 = va_up w q1 (some (xcQ (E.1 0) n3 (fun _ => none))) → (∃ a4 : Nat, p0 = some a4 ∧ (∃ n5 : Nat, xlen E w2 a4 0 = some n5 ∧ (∀ r6 : Int32, r6 = (if p1 < (nI n5) then p1 else (nI n5)) → (∃ n7 f8 n9 f10, xaQ w2 a4 (E.1 0) = some (n7, f8) ∧ xaQ w2 q1 (E.1 0) = some (n9, f10) ∧ (¬ (0 : Int32) < 0 ∧ ¬ (0 : Int32) < 0 ∧ ¬ r6 < 0 ∧ (0 : Int32).toNatClampNeg + r6.toNatClampNeg ≤ n7 ∧ (0 : Int32).toNatClampNeg + r6.toNatClampNeg ≤ n9) ∧ (∀ i : Nat, i < r6.toNatClampNeg → ∀ y : Nat, f8 ((0 : Int32).toNatClampNeg + i) = some y → xOb w2 y) ∧ ∀ w11, w11 = va_up w2 q1 (some (xcQ (E.1 0) n9 (va_cpy f8 f10 (0 : Int32).toNatClampNeg (0 : Int32).toNatClampNeg r6.toNatClampNeg))) → (post (some q1) w11)))))))
set_option maxHeartbeats 4000000 in
set_option maxRecDepth 100000 in
theorem c_AR_copyOf2 (l : Launch) (D : va_G) (E : xE_T) (A : Nat → Prop) (post : Option Nat → xw_T → Prop) (w : xw_T) (p0 : Option Nat) (p1 : Int32) (p2 : Option Nat) (h : wp_AR_copyOf2 E post w p0 p1 p2) : Met l yAR_copyOf2 (xW yAR_copyOf2 cAR_copyOf2 4 (some (.array (.object "java/lang/Object")))) ({ frames := 1, cells := 1, slots := 366, locals := 18 } : Room) (va_Pc [va_rf p0, .int p1, va_rf p2] (xP D E A w)) (va_Qq post (xB D A) A) 1 366 A := by
  refine Met.ofW (cc := cAR_copyOf2) (maxL := 4) (ret := (some (.array (.object "java/lang/Object")))) (by decide) rfl ?_
  intro p e s m args below meth c s₁ B hml hv
  obtain ⟨rfl, hw, hK, hE⟩ := hv
  have hx := B.exec
  have hb := B.bytes
  have hr := B.returns
  have hts : ∀ w ∈ xTB, w.before _ s = true := fun w hw => atoms_spec (ws := xW yAR_copyOf2 cAR_copyOf2 4 (some (.array (.object "java/lang/Object")))) B.pre w (List.mem_cons_of_mem _ hw)
  have hown : s.vm.findClass RAR = some m.cls := findClass_of_methodNamed B.named
  have hlocks := B.notSynchronized
  have hw : xw_S D vwCl A s.heap w s.heap [] := xw_S0 hw
  refine xl_start (lvs := [(0, va_rf p0), (1, .int p1), (2, va_rf p2)]) (by first | exact Nat.le_of_ble_eq_true rfl | simp [lg_sl, va_rf_cat, xcat_i, xcat_l, xcat_r, xcat_n]) (by first | rfl | simp [lv_args, va_rf_cat, xcat_i, xcat_l, xcat_r, xcat_n]) (fun ls hl => ?_)
  unfold wp_AR_copyOf2 at h
  refine xl_aload_n hx hb dAR_copyOf2_0 rfl (lv_at hl 2 rfl) ?_
  refine va_ldcM (C := "[Ljava/lang/Object;") hx hb hown (hts _ mw_46) hE.2.1.2.2.1 dAR_copyOf2_1 ?_
  refine lv_acmp_ne (rx := p2) (ry := (some (E.2 7))) (tgt := 13) hx hb dAR_copyOf2_3 rfl (fun hc => ?_) (fun hc => ?_)
  · replace h := h.1 hc
    refine xl_aload_n hx hb dAR_copyOf2_13 rfl (lv_at hl 2 rfl) ?_
    exact h.elim
  · replace h := h.2 hc
    refine lv_iload_n hx hb dAR_copyOf2_6 rfl (lv_at hl 1 rfl) ?_
    obtain ⟨n3, hn0, hn1, hn2, h⟩ := h
    refine xw_newq (N' := n3) hx hb hown (hts _ mw_45) hK hE hw hn0 hn1 (by omega) (Nat.le_of_ble_eq_true rfl) (Nat.le_trans (Nat.add_le_add_left hn2 _) (Nat.le_of_ble_eq_true rfl)) dAR_copyOf2_7 (fun q1 H hq hqA hw => ?_)
    refine W.widen (k := 1) (n := 366) (Nat.le_of_ble_eq_true rfl) (Nat.add_le_add_left hn2 _) ?_
    replace h := h _ ⟨hq, xq6 hE hqA⟩ _ rfl
    generalize va_up w q1 (some (xcQ (E.1 0) n3 (fun _ => none))) = w2 at hw h
    refine lv_goto (tgt := 24) hx hb dAR_copyOf2_10 rfl ?_
    refine lv_astore_n (i := 3) (lv' := [(3, .ref q1), (0, va_rf p0), (1, .int p1), (2, va_rf p2)]) hx hb dAR_copyOf2_24 rfl hl (by decide) (by first | rfl | simp [va_rf_cat, xcat_i, xcat_l, xcat_r, xcat_n]) (fun ls hl => ?_)
    refine xl_aload_n hx hb dAR_copyOf2_25 rfl (lv_at hl 1 rfl) ?_
    refine lv_iconst (v := 0) hx hb dAR_copyOf2_26 (by decide) ?_
    refine lv_aload_n hx hb dAR_copyOf2_27 rfl (lv_at hl 0 rfl) ?_
    refine lv_iconst (v := 0) hx hb dAR_copyOf2_28 (by decide) ?_
    refine xl_aload_n hx hb dAR_copyOf2_29 rfl (lv_at hl 1 rfl) ?_
    obtain ⟨a4, rfl, h⟩ := h
    obtain ⟨n5, hn, h⟩ := h
    refine xw_len hx hb hK hE hw 0 (by decide) hn dAR_copyOf2_30 ?_
    refine lv_iload_n hx hb dAR_copyOf2_31 rfl (lv_at hl 2 rfl) ?_
    refine va_mmin hx hb (hml.trans hl.1.symm) hown (hts _ mw_43) (hts _ mw_44) (hts _ mw_37) (hts _ mw_42) (Nat.le_of_ble_eq_true rfl) (by first | exact Nat.le_of_ble_eq_true rfl | simp [va_rf_cat, xcat_i, xcat_l, xcat_r, xcat_n]) (Nat.le_of_ble_eq_true rfl) (Nat.le_of_ble_eq_true rfl) dAR_copyOf2_32 ?_
    replace h := h _ rfl
    generalize (if p1 < (nI n5) then p1 else (nI n5)) = r6 at h ⊢
    obtain ⟨n7, f8, n9, f10, ha0, ha1, hcc, hel, h⟩ := h
    refine xw_copy hx hb (hml.trans hl.1.symm) hown (hts _ mw_38) (hts _ mw_39) (hts _ mw_40) (hts _ mw_41) hK hE hw ha0 ha1 hcc hel (Nat.le_of_ble_eq_true rfl) (by first | exact Nat.le_of_ble_eq_true rfl | simp [nativeFrameWords, va_rf_cat, xcat_i, xcat_l, xcat_r, xcat_n]) dAR_copyOf2_35 (fun H locs hw => ?_)
    replace h := h _ rfl
    generalize va_up w2 q1 (some (xcQ (E.1 0) n9 (va_cpy f8 f10 (0 : Int32).toNatClampNeg (0 : Int32).toNatClampNeg r6.toNatClampNeg))) = w11 at hw h
    refine lv_aload_n hx hb dAR_copyOf2_38 rfl (lv_at hl 0 rfl) ?_
    refine W.widen (k := 1) (n := 366) (Nat.le_of_ble_eq_true rfl) (Nat.le_of_ble_eq_true rfl) ?_
    exact xw_aret (r := (some q1)) (Or.inr ⟨_, rfl⟩) hx hb hr hlocks hw h dAR_copyOf2_39
def wp_AR_copyOf (E : xE_T) (post : Option Nat → xw_T → Prop) (w : xw_T) (p0 : Option Nat) (p1 : Int32) : Prop := ∃ a1 : Nat, p0 = some a1 ∧ ((∃ n2 f3, xaQ w a1 (E.1 0) = some (n2, f3)) ∧ (wp_AR_copyOf2 E (fun r4 w5 => post r4 w5) w (some a1) p1 (some (E.2 7))))
set_option maxHeartbeats 4000000 in
set_option maxRecDepth 100000 in
theorem c_AR_copyOf (l : Launch) (D : va_G) (E : xE_T) (A : Nat → Prop) (post : Option Nat → xw_T → Prop) (w : xw_T) (p0 : Option Nat) (p1 : Int32) (h : wp_AR_copyOf E post w p0 p1) : Met l yAR_copyOf (xW yAR_copyOf cAR_copyOf 2 (some (.array (.object "java/lang/Object")))) ({ frames := 2, cells := 1, slots := 366, locals := 41 } : Room) (va_Pc [va_rf p0, .int p1] (xP D E A w)) (va_Qq post (xB D A) A) 1 366 A := by
  refine Met.ofW (cc := cAR_copyOf) (maxL := 2) (ret := (some (.array (.object "java/lang/Object")))) (by decide) rfl ?_
  intro p e s m args below meth c s₁ B hml hv
  obtain ⟨rfl, hw, hK, hE⟩ := hv
  have hx := B.exec
  have hb := B.bytes
  have hr := B.returns
  have hts : ∀ w ∈ xTB, w.before _ s = true := fun w hw => atoms_spec (ws := xW yAR_copyOf cAR_copyOf 2 (some (.array (.object "java/lang/Object")))) B.pre w (List.mem_cons_of_mem _ hw)
  have hown : s.vm.findClass RAR = some m.cls := findClass_of_methodNamed B.named
  have hlocks := B.notSynchronized
  have hw : xw_S D vwCl A s.heap w s.heap [] := xw_S0 hw
  refine xl_start (lvs := [(0, va_rf p0), (1, .int p1)]) (by first | exact Nat.le_of_ble_eq_true rfl | simp [lg_sl, va_rf_cat, xcat_i, xcat_l, xcat_r, xcat_n]) (by first | rfl | simp [lv_args, va_rf_cat, xcat_i, xcat_l, xcat_r, xcat_n]) (fun ls hl => ?_)
  unfold wp_AR_copyOf at h
  refine xl_aload_n hx hb dAR_copyOf_0 rfl (lv_at hl 0 rfl) ?_
  refine lv_iload_n hx hb dAR_copyOf_1 rfl (lv_at hl 1 rfl) ?_
  refine xl_aload_n hx hb dAR_copyOf_2 rfl (lv_at hl 0 rfl) ?_
  obtain ⟨a1, rfl, h⟩ := h
  obtain ⟨⟨n2, f3, ha⟩, h⟩ := h
  refine va_getC (C := "[Ljava/lang/Object;") hx hb (hml.trans hl.1.symm) hown (hts _ mw_51) hE.2.1.2.1.use (hts _ mw_52) (hts _ mw_53) (hts _ mw_54) hE.2.1.2.2.1 (xw_recvQ hK hw ha) (Nat.le_of_ble_eq_true rfl) (by first | exact Nat.le_of_ble_eq_true rfl | simp [va_rf_cat, xcat_i, xcat_l, xcat_r, xcat_n]) dAR_copyOf_3 ?_
  have hcall := h
  clear h
  refine xw_callq (va_runS (As := [.ref a1, .int p1, .ref (E.2 7)]) (rest := []) ⟨hx, hb, hml, hown, hts⟩ (c_AR_copyOf2 l D E A _ w (some a1) p1 (some (E.2 7)) hcall) (va_cwS 3 hts (xG_S mw_47 mw_48 mw_49 mw_50) rfl rfl rfl (by decide +kernel) ⟨(Nat.le_of_ble_eq_true rfl), (Nat.le_of_ble_eq_true rfl)⟩) (xw_preS hw hK hE) rfl rfl hl.1 rfl (lv_room (by first | exact Nat.le_of_ble_eq_true rfl | simp [va_rf_cat, xcat_i, xcat_l, xcat_r, xcat_n])) dAR_copyOf_6 ⟨(Nat.le_of_ble_eq_true rfl), (Nat.le_of_ble_eq_true rfl)⟩) hw (fun r4 w5 H locs h hw => ?_)
  clear hcall
  refine W.widen (k := 1) (n := 366) (Nat.le_of_ble_eq_true rfl) (Nat.le_of_ble_eq_true rfl) ?_
  exact xw_aret (r := r4) (Or.inr ⟨_, rfl⟩) hx hb hr hlocks hw h dAR_copyOf_9
def wp_AL_grow2 (E : xE_T) (post : Option Nat → xw_T → Prop) (w : xw_T) (h0 : Nat) (p0 : Int32) : Prop := ∃ v1, xgR w h0 0 1 = some v1 ∧ (∃ a2 : Nat, v1 = some a2 ∧ (∃ n3 : Nat, xlen E w a2 0 = some n3 ∧ ((0 < (nI n3) → (wp_AS_newLength E (fun r4 w5 => ∃ v6, xgR w5 h0 0 1 = some v6 ∧ (wp_AR_copyOf E (fun r7 w8 => (∃ v0, xg w8 h0 0 1 = some v0) ∧ ∀ w9, w9 = xp w8 h0 1 (va_rf r7) → (post r7 w9)) w5 v6 r4)) w (nI n3) (p0 - (nI n3)) ((nI n3) >>> (1 &&& 31)))) ∧ (¬ 0 < (nI n3) → (∃ v10, xgR w h0 0 1 = some v10 ∧ ((v10 = (some (E.2 6)) → (∀ r11 : Int32, r11 = (if 10 < p0 then p0 else 10) → (∃ n14 : Nat, ¬ r11 < 0 ∧ r11.toNatClampNeg = n14 ∧ n14 ≤ 366 ∧ ∀ q12 : Nat, (w q12 = none ∧ q12 ≠ E.2 6) → ∀ w13, w13 = va_up w q12 (some (xcQ (E.1 0) n14 (fun _ => none))) → ((∃ v0, xg w13 h0 0 1 = some v0) ∧ ∀ w15, w15 = xp w13 h0 1 (.ref q12) → (post (some q12) w15))))) ∧ (¬ v10 = (some (E.2 6)) → (wp_AS_newLength E (fun r16 w17 => ∃ v18, xgR w17 h0 0 1 = some v18 ∧ (wp_AR_copyOf E (fun r19 w20 => (∃ v0, xg w20 h0 0 1 = some v0) ∧ ∀ w21, w21 = xp w20 h0 1 (va_rf r19) → (post r19 w21)) w17 v18 r16)) w (nI n3) (p0 - (nI n3)) ((nI n3) >>> (1 &&& 31))))))))))
set_option maxHeartbeats 4000000 in
set_option maxRecDepth 100000 in
theorem c_AL_grow2 (l : Launch) (D : va_G) (E : xE_T) (A : Nat → Prop) (post : Option Nat → xw_T → Prop) (w : xw_T) (h0 : Nat) (p0 : Int32) (h : wp_AL_grow2 E post w h0 p0) : Met l yAL_grow2 (xW yAL_grow2 cAL_grow2 4 (some (.array (.object "java/lang/Object")))) ({ frames := 3, cells := 1, slots := 366, locals := 62 } : Room) (va_Pc [.ref h0, .int p0] (xP D E A w)) (va_Qq post (xB D A) A) 1 366 A := by
  refine Met.ofW (cc := cAL_grow2) (maxL := 4) (ret := (some (.array (.object "java/lang/Object")))) (by decide) rfl ?_
  intro p e s m args below meth c s₁ B hml hv
  obtain ⟨rfl, hw, hK, hE⟩ := hv
  have hx := B.exec
  have hb := B.bytes
  have hr := B.returns
  have hts : ∀ w ∈ xTB, w.before _ s = true := fun w hw => atoms_spec (ws := xW yAL_grow2 cAL_grow2 4 (some (.array (.object "java/lang/Object")))) B.pre w (List.mem_cons_of_mem _ hw)
  have hown : s.vm.findClass RAL = some m.cls := findClass_of_methodNamed B.named
  have hlocks := B.notSynchronized
  have hw : xw_S D vwCl A s.heap w s.heap [] := xw_S0 hw
  refine xl_start (lvs := [(0, .ref h0), (1, .int p0)]) (by first | exact Nat.le_of_ble_eq_true rfl | simp [lg_sl, va_rf_cat, xcat_i, xcat_l, xcat_r, xcat_n]) (by first | rfl | simp [lv_args, va_rf_cat, xcat_i, xcat_l, xcat_r, xcat_n]) (fun ls hl => ?_)
  unfold wp_AL_grow2 at h
  refine lv_aload_n hx hb dAL_grow2_0 rfl (lv_at hl 0 rfl) ?_
  obtain ⟨v1, hv, h⟩ := h
  refine xw_getR (C := RAL) (T := TAL) (N := 3) (ref := RAL) hx hb hts inAL hown hK hw rfl 1 (by decide) (hts _ mw_8) (fun _ h9 => h9) hv dAL_grow2_1 ?_
  obtain ⟨a2, rfl, h⟩ := h
  obtain ⟨n3, hn, h⟩ := h
  refine xw_len hx hb hK hE hw 0 (by decide) hn dAL_grow2_4 ?_
  refine lv_istore_n (i := 2) (lv' := [(2, .int (nI n3)), (0, .ref h0), (1, .int p0)]) hx hb dAL_grow2_5 rfl hl (by decide) (by first | rfl | simp [va_rf_cat, xcat_i, xcat_l, xcat_r, xcat_n]) (fun ls hl => ?_)
  refine lv_iload_n hx hb dAL_grow2_6 rfl (lv_at hl 0 rfl) ?_
  refine lv_if_gt (tgt := 20) hx hb dAL_grow2_7 rfl (fun hc => ?_) (fun hc => ?_)
  · replace h := h.1 hc
    refine lv_iload_n hx hb dAL_grow2_20 rfl (lv_at hl 0 rfl) ?_
    refine lv_iload_n hx hb dAL_grow2_21 rfl (lv_at hl 2 rfl) ?_
    refine lv_iload_n hx hb dAL_grow2_22 rfl (lv_at hl 0 rfl) ?_
    refine lv_isub hx hb dAL_grow2_23 ?_
    refine lv_iload_n hx hb dAL_grow2_24 rfl (lv_at hl 0 rfl) ?_
    refine lv_iconst (v := 1) hx hb dAL_grow2_25 (by decide) ?_
    refine lv_ishr hx hb dAL_grow2_26 ?_
    have hcall := h
    clear h
    refine xw_calli (va_runS (As := [.int (nI n3), .int (p0 - (nI n3)), .int ((nI n3) >>> (1 &&& 31))]) (rest := []) ⟨hx, hb, hml, hown, hts⟩ (c_AS_newLength l D E A _ w (nI n3) (p0 - (nI n3)) ((nI n3) >>> (1 &&& 31)) hcall) (va_cwS 3 hts (xG_S mw_58 mw_59 mw_32 mw_60) rfl rfl rfl (by decide +kernel) ⟨(Nat.le_of_ble_eq_true rfl), (Nat.le_of_ble_eq_true rfl)⟩) (xw_preS hw hK hE) rfl rfl hl.1 rfl (lv_room (by first | exact Nat.le_of_ble_eq_true rfl | simp [va_rf_cat, xcat_i, xcat_l, xcat_r, xcat_n])) dAL_grow2_27 ⟨(Nat.le_of_ble_eq_true rfl), (Nat.le_of_ble_eq_true rfl)⟩) hw (fun r4 w5 H locs h hw => ?_)
    clear hcall
    refine lv_istore_n (i := 3) (lv' := [(3, .int r4), (2, .int (nI n3)), (0, .ref h0), (1, .int p0)]) hx hb dAL_grow2_30 rfl hl (by decide) (by first | rfl | simp [va_rf_cat, xcat_i, xcat_l, xcat_r, xcat_n]) (fun ls hl => ?_)
    refine lv_aload_n hx hb dAL_grow2_31 rfl (lv_at hl 2 rfl) ?_
    refine lv_aload_n hx hb dAL_grow2_32 rfl (lv_at hl 2 rfl) ?_
    obtain ⟨v6, hv, h⟩ := h
    refine xw_getR (C := RAL) (T := TAL) (N := 3) (ref := RAL) hx hb hts inAL hown hK hw rfl 1 (by decide) (hts _ mw_8) (fun _ h9 => h9) hv dAL_grow2_33 ?_
    refine lv_iload_n hx hb dAL_grow2_36 rfl (lv_at hl 0 rfl) ?_
    have hcall := h
    clear h
    refine xw_callq (va_runS (As := [va_rf v6, .int r4]) (rest := [.ref h0]) ⟨hx, hb, hml, hown, hts⟩ (c_AR_copyOf l D E A _ w5 v6 r4 hcall) (va_cwS 2 hts (xG_S mw_55 mw_56 mw_49 mw_57) rfl rfl rfl (by decide +kernel) ⟨(Nat.le_of_ble_eq_true rfl), (Nat.le_of_ble_eq_true rfl)⟩) (xw_preS hw hK hE) rfl rfl hl.1 rfl (lv_room (by first | exact Nat.le_of_ble_eq_true rfl | simp [va_rf_cat, xcat_i, xcat_l, xcat_r, xcat_n])) dAL_grow2_37 ⟨(Nat.le_of_ble_eq_true rfl), (Nat.le_of_ble_eq_true rfl)⟩) hw (fun r7 w8 H locs h hw => ?_)
    clear hcall
    refine lv_dup_x1 hx hb dAL_grow2_40 (va_rf_cat _) rfl ?_
    obtain ⟨hv, h⟩ := h
    refine xw_put (ty := (.array (.object "java/lang/Object"))) (C := RAL) (T := TAL) (N := 3) (ref := RAL) hx hb hts inAL tyAL tyAL_ok nmAL hown hK hw rfl 1 (by decide) (hts _ mw_8) (fun _ h9 => h9) rfl (by decide +kernel) (xn_rf _ _ (Or.inr ⟨_, rfl⟩)) (xf_rf _ _ (Or.inr ⟨_, rfl⟩)) hv dAL_grow2_41 (fun H locs hw => ?_)
    replace h := h _ rfl
    generalize xp w8 h0 1 (va_rf r7) = w9 at hw h
    refine W.widen (k := 1) (n := 366) (Nat.le_of_ble_eq_true rfl) (Nat.le_of_ble_eq_true rfl) ?_
    exact xw_aret (r := r7) (Or.inr ⟨_, rfl⟩) hx hb hr hlocks hw h dAL_grow2_44
  · replace h := h.2 hc
    refine lv_aload_n hx hb dAL_grow2_10 rfl (lv_at hl 1 rfl) ?_
    obtain ⟨v10, hv, h⟩ := h
    refine xw_getR (C := RAL) (T := TAL) (N := 3) (ref := RAL) hx hb hts inAL hown hK hw rfl 1 (by decide) (hts _ mw_8) (fun _ h9 => h9) hv dAL_grow2_11 ?_
    refine va_gets hx hb hE.2.2.2.2.1.1 hw.2.1 hown (hts _ mw_9) (fun _ h9 => h9) dAL_grow2_14 ?_
    refine lv_acmp_eq (rx := v10) (ry := (some (E.2 6))) (tgt := 45) hx hb dAL_grow2_17 rfl (fun hc => ?_) (fun hc => ?_)
    · replace h := h.1 hc
      refine lv_aload_n hx hb dAL_grow2_45 rfl (lv_at hl 1 rfl) ?_
      refine lv_bipush (v := 10) hx hb dAL_grow2_46 (by decide) ?_
      refine lv_iload_n hx hb dAL_grow2_48 rfl (lv_at hl 2 rfl) ?_
      refine va_mmax hx hb (hml.trans hl.1.symm) hown (hts _ mw_62) (hts _ mw_36) (hts _ mw_37) (hts _ mw_34) (Nat.le_of_ble_eq_true rfl) (by first | exact Nat.le_of_ble_eq_true rfl | simp [va_rf_cat, xcat_i, xcat_l, xcat_r, xcat_n]) (Nat.le_of_ble_eq_true rfl) (Nat.le_of_ble_eq_true rfl) dAL_grow2_49 ?_
      replace h := h _ rfl
      generalize (if 10 < p0 then p0 else 10) = r11 at h ⊢
      obtain ⟨n14, hn0, hn1, hn2, h⟩ := h
      refine xw_newq (N' := n14) hx hb hown (hts _ mw_61) hK hE hw hn0 hn1 (by omega) (Nat.le_of_ble_eq_true rfl) (Nat.le_trans (Nat.add_le_add_left hn2 _) (Nat.le_of_ble_eq_true rfl)) dAL_grow2_52 (fun q12 H hq hqA hw => ?_)
      refine W.widen (k := 1) (n := 366) (Nat.le_of_ble_eq_true rfl) (Nat.add_le_add_left hn2 _) ?_
      replace h := h _ ⟨hq, xq6 hE hqA⟩ _ rfl
      generalize va_up w q12 (some (xcQ (E.1 0) n14 (fun _ => none))) = w13 at hw h
      refine lv_dup_x1 hx hb dAL_grow2_55 rfl rfl ?_
      obtain ⟨hv, h⟩ := h
      refine xw_put (ty := (.array (.object "java/lang/Object"))) (C := RAL) (T := TAL) (N := 3) (ref := RAL) hx hb hts inAL tyAL tyAL_ok nmAL hown hK hw rfl 1 (by decide) (hts _ mw_8) (fun _ h9 => h9) rfl (by decide +kernel) rfl rfl hv dAL_grow2_56 (fun H locs hw => ?_)
      replace h := h _ rfl
      generalize xp w13 h0 1 (.ref q12) = w15 at hw h
      refine W.widen (k := 1) (n := 366) (Nat.le_of_ble_eq_true rfl) (Nat.le_of_ble_eq_true rfl) ?_
      exact xw_aret (r := (some q12)) (Or.inr ⟨_, rfl⟩) hx hb hr hlocks hw h dAL_grow2_59
    · replace h := h.2 hc
      refine lv_iload_n hx hb dAL_grow2_20 rfl (lv_at hl 0 rfl) ?_
      refine lv_iload_n hx hb dAL_grow2_21 rfl (lv_at hl 2 rfl) ?_
      refine lv_iload_n hx hb dAL_grow2_22 rfl (lv_at hl 0 rfl) ?_
      refine lv_isub hx hb dAL_grow2_23 ?_
      refine lv_iload_n hx hb dAL_grow2_24 rfl (lv_at hl 0 rfl) ?_
      refine lv_iconst (v := 1) hx hb dAL_grow2_25 (by decide) ?_
      refine lv_ishr hx hb dAL_grow2_26 ?_
      have hcall := h
      clear h
      refine xw_calli (va_runS (As := [.int (nI n3), .int (p0 - (nI n3)), .int ((nI n3) >>> (1 &&& 31))]) (rest := []) ⟨hx, hb, hml, hown, hts⟩ (c_AS_newLength l D E A _ w (nI n3) (p0 - (nI n3)) ((nI n3) >>> (1 &&& 31)) hcall) (va_cwS 3 hts (xG_S mw_58 mw_59 mw_32 mw_60) rfl rfl rfl (by decide +kernel) ⟨(Nat.le_of_ble_eq_true rfl), (Nat.le_of_ble_eq_true rfl)⟩) (xw_preS hw hK hE) rfl rfl hl.1 rfl (lv_room (by first | exact Nat.le_of_ble_eq_true rfl | simp [va_rf_cat, xcat_i, xcat_l, xcat_r, xcat_n])) dAL_grow2_27 ⟨(Nat.le_of_ble_eq_true rfl), (Nat.le_of_ble_eq_true rfl)⟩) hw (fun r16 w17 H locs h hw => ?_)
      clear hcall
      refine lv_istore_n (i := 3) (lv' := [(3, .int r16), (2, .int (nI n3)), (0, .ref h0), (1, .int p0)]) hx hb dAL_grow2_30 rfl hl (by decide) (by first | rfl | simp [va_rf_cat, xcat_i, xcat_l, xcat_r, xcat_n]) (fun ls hl => ?_)
      refine lv_aload_n hx hb dAL_grow2_31 rfl (lv_at hl 2 rfl) ?_
      refine lv_aload_n hx hb dAL_grow2_32 rfl (lv_at hl 2 rfl) ?_
      obtain ⟨v18, hv, h⟩ := h
      refine xw_getR (C := RAL) (T := TAL) (N := 3) (ref := RAL) hx hb hts inAL hown hK hw rfl 1 (by decide) (hts _ mw_8) (fun _ h9 => h9) hv dAL_grow2_33 ?_
      refine lv_iload_n hx hb dAL_grow2_36 rfl (lv_at hl 0 rfl) ?_
      have hcall := h
      clear h
      refine xw_callq (va_runS (As := [va_rf v18, .int r16]) (rest := [.ref h0]) ⟨hx, hb, hml, hown, hts⟩ (c_AR_copyOf l D E A _ w17 v18 r16 hcall) (va_cwS 2 hts (xG_S mw_55 mw_56 mw_49 mw_57) rfl rfl rfl (by decide +kernel) ⟨(Nat.le_of_ble_eq_true rfl), (Nat.le_of_ble_eq_true rfl)⟩) (xw_preS hw hK hE) rfl rfl hl.1 rfl (lv_room (by first | exact Nat.le_of_ble_eq_true rfl | simp [va_rf_cat, xcat_i, xcat_l, xcat_r, xcat_n])) dAL_grow2_37 ⟨(Nat.le_of_ble_eq_true rfl), (Nat.le_of_ble_eq_true rfl)⟩) hw (fun r19 w20 H locs h hw => ?_)
      clear hcall
      refine lv_dup_x1 hx hb dAL_grow2_40 (va_rf_cat _) rfl ?_
      obtain ⟨hv, h⟩ := h
      refine xw_put (ty := (.array (.object "java/lang/Object"))) (C := RAL) (T := TAL) (N := 3) (ref := RAL) hx hb hts inAL tyAL tyAL_ok nmAL hown hK hw rfl 1 (by decide) (hts _ mw_8) (fun _ h9 => h9) rfl (by decide +kernel) (xn_rf _ _ (Or.inr ⟨_, rfl⟩)) (xf_rf _ _ (Or.inr ⟨_, rfl⟩)) hv dAL_grow2_41 (fun H locs hw => ?_)
      replace h := h _ rfl
      generalize xp w20 h0 1 (va_rf r19) = w21 at hw h
      refine W.widen (k := 1) (n := 366) (Nat.le_of_ble_eq_true rfl) (Nat.le_of_ble_eq_true rfl) ?_
      exact xw_aret (r := r19) (Or.inr ⟨_, rfl⟩) hx hb hr hlocks hw h dAL_grow2_44
def wp_AL_grow (E : xE_T) (post : Option Nat → xw_T → Prop) (w : xw_T) (h0 : Nat) : Prop := ∃ v1, xgI w h0 0 2 = some v1 ∧ ((∃ fs, w h0 = some (.inr (0, fs))) ∧ wp_AL_grow2 E (fun r2 w3 => post r2 w3) w h0 (v1 + 1))
set_option maxHeartbeats 4000000 in
set_option maxRecDepth 100000 in
theorem c_AL_grow (l : Launch) (D : va_G) (E : xE_T) (A : Nat → Prop) (post : Option Nat → xw_T → Prop) (w : xw_T) (h0 : Nat) (h : wp_AL_grow E post w h0) : Met l yAL_grow (xW yAL_grow cAL_grow 1 (some (.array (.object "java/lang/Object")))) ({ frames := 4, cells := 1, slots := 366, locals := 85 } : Room) (va_Pc [.ref h0] (xP D E A w)) (va_Qq post (xB D A) A) 1 366 A := by
  refine Met.ofW (cc := cAL_grow) (maxL := 1) (ret := (some (.array (.object "java/lang/Object")))) (by decide) rfl ?_
  intro p e s m args below meth c s₁ B hml hv
  obtain ⟨rfl, hw, hK, hE⟩ := hv
  have hx := B.exec
  have hb := B.bytes
  have hr := B.returns
  have hts : ∀ w ∈ xTB, w.before _ s = true := fun w hw => atoms_spec (ws := xW yAL_grow cAL_grow 1 (some (.array (.object "java/lang/Object")))) B.pre w (List.mem_cons_of_mem _ hw)
  have hown : s.vm.findClass RAL = some m.cls := findClass_of_methodNamed B.named
  have hlocks := B.notSynchronized
  have hw : xw_S D vwCl A s.heap w s.heap [] := xw_S0 hw
  refine xl_start (lvs := [(0, .ref h0)]) (by first | exact Nat.le_of_ble_eq_true rfl | simp [lg_sl, va_rf_cat, xcat_i, xcat_l, xcat_r, xcat_n]) (by first | rfl | simp [lv_args, va_rf_cat, xcat_i, xcat_l, xcat_r, xcat_n]) (fun ls hl => ?_)
  unfold wp_AL_grow at h
  refine lv_aload_n hx hb dAL_grow_0 rfl (lv_at hl 0 rfl) ?_
  refine lv_aload_n hx hb dAL_grow_1 rfl (lv_at hl 0 rfl) ?_
  obtain ⟨v1, hv, h⟩ := h
  refine xw_getI (C := RAL) (T := TAL) (N := 3) (ref := RAL) hx hb hts inAL hown hK hw rfl 2 (by decide) (hts _ mw_25) (fun _ h9 => h9) hv dAL_grow_2 ?_
  refine lv_iconst (v := 1) hx hb dAL_grow_5 (by decide) ?_
  refine lv_iadd hx hb dAL_grow_6 ?_
  obtain ⟨⟨fs, hk⟩, h⟩ := h
  have hcall := h
  clear h
  refine xw_callq (va_runV (As := [.int (v1 + 1)]) (rest := []) ⟨hx, hb, hml, hown, hts⟩ (c_AL_grow2 l D E A _ w h0 (v1 + 1) hcall) (cwV 1 hts (xG_V mw_63 mw_64 mw_65 mw_19 mw_66) rfl rfl rfl (by decide +kernel) ⟨(Nat.le_of_ble_eq_true rfl), (Nat.le_of_ble_eq_true rfl)⟩) (xw_preV (ci := 0) hw hK hE rfl hk) rfl rfl hl.1 rfl (lv_room (by first | exact Nat.le_of_ble_eq_true rfl | simp [va_rf_cat, xcat_i, xcat_l, xcat_r, xcat_n])) dAL_grow_7 ⟨(Nat.le_of_ble_eq_true rfl), (Nat.le_of_ble_eq_true rfl)⟩) hw (fun r2 w3 H locs h hw => ?_)
  clear hcall
  refine W.widen (k := 1) (n := 366) (Nat.le_of_ble_eq_true rfl) (Nat.le_of_ble_eq_true rfl) ?_
  exact xw_aret (r := r2) (Or.inr ⟨_, rfl⟩) hx hb hr hlocks hw h dAL_grow_10
def wp_AL_add2 (E : xE_T) (post : xw_T → Prop) (w : xw_T) (h0 : Nat) (p0 : Option Nat) (p1 : Option Nat) (p2 : Int32) : Prop := ∃ a1 : Nat, p1 = some a1 ∧ (∃ n2 : Nat, xlen E w a1 0 = some n2 ∧ ((¬ p2 = (nI n2) → (∃ a3 : Nat, p0 = some a3 ∧ (∃ n4 f5, xaQ w a1 (E.1 0) = some (n4, f5) ∧ xOb w a3 ∧ vp_in p2 n4 ∧ ∀ w6, w6 = va_up w a1 (some (xcQ (E.1 0) n4 (va_up f5 p2.toNatClampNeg (some a3)))) → ((∃ v0, xg w6 h0 0 2 = some v0) ∧ ∀ w7, w7 = xp w6 h0 2 (.int (p2 + 1)) → (post w7))))) ∧ (p2 = (nI n2) → ((∃ fs, w h0 = some (.inr (0, fs))) ∧ wp_AL_grow E (fun r8 w9 => ∃ a10 : Nat, p0 = some a10 ∧ (∃ a11 : Nat, r8 = some a11 ∧ (∃ n12 f13, xaQ w9 a11 (E.1 0) = some (n12, f13) ∧ xOb w9 a10 ∧ vp_in p2 n12 ∧ ∀ w14, w14 = va_up w9 a11 (some (xcQ (E.1 0) n12 (va_up f13 p2.toNatClampNeg (some a10)))) → ((∃ v0, xg w14 h0 0 2 = some v0) ∧ ∀ w15, w15 = xp w14 h0 2 (.int (p2 + 1)) → (post w15))))) w h0))))
set_option maxHeartbeats 4000000 in
set_option maxRecDepth 100000 in
theorem c_AL_add2 (l : Launch) (D : va_G) (E : xE_T) (A : Nat → Prop) (post : xw_T → Prop) (w : xw_T) (h0 : Nat) (p0 : Option Nat) (p1 : Option Nat) (p2 : Int32) (h : wp_AL_add2 E post w h0 p0 p1 p2) : Met l yAL_add2 (xW yAL_add2 cAL_add2 4 none) ({ frames := 5, cells := 1, slots := 366, locals := 105 } : Room) (va_Pc [.ref h0, va_rf p0, va_rf p1, .int p2] (xP D E A w)) (va_Qv post (xB D A) A) 1 366 A := by
  refine Met.ofW (cc := cAL_add2) (maxL := 4) (ret := none) (by decide) rfl ?_
  intro p e s m args below meth c s₁ B hml hv
  obtain ⟨rfl, hw, hK, hE⟩ := hv
  have hx := B.exec
  have hb := B.bytes
  have hr := B.returns
  have hts : ∀ w ∈ xTB, w.before _ s = true := fun w hw => atoms_spec (ws := xW yAL_add2 cAL_add2 4 none) B.pre w (List.mem_cons_of_mem _ hw)
  have hown : s.vm.findClass RAL = some m.cls := findClass_of_methodNamed B.named
  have hlocks := B.notSynchronized
  have hw : xw_S D vwCl A s.heap w s.heap [] := xw_S0 hw
  refine xl_start (lvs := [(0, .ref h0), (1, va_rf p0), (2, va_rf p1), (3, .int p2)]) (by first | exact Nat.le_of_ble_eq_true rfl | simp [lg_sl, va_rf_cat, xcat_i, xcat_l, xcat_r, xcat_n]) (by first | rfl | simp [lv_args, va_rf_cat, xcat_i, xcat_l, xcat_r, xcat_n]) (fun ls hl => ?_)
  unfold wp_AL_add2 at h
  refine lv_iload_n hx hb dAL_add2_0 rfl (lv_at hl 3 rfl) ?_
  refine xl_aload_n hx hb dAL_add2_1 rfl (lv_at hl 2 rfl) ?_
  obtain ⟨a1, rfl, h⟩ := h
  obtain ⟨n2, hn, h⟩ := h
  refine xw_len hx hb hK hE hw 0 (by decide) hn dAL_add2_2 ?_
  refine lv_icmp_ne (tgt := 11) hx hb dAL_add2_3 rfl (fun hc => ?_) (fun hc => ?_)
  · replace h := h.1 hc
    refine lv_aload_n hx hb dAL_add2_11 rfl (lv_at hl 2 rfl) ?_
    refine lv_iload_n hx hb dAL_add2_12 rfl (lv_at hl 3 rfl) ?_
    refine xl_aload_n hx hb dAL_add2_13 rfl (lv_at hl 1 rfl) ?_
    obtain ⟨a3, rfl, h⟩ := h
    obtain ⟨n4, f5, ha, hob, hin9, h⟩ := h
    refine xw_aasO hx hb hK hE hw ha hob hin9 dAL_add2_14 (fun H locs hw => ?_)
    replace h := h _ rfl
    generalize va_up w a1 (some (xcQ (E.1 0) n4 (va_up f5 p2.toNatClampNeg (some a3)))) = w6 at hw h
    refine lv_aload_n hx hb dAL_add2_15 rfl (lv_at hl 0 rfl) ?_
    refine lv_iload_n hx hb dAL_add2_16 rfl (lv_at hl 3 rfl) ?_
    refine lv_iconst (v := 1) hx hb dAL_add2_17 (by decide) ?_
    refine lv_iadd hx hb dAL_add2_18 ?_
    obtain ⟨hv, h⟩ := h
    refine xw_put (ty := (.int)) (C := RAL) (T := TAL) (N := 3) (ref := RAL) hx hb hts inAL tyAL tyAL_ok nmAL hown hK hw rfl 2 (by decide) (hts _ mw_25) (fun _ h9 => h9) rfl (by decide +kernel) rfl rfl hv dAL_add2_19 (fun H locs hw => ?_)
    replace h := h _ rfl
    generalize xp w6 h0 2 (.int (p2 + 1)) = w7 at hw h
    refine W.widen (k := 1) (n := 366) (Nat.le_of_ble_eq_true rfl) (Nat.le_of_ble_eq_true rfl) ?_
    exact xw_vret hx hb hr hlocks hw h dAL_add2_22
  · replace h := h.2 hc
    refine lv_aload_n hx hb dAL_add2_6 rfl (lv_at hl 0 rfl) ?_
    obtain ⟨⟨fs, hk⟩, h⟩ := h
    have hcall := h
    clear h
    refine xw_callq (va_runV (As := []) (rest := []) ⟨hx, hb, hml, hown, hts⟩ (c_AL_grow l D E A _ w h0 hcall) (cwV 0 hts (xG_V mw_67 mw_68 mw_69 mw_19 mw_70) rfl rfl rfl (by decide +kernel) ⟨(Nat.le_of_ble_eq_true rfl), (Nat.le_of_ble_eq_true rfl)⟩) (xw_preV (ci := 0) hw hK hE rfl hk) rfl rfl hl.1 rfl (lv_room (by first | exact Nat.le_of_ble_eq_true rfl | simp [va_rf_cat, xcat_i, xcat_l, xcat_r, xcat_n])) dAL_add2_7 ⟨(Nat.le_of_ble_eq_true rfl), (Nat.le_of_ble_eq_true rfl)⟩) hw (fun r8 w9 H locs h hw => ?_)
    clear hcall
    refine xl_astore_n (i := 2) (lv' := [(2, va_rf r8), (0, .ref h0), (1, va_rf p0), (3, .int p2)]) hx hb dAL_add2_10 rfl hl (by decide) (by first | rfl | simp [va_rf_cat, xcat_i, xcat_l, xcat_r, xcat_n]) (fun ls hl => ?_)
    refine xl_aload_n hx hb dAL_add2_11 rfl (lv_at hl 0 rfl) ?_
    refine lv_iload_n hx hb dAL_add2_12 rfl (lv_at hl 3 rfl) ?_
    refine xl_aload_n hx hb dAL_add2_13 rfl (lv_at hl 2 rfl) ?_
    obtain ⟨a10, rfl, h⟩ := h
    obtain ⟨a11, rfl, h⟩ := h
    obtain ⟨n12, f13, ha, hob, hin9, h⟩ := h
    refine xw_aasO hx hb hK hE hw ha hob hin9 dAL_add2_14 (fun H locs hw => ?_)
    replace h := h _ rfl
    generalize va_up w9 a11 (some (xcQ (E.1 0) n12 (va_up f13 p2.toNatClampNeg (some a10)))) = w14 at hw h
    refine lv_aload_n hx hb dAL_add2_15 rfl (lv_at hl 1 rfl) ?_
    refine lv_iload_n hx hb dAL_add2_16 rfl (lv_at hl 3 rfl) ?_
    refine lv_iconst (v := 1) hx hb dAL_add2_17 (by decide) ?_
    refine lv_iadd hx hb dAL_add2_18 ?_
    obtain ⟨hv, h⟩ := h
    refine xw_put (ty := (.int)) (C := RAL) (T := TAL) (N := 3) (ref := RAL) hx hb hts inAL tyAL tyAL_ok nmAL hown hK hw rfl 2 (by decide) (hts _ mw_25) (fun _ h9 => h9) rfl (by decide +kernel) rfl rfl hv dAL_add2_19 (fun H locs hw => ?_)
    replace h := h _ rfl
    generalize xp w14 h0 2 (.int (p2 + 1)) = w15 at hw h
    refine W.widen (k := 1) (n := 366) (Nat.le_of_ble_eq_true rfl) (Nat.le_of_ble_eq_true rfl) ?_
    exact xw_vret hx hb hr hlocks hw h dAL_add2_22
def wp_AL_add (E : xE_T) (post : Int32 → xw_T → Prop) (w : xw_T) (h0 : Nat) (p0 : Option Nat) : Prop := ∃ v1, xgI w h0 0 0 = some v1 ∧ ((∃ v0, xg w h0 0 0 = some v0) ∧ ∀ w2, w2 = xp w h0 0 (.int (v1 + 1)) → (∃ v3, xgR w2 h0 0 1 = some v3 ∧ (∃ v4, xgI w2 h0 0 2 = some v4 ∧ ((∃ fs, w2 h0 = some (.inr (0, fs))) ∧ wp_AL_add2 E (fun w6 => post 1 w6) w2 h0 p0 v3 v4))))
set_option maxHeartbeats 4000000 in
set_option maxRecDepth 100000 in
theorem c_AL_add (l : Launch) (D : va_G) (E : xE_T) (A : Nat → Prop) (post : Int32 → xw_T → Prop) (w : xw_T) (h0 : Nat) (p0 : Option Nat) (h : wp_AL_add E post w h0 p0) : Met l yAL_add (xW yAL_add cAL_add 2 (some (.boolean))) ({ frames := 6, cells := 1, slots := 366, locals := 128 } : Room) (va_Pc [.ref h0, va_rf p0] (xP D E A w)) (va_Qi post (xB D A) A) 1 366 A := by
  refine Met.ofW (cc := cAL_add) (maxL := 2) (ret := (some (.boolean))) (by decide) rfl ?_
  intro p e s m args below meth c s₁ B hml hv
  obtain ⟨rfl, hw, hK, hE⟩ := hv
  have hx := B.exec
  have hb := B.bytes
  have hr := B.returns
  have hts : ∀ w ∈ xTB, w.before _ s = true := fun w hw => atoms_spec (ws := xW yAL_add cAL_add 2 (some (.boolean))) B.pre w (List.mem_cons_of_mem _ hw)
  have hown : s.vm.findClass RAL = some m.cls := findClass_of_methodNamed B.named
  have hlocks := B.notSynchronized
  have hw : xw_S D vwCl A s.heap w s.heap [] := xw_S0 hw
  refine xl_start (lvs := [(0, .ref h0), (1, va_rf p0)]) (by first | exact Nat.le_of_ble_eq_true rfl | simp [lg_sl, va_rf_cat, xcat_i, xcat_l, xcat_r, xcat_n]) (by first | rfl | simp [lv_args, va_rf_cat, xcat_i, xcat_l, xcat_r, xcat_n]) (fun ls hl => ?_)
  unfold wp_AL_add at h
  refine lv_aload_n hx hb dAL_add_0 rfl (lv_at hl 0 rfl) ?_
  refine lv_dup hx hb dAL_add_1 rfl ?_
  obtain ⟨v1, hv, h⟩ := h
  refine xw_getI (C := RAL) (T := TAL) (N := 3) (ref := RAL) hx hb hts inAL hown hK hw rfl 0 (by decide) (hts _ mw_75) (fun x h9 => u_same (hts _ mw_76) x h9) hv dAL_add_2 ?_
  refine lv_iconst (v := 1) hx hb dAL_add_5 (by decide) ?_
  refine lv_iadd hx hb dAL_add_6 ?_
  obtain ⟨hv, h⟩ := h
  refine xw_put (ty := (.int)) (C := RAL) (T := TAL) (N := 3) (ref := RAL) hx hb hts inAL tyAL tyAL_ok nmAL hown hK hw rfl 0 (by decide) (hts _ mw_75) (fun x h9 => u_same (hts _ mw_76) x h9) rfl (by decide +kernel) rfl rfl hv dAL_add_7 (fun H locs hw => ?_)
  replace h := h _ rfl
  generalize xp w h0 0 (.int (v1 + 1)) = w2 at hw h
  refine lv_aload_n hx hb dAL_add_10 rfl (lv_at hl 0 rfl) ?_
  refine xl_aload_n hx hb dAL_add_11 rfl (lv_at hl 1 rfl) ?_
  refine lv_aload_n hx hb dAL_add_12 rfl (lv_at hl 0 rfl) ?_
  obtain ⟨v3, hv, h⟩ := h
  refine xw_getR (C := RAL) (T := TAL) (N := 3) (ref := RAL) hx hb hts inAL hown hK hw rfl 1 (by decide) (hts _ mw_8) (fun _ h9 => h9) hv dAL_add_13 ?_
  refine lv_aload_n hx hb dAL_add_16 rfl (lv_at hl 0 rfl) ?_
  obtain ⟨v4, hv, h⟩ := h
  refine xw_getI (C := RAL) (T := TAL) (N := 3) (ref := RAL) hx hb hts inAL hown hK hw rfl 2 (by decide) (hts _ mw_25) (fun _ h9 => h9) hv dAL_add_17 ?_
  obtain ⟨⟨fs, hk⟩, h⟩ := h
  have hcall := h
  clear h
  refine xw_callv (va_runV (As := [va_rf p0, va_rf v3, .int v4]) (rest := []) ⟨hx, hb, hml, hown, hts⟩ (c_AL_add2 l D E A _ w2 h0 p0 v3 v4 hcall) (cwV 3 hts (xG_V mw_71 mw_72 mw_73 mw_19 mw_74) rfl rfl rfl (by decide +kernel) ⟨(Nat.le_of_ble_eq_true rfl), (Nat.le_of_ble_eq_true rfl)⟩) (xw_preV (ci := 0) hw hK hE rfl hk) rfl rfl hl.1 rfl (lv_room (by first | exact Nat.le_of_ble_eq_true rfl | simp [va_rf_cat, xcat_i, xcat_l, xcat_r, xcat_n])) dAL_add_20 ⟨(Nat.le_of_ble_eq_true rfl), (Nat.le_of_ble_eq_true rfl)⟩) hw (fun w6 H locs h hw => ?_)
  clear hcall
  refine lv_iconst (v := 1) hx hb dAL_add_23 (by decide) ?_
  refine W.widen (k := 1) (n := 366) (Nat.le_of_ble_eq_true rfl) (Nat.le_of_ble_eq_true rfl) ?_
  exact xw_zret (by decide) hx hb hr hlocks hw h dAL_add_24
def wp_PC_checkIndex (E : xE_T) (post : Int32 → xw_T → Prop) (w : xw_T) (p0 : Int32) (p1 : Int32) (p2 : Option Nat) : Prop := (p0 < 0 → (False)) ∧ (¬ p0 < 0 → ((p0 < p1 → (post p0 w)) ∧ (¬ p0 < p1 → (False))))
set_option maxHeartbeats 4000000 in
set_option maxRecDepth 100000 in
theorem c_PC_checkIndex (l : Launch) (D : va_G) (E : xE_T) (A : Nat → Prop) (post : Int32 → xw_T → Prop) (w : xw_T) (p0 : Int32) (p1 : Int32) (p2 : Option Nat) (h : wp_PC_checkIndex E post w p0 p1 p2) : Met l yPC_checkIndex (xW yPC_checkIndex cPC_checkIndex 3 (some (.int))) ({ frames := 0, cells := 0, slots := 0, locals := 0 } : Room) (va_Pc [.int p0, .int p1, va_rf p2] (xP D E A w)) (va_Qi post (xB D A) A) 0 0 A := by
  refine Met.ofW (cc := cPC_checkIndex) (maxL := 3) (ret := (some (.int))) (by decide) rfl ?_
  intro p e s m args below meth c s₁ B hml hv
  obtain ⟨rfl, hw, hK, hE⟩ := hv
  have hx := B.exec
  have hb := B.bytes
  have hr := B.returns
  have hts : ∀ w ∈ xTB, w.before _ s = true := fun w hw => atoms_spec (ws := xW yPC_checkIndex cPC_checkIndex 3 (some (.int))) B.pre w (List.mem_cons_of_mem _ hw)
  have hown : s.vm.findClass RPC = some m.cls := findClass_of_methodNamed B.named
  have hlocks := B.notSynchronized
  have hw : xw_S D vwCl A s.heap w s.heap [] := xw_S0 hw
  refine xl_start (lvs := [(0, .int p0), (1, .int p1), (2, va_rf p2)]) (by first | exact Nat.le_of_ble_eq_true rfl | simp [lg_sl, va_rf_cat, xcat_i, xcat_l, xcat_r, xcat_n]) (by first | rfl | simp [lv_args, va_rf_cat, xcat_i, xcat_l, xcat_r, xcat_n]) (fun ls hl => ?_)
  unfold wp_PC_checkIndex at h
  refine lv_iload_n hx hb dPC_checkIndex_0 rfl (lv_at hl 0 rfl) ?_
  refine lv_if_lt (tgt := 9) hx hb dPC_checkIndex_1 rfl (fun hc => ?_) (fun hc => ?_)
  · replace h := h.1 hc
    refine xl_aload_n hx hb dPC_checkIndex_9 rfl (lv_at hl 2 rfl) ?_
    refine lv_iload_n hx hb dPC_checkIndex_10 rfl (lv_at hl 0 rfl) ?_
    refine lv_iload_n hx hb dPC_checkIndex_11 rfl (lv_at hl 1 rfl) ?_
    exact h.elim
  · replace h := h.2 hc
    refine lv_iload_n hx hb dPC_checkIndex_4 rfl (lv_at hl 0 rfl) ?_
    refine lv_iload_n hx hb dPC_checkIndex_5 rfl (lv_at hl 1 rfl) ?_
    refine lv_icmp_lt (tgt := 16) hx hb dPC_checkIndex_6 rfl (fun hc => ?_) (fun hc => ?_)
    · replace h := h.1 hc
      refine lv_iload_n hx hb dPC_checkIndex_16 rfl (lv_at hl 0 rfl) ?_
      refine W.widen (k := 0) (n := 0) (Nat.le_of_ble_eq_true rfl) (Nat.le_of_ble_eq_true rfl) ?_
      exact xw_iret hx hb hr hlocks hw h dPC_checkIndex_17
    · replace h := h.2 hc
      refine xl_aload_n hx hb dPC_checkIndex_9 rfl (lv_at hl 2 rfl) ?_
      refine lv_iload_n hx hb dPC_checkIndex_10 rfl (lv_at hl 0 rfl) ?_
      refine lv_iload_n hx hb dPC_checkIndex_11 rfl (lv_at hl 1 rfl) ?_
      exact h.elim
def wp_OB_checkIndex (E : xE_T) (post : Int32 → xw_T → Prop) (w : xw_T) (p0 : Int32) (p1 : Int32) : Prop := wp_PC_checkIndex E (fun r1 w2 => post r1 w2) w p0 p1 none
set_option maxHeartbeats 4000000 in
set_option maxRecDepth 100000 in
theorem c_OB_checkIndex (l : Launch) (D : va_G) (E : xE_T) (A : Nat → Prop) (post : Int32 → xw_T → Prop) (w : xw_T) (p0 : Int32) (p1 : Int32) (h : wp_OB_checkIndex E post w p0 p1) : Met l yOB_checkIndex (xW yOB_checkIndex cOB_checkIndex 2 (some (.int))) ({ frames := 1, cells := 0, slots := 0, locals := 22 } : Room) (va_Pc [.int p0, .int p1] (xP D E A w)) (va_Qi post (xB D A) A) 0 0 A := by
  refine Met.ofW (cc := cOB_checkIndex) (maxL := 2) (ret := (some (.int))) (by decide) rfl ?_
  intro p e s m args below meth c s₁ B hml hv
  obtain ⟨rfl, hw, hK, hE⟩ := hv
  have hx := B.exec
  have hb := B.bytes
  have hr := B.returns
  have hts : ∀ w ∈ xTB, w.before _ s = true := fun w hw => atoms_spec (ws := xW yOB_checkIndex cOB_checkIndex 2 (some (.int))) B.pre w (List.mem_cons_of_mem _ hw)
  have hown : s.vm.findClass ROB = some m.cls := findClass_of_methodNamed B.named
  have hlocks := B.notSynchronized
  have hw : xw_S D vwCl A s.heap w s.heap [] := xw_S0 hw
  refine xl_start (lvs := [(0, .int p0), (1, .int p1)]) (by first | exact Nat.le_of_ble_eq_true rfl | simp [lg_sl, va_rf_cat, xcat_i, xcat_l, xcat_r, xcat_n]) (by first | rfl | simp [lv_args, va_rf_cat, xcat_i, xcat_l, xcat_r, xcat_n]) (fun ls hl => ?_)
  unfold wp_OB_checkIndex at h
  refine lv_iload_n hx hb dOB_checkIndex_0 rfl (lv_at hl 0 rfl) ?_
  refine lv_iload_n hx hb dOB_checkIndex_1 rfl (lv_at hl 1 rfl) ?_
  refine lv_null hx hb dOB_checkIndex_2 ?_
  have hcall := h
  clear h
  refine xw_calli (va_runS (As := [.int p0, .int p1, va_rf none]) (rest := []) ⟨hx, hb, hml, hown, hts⟩ (c_PC_checkIndex l D E A _ w p0 p1 none hcall) (va_cwS 3 hts (xG_S mw_126 mw_127 mw_128 mw_129) rfl rfl rfl (by decide +kernel) ⟨(Nat.le_of_ble_eq_true rfl), (Nat.le_of_ble_eq_true rfl)⟩) (xw_preS hw hK hE) rfl rfl hl.1 rfl (lv_room (by first | exact Nat.le_of_ble_eq_true rfl | simp [va_rf_cat, xcat_i, xcat_l, xcat_r, xcat_n])) dOB_checkIndex_3 ⟨(Nat.le_of_ble_eq_true rfl), (Nat.le_of_ble_eq_true rfl)⟩) hw (fun r1 w2 H locs h hw => ?_)
  clear hcall
  refine W.widen (k := 0) (n := 0) (Nat.le_of_ble_eq_true rfl) (Nat.le_of_ble_eq_true rfl) ?_
  exact xw_iret hx hb hr hlocks hw h dOB_checkIndex_6
def wp_AL_elementData (E : xE_T) (post : Option Nat → xw_T → Prop) (w : xw_T) (h0 : Nat) (p0 : Int32) : Prop := ∃ v1, xgR w h0 0 1 = some v1 ∧ (∃ a2 : Nat, v1 = some a2 ∧ (∃ n3 f4, xaQ w a2 (E.1 0) = some (n3, f4) ∧ vp_in p0 n3 ∧ ∃ v5, f4 p0.toNatClampNeg = v5 ∧ (post v5 w)))
set_option maxHeartbeats 4000000 in
set_option maxRecDepth 100000 in
theorem c_AL_elementData (l : Launch) (D : va_G) (E : xE_T) (A : Nat → Prop) (post : Option Nat → xw_T → Prop) (w : xw_T) (h0 : Nat) (p0 : Int32) (h : wp_AL_elementData E post w h0 p0) : Met l yAL_elementData (xW yAL_elementData cAL_elementData 2 (some (.object "java/lang/Object"))) ({ frames := 0, cells := 0, slots := 0, locals := 0 } : Room) (va_Pc [.ref h0, .int p0] (xP D E A w)) (va_Qq post (xB D A) A) 0 0 A := by
  refine Met.ofW (cc := cAL_elementData) (maxL := 2) (ret := (some (.object "java/lang/Object"))) (by decide) rfl ?_
  intro p e s m args below meth c s₁ B hml hv
  obtain ⟨rfl, hw, hK, hE⟩ := hv
  have hx := B.exec
  have hb := B.bytes
  have hr := B.returns
  have hts : ∀ w ∈ xTB, w.before _ s = true := fun w hw => atoms_spec (ws := xW yAL_elementData cAL_elementData 2 (some (.object "java/lang/Object"))) B.pre w (List.mem_cons_of_mem _ hw)
  have hown : s.vm.findClass RAL = some m.cls := findClass_of_methodNamed B.named
  have hlocks := B.notSynchronized
  have hw : xw_S D vwCl A s.heap w s.heap [] := xw_S0 hw
  refine xl_start (lvs := [(0, .ref h0), (1, .int p0)]) (by first | exact Nat.le_of_ble_eq_true rfl | simp [lg_sl, va_rf_cat, xcat_i, xcat_l, xcat_r, xcat_n]) (by first | rfl | simp [lv_args, va_rf_cat, xcat_i, xcat_l, xcat_r, xcat_n]) (fun ls hl => ?_)
  unfold wp_AL_elementData at h
  refine lv_aload_n hx hb dAL_elementData_0 rfl (lv_at hl 0 rfl) ?_
  obtain ⟨v1, hv, h⟩ := h
  refine xw_getR (C := RAL) (T := TAL) (N := 3) (ref := RAL) hx hb hts inAL hown hK hw rfl 1 (by decide) (hts _ mw_8) (fun _ h9 => h9) hv dAL_elementData_1 ?_
  refine lv_iload_n hx hb dAL_elementData_4 rfl (lv_at hl 1 rfl) ?_
  obtain ⟨a2, rfl, h⟩ := h
  obtain ⟨n3, f4, ha, hin9, v5, ev, h⟩ := h
  refine xw_aald hx hb hK hw 0 rfl ha hin9 dAL_elementData_5 ?_
  rw [ev]
  refine W.widen (k := 0) (n := 0) (Nat.le_of_ble_eq_true rfl) (Nat.le_of_ble_eq_true rfl) ?_
  exact xw_aret (r := v5) (Or.inl ⟨_, rfl⟩) hx hb hr hlocks hw h dAL_elementData_6
def wp_AL_get (E : xE_T) (post : Option Nat → xw_T → Prop) (w : xw_T) (h0 : Nat) (p0 : Int32) : Prop := ∃ v1, xgI w h0 0 2 = some v1 ∧ (wp_OB_checkIndex E (fun r2 w3 => (∃ fs, w3 h0 = some (.inr (0, fs))) ∧ wp_AL_elementData E (fun r4 w5 => post r4 w5) w3 h0 p0) w p0 v1)
set_option maxHeartbeats 4000000 in
set_option maxRecDepth 100000 in
theorem c_AL_get (l : Launch) (D : va_G) (E : xE_T) (A : Nat → Prop) (post : Option Nat → xw_T → Prop) (w : xw_T) (h0 : Nat) (p0 : Int32) (h : wp_AL_get E post w h0 p0) : Met l yAL_get (xW yAL_get cAL_get 2 (some (.object "java/lang/Object"))) ({ frames := 2, cells := 0, slots := 0, locals := 43 } : Room) (va_Pc [.ref h0, .int p0] (xP D E A w)) (va_Qq post (xB D A) A) 0 0 A := by
  refine Met.ofW (cc := cAL_get) (maxL := 2) (ret := (some (.object "java/lang/Object"))) (by decide) rfl ?_
  intro p e s m args below meth c s₁ B hml hv
  obtain ⟨rfl, hw, hK, hE⟩ := hv
  have hx := B.exec
  have hb := B.bytes
  have hr := B.returns
  have hts : ∀ w ∈ xTB, w.before _ s = true := fun w hw => atoms_spec (ws := xW yAL_get cAL_get 2 (some (.object "java/lang/Object"))) B.pre w (List.mem_cons_of_mem _ hw)
  have hown : s.vm.findClass RAL = some m.cls := findClass_of_methodNamed B.named
  have hlocks := B.notSynchronized
  have hw : xw_S D vwCl A s.heap w s.heap [] := xw_S0 hw
  refine xl_start (lvs := [(0, .ref h0), (1, .int p0)]) (by first | exact Nat.le_of_ble_eq_true rfl | simp [lg_sl, va_rf_cat, xcat_i, xcat_l, xcat_r, xcat_n]) (by first | rfl | simp [lv_args, va_rf_cat, xcat_i, xcat_l, xcat_r, xcat_n]) (fun ls hl => ?_)
  unfold wp_AL_get at h
  refine lv_iload_n hx hb dAL_get_0 rfl (lv_at hl 1 rfl) ?_
  refine lv_aload_n hx hb dAL_get_1 rfl (lv_at hl 0 rfl) ?_
  obtain ⟨v1, hv, h⟩ := h
  refine xw_getI (C := RAL) (T := TAL) (N := 3) (ref := RAL) hx hb hts inAL hown hK hw rfl 2 (by decide) (hts _ mw_25) (fun _ h9 => h9) hv dAL_get_2 ?_
  have hcall := h
  clear h
  refine xw_calli (va_runS (As := [.int p0, .int v1]) (rest := []) ⟨hx, hb, hml, hown, hts⟩ (c_OB_checkIndex l D E A _ w p0 v1 hcall) (va_cwS 2 hts (xG_S mw_134 mw_135 mw_136 mw_137) rfl rfl rfl (by decide +kernel) ⟨(Nat.le_of_ble_eq_true rfl), (Nat.le_of_ble_eq_true rfl)⟩) (xw_preS hw hK hE) rfl rfl hl.1 rfl (lv_room (by first | exact Nat.le_of_ble_eq_true rfl | simp [va_rf_cat, xcat_i, xcat_l, xcat_r, xcat_n])) dAL_get_5 ⟨(Nat.le_of_ble_eq_true rfl), (Nat.le_of_ble_eq_true rfl)⟩) hw (fun r2 w3 H locs h hw => ?_)
  clear hcall
  refine lv_pop hx hb dAL_get_8 rfl ?_
  refine lv_aload_n hx hb dAL_get_9 rfl (lv_at hl 0 rfl) ?_
  refine lv_iload_n hx hb dAL_get_10 rfl (lv_at hl 1 rfl) ?_
  obtain ⟨⟨fs, hk⟩, h⟩ := h
  have hcall := h
  clear h
  refine xw_callq (va_runV (As := [.int p0]) (rest := []) ⟨hx, hb, hml, hown, hts⟩ (c_AL_elementData l D E A _ w3 h0 p0 hcall) (cwV 1 hts (xG_V mw_130 mw_131 mw_132 mw_19 mw_133) rfl rfl rfl (by decide +kernel) ⟨(Nat.le_of_ble_eq_true rfl), (Nat.le_of_ble_eq_true rfl)⟩) (xw_preV (ci := 0) hw hK hE rfl hk) rfl rfl hl.1 rfl (lv_room (by first | exact Nat.le_of_ble_eq_true rfl | simp [va_rf_cat, xcat_i, xcat_l, xcat_r, xcat_n])) dAL_get_11 ⟨(Nat.le_of_ble_eq_true rfl), (Nat.le_of_ble_eq_true rfl)⟩) hw (fun r4 w5 H locs h hw => ?_)
  clear hcall
  refine W.widen (k := 0) (n := 0) (Nat.le_of_ble_eq_true rfl) (Nat.le_of_ble_eq_true rfl) ?_
  exact xw_aret (r := r4) (Or.inl ⟨_, rfl⟩) hx hb hr hlocks hw h dAL_get_14
def wp_AL_isEmpty (E : xE_T) (post : Int32 → xw_T → Prop) (w : xw_T) (h0 : Nat) : Prop := ∃ v1, xgI w h0 0 2 = some v1 ∧ ((¬ v1 = 0 → (post 0 w)) ∧ (v1 = 0 → (post 1 w)))
set_option maxHeartbeats 4000000 in
set_option maxRecDepth 100000 in
theorem c_AL_isEmpty (l : Launch) (D : va_G) (E : xE_T) (A : Nat → Prop) (post : Int32 → xw_T → Prop) (w : xw_T) (h0 : Nat) (h : wp_AL_isEmpty E post w h0) : Met l yAL_isEmpty (xW yAL_isEmpty cAL_isEmpty 1 (some (.boolean))) ({ frames := 0, cells := 0, slots := 0, locals := 0 } : Room) (va_Pc [.ref h0] (xP D E A w)) (va_Qi post (xB D A) A) 0 0 A := by
  refine Met.ofW (cc := cAL_isEmpty) (maxL := 1) (ret := (some (.boolean))) (by decide) rfl ?_
  intro p e s m args below meth c s₁ B hml hv
  obtain ⟨rfl, hw, hK, hE⟩ := hv
  have hx := B.exec
  have hb := B.bytes
  have hr := B.returns
  have hts : ∀ w ∈ xTB, w.before _ s = true := fun w hw => atoms_spec (ws := xW yAL_isEmpty cAL_isEmpty 1 (some (.boolean))) B.pre w (List.mem_cons_of_mem _ hw)
  have hown : s.vm.findClass RAL = some m.cls := findClass_of_methodNamed B.named
  have hlocks := B.notSynchronized
  have hw : xw_S D vwCl A s.heap w s.heap [] := xw_S0 hw
  refine xl_start (lvs := [(0, .ref h0)]) (by first | exact Nat.le_of_ble_eq_true rfl | simp [lg_sl, va_rf_cat, xcat_i, xcat_l, xcat_r, xcat_n]) (by first | rfl | simp [lv_args, va_rf_cat, xcat_i, xcat_l, xcat_r, xcat_n]) (fun ls hl => ?_)
  unfold wp_AL_isEmpty at h
  refine lv_aload_n hx hb dAL_isEmpty_0 rfl (lv_at hl 0 rfl) ?_
  obtain ⟨v1, hv, h⟩ := h
  refine xw_getI (C := RAL) (T := TAL) (N := 3) (ref := RAL) hx hb hts inAL hown hK hw rfl 2 (by decide) (hts _ mw_25) (fun _ h9 => h9) hv dAL_isEmpty_1 ?_
  refine lv_if_ne (tgt := 11) hx hb dAL_isEmpty_4 rfl (fun hc => ?_) (fun hc => ?_)
  · replace h := h.1 hc
    refine lv_iconst (v := 0) hx hb dAL_isEmpty_11 (by decide) ?_
    refine W.widen (k := 0) (n := 0) (Nat.le_of_ble_eq_true rfl) (Nat.le_of_ble_eq_true rfl) ?_
    exact xw_zret (by decide) hx hb hr hlocks hw h dAL_isEmpty_12
  · replace h := h.2 hc
    refine lv_iconst (v := 1) hx hb dAL_isEmpty_7 (by decide) ?_
    refine lv_goto (tgt := 12) hx hb dAL_isEmpty_8 rfl ?_
    refine W.widen (k := 0) (n := 0) (Nat.le_of_ble_eq_true rfl) (Nat.le_of_ble_eq_true rfl) ?_
    exact xw_zret (by decide) hx hb hr hlocks hw h dAL_isEmpty_12
