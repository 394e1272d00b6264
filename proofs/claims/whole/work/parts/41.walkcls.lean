/-! meanings and walks: CLS 1 -/
def wp_RW_init (E : xE_T) (post : xw_T → Prop) (w : xw_T) (h0 : Nat) (p0 : Option Nat) (p1 : Int64) : Prop := (∃ v0, xg w h0 3 0 = some v0) ∧ ∀ w1, w1 = xp w h0 0 (va_rf p0) → ((∃ v0, xg w1 h0 3 1 = some v0) ∧ ∀ w2, w2 = xp w1 h0 1 (.long p1) → (post w2))
set_option maxHeartbeats 4000000 in
set_option maxRecDepth 100000 in
theorem c_RW_init (l : Launch) (D : va_G) (E : xE_T) (A : Nat → Prop) (post : xw_T → Prop) (w : xw_T) (h0 : Nat) (p0 : Option Nat) (p1 : Int64) (h : wp_RW_init E post w h0 p0 p1) : Met l yRW_init (xW yRW_init cRW_init 4 none) ({ frames := 1, cells := 0, slots := 0, locals := 12 } : Room) (va_Pc [.ref h0, va_rf p0, .long p1] (xP D E A w)) (va_Qv post (xB D A) A) 0 0 A := by
  refine Met.ofW (cc := cRW_init) (maxL := 4) (ret := none) (by decide) rfl ?_
  intro p e s m args below meth c s₁ B hml hv
  obtain ⟨rfl, hw, hK, hE⟩ := hv
  have hx := B.exec
  have hb := B.bytes
  have hr := B.returns
  have hts : ∀ w ∈ xTB, w.before _ s = true := fun w hw => atoms_spec (ws := xW yRW_init cRW_init 4 none) B.pre w (List.mem_cons_of_mem _ hw)
  have hown : s.vm.findClass RRW = some m.cls := findClass_of_methodNamed B.named
  have hlocks := B.notSynchronized
  have hin : meth.name = "<init>" := (name_of_methodNamed B.named B.method).1
  have hw : xw_S D vwCl A s.heap w s.heap [] := xw_S0 hw
  refine xl_start (lvs := [(0, .ref h0), (1, va_rf p0), (2, .long p1)]) (by first | exact Nat.le_of_ble_eq_true rfl | simp [lg_sl, va_rf_cat, xcat_i, xcat_l, xcat_r, xcat_n]) (by first | rfl | simp [lv_args, va_rf_cat, xcat_i, xcat_l, xcat_r, xcat_n]) (fun ls hl => ?_)
  unfold wp_RW_init at h
  refine lv_aload_n hx hb dRW_init_0 rfl (lv_at hl 0 rfl) ?_
  refine W.objInit hx hb hown (hts _ mw_145) (hts _ mw_1) (hts _ mw_2) rfl (by rw [hml]; exact hl.1) rfl dRW_init_1 (Nat.le_of_ble_eq_true rfl) (Nat.le_of_ble_eq_true rfl) ?_
  refine lv_aload_n hx hb dRW_init_4 rfl (lv_at hl 0 rfl) ?_
  refine xl_aload_n hx hb dRW_init_5 rfl (lv_at hl 1 rfl) ?_
  obtain ⟨hv, h⟩ := h
  refine xw_putF (ty := (.object "PostLedger$Account")) (C := RRW) (T := TRW) (N := 2) (ref := RRW) hx hb hts inRW tyRW tyRW_ok nmRW hown hK hw rfl 0 (by decide) (hts _ mw_144) (fun _ h9 => h9) rfl hin rfl (by decide +kernel) (xn_rf _ _ (Or.inl ⟨_, rfl⟩)) (xf_rf _ _ (Or.inl ⟨_, rfl⟩)) hv dRW_init_6 (fun H locs hw => ?_)
  replace h := h _ rfl
  generalize xp w h0 0 (va_rf p0) = w1 at hw h
  refine lv_aload_n hx hb dRW_init_9 rfl (lv_at hl 0 rfl) ?_
  refine lv_lload_n hx hb dRW_init_10 rfl (lv_at hl 2 rfl) ?_
  obtain ⟨hv, h⟩ := h
  refine xw_putF (ty := (.long)) (C := RRW) (T := TRW) (N := 2) (ref := RRW) hx hb hts inRW tyRW tyRW_ok nmRW hown hK hw rfl 1 (by decide) (hts _ mw_143) (fun _ h9 => h9) rfl hin rfl (by decide +kernel) rfl rfl hv dRW_init_11 (fun H locs hw => ?_)
  replace h := h _ rfl
  generalize xp w1 h0 1 (.long p1) = w2 at hw h
  refine W.widen (k := 0) (n := 0) (Nat.le_of_ble_eq_true rfl) (Nat.le_of_ble_eq_true rfl) ?_
  exact xw_vret hx hb hr hlocks hw h dRW_init_14
def wp_BA_addRow (E : xE_T) (post : xw_T → Prop) (w : xw_T) (h0 : Nat) (p0 : Option Nat) (p1 : Int64) : Prop := ∃ v1, xgR w h0 2 1 = some v1 ∧ (∀ q2 : Nat, (w q2 = none ∧ q2 ≠ E.2 6) → ∀ w3, w3 = va_up w q2 (some (.inr (3, [.null, .long 0]))) → (wp_RW_init E (fun w5 => ∃ a6 : Nat, v1 = some a6 ∧ ((∃ fs, w5 a6 = some (.inr (0, fs))) ∧ wp_AL_add E (fun r7 w8 => post w8) w5 a6 (some q2))) w3 q2 p0 p1))
set_option maxHeartbeats 4000000 in
set_option maxRecDepth 100000 in
theorem c_BA_addRow (l : Launch) (D : va_G) (E : xE_T) (A : Nat → Prop) (post : xw_T → Prop) (w : xw_T) (h0 : Nat) (p0 : Option Nat) (p1 : Int64) (h : wp_BA_addRow E post w h0 p0 p1) : Met l yBA_addRow (xW yBA_addRow cBA_addRow 4 none) ({ frames := 7, cells := 2, slots := 368, locals := 149 } : Room) (va_Pc [.ref h0, va_rf p0, .long p1] (xP D E A w)) (va_Qv post (xB D A) A) 2 368 A := by
  refine Met.ofW (cc := cBA_addRow) (maxL := 4) (ret := none) (by decide) rfl ?_
  intro p e s m args below meth c s₁ B hml hv
  obtain ⟨rfl, hw, hK, hE⟩ := hv
  have hx := B.exec
  have hb := B.bytes
  have hr := B.returns
  have hts : ∀ w ∈ xTB, w.before _ s = true := fun w hw => atoms_spec (ws := xW yBA_addRow cBA_addRow 4 none) B.pre w (List.mem_cons_of_mem _ hw)
  have hown : s.vm.findClass RBA = some m.cls := findClass_of_methodNamed B.named
  have hlocks := B.notSynchronized
  have hw : xw_S D vwCl A s.heap w s.heap [] := xw_S0 hw
  refine xl_start (lvs := [(0, .ref h0), (1, va_rf p0), (2, .long p1)]) (by first | exact Nat.le_of_ble_eq_true rfl | simp [lg_sl, va_rf_cat, xcat_i, xcat_l, xcat_r, xcat_n]) (by first | rfl | simp [lv_args, va_rf_cat, xcat_i, xcat_l, xcat_r, xcat_n]) (fun ls hl => ?_)
  unfold wp_BA_addRow at h
  refine lv_aload_n hx hb dBA_addRow_0 rfl (lv_at hl 0 rfl) ?_
  obtain ⟨v1, hv, h⟩ := h
  refine xw_getR (C := RBA) (T := TBA) (N := 6) (ref := RBA) hx hb hts inBA hown hK hw rfl 1 (by decide) (hts _ mw_103) (fun _ h9 => h9) hv dBA_addRow_1 ?_
  refine xw_new (ci := 3) (fs := [.null, .long 0]) (C := RRW) (T := TRW) (N := 2) hx hb hts inRW tyRW tyRW_ok hown (hts _ mw_151) (hts _ mw_152) (hts _ mw_149) hK hw rfl (by decide +kernel) (Nat.le_of_ble_eq_true rfl) (Nat.le_of_ble_eq_true rfl) dBA_addRow_4 (fun q2 H hq hqA hw => ?_)
  replace h := h _ ⟨hq, xq6 hE hqA⟩ _ rfl
  generalize va_up w q2 (some (.inr (3, [.null, .long 0]))) = w3 at hw h
  refine lv_dup hx hb dBA_addRow_7 rfl ?_
  refine xl_aload_n hx hb dBA_addRow_8 rfl (lv_at hl 1 rfl) ?_
  refine lv_lload_n hx hb dBA_addRow_9 rfl (lv_at hl 2 rfl) ?_
  have hcall := h
  clear h
  refine xw_callv (va_runI (As := [va_rf p0, .long p1]) (rest := [.ref q2, va_rf v1]) ⟨hx, hb, hml, hown, hts⟩ (c_RW_init l D E A _ w3 q2 p0 p1 hcall) (cwI 2 hts (xG_I mw_148) rfl rfl rfl (hts _ mw_149) (hts _ mw_147) (hts _ mw_150) rfl (by decide +kernel) ⟨(Nat.le_of_ble_eq_true rfl), (Nat.le_of_ble_eq_true rfl)⟩) (xw_preS hw hK hE) rfl rfl hl.1 rfl (lv_room (by first | exact Nat.le_of_ble_eq_true rfl | simp [va_rf_cat, xcat_i, xcat_l, xcat_r, xcat_n])) dBA_addRow_10 ⟨(Nat.le_of_ble_eq_true rfl), (Nat.le_of_ble_eq_true rfl)⟩) hw (fun w5 H locs h hw => ?_)
  clear hcall
  obtain ⟨a6, rfl, h⟩ := h
  obtain ⟨⟨fs, hk⟩, h⟩ := h
  have hcall := h
  clear h
  refine xw_calli (va_runV (As := [.ref q2]) (rest := []) ⟨hx, hb, hml, hown, hts⟩ (c_AL_add l D E A _ w5 a6 (some q2) hcall) (cwV 1 hts (xG_V mw_146 mw_83 mw_84 mw_19 mw_85) rfl rfl rfl (by decide +kernel) ⟨(Nat.le_of_ble_eq_true rfl), (Nat.le_of_ble_eq_true rfl)⟩) (xw_preV (ci := 0) hw hK hE rfl hk) rfl rfl hl.1 rfl (lv_room (by first | exact Nat.le_of_ble_eq_true rfl | simp [va_rf_cat, xcat_i, xcat_l, xcat_r, xcat_n])) dBA_addRow_13 ⟨(Nat.le_of_ble_eq_true rfl), (Nat.le_of_ble_eq_true rfl)⟩) hw (fun r7 w8 H locs h hw => ?_)
  clear hcall
  refine lv_pop hx hb dBA_addRow_16 rfl ?_
  refine W.widen (k := 2) (n := 368) (Nat.le_of_ble_eq_true rfl) (Nat.le_of_ble_eq_true rfl) ?_
  exact xw_vret hx hb hr hlocks hw h dBA_addRow_17
def wp_PL_row (E : xE_T) (post : Int32 → xw_T → Prop) (w : xw_T) (h0 : Nat) (p0 : Int32) (p1 : Int32) (p2 : Int64) : Prop := (∃ fs, w h0 = some (.inr (4, fs))) ∧ wp_PL_findBatch E (fun r1 w2 => (∃ fs, w2 h0 = some (.inr (4, fs))) ∧ wp_PL_findAccount E (fun r3 w4 => (r1 = none → (post 0 w4)) ∧ (¬ r1 = none → ((r3 = none → (post 0 w4)) ∧ (¬ r3 = none → (∃ a5 : Nat, r1 = some a5 ∧ ((∃ fs, w4 a5 = some (.inr (2, fs))) ∧ wp_BA_isOpen E (fun r6 w7 => (r6 = 0 → (post 0 w7)) ∧ (¬ r6 = 0 → ((∃ fs, w7 a5 = some (.inr (2, fs))) ∧ wp_BA_isFull E (fun r8 w9 => (r8 = 0 → ((p2 = 0 → (post 0 w9)) ∧ (¬ p2 = 0 → (wp_PL_isWithin E (fun r10 w11 => (¬ r10 = 0 → ((∃ fs, w11 a5 = some (.inr (2, fs))) ∧ wp_BA_addRow E (fun w13 => post 1 w13) w11 a5 r3 p2)) ∧ (r10 = 0 → (post 0 w11))) w9 p2 (-100000000) 100000000)))) ∧ (¬ r8 = 0 → (post 0 w9))) w7 a5))) w4 a5)))))) w2 h0 p1) w h0 p0
set_option maxHeartbeats 4000000 in
set_option maxRecDepth 100000 in
theorem c_PL_row (l : Launch) (D : va_G) (E : xE_T) (A : Nat → Prop) (post : Int32 → xw_T → Prop) (w : xw_T) (h0 : Nat) (p0 : Int32) (p1 : Int32) (p2 : Int64) (h : wp_PL_row E post w h0 p0 p1 p2) : Met l yPL_row (xW yPL_row cPL_row 7 (some (.boolean))) ({ frames := 8, cells := 2, slots := 368, locals := 172 } : Room) (va_Pc [.ref h0, .int p0, .int p1, .long p2] (xP D E A w)) (va_Qi post (xB D A) A) 2 368 A := by
  refine Met.ofW (cc := cPL_row) (maxL := 7) (ret := (some (.boolean))) (by decide) rfl ?_
  intro p e s m args below meth c s₁ B hml hv
  obtain ⟨rfl, hw, hK, hE⟩ := hv
  have hx := B.exec
  have hb := B.bytes
  have hr := B.returns
  have hts : ∀ w ∈ xTB, w.before _ s = true := fun w hw => atoms_spec (ws := xW yPL_row cPL_row 7 (some (.boolean))) B.pre w (List.mem_cons_of_mem _ hw)
  have hown : s.vm.findClass RPL = some m.cls := findClass_of_methodNamed B.named
  have hlocks := B.notSynchronized
  have hw : xw_S D vwCl A s.heap w s.heap [] := xw_S0 hw
  refine xl_start (lvs := [(0, .ref h0), (1, .int p0), (2, .int p1), (3, .long p2)]) (by first | exact Nat.le_of_ble_eq_true rfl | simp [lg_sl, va_rf_cat, xcat_i, xcat_l, xcat_r, xcat_n]) (by first | rfl | simp [lv_args, va_rf_cat, xcat_i, xcat_l, xcat_r, xcat_n]) (fun ls hl => ?_)
  unfold wp_PL_row at h
  refine lv_aload_n hx hb dPL_row_0 rfl (lv_at hl 0 rfl) ?_
  refine lv_iload_n hx hb dPL_row_1 rfl (lv_at hl 1 rfl) ?_
  obtain ⟨⟨fs, hk⟩, h⟩ := h
  have hcall := h
  clear h
  refine xw_callq (va_runV (As := [.int p0]) (rest := []) ⟨hx, hb, hml, hown, hts⟩ (c_PL_findBatch l D E A _ w h0 p0 hcall) (cwV 1 hts (xG_V mw_171 mw_172 mw_173 mw_95 mw_174) rfl rfl rfl (by decide +kernel) ⟨(Nat.le_of_ble_eq_true rfl), (Nat.le_of_ble_eq_true rfl)⟩) (xw_preV (ci := 4) hw hK hE rfl hk) rfl rfl hl.1 rfl (lv_room (by first | exact Nat.le_of_ble_eq_true rfl | simp [va_rf_cat, xcat_i, xcat_l, xcat_r, xcat_n])) dPL_row_2 ⟨(Nat.le_of_ble_eq_true rfl), (Nat.le_of_ble_eq_true rfl)⟩) hw (fun r1 w2 H locs h hw => ?_)
  clear hcall
  refine xl_astore (i := 5) (lv' := [(5, va_rf r1), (0, .ref h0), (1, .int p0), (2, .int p1), (3, .long p2)]) hx hb dPL_row_5 hl (by decide) (by first | rfl | simp [va_rf_cat, xcat_i, xcat_l, xcat_r, xcat_n]) (fun ls hl => ?_)
  refine lv_aload_n hx hb dPL_row_7 rfl (lv_at hl 1 rfl) ?_
  refine lv_iload_n hx hb dPL_row_8 rfl (lv_at hl 3 rfl) ?_
  obtain ⟨⟨fs, hk⟩, h⟩ := h
  have hcall := h
  clear h
  refine xw_callq (va_runV (As := [.int p1]) (rest := []) ⟨hx, hb, hml, hown, hts⟩ (c_PL_findAccount l D E A _ w2 h0 p1 hcall) (cwV 1 hts (xG_V mw_167 mw_168 mw_169 mw_95 mw_170) rfl rfl rfl (by decide +kernel) ⟨(Nat.le_of_ble_eq_true rfl), (Nat.le_of_ble_eq_true rfl)⟩) (xw_preV (ci := 4) hw hK hE rfl hk) rfl rfl hl.1 rfl (lv_room (by first | exact Nat.le_of_ble_eq_true rfl | simp [va_rf_cat, xcat_i, xcat_l, xcat_r, xcat_n])) dPL_row_9 ⟨(Nat.le_of_ble_eq_true rfl), (Nat.le_of_ble_eq_true rfl)⟩) hw (fun r3 w4 H locs h hw => ?_)
  clear hcall
  refine xl_astore (i := 6) (lv' := [(6, va_rf r3), (5, va_rf r1), (0, .ref h0), (1, .int p0), (2, .int p1), (3, .long p2)]) hx hb dPL_row_12 hl (by decide) (by first | rfl | simp [va_rf_cat, xcat_i, xcat_l, xcat_r, xcat_n]) (fun ls hl => ?_)
  refine xl_aload hx hb dPL_row_14 (lv_at hl 1 rfl) ?_
  refine xl_ifnull (tgt := 40) hx hb dPL_row_16 rfl (fun hc => ?_) (fun hc => ?_)
  · replace h := h.1 hc
    refine lv_iconst (v := 0) hx hb dPL_row_40 (by decide) ?_
    refine W.widen (k := 2) (n := 368) (Nat.le_of_ble_eq_true rfl) (Nat.le_of_ble_eq_true rfl) ?_
    exact xw_zret (by decide) hx hb hr hlocks hw h dPL_row_41
  · replace h := h.2 hc
    refine xl_aload hx hb dPL_row_19 (lv_at hl 0 rfl) ?_
    refine xl_ifnull (tgt := 40) hx hb dPL_row_21 rfl (fun hc => ?_) (fun hc => ?_)
    · replace h := h.1 hc
      refine lv_iconst (v := 0) hx hb dPL_row_40 (by decide) ?_
      refine W.widen (k := 2) (n := 368) (Nat.le_of_ble_eq_true rfl) (Nat.le_of_ble_eq_true rfl) ?_
      exact xw_zret (by decide) hx hb hr hlocks hw h dPL_row_41
    · replace h := h.2 hc
      refine xl_aload hx hb dPL_row_24 (lv_at hl 1 rfl) ?_
      obtain ⟨a5, rfl, h⟩ := h
      obtain ⟨⟨fs, hk⟩, h⟩ := h
      have hcall := h
      clear h
      refine xw_calli (va_runV (As := []) (rest := []) ⟨hx, hb, hml, hown, hts⟩ (c_BA_isOpen l D E A _ w4 a5 hcall) (cwV 0 hts (xG_V mw_163 mw_164 mw_165 mw_110 mw_166) rfl rfl rfl (by decide +kernel) ⟨(Nat.le_of_ble_eq_true rfl), (Nat.le_of_ble_eq_true rfl)⟩) (xw_preV (ci := 2) hw hK hE rfl hk) rfl rfl hl.1 rfl (lv_room (by first | exact Nat.le_of_ble_eq_true rfl | simp [va_rf_cat, xcat_i, xcat_l, xcat_r, xcat_n])) dPL_row_26 ⟨(Nat.le_of_ble_eq_true rfl), (Nat.le_of_ble_eq_true rfl)⟩) hw (fun r6 w7 H locs h hw => ?_)
      clear hcall
      refine lv_if_eq (tgt := 40) hx hb dPL_row_29 rfl (fun hc => ?_) (fun hc => ?_)
      · replace h := h.1 hc
        refine lv_iconst (v := 0) hx hb dPL_row_40 (by decide) ?_
        refine W.widen (k := 2) (n := 368) (Nat.le_of_ble_eq_true rfl) (Nat.le_of_ble_eq_true rfl) ?_
        exact xw_zret (by decide) hx hb hr hlocks hw h dPL_row_41
      · replace h := h.2 hc
        refine lv_aload hx hb dPL_row_32 (lv_at hl 1 rfl) ?_
        obtain ⟨⟨fs, hk⟩, h⟩ := h
        have hcall := h
        clear h
        refine xw_calli (va_runV (As := []) (rest := []) ⟨hx, hb, hml, hown, hts⟩ (c_BA_isFull l D E A _ w7 a5 hcall) (cwV 0 hts (xG_V mw_159 mw_160 mw_161 mw_110 mw_162) rfl rfl rfl (by decide +kernel) ⟨(Nat.le_of_ble_eq_true rfl), (Nat.le_of_ble_eq_true rfl)⟩) (xw_preV (ci := 2) hw hK hE rfl hk) rfl rfl hl.1 rfl (lv_room (by first | exact Nat.le_of_ble_eq_true rfl | simp [va_rf_cat, xcat_i, xcat_l, xcat_r, xcat_n])) dPL_row_34 ⟨(Nat.le_of_ble_eq_true rfl), (Nat.le_of_ble_eq_true rfl)⟩) hw (fun r8 w9 H locs h hw => ?_)
        clear hcall
        refine lv_if_eq (tgt := 42) hx hb dPL_row_37 rfl (fun hc => ?_) (fun hc => ?_)
        · replace h := h.1 hc
          refine lv_lload_n hx hb dPL_row_42 rfl (lv_at hl 5 rfl) ?_
          refine lv_lconst (v := 0) hx hb dPL_row_43 (by decide) ?_
          refine xl_lc_eq (tgt := 61) hx hb dPL_row_44 dPL_row_45 rfl (fun hc => ?_) (fun hc => ?_)
          · replace h := h.1 hc
            refine lv_iconst (v := 0) hx hb dPL_row_61 (by decide) ?_
            refine W.widen (k := 2) (n := 368) (Nat.le_of_ble_eq_true rfl) (Nat.le_of_ble_eq_true rfl) ?_
            exact xw_zret (by decide) hx hb hr hlocks hw h dPL_row_62
          · replace h := h.2 hc
            refine lv_lload_n hx hb dPL_row_48 rfl (lv_at hl 5 rfl) ?_
            refine lv_ldc2 (v := (-100000000)) hx hb hown (hts _ mw_158) dPL_row_49 ?_
            refine lv_ldc2 (v := 100000000) hx hb hown (hts _ mw_157) dPL_row_52 ?_
            have hcall := h
            clear h
            refine xw_calli (va_runS (As := [.long p2, .long (-100000000), .long 100000000]) (rest := []) ⟨hx, hb, hml, hown, hts⟩ (c_PL_isWithin l D E A _ w9 p2 (-100000000) 100000000 hcall) (va_cwS 3 hts (xG_S mw_97 mw_98 mw_95 mw_99) rfl rfl rfl (by decide +kernel) ⟨(Nat.le_of_ble_eq_true rfl), (Nat.le_of_ble_eq_true rfl)⟩) (xw_preS hw hK hE) rfl rfl hl.1 rfl (lv_room (by first | exact Nat.le_of_ble_eq_true rfl | simp [va_rf_cat, xcat_i, xcat_l, xcat_r, xcat_n])) dPL_row_55 ⟨(Nat.le_of_ble_eq_true rfl), (Nat.le_of_ble_eq_true rfl)⟩) hw (fun r10 w11 H locs h hw => ?_)
            clear hcall
            refine lv_if_ne (tgt := 63) hx hb dPL_row_58 rfl (fun hc => ?_) (fun hc => ?_)
            · replace h := h.1 hc
              refine lv_aload hx hb dPL_row_63 (lv_at hl 1 rfl) ?_
              refine xl_aload hx hb dPL_row_65 (lv_at hl 0 rfl) ?_
              refine lv_lload_n hx hb dPL_row_67 rfl (lv_at hl 5 rfl) ?_
              obtain ⟨⟨fs, hk⟩, h⟩ := h
              have hcall := h
              clear h
              refine xw_callv (va_runV (As := [va_rf r3, .long p2]) (rest := []) ⟨hx, hb, hml, hown, hts⟩ (c_BA_addRow l D E A _ w11 a5 r3 p2 hcall) (cwV 2 hts (xG_V mw_153 mw_154 mw_155 mw_110 mw_156) rfl rfl rfl (by decide +kernel) ⟨(Nat.le_of_ble_eq_true rfl), (Nat.le_of_ble_eq_true rfl)⟩) (xw_preV (ci := 2) hw hK hE rfl hk) rfl rfl hl.1 rfl (lv_room (by first | exact Nat.le_of_ble_eq_true rfl | simp [va_rf_cat, xcat_i, xcat_l, xcat_r, xcat_n])) dPL_row_68 ⟨(Nat.le_of_ble_eq_true rfl), (Nat.le_of_ble_eq_true rfl)⟩) hw (fun w13 H locs h hw => ?_)
              clear hcall
              refine lv_iconst (v := 1) hx hb dPL_row_71 (by decide) ?_
              refine W.widen (k := 2) (n := 368) (Nat.le_of_ble_eq_true rfl) (Nat.le_of_ble_eq_true rfl) ?_
              exact xw_zret (by decide) hx hb hr hlocks hw h dPL_row_72
            · replace h := h.2 hc
              refine lv_iconst (v := 0) hx hb dPL_row_61 (by decide) ?_
              refine W.widen (k := 2) (n := 368) (Nat.le_of_ble_eq_true rfl) (Nat.le_of_ble_eq_true rfl) ?_
              exact xw_zret (by decide) hx hb hr hlocks hw h dPL_row_62
        · replace h := h.2 hc
          refine lv_iconst (v := 0) hx hb dPL_row_40 (by decide) ?_
          refine W.widen (k := 2) (n := 368) (Nat.le_of_ble_eq_true rfl) (Nat.le_of_ble_eq_true rfl) ?_
          exact xw_zret (by decide) hx hb hr hlocks hw h dPL_row_41
def wp_BA_size (E : xE_T) (post : Int32 → xw_T → Prop) (w : xw_T) (h0 : Nat) : Prop := ∃ v1, xgR w h0 2 1 = some v1 ∧ (∃ a2 : Nat, v1 = some a2 ∧ ((∃ fs, w a2 = some (.inr (0, fs))) ∧ wp_AL_size E (fun r3 w4 => post r3 w4) w a2))
set_option maxHeartbeats 4000000 in
set_option maxRecDepth 100000 in
theorem c_BA_size (l : Launch) (D : va_G) (E : xE_T) (A : Nat → Prop) (post : Int32 → xw_T → Prop) (w : xw_T) (h0 : Nat) (h : wp_BA_size E post w h0) : Met l yBA_size (xW yBA_size cBA_size 1 (some (.int))) ({ frames := 1, cells := 0, slots := 0, locals := 20 } : Room) (va_Pc [.ref h0] (xP D E A w)) (va_Qi post (xB D A) A) 0 0 A := by
  refine Met.ofW (cc := cBA_size) (maxL := 1) (ret := (some (.int))) (by decide) rfl ?_
  intro p e s m args below meth c s₁ B hml hv
  obtain ⟨rfl, hw, hK, hE⟩ := hv
  have hx := B.exec
  have hb := B.bytes
  have hr := B.returns
  have hts : ∀ w ∈ xTB, w.before _ s = true := fun w hw => atoms_spec (ws := xW yBA_size cBA_size 1 (some (.int))) B.pre w (List.mem_cons_of_mem _ hw)
  have hown : s.vm.findClass RBA = some m.cls := findClass_of_methodNamed B.named
  have hlocks := B.notSynchronized
  have hw : xw_S D vwCl A s.heap w s.heap [] := xw_S0 hw
  refine xl_start (lvs := [(0, .ref h0)]) (by first | exact Nat.le_of_ble_eq_true rfl | simp [lg_sl, va_rf_cat, xcat_i, xcat_l, xcat_r, xcat_n]) (by first | rfl | simp [lv_args, va_rf_cat, xcat_i, xcat_l, xcat_r, xcat_n]) (fun ls hl => ?_)
  unfold wp_BA_size at h
  refine lv_aload_n hx hb dBA_size_0 rfl (lv_at hl 0 rfl) ?_
  obtain ⟨v1, hv, h⟩ := h
  refine xw_getR (C := RBA) (T := TBA) (N := 6) (ref := RBA) hx hb hts inBA hown hK hw rfl 1 (by decide) (hts _ mw_103) (fun _ h9 => h9) hv dBA_size_1 ?_
  obtain ⟨a2, rfl, h⟩ := h
  obtain ⟨⟨fs, hk⟩, h⟩ := h
  have hcall := h
  clear h
  refine xw_calli (va_runV (As := []) (rest := []) ⟨hx, hb, hml, hown, hts⟩ (c_AL_size l D E A _ w a2 hcall) (cwV 0 hts (xG_V mw_142 mw_79 mw_80 mw_19 mw_81) rfl rfl rfl (by decide +kernel) ⟨(Nat.le_of_ble_eq_true rfl), (Nat.le_of_ble_eq_true rfl)⟩) (xw_preV (ci := 0) hw hK hE rfl hk) rfl rfl hl.1 rfl (lv_room (by first | exact Nat.le_of_ble_eq_true rfl | simp [va_rf_cat, xcat_i, xcat_l, xcat_r, xcat_n])) dBA_size_4 ⟨(Nat.le_of_ble_eq_true rfl), (Nat.le_of_ble_eq_true rfl)⟩) hw (fun r3 w4 H locs h hw => ?_)
  clear hcall
  refine W.widen (k := 0) (n := 0) (Nat.le_of_ble_eq_true rfl) (Nat.le_of_ble_eq_true rfl) ?_
  exact xw_iret hx hb hr hlocks hw h dBA_size_7
def wl_BA_sumForAccount_5 (E : xE_T) (post : Int64 → xw_T → Prop) : Nat → xw_T → Nat → Option Nat → Int32 → Int64 → Int32 → Prop
  | 0 => fun _ _ _ _ _ _ => False
  | n5 + 1 => fun w x0 x1 x2 x3 x5 => (x2 ≤ x5 → (post x3 w)) ∧ (¬ x2 ≤ x5 → (∃ v1, xgR w x0 2 1 = some v1 ∧ (∃ a2 : Nat, v1 = some a2 ∧ ((∃ fs, w a2 = some (.inr (0, fs))) ∧ wp_AL_size E (fun r3 w4 => (r3 ≤ x5 → (post x3 w4)) ∧ (¬ r3 ≤ x5 → (∃ v5, xgR w4 x0 2 1 = some v5 ∧ (∃ a6 : Nat, v5 = some a6 ∧ ((∃ fs, w4 a6 = some (.inr (0, fs))) ∧ wp_AL_get E (fun r7 w8 => ∃ a9 : Nat, r7 = some a9 ∧ ((∃ fs, w8 a9 = some (.inr (3, fs))) ∧ (∃ v10, xgR w8 a9 3 0 = some v10 ∧ ((¬ v10 = x1 → (wl_BA_sumForAccount_5 E post n5 w8 x0 x1 x2 x3 (x5 + 1))) ∧ (v10 = x1 → (∃ v11, xgL w8 a9 3 1 = some v11 ∧ (wl_BA_sumForAccount_5 E post n5 w8 x0 x1 x2 (x3 + v11) (x5 + 1)))))))) w4 a6 x5))))) w a2))))
def wp_BA_sumForAccount (E : xE_T) (post : Int64 → xw_T → Prop) (w : xw_T) (h0 : Nat) (p0 : Option Nat) (p1 : Int32) : Prop := ∃ n5, wl_BA_sumForAccount_5 E post n5 w h0 p0 p1 0 0
set_option maxHeartbeats 4000000 in
set_option maxRecDepth 100000 in
theorem c_BA_sumForAccount (l : Launch) (D : va_G) (E : xE_T) (A : Nat → Prop) (post : Int64 → xw_T → Prop) (w : xw_T) (h0 : Nat) (p0 : Option Nat) (p1 : Int32) (h : wp_BA_sumForAccount E post w h0 p0 p1) : Met l yBA_sumForAccount (xW yBA_sumForAccount cBA_sumForAccount 7 (some (.long))) ({ frames := 3, cells := 0, slots := 0, locals := 64 } : Room) (va_Pc [.ref h0, va_rf p0, .int p1] (xP D E A w)) (va_Ql post (xB D A) A) 0 0 A := by
  refine Met.ofW (cc := cBA_sumForAccount) (maxL := 7) (ret := (some (.long))) (by decide) rfl ?_
  intro p e s m args below meth c s₁ B hml hv
  obtain ⟨rfl, hw, hK, hE⟩ := hv
  have hx := B.exec
  have hb := B.bytes
  have hr := B.returns
  have hts : ∀ w ∈ xTB, w.before _ s = true := fun w hw => atoms_spec (ws := xW yBA_sumForAccount cBA_sumForAccount 7 (some (.long))) B.pre w (List.mem_cons_of_mem _ hw)
  have hown : s.vm.findClass RBA = some m.cls := findClass_of_methodNamed B.named
  have hlocks := B.notSynchronized
  have hw : xw_S D vwCl A s.heap w s.heap [] := xw_S0 hw
  have lo_5 : ∀ (n5 : Nat) (w : xw_T) (x0 : Nat) (x1 : Option Nat) (x2 : Int32) (x3 : Int64) (x5 : Int32) (H : Heap) (locs : List Loc) (ls : Array Slot), lv_has ls 7 [(0, .ref x0), (1, va_rf x1), (2, .int x2), (3, .long x3), (5, .int x5)] → xw_S D vwCl A s.heap w H locs → wl_BA_sumForAccount_5 E post n5 w x0 x1 x2 x3 x5 → W p l e (headSpec (xW yBA_sumForAccount cBA_sumForAccount 7 (some (.long))) ({ frames := 3, cells := 0, slots := 0, locals := 64 } : Room)).room s m ([.ref h0, va_rf p0, .int p1] : List Value).toArray below meth c H locs 0 0 (MQ below (va_Ql post (xB D A) A) ([.ref h0, va_rf p0, .int p1] : List Value).toArray s 0 0 A) (F0 m 5 ls []) := by
    intro n5
    induction n5 with
    | zero => intro w x0 x1 x2 x3 x5 H locs ls hl hw h; exact h.elim
    | succ n5 ih5 =>
      intro w x0 x1 x2 x3 x5 H locs ls hl hw h
      dsimp only [wl_BA_sumForAccount_5] at h
      refine lv_iload hx hb dBA_sumForAccount_5 (lv_at hl 4 rfl) ?_
      refine lv_iload_n hx hb dBA_sumForAccount_7 rfl (lv_at hl 2 rfl) ?_
      refine lv_icmp_ge (tgt := 60) hx hb dBA_sumForAccount_8 rfl (fun hc => ?_) (fun hc => ?_)
      · replace h := h.1 hc
        refine lv_lload_n hx hb dBA_sumForAccount_60 rfl (lv_at hl 3 rfl) ?_
        refine W.widen (k := 0) (n := 0) (Nat.le_of_ble_eq_true rfl) (Nat.le_of_ble_eq_true rfl) ?_
        exact xw_lret hx hb hr hlocks hw h dBA_sumForAccount_61
      · replace h := h.2 hc
        refine lv_iload hx hb dBA_sumForAccount_11 (lv_at hl 4 rfl) ?_
        refine lv_aload_n hx hb dBA_sumForAccount_13 rfl (lv_at hl 0 rfl) ?_
        obtain ⟨v1, hv, h⟩ := h
        refine xw_getR (C := RBA) (T := TBA) (N := 6) (ref := RBA) hx hb hts inBA hown hK hw rfl 1 (by decide) (hts _ mw_103) (fun _ h9 => h9) hv dBA_sumForAccount_14 ?_
        obtain ⟨a2, rfl, h⟩ := h
        obtain ⟨⟨fs, hk⟩, h⟩ := h
        have hcall := h
        clear h
        refine xw_calli (va_runV (As := []) (rest := [.int x5]) ⟨hx, hb, hml, hown, hts⟩ (c_AL_size l D E A _ w a2 hcall) (cwV 0 hts (xG_V mw_142 mw_79 mw_80 mw_19 mw_81) rfl rfl rfl (by decide +kernel) ⟨(Nat.le_of_ble_eq_true rfl), (Nat.le_of_ble_eq_true rfl)⟩) (xw_preV (ci := 0) hw hK hE rfl hk) rfl rfl hl.1 rfl (lv_room (by first | exact Nat.le_of_ble_eq_true rfl | simp [va_rf_cat, xcat_i, xcat_l, xcat_r, xcat_n])) dBA_sumForAccount_17 ⟨(Nat.le_of_ble_eq_true rfl), (Nat.le_of_ble_eq_true rfl)⟩) hw (fun r3 w4 H locs h hw => ?_)
        clear hcall
        refine lv_icmp_ge (tgt := 60) hx hb dBA_sumForAccount_20 rfl (fun hc => ?_) (fun hc => ?_)
        · replace h := h.1 hc
          refine lv_lload_n hx hb dBA_sumForAccount_60 rfl (lv_at hl 3 rfl) ?_
          refine W.widen (k := 0) (n := 0) (Nat.le_of_ble_eq_true rfl) (Nat.le_of_ble_eq_true rfl) ?_
          exact xw_lret hx hb hr hlocks hw h dBA_sumForAccount_61
        · replace h := h.2 hc
          refine lv_aload_n hx hb dBA_sumForAccount_23 rfl (lv_at hl 0 rfl) ?_
          obtain ⟨v5, hv, h⟩ := h
          refine xw_getR (C := RBA) (T := TBA) (N := 6) (ref := RBA) hx hb hts inBA hown hK hw rfl 1 (by decide) (hts _ mw_103) (fun _ h9 => h9) hv dBA_sumForAccount_24 ?_
          refine lv_iload hx hb dBA_sumForAccount_27 (lv_at hl 4 rfl) ?_
          obtain ⟨a6, rfl, h⟩ := h
          obtain ⟨⟨fs, hk⟩, h⟩ := h
          have hcall := h
          clear h
          refine xw_callq (va_runV (As := [.int x5]) (rest := []) ⟨hx, hb, hml, hown, hts⟩ (c_AL_get l D E A _ w4 a6 x5 hcall) (cwV 1 hts (xG_V mw_177 mw_139 mw_140 mw_19 mw_141) rfl rfl rfl (by decide +kernel) ⟨(Nat.le_of_ble_eq_true rfl), (Nat.le_of_ble_eq_true rfl)⟩) (xw_preV (ci := 0) hw hK hE rfl hk) rfl rfl hl.1 rfl (lv_room (by first | exact Nat.le_of_ble_eq_true rfl | simp [va_rf_cat, xcat_i, xcat_l, xcat_r, xcat_n])) dBA_sumForAccount_29 ⟨(Nat.le_of_ble_eq_true rfl), (Nat.le_of_ble_eq_true rfl)⟩) hw (fun r7 w8 H locs h hw => ?_)
          clear hcall
          obtain ⟨a9, rfl, h⟩ := h
          obtain ⟨⟨fs, hk⟩, h⟩ := h
          refine va_castS hx hb hown (hts _ mw_151) (hK.1 3 _ rfl).2 (xw_recv hK hw (ci := 3) rfl hk) dBA_sumForAccount_32 ?_
          refine lv_astore (i := 6) (lv' := [(6, .ref a9), (0, .ref x0), (1, va_rf x1), (2, .int x2), (3, .long x3), (5, .int x5)]) hx hb dBA_sumForAccount_35 hl (by decide) (by first | rfl | simp [va_rf_cat, xcat_i, xcat_l, xcat_r, xcat_n]) (fun ls hl => ?_)
          refine lv_aload hx hb dBA_sumForAccount_37 (lv_at hl 0 rfl) ?_
          obtain ⟨v10, hv, h⟩ := h
          refine xw_getR (C := RRW) (T := TRW) (N := 2) (ref := RRW) hx hb hts inRW hown hK hw rfl 0 (by decide) (hts _ mw_176) (fun _ h9 => h9) hv dBA_sumForAccount_39 ?_
          refine xl_aload_n hx hb dBA_sumForAccount_42 rfl (lv_at hl 2 rfl) ?_
          refine lv_acmp_ne (rx := v10) (ry := x1) (tgt := 54) hx hb dBA_sumForAccount_43 rfl (fun hc => ?_) (fun hc => ?_)
          · replace h := h.1 hc
            refine lv_iinc (k := 5) (v := x5 + 1) (lv' := [(5, .int (x5 + 1)), (6, .ref a9), (0, .ref x0), (1, va_rf x1), (2, .int x2), (3, .long x3)]) hx hb dBA_sumForAccount_54 hl rfl rfl (by decide) (by first | rfl | simp [va_rf_cat, xcat_i, xcat_l, xcat_r, xcat_n]) (fun ls hl => ?_)
            refine lv_goto (tgt := 5) hx hb dBA_sumForAccount_57 rfl ?_
            exact ih5 _ x0 x1 x2 x3 (x5 + 1) _ _ _ (lv_sub hl [2, 3, 4, 5, 0] rfl) hw h
          · replace h := h.2 hc
            refine lv_lload_n hx hb dBA_sumForAccount_46 rfl (lv_at hl 4 rfl) ?_
            refine lv_aload hx hb dBA_sumForAccount_47 (lv_at hl 0 rfl) ?_
            obtain ⟨v11, hv, h⟩ := h
            refine xw_getL (C := RRW) (T := TRW) (N := 2) (ref := RRW) hx hb hts inRW hown hK hw rfl 1 (by decide) (hts _ mw_175) (fun _ h9 => h9) hv dBA_sumForAccount_49 ?_
            refine lv_ladd hx hb dBA_sumForAccount_52 ?_
            refine lv_lstore_n (i := 3) (lv' := [(3, .long (x3 + v11)), (6, .ref a9), (0, .ref x0), (1, va_rf x1), (2, .int x2), (5, .int x5)]) hx hb dBA_sumForAccount_53 rfl hl (by decide) (by first | rfl | simp [va_rf_cat, xcat_i, xcat_l, xcat_r, xcat_n]) (fun ls hl => ?_)
            refine lv_iinc (k := 5) (v := x5 + 1) (lv' := [(5, .int (x5 + 1)), (3, .long (x3 + v11)), (6, .ref a9), (0, .ref x0), (1, va_rf x1), (2, .int x2)]) hx hb dBA_sumForAccount_54 hl rfl rfl (by decide) (by first | rfl | simp [va_rf_cat, xcat_i, xcat_l, xcat_r, xcat_n]) (fun ls hl => ?_)
            refine lv_goto (tgt := 5) hx hb dBA_sumForAccount_57 rfl ?_
            exact ih5 _ x0 x1 x2 (x3 + v11) (x5 + 1) _ _ _ (lv_sub hl [3, 4, 5, 1, 0] rfl) hw h
  refine xl_start (lvs := [(0, .ref h0), (1, va_rf p0), (2, .int p1)]) (by first | exact Nat.le_of_ble_eq_true rfl | simp [lg_sl, va_rf_cat, xcat_i, xcat_l, xcat_r, xcat_n]) (by first | rfl | simp [lv_args, va_rf_cat, xcat_i, xcat_l, xcat_r, xcat_n]) (fun ls hl => ?_)
  unfold wp_BA_sumForAccount at h
  refine lv_lconst (v := 0) hx hb dBA_sumForAccount_0 (by decide) ?_
  refine lv_lstore_n (i := 3) (lv' := [(3, .long 0), (0, .ref h0), (1, va_rf p0), (2, .int p1)]) hx hb dBA_sumForAccount_1 rfl hl (by decide) (by first | rfl | simp [va_rf_cat, xcat_i, xcat_l, xcat_r, xcat_n]) (fun ls hl => ?_)
  refine lv_iconst (v := 0) hx hb dBA_sumForAccount_2 (by decide) ?_
  refine lv_istore (i := 5) (lv' := [(5, .int 0), (3, .long 0), (0, .ref h0), (1, va_rf p0), (2, .int p1)]) hx hb dBA_sumForAccount_3 hl (by decide) (by first | rfl | simp [va_rf_cat, xcat_i, xcat_l, xcat_r, xcat_n]) (fun ls hl => ?_)
  obtain ⟨n5, h⟩ := h
  refine W.widen (k := 0) (n := 0) (Nat.le_of_ble_eq_true rfl) (Nat.le_of_ble_eq_true rfl) ?_
  exact lo_5 n5 _ h0 p0 p1 0 0 _ _ _ (lv_sub hl [2, 3, 4, 1, 0] rfl) hw h
def wl_PL_balance_22 (E : xE_T) (post : Int64 → xw_T → Prop) : Nat → xw_T → Nat → Int64 → Option Nat → Int64 → Int32 → Prop
  | 0 => fun _ _ _ _ _ _ => False
  | n22 + 1 => fun w x0 x2 x4 x5 x7 => ∃ v1, xgR w x0 4 1 = some v1 ∧ (∃ a2 : Nat, v1 = some a2 ∧ ((∃ fs, w a2 = some (.inr (0, fs))) ∧ wp_AL_size E (fun r3 w4 => (r3 ≤ x7 → (post x5 w4)) ∧ (¬ r3 ≤ x7 → (∃ v5, xgR w4 x0 4 1 = some v5 ∧ (∃ a6 : Nat, v5 = some a6 ∧ ((∃ fs, w4 a6 = some (.inr (0, fs))) ∧ wp_AL_get E (fun r7 w8 => ∃ a9 : Nat, r7 = some a9 ∧ ((∃ fs, w8 a9 = some (.inr (2, fs))) ∧ (∃ v10, xgR w8 a9 2 2 = some v10 ∧ ((¬ v10 = (some (E.2 1)) → (wl_PL_balance_22 E post n22 w8 x0 x2 x4 x5 (x7 + 1))) ∧ (v10 = (some (E.2 1)) → (∃ v11, xgI w8 a9 2 0 = some v11 ∧ ((x2 < v11.toInt64 → (wl_PL_balance_22 E post n22 w8 x0 x2 x4 x5 (x7 + 1))) ∧ (¬ x2 < v11.toInt64 → ((∃ fs, w8 a9 = some (.inr (2, fs))) ∧ wp_BA_size E (fun r12 w13 => (∃ fs, w13 a9 = some (.inr (2, fs))) ∧ wp_BA_sumForAccount E (fun r14 w15 => wl_PL_balance_22 E post n22 w15 x0 x2 x4 (x5 + r14) (x7 + 1)) w13 a9 x4 r12) w8 a9))))))))) w4 a6 x7))))) w a2))
def wp_PL_balance (E : xE_T) (post : Int64 → xw_T → Prop) (w : xw_T) (h0 : Nat) (p0 : Int32) (p1 : Int64) : Prop := (∃ fs, w h0 = some (.inr (4, fs))) ∧ wp_PL_findAccount E (fun r16 w17 => (¬ r16 = none → (∃ n22, wl_PL_balance_22 E post n22 w17 h0 p1 r16 0 0)) ∧ (r16 = none → (post (-2000000001) w17))) w h0 p0
set_option maxHeartbeats 4000000 in
set_option maxRecDepth 100000 in
theorem c_PL_balance (l : Launch) (D : va_G) (E : xE_T) (A : Nat → Prop) (post : Int64 → xw_T → Prop) (w : xw_T) (h0 : Nat) (p0 : Int32) (p1 : Int64) (h : wp_PL_balance E post w h0 p0 p1) : Met l yPL_balance (xW yPL_balance cPL_balance 9 (some (.long))) ({ frames := 4, cells := 0, slots := 0, locals := 90 } : Room) (va_Pc [.ref h0, .int p0, .long p1] (xP D E A w)) (va_Ql post (xB D A) A) 0 0 A := by
  refine Met.ofW (cc := cPL_balance) (maxL := 9) (ret := (some (.long))) (by decide) rfl ?_
  intro p e s m args below meth c s₁ B hml hv
  obtain ⟨rfl, hw, hK, hE⟩ := hv
  have hx := B.exec
  have hb := B.bytes
  have hr := B.returns
  have hts : ∀ w ∈ xTB, w.before _ s = true := fun w hw => atoms_spec (ws := xW yPL_balance cPL_balance 9 (some (.long))) B.pre w (List.mem_cons_of_mem _ hw)
  have hown : s.vm.findClass RPL = some m.cls := findClass_of_methodNamed B.named
  have hlocks := B.notSynchronized
  have hw : xw_S D vwCl A s.heap w s.heap [] := xw_S0 hw
  have lo_22 : ∀ (n22 : Nat) (w : xw_T) (x0 : Nat) (x2 : Int64) (x4 : Option Nat) (x5 : Int64) (x7 : Int32) (H : Heap) (locs : List Loc) (ls : Array Slot), lv_has ls 9 [(0, .ref x0), (2, .long x2), (4, va_rf x4), (5, .long x5), (7, .int x7)] → xw_S D vwCl A s.heap w H locs → wl_PL_balance_22 E post n22 w x0 x2 x4 x5 x7 → W p l e (headSpec (xW yPL_balance cPL_balance 9 (some (.long))) ({ frames := 4, cells := 0, slots := 0, locals := 90 } : Room)).room s m ([.ref h0, .int p0, .long p1] : List Value).toArray below meth c H locs 0 0 (MQ below (va_Ql post (xB D A) A) ([.ref h0, .int p0, .long p1] : List Value).toArray s 0 0 A) (F0 m 22 ls []) := by
    intro n22
    induction n22 with
    | zero => intro w x0 x2 x4 x5 x7 H locs ls hl hw h; exact h.elim
    | succ n22 ih22 =>
      intro w x0 x2 x4 x5 x7 H locs ls hl hw h
      dsimp only [wl_PL_balance_22] at h
      refine lv_iload hx hb dPL_balance_22 (lv_at hl 4 rfl) ?_
      refine lv_aload_n hx hb dPL_balance_24 rfl (lv_at hl 0 rfl) ?_
      obtain ⟨v1, hv, h⟩ := h
      refine xw_getR (C := RPL) (T := TPL) (N := 4) (ref := RPL) hx hb hts inPL hown hK hw rfl 1 (by decide) (hts _ mw_16) (fun _ h9 => h9) hv dPL_balance_25 ?_
      obtain ⟨a2, rfl, h⟩ := h
      obtain ⟨⟨fs, hk⟩, h⟩ := h
      have hcall := h
      clear h
      refine xw_calli (va_runV (As := []) (rest := [.int x7]) ⟨hx, hb, hml, hown, hts⟩ (c_AL_size l D E A _ w a2 hcall) (cwV 0 hts (xG_V mw_78 mw_79 mw_80 mw_19 mw_81) rfl rfl rfl (by decide +kernel) ⟨(Nat.le_of_ble_eq_true rfl), (Nat.le_of_ble_eq_true rfl)⟩) (xw_preV (ci := 0) hw hK hE rfl hk) rfl rfl hl.1 rfl (lv_room (by first | exact Nat.le_of_ble_eq_true rfl | simp [va_rf_cat, xcat_i, xcat_l, xcat_r, xcat_n])) dPL_balance_28 ⟨(Nat.le_of_ble_eq_true rfl), (Nat.le_of_ble_eq_true rfl)⟩) hw (fun r3 w4 H locs h hw => ?_)
      clear hcall
      refine lv_icmp_ge (tgt := 93) hx hb dPL_balance_31 rfl (fun hc => ?_) (fun hc => ?_)
      · replace h := h.1 hc
        refine lv_lload hx hb dPL_balance_93 (lv_at hl 3 rfl) ?_
        refine W.widen (k := 0) (n := 0) (Nat.le_of_ble_eq_true rfl) (Nat.le_of_ble_eq_true rfl) ?_
        exact xw_lret hx hb hr hlocks hw h dPL_balance_95
      · replace h := h.2 hc
        refine lv_aload_n hx hb dPL_balance_34 rfl (lv_at hl 0 rfl) ?_
        obtain ⟨v5, hv, h⟩ := h
        refine xw_getR (C := RPL) (T := TPL) (N := 4) (ref := RPL) hx hb hts inPL hown hK hw rfl 1 (by decide) (hts _ mw_16) (fun _ h9 => h9) hv dPL_balance_35 ?_
        refine lv_iload hx hb dPL_balance_38 (lv_at hl 4 rfl) ?_
        obtain ⟨a6, rfl, h⟩ := h
        obtain ⟨⟨fs, hk⟩, h⟩ := h
        have hcall := h
        clear h
        refine xw_callq (va_runV (As := [.int x7]) (rest := []) ⟨hx, hb, hml, hown, hts⟩ (c_AL_get l D E A _ w4 a6 x7 hcall) (cwV 1 hts (xG_V mw_138 mw_139 mw_140 mw_19 mw_141) rfl rfl rfl (by decide +kernel) ⟨(Nat.le_of_ble_eq_true rfl), (Nat.le_of_ble_eq_true rfl)⟩) (xw_preV (ci := 0) hw hK hE rfl hk) rfl rfl hl.1 rfl (lv_room (by first | exact Nat.le_of_ble_eq_true rfl | simp [va_rf_cat, xcat_i, xcat_l, xcat_r, xcat_n])) dPL_balance_40 ⟨(Nat.le_of_ble_eq_true rfl), (Nat.le_of_ble_eq_true rfl)⟩) hw (fun r7 w8 H locs h hw => ?_)
        clear hcall
        obtain ⟨a9, rfl, h⟩ := h
        obtain ⟨⟨fs, hk⟩, h⟩ := h
        refine va_castS hx hb hown (hts _ mw_112) (hK.1 2 _ rfl).2 (xw_recv hK hw (ci := 2) rfl hk) dPL_balance_43 ?_
        refine lv_astore (i := 8) (lv' := [(8, .ref a9), (0, .ref x0), (2, .long x2), (4, va_rf x4), (5, .long x5), (7, .int x7)]) hx hb dPL_balance_46 hl (by decide) (by first | rfl | simp [va_rf_cat, xcat_i, xcat_l, xcat_r, xcat_n]) (fun ls hl => ?_)
        refine lv_aload hx hb dPL_balance_48 (lv_at hl 0 rfl) ?_
        obtain ⟨v10, hv, h⟩ := h
        refine xw_getR (C := RBA) (T := TBA) (N := 6) (ref := RBA) hx hb hts inBA hown hK hw rfl 2 (by decide) (hts _ mw_188) (fun _ h9 => h9) hv dPL_balance_50 ?_
        refine va_gets hx hb hE.2.2.1.2.1 hw.2.1 hown (hts _ mw_187) (fun _ h9 => h9) dPL_balance_53 ?_
        refine lv_acmp_ne (rx := v10) (ry := (some (E.2 1))) (tgt := 87) hx hb dPL_balance_56 rfl (fun hc => ?_) (fun hc => ?_)
        · replace h := h.1 hc
          refine lv_iinc (k := 5) (v := x7 + 1) (lv' := [(7, .int (x7 + 1)), (8, .ref a9), (0, .ref x0), (2, .long x2), (4, va_rf x4), (5, .long x5)]) hx hb dPL_balance_87 hl rfl rfl (by decide) (by first | rfl | simp [va_rf_cat, xcat_i, xcat_l, xcat_r, xcat_n]) (fun ls hl => ?_)
          refine lv_goto (tgt := 22) hx hb dPL_balance_90 rfl ?_
          exact ih22 _ x0 x2 x4 x5 (x7 + 1) _ _ _ (lv_sub hl [2, 3, 4, 5, 0] rfl) hw h
        · replace h := h.2 hc
          refine lv_aload hx hb dPL_balance_59 (lv_at hl 0 rfl) ?_
          obtain ⟨v11, hv, h⟩ := h
          refine xw_getI (C := RBA) (T := TBA) (N := 6) (ref := RBA) hx hb hts inBA hown hK hw rfl 0 (by decide) (hts _ mw_186) (fun _ h9 => h9) hv dPL_balance_61 ?_
          refine lv_i2l hx hb dPL_balance_64 rfl ?_
          refine lv_lload_n hx hb dPL_balance_65 rfl (lv_at hl 2 rfl) ?_
          refine xl_lc_gt (tgt := 87) hx hb dPL_balance_66 dPL_balance_67 rfl (fun hc => ?_) (fun hc => ?_)
          · replace h := h.1 hc
            refine lv_iinc (k := 5) (v := x7 + 1) (lv' := [(7, .int (x7 + 1)), (8, .ref a9), (0, .ref x0), (2, .long x2), (4, va_rf x4), (5, .long x5)]) hx hb dPL_balance_87 hl rfl rfl (by decide) (by first | rfl | simp [va_rf_cat, xcat_i, xcat_l, xcat_r, xcat_n]) (fun ls hl => ?_)
            refine lv_goto (tgt := 22) hx hb dPL_balance_90 rfl ?_
            exact ih22 _ x0 x2 x4 x5 (x7 + 1) _ _ _ (lv_sub hl [2, 3, 4, 5, 0] rfl) hw h
          · replace h := h.2 hc
            refine lv_lload hx hb dPL_balance_70 (lv_at hl 4 rfl) ?_
            refine lv_aload hx hb dPL_balance_72 (lv_at hl 0 rfl) ?_
            refine xl_aload hx hb dPL_balance_74 (lv_at hl 3 rfl) ?_
            refine lv_aload hx hb dPL_balance_76 (lv_at hl 0 rfl) ?_
            obtain ⟨⟨fs, hk⟩, h⟩ := h
            have hcall := h
            clear h
            refine xw_calli (va_runV (As := []) (rest := [va_rf x4, .ref a9, .long x5]) ⟨hx, hb, hml, hown, hts⟩ (c_BA_size l D E A _ w8 a9 hcall) (cwV 0 hts (xG_V mw_182 mw_183 mw_184 mw_110 mw_185) rfl rfl rfl (by decide +kernel) ⟨(Nat.le_of_ble_eq_true rfl), (Nat.le_of_ble_eq_true rfl)⟩) (xw_preV (ci := 2) hw hK hE rfl hk) rfl rfl hl.1 rfl (lv_room (by first | exact Nat.le_of_ble_eq_true rfl | simp [va_rf_cat, xcat_i, xcat_l, xcat_r, xcat_n])) dPL_balance_78 ⟨(Nat.le_of_ble_eq_true rfl), (Nat.le_of_ble_eq_true rfl)⟩) hw (fun r12 w13 H locs h hw => ?_)
            clear hcall
            obtain ⟨⟨fs, hk⟩, h⟩ := h
            have hcall := h
            clear h
            refine xw_calll (va_runV (As := [va_rf x4, .int r12]) (rest := [.long x5]) ⟨hx, hb, hml, hown, hts⟩ (c_BA_sumForAccount l D E A _ w13 a9 x4 r12 hcall) (cwV 2 hts (xG_V mw_178 mw_179 mw_180 mw_110 mw_181) rfl rfl rfl (by decide +kernel) ⟨(Nat.le_of_ble_eq_true rfl), (Nat.le_of_ble_eq_true rfl)⟩) (xw_preV (ci := 2) hw hK hE rfl hk) rfl rfl hl.1 rfl (lv_room (by first | exact Nat.le_of_ble_eq_true rfl | simp [va_rf_cat, xcat_i, xcat_l, xcat_r, xcat_n])) dPL_balance_81 ⟨(Nat.le_of_ble_eq_true rfl), (Nat.le_of_ble_eq_true rfl)⟩) hw (fun r14 w15 H locs h hw => ?_)
            clear hcall
            refine lv_ladd hx hb dPL_balance_84 ?_
            refine lv_lstore (i := 5) (lv' := [(5, .long (x5 + r14)), (8, .ref a9), (0, .ref x0), (2, .long x2), (4, va_rf x4), (7, .int x7)]) hx hb dPL_balance_85 hl (by decide) (by first | rfl | simp [va_rf_cat, xcat_i, xcat_l, xcat_r, xcat_n]) (fun ls hl => ?_)
            refine lv_iinc (k := 5) (v := x7 + 1) (lv' := [(7, .int (x7 + 1)), (5, .long (x5 + r14)), (8, .ref a9), (0, .ref x0), (2, .long x2), (4, va_rf x4)]) hx hb dPL_balance_87 hl rfl rfl (by decide) (by first | rfl | simp [va_rf_cat, xcat_i, xcat_l, xcat_r, xcat_n]) (fun ls hl => ?_)
            refine lv_goto (tgt := 22) hx hb dPL_balance_90 rfl ?_
            exact ih22 _ x0 x2 x4 (x5 + r14) (x7 + 1) _ _ _ (lv_sub hl [3, 4, 5, 1, 0] rfl) hw h
  refine xl_start (lvs := [(0, .ref h0), (1, .int p0), (2, .long p1)]) (by first | exact Nat.le_of_ble_eq_true rfl | simp [lg_sl, va_rf_cat, xcat_i, xcat_l, xcat_r, xcat_n]) (by first | rfl | simp [lv_args, va_rf_cat, xcat_i, xcat_l, xcat_r, xcat_n]) (fun ls hl => ?_)
  unfold wp_PL_balance at h
  refine lv_aload_n hx hb dPL_balance_0 rfl (lv_at hl 0 rfl) ?_
  refine lv_iload_n hx hb dPL_balance_1 rfl (lv_at hl 1 rfl) ?_
  obtain ⟨⟨fs, hk⟩, h⟩ := h
  have hcall := h
  clear h
  refine xw_callq (va_runV (As := [.int p0]) (rest := []) ⟨hx, hb, hml, hown, hts⟩ (c_PL_findAccount l D E A _ w h0 p0 hcall) (cwV 1 hts (xG_V mw_167 mw_168 mw_169 mw_95 mw_170) rfl rfl rfl (by decide +kernel) ⟨(Nat.le_of_ble_eq_true rfl), (Nat.le_of_ble_eq_true rfl)⟩) (xw_preV (ci := 4) hw hK hE rfl hk) rfl rfl hl.1 rfl (lv_room (by first | exact Nat.le_of_ble_eq_true rfl | simp [va_rf_cat, xcat_i, xcat_l, xcat_r, xcat_n])) dPL_balance_2 ⟨(Nat.le_of_ble_eq_true rfl), (Nat.le_of_ble_eq_true rfl)⟩) hw (fun r16 w17 H locs h hw => ?_)
  clear hcall
  refine xl_astore (i := 4) (lv' := [(4, va_rf r16), (0, .ref h0), (1, .int p0), (2, .long p1)]) hx hb dPL_balance_5 hl (by decide) (by first | rfl | simp [va_rf_cat, xcat_i, xcat_l, xcat_r, xcat_n]) (fun ls hl => ?_)
  refine xl_aload hx hb dPL_balance_7 (lv_at hl 0 rfl) ?_
  refine xl_ifnonnull (tgt := 16) hx hb dPL_balance_9 rfl (fun hc => ?_) (fun hc => ?_)
  · replace h := h.1 hc
    refine lv_lconst (v := 0) hx hb dPL_balance_16 (by decide) ?_
    refine lv_lstore (i := 5) (lv' := [(5, .long 0), (4, va_rf r16), (0, .ref h0), (1, .int p0), (2, .long p1)]) hx hb dPL_balance_17 hl (by decide) (by first | rfl | simp [va_rf_cat, xcat_i, xcat_l, xcat_r, xcat_n]) (fun ls hl => ?_)
    refine lv_iconst (v := 0) hx hb dPL_balance_19 (by decide) ?_
    refine lv_istore (i := 7) (lv' := [(7, .int 0), (5, .long 0), (4, va_rf r16), (0, .ref h0), (1, .int p0), (2, .long p1)]) hx hb dPL_balance_20 hl (by decide) (by first | rfl | simp [va_rf_cat, xcat_i, xcat_l, xcat_r, xcat_n]) (fun ls hl => ?_)
    obtain ⟨n22, h⟩ := h
    refine W.widen (k := 0) (n := 0) (Nat.le_of_ble_eq_true rfl) (Nat.le_of_ble_eq_true rfl) ?_
    exact lo_22 n22 _ h0 p1 r16 0 0 _ _ _ (lv_sub hl [3, 5, 2, 1, 0] rfl) hw h
  · replace h := h.2 hc
    refine lv_ldc2 (v := (-2000000001)) hx hb hown (hts _ mw_189) dPL_balance_12 ?_
    refine W.widen (k := 0) (n := 0) (Nat.le_of_ble_eq_true rfl) (Nat.le_of_ble_eq_true rfl) ?_
    exact xw_lret hx hb hr hlocks hw h dPL_balance_15
def wp_PL_close (E : xE_T) (post : Int32 → xw_T → Prop) (w : xw_T) (h0 : Nat) (p0 : Int64) : Prop := wp_PL_isDay E (fun r1 w2 => (¬ r1 = 0 → ((∃ fs, w2 h0 = some (.inr (4, fs))) ∧ wp_PL_isClosed E (fun r3 w4 => (r3 = 0 → (∃ v5, xgI w4 h0 4 2 = some v5 ∧ ((∃ v0, xg w4 h0 4 2 = some v0) ∧ ∀ w6, w6 = xp w4 h0 2 (.int (p0.toInt32 + 1)) → (∃ v7, xgI w6 h0 4 2 = some v7 ∧ (post (v7 - v5) w6))))) ∧ (¬ r3 = 0 → (post 0 w4))) w2 h0 p0)) ∧ (r1 = 0 → (post (-2000000002) w2))) w p0
set_option maxHeartbeats 4000000 in
set_option maxRecDepth 100000 in
theorem c_PL_close (l : Launch) (D : va_G) (E : xE_T) (A : Nat → Prop) (post : Int32 → xw_T → Prop) (w : xw_T) (h0 : Nat) (p0 : Int64) (h : wp_PL_close E post w h0 p0) : Met l yPL_close (xW yPL_close cPL_close 4 (some (.int))) ({ frames := 2, cells := 0, slots := 0, locals := 46 } : Room) (va_Pc [.ref h0, .long p0] (xP D E A w)) (va_Qi post (xB D A) A) 0 0 A := by
  refine Met.ofW (cc := cPL_close) (maxL := 4) (ret := (some (.int))) (by decide) rfl ?_
  intro p e s m args below meth c s₁ B hml hv
  obtain ⟨rfl, hw, hK, hE⟩ := hv
  have hx := B.exec
  have hb := B.bytes
  have hr := B.returns
  have hts : ∀ w ∈ xTB, w.before _ s = true := fun w hw => atoms_spec (ws := xW yPL_close cPL_close 4 (some (.int))) B.pre w (List.mem_cons_of_mem _ hw)
  have hown : s.vm.findClass RPL = some m.cls := findClass_of_methodNamed B.named
  have hlocks := B.notSynchronized
  have hw : xw_S D vwCl A s.heap w s.heap [] := xw_S0 hw
  refine xl_start (lvs := [(0, .ref h0), (1, .long p0)]) (by first | exact Nat.le_of_ble_eq_true rfl | simp [lg_sl, va_rf_cat, xcat_i, xcat_l, xcat_r, xcat_n]) (by first | rfl | simp [lv_args, va_rf_cat, xcat_i, xcat_l, xcat_r, xcat_n]) (fun ls hl => ?_)
  unfold wp_PL_close at h
  refine lv_lload_n hx hb dPL_close_0 rfl (lv_at hl 1 rfl) ?_
  have hcall := h
  clear h
  refine xw_calli (va_runS (As := [.long p0]) (rest := []) ⟨hx, hb, hml, hown, hts⟩ (c_PL_isDay l D E A _ w p0 hcall) (va_cwS 1 hts (xG_S mw_123 mw_124 mw_95 mw_125) rfl rfl rfl (by decide +kernel) ⟨(Nat.le_of_ble_eq_true rfl), (Nat.le_of_ble_eq_true rfl)⟩) (xw_preS hw hK hE) rfl rfl hl.1 rfl (lv_room (by first | exact Nat.le_of_ble_eq_true rfl | simp [va_rf_cat, xcat_i, xcat_l, xcat_r, xcat_n])) dPL_close_1 ⟨(Nat.le_of_ble_eq_true rfl), (Nat.le_of_ble_eq_true rfl)⟩) hw (fun r1 w2 H locs h hw => ?_)
  clear hcall
  refine lv_if_ne (tgt := 10) hx hb dPL_close_4 rfl (fun hc => ?_) (fun hc => ?_)
  · replace h := h.1 hc
    refine lv_aload_n hx hb dPL_close_10 rfl (lv_at hl 0 rfl) ?_
    refine lv_lload_n hx hb dPL_close_11 rfl (lv_at hl 1 rfl) ?_
    obtain ⟨⟨fs, hk⟩, h⟩ := h
    have hcall := h
    clear h
    refine xw_calli (va_runV (As := [.long p0]) (rest := []) ⟨hx, hb, hml, hown, hts⟩ (c_PL_isClosed l D E A _ w2 h0 p0 hcall) (cwV 1 hts (xG_V mw_119 mw_120 mw_121 mw_95 mw_122) rfl rfl rfl (by decide +kernel) ⟨(Nat.le_of_ble_eq_true rfl), (Nat.le_of_ble_eq_true rfl)⟩) (xw_preV (ci := 4) hw hK hE rfl hk) rfl rfl hl.1 rfl (lv_room (by first | exact Nat.le_of_ble_eq_true rfl | simp [va_rf_cat, xcat_i, xcat_l, xcat_r, xcat_n])) dPL_close_12 ⟨(Nat.le_of_ble_eq_true rfl), (Nat.le_of_ble_eq_true rfl)⟩) hw (fun r3 w4 H locs h hw => ?_)
    clear hcall
    refine lv_if_eq (tgt := 20) hx hb dPL_close_15 rfl (fun hc => ?_) (fun hc => ?_)
    · replace h := h.1 hc
      refine lv_aload_n hx hb dPL_close_20 rfl (lv_at hl 0 rfl) ?_
      obtain ⟨v5, hv, h⟩ := h
      refine xw_getI (C := RPL) (T := TPL) (N := 4) (ref := RPL) hx hb hts inPL hown hK hw rfl 2 (by decide) (hts _ mw_15) (fun _ h9 => h9) hv dPL_close_21 ?_
      refine lv_istore_n (i := 3) (lv' := [(3, .int v5), (0, .ref h0), (1, .long p0)]) hx hb dPL_close_24 rfl hl (by decide) (by first | rfl | simp [va_rf_cat, xcat_i, xcat_l, xcat_r, xcat_n]) (fun ls hl => ?_)
      refine lv_aload_n hx hb dPL_close_25 rfl (lv_at hl 1 rfl) ?_
      refine lv_lload_n hx hb dPL_close_26 rfl (lv_at hl 2 rfl) ?_
      refine lv_l2i hx hb dPL_close_27 rfl ?_
      refine lv_iconst (v := 1) hx hb dPL_close_28 (by decide) ?_
      refine lv_iadd hx hb dPL_close_29 ?_
      obtain ⟨hv, h⟩ := h
      refine xw_put (ty := (.int)) (C := RPL) (T := TPL) (N := 4) (ref := RPL) hx hb hts inPL tyPL tyPL_ok nmPL hown hK hw rfl 2 (by decide) (hts _ mw_15) (fun _ h9 => h9) rfl (by decide +kernel) rfl rfl hv dPL_close_30 (fun H locs hw => ?_)
      replace h := h _ rfl
      generalize xp w4 h0 2 (.int (p0.toInt32 + 1)) = w6 at hw h
      refine lv_aload_n hx hb dPL_close_33 rfl (lv_at hl 1 rfl) ?_
      obtain ⟨v7, hv, h⟩ := h
      refine xw_getI (C := RPL) (T := TPL) (N := 4) (ref := RPL) hx hb hts inPL hown hK hw rfl 2 (by decide) (hts _ mw_15) (fun _ h9 => h9) hv dPL_close_34 ?_
      refine lv_iload_n hx hb dPL_close_37 rfl (lv_at hl 0 rfl) ?_
      refine lv_isub hx hb dPL_close_38 ?_
      refine W.widen (k := 0) (n := 0) (Nat.le_of_ble_eq_true rfl) (Nat.le_of_ble_eq_true rfl) ?_
      exact xw_iret hx hb hr hlocks hw h dPL_close_39
    · replace h := h.2 hc
      refine lv_iconst (v := 0) hx hb dPL_close_18 (by decide) ?_
      refine W.widen (k := 0) (n := 0) (Nat.le_of_ble_eq_true rfl) (Nat.le_of_ble_eq_true rfl) ?_
      exact xw_iret hx hb hr hlocks hw h dPL_close_19
  · replace h := h.2 hc
    refine lv_ldc (v := (-2000000002)) hx hb hown (hts _ mw_77) dPL_close_7 ?_
    refine W.widen (k := 0) (n := 0) (Nat.le_of_ble_eq_true rfl) (Nat.le_of_ble_eq_true rfl) ?_
    exact xw_iret hx hb hr hlocks hw h dPL_close_9
def wp_BA_hasRowNumber (E : xE_T) (post : Int32 → xw_T → Prop) (w : xw_T) (h0 : Nat) (p0 : Int32) : Prop := ∃ v1, xgI w h0 2 5 = some v1 ∧ ((p0 < v1 → (post 0 w)) ∧ (¬ p0 < v1 → (∃ v2, xgI w h0 2 5 = some v2 ∧ (∃ v3, xgR w h0 2 1 = some v3 ∧ (∃ a4 : Nat, v3 = some a4 ∧ ((∃ fs, w a4 = some (.inr (0, fs))) ∧ wp_AL_size E (fun r5 w6 => ((v2 + r5) ≤ p0 → (post 0 w6)) ∧ (¬ (v2 + r5) ≤ p0 → (post 1 w6))) w a4))))))
set_option maxHeartbeats 4000000 in
set_option maxRecDepth 100000 in
theorem c_BA_hasRowNumber (l : Launch) (D : va_G) (E : xE_T) (A : Nat → Prop) (post : Int32 → xw_T → Prop) (w : xw_T) (h0 : Nat) (p0 : Int32) (h : wp_BA_hasRowNumber E post w h0 p0) : Met l yBA_hasRowNumber (xW yBA_hasRowNumber cBA_hasRowNumber 2 (some (.boolean))) ({ frames := 1, cells := 0, slots := 0, locals := 20 } : Room) (va_Pc [.ref h0, .int p0] (xP D E A w)) (va_Qi post (xB D A) A) 0 0 A := by
  refine Met.ofW (cc := cBA_hasRowNumber) (maxL := 2) (ret := (some (.boolean))) (by decide) rfl ?_
  intro p e s m args below meth c s₁ B hml hv
  obtain ⟨rfl, hw, hK, hE⟩ := hv
  have hx := B.exec
  have hb := B.bytes
  have hr := B.returns
  have hts : ∀ w ∈ xTB, w.before _ s = true := fun w hw => atoms_spec (ws := xW yBA_hasRowNumber cBA_hasRowNumber 2 (some (.boolean))) B.pre w (List.mem_cons_of_mem _ hw)
  have hown : s.vm.findClass RBA = some m.cls := findClass_of_methodNamed B.named
  have hlocks := B.notSynchronized
  have hw : xw_S D vwCl A s.heap w s.heap [] := xw_S0 hw
  refine xl_start (lvs := [(0, .ref h0), (1, .int p0)]) (by first | exact Nat.le_of_ble_eq_true rfl | simp [lg_sl, va_rf_cat, xcat_i, xcat_l, xcat_r, xcat_n]) (by first | rfl | simp [lv_args, va_rf_cat, xcat_i, xcat_l, xcat_r, xcat_n]) (fun ls hl => ?_)
  unfold wp_BA_hasRowNumber at h
  refine lv_iload_n hx hb dBA_hasRowNumber_0 rfl (lv_at hl 1 rfl) ?_
  refine lv_aload_n hx hb dBA_hasRowNumber_1 rfl (lv_at hl 0 rfl) ?_
  obtain ⟨v1, hv, h⟩ := h
  refine xw_getI (C := RBA) (T := TBA) (N := 6) (ref := RBA) hx hb hts inBA hown hK hw rfl 5 (by decide) (hts _ mw_190) (fun _ h9 => h9) hv dBA_hasRowNumber_2 ?_
  refine lv_icmp_lt (tgt := 28) hx hb dBA_hasRowNumber_5 rfl (fun hc => ?_) (fun hc => ?_)
  · replace h := h.1 hc
    refine lv_iconst (v := 0) hx hb dBA_hasRowNumber_28 (by decide) ?_
    refine W.widen (k := 0) (n := 0) (Nat.le_of_ble_eq_true rfl) (Nat.le_of_ble_eq_true rfl) ?_
    exact xw_zret (by decide) hx hb hr hlocks hw h dBA_hasRowNumber_29
  · replace h := h.2 hc
    refine lv_iload_n hx hb dBA_hasRowNumber_8 rfl (lv_at hl 1 rfl) ?_
    refine lv_aload_n hx hb dBA_hasRowNumber_9 rfl (lv_at hl 0 rfl) ?_
    obtain ⟨v2, hv, h⟩ := h
    refine xw_getI (C := RBA) (T := TBA) (N := 6) (ref := RBA) hx hb hts inBA hown hK hw rfl 5 (by decide) (hts _ mw_190) (fun _ h9 => h9) hv dBA_hasRowNumber_10 ?_
    refine lv_aload_n hx hb dBA_hasRowNumber_13 rfl (lv_at hl 0 rfl) ?_
    obtain ⟨v3, hv, h⟩ := h
    refine xw_getR (C := RBA) (T := TBA) (N := 6) (ref := RBA) hx hb hts inBA hown hK hw rfl 1 (by decide) (hts _ mw_103) (fun _ h9 => h9) hv dBA_hasRowNumber_14 ?_
    obtain ⟨a4, rfl, h⟩ := h
    obtain ⟨⟨fs, hk⟩, h⟩ := h
    have hcall := h
    clear h
    refine xw_calli (va_runV (As := []) (rest := [.int v2, .int p0]) ⟨hx, hb, hml, hown, hts⟩ (c_AL_size l D E A _ w a4 hcall) (cwV 0 hts (xG_V mw_142 mw_79 mw_80 mw_19 mw_81) rfl rfl rfl (by decide +kernel) ⟨(Nat.le_of_ble_eq_true rfl), (Nat.le_of_ble_eq_true rfl)⟩) (xw_preV (ci := 0) hw hK hE rfl hk) rfl rfl hl.1 rfl (lv_room (by first | exact Nat.le_of_ble_eq_true rfl | simp [va_rf_cat, xcat_i, xcat_l, xcat_r, xcat_n])) dBA_hasRowNumber_17 ⟨(Nat.le_of_ble_eq_true rfl), (Nat.le_of_ble_eq_true rfl)⟩) hw (fun r5 w6 H locs h hw => ?_)
    clear hcall
    refine lv_iadd hx hb dBA_hasRowNumber_20 ?_
    refine lv_icmp_ge (tgt := 28) hx hb dBA_hasRowNumber_21 rfl (fun hc => ?_) (fun hc => ?_)
    · replace h := h.1 hc
      refine lv_iconst (v := 0) hx hb dBA_hasRowNumber_28 (by decide) ?_
      refine W.widen (k := 0) (n := 0) (Nat.le_of_ble_eq_true rfl) (Nat.le_of_ble_eq_true rfl) ?_
      exact xw_zret (by decide) hx hb hr hlocks hw h dBA_hasRowNumber_29
    · replace h := h.2 hc
      refine lv_iconst (v := 1) hx hb dBA_hasRowNumber_24 (by decide) ?_
      refine lv_goto (tgt := 29) hx hb dBA_hasRowNumber_25 rfl ?_
      refine W.widen (k := 0) (n := 0) (Nat.le_of_ble_eq_true rfl) (Nat.le_of_ble_eq_true rfl) ?_
      exact xw_zret (by decide) hx hb hr hlocks hw h dBA_hasRowNumber_29
def wl_PL_findBatchOfRow_2 (E : xE_T) (post : Option Nat → xw_T → Prop) : Nat → xw_T → Nat → Int32 → Int32 → Prop
  | 0 => fun _ _ _ _ => False
  | n2 + 1 => fun w x0 x1 x2 => ∃ v1, xgR w x0 4 1 = some v1 ∧ (∃ a2 : Nat, v1 = some a2 ∧ ((∃ fs, w a2 = some (.inr (0, fs))) ∧ wp_AL_size E (fun r3 w4 => (r3 ≤ x2 → (post none w4)) ∧ (¬ r3 ≤ x2 → (∃ v5, xgR w4 x0 4 1 = some v5 ∧ (∃ a6 : Nat, v5 = some a6 ∧ ((∃ fs, w4 a6 = some (.inr (0, fs))) ∧ wp_AL_get E (fun r7 w8 => ∃ a9 : Nat, r7 = some a9 ∧ ((∃ fs, w8 a9 = some (.inr (2, fs))) ∧ (∃ v10, xgR w8 a9 2 2 = some v10 ∧ ((¬ v10 = (some (E.2 1)) → (wl_PL_findBatchOfRow_2 E post n2 w8 x0 x1 (x2 + 1))) ∧ (v10 = (some (E.2 1)) → ((∃ fs, w8 a9 = some (.inr (2, fs))) ∧ wp_BA_hasRowNumber E (fun r11 w12 => (r11 = 0 → (wl_PL_findBatchOfRow_2 E post n2 w12 x0 x1 (x2 + 1))) ∧ (¬ r11 = 0 → (post (some a9) w12))) w8 a9 x1)))))) w4 a6 x2))))) w a2))
def wp_PL_findBatchOfRow (E : xE_T) (post : Option Nat → xw_T → Prop) (w : xw_T) (h0 : Nat) (p0 : Int32) : Prop := ∃ n2, wl_PL_findBatchOfRow_2 E post n2 w h0 p0 0
set_option maxHeartbeats 4000000 in
set_option maxRecDepth 100000 in
theorem c_PL_findBatchOfRow (l : Launch) (D : va_G) (E : xE_T) (A : Nat → Prop) (post : Option Nat → xw_T → Prop) (w : xw_T) (h0 : Nat) (p0 : Int32) (h : wp_PL_findBatchOfRow E post w h0 p0) : Met l yPL_findBatchOfRow (xW yPL_findBatchOfRow cPL_findBatchOfRow 4 (some (.object "PostLedger$Batch"))) ({ frames := 3, cells := 0, slots := 0, locals := 64 } : Room) (va_Pc [.ref h0, .int p0] (xP D E A w)) (va_Qq post (xB D A) A) 0 0 A := by
  refine Met.ofW (cc := cPL_findBatchOfRow) (maxL := 4) (ret := (some (.object "PostLedger$Batch"))) (by decide) rfl ?_
  intro p e s m args below meth c s₁ B hml hv
  obtain ⟨rfl, hw, hK, hE⟩ := hv
  have hx := B.exec
  have hb := B.bytes
  have hr := B.returns
  have hts : ∀ w ∈ xTB, w.before _ s = true := fun w hw => atoms_spec (ws := xW yPL_findBatchOfRow cPL_findBatchOfRow 4 (some (.object "PostLedger$Batch"))) B.pre w (List.mem_cons_of_mem _ hw)
  have hown : s.vm.findClass RPL = some m.cls := findClass_of_methodNamed B.named
  have hlocks := B.notSynchronized
  have hw : xw_S D vwCl A s.heap w s.heap [] := xw_S0 hw
  have lo_2 : ∀ (n2 : Nat) (w : xw_T) (x0 : Nat) (x1 : Int32) (x2 : Int32) (H : Heap) (locs : List Loc) (ls : Array Slot), lv_has ls 4 [(0, .ref x0), (1, .int x1), (2, .int x2)] → xw_S D vwCl A s.heap w H locs → wl_PL_findBatchOfRow_2 E post n2 w x0 x1 x2 → W p l e (headSpec (xW yPL_findBatchOfRow cPL_findBatchOfRow 4 (some (.object "PostLedger$Batch"))) ({ frames := 3, cells := 0, slots := 0, locals := 64 } : Room)).room s m ([.ref h0, .int p0] : List Value).toArray below meth c H locs 0 0 (MQ below (va_Qq post (xB D A) A) ([.ref h0, .int p0] : List Value).toArray s 0 0 A) (F0 m 2 ls []) := by
    intro n2
    induction n2 with
    | zero => intro w x0 x1 x2 H locs ls hl hw h; exact h.elim
    | succ n2 ih2 =>
      intro w x0 x1 x2 H locs ls hl hw h
      dsimp only [wl_PL_findBatchOfRow_2] at h
      refine lv_iload_n hx hb dPL_findBatchOfRow_2 rfl (lv_at hl 2 rfl) ?_
      refine lv_aload_n hx hb dPL_findBatchOfRow_3 rfl (lv_at hl 0 rfl) ?_
      obtain ⟨v1, hv, h⟩ := h
      refine xw_getR (C := RPL) (T := TPL) (N := 4) (ref := RPL) hx hb hts inPL hown hK hw rfl 1 (by decide) (hts _ mw_16) (fun _ h9 => h9) hv dPL_findBatchOfRow_4 ?_
      obtain ⟨a2, rfl, h⟩ := h
      obtain ⟨⟨fs, hk⟩, h⟩ := h
      have hcall := h
      clear h
      refine xw_calli (va_runV (As := []) (rest := [.int x2]) ⟨hx, hb, hml, hown, hts⟩ (c_AL_size l D E A _ w a2 hcall) (cwV 0 hts (xG_V mw_78 mw_79 mw_80 mw_19 mw_81) rfl rfl rfl (by decide +kernel) ⟨(Nat.le_of_ble_eq_true rfl), (Nat.le_of_ble_eq_true rfl)⟩) (xw_preV (ci := 0) hw hK hE rfl hk) rfl rfl hl.1 rfl (lv_room (by first | exact Nat.le_of_ble_eq_true rfl | simp [va_rf_cat, xcat_i, xcat_l, xcat_r, xcat_n])) dPL_findBatchOfRow_7 ⟨(Nat.le_of_ble_eq_true rfl), (Nat.le_of_ble_eq_true rfl)⟩) hw (fun r3 w4 H locs h hw => ?_)
      clear hcall
      refine lv_icmp_ge (tgt := 51) hx hb dPL_findBatchOfRow_10 rfl (fun hc => ?_) (fun hc => ?_)
      · replace h := h.1 hc
        refine lv_null hx hb dPL_findBatchOfRow_51 ?_
        refine W.widen (k := 0) (n := 0) (Nat.le_of_ble_eq_true rfl) (Nat.le_of_ble_eq_true rfl) ?_
        exact xw_aret (r := none) (Or.inl ⟨_, rfl⟩) hx hb hr hlocks hw h dPL_findBatchOfRow_52
      · replace h := h.2 hc
        refine lv_aload_n hx hb dPL_findBatchOfRow_13 rfl (lv_at hl 0 rfl) ?_
        obtain ⟨v5, hv, h⟩ := h
        refine xw_getR (C := RPL) (T := TPL) (N := 4) (ref := RPL) hx hb hts inPL hown hK hw rfl 1 (by decide) (hts _ mw_16) (fun _ h9 => h9) hv dPL_findBatchOfRow_14 ?_
        refine lv_iload_n hx hb dPL_findBatchOfRow_17 rfl (lv_at hl 2 rfl) ?_
        obtain ⟨a6, rfl, h⟩ := h
        obtain ⟨⟨fs, hk⟩, h⟩ := h
        have hcall := h
        clear h
        refine xw_callq (va_runV (As := [.int x2]) (rest := []) ⟨hx, hb, hml, hown, hts⟩ (c_AL_get l D E A _ w4 a6 x2 hcall) (cwV 1 hts (xG_V mw_138 mw_139 mw_140 mw_19 mw_141) rfl rfl rfl (by decide +kernel) ⟨(Nat.le_of_ble_eq_true rfl), (Nat.le_of_ble_eq_true rfl)⟩) (xw_preV (ci := 0) hw hK hE rfl hk) rfl rfl hl.1 rfl (lv_room (by first | exact Nat.le_of_ble_eq_true rfl | simp [va_rf_cat, xcat_i, xcat_l, xcat_r, xcat_n])) dPL_findBatchOfRow_18 ⟨(Nat.le_of_ble_eq_true rfl), (Nat.le_of_ble_eq_true rfl)⟩) hw (fun r7 w8 H locs h hw => ?_)
        clear hcall
        obtain ⟨a9, rfl, h⟩ := h
        obtain ⟨⟨fs, hk⟩, h⟩ := h
        refine va_castS hx hb hown (hts _ mw_112) (hK.1 2 _ rfl).2 (xw_recv hK hw (ci := 2) rfl hk) dPL_findBatchOfRow_21 ?_
        refine lv_astore_n (i := 3) (lv' := [(3, .ref a9), (0, .ref x0), (1, .int x1), (2, .int x2)]) hx hb dPL_findBatchOfRow_24 rfl hl (by decide) (by first | rfl | simp [va_rf_cat, xcat_i, xcat_l, xcat_r, xcat_n]) (fun ls hl => ?_)
        refine lv_aload_n hx hb dPL_findBatchOfRow_25 rfl (lv_at hl 0 rfl) ?_
        obtain ⟨v10, hv, h⟩ := h
        refine xw_getR (C := RBA) (T := TBA) (N := 6) (ref := RBA) hx hb hts inBA hown hK hw rfl 2 (by decide) (hts _ mw_188) (fun _ h9 => h9) hv dPL_findBatchOfRow_26 ?_
        refine va_gets hx hb hE.2.2.1.2.1 hw.2.1 hown (hts _ mw_187) (fun _ h9 => h9) dPL_findBatchOfRow_29 ?_
        refine lv_acmp_ne (rx := v10) (ry := (some (E.2 1))) (tgt := 45) hx hb dPL_findBatchOfRow_32 rfl (fun hc => ?_) (fun hc => ?_)
        · replace h := h.1 hc
          refine lv_iinc (k := 3) (v := x2 + 1) (lv' := [(2, .int (x2 + 1)), (3, .ref a9), (0, .ref x0), (1, .int x1)]) hx hb dPL_findBatchOfRow_45 hl rfl rfl (by decide) (by first | rfl | simp [va_rf_cat, xcat_i, xcat_l, xcat_r, xcat_n]) (fun ls hl => ?_)
          refine lv_goto (tgt := 2) hx hb dPL_findBatchOfRow_48 rfl ?_
          exact ih2 _ x0 x1 (x2 + 1) _ _ _ (lv_sub hl [2, 3, 0] rfl) hw h
        · replace h := h.2 hc
          refine lv_aload_n hx hb dPL_findBatchOfRow_35 rfl (lv_at hl 0 rfl) ?_
          refine lv_iload_n hx hb dPL_findBatchOfRow_36 rfl (lv_at hl 2 rfl) ?_
          obtain ⟨⟨fs, hk⟩, h⟩ := h
          have hcall := h
          clear h
          refine xw_calli (va_runV (As := [.int x1]) (rest := []) ⟨hx, hb, hml, hown, hts⟩ (c_BA_hasRowNumber l D E A _ w8 a9 x1 hcall) (cwV 1 hts (xG_V mw_191 mw_192 mw_193 mw_110 mw_194) rfl rfl rfl (by decide +kernel) ⟨(Nat.le_of_ble_eq_true rfl), (Nat.le_of_ble_eq_true rfl)⟩) (xw_preV (ci := 2) hw hK hE rfl hk) rfl rfl hl.1 rfl (lv_room (by first | exact Nat.le_of_ble_eq_true rfl | simp [va_rf_cat, xcat_i, xcat_l, xcat_r, xcat_n])) dPL_findBatchOfRow_37 ⟨(Nat.le_of_ble_eq_true rfl), (Nat.le_of_ble_eq_true rfl)⟩) hw (fun r11 w12 H locs h hw => ?_)
          clear hcall
          refine lv_if_eq (tgt := 45) hx hb dPL_findBatchOfRow_40 rfl (fun hc => ?_) (fun hc => ?_)
          · replace h := h.1 hc
            refine lv_iinc (k := 3) (v := x2 + 1) (lv' := [(2, .int (x2 + 1)), (3, .ref a9), (0, .ref x0), (1, .int x1)]) hx hb dPL_findBatchOfRow_45 hl rfl rfl (by decide) (by first | rfl | simp [va_rf_cat, xcat_i, xcat_l, xcat_r, xcat_n]) (fun ls hl => ?_)
            refine lv_goto (tgt := 2) hx hb dPL_findBatchOfRow_48 rfl ?_
            exact ih2 _ x0 x1 (x2 + 1) _ _ _ (lv_sub hl [2, 3, 0] rfl) hw h
          · replace h := h.2 hc
            refine lv_aload_n hx hb dPL_findBatchOfRow_43 rfl (lv_at hl 0 rfl) ?_
            refine W.widen (k := 0) (n := 0) (Nat.le_of_ble_eq_true rfl) (Nat.le_of_ble_eq_true rfl) ?_
            exact xw_aret (r := (some a9)) (Or.inl ⟨_, rfl⟩) hx hb hr hlocks hw h dPL_findBatchOfRow_44
  refine xl_start (lvs := [(0, .ref h0), (1, .int p0)]) (by first | exact Nat.le_of_ble_eq_true rfl | simp [lg_sl, va_rf_cat, xcat_i, xcat_l, xcat_r, xcat_n]) (by first | rfl | simp [lv_args, va_rf_cat, xcat_i, xcat_l, xcat_r, xcat_n]) (fun ls hl => ?_)
  unfold wp_PL_findBatchOfRow at h
  refine lv_iconst (v := 0) hx hb dPL_findBatchOfRow_0 (by decide) ?_
  refine lv_istore_n (i := 2) (lv' := [(2, .int 0), (0, .ref h0), (1, .int p0)]) hx hb dPL_findBatchOfRow_1 rfl hl (by decide) (by first | rfl | simp [va_rf_cat, xcat_i, xcat_l, xcat_r, xcat_n]) (fun ls hl => ?_)
  obtain ⟨n2, h⟩ := h
  refine W.widen (k := 0) (n := 0) (Nat.le_of_ble_eq_true rfl) (Nat.le_of_ble_eq_true rfl) ?_
  exact lo_2 n2 _ h0 p0 0 _ _ _ (lv_sub hl [1, 2, 0] rfl) hw h
def wl_BA_addRowsWithOtherSign_10 (E : xE_T) (post : xw_T → Prop) : Nat → xw_T → Nat → Nat → Option Nat → Int32 → Int32 → Prop
  | 0 => fun _ _ _ _ _ _ => False
  | n10 + 1 => fun w k x0 x1 x2 x3 => k ≤ 12 ∧ ((x2 ≤ x3 → (post w)) ∧ (¬ x2 ≤ x3 → (∃ a1 : Nat, x1 = some a1 ∧ (∃ v2, xgR w a1 2 1 = some v2 ∧ (∃ a3 : Nat, v2 = some a3 ∧ ((∃ fs, w a3 = some (.inr (0, fs))) ∧ wp_AL_get E (fun r4 w5 => ∃ a6 : Nat, r4 = some a6 ∧ ((∃ fs, w5 a6 = some (.inr (3, fs))) ∧ (∃ v7, xgR w5 a6 3 0 = some v7 ∧ (∃ v8, xgL w5 a6 3 1 = some v8 ∧ (k < 12 ∧ ((∃ fs, w5 x0 = some (.inr (2, fs))) ∧ wp_BA_addRow E (fun w10 => wl_BA_addRowsWithOtherSign_10 E post n10 w10 (k + 1) x0 (some a1) x2 (x3 + 1)) w5 x0 v7 (-v8))))))) w a3 x3))))))
def wp_BA_addRowsWithOtherSign (E : xE_T) (post : xw_T → Prop) (w : xw_T) (h0 : Nat) (p0 : Option Nat) : Prop := ∃ a11 : Nat, p0 = some a11 ∧ (∃ v12, xgR w a11 2 1 = some v12 ∧ (∃ a13 : Nat, v12 = some a13 ∧ ((∃ fs, w a13 = some (.inr (0, fs))) ∧ wp_AL_size E (fun r14 w15 => ∃ n10, wl_BA_addRowsWithOtherSign_10 E post n10 w15 0 h0 (some a11) r14 0) w a13)))
set_option maxHeartbeats 4000000 in
set_option maxRecDepth 100000 in
theorem c_BA_addRowsWithOtherSign (l : Launch) (D : va_G) (E : xE_T) (A : Nat → Prop) (post : xw_T → Prop) (w : xw_T) (h0 : Nat) (p0 : Option Nat) (h : wp_BA_addRowsWithOtherSign E post w h0 p0) : Met l yBA_addRowsWithOtherSign (xW yBA_addRowsWithOtherSign cBA_addRowsWithOtherSign 5 none) ({ frames := 8, cells := 24, slots := 4416, locals := 172 } : Room) (va_Pc [.ref h0, va_rf p0] (xP D E A w)) (va_Qv post (xB D A) A) 24 4416 A := by
  refine Met.ofW (cc := cBA_addRowsWithOtherSign) (maxL := 5) (ret := none) (by decide) rfl ?_
  intro p e s m args below meth c s₁ B hml hv
  obtain ⟨rfl, hw, hK, hE⟩ := hv
  have hx := B.exec
  have hb := B.bytes
  have hr := B.returns
  have hts : ∀ w ∈ xTB, w.before _ s = true := fun w hw => atoms_spec (ws := xW yBA_addRowsWithOtherSign cBA_addRowsWithOtherSign 5 none) B.pre w (List.mem_cons_of_mem _ hw)
  have hown : s.vm.findClass RBA = some m.cls := findClass_of_methodNamed B.named
  have hlocks := B.notSynchronized
  have hw : xw_S D vwCl A s.heap w s.heap [] := xw_S0 hw
  have lo_10 : ∀ (n10 : Nat) (w : xw_T) (k : Nat) (x0 : Nat) (x1 : Option Nat) (x2 : Int32) (x3 : Int32) (H : Heap) (locs : List Loc) (ls : Array Slot), lv_has ls 5 [(0, .ref x0), (1, va_rf x1), (2, .int x2), (3, .int x3)] → xw_S D vwCl A s.heap w H locs → wl_BA_addRowsWithOtherSign_10 E post n10 w k x0 x1 x2 x3 → W p l e (headSpec (xW yBA_addRowsWithOtherSign cBA_addRowsWithOtherSign 5 none) ({ frames := 8, cells := 24, slots := 4416, locals := 172 } : Room)).room s m ([.ref h0, va_rf p0] : List Value).toArray below meth c H locs (2 * k) (368 * k) (MQ below (va_Qv post (xB D A) A) ([.ref h0, va_rf p0] : List Value).toArray s 24 4416 A) (F0 m 10 ls []) := by
    intro n10
    induction n10 with
    | zero => intro w k x0 x1 x2 x3 H locs ls hl hw h; exact h.elim
    | succ n10 ih10 =>
      intro w k x0 x1 x2 x3 H locs ls hl hw h
      dsimp only [wl_BA_addRowsWithOtherSign_10] at h
      obtain ⟨hkk, h⟩ := h
      refine lv_iload_n hx hb dBA_addRowsWithOtherSign_10 rfl (lv_at hl 3 rfl) ?_
      refine lv_iload_n hx hb dBA_addRowsWithOtherSign_11 rfl (lv_at hl 2 rfl) ?_
      refine lv_icmp_ge (tgt := 49) hx hb dBA_addRowsWithOtherSign_12 rfl (fun hc => ?_) (fun hc => ?_)
      · replace h := h.1 hc
        refine W.widen (k := 24) (n := 4416) (Nat.mul_le_mul_left _ hkk) (Nat.mul_le_mul_left _ hkk) ?_
        exact xw_vret hx hb hr hlocks hw h dBA_addRowsWithOtherSign_49
      · replace h := h.2 hc
        refine xl_aload_n hx hb dBA_addRowsWithOtherSign_15 rfl (lv_at hl 1 rfl) ?_
        obtain ⟨a1, rfl, h⟩ := h
        obtain ⟨v2, hv, h⟩ := h
        refine xw_getR (C := RBA) (T := TBA) (N := 6) (ref := RBA) hx hb hts inBA hown hK hw rfl 1 (by decide) (hts _ mw_103) (fun _ h9 => h9) hv dBA_addRowsWithOtherSign_16 ?_
        refine lv_iload_n hx hb dBA_addRowsWithOtherSign_19 rfl (lv_at hl 3 rfl) ?_
        obtain ⟨a3, rfl, h⟩ := h
        obtain ⟨⟨fs, hk⟩, h⟩ := h
        have hcall := h
        clear h
        refine xw_callq (va_runV (As := [.int x3]) (rest := []) ⟨hx, hb, hml, hown, hts⟩ (c_AL_get l D E A _ w a3 x3 hcall) (cwV 1 hts (xG_V mw_177 mw_139 mw_140 mw_19 mw_141) rfl rfl rfl (by decide +kernel) ⟨(Nat.le_of_ble_eq_true rfl), (Nat.le_of_ble_eq_true rfl)⟩) (xw_preV (ci := 0) hw hK hE rfl hk) rfl rfl hl.1 rfl (lv_room (by first | exact Nat.le_of_ble_eq_true rfl | simp [va_rf_cat, xcat_i, xcat_l, xcat_r, xcat_n])) dBA_addRowsWithOtherSign_20 ⟨Nat.le_trans (Nat.mul_le_mul_left _ hkk) (Nat.le_of_ble_eq_true rfl), Nat.le_trans (Nat.mul_le_mul_left _ hkk) (Nat.le_of_ble_eq_true rfl)⟩) hw (fun r4 w5 H locs h hw => ?_)
        clear hcall
        obtain ⟨a6, rfl, h⟩ := h
        obtain ⟨⟨fs, hk⟩, h⟩ := h
        refine va_castS hx hb hown (hts _ mw_151) (hK.1 3 _ rfl).2 (xw_recv hK hw (ci := 3) rfl hk) dBA_addRowsWithOtherSign_23 ?_
        refine lv_astore (i := 4) (lv' := [(4, .ref a6), (0, .ref x0), (1, .ref a1), (2, .int x2), (3, .int x3)]) hx hb dBA_addRowsWithOtherSign_26 hl (by decide) (by first | rfl | simp [va_rf_cat, xcat_i, xcat_l, xcat_r, xcat_n]) (fun ls hl => ?_)
        refine lv_aload_n hx hb dBA_addRowsWithOtherSign_28 rfl (lv_at hl 1 rfl) ?_
        refine lv_aload hx hb dBA_addRowsWithOtherSign_29 (lv_at hl 0 rfl) ?_
        obtain ⟨v7, hv, h⟩ := h
        refine xw_getR (C := RRW) (T := TRW) (N := 2) (ref := RRW) hx hb hts inRW hown hK hw rfl 0 (by decide) (hts _ mw_176) (fun _ h9 => h9) hv dBA_addRowsWithOtherSign_31 ?_
        refine lv_aload hx hb dBA_addRowsWithOtherSign_34 (lv_at hl 0 rfl) ?_
        obtain ⟨v8, hv, h⟩ := h
        refine xw_getL (C := RRW) (T := TRW) (N := 2) (ref := RRW) hx hb hts inRW hown hK hw rfl 1 (by decide) (hts _ mw_175) (fun _ h9 => h9) hv dBA_addRowsWithOtherSign_36 ?_
        refine lv_lneg hx hb dBA_addRowsWithOtherSign_39 ?_
        obtain ⟨hk12, h⟩ := h
        obtain ⟨⟨fs, hk⟩, h⟩ := h
        have hcall := h
        clear h
        refine xw_callv (va_runV (As := [va_rf v7, .long (-v8)]) (rest := []) ⟨hx, hb, hml, hown, hts⟩ (c_BA_addRow l D E A _ w5 x0 v7 (-v8) hcall) (cwV 2 hts (xG_V mw_195 mw_154 mw_155 mw_110 mw_156) rfl rfl rfl (by decide +kernel) ⟨(Nat.le_of_ble_eq_true rfl), (Nat.le_of_ble_eq_true rfl)⟩) (xw_preV (ci := 2) hw hK hE rfl hk) rfl rfl hl.1 rfl (lv_room (by first | exact Nat.le_of_ble_eq_true rfl | simp [va_rf_cat, xcat_i, xcat_l, xcat_r, xcat_n])) dBA_addRowsWithOtherSign_40 ⟨Nat.mul_le_mul_left 2 hk12, Nat.mul_le_mul_left 368 hk12⟩) hw (fun w10 H locs h hw => ?_)
        clear hcall
        refine lv_iinc (k := 4) (v := x3 + 1) (lv' := [(3, .int (x3 + 1)), (4, .ref a6), (0, .ref x0), (1, .ref a1), (2, .int x2)]) hx hb dBA_addRowsWithOtherSign_43 hl rfl rfl (by decide) (by first | rfl | simp [va_rf_cat, xcat_i, xcat_l, xcat_r, xcat_n]) (fun ls hl => ?_)
        refine lv_goto (tgt := 10) hx hb dBA_addRowsWithOtherSign_46 rfl ?_
        refine W.widen (k := 2 * (k + 1)) (n := 368 * (k + 1)) (by omega) (by omega) ?_
        exact ih10 _ (k + 1) x0 (some a1) x2 (x3 + 1) _ _ _ (lv_sub hl [2, 3, 4, 0] rfl) hw h
  refine xl_start (lvs := [(0, .ref h0), (1, va_rf p0)]) (by first | exact Nat.le_of_ble_eq_true rfl | simp [lg_sl, va_rf_cat, xcat_i, xcat_l, xcat_r, xcat_n]) (by first | rfl | simp [lv_args, va_rf_cat, xcat_i, xcat_l, xcat_r, xcat_n]) (fun ls hl => ?_)
  unfold wp_BA_addRowsWithOtherSign at h
  refine xl_aload_n hx hb dBA_addRowsWithOtherSign_0 rfl (lv_at hl 1 rfl) ?_
  obtain ⟨a11, rfl, h⟩ := h
  obtain ⟨v12, hv, h⟩ := h
  refine xw_getR (C := RBA) (T := TBA) (N := 6) (ref := RBA) hx hb hts inBA hown hK hw rfl 1 (by decide) (hts _ mw_103) (fun _ h9 => h9) hv dBA_addRowsWithOtherSign_1 ?_
  obtain ⟨a13, rfl, h⟩ := h
  obtain ⟨⟨fs, hk⟩, h⟩ := h
  have hcall := h
  clear h
  refine xw_calli (va_runV (As := []) (rest := []) ⟨hx, hb, hml, hown, hts⟩ (c_AL_size l D E A _ w a13 hcall) (cwV 0 hts (xG_V mw_142 mw_79 mw_80 mw_19 mw_81) rfl rfl rfl (by decide +kernel) ⟨(Nat.le_of_ble_eq_true rfl), (Nat.le_of_ble_eq_true rfl)⟩) (xw_preV (ci := 0) hw hK hE rfl hk) rfl rfl hl.1 rfl (lv_room (by first | exact Nat.le_of_ble_eq_true rfl | simp [va_rf_cat, xcat_i, xcat_l, xcat_r, xcat_n])) dBA_addRowsWithOtherSign_4 ⟨(Nat.le_of_ble_eq_true rfl), (Nat.le_of_ble_eq_true rfl)⟩) hw (fun r14 w15 H locs h hw => ?_)
  clear hcall
  refine lv_istore_n (i := 2) (lv' := [(2, .int r14), (0, .ref h0), (1, .ref a11)]) hx hb dBA_addRowsWithOtherSign_7 rfl hl (by decide) (by first | rfl | simp [va_rf_cat, xcat_i, xcat_l, xcat_r, xcat_n]) (fun ls hl => ?_)
  refine lv_iconst (v := 0) hx hb dBA_addRowsWithOtherSign_8 (by decide) ?_
  refine lv_istore_n (i := 3) (lv' := [(3, .int 0), (2, .int r14), (0, .ref h0), (1, .ref a11)]) hx hb dBA_addRowsWithOtherSign_9 rfl hl (by decide) (by first | rfl | simp [va_rf_cat, xcat_i, xcat_l, xcat_r, xcat_n]) (fun ls hl => ?_)
  obtain ⟨n10, h⟩ := h
  refine W.widen (k := 2 * 0) (n := 368 * 0) (Nat.le_of_ble_eq_true rfl) (Nat.le_of_ble_eq_true rfl) ?_
  exact lo_10 n10 _ 0 h0 (some a11) r14 0 _ _ _ (lv_sub hl [2, 3, 1, 0] rfl) hw h
def wl_BA_addToTotals_2 (E : xE_T) (post : xw_T → Prop) : Nat → xw_T → Nat → Int32 → Prop
  | 0 => fun _ _ _ => False
  | n2 + 1 => fun w x0 x1 => ∃ v1, xgR w x0 2 1 = some v1 ∧ (∃ a2 : Nat, v1 = some a2 ∧ ((∃ fs, w a2 = some (.inr (0, fs))) ∧ wp_AL_size E (fun r3 w4 => (r3 ≤ x1 → (post w4)) ∧ (¬ r3 ≤ x1 → (∃ v5, xgR w4 x0 2 1 = some v5 ∧ (∃ a6 : Nat, v5 = some a6 ∧ ((∃ fs, w4 a6 = some (.inr (0, fs))) ∧ wp_AL_get E (fun r7 w8 => ∃ a9 : Nat, r7 = some a9 ∧ ((∃ fs, w8 a9 = some (.inr (3, fs))) ∧ (∃ v10, xgR w8 a9 3 0 = some v10 ∧ (∃ a11 : Nat, v10 = some a11 ∧ (∃ v12, xgL w8 a11 1 3 = some v12 ∧ (∃ v13, xgL w8 a9 3 1 = some v13 ∧ ((∃ v0, xg w8 a11 1 3 = some v0) ∧ ∀ w14, w14 = xp w8 a11 3 (.long (v12 + v13)) → (wl_BA_addToTotals_2 E post n2 w14 x0 (x1 + 1))))))))) w4 a6 x1))))) w a2))
def wp_BA_addToTotals (E : xE_T) (post : xw_T → Prop) (w : xw_T) (h0 : Nat) : Prop := ∃ n2, wl_BA_addToTotals_2 E post n2 w h0 0
set_option maxHeartbeats 4000000 in
set_option maxRecDepth 100000 in
theorem c_BA_addToTotals (l : Launch) (D : va_G) (E : xE_T) (A : Nat → Prop) (post : xw_T → Prop) (w : xw_T) (h0 : Nat) (h : wp_BA_addToTotals E post w h0) : Met l yBA_addToTotals (xW yBA_addToTotals cBA_addToTotals 3 none) ({ frames := 3, cells := 0, slots := 0, locals := 64 } : Room) (va_Pc [.ref h0] (xP D E A w)) (va_Qv post (xB D A) A) 0 0 A := by
  refine Met.ofW (cc := cBA_addToTotals) (maxL := 3) (ret := none) (by decide) rfl ?_
  intro p e s m args below meth c s₁ B hml hv
  obtain ⟨rfl, hw, hK, hE⟩ := hv
  have hx := B.exec
  have hb := B.bytes
  have hr := B.returns
  have hts : ∀ w ∈ xTB, w.before _ s = true := fun w hw => atoms_spec (ws := xW yBA_addToTotals cBA_addToTotals 3 none) B.pre w (List.mem_cons_of_mem _ hw)
  have hown : s.vm.findClass RBA = some m.cls := findClass_of_methodNamed B.named
  have hlocks := B.notSynchronized
  have hw : xw_S D vwCl A s.heap w s.heap [] := xw_S0 hw
  have lo_2 : ∀ (n2 : Nat) (w : xw_T) (x0 : Nat) (x1 : Int32) (H : Heap) (locs : List Loc) (ls : Array Slot), lv_has ls 3 [(0, .ref x0), (1, .int x1)] → xw_S D vwCl A s.heap w H locs → wl_BA_addToTotals_2 E post n2 w x0 x1 → W p l e (headSpec (xW yBA_addToTotals cBA_addToTotals 3 none) ({ frames := 3, cells := 0, slots := 0, locals := 64 } : Room)).room s m ([.ref h0] : List Value).toArray below meth c H locs 0 0 (MQ below (va_Qv post (xB D A) A) ([.ref h0] : List Value).toArray s 0 0 A) (F0 m 2 ls []) := by
    intro n2
    induction n2 with
    | zero => intro w x0 x1 H locs ls hl hw h; exact h.elim
    | succ n2 ih2 =>
      intro w x0 x1 H locs ls hl hw h
      dsimp only [wl_BA_addToTotals_2] at h
      refine lv_iload_n hx hb dBA_addToTotals_2 rfl (lv_at hl 1 rfl) ?_
      refine lv_aload_n hx hb dBA_addToTotals_3 rfl (lv_at hl 0 rfl) ?_
      obtain ⟨v1, hv, h⟩ := h
      refine xw_getR (C := RBA) (T := TBA) (N := 6) (ref := RBA) hx hb hts inBA hown hK hw rfl 1 (by decide) (hts _ mw_103) (fun _ h9 => h9) hv dBA_addToTotals_4 ?_
      obtain ⟨a2, rfl, h⟩ := h
      obtain ⟨⟨fs, hk⟩, h⟩ := h
      have hcall := h
      clear h
      refine xw_calli (va_runV (As := []) (rest := [.int x1]) ⟨hx, hb, hml, hown, hts⟩ (c_AL_size l D E A _ w a2 hcall) (cwV 0 hts (xG_V mw_142 mw_79 mw_80 mw_19 mw_81) rfl rfl rfl (by decide +kernel) ⟨(Nat.le_of_ble_eq_true rfl), (Nat.le_of_ble_eq_true rfl)⟩) (xw_preV (ci := 0) hw hK hE rfl hk) rfl rfl hl.1 rfl (lv_room (by first | exact Nat.le_of_ble_eq_true rfl | simp [va_rf_cat, xcat_i, xcat_l, xcat_r, xcat_n])) dBA_addToTotals_7 ⟨(Nat.le_of_ble_eq_true rfl), (Nat.le_of_ble_eq_true rfl)⟩) hw (fun r3 w4 H locs h hw => ?_)
      clear hcall
      refine lv_icmp_ge (tgt := 47) hx hb dBA_addToTotals_10 rfl (fun hc => ?_) (fun hc => ?_)
      · replace h := h.1 hc
        refine W.widen (k := 0) (n := 0) (Nat.le_of_ble_eq_true rfl) (Nat.le_of_ble_eq_true rfl) ?_
        exact xw_vret hx hb hr hlocks hw h dBA_addToTotals_47
      · replace h := h.2 hc
        refine lv_aload_n hx hb dBA_addToTotals_13 rfl (lv_at hl 0 rfl) ?_
        obtain ⟨v5, hv, h⟩ := h
        refine xw_getR (C := RBA) (T := TBA) (N := 6) (ref := RBA) hx hb hts inBA hown hK hw rfl 1 (by decide) (hts _ mw_103) (fun _ h9 => h9) hv dBA_addToTotals_14 ?_
        refine lv_iload_n hx hb dBA_addToTotals_17 rfl (lv_at hl 1 rfl) ?_
        obtain ⟨a6, rfl, h⟩ := h
        obtain ⟨⟨fs, hk⟩, h⟩ := h
        have hcall := h
        clear h
        refine xw_callq (va_runV (As := [.int x1]) (rest := []) ⟨hx, hb, hml, hown, hts⟩ (c_AL_get l D E A _ w4 a6 x1 hcall) (cwV 1 hts (xG_V mw_177 mw_139 mw_140 mw_19 mw_141) rfl rfl rfl (by decide +kernel) ⟨(Nat.le_of_ble_eq_true rfl), (Nat.le_of_ble_eq_true rfl)⟩) (xw_preV (ci := 0) hw hK hE rfl hk) rfl rfl hl.1 rfl (lv_room (by first | exact Nat.le_of_ble_eq_true rfl | simp [va_rf_cat, xcat_i, xcat_l, xcat_r, xcat_n])) dBA_addToTotals_18 ⟨(Nat.le_of_ble_eq_true rfl), (Nat.le_of_ble_eq_true rfl)⟩) hw (fun r7 w8 H locs h hw => ?_)
        clear hcall
        obtain ⟨a9, rfl, h⟩ := h
        obtain ⟨⟨fs, hk⟩, h⟩ := h
        refine va_castS hx hb hown (hts _ mw_151) (hK.1 3 _ rfl).2 (xw_recv hK hw (ci := 3) rfl hk) dBA_addToTotals_21 ?_
        refine lv_astore_n (i := 2) (lv' := [(2, .ref a9), (0, .ref x0), (1, .int x1)]) hx hb dBA_addToTotals_24 rfl hl (by decide) (by first | rfl | simp [va_rf_cat, xcat_i, xcat_l, xcat_r, xcat_n]) (fun ls hl => ?_)
        refine lv_aload_n hx hb dBA_addToTotals_25 rfl (lv_at hl 0 rfl) ?_
        obtain ⟨v10, hv, h⟩ := h
        refine xw_getR (C := RRW) (T := TRW) (N := 2) (ref := RRW) hx hb hts inRW hown hK hw rfl 0 (by decide) (hts _ mw_176) (fun _ h9 => h9) hv dBA_addToTotals_26 ?_
        refine lv_dup hx hb dBA_addToTotals_29 (va_rf_cat _) ?_
        obtain ⟨a11, rfl, h⟩ := h
        obtain ⟨v12, hv, h⟩ := h
        refine xw_getL (C := RAC) (T := TAC) (N := 4) (ref := RAC) hx hb hts inAC hown hK hw rfl 3 (by decide) (hts _ mw_196) (fun _ h9 => h9) hv dBA_addToTotals_30 ?_
        refine lv_aload_n hx hb dBA_addToTotals_33 rfl (lv_at hl 0 rfl) ?_
        obtain ⟨v13, hv, h⟩ := h
        refine xw_getL (C := RRW) (T := TRW) (N := 2) (ref := RRW) hx hb hts inRW hown hK hw rfl 1 (by decide) (hts _ mw_175) (fun _ h9 => h9) hv dBA_addToTotals_34 ?_
        refine lv_ladd hx hb dBA_addToTotals_37 ?_
        obtain ⟨hv, h⟩ := h
        refine xw_put (ty := (.long)) (C := RAC) (T := TAC) (N := 4) (ref := RAC) hx hb hts inAC tyAC tyAC_ok nmAC hown hK hw rfl 3 (by decide) (hts _ mw_196) (fun _ h9 => h9) rfl (by decide +kernel) rfl rfl hv dBA_addToTotals_38 (fun H locs hw => ?_)
        replace h := h _ rfl
        generalize xp w8 a11 3 (.long (v12 + v13)) = w14 at hw h
        refine lv_iinc (k := 2) (v := x1 + 1) (lv' := [(1, .int (x1 + 1)), (2, .ref a9), (0, .ref x0)]) hx hb dBA_addToTotals_41 hl rfl rfl (by decide) (by first | rfl | simp [va_rf_cat, xcat_i, xcat_l, xcat_r, xcat_n]) (fun ls hl => ?_)
        refine lv_goto (tgt := 2) hx hb dBA_addToTotals_44 rfl ?_
        exact ih2 _ x0 (x1 + 1) _ _ _ (lv_sub hl [2, 0] rfl) hw h
  refine xl_start (lvs := [(0, .ref h0)]) (by first | exact Nat.le_of_ble_eq_true rfl | simp [lg_sl, va_rf_cat, xcat_i, xcat_l, xcat_r, xcat_n]) (by first | rfl | simp [lv_args, va_rf_cat, xcat_i, xcat_l, xcat_r, xcat_n]) (fun ls hl => ?_)
  unfold wp_BA_addToTotals at h
  refine lv_iconst (v := 0) hx hb dBA_addToTotals_0 (by decide) ?_
  refine lv_istore_n (i := 1) (lv' := [(1, .int 0), (0, .ref h0)]) hx hb dBA_addToTotals_1 rfl hl (by decide) (by first | rfl | simp [va_rf_cat, xcat_i, xcat_l, xcat_r, xcat_n]) (fun ls hl => ?_)
  obtain ⟨n2, h⟩ := h
  refine W.widen (k := 0) (n := 0) (Nat.le_of_ble_eq_true rfl) (Nat.le_of_ble_eq_true rfl) ?_
  exact lo_2 n2 _ h0 0 _ _ _ (lv_sub hl [1, 0] rfl) hw h
def wp_PL_enterIntoBooks (E : xE_T) (post : xw_T → Prop) (w : xw_T) (h0 : Nat) (p0 : Option Nat) : Prop := ∃ a1 : Nat, p0 = some a1 ∧ ((∃ v0, xg w a1 2 2 = some v0) ∧ ∀ w2, w2 = xp w a1 2 (.ref (E.2 1)) → (∃ v3, xgI w2 h0 4 3 = some v3 ∧ ((∃ v0, xg w2 a1 2 5 = some v0) ∧ ∀ w4, w4 = xp w2 a1 5 (.int (v3 + 1)) → (∃ v5, xgI w4 h0 4 3 = some v5 ∧ ((∃ fs, w4 a1 = some (.inr (2, fs))) ∧ wp_BA_size E (fun r6 w7 => (∃ v0, xg w7 h0 4 3 = some v0) ∧ ∀ w8, w8 = xp w7 h0 3 (.int (v5 + r6)) → ((∃ fs, w8 a1 = some (.inr (2, fs))) ∧ wp_BA_addToTotals E (fun w10 => post w10) w8 a1)) w4 a1)))))
set_option maxHeartbeats 4000000 in
set_option maxRecDepth 100000 in
theorem c_PL_enterIntoBooks (l : Launch) (D : va_G) (E : xE_T) (A : Nat → Prop) (post : xw_T → Prop) (w : xw_T) (h0 : Nat) (p0 : Option Nat) (h : wp_PL_enterIntoBooks E post w h0 p0) : Met l yPL_enterIntoBooks (xW yPL_enterIntoBooks cPL_enterIntoBooks 2 none) ({ frames := 4, cells := 0, slots := 0, locals := 86 } : Room) (va_Pc [.ref h0, va_rf p0] (xP D E A w)) (va_Qv post (xB D A) A) 0 0 A := by
  refine Met.ofW (cc := cPL_enterIntoBooks) (maxL := 2) (ret := none) (by decide) rfl ?_
  intro p e s m args below meth c s₁ B hml hv
  obtain ⟨rfl, hw, hK, hE⟩ := hv
  have hx := B.exec
  have hb := B.bytes
  have hr := B.returns
  have hts : ∀ w ∈ xTB, w.before _ s = true := fun w hw => atoms_spec (ws := xW yPL_enterIntoBooks cPL_enterIntoBooks 2 none) B.pre w (List.mem_cons_of_mem _ hw)
  have hown : s.vm.findClass RPL = some m.cls := findClass_of_methodNamed B.named
  have hlocks := B.notSynchronized
  have hw : xw_S D vwCl A s.heap w s.heap [] := xw_S0 hw
  refine xl_start (lvs := [(0, .ref h0), (1, va_rf p0)]) (by first | exact Nat.le_of_ble_eq_true rfl | simp [lg_sl, va_rf_cat, xcat_i, xcat_l, xcat_r, xcat_n]) (by first | rfl | simp [lv_args, va_rf_cat, xcat_i, xcat_l, xcat_r, xcat_n]) (fun ls hl => ?_)
  unfold wp_PL_enterIntoBooks at h
  refine xl_aload_n hx hb dPL_enterIntoBooks_0 rfl (lv_at hl 1 rfl) ?_
  refine va_gets hx hb hE.2.2.1.2.1 hw.2.1 hown (hts _ mw_187) (fun _ h9 => h9) dPL_enterIntoBooks_1 ?_
  obtain ⟨a1, rfl, h⟩ := h
  obtain ⟨hv, h⟩ := h
  refine xw_put (ty := (.object "PostLedger$Standing")) (C := RBA) (T := TBA) (N := 6) (ref := RBA) hx hb hts inBA tyBA tyBA_ok nmBA hown hK hw rfl 2 (by decide) (hts _ mw_188) (fun _ h9 => h9) rfl (by decide +kernel) rfl rfl hv dPL_enterIntoBooks_4 (fun H locs hw => ?_)
  replace h := h _ rfl
  generalize xp w a1 2 (.ref (E.2 1)) = w2 at hw h
  refine lv_aload_n hx hb dPL_enterIntoBooks_7 rfl (lv_at hl 1 rfl) ?_
  refine lv_aload_n hx hb dPL_enterIntoBooks_8 rfl (lv_at hl 0 rfl) ?_
  obtain ⟨v3, hv, h⟩ := h
  refine xw_getI (C := RPL) (T := TPL) (N := 4) (ref := RPL) hx hb hts inPL hown hK hw rfl 3 (by decide) (hts _ mw_14) (fun _ h9 => h9) hv dPL_enterIntoBooks_9 ?_
  refine lv_iconst (v := 1) hx hb dPL_enterIntoBooks_12 (by decide) ?_
  refine lv_iadd hx hb dPL_enterIntoBooks_13 ?_
  obtain ⟨hv, h⟩ := h
  refine xw_put (ty := (.int)) (C := RBA) (T := TBA) (N := 6) (ref := RBA) hx hb hts inBA tyBA tyBA_ok nmBA hown hK hw rfl 5 (by decide) (hts _ mw_201) (fun _ h9 => h9) rfl (by decide +kernel) rfl rfl hv dPL_enterIntoBooks_14 (fun H locs hw => ?_)
  replace h := h _ rfl
  generalize xp w2 a1 5 (.int (v3 + 1)) = w4 at hw h
  refine lv_aload_n hx hb dPL_enterIntoBooks_17 rfl (lv_at hl 0 rfl) ?_
  refine lv_dup hx hb dPL_enterIntoBooks_18 rfl ?_
  obtain ⟨v5, hv, h⟩ := h
  refine xw_getI (C := RPL) (T := TPL) (N := 4) (ref := RPL) hx hb hts inPL hown hK hw rfl 3 (by decide) (hts _ mw_14) (fun _ h9 => h9) hv dPL_enterIntoBooks_19 ?_
  refine lv_aload_n hx hb dPL_enterIntoBooks_22 rfl (lv_at hl 1 rfl) ?_
  obtain ⟨⟨fs, hk⟩, h⟩ := h
  have hcall := h
  clear h
  refine xw_calli (va_runV (As := []) (rest := [.int v5, .ref h0]) ⟨hx, hb, hml, hown, hts⟩ (c_BA_size l D E A _ w4 a1 hcall) (cwV 0 hts (xG_V mw_182 mw_183 mw_184 mw_110 mw_185) rfl rfl rfl (by decide +kernel) ⟨(Nat.le_of_ble_eq_true rfl), (Nat.le_of_ble_eq_true rfl)⟩) (xw_preV (ci := 2) hw hK hE rfl hk) rfl rfl hl.1 rfl (lv_room (by first | exact Nat.le_of_ble_eq_true rfl | simp [va_rf_cat, xcat_i, xcat_l, xcat_r, xcat_n])) dPL_enterIntoBooks_23 ⟨(Nat.le_of_ble_eq_true rfl), (Nat.le_of_ble_eq_true rfl)⟩) hw (fun r6 w7 H locs h hw => ?_)
  clear hcall
  refine lv_iadd hx hb dPL_enterIntoBooks_26 ?_
  obtain ⟨hv, h⟩ := h
  refine xw_put (ty := (.int)) (C := RPL) (T := TPL) (N := 4) (ref := RPL) hx hb hts inPL tyPL tyPL_ok nmPL hown hK hw rfl 3 (by decide) (hts _ mw_14) (fun _ h9 => h9) rfl (by decide +kernel) rfl rfl hv dPL_enterIntoBooks_27 (fun H locs hw => ?_)
  replace h := h _ rfl
  generalize xp w7 h0 3 (.int (v5 + r6)) = w8 at hw h
  refine lv_aload_n hx hb dPL_enterIntoBooks_30 rfl (lv_at hl 1 rfl) ?_
  obtain ⟨⟨fs, hk⟩, h⟩ := h
  have hcall := h
  clear h
  refine xw_callv (va_runV (As := []) (rest := []) ⟨hx, hb, hml, hown, hts⟩ (c_BA_addToTotals l D E A _ w8 a1 hcall) (cwV 0 hts (xG_V mw_197 mw_198 mw_199 mw_110 mw_200) rfl rfl rfl (by decide +kernel) ⟨(Nat.le_of_ble_eq_true rfl), (Nat.le_of_ble_eq_true rfl)⟩) (xw_preV (ci := 2) hw hK hE rfl hk) rfl rfl hl.1 rfl (lv_room (by first | exact Nat.le_of_ble_eq_true rfl | simp [va_rf_cat, xcat_i, xcat_l, xcat_r, xcat_n])) dPL_enterIntoBooks_31 ⟨(Nat.le_of_ble_eq_true rfl), (Nat.le_of_ble_eq_true rfl)⟩) hw (fun w10 H locs h hw => ?_)
  clear hcall
  refine W.widen (k := 0) (n := 0) (Nat.le_of_ble_eq_true rfl) (Nat.le_of_ble_eq_true rfl) ?_
  exact xw_vret hx hb hr hlocks hw h dPL_enterIntoBooks_34
def wp_PL_reverse (E : xE_T) (post : Int32 → xw_T → Prop) (w : xw_T) (h0 : Nat) (p0 : Int32) : Prop := (∃ fs, w h0 = some (.inr (4, fs))) ∧ wp_PL_findBatchOfRow E (fun r1 w2 => (r1 = none → (post 0 w2)) ∧ (¬ r1 = none → (∃ a3 : Nat, r1 = some a3 ∧ (∃ v4, xgI w2 a3 2 4 = some v4 ∧ ((v4 = 0 → ((∃ fs, w2 h0 = some (.inr (4, fs))) ∧ wp_PL_hasRoomForBatch E (fun r5 w6 => (¬ r5 = 0 → (∀ q7 : Nat, (w6 q7 = none ∧ q7 ≠ E.2 6) → ∀ w8, w8 = va_up w6 q7 (some (.inr (2, [.int 0, .null, .null, .int 0, .int 0, .int 0]))) → (∃ v9, xgI w8 a3 2 0 = some v9 ∧ (∃ v10, xgI w8 h0 4 2 = some v10 ∧ (∀ r11 : Int32, r11 = (if v9 < v10 then v10 else v9) → (wp_BA_init E (fun w13 => (∃ fs, w13 q7 = some (.inr (2, fs))) ∧ wp_BA_addRowsWithOtherSign E (fun w15 => (∃ v0, xg w15 a3 2 4 = some v0) ∧ ∀ w16, w16 = xp w15 a3 4 (.int 1) → ((∃ v0, xg w16 q7 2 4 = some v0) ∧ ∀ w17, w17 = xp w16 q7 4 (.int 1) → (∃ v18, xgR w17 h0 4 1 = some v18 ∧ (∃ a19 : Nat, v18 = some a19 ∧ ((∃ fs, w17 a19 = some (.inr (0, fs))) ∧ wp_AL_add E (fun r20 w21 => (∃ fs, w21 h0 = some (.inr (4, fs))) ∧ wp_PL_enterIntoBooks E (fun w23 => post 1 w23) w21 h0 (some q7)) w17 a19 (some q7)))))) w13 q7 (some a3)) w8 q7 r11)))))) ∧ (r5 = 0 → (post (-2000000004) w6))) w2 h0)) ∧ (¬ v4 = 0 → (post 0 w2))))))) w h0 p0
set_option maxHeartbeats 4000000 in
set_option maxRecDepth 100000 in
theorem c_PL_reverse (l : Launch) (D : va_G) (E : xE_T) (A : Nat → Prop) (post : Int32 → xw_T → Prop) (w : xw_T) (h0 : Nat) (p0 : Int32) (h : wp_PL_reverse E post w h0 p0) : Met l yPL_reverse (xW yPL_reverse cPL_reverse 4 (some (.int))) ({ frames := 9, cells := 27, slots := 4791, locals := 196 } : Room) (va_Pc [.ref h0, .int p0] (xP D E A w)) (va_Qi post (xB D A) A) 27 4791 A := by
  refine Met.ofW (cc := cPL_reverse) (maxL := 4) (ret := (some (.int))) (by decide) rfl ?_
  intro p e s m args below meth c s₁ B hml hv
  obtain ⟨rfl, hw, hK, hE⟩ := hv
  have hx := B.exec
  have hb := B.bytes
  have hr := B.returns
  have hts : ∀ w ∈ xTB, w.before _ s = true := fun w hw => atoms_spec (ws := xW yPL_reverse cPL_reverse 4 (some (.int))) B.pre w (List.mem_cons_of_mem _ hw)
  have hown : s.vm.findClass RPL = some m.cls := findClass_of_methodNamed B.named
  have hlocks := B.notSynchronized
  have hw : xw_S D vwCl A s.heap w s.heap [] := xw_S0 hw
  refine xl_start (lvs := [(0, .ref h0), (1, .int p0)]) (by first | exact Nat.le_of_ble_eq_true rfl | simp [lg_sl, va_rf_cat, xcat_i, xcat_l, xcat_r, xcat_n]) (by first | rfl | simp [lv_args, va_rf_cat, xcat_i, xcat_l, xcat_r, xcat_n]) (fun ls hl => ?_)
  unfold wp_PL_reverse at h
  refine lv_aload_n hx hb dPL_reverse_0 rfl (lv_at hl 0 rfl) ?_
  refine lv_iload_n hx hb dPL_reverse_1 rfl (lv_at hl 1 rfl) ?_
  obtain ⟨⟨fs, hk⟩, h⟩ := h
  have hcall := h
  clear h
  refine xw_callq (va_runV (As := [.int p0]) (rest := []) ⟨hx, hb, hml, hown, hts⟩ (c_PL_findBatchOfRow l D E A _ w h0 p0 hcall) (cwV 1 hts (xG_V mw_212 mw_213 mw_214 mw_95 mw_215) rfl rfl rfl (by decide +kernel) ⟨(Nat.le_of_ble_eq_true rfl), (Nat.le_of_ble_eq_true rfl)⟩) (xw_preV (ci := 4) hw hK hE rfl hk) rfl rfl hl.1 rfl (lv_room (by first | exact Nat.le_of_ble_eq_true rfl | simp [va_rf_cat, xcat_i, xcat_l, xcat_r, xcat_n])) dPL_reverse_2 ⟨(Nat.le_of_ble_eq_true rfl), (Nat.le_of_ble_eq_true rfl)⟩) hw (fun r1 w2 H locs h hw => ?_)
  clear hcall
  refine xl_astore_n (i := 2) (lv' := [(2, va_rf r1), (0, .ref h0), (1, .int p0)]) hx hb dPL_reverse_5 rfl hl (by decide) (by first | rfl | simp [va_rf_cat, xcat_i, xcat_l, xcat_r, xcat_n]) (fun ls hl => ?_)
  refine xl_aload_n hx hb dPL_reverse_6 rfl (lv_at hl 0 rfl) ?_
  refine xl_ifnull (tgt := 17) hx hb dPL_reverse_7 rfl (fun hc => ?_) (fun hc => ?_)
  · replace h := h.1 hc
    refine lv_iconst (v := 0) hx hb dPL_reverse_17 (by decide) ?_
    refine W.widen (k := 27) (n := 4791) (Nat.le_of_ble_eq_true rfl) (Nat.le_of_ble_eq_true rfl) ?_
    exact xw_iret hx hb hr hlocks hw h dPL_reverse_18
  · replace h := h.2 hc
    refine xl_aload_n hx hb dPL_reverse_10 rfl (lv_at hl 0 rfl) ?_
    obtain ⟨a3, rfl, h⟩ := h
    obtain ⟨v4, hv, h⟩ := h
    refine xw_getI (C := RBA) (T := TBA) (N := 6) (ref := RBA) hx hb hts inBA hown hK hw rfl 4 (by decide) (hts _ mw_206) (fun _ h9 => h9) hv dPL_reverse_11 ?_
    refine lv_if_eq (tgt := 19) hx hb dPL_reverse_14 rfl (fun hc => ?_) (fun hc => ?_)
    · replace h := h.1 hc
      refine lv_aload_n hx hb dPL_reverse_19 rfl (lv_at hl 1 rfl) ?_
      obtain ⟨⟨fs, hk⟩, h⟩ := h
      have hcall := h
      clear h
      refine xw_calli (va_runV (As := []) (rest := []) ⟨hx, hb, hml, hown, hts⟩ (c_PL_hasRoomForBatch l D E A _ w2 h0 hcall) (cwV 0 hts (xG_V mw_114 mw_115 mw_116 mw_95 mw_117) rfl rfl rfl (by decide +kernel) ⟨(Nat.le_of_ble_eq_true rfl), (Nat.le_of_ble_eq_true rfl)⟩) (xw_preV (ci := 4) hw hK hE rfl hk) rfl rfl hl.1 rfl (lv_room (by first | exact Nat.le_of_ble_eq_true rfl | simp [va_rf_cat, xcat_i, xcat_l, xcat_r, xcat_n])) dPL_reverse_20 ⟨(Nat.le_of_ble_eq_true rfl), (Nat.le_of_ble_eq_true rfl)⟩) hw (fun r5 w6 H locs h hw => ?_)
      clear hcall
      refine lv_if_ne (tgt := 29) hx hb dPL_reverse_23 rfl (fun hc => ?_) (fun hc => ?_)
      · replace h := h.1 hc
        refine xw_new (ci := 2) (fs := [.int 0, .null, .null, .int 0, .int 0, .int 0]) (C := RBA) (T := TBA) (N := 6) hx hb hts inBA tyBA tyBA_ok hown (hts _ mw_112) (hts _ mw_113) (hts _ mw_110) hK hw rfl (by decide +kernel) (Nat.le_of_ble_eq_true rfl) (Nat.le_of_ble_eq_true rfl) dPL_reverse_29 (fun q7 H hq hqA hw => ?_)
        replace h := h _ ⟨hq, xq6 hE hqA⟩ _ rfl
        generalize va_up w6 q7 (some (.inr (2, [.int 0, .null, .null, .int 0, .int 0, .int 0]))) = w8 at hw h
        refine lv_dup hx hb dPL_reverse_32 rfl ?_
        refine lv_aload_n hx hb dPL_reverse_33 rfl (lv_at hl 0 rfl) ?_
        obtain ⟨v9, hv, h⟩ := h
        refine xw_getI (C := RBA) (T := TBA) (N := 6) (ref := RBA) hx hb hts inBA hown hK hw rfl 0 (by decide) (hts _ mw_186) (fun _ h9 => h9) hv dPL_reverse_34 ?_
        refine lv_aload_n hx hb dPL_reverse_37 rfl (lv_at hl 1 rfl) ?_
        obtain ⟨v10, hv, h⟩ := h
        refine xw_getI (C := RPL) (T := TPL) (N := 4) (ref := RPL) hx hb hts inPL hown hK hw rfl 2 (by decide) (hts _ mw_15) (fun _ h9 => h9) hv dPL_reverse_38 ?_
        refine va_mmax hx hb (hml.trans hl.1.symm) hown (hts _ mw_211) (hts _ mw_36) (hts _ mw_37) (hts _ mw_34) (Nat.le_of_ble_eq_true rfl) (by first | exact Nat.le_of_ble_eq_true rfl | simp [va_rf_cat, xcat_i, xcat_l, xcat_r, xcat_n]) (Nat.le_of_ble_eq_true rfl) (Nat.le_of_ble_eq_true rfl) dPL_reverse_41 ?_
        replace h := h _ rfl
        generalize (if v9 < v10 then v10 else v9) = r11 at h ⊢
        have hcall := h
        clear h
        refine xw_callv (va_runI (As := [.int r11]) (rest := [.ref q7]) ⟨hx, hb, hml, hown, hts⟩ (c_BA_init l D E A _ w8 q7 r11 hcall) (cwI 1 hts (xG_I mw_109) rfl rfl rfl (hts _ mw_110) (hts _ mw_108) (hts _ mw_111) rfl (by decide +kernel) ⟨(Nat.le_of_ble_eq_true rfl), (Nat.le_of_ble_eq_true rfl)⟩) (xw_preS hw hK hE) rfl rfl hl.1 rfl (lv_room (by first | exact Nat.le_of_ble_eq_true rfl | simp [va_rf_cat, xcat_i, xcat_l, xcat_r, xcat_n])) dPL_reverse_44 ⟨(Nat.le_of_ble_eq_true rfl), (Nat.le_of_ble_eq_true rfl)⟩) hw (fun w13 H locs h hw => ?_)
        clear hcall
        refine lv_astore_n (i := 3) (lv' := [(3, .ref q7), (2, .ref a3), (0, .ref h0), (1, .int p0)]) hx hb dPL_reverse_47 rfl hl (by decide) (by first | rfl | simp [va_rf_cat, xcat_i, xcat_l, xcat_r, xcat_n]) (fun ls hl => ?_)
        refine lv_aload_n hx hb dPL_reverse_48 rfl (lv_at hl 0 rfl) ?_
        refine lv_aload_n hx hb dPL_reverse_49 rfl (lv_at hl 1 rfl) ?_
        obtain ⟨⟨fs, hk⟩, h⟩ := h
        have hcall := h
        clear h
        refine xw_callv (va_runV (As := [.ref a3]) (rest := []) ⟨hx, hb, hml, hown, hts⟩ (c_BA_addRowsWithOtherSign l D E A _ w13 q7 (some a3) hcall) (cwV 1 hts (xG_V mw_207 mw_208 mw_209 mw_110 mw_210) rfl rfl rfl (by decide +kernel) ⟨(Nat.le_of_ble_eq_true rfl), (Nat.le_of_ble_eq_true rfl)⟩) (xw_preV (ci := 2) hw hK hE rfl hk) rfl rfl hl.1 rfl (lv_room (by first | exact Nat.le_of_ble_eq_true rfl | simp [va_rf_cat, xcat_i, xcat_l, xcat_r, xcat_n])) dPL_reverse_50 ⟨(Nat.le_of_ble_eq_true rfl), (Nat.le_of_ble_eq_true rfl)⟩) hw (fun w15 H locs h hw => ?_)
        clear hcall
        refine lv_aload_n hx hb dPL_reverse_53 rfl (lv_at hl 1 rfl) ?_
        refine lv_iconst (v := 1) hx hb dPL_reverse_54 (by decide) ?_
        obtain ⟨hv, h⟩ := h
        refine xw_put (ty := (.boolean)) (C := RBA) (T := TBA) (N := 6) (ref := RBA) hx hb hts inBA tyBA tyBA_ok nmBA hown hK hw rfl 4 (by decide) (hts _ mw_206) (fun _ h9 => h9) rfl (by decide +kernel) (by decide) (by decide) hv dPL_reverse_55 (fun H locs hw => ?_)
        replace h := h _ rfl
        generalize xp w15 a3 4 (.int 1) = w16 at hw h
        refine lv_aload_n hx hb dPL_reverse_58 rfl (lv_at hl 0 rfl) ?_
        refine lv_iconst (v := 1) hx hb dPL_reverse_59 (by decide) ?_
        obtain ⟨hv, h⟩ := h
        refine xw_put (ty := (.boolean)) (C := RBA) (T := TBA) (N := 6) (ref := RBA) hx hb hts inBA tyBA tyBA_ok nmBA hown hK hw rfl 4 (by decide) (hts _ mw_206) (fun _ h9 => h9) rfl (by decide +kernel) (by decide) (by decide) hv dPL_reverse_60 (fun H locs hw => ?_)
        replace h := h _ rfl
        generalize xp w16 q7 4 (.int 1) = w17 at hw h
        refine lv_aload_n hx hb dPL_reverse_63 rfl (lv_at hl 2 rfl) ?_
        obtain ⟨v18, hv, h⟩ := h
        refine xw_getR (C := RPL) (T := TPL) (N := 4) (ref := RPL) hx hb hts inPL hown hK hw rfl 1 (by decide) (hts _ mw_16) (fun _ h9 => h9) hv dPL_reverse_64 ?_
        refine lv_aload_n hx hb dPL_reverse_67 rfl (lv_at hl 0 rfl) ?_
        obtain ⟨a19, rfl, h⟩ := h
        obtain ⟨⟨fs, hk⟩, h⟩ := h
        have hcall := h
        clear h
        refine xw_calli (va_runV (As := [.ref q7]) (rest := []) ⟨hx, hb, hml, hown, hts⟩ (c_AL_add l D E A _ w17 a19 (some q7) hcall) (cwV 1 hts (xG_V mw_82 mw_83 mw_84 mw_19 mw_85) rfl rfl rfl (by decide +kernel) ⟨(Nat.le_of_ble_eq_true rfl), (Nat.le_of_ble_eq_true rfl)⟩) (xw_preV (ci := 0) hw hK hE rfl hk) rfl rfl hl.1 rfl (lv_room (by first | exact Nat.le_of_ble_eq_true rfl | simp [va_rf_cat, xcat_i, xcat_l, xcat_r, xcat_n])) dPL_reverse_68 ⟨(Nat.le_of_ble_eq_true rfl), (Nat.le_of_ble_eq_true rfl)⟩) hw (fun r20 w21 H locs h hw => ?_)
        clear hcall
        refine lv_pop hx hb dPL_reverse_71 rfl ?_
        refine lv_aload_n hx hb dPL_reverse_72 rfl (lv_at hl 2 rfl) ?_
        refine lv_aload_n hx hb dPL_reverse_73 rfl (lv_at hl 0 rfl) ?_
        obtain ⟨⟨fs, hk⟩, h⟩ := h
        have hcall := h
        clear h
        refine xw_callv (va_runV (As := [.ref q7]) (rest := []) ⟨hx, hb, hml, hown, hts⟩ (c_PL_enterIntoBooks l D E A _ w21 h0 (some q7) hcall) (cwV 1 hts (xG_V mw_202 mw_203 mw_204 mw_95 mw_205) rfl rfl rfl (by decide +kernel) ⟨(Nat.le_of_ble_eq_true rfl), (Nat.le_of_ble_eq_true rfl)⟩) (xw_preV (ci := 4) hw hK hE rfl hk) rfl rfl hl.1 rfl (lv_room (by first | exact Nat.le_of_ble_eq_true rfl | simp [va_rf_cat, xcat_i, xcat_l, xcat_r, xcat_n])) dPL_reverse_74 ⟨(Nat.le_of_ble_eq_true rfl), (Nat.le_of_ble_eq_true rfl)⟩) hw (fun w23 H locs h hw => ?_)
        clear hcall
        refine lv_iconst (v := 1) hx hb dPL_reverse_77 (by decide) ?_
        refine W.widen (k := 27) (n := 4791) (Nat.le_of_ble_eq_true rfl) (Nat.le_of_ble_eq_true rfl) ?_
        exact xw_iret hx hb hr hlocks hw h dPL_reverse_78
      · replace h := h.2 hc
        refine lv_ldc (v := (-2000000004)) hx hb hown (hts _ mw_92) dPL_reverse_26 ?_
        refine W.widen (k := 27) (n := 4791) (Nat.le_of_ble_eq_true rfl) (Nat.le_of_ble_eq_true rfl) ?_
        exact xw_iret hx hb hr hlocks hw h dPL_reverse_28
    · replace h := h.2 hc
      refine lv_iconst (v := 0) hx hb dPL_reverse_17 (by decide) ?_
      refine W.widen (k := 27) (n := 4791) (Nat.le_of_ble_eq_true rfl) (Nat.le_of_ble_eq_true rfl) ?_
      exact xw_iret hx hb hr hlocks hw h dPL_reverse_18
def wp_AC_isOfKind (E : xE_T) (post : Int32 → xw_T → Prop) (w : xw_T) (h0 : Nat) (p0 : Int32) (p1 : Int32) : Prop := ∃ v1, xgI w h0 1 0 = some v1 ∧ ((¬ v1 = p0 → (post 0 w)) ∧ (v1 = p0 → (∃ v2, xgI w h0 1 1 = some v2 ∧ ((¬ v2 = p1 → (post 0 w)) ∧ (v2 = p1 → (post 1 w))))))
set_option maxHeartbeats 4000000 in
set_option maxRecDepth 100000 in
theorem c_AC_isOfKind (l : Launch) (D : va_G) (E : xE_T) (A : Nat → Prop) (post : Int32 → xw_T → Prop) (w : xw_T) (h0 : Nat) (p0 : Int32) (p1 : Int32) (h : wp_AC_isOfKind E post w h0 p0 p1) : Met l yAC_isOfKind (xW yAC_isOfKind cAC_isOfKind 3 (some (.boolean))) ({ frames := 0, cells := 0, slots := 0, locals := 0 } : Room) (va_Pc [.ref h0, .int p0, .int p1] (xP D E A w)) (va_Qi post (xB D A) A) 0 0 A := by
  refine Met.ofW (cc := cAC_isOfKind) (maxL := 3) (ret := (some (.boolean))) (by decide) rfl ?_
  intro p e s m args below meth c s₁ B hml hv
  obtain ⟨rfl, hw, hK, hE⟩ := hv
  have hx := B.exec
  have hb := B.bytes
  have hr := B.returns
  have hts : ∀ w ∈ xTB, w.before _ s = true := fun w hw => atoms_spec (ws := xW yAC_isOfKind cAC_isOfKind 3 (some (.boolean))) B.pre w (List.mem_cons_of_mem _ hw)
  have hown : s.vm.findClass RAC = some m.cls := findClass_of_methodNamed B.named
  have hlocks := B.notSynchronized
  have hw : xw_S D vwCl A s.heap w s.heap [] := xw_S0 hw
  refine xl_start (lvs := [(0, .ref h0), (1, .int p0), (2, .int p1)]) (by first | exact Nat.le_of_ble_eq_true rfl | simp [lg_sl, va_rf_cat, xcat_i, xcat_l, xcat_r, xcat_n]) (by first | rfl | simp [lv_args, va_rf_cat, xcat_i, xcat_l, xcat_r, xcat_n]) (fun ls hl => ?_)
  unfold wp_AC_isOfKind at h
  refine lv_aload_n hx hb dAC_isOfKind_0 rfl (lv_at hl 0 rfl) ?_
  obtain ⟨v1, hv, h⟩ := h
  refine xw_getI (C := RAC) (T := TAC) (N := 4) (ref := RAC) hx hb hts inAC hown hK hw rfl 0 (by decide) (hts _ mw_27) (fun _ h9 => h9) hv dAC_isOfKind_1 ?_
  refine lv_iload_n hx hb dAC_isOfKind_4 rfl (lv_at hl 1 rfl) ?_
  refine lv_icmp_ne (tgt := 20) hx hb dAC_isOfKind_5 rfl (fun hc => ?_) (fun hc => ?_)
  · replace h := h.1 hc
    refine lv_iconst (v := 0) hx hb dAC_isOfKind_20 (by decide) ?_
    refine W.widen (k := 0) (n := 0) (Nat.le_of_ble_eq_true rfl) (Nat.le_of_ble_eq_true rfl) ?_
    exact xw_zret (by decide) hx hb hr hlocks hw h dAC_isOfKind_21
  · replace h := h.2 hc
    refine lv_aload_n hx hb dAC_isOfKind_8 rfl (lv_at hl 0 rfl) ?_
    obtain ⟨v2, hv, h⟩ := h
    refine xw_getI (C := RAC) (T := TAC) (N := 4) (ref := RAC) hx hb hts inAC hown hK hw rfl 1 (by decide) (hts _ mw_26) (fun _ h9 => h9) hv dAC_isOfKind_9 ?_
    refine lv_iload_n hx hb dAC_isOfKind_12 rfl (lv_at hl 2 rfl) ?_
    refine lv_icmp_ne (tgt := 20) hx hb dAC_isOfKind_13 rfl (fun hc => ?_) (fun hc => ?_)
    · replace h := h.1 hc
      refine lv_iconst (v := 0) hx hb dAC_isOfKind_20 (by decide) ?_
      refine W.widen (k := 0) (n := 0) (Nat.le_of_ble_eq_true rfl) (Nat.le_of_ble_eq_true rfl) ?_
      exact xw_zret (by decide) hx hb hr hlocks hw h dAC_isOfKind_21
    · replace h := h.2 hc
      refine lv_iconst (v := 1) hx hb dAC_isOfKind_16 (by decide) ?_
      refine lv_goto (tgt := 21) hx hb dAC_isOfKind_17 rfl ?_
      refine W.widen (k := 0) (n := 0) (Nat.le_of_ble_eq_true rfl) (Nat.le_of_ble_eq_true rfl) ?_
      exact xw_zret (by decide) hx hb hr hlocks hw h dAC_isOfKind_21
