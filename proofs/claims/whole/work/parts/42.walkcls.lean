/-! meanings and walks: CLS 2 -/
def wl_PL_totalOfKind_5 (E : xE_T) (post : Int64 → xw_T → Prop) : Nat → xw_T → Nat → Int32 → Int32 → Int64 → Int32 → Prop
  | 0 => fun _ _ _ _ _ _ => False
  | n5 + 1 => fun w x0 x1 x2 x3 x5 => ∃ v1, xgR w x0 4 0 = some v1 ∧ (∃ a2 : Nat, v1 = some a2 ∧ ((∃ fs, w a2 = some (.inr (0, fs))) ∧ wp_AL_size E (fun r3 w4 => (r3 ≤ x5 → (post x3 w4)) ∧ (¬ r3 ≤ x5 → (∃ v5, xgR w4 x0 4 0 = some v5 ∧ (∃ a6 : Nat, v5 = some a6 ∧ ((∃ fs, w4 a6 = some (.inr (0, fs))) ∧ wp_AL_get E (fun r7 w8 => ∃ a9 : Nat, r7 = some a9 ∧ ((∃ fs, w8 a9 = some (.inr (1, fs))) ∧ ((∃ fs, w8 a9 = some (.inr (1, fs))) ∧ wp_AC_isOfKind E (fun r10 w11 => (r10 = 0 → (wl_PL_totalOfKind_5 E post n5 w11 x0 x1 x2 x3 (x5 + 1))) ∧ (¬ r10 = 0 → (∃ v12, xgL w11 a9 1 3 = some v12 ∧ (wl_PL_totalOfKind_5 E post n5 w11 x0 x1 x2 (x3 + v12) (x5 + 1))))) w8 a9 x1 x2))) w4 a6 x5))))) w a2))
def wp_PL_totalOfKind (E : xE_T) (post : Int64 → xw_T → Prop) (w : xw_T) (h0 : Nat) (p0 : Int32) (p1 : Int32) : Prop := ∃ n5, wl_PL_totalOfKind_5 E post n5 w h0 p0 p1 0 0
set_option maxHeartbeats 4000000 in
set_option maxRecDepth 100000 in
theorem c_PL_totalOfKind (l : Launch) (D : va_G) (E : xE_T) (A : Nat → Prop) (post : Int64 → xw_T → Prop) (w : xw_T) (h0 : Nat) (p0 : Int32) (p1 : Int32) (h : wp_PL_totalOfKind E post w h0 p0 p1) : Met l yPL_totalOfKind (xW yPL_totalOfKind cPL_totalOfKind 7 (some (.long))) ({ frames := 3, cells := 0, slots := 0, locals := 64 } : Room) (va_Pc [.ref h0, .int p0, .int p1] (xP D E A w)) (va_Ql post (xB D A) A) 0 0 A := by
  refine Met.ofW (cc := cPL_totalOfKind) (maxL := 7) (ret := (some (.long))) (by decide) rfl ?_
  intro p e s m args below meth c s₁ B hml hv
  obtain ⟨rfl, hw, hK, hE⟩ := hv
  have hx := B.exec
  have hb := B.bytes
  have hr := B.returns
  have hts : ∀ w ∈ xTB, w.before _ s = true := fun w hw => atoms_spec (ws := xW yPL_totalOfKind cPL_totalOfKind 7 (some (.long))) B.pre w (List.mem_cons_of_mem _ hw)
  have hown : s.vm.findClass RPL = some m.cls := findClass_of_methodNamed B.named
  have hlocks := B.notSynchronized
  have hw : xw_S D vwCl A s.heap w s.heap [] := xw_S0 hw
  have lo_5 : ∀ (n5 : Nat) (w : xw_T) (x0 : Nat) (x1 : Int32) (x2 : Int32) (x3 : Int64) (x5 : Int32) (H : Heap) (locs : List Loc) (ls : Array Slot), lv_has ls 7 [(0, .ref x0), (1, .int x1), (2, .int x2), (3, .long x3), (5, .int x5)] → xw_S D vwCl A s.heap w H locs → wl_PL_totalOfKind_5 E post n5 w x0 x1 x2 x3 x5 → W p l e (headSpec (xW yPL_totalOfKind cPL_totalOfKind 7 (some (.long))) ({ frames := 3, cells := 0, slots := 0, locals := 64 } : Room)).room s m ([.ref h0, .int p0, .int p1] : List Value).toArray below meth c H locs 0 0 (MQ below (va_Ql post (xB D A) A) ([.ref h0, .int p0, .int p1] : List Value).toArray s 0 0 A) (F0 m 5 ls []) := by
    intro n5
    induction n5 with
    | zero => intro w x0 x1 x2 x3 x5 H locs ls hl hw h; exact h.elim
    | succ n5 ih5 =>
      intro w x0 x1 x2 x3 x5 H locs ls hl hw h
      dsimp only [wl_PL_totalOfKind_5] at h
      refine lv_iload hx hb dPL_totalOfKind_5 (lv_at hl 4 rfl) ?_
      refine lv_aload_n hx hb dPL_totalOfKind_7 rfl (lv_at hl 0 rfl) ?_
      obtain ⟨v1, hv, h⟩ := h
      refine xw_getR (C := RPL) (T := TPL) (N := 4) (ref := RPL) hx hb hts inPL hown hK hw rfl 0 (by decide) (hts _ mw_23) (fun _ h9 => h9) hv dPL_totalOfKind_8 ?_
      obtain ⟨a2, rfl, h⟩ := h
      obtain ⟨⟨fs, hk⟩, h⟩ := h
      have hcall := h
      clear h
      refine xw_calli (va_runV (As := []) (rest := [.int x5]) ⟨hx, hb, hml, hown, hts⟩ (c_AL_size l D E A _ w a2 hcall) (cwV 0 hts (xG_V mw_78 mw_79 mw_80 mw_19 mw_81) rfl rfl rfl (by decide +kernel) ⟨(Nat.le_of_ble_eq_true rfl), (Nat.le_of_ble_eq_true rfl)⟩) (xw_preV (ci := 0) hw hK hE rfl hk) rfl rfl hl.1 rfl (lv_room (by first | exact Nat.le_of_ble_eq_true rfl | simp [va_rf_cat, xcat_i, xcat_l, xcat_r, xcat_n])) dPL_totalOfKind_11 ⟨(Nat.le_of_ble_eq_true rfl), (Nat.le_of_ble_eq_true rfl)⟩) hw (fun r3 w4 H locs h hw => ?_)
      clear hcall
      refine lv_icmp_ge (tgt := 55) hx hb dPL_totalOfKind_14 rfl (fun hc => ?_) (fun hc => ?_)
      · replace h := h.1 hc
        refine lv_lload_n hx hb dPL_totalOfKind_55 rfl (lv_at hl 3 rfl) ?_
        refine W.widen (k := 0) (n := 0) (Nat.le_of_ble_eq_true rfl) (Nat.le_of_ble_eq_true rfl) ?_
        exact xw_lret hx hb hr hlocks hw h dPL_totalOfKind_56
      · replace h := h.2 hc
        refine lv_aload_n hx hb dPL_totalOfKind_17 rfl (lv_at hl 0 rfl) ?_
        obtain ⟨v5, hv, h⟩ := h
        refine xw_getR (C := RPL) (T := TPL) (N := 4) (ref := RPL) hx hb hts inPL hown hK hw rfl 0 (by decide) (hts _ mw_23) (fun _ h9 => h9) hv dPL_totalOfKind_18 ?_
        refine lv_iload hx hb dPL_totalOfKind_21 (lv_at hl 4 rfl) ?_
        obtain ⟨a6, rfl, h⟩ := h
        obtain ⟨⟨fs, hk⟩, h⟩ := h
        have hcall := h
        clear h
        refine xw_callq (va_runV (As := [.int x5]) (rest := []) ⟨hx, hb, hml, hown, hts⟩ (c_AL_get l D E A _ w4 a6 x5 hcall) (cwV 1 hts (xG_V mw_138 mw_139 mw_140 mw_19 mw_141) rfl rfl rfl (by decide +kernel) ⟨(Nat.le_of_ble_eq_true rfl), (Nat.le_of_ble_eq_true rfl)⟩) (xw_preV (ci := 0) hw hK hE rfl hk) rfl rfl hl.1 rfl (lv_room (by first | exact Nat.le_of_ble_eq_true rfl | simp [va_rf_cat, xcat_i, xcat_l, xcat_r, xcat_n])) dPL_totalOfKind_23 ⟨(Nat.le_of_ble_eq_true rfl), (Nat.le_of_ble_eq_true rfl)⟩) hw (fun r7 w8 H locs h hw => ?_)
        clear hcall
        obtain ⟨a9, rfl, h⟩ := h
        obtain ⟨⟨fs, hk⟩, h⟩ := h
        refine va_castS hx hb hown (hts _ mw_90) (hK.1 1 _ rfl).2 (xw_recv hK hw (ci := 1) rfl hk) dPL_totalOfKind_26 ?_
        refine lv_astore (i := 6) (lv' := [(6, .ref a9), (0, .ref x0), (1, .int x1), (2, .int x2), (3, .long x3), (5, .int x5)]) hx hb dPL_totalOfKind_29 hl (by decide) (by first | rfl | simp [va_rf_cat, xcat_i, xcat_l, xcat_r, xcat_n]) (fun ls hl => ?_)
        refine lv_aload hx hb dPL_totalOfKind_31 (lv_at hl 0 rfl) ?_
        refine lv_iload_n hx hb dPL_totalOfKind_33 rfl (lv_at hl 2 rfl) ?_
        refine lv_iload_n hx hb dPL_totalOfKind_34 rfl (lv_at hl 3 rfl) ?_
        obtain ⟨⟨fs, hk⟩, h⟩ := h
        have hcall := h
        clear h
        refine xw_calli (va_runV (As := [.int x1, .int x2]) (rest := []) ⟨hx, hb, hml, hown, hts⟩ (c_AC_isOfKind l D E A _ w8 a9 x1 x2 hcall) (cwV 2 hts (xG_V mw_217 mw_218 mw_219 mw_88 mw_220) rfl rfl rfl (by decide +kernel) ⟨(Nat.le_of_ble_eq_true rfl), (Nat.le_of_ble_eq_true rfl)⟩) (xw_preV (ci := 1) hw hK hE rfl hk) rfl rfl hl.1 rfl (lv_room (by first | exact Nat.le_of_ble_eq_true rfl | simp [va_rf_cat, xcat_i, xcat_l, xcat_r, xcat_n])) dPL_totalOfKind_35 ⟨(Nat.le_of_ble_eq_true rfl), (Nat.le_of_ble_eq_true rfl)⟩) hw (fun r10 w11 H locs h hw => ?_)
        clear hcall
        refine lv_if_eq (tgt := 49) hx hb dPL_totalOfKind_38 rfl (fun hc => ?_) (fun hc => ?_)
        · replace h := h.1 hc
          refine lv_iinc (k := 5) (v := x5 + 1) (lv' := [(5, .int (x5 + 1)), (6, .ref a9), (0, .ref x0), (1, .int x1), (2, .int x2), (3, .long x3)]) hx hb dPL_totalOfKind_49 hl rfl rfl (by decide) (by first | rfl | simp [va_rf_cat, xcat_i, xcat_l, xcat_r, xcat_n]) (fun ls hl => ?_)
          refine lv_goto (tgt := 5) hx hb dPL_totalOfKind_52 rfl ?_
          exact ih5 _ x0 x1 x2 x3 (x5 + 1) _ _ _ (lv_sub hl [2, 3, 4, 5, 0] rfl) hw h
        · replace h := h.2 hc
          refine lv_lload_n hx hb dPL_totalOfKind_41 rfl (lv_at hl 4 rfl) ?_
          refine lv_aload hx hb dPL_totalOfKind_42 (lv_at hl 0 rfl) ?_
          obtain ⟨v12, hv, h⟩ := h
          refine xw_getL (C := RAC) (T := TAC) (N := 4) (ref := RAC) hx hb hts inAC hown hK hw rfl 3 (by decide) (hts _ mw_216) (fun _ h9 => h9) hv dPL_totalOfKind_44 ?_
          refine lv_ladd hx hb dPL_totalOfKind_47 ?_
          refine lv_lstore_n (i := 3) (lv' := [(3, .long (x3 + v12)), (6, .ref a9), (0, .ref x0), (1, .int x1), (2, .int x2), (5, .int x5)]) hx hb dPL_totalOfKind_48 rfl hl (by decide) (by first | rfl | simp [va_rf_cat, xcat_i, xcat_l, xcat_r, xcat_n]) (fun ls hl => ?_)
          refine lv_iinc (k := 5) (v := x5 + 1) (lv' := [(5, .int (x5 + 1)), (3, .long (x3 + v12)), (6, .ref a9), (0, .ref x0), (1, .int x1), (2, .int x2)]) hx hb dPL_totalOfKind_49 hl rfl rfl (by decide) (by first | rfl | simp [va_rf_cat, xcat_i, xcat_l, xcat_r, xcat_n]) (fun ls hl => ?_)
          refine lv_goto (tgt := 5) hx hb dPL_totalOfKind_52 rfl ?_
          exact ih5 _ x0 x1 x2 (x3 + v12) (x5 + 1) _ _ _ (lv_sub hl [3, 4, 5, 1, 0] rfl) hw h
  refine xl_start (lvs := [(0, .ref h0), (1, .int p0), (2, .int p1)]) (by first | exact Nat.le_of_ble_eq_true rfl | simp [lg_sl, va_rf_cat, xcat_i, xcat_l, xcat_r, xcat_n]) (by first | rfl | simp [lv_args, va_rf_cat, xcat_i, xcat_l, xcat_r, xcat_n]) (fun ls hl => ?_)
  unfold wp_PL_totalOfKind at h
  refine lv_lconst (v := 0) hx hb dPL_totalOfKind_0 (by decide) ?_
  refine lv_lstore_n (i := 3) (lv' := [(3, .long 0), (0, .ref h0), (1, .int p0), (2, .int p1)]) hx hb dPL_totalOfKind_1 rfl hl (by decide) (by first | rfl | simp [va_rf_cat, xcat_i, xcat_l, xcat_r, xcat_n]) (fun ls hl => ?_)
  refine lv_iconst (v := 0) hx hb dPL_totalOfKind_2 (by decide) ?_
  refine lv_istore (i := 5) (lv' := [(5, .int 0), (3, .long 0), (0, .ref h0), (1, .int p0), (2, .int p1)]) hx hb dPL_totalOfKind_3 hl (by decide) (by first | rfl | simp [va_rf_cat, xcat_i, xcat_l, xcat_r, xcat_n]) (fun ls hl => ?_)
  obtain ⟨n5, h⟩ := h
  refine W.widen (k := 0) (n := 0) (Nat.le_of_ble_eq_true rfl) (Nat.le_of_ble_eq_true rfl) ?_
  exact lo_5 n5 _ h0 p0 p1 0 0 _ _ _ (lv_sub hl [2, 3, 4, 1, 0] rfl) hw h
def wl_PL_firstOfKind_2 (E : xE_T) (post : Option Nat → xw_T → Prop) : Nat → xw_T → Nat → Int32 → Int32 → Int32 → Prop
  | 0 => fun _ _ _ _ _ => False
  | n2 + 1 => fun w x0 x1 x2 x3 => ∃ v1, xgR w x0 4 0 = some v1 ∧ (∃ a2 : Nat, v1 = some a2 ∧ ((∃ fs, w a2 = some (.inr (0, fs))) ∧ wp_AL_size E (fun r3 w4 => (r3 ≤ x3 → (post none w4)) ∧ (¬ r3 ≤ x3 → (∃ v5, xgR w4 x0 4 0 = some v5 ∧ (∃ a6 : Nat, v5 = some a6 ∧ ((∃ fs, w4 a6 = some (.inr (0, fs))) ∧ wp_AL_get E (fun r7 w8 => ∃ a9 : Nat, r7 = some a9 ∧ ((∃ fs, w8 a9 = some (.inr (1, fs))) ∧ ((∃ fs, w8 a9 = some (.inr (1, fs))) ∧ wp_AC_isOfKind E (fun r10 w11 => (r10 = 0 → (wl_PL_firstOfKind_2 E post n2 w11 x0 x1 x2 (x3 + 1))) ∧ (¬ r10 = 0 → (post (some a9) w11))) w8 a9 x1 x2))) w4 a6 x3))))) w a2))
def wp_PL_firstOfKind (E : xE_T) (post : Option Nat → xw_T → Prop) (w : xw_T) (h0 : Nat) (p0 : Int32) (p1 : Int32) : Prop := ∃ n2, wl_PL_firstOfKind_2 E post n2 w h0 p0 p1 0
set_option maxHeartbeats 4000000 in
set_option maxRecDepth 100000 in
theorem c_PL_firstOfKind (l : Launch) (D : va_G) (E : xE_T) (A : Nat → Prop) (post : Option Nat → xw_T → Prop) (w : xw_T) (h0 : Nat) (p0 : Int32) (p1 : Int32) (h : wp_PL_firstOfKind E post w h0 p0 p1) : Met l yPL_firstOfKind (xW yPL_firstOfKind cPL_firstOfKind 5 (some (.object "PostLedger$Account"))) ({ frames := 3, cells := 0, slots := 0, locals := 64 } : Room) (va_Pc [.ref h0, .int p0, .int p1] (xP D E A w)) (va_Qq post (xB D A) A) 0 0 A := by
  refine Met.ofW (cc := cPL_firstOfKind) (maxL := 5) (ret := (some (.object "PostLedger$Account"))) (by decide) rfl ?_
  intro p e s m args below meth c s₁ B hml hv
  obtain ⟨rfl, hw, hK, hE⟩ := hv
  have hx := B.exec
  have hb := B.bytes
  have hr := B.returns
  have hts : ∀ w ∈ xTB, w.before _ s = true := fun w hw => atoms_spec (ws := xW yPL_firstOfKind cPL_firstOfKind 5 (some (.object "PostLedger$Account"))) B.pre w (List.mem_cons_of_mem _ hw)
  have hown : s.vm.findClass RPL = some m.cls := findClass_of_methodNamed B.named
  have hlocks := B.notSynchronized
  have hw : xw_S D vwCl A s.heap w s.heap [] := xw_S0 hw
  have lo_2 : ∀ (n2 : Nat) (w : xw_T) (x0 : Nat) (x1 : Int32) (x2 : Int32) (x3 : Int32) (H : Heap) (locs : List Loc) (ls : Array Slot), lv_has ls 5 [(0, .ref x0), (1, .int x1), (2, .int x2), (3, .int x3)] → xw_S D vwCl A s.heap w H locs → wl_PL_firstOfKind_2 E post n2 w x0 x1 x2 x3 → W p l e (headSpec (xW yPL_firstOfKind cPL_firstOfKind 5 (some (.object "PostLedger$Account"))) ({ frames := 3, cells := 0, slots := 0, locals := 64 } : Room)).room s m ([.ref h0, .int p0, .int p1] : List Value).toArray below meth c H locs 0 0 (MQ below (va_Qq post (xB D A) A) ([.ref h0, .int p0, .int p1] : List Value).toArray s 0 0 A) (F0 m 2 ls []) := by
    intro n2
    induction n2 with
    | zero => intro w x0 x1 x2 x3 H locs ls hl hw h; exact h.elim
    | succ n2 ih2 =>
      intro w x0 x1 x2 x3 H locs ls hl hw h
      dsimp only [wl_PL_firstOfKind_2] at h
      refine lv_iload_n hx hb dPL_firstOfKind_2 rfl (lv_at hl 3 rfl) ?_
      refine lv_aload_n hx hb dPL_firstOfKind_3 rfl (lv_at hl 0 rfl) ?_
      obtain ⟨v1, hv, h⟩ := h
      refine xw_getR (C := RPL) (T := TPL) (N := 4) (ref := RPL) hx hb hts inPL hown hK hw rfl 0 (by decide) (hts _ mw_23) (fun _ h9 => h9) hv dPL_firstOfKind_4 ?_
      obtain ⟨a2, rfl, h⟩ := h
      obtain ⟨⟨fs, hk⟩, h⟩ := h
      have hcall := h
      clear h
      refine xw_calli (va_runV (As := []) (rest := [.int x3]) ⟨hx, hb, hml, hown, hts⟩ (c_AL_size l D E A _ w a2 hcall) (cwV 0 hts (xG_V mw_78 mw_79 mw_80 mw_19 mw_81) rfl rfl rfl (by decide +kernel) ⟨(Nat.le_of_ble_eq_true rfl), (Nat.le_of_ble_eq_true rfl)⟩) (xw_preV (ci := 0) hw hK hE rfl hk) rfl rfl hl.1 rfl (lv_room (by first | exact Nat.le_of_ble_eq_true rfl | simp [va_rf_cat, xcat_i, xcat_l, xcat_r, xcat_n])) dPL_firstOfKind_7 ⟨(Nat.le_of_ble_eq_true rfl), (Nat.le_of_ble_eq_true rfl)⟩) hw (fun r3 w4 H locs h hw => ?_)
      clear hcall
      refine lv_icmp_ge (tgt := 45) hx hb dPL_firstOfKind_10 rfl (fun hc => ?_) (fun hc => ?_)
      · replace h := h.1 hc
        refine lv_null hx hb dPL_firstOfKind_45 ?_
        refine W.widen (k := 0) (n := 0) (Nat.le_of_ble_eq_true rfl) (Nat.le_of_ble_eq_true rfl) ?_
        exact xw_aret (r := none) (Or.inl ⟨_, rfl⟩) hx hb hr hlocks hw h dPL_firstOfKind_46
      · replace h := h.2 hc
        refine lv_aload_n hx hb dPL_firstOfKind_13 rfl (lv_at hl 0 rfl) ?_
        obtain ⟨v5, hv, h⟩ := h
        refine xw_getR (C := RPL) (T := TPL) (N := 4) (ref := RPL) hx hb hts inPL hown hK hw rfl 0 (by decide) (hts _ mw_23) (fun _ h9 => h9) hv dPL_firstOfKind_14 ?_
        refine lv_iload_n hx hb dPL_firstOfKind_17 rfl (lv_at hl 3 rfl) ?_
        obtain ⟨a6, rfl, h⟩ := h
        obtain ⟨⟨fs, hk⟩, h⟩ := h
        have hcall := h
        clear h
        refine xw_callq (va_runV (As := [.int x3]) (rest := []) ⟨hx, hb, hml, hown, hts⟩ (c_AL_get l D E A _ w4 a6 x3 hcall) (cwV 1 hts (xG_V mw_138 mw_139 mw_140 mw_19 mw_141) rfl rfl rfl (by decide +kernel) ⟨(Nat.le_of_ble_eq_true rfl), (Nat.le_of_ble_eq_true rfl)⟩) (xw_preV (ci := 0) hw hK hE rfl hk) rfl rfl hl.1 rfl (lv_room (by first | exact Nat.le_of_ble_eq_true rfl | simp [va_rf_cat, xcat_i, xcat_l, xcat_r, xcat_n])) dPL_firstOfKind_18 ⟨(Nat.le_of_ble_eq_true rfl), (Nat.le_of_ble_eq_true rfl)⟩) hw (fun r7 w8 H locs h hw => ?_)
        clear hcall
        obtain ⟨a9, rfl, h⟩ := h
        obtain ⟨⟨fs, hk⟩, h⟩ := h
        refine va_castS hx hb hown (hts _ mw_90) (hK.1 1 _ rfl).2 (xw_recv hK hw (ci := 1) rfl hk) dPL_firstOfKind_21 ?_
        refine lv_astore (i := 4) (lv' := [(4, .ref a9), (0, .ref x0), (1, .int x1), (2, .int x2), (3, .int x3)]) hx hb dPL_firstOfKind_24 hl (by decide) (by first | rfl | simp [va_rf_cat, xcat_i, xcat_l, xcat_r, xcat_n]) (fun ls hl => ?_)
        refine lv_aload hx hb dPL_firstOfKind_26 (lv_at hl 0 rfl) ?_
        refine lv_iload_n hx hb dPL_firstOfKind_28 rfl (lv_at hl 2 rfl) ?_
        refine lv_iload_n hx hb dPL_firstOfKind_29 rfl (lv_at hl 3 rfl) ?_
        obtain ⟨⟨fs, hk⟩, h⟩ := h
        have hcall := h
        clear h
        refine xw_calli (va_runV (As := [.int x1, .int x2]) (rest := []) ⟨hx, hb, hml, hown, hts⟩ (c_AC_isOfKind l D E A _ w8 a9 x1 x2 hcall) (cwV 2 hts (xG_V mw_217 mw_218 mw_219 mw_88 mw_220) rfl rfl rfl (by decide +kernel) ⟨(Nat.le_of_ble_eq_true rfl), (Nat.le_of_ble_eq_true rfl)⟩) (xw_preV (ci := 1) hw hK hE rfl hk) rfl rfl hl.1 rfl (lv_room (by first | exact Nat.le_of_ble_eq_true rfl | simp [va_rf_cat, xcat_i, xcat_l, xcat_r, xcat_n])) dPL_firstOfKind_30 ⟨(Nat.le_of_ble_eq_true rfl), (Nat.le_of_ble_eq_true rfl)⟩) hw (fun r10 w11 H locs h hw => ?_)
        clear hcall
        refine lv_if_eq (tgt := 39) hx hb dPL_firstOfKind_33 rfl (fun hc => ?_) (fun hc => ?_)
        · replace h := h.1 hc
          refine lv_iinc (k := 4) (v := x3 + 1) (lv' := [(3, .int (x3 + 1)), (4, .ref a9), (0, .ref x0), (1, .int x1), (2, .int x2)]) hx hb dPL_firstOfKind_39 hl rfl rfl (by decide) (by first | rfl | simp [va_rf_cat, xcat_i, xcat_l, xcat_r, xcat_n]) (fun ls hl => ?_)
          refine lv_goto (tgt := 2) hx hb dPL_firstOfKind_42 rfl ?_
          exact ih2 _ x0 x1 x2 (x3 + 1) _ _ _ (lv_sub hl [2, 3, 4, 0] rfl) hw h
        · replace h := h.2 hc
          refine lv_aload hx hb dPL_firstOfKind_36 (lv_at hl 0 rfl) ?_
          refine W.widen (k := 0) (n := 0) (Nat.le_of_ble_eq_true rfl) (Nat.le_of_ble_eq_true rfl) ?_
          exact xw_aret (r := (some a9)) (Or.inl ⟨_, rfl⟩) hx hb hr hlocks hw h dPL_firstOfKind_38
  refine xl_start (lvs := [(0, .ref h0), (1, .int p0), (2, .int p1)]) (by first | exact Nat.le_of_ble_eq_true rfl | simp [lg_sl, va_rf_cat, xcat_i, xcat_l, xcat_r, xcat_n]) (by first | rfl | simp [lv_args, va_rf_cat, xcat_i, xcat_l, xcat_r, xcat_n]) (fun ls hl => ?_)
  unfold wp_PL_firstOfKind at h
  refine lv_iconst (v := 0) hx hb dPL_firstOfKind_0 (by decide) ?_
  refine lv_istore_n (i := 3) (lv' := [(3, .int 0), (0, .ref h0), (1, .int p0), (2, .int p1)]) hx hb dPL_firstOfKind_1 rfl hl (by decide) (by first | rfl | simp [va_rf_cat, xcat_i, xcat_l, xcat_r, xcat_n]) (fun ls hl => ?_)
  obtain ⟨n2, h⟩ := h
  refine W.widen (k := 0) (n := 0) (Nat.le_of_ble_eq_true rfl) (Nat.le_of_ble_eq_true rfl) ?_
  exact lo_2 n2 _ h0 p0 p1 0 _ _ _ (lv_sub hl [1, 2, 3, 0] rfl) hw h
def wp_PL_stock (E : xE_T) (post : Int32 → xw_T → Prop) (w : xw_T) (h0 : Nat) (p0 : Int32) (p1 : Int32) (p2 : Int64) : Prop := wp_PL_isOffice E (fun r1 w2 => (r1 = 0 → (post (-2000000002) w2)) ∧ (¬ r1 = 0 → ((p1 < 0 → (post (-2000000002) w2)) ∧ (¬ p1 < 0 → ((5 ≤ p1 → (post (-2000000002) w2)) ∧ (¬ 5 ≤ p1 → (wp_PL_isWithin E (fun r3 w4 => (¬ r3 = 0 → ((∃ fs, w4 h0 = some (.inr (4, fs))) ∧ wp_PL_totalOfKind E (fun r5 w6 => (¬ (p2 - r5) = 0 → ((∃ fs, w6 h0 = some (.inr (4, fs))) ∧ wp_PL_firstOfKind E (fun r7 w8 => (∃ fs, w8 h0 = some (.inr (4, fs))) ∧ wp_PL_firstOfKind E (fun r9 w10 => (r7 = none → (post (-2000000003) w10)) ∧ (¬ r7 = none → ((r9 = none → (post (-2000000003) w10)) ∧ (¬ r9 = none → (wp_PL_isWithin E (fun r11 w12 => (¬ r11 = 0 → ((∃ fs, w12 h0 = some (.inr (4, fs))) ∧ wp_PL_hasRoomForBatch E (fun r13 w14 => (¬ r13 = 0 → (∀ q15 : Nat, (w14 q15 = none ∧ q15 ≠ E.2 6) → ∀ w16, w16 = va_up w14 q15 (some (.inr (2, [.int 0, .null, .null, .int 0, .int 0, .int 0]))) → (∃ v17, xgI w16 h0 4 2 = some v17 ∧ (wp_BA_init E (fun w19 => (∃ fs, w19 q15 = some (.inr (2, fs))) ∧ wp_BA_addRow E (fun w21 => (∃ fs, w21 q15 = some (.inr (2, fs))) ∧ wp_BA_addRow E (fun w23 => ∃ v24, xgR w23 h0 4 1 = some v24 ∧ (∃ a25 : Nat, v24 = some a25 ∧ ((∃ fs, w23 a25 = some (.inr (0, fs))) ∧ wp_AL_add E (fun r26 w27 => (∃ fs, w27 h0 = some (.inr (4, fs))) ∧ wp_PL_enterIntoBooks E (fun w29 => post ((p2 - r5).toInt32) w29) w27 h0 (some q15)) w23 a25 (some q15)))) w21 q15 r9 (-(p2 - r5))) w19 q15 r7 (p2 - r5)) w16 q15 v17)))) ∧ (r13 = 0 → (post (-2000000004) w14))) w12 h0)) ∧ (r11 = 0 → (post (-2000000003) w12))) w10 (p2 - r5) (-1000000000) 1000000000))))) w8 h0 p0 5) w6 h0 p0 p1)) ∧ ((p2 - r5) = 0 → (post 0 w6))) w4 h0 p0 p1)) ∧ (r3 = 0 → (post (-2000000002) w4))) w2 p2 (-100000000) 100000000))))))) w p0
set_option maxHeartbeats 4000000 in
set_option maxRecDepth 100000 in
theorem c_PL_stock (l : Launch) (D : va_G) (E : xE_T) (A : Nat → Prop) (post : Int32 → xw_T → Prop) (w : xw_T) (h0 : Nat) (p0 : Int32) (p1 : Int32) (p2 : Int64) (h : wp_PL_stock E post w h0 p0 p1 p2) : Met l yPL_stock (xW yPL_stock cPL_stock 10 (some (.int))) ({ frames := 8, cells := 7, slots := 1111, locals := 172 } : Room) (va_Pc [.ref h0, .int p0, .int p1, .long p2] (xP D E A w)) (va_Qi post (xB D A) A) 7 1111 A := by
  refine Met.ofW (cc := cPL_stock) (maxL := 10) (ret := (some (.int))) (by decide) rfl ?_
  intro p e s m args below meth c s₁ B hml hv
  obtain ⟨rfl, hw, hK, hE⟩ := hv
  have hx := B.exec
  have hb := B.bytes
  have hr := B.returns
  have hts : ∀ w ∈ xTB, w.before _ s = true := fun w hw => atoms_spec (ws := xW yPL_stock cPL_stock 10 (some (.int))) B.pre w (List.mem_cons_of_mem _ hw)
  have hown : s.vm.findClass RPL = some m.cls := findClass_of_methodNamed B.named
  have hlocks := B.notSynchronized
  have hw : xw_S D vwCl A s.heap w s.heap [] := xw_S0 hw
  refine xl_start (lvs := [(0, .ref h0), (1, .int p0), (2, .int p1), (3, .long p2)]) (by first | exact Nat.le_of_ble_eq_true rfl | simp [lg_sl, va_rf_cat, xcat_i, xcat_l, xcat_r, xcat_n]) (by first | rfl | simp [lv_args, va_rf_cat, xcat_i, xcat_l, xcat_r, xcat_n]) (fun ls hl => ?_)
  unfold wp_PL_stock at h
  refine lv_iload_n hx hb dPL_stock_0 rfl (lv_at hl 1 rfl) ?_
  have hcall := h
  clear h
  refine xw_calli (va_runS (As := [.int p0]) (rest := []) ⟨hx, hb, hml, hown, hts⟩ (c_PL_isOffice l D E A _ w p0 hcall) (va_cwS 1 hts (xG_S mw_93 mw_94 mw_95 mw_96) rfl rfl rfl (by decide +kernel) ⟨(Nat.le_of_ble_eq_true rfl), (Nat.le_of_ble_eq_true rfl)⟩) (xw_preS hw hK hE) rfl rfl hl.1 rfl (lv_room (by first | exact Nat.le_of_ble_eq_true rfl | simp [va_rf_cat, xcat_i, xcat_l, xcat_r, xcat_n])) dPL_stock_1 ⟨(Nat.le_of_ble_eq_true rfl), (Nat.le_of_ble_eq_true rfl)⟩) hw (fun r1 w2 H locs h hw => ?_)
  clear hcall
  refine lv_if_eq (tgt := 29) hx hb dPL_stock_4 rfl (fun hc => ?_) (fun hc => ?_)
  · replace h := h.1 hc
    refine lv_ldc (v := (-2000000002)) hx hb hown (hts _ mw_77) dPL_stock_29 ?_
    refine W.widen (k := 7) (n := 1111) (Nat.le_of_ble_eq_true rfl) (Nat.le_of_ble_eq_true rfl) ?_
    exact xw_iret hx hb hr hlocks hw h dPL_stock_31
  · replace h := h.2 hc
    refine lv_iload_n hx hb dPL_stock_7 rfl (lv_at hl 2 rfl) ?_
    refine lv_if_lt (tgt := 29) hx hb dPL_stock_8 rfl (fun hc => ?_) (fun hc => ?_)
    · replace h := h.1 hc
      refine lv_ldc (v := (-2000000002)) hx hb hown (hts _ mw_77) dPL_stock_29 ?_
      refine W.widen (k := 7) (n := 1111) (Nat.le_of_ble_eq_true rfl) (Nat.le_of_ble_eq_true rfl) ?_
      exact xw_iret hx hb hr hlocks hw h dPL_stock_31
    · replace h := h.2 hc
      refine lv_iload_n hx hb dPL_stock_11 rfl (lv_at hl 2 rfl) ?_
      refine lv_iconst (v := 5) hx hb dPL_stock_12 (by decide) ?_
      refine lv_icmp_ge (tgt := 29) hx hb dPL_stock_13 rfl (fun hc => ?_) (fun hc => ?_)
      · replace h := h.1 hc
        refine lv_ldc (v := (-2000000002)) hx hb hown (hts _ mw_77) dPL_stock_29 ?_
        refine W.widen (k := 7) (n := 1111) (Nat.le_of_ble_eq_true rfl) (Nat.le_of_ble_eq_true rfl) ?_
        exact xw_iret hx hb hr hlocks hw h dPL_stock_31
      · replace h := h.2 hc
        refine lv_lload_n hx hb dPL_stock_16 rfl (lv_at hl 3 rfl) ?_
        refine lv_ldc2 (v := (-100000000)) hx hb hown (hts _ mw_158) dPL_stock_17 ?_
        refine lv_ldc2 (v := 100000000) hx hb hown (hts _ mw_157) dPL_stock_20 ?_
        have hcall := h
        clear h
        refine xw_calli (va_runS (As := [.long p2, .long (-100000000), .long 100000000]) (rest := []) ⟨hx, hb, hml, hown, hts⟩ (c_PL_isWithin l D E A _ w2 p2 (-100000000) 100000000 hcall) (va_cwS 3 hts (xG_S mw_97 mw_98 mw_95 mw_99) rfl rfl rfl (by decide +kernel) ⟨(Nat.le_of_ble_eq_true rfl), (Nat.le_of_ble_eq_true rfl)⟩) (xw_preS hw hK hE) rfl rfl hl.1 rfl (lv_room (by first | exact Nat.le_of_ble_eq_true rfl | simp [va_rf_cat, xcat_i, xcat_l, xcat_r, xcat_n])) dPL_stock_23 ⟨(Nat.le_of_ble_eq_true rfl), (Nat.le_of_ble_eq_true rfl)⟩) hw (fun r3 w4 H locs h hw => ?_)
        clear hcall
        refine lv_if_ne (tgt := 32) hx hb dPL_stock_26 rfl (fun hc => ?_) (fun hc => ?_)
        · replace h := h.1 hc
          refine lv_lload_n hx hb dPL_stock_32 rfl (lv_at hl 3 rfl) ?_
          refine lv_aload_n hx hb dPL_stock_33 rfl (lv_at hl 0 rfl) ?_
          refine lv_iload_n hx hb dPL_stock_34 rfl (lv_at hl 1 rfl) ?_
          refine lv_iload_n hx hb dPL_stock_35 rfl (lv_at hl 2 rfl) ?_
          obtain ⟨⟨fs, hk⟩, h⟩ := h
          have hcall := h
          clear h
          refine xw_calll (va_runV (As := [.int p0, .int p1]) (rest := [.long p2]) ⟨hx, hb, hml, hown, hts⟩ (c_PL_totalOfKind l D E A _ w4 h0 p0 p1 hcall) (cwV 2 hts (xG_V mw_227 mw_228 mw_229 mw_95 mw_230) rfl rfl rfl (by decide +kernel) ⟨(Nat.le_of_ble_eq_true rfl), (Nat.le_of_ble_eq_true rfl)⟩) (xw_preV (ci := 4) hw hK hE rfl hk) rfl rfl hl.1 rfl (lv_room (by first | exact Nat.le_of_ble_eq_true rfl | simp [va_rf_cat, xcat_i, xcat_l, xcat_r, xcat_n])) dPL_stock_36 ⟨(Nat.le_of_ble_eq_true rfl), (Nat.le_of_ble_eq_true rfl)⟩) hw (fun r5 w6 H locs h hw => ?_)
          clear hcall
          refine lv_lsub hx hb dPL_stock_39 ?_
          refine lv_lstore (i := 5) (lv' := [(5, .long (p2 - r5)), (0, .ref h0), (1, .int p0), (2, .int p1), (3, .long p2)]) hx hb dPL_stock_40 hl (by decide) (by first | rfl | simp [va_rf_cat, xcat_i, xcat_l, xcat_r, xcat_n]) (fun ls hl => ?_)
          refine lv_lload hx hb dPL_stock_42 (lv_at hl 0 rfl) ?_
          refine lv_lconst (v := 0) hx hb dPL_stock_44 (by decide) ?_
          refine xl_lc_ne (tgt := 51) hx hb dPL_stock_45 dPL_stock_46 rfl (fun hc => ?_) (fun hc => ?_)
          · replace h := h.1 hc
            refine lv_aload_n hx hb dPL_stock_51 rfl (lv_at hl 1 rfl) ?_
            refine lv_iload_n hx hb dPL_stock_52 rfl (lv_at hl 2 rfl) ?_
            refine lv_iload_n hx hb dPL_stock_53 rfl (lv_at hl 3 rfl) ?_
            obtain ⟨⟨fs, hk⟩, h⟩ := h
            have hcall := h
            clear h
            refine xw_callq (va_runV (As := [.int p0, .int p1]) (rest := []) ⟨hx, hb, hml, hown, hts⟩ (c_PL_firstOfKind l D E A _ w6 h0 p0 p1 hcall) (cwV 2 hts (xG_V mw_223 mw_224 mw_225 mw_95 mw_226) rfl rfl rfl (by decide +kernel) ⟨(Nat.le_of_ble_eq_true rfl), (Nat.le_of_ble_eq_true rfl)⟩) (xw_preV (ci := 4) hw hK hE rfl hk) rfl rfl hl.1 rfl (lv_room (by first | exact Nat.le_of_ble_eq_true rfl | simp [va_rf_cat, xcat_i, xcat_l, xcat_r, xcat_n])) dPL_stock_54 ⟨(Nat.le_of_ble_eq_true rfl), (Nat.le_of_ble_eq_true rfl)⟩) hw (fun r7 w8 H locs h hw => ?_)
            clear hcall
            refine xl_astore (i := 7) (lv' := [(7, va_rf r7), (5, .long (p2 - r5)), (0, .ref h0), (1, .int p0), (2, .int p1), (3, .long p2)]) hx hb dPL_stock_57 hl (by decide) (by first | rfl | simp [va_rf_cat, xcat_i, xcat_l, xcat_r, xcat_n]) (fun ls hl => ?_)
            refine lv_aload_n hx hb dPL_stock_59 rfl (lv_at hl 2 rfl) ?_
            refine lv_iload_n hx hb dPL_stock_60 rfl (lv_at hl 3 rfl) ?_
            refine lv_iconst (v := 5) hx hb dPL_stock_61 (by decide) ?_
            obtain ⟨⟨fs, hk⟩, h⟩ := h
            have hcall := h
            clear h
            refine xw_callq (va_runV (As := [.int p0, .int 5]) (rest := []) ⟨hx, hb, hml, hown, hts⟩ (c_PL_firstOfKind l D E A _ w8 h0 p0 5 hcall) (cwV 2 hts (xG_V mw_223 mw_224 mw_225 mw_95 mw_226) rfl rfl rfl (by decide +kernel) ⟨(Nat.le_of_ble_eq_true rfl), (Nat.le_of_ble_eq_true rfl)⟩) (xw_preV (ci := 4) hw hK hE rfl hk) rfl rfl hl.1 rfl (lv_room (by first | exact Nat.le_of_ble_eq_true rfl | simp [va_rf_cat, xcat_i, xcat_l, xcat_r, xcat_n])) dPL_stock_62 ⟨(Nat.le_of_ble_eq_true rfl), (Nat.le_of_ble_eq_true rfl)⟩) hw (fun r9 w10 H locs h hw => ?_)
            clear hcall
            refine xl_astore (i := 8) (lv' := [(8, va_rf r9), (7, va_rf r7), (5, .long (p2 - r5)), (0, .ref h0), (1, .int p0), (2, .int p1), (3, .long p2)]) hx hb dPL_stock_65 hl (by decide) (by first | rfl | simp [va_rf_cat, xcat_i, xcat_l, xcat_r, xcat_n]) (fun ls hl => ?_)
            refine xl_aload hx hb dPL_stock_67 (lv_at hl 1 rfl) ?_
            refine xl_ifnull (tgt := 91) hx hb dPL_stock_69 rfl (fun hc => ?_) (fun hc => ?_)
            · replace h := h.1 hc
              refine lv_ldc (v := (-2000000003)) hx hb hown (hts _ mw_118) dPL_stock_91 ?_
              refine W.widen (k := 7) (n := 1111) (Nat.le_of_ble_eq_true rfl) (Nat.le_of_ble_eq_true rfl) ?_
              exact xw_iret hx hb hr hlocks hw h dPL_stock_93
            · replace h := h.2 hc
              refine xl_aload hx hb dPL_stock_72 (lv_at hl 0 rfl) ?_
              refine xl_ifnull (tgt := 91) hx hb dPL_stock_74 rfl (fun hc => ?_) (fun hc => ?_)
              · replace h := h.1 hc
                refine lv_ldc (v := (-2000000003)) hx hb hown (hts _ mw_118) dPL_stock_91 ?_
                refine W.widen (k := 7) (n := 1111) (Nat.le_of_ble_eq_true rfl) (Nat.le_of_ble_eq_true rfl) ?_
                exact xw_iret hx hb hr hlocks hw h dPL_stock_93
              · replace h := h.2 hc
                refine lv_lload hx hb dPL_stock_77 (lv_at hl 2 rfl) ?_
                refine lv_ldc2 (v := (-1000000000)) hx hb hown (hts _ mw_222) dPL_stock_79 ?_
                refine lv_ldc2 (v := 1000000000) hx hb hown (hts _ mw_221) dPL_stock_82 ?_
                have hcall := h
                clear h
                refine xw_calli (va_runS (As := [.long (p2 - r5), .long (-1000000000), .long 1000000000]) (rest := []) ⟨hx, hb, hml, hown, hts⟩ (c_PL_isWithin l D E A _ w10 (p2 - r5) (-1000000000) 1000000000 hcall) (va_cwS 3 hts (xG_S mw_97 mw_98 mw_95 mw_99) rfl rfl rfl (by decide +kernel) ⟨(Nat.le_of_ble_eq_true rfl), (Nat.le_of_ble_eq_true rfl)⟩) (xw_preS hw hK hE) rfl rfl hl.1 rfl (lv_room (by first | exact Nat.le_of_ble_eq_true rfl | simp [va_rf_cat, xcat_i, xcat_l, xcat_r, xcat_n])) dPL_stock_85 ⟨(Nat.le_of_ble_eq_true rfl), (Nat.le_of_ble_eq_true rfl)⟩) hw (fun r11 w12 H locs h hw => ?_)
                clear hcall
                refine lv_if_ne (tgt := 94) hx hb dPL_stock_88 rfl (fun hc => ?_) (fun hc => ?_)
                · replace h := h.1 hc
                  refine lv_aload_n hx hb dPL_stock_94 rfl (lv_at hl 3 rfl) ?_
                  obtain ⟨⟨fs, hk⟩, h⟩ := h
                  have hcall := h
                  clear h
                  refine xw_calli (va_runV (As := []) (rest := []) ⟨hx, hb, hml, hown, hts⟩ (c_PL_hasRoomForBatch l D E A _ w12 h0 hcall) (cwV 0 hts (xG_V mw_114 mw_115 mw_116 mw_95 mw_117) rfl rfl rfl (by decide +kernel) ⟨(Nat.le_of_ble_eq_true rfl), (Nat.le_of_ble_eq_true rfl)⟩) (xw_preV (ci := 4) hw hK hE rfl hk) rfl rfl hl.1 rfl (lv_room (by first | exact Nat.le_of_ble_eq_true rfl | simp [va_rf_cat, xcat_i, xcat_l, xcat_r, xcat_n])) dPL_stock_95 ⟨(Nat.le_of_ble_eq_true rfl), (Nat.le_of_ble_eq_true rfl)⟩) hw (fun r13 w14 H locs h hw => ?_)
                  clear hcall
                  refine lv_if_ne (tgt := 104) hx hb dPL_stock_98 rfl (fun hc => ?_) (fun hc => ?_)
                  · replace h := h.1 hc
                    refine xw_new (ci := 2) (fs := [.int 0, .null, .null, .int 0, .int 0, .int 0]) (C := RBA) (T := TBA) (N := 6) hx hb hts inBA tyBA tyBA_ok hown (hts _ mw_112) (hts _ mw_113) (hts _ mw_110) hK hw rfl (by decide +kernel) (Nat.le_of_ble_eq_true rfl) (Nat.le_of_ble_eq_true rfl) dPL_stock_104 (fun q15 H hq hqA hw => ?_)
                    replace h := h _ ⟨hq, xq6 hE hqA⟩ _ rfl
                    generalize va_up w14 q15 (some (.inr (2, [.int 0, .null, .null, .int 0, .int 0, .int 0]))) = w16 at hw h
                    refine lv_dup hx hb dPL_stock_107 rfl ?_
                    refine lv_aload_n hx hb dPL_stock_108 rfl (lv_at hl 3 rfl) ?_
                    obtain ⟨v17, hv, h⟩ := h
                    refine xw_getI (C := RPL) (T := TPL) (N := 4) (ref := RPL) hx hb hts inPL hown hK hw rfl 2 (by decide) (hts _ mw_15) (fun _ h9 => h9) hv dPL_stock_109 ?_
                    have hcall := h
                    clear h
                    refine xw_callv (va_runI (As := [.int v17]) (rest := [.ref q15]) ⟨hx, hb, hml, hown, hts⟩ (c_BA_init l D E A _ w16 q15 v17 hcall) (cwI 1 hts (xG_I mw_109) rfl rfl rfl (hts _ mw_110) (hts _ mw_108) (hts _ mw_111) rfl (by decide +kernel) ⟨(Nat.le_of_ble_eq_true rfl), (Nat.le_of_ble_eq_true rfl)⟩) (xw_preS hw hK hE) rfl rfl hl.1 rfl (lv_room (by first | exact Nat.le_of_ble_eq_true rfl | simp [va_rf_cat, xcat_i, xcat_l, xcat_r, xcat_n])) dPL_stock_112 ⟨(Nat.le_of_ble_eq_true rfl), (Nat.le_of_ble_eq_true rfl)⟩) hw (fun w19 H locs h hw => ?_)
                    clear hcall
                    refine lv_astore (i := 9) (lv' := [(9, .ref q15), (8, va_rf r9), (7, va_rf r7), (5, .long (p2 - r5)), (0, .ref h0), (1, .int p0), (2, .int p1), (3, .long p2)]) hx hb dPL_stock_115 hl (by decide) (by first | rfl | simp [va_rf_cat, xcat_i, xcat_l, xcat_r, xcat_n]) (fun ls hl => ?_)
                    refine lv_aload hx hb dPL_stock_117 (lv_at hl 0 rfl) ?_
                    refine xl_aload hx hb dPL_stock_119 (lv_at hl 2 rfl) ?_
                    refine lv_lload hx hb dPL_stock_121 (lv_at hl 3 rfl) ?_
                    obtain ⟨⟨fs, hk⟩, h⟩ := h
                    have hcall := h
                    clear h
                    refine xw_callv (va_runV (As := [va_rf r7, .long (p2 - r5)]) (rest := []) ⟨hx, hb, hml, hown, hts⟩ (c_BA_addRow l D E A _ w19 q15 r7 (p2 - r5) hcall) (cwV 2 hts (xG_V mw_153 mw_154 mw_155 mw_110 mw_156) rfl rfl rfl (by decide +kernel) ⟨(Nat.le_of_ble_eq_true rfl), (Nat.le_of_ble_eq_true rfl)⟩) (xw_preV (ci := 2) hw hK hE rfl hk) rfl rfl hl.1 rfl (lv_room (by first | exact Nat.le_of_ble_eq_true rfl | simp [va_rf_cat, xcat_i, xcat_l, xcat_r, xcat_n])) dPL_stock_123 ⟨(Nat.le_of_ble_eq_true rfl), (Nat.le_of_ble_eq_true rfl)⟩) hw (fun w21 H locs h hw => ?_)
                    clear hcall
                    refine lv_aload hx hb dPL_stock_126 (lv_at hl 0 rfl) ?_
                    refine xl_aload hx hb dPL_stock_128 (lv_at hl 1 rfl) ?_
                    refine lv_lload hx hb dPL_stock_130 (lv_at hl 3 rfl) ?_
                    refine lv_lneg hx hb dPL_stock_132 ?_
                    obtain ⟨⟨fs, hk⟩, h⟩ := h
                    have hcall := h
                    clear h
                    refine xw_callv (va_runV (As := [va_rf r9, .long (-(p2 - r5))]) (rest := []) ⟨hx, hb, hml, hown, hts⟩ (c_BA_addRow l D E A _ w21 q15 r9 (-(p2 - r5)) hcall) (cwV 2 hts (xG_V mw_153 mw_154 mw_155 mw_110 mw_156) rfl rfl rfl (by decide +kernel) ⟨(Nat.le_of_ble_eq_true rfl), (Nat.le_of_ble_eq_true rfl)⟩) (xw_preV (ci := 2) hw hK hE rfl hk) rfl rfl hl.1 rfl (lv_room (by first | exact Nat.le_of_ble_eq_true rfl | simp [va_rf_cat, xcat_i, xcat_l, xcat_r, xcat_n])) dPL_stock_133 ⟨(Nat.le_of_ble_eq_true rfl), (Nat.le_of_ble_eq_true rfl)⟩) hw (fun w23 H locs h hw => ?_)
                    clear hcall
                    refine lv_aload_n hx hb dPL_stock_136 rfl (lv_at hl 4 rfl) ?_
                    obtain ⟨v24, hv, h⟩ := h
                    refine xw_getR (C := RPL) (T := TPL) (N := 4) (ref := RPL) hx hb hts inPL hown hK hw rfl 1 (by decide) (hts _ mw_16) (fun _ h9 => h9) hv dPL_stock_137 ?_
                    refine lv_aload hx hb dPL_stock_140 (lv_at hl 0 rfl) ?_
                    obtain ⟨a25, rfl, h⟩ := h
                    obtain ⟨⟨fs, hk⟩, h⟩ := h
                    have hcall := h
                    clear h
                    refine xw_calli (va_runV (As := [.ref q15]) (rest := []) ⟨hx, hb, hml, hown, hts⟩ (c_AL_add l D E A _ w23 a25 (some q15) hcall) (cwV 1 hts (xG_V mw_82 mw_83 mw_84 mw_19 mw_85) rfl rfl rfl (by decide +kernel) ⟨(Nat.le_of_ble_eq_true rfl), (Nat.le_of_ble_eq_true rfl)⟩) (xw_preV (ci := 0) hw hK hE rfl hk) rfl rfl hl.1 rfl (lv_room (by first | exact Nat.le_of_ble_eq_true rfl | simp [va_rf_cat, xcat_i, xcat_l, xcat_r, xcat_n])) dPL_stock_142 ⟨(Nat.le_of_ble_eq_true rfl), (Nat.le_of_ble_eq_true rfl)⟩) hw (fun r26 w27 H locs h hw => ?_)
                    clear hcall
                    refine lv_pop hx hb dPL_stock_145 rfl ?_
                    refine lv_aload_n hx hb dPL_stock_146 rfl (lv_at hl 4 rfl) ?_
                    refine lv_aload hx hb dPL_stock_147 (lv_at hl 0 rfl) ?_
                    obtain ⟨⟨fs, hk⟩, h⟩ := h
                    have hcall := h
                    clear h
                    refine xw_callv (va_runV (As := [.ref q15]) (rest := []) ⟨hx, hb, hml, hown, hts⟩ (c_PL_enterIntoBooks l D E A _ w27 h0 (some q15) hcall) (cwV 1 hts (xG_V mw_202 mw_203 mw_204 mw_95 mw_205) rfl rfl rfl (by decide +kernel) ⟨(Nat.le_of_ble_eq_true rfl), (Nat.le_of_ble_eq_true rfl)⟩) (xw_preV (ci := 4) hw hK hE rfl hk) rfl rfl hl.1 rfl (lv_room (by first | exact Nat.le_of_ble_eq_true rfl | simp [va_rf_cat, xcat_i, xcat_l, xcat_r, xcat_n])) dPL_stock_149 ⟨(Nat.le_of_ble_eq_true rfl), (Nat.le_of_ble_eq_true rfl)⟩) hw (fun w29 H locs h hw => ?_)
                    clear hcall
                    refine lv_lload hx hb dPL_stock_152 (lv_at hl 3 rfl) ?_
                    refine lv_l2i hx hb dPL_stock_154 rfl ?_
                    refine W.widen (k := 7) (n := 1111) (Nat.le_of_ble_eq_true rfl) (Nat.le_of_ble_eq_true rfl) ?_
                    exact xw_iret hx hb hr hlocks hw h dPL_stock_155
                  · replace h := h.2 hc
                    refine lv_ldc (v := (-2000000004)) hx hb hown (hts _ mw_92) dPL_stock_101 ?_
                    refine W.widen (k := 7) (n := 1111) (Nat.le_of_ble_eq_true rfl) (Nat.le_of_ble_eq_true rfl) ?_
                    exact xw_iret hx hb hr hlocks hw h dPL_stock_103
                · replace h := h.2 hc
                  refine lv_ldc (v := (-2000000003)) hx hb hown (hts _ mw_118) dPL_stock_91 ?_
                  refine W.widen (k := 7) (n := 1111) (Nat.le_of_ble_eq_true rfl) (Nat.le_of_ble_eq_true rfl) ?_
                  exact xw_iret hx hb hr hlocks hw h dPL_stock_93
          · replace h := h.2 hc
            refine lv_iconst (v := 0) hx hb dPL_stock_49 (by decide) ?_
            refine W.widen (k := 7) (n := 1111) (Nat.le_of_ble_eq_true rfl) (Nat.le_of_ble_eq_true rfl) ?_
            exact xw_iret hx hb hr hlocks hw h dPL_stock_50
        · replace h := h.2 hc
          refine lv_ldc (v := (-2000000002)) hx hb hown (hts _ mw_77) dPL_stock_29 ?_
          refine W.widen (k := 7) (n := 1111) (Nat.le_of_ble_eq_true rfl) (Nat.le_of_ble_eq_true rfl) ?_
          exact xw_iret hx hb hr hlocks hw h dPL_stock_31
def wp_PL_limit (E : xE_T) (post : Int32 → xw_T → Prop) (w : xw_T) (h0 : Nat) (p0 : Int32) (p1 : Int64) : Prop := (∃ fs, w h0 = some (.inr (4, fs))) ∧ wp_PL_findAccount E (fun r1 w2 => (¬ r1 = none → (wp_PL_isWithin E (fun r3 w4 => (¬ r3 = 0 → (∃ a5 : Nat, r1 = some a5 ∧ (∃ v6, xgI w4 a5 1 2 = some v6 ∧ ((∃ v0, xg w4 a5 1 2 = some v0) ∧ ∀ w7, w7 = xp w4 a5 2 (.int p1.toInt32) → (post v6 w7))))) ∧ (r3 = 0 → (post (-2000000002) w4))) w2 p1 0 100000000)) ∧ (r1 = none → (post (-2000000001) w2))) w h0 p0
set_option maxHeartbeats 4000000 in
set_option maxRecDepth 100000 in
theorem c_PL_limit (l : Launch) (D : va_G) (E : xE_T) (A : Nat → Prop) (post : Int32 → xw_T → Prop) (w : xw_T) (h0 : Nat) (p0 : Int32) (p1 : Int64) (h : wp_PL_limit E post w h0 p0 p1) : Met l yPL_limit (xW yPL_limit cPL_limit 6 (some (.int))) ({ frames := 4, cells := 0, slots := 0, locals := 85 } : Room) (va_Pc [.ref h0, .int p0, .long p1] (xP D E A w)) (va_Qi post (xB D A) A) 0 0 A := by
  refine Met.ofW (cc := cPL_limit) (maxL := 6) (ret := (some (.int))) (by decide) rfl ?_
  intro p e s m args below meth c s₁ B hml hv
  obtain ⟨rfl, hw, hK, hE⟩ := hv
  have hx := B.exec
  have hb := B.bytes
  have hr := B.returns
  have hts : ∀ w ∈ xTB, w.before _ s = true := fun w hw => atoms_spec (ws := xW yPL_limit cPL_limit 6 (some (.int))) B.pre w (List.mem_cons_of_mem _ hw)
  have hown : s.vm.findClass RPL = some m.cls := findClass_of_methodNamed B.named
  have hlocks := B.notSynchronized
  have hw : xw_S D vwCl A s.heap w s.heap [] := xw_S0 hw
  refine xl_start (lvs := [(0, .ref h0), (1, .int p0), (2, .long p1)]) (by first | exact Nat.le_of_ble_eq_true rfl | simp [lg_sl, va_rf_cat, xcat_i, xcat_l, xcat_r, xcat_n]) (by first | rfl | simp [lv_args, va_rf_cat, xcat_i, xcat_l, xcat_r, xcat_n]) (fun ls hl => ?_)
  unfold wp_PL_limit at h
  refine lv_aload_n hx hb dPL_limit_0 rfl (lv_at hl 0 rfl) ?_
  refine lv_iload_n hx hb dPL_limit_1 rfl (lv_at hl 1 rfl) ?_
  obtain ⟨⟨fs, hk⟩, h⟩ := h
  have hcall := h
  clear h
  refine xw_callq (va_runV (As := [.int p0]) (rest := []) ⟨hx, hb, hml, hown, hts⟩ (c_PL_findAccount l D E A _ w h0 p0 hcall) (cwV 1 hts (xG_V mw_167 mw_168 mw_169 mw_95 mw_170) rfl rfl rfl (by decide +kernel) ⟨(Nat.le_of_ble_eq_true rfl), (Nat.le_of_ble_eq_true rfl)⟩) (xw_preV (ci := 4) hw hK hE rfl hk) rfl rfl hl.1 rfl (lv_room (by first | exact Nat.le_of_ble_eq_true rfl | simp [va_rf_cat, xcat_i, xcat_l, xcat_r, xcat_n])) dPL_limit_2 ⟨(Nat.le_of_ble_eq_true rfl), (Nat.le_of_ble_eq_true rfl)⟩) hw (fun r1 w2 H locs h hw => ?_)
  clear hcall
  refine xl_astore (i := 4) (lv' := [(4, va_rf r1), (0, .ref h0), (1, .int p0), (2, .long p1)]) hx hb dPL_limit_5 hl (by decide) (by first | rfl | simp [va_rf_cat, xcat_i, xcat_l, xcat_r, xcat_n]) (fun ls hl => ?_)
  refine xl_aload hx hb dPL_limit_7 (lv_at hl 0 rfl) ?_
  refine xl_ifnonnull (tgt := 15) hx hb dPL_limit_9 rfl (fun hc => ?_) (fun hc => ?_)
  · replace h := h.1 hc
    refine lv_lload_n hx hb dPL_limit_15 rfl (lv_at hl 3 rfl) ?_
    refine lv_lconst (v := 0) hx hb dPL_limit_16 (by decide) ?_
    refine lv_ldc2 (v := 100000000) hx hb hown (hts _ mw_157) dPL_limit_17 ?_
    have hcall := h
    clear h
    refine xw_calli (va_runS (As := [.long p1, .long 0, .long 100000000]) (rest := []) ⟨hx, hb, hml, hown, hts⟩ (c_PL_isWithin l D E A _ w2 p1 0 100000000 hcall) (va_cwS 3 hts (xG_S mw_97 mw_98 mw_95 mw_99) rfl rfl rfl (by decide +kernel) ⟨(Nat.le_of_ble_eq_true rfl), (Nat.le_of_ble_eq_true rfl)⟩) (xw_preS hw hK hE) rfl rfl hl.1 rfl (lv_room (by first | exact Nat.le_of_ble_eq_true rfl | simp [va_rf_cat, xcat_i, xcat_l, xcat_r, xcat_n])) dPL_limit_20 ⟨(Nat.le_of_ble_eq_true rfl), (Nat.le_of_ble_eq_true rfl)⟩) hw (fun r3 w4 H locs h hw => ?_)
    clear hcall
    refine lv_if_ne (tgt := 29) hx hb dPL_limit_23 rfl (fun hc => ?_) (fun hc => ?_)
    · replace h := h.1 hc
      refine xl_aload hx hb dPL_limit_29 (lv_at hl 0 rfl) ?_
      obtain ⟨a5, rfl, h⟩ := h
      obtain ⟨v6, hv, h⟩ := h
      refine xw_getI (C := RAC) (T := TAC) (N := 4) (ref := RAC) hx hb hts inAC hown hK hw rfl 2 (by decide) (hts _ mw_231) (fun _ h9 => h9) hv dPL_limit_31 ?_
      refine lv_istore (i := 5) (lv' := [(5, .int v6), (4, .ref a5), (0, .ref h0), (1, .int p0), (2, .long p1)]) hx hb dPL_limit_34 hl (by decide) (by first | rfl | simp [va_rf_cat, xcat_i, xcat_l, xcat_r, xcat_n]) (fun ls hl => ?_)
      refine lv_aload hx hb dPL_limit_36 (lv_at hl 1 rfl) ?_
      refine lv_lload_n hx hb dPL_limit_38 rfl (lv_at hl 4 rfl) ?_
      refine lv_l2i hx hb dPL_limit_39 rfl ?_
      obtain ⟨hv, h⟩ := h
      refine xw_put (ty := (.int)) (C := RAC) (T := TAC) (N := 4) (ref := RAC) hx hb hts inAC tyAC tyAC_ok nmAC hown hK hw rfl 2 (by decide) (hts _ mw_231) (fun _ h9 => h9) rfl (by decide +kernel) rfl rfl hv dPL_limit_40 (fun H locs hw => ?_)
      replace h := h _ rfl
      generalize xp w4 a5 2 (.int p1.toInt32) = w7 at hw h
      refine lv_iload hx hb dPL_limit_43 (lv_at hl 0 rfl) ?_
      refine W.widen (k := 0) (n := 0) (Nat.le_of_ble_eq_true rfl) (Nat.le_of_ble_eq_true rfl) ?_
      exact xw_iret hx hb hr hlocks hw h dPL_limit_45
    · replace h := h.2 hc
      refine lv_ldc (v := (-2000000002)) hx hb hown (hts _ mw_77) dPL_limit_26 ?_
      refine W.widen (k := 0) (n := 0) (Nat.le_of_ble_eq_true rfl) (Nat.le_of_ble_eq_true rfl) ?_
      exact xw_iret hx hb hr hlocks hw h dPL_limit_28
  · replace h := h.2 hc
    refine lv_ldc (v := (-2000000001)) hx hb hown (hts _ mw_232) dPL_limit_12 ?_
    refine W.widen (k := 0) (n := 0) (Nat.le_of_ble_eq_true rfl) (Nat.le_of_ble_eq_true rfl) ?_
    exact xw_iret hx hb hr hlocks hw h dPL_limit_14
def wp_PL_fails (E : xE_T) (post : Int32 → xw_T → Prop) (w : xw_T) (h0 : Nat) (p0 : Int32) (p1 : Int32) : Prop := (∃ fs, w h0 = some (.inr (4, fs))) ∧ wp_PL_findBatch E (fun r1 w2 => (r1 = none → (post 0 w2)) ∧ (¬ r1 = none → (∃ a3 : Nat, r1 = some a3 ∧ ((∃ fs, w2 a3 = some (.inr (2, fs))) ∧ wp_BA_isOpen E (fun r4 w5 => (r4 = 0 → (post 0 w5)) ∧ (¬ r4 = 0 → (∃ v6, xgI w5 a3 2 3 = some v6 ∧ ((¬ v6 = p1 → ((narrow (.boolean) (.int p1) = .int p1 ∧ fits (.boolean) (.int p1) = true) ∧ (∃ v0, xg w5 a3 2 3 = some v0) ∧ ∀ w7, w7 = xp w5 a3 3 (.int p1) → (post 1 w7))) ∧ (v6 = p1 → (post 0 w5)))))) w2 a3)))) w h0 p0
set_option maxHeartbeats 4000000 in
set_option maxRecDepth 100000 in
theorem c_PL_fails (l : Launch) (D : va_G) (E : xE_T) (A : Nat → Prop) (post : Int32 → xw_T → Prop) (w : xw_T) (h0 : Nat) (p0 : Int32) (p1 : Int32) (h : wp_PL_fails E post w h0 p0 p1) : Met l yPL_fails (xW yPL_fails cPL_fails 4 (some (.boolean))) ({ frames := 4, cells := 0, slots := 0, locals := 85 } : Room) (va_Pc [.ref h0, .int p0, .int p1] (xP D E A w)) (va_Qi post (xB D A) A) 0 0 A := by
  refine Met.ofW (cc := cPL_fails) (maxL := 4) (ret := (some (.boolean))) (by decide) rfl ?_
  intro p e s m args below meth c s₁ B hml hv
  obtain ⟨rfl, hw, hK, hE⟩ := hv
  have hx := B.exec
  have hb := B.bytes
  have hr := B.returns
  have hts : ∀ w ∈ xTB, w.before _ s = true := fun w hw => atoms_spec (ws := xW yPL_fails cPL_fails 4 (some (.boolean))) B.pre w (List.mem_cons_of_mem _ hw)
  have hown : s.vm.findClass RPL = some m.cls := findClass_of_methodNamed B.named
  have hlocks := B.notSynchronized
  have hw : xw_S D vwCl A s.heap w s.heap [] := xw_S0 hw
  refine xl_start (lvs := [(0, .ref h0), (1, .int p0), (2, .int p1)]) (by first | exact Nat.le_of_ble_eq_true rfl | simp [lg_sl, va_rf_cat, xcat_i, xcat_l, xcat_r, xcat_n]) (by first | rfl | simp [lv_args, va_rf_cat, xcat_i, xcat_l, xcat_r, xcat_n]) (fun ls hl => ?_)
  unfold wp_PL_fails at h
  refine lv_aload_n hx hb dPL_fails_0 rfl (lv_at hl 0 rfl) ?_
  refine lv_iload_n hx hb dPL_fails_1 rfl (lv_at hl 1 rfl) ?_
  obtain ⟨⟨fs, hk⟩, h⟩ := h
  have hcall := h
  clear h
  refine xw_callq (va_runV (As := [.int p0]) (rest := []) ⟨hx, hb, hml, hown, hts⟩ (c_PL_findBatch l D E A _ w h0 p0 hcall) (cwV 1 hts (xG_V mw_171 mw_172 mw_173 mw_95 mw_174) rfl rfl rfl (by decide +kernel) ⟨(Nat.le_of_ble_eq_true rfl), (Nat.le_of_ble_eq_true rfl)⟩) (xw_preV (ci := 4) hw hK hE rfl hk) rfl rfl hl.1 rfl (lv_room (by first | exact Nat.le_of_ble_eq_true rfl | simp [va_rf_cat, xcat_i, xcat_l, xcat_r, xcat_n])) dPL_fails_2 ⟨(Nat.le_of_ble_eq_true rfl), (Nat.le_of_ble_eq_true rfl)⟩) hw (fun r1 w2 H locs h hw => ?_)
  clear hcall
  refine xl_astore_n (i := 3) (lv' := [(3, va_rf r1), (0, .ref h0), (1, .int p0), (2, .int p1)]) hx hb dPL_fails_5 rfl hl (by decide) (by first | rfl | simp [va_rf_cat, xcat_i, xcat_l, xcat_r, xcat_n]) (fun ls hl => ?_)
  refine xl_aload_n hx hb dPL_fails_6 rfl (lv_at hl 0 rfl) ?_
  refine xl_ifnull (tgt := 25) hx hb dPL_fails_7 rfl (fun hc => ?_) (fun hc => ?_)
  · replace h := h.1 hc
    refine lv_iconst (v := 0) hx hb dPL_fails_25 (by decide) ?_
    refine W.widen (k := 0) (n := 0) (Nat.le_of_ble_eq_true rfl) (Nat.le_of_ble_eq_true rfl) ?_
    exact xw_zret (by decide) hx hb hr hlocks hw h dPL_fails_26
  · replace h := h.2 hc
    refine xl_aload_n hx hb dPL_fails_10 rfl (lv_at hl 0 rfl) ?_
    obtain ⟨a3, rfl, h⟩ := h
    obtain ⟨⟨fs, hk⟩, h⟩ := h
    have hcall := h
    clear h
    refine xw_calli (va_runV (As := []) (rest := []) ⟨hx, hb, hml, hown, hts⟩ (c_BA_isOpen l D E A _ w2 a3 hcall) (cwV 0 hts (xG_V mw_163 mw_164 mw_165 mw_110 mw_166) rfl rfl rfl (by decide +kernel) ⟨(Nat.le_of_ble_eq_true rfl), (Nat.le_of_ble_eq_true rfl)⟩) (xw_preV (ci := 2) hw hK hE rfl hk) rfl rfl hl.1 rfl (lv_room (by first | exact Nat.le_of_ble_eq_true rfl | simp [va_rf_cat, xcat_i, xcat_l, xcat_r, xcat_n])) dPL_fails_11 ⟨(Nat.le_of_ble_eq_true rfl), (Nat.le_of_ble_eq_true rfl)⟩) hw (fun r4 w5 H locs h hw => ?_)
    clear hcall
    refine lv_if_eq (tgt := 25) hx hb dPL_fails_14 rfl (fun hc => ?_) (fun hc => ?_)
    · replace h := h.1 hc
      refine lv_iconst (v := 0) hx hb dPL_fails_25 (by decide) ?_
      refine W.widen (k := 0) (n := 0) (Nat.le_of_ble_eq_true rfl) (Nat.le_of_ble_eq_true rfl) ?_
      exact xw_zret (by decide) hx hb hr hlocks hw h dPL_fails_26
    · replace h := h.2 hc
      refine lv_aload_n hx hb dPL_fails_17 rfl (lv_at hl 0 rfl) ?_
      obtain ⟨v6, hv, h⟩ := h
      refine xw_getI (C := RBA) (T := TBA) (N := 6) (ref := RBA) hx hb hts inBA hown hK hw rfl 3 (by decide) (hts _ mw_233) (fun _ h9 => h9) hv dPL_fails_18 ?_
      refine lv_iload_n hx hb dPL_fails_21 rfl (lv_at hl 3 rfl) ?_
      refine lv_icmp_ne (tgt := 27) hx hb dPL_fails_22 rfl (fun hc => ?_) (fun hc => ?_)
      · replace h := h.1 hc
        refine lv_aload_n hx hb dPL_fails_27 rfl (lv_at hl 0 rfl) ?_
        refine lv_iload_n hx hb dPL_fails_28 rfl (lv_at hl 3 rfl) ?_
        obtain ⟨hnf, h⟩ := h
        obtain ⟨hv, h⟩ := h
        refine xw_put (ty := (.boolean)) (C := RBA) (T := TBA) (N := 6) (ref := RBA) hx hb hts inBA tyBA tyBA_ok nmBA hown hK hw rfl 3 (by decide) (hts _ mw_233) (fun _ h9 => h9) rfl (by decide +kernel) hnf.1 hnf.2 hv dPL_fails_29 (fun H locs hw => ?_)
        replace h := h _ rfl
        generalize xp w5 a3 3 (.int p1) = w7 at hw h
        refine lv_iconst (v := 1) hx hb dPL_fails_32 (by decide) ?_
        refine W.widen (k := 0) (n := 0) (Nat.le_of_ble_eq_true rfl) (Nat.le_of_ble_eq_true rfl) ?_
        exact xw_zret (by decide) hx hb hr hlocks hw h dPL_fails_33
      · replace h := h.2 hc
        refine lv_iconst (v := 0) hx hb dPL_fails_25 (by decide) ?_
        refine W.widen (k := 0) (n := 0) (Nat.le_of_ble_eq_true rfl) (Nat.le_of_ble_eq_true rfl) ?_
        exact xw_zret (by decide) hx hb hr hlocks hw h dPL_fails_26
def wl_BA_takenFromAccount_5 (E : xE_T) (post : Int64 → xw_T → Prop) : Nat → xw_T → Nat → Option Nat → Int64 → Int32 → Prop
  | 0 => fun _ _ _ _ _ => False
  | n5 + 1 => fun w x0 x1 x2 x4 => ∃ v1, xgR w x0 2 1 = some v1 ∧ (∃ a2 : Nat, v1 = some a2 ∧ ((∃ fs, w a2 = some (.inr (0, fs))) ∧ wp_AL_size E (fun r3 w4 => (r3 ≤ x4 → (post x2 w4)) ∧ (¬ r3 ≤ x4 → (∃ v5, xgR w4 x0 2 1 = some v5 ∧ (∃ a6 : Nat, v5 = some a6 ∧ ((∃ fs, w4 a6 = some (.inr (0, fs))) ∧ wp_AL_get E (fun r7 w8 => ∃ a9 : Nat, r7 = some a9 ∧ ((∃ fs, w8 a9 = some (.inr (3, fs))) ∧ (∃ v10, xgR w8 a9 3 0 = some v10 ∧ ((¬ v10 = x1 → (wl_BA_takenFromAccount_5 E post n5 w8 x0 x1 x2 (x4 + 1))) ∧ (v10 = x1 → (∃ v11, xgL w8 a9 3 1 = some v11 ∧ ((0 ≤ v11 → (wl_BA_takenFromAccount_5 E post n5 w8 x0 x1 x2 (x4 + 1))) ∧ (¬ 0 ≤ v11 → (∃ v12, xgL w8 a9 3 1 = some v12 ∧ (wl_BA_takenFromAccount_5 E post n5 w8 x0 x1 (x2 - v12) (x4 + 1))))))))))) w4 a6 x4))))) w a2))
def wp_BA_takenFromAccount (E : xE_T) (post : Int64 → xw_T → Prop) (w : xw_T) (h0 : Nat) (p0 : Option Nat) : Prop := ∃ n5, wl_BA_takenFromAccount_5 E post n5 w h0 p0 0 0
set_option maxHeartbeats 4000000 in
set_option maxRecDepth 100000 in
theorem c_BA_takenFromAccount (l : Launch) (D : va_G) (E : xE_T) (A : Nat → Prop) (post : Int64 → xw_T → Prop) (w : xw_T) (h0 : Nat) (p0 : Option Nat) (h : wp_BA_takenFromAccount E post w h0 p0) : Met l yBA_takenFromAccount (xW yBA_takenFromAccount cBA_takenFromAccount 6 (some (.long))) ({ frames := 3, cells := 0, slots := 0, locals := 64 } : Room) (va_Pc [.ref h0, va_rf p0] (xP D E A w)) (va_Ql post (xB D A) A) 0 0 A := by
  refine Met.ofW (cc := cBA_takenFromAccount) (maxL := 6) (ret := (some (.long))) (by decide) rfl ?_
  intro p e s m args below meth c s₁ B hml hv
  obtain ⟨rfl, hw, hK, hE⟩ := hv
  have hx := B.exec
  have hb := B.bytes
  have hr := B.returns
  have hts : ∀ w ∈ xTB, w.before _ s = true := fun w hw => atoms_spec (ws := xW yBA_takenFromAccount cBA_takenFromAccount 6 (some (.long))) B.pre w (List.mem_cons_of_mem _ hw)
  have hown : s.vm.findClass RBA = some m.cls := findClass_of_methodNamed B.named
  have hlocks := B.notSynchronized
  have hw : xw_S D vwCl A s.heap w s.heap [] := xw_S0 hw
  have lo_5 : ∀ (n5 : Nat) (w : xw_T) (x0 : Nat) (x1 : Option Nat) (x2 : Int64) (x4 : Int32) (H : Heap) (locs : List Loc) (ls : Array Slot), lv_has ls 6 [(0, .ref x0), (1, va_rf x1), (2, .long x2), (4, .int x4)] → xw_S D vwCl A s.heap w H locs → wl_BA_takenFromAccount_5 E post n5 w x0 x1 x2 x4 → W p l e (headSpec (xW yBA_takenFromAccount cBA_takenFromAccount 6 (some (.long))) ({ frames := 3, cells := 0, slots := 0, locals := 64 } : Room)).room s m ([.ref h0, va_rf p0] : List Value).toArray below meth c H locs 0 0 (MQ below (va_Ql post (xB D A) A) ([.ref h0, va_rf p0] : List Value).toArray s 0 0 A) (F0 m 5 ls []) := by
    intro n5
    induction n5 with
    | zero => intro w x0 x1 x2 x4 H locs ls hl hw h; exact h.elim
    | succ n5 ih5 =>
      intro w x0 x1 x2 x4 H locs ls hl hw h
      dsimp only [wl_BA_takenFromAccount_5] at h
      refine lv_iload hx hb dBA_takenFromAccount_5 (lv_at hl 3 rfl) ?_
      refine lv_aload_n hx hb dBA_takenFromAccount_7 rfl (lv_at hl 0 rfl) ?_
      obtain ⟨v1, hv, h⟩ := h
      refine xw_getR (C := RBA) (T := TBA) (N := 6) (ref := RBA) hx hb hts inBA hown hK hw rfl 1 (by decide) (hts _ mw_103) (fun _ h9 => h9) hv dBA_takenFromAccount_8 ?_
      obtain ⟨a2, rfl, h⟩ := h
      obtain ⟨⟨fs, hk⟩, h⟩ := h
      have hcall := h
      clear h
      refine xw_calli (va_runV (As := []) (rest := [.int x4]) ⟨hx, hb, hml, hown, hts⟩ (c_AL_size l D E A _ w a2 hcall) (cwV 0 hts (xG_V mw_142 mw_79 mw_80 mw_19 mw_81) rfl rfl rfl (by decide +kernel) ⟨(Nat.le_of_ble_eq_true rfl), (Nat.le_of_ble_eq_true rfl)⟩) (xw_preV (ci := 0) hw hK hE rfl hk) rfl rfl hl.1 rfl (lv_room (by first | exact Nat.le_of_ble_eq_true rfl | simp [va_rf_cat, xcat_i, xcat_l, xcat_r, xcat_n])) dBA_takenFromAccount_11 ⟨(Nat.le_of_ble_eq_true rfl), (Nat.le_of_ble_eq_true rfl)⟩) hw (fun r3 w4 H locs h hw => ?_)
      clear hcall
      refine lv_icmp_ge (tgt := 64) hx hb dBA_takenFromAccount_14 rfl (fun hc => ?_) (fun hc => ?_)
      · replace h := h.1 hc
        refine lv_lload_n hx hb dBA_takenFromAccount_64 rfl (lv_at hl 2 rfl) ?_
        refine W.widen (k := 0) (n := 0) (Nat.le_of_ble_eq_true rfl) (Nat.le_of_ble_eq_true rfl) ?_
        exact xw_lret hx hb hr hlocks hw h dBA_takenFromAccount_65
      · replace h := h.2 hc
        refine lv_aload_n hx hb dBA_takenFromAccount_17 rfl (lv_at hl 0 rfl) ?_
        obtain ⟨v5, hv, h⟩ := h
        refine xw_getR (C := RBA) (T := TBA) (N := 6) (ref := RBA) hx hb hts inBA hown hK hw rfl 1 (by decide) (hts _ mw_103) (fun _ h9 => h9) hv dBA_takenFromAccount_18 ?_
        refine lv_iload hx hb dBA_takenFromAccount_21 (lv_at hl 3 rfl) ?_
        obtain ⟨a6, rfl, h⟩ := h
        obtain ⟨⟨fs, hk⟩, h⟩ := h
        have hcall := h
        clear h
        refine xw_callq (va_runV (As := [.int x4]) (rest := []) ⟨hx, hb, hml, hown, hts⟩ (c_AL_get l D E A _ w4 a6 x4 hcall) (cwV 1 hts (xG_V mw_177 mw_139 mw_140 mw_19 mw_141) rfl rfl rfl (by decide +kernel) ⟨(Nat.le_of_ble_eq_true rfl), (Nat.le_of_ble_eq_true rfl)⟩) (xw_preV (ci := 0) hw hK hE rfl hk) rfl rfl hl.1 rfl (lv_room (by first | exact Nat.le_of_ble_eq_true rfl | simp [va_rf_cat, xcat_i, xcat_l, xcat_r, xcat_n])) dBA_takenFromAccount_23 ⟨(Nat.le_of_ble_eq_true rfl), (Nat.le_of_ble_eq_true rfl)⟩) hw (fun r7 w8 H locs h hw => ?_)
        clear hcall
        obtain ⟨a9, rfl, h⟩ := h
        obtain ⟨⟨fs, hk⟩, h⟩ := h
        refine va_castS hx hb hown (hts _ mw_151) (hK.1 3 _ rfl).2 (xw_recv hK hw (ci := 3) rfl hk) dBA_takenFromAccount_26 ?_
        refine lv_astore (i := 5) (lv' := [(5, .ref a9), (0, .ref x0), (1, va_rf x1), (2, .long x2), (4, .int x4)]) hx hb dBA_takenFromAccount_29 hl (by decide) (by first | rfl | simp [va_rf_cat, xcat_i, xcat_l, xcat_r, xcat_n]) (fun ls hl => ?_)
        refine lv_aload hx hb dBA_takenFromAccount_31 (lv_at hl 0 rfl) ?_
        obtain ⟨v10, hv, h⟩ := h
        refine xw_getR (C := RRW) (T := TRW) (N := 2) (ref := RRW) hx hb hts inRW hown hK hw rfl 0 (by decide) (hts _ mw_176) (fun _ h9 => h9) hv dBA_takenFromAccount_33 ?_
        refine xl_aload_n hx hb dBA_takenFromAccount_36 rfl (lv_at hl 2 rfl) ?_
        refine lv_acmp_ne (rx := v10) (ry := x1) (tgt := 58) hx hb dBA_takenFromAccount_37 rfl (fun hc => ?_) (fun hc => ?_)
        · replace h := h.1 hc
          refine lv_iinc (k := 4) (v := x4 + 1) (lv' := [(4, .int (x4 + 1)), (5, .ref a9), (0, .ref x0), (1, va_rf x1), (2, .long x2)]) hx hb dBA_takenFromAccount_58 hl rfl rfl (by decide) (by first | rfl | simp [va_rf_cat, xcat_i, xcat_l, xcat_r, xcat_n]) (fun ls hl => ?_)
          refine lv_goto (tgt := 5) hx hb dBA_takenFromAccount_61 rfl ?_
          exact ih5 _ x0 x1 x2 (x4 + 1) _ _ _ (lv_sub hl [2, 3, 4, 0] rfl) hw h
        · replace h := h.2 hc
          refine lv_aload hx hb dBA_takenFromAccount_40 (lv_at hl 0 rfl) ?_
          obtain ⟨v11, hv, h⟩ := h
          refine xw_getL (C := RRW) (T := TRW) (N := 2) (ref := RRW) hx hb hts inRW hown hK hw rfl 1 (by decide) (hts _ mw_175) (fun _ h9 => h9) hv dBA_takenFromAccount_42 ?_
          refine lv_lconst (v := 0) hx hb dBA_takenFromAccount_45 (by decide) ?_
          refine xl_lc_ge (tgt := 58) hx hb dBA_takenFromAccount_46 dBA_takenFromAccount_47 rfl (fun hc => ?_) (fun hc => ?_)
          · replace h := h.1 hc
            refine lv_iinc (k := 4) (v := x4 + 1) (lv' := [(4, .int (x4 + 1)), (5, .ref a9), (0, .ref x0), (1, va_rf x1), (2, .long x2)]) hx hb dBA_takenFromAccount_58 hl rfl rfl (by decide) (by first | rfl | simp [va_rf_cat, xcat_i, xcat_l, xcat_r, xcat_n]) (fun ls hl => ?_)
            refine lv_goto (tgt := 5) hx hb dBA_takenFromAccount_61 rfl ?_
            exact ih5 _ x0 x1 x2 (x4 + 1) _ _ _ (lv_sub hl [2, 3, 4, 0] rfl) hw h
          · replace h := h.2 hc
            refine lv_lload_n hx hb dBA_takenFromAccount_50 rfl (lv_at hl 3 rfl) ?_
            refine lv_aload hx hb dBA_takenFromAccount_51 (lv_at hl 0 rfl) ?_
            obtain ⟨v12, hv, h⟩ := h
            refine xw_getL (C := RRW) (T := TRW) (N := 2) (ref := RRW) hx hb hts inRW hown hK hw rfl 1 (by decide) (hts _ mw_175) (fun _ h9 => h9) hv dBA_takenFromAccount_53 ?_
            refine lv_lsub hx hb dBA_takenFromAccount_56 ?_
            refine lv_lstore_n (i := 2) (lv' := [(2, .long (x2 - v12)), (5, .ref a9), (0, .ref x0), (1, va_rf x1), (4, .int x4)]) hx hb dBA_takenFromAccount_57 rfl hl (by decide) (by first | rfl | simp [va_rf_cat, xcat_i, xcat_l, xcat_r, xcat_n]) (fun ls hl => ?_)
            refine lv_iinc (k := 4) (v := x4 + 1) (lv' := [(4, .int (x4 + 1)), (2, .long (x2 - v12)), (5, .ref a9), (0, .ref x0), (1, va_rf x1)]) hx hb dBA_takenFromAccount_58 hl rfl rfl (by decide) (by first | rfl | simp [va_rf_cat, xcat_i, xcat_l, xcat_r, xcat_n]) (fun ls hl => ?_)
            refine lv_goto (tgt := 5) hx hb dBA_takenFromAccount_61 rfl ?_
            exact ih5 _ x0 x1 (x2 - v12) (x4 + 1) _ _ _ (lv_sub hl [3, 4, 1, 0] rfl) hw h
  refine xl_start (lvs := [(0, .ref h0), (1, va_rf p0)]) (by first | exact Nat.le_of_ble_eq_true rfl | simp [lg_sl, va_rf_cat, xcat_i, xcat_l, xcat_r, xcat_n]) (by first | rfl | simp [lv_args, va_rf_cat, xcat_i, xcat_l, xcat_r, xcat_n]) (fun ls hl => ?_)
  unfold wp_BA_takenFromAccount at h
  refine lv_lconst (v := 0) hx hb dBA_takenFromAccount_0 (by decide) ?_
  refine lv_lstore_n (i := 2) (lv' := [(2, .long 0), (0, .ref h0), (1, va_rf p0)]) hx hb dBA_takenFromAccount_1 rfl hl (by decide) (by first | rfl | simp [va_rf_cat, xcat_i, xcat_l, xcat_r, xcat_n]) (fun ls hl => ?_)
  refine lv_iconst (v := 0) hx hb dBA_takenFromAccount_2 (by decide) ?_
  refine lv_istore (i := 4) (lv' := [(4, .int 0), (2, .long 0), (0, .ref h0), (1, va_rf p0)]) hx hb dBA_takenFromAccount_3 hl (by decide) (by first | rfl | simp [va_rf_cat, xcat_i, xcat_l, xcat_r, xcat_n]) (fun ls hl => ?_)
  obtain ⟨n5, h⟩ := h
  refine W.widen (k := 0) (n := 0) (Nat.le_of_ble_eq_true rfl) (Nat.le_of_ble_eq_true rfl) ?_
  exact lo_5 n5 _ h0 p0 0 0 _ _ _ (lv_sub hl [2, 3, 1, 0] rfl) hw h
def wl_PL_hold_19 (E : xE_T) (post : Int64 → xw_T → Prop) : Nat → xw_T → Nat → Option Nat → Int64 → Int32 → Prop
  | 0 => fun _ _ _ _ _ => False
  | n19 + 1 => fun w x0 x2 x3 x5 => ∃ v1, xgR w x0 4 1 = some v1 ∧ (∃ a2 : Nat, v1 = some a2 ∧ ((∃ fs, w a2 = some (.inr (0, fs))) ∧ wp_AL_size E (fun r3 w4 => (r3 ≤ x5 → (post x3 w4)) ∧ (¬ r3 ≤ x5 → (∃ v5, xgR w4 x0 4 1 = some v5 ∧ (∃ a6 : Nat, v5 = some a6 ∧ ((∃ fs, w4 a6 = some (.inr (0, fs))) ∧ wp_AL_get E (fun r7 w8 => ∃ a9 : Nat, r7 = some a9 ∧ ((∃ fs, w8 a9 = some (.inr (2, fs))) ∧ ((∃ fs, w8 a9 = some (.inr (2, fs))) ∧ wp_BA_isOpen E (fun r10 w11 => (r10 = 0 → (wl_PL_hold_19 E post n19 w11 x0 x2 x3 (x5 + 1))) ∧ (¬ r10 = 0 → ((∃ fs, w11 a9 = some (.inr (2, fs))) ∧ wp_BA_takenFromAccount E (fun r12 w13 => wl_PL_hold_19 E post n19 w13 x0 x2 (x3 + r12) (x5 + 1)) w11 a9 x2))) w8 a9))) w4 a6 x5))))) w a2))
def wp_PL_hold (E : xE_T) (post : Int64 → xw_T → Prop) (w : xw_T) (h0 : Nat) (p0 : Int32) : Prop := (∃ fs, w h0 = some (.inr (4, fs))) ∧ wp_PL_findAccount E (fun r14 w15 => (¬ r14 = none → (∃ n19, wl_PL_hold_19 E post n19 w15 h0 r14 0 0)) ∧ (r14 = none → (post (-2000000001) w15))) w h0 p0
set_option maxHeartbeats 4000000 in
set_option maxRecDepth 100000 in
theorem c_PL_hold (l : Launch) (D : va_G) (E : xE_T) (A : Nat → Prop) (post : Int64 → xw_T → Prop) (w : xw_T) (h0 : Nat) (p0 : Int32) (h : wp_PL_hold E post w h0 p0) : Met l yPL_hold (xW yPL_hold cPL_hold 7 (some (.long))) ({ frames := 4, cells := 0, slots := 0, locals := 89 } : Room) (va_Pc [.ref h0, .int p0] (xP D E A w)) (va_Ql post (xB D A) A) 0 0 A := by
  refine Met.ofW (cc := cPL_hold) (maxL := 7) (ret := (some (.long))) (by decide) rfl ?_
  intro p e s m args below meth c s₁ B hml hv
  obtain ⟨rfl, hw, hK, hE⟩ := hv
  have hx := B.exec
  have hb := B.bytes
  have hr := B.returns
  have hts : ∀ w ∈ xTB, w.before _ s = true := fun w hw => atoms_spec (ws := xW yPL_hold cPL_hold 7 (some (.long))) B.pre w (List.mem_cons_of_mem _ hw)
  have hown : s.vm.findClass RPL = some m.cls := findClass_of_methodNamed B.named
  have hlocks := B.notSynchronized
  have hw : xw_S D vwCl A s.heap w s.heap [] := xw_S0 hw
  have lo_19 : ∀ (n19 : Nat) (w : xw_T) (x0 : Nat) (x2 : Option Nat) (x3 : Int64) (x5 : Int32) (H : Heap) (locs : List Loc) (ls : Array Slot), lv_has ls 7 [(0, .ref x0), (2, va_rf x2), (3, .long x3), (5, .int x5)] → xw_S D vwCl A s.heap w H locs → wl_PL_hold_19 E post n19 w x0 x2 x3 x5 → W p l e (headSpec (xW yPL_hold cPL_hold 7 (some (.long))) ({ frames := 4, cells := 0, slots := 0, locals := 89 } : Room)).room s m ([.ref h0, .int p0] : List Value).toArray below meth c H locs 0 0 (MQ below (va_Ql post (xB D A) A) ([.ref h0, .int p0] : List Value).toArray s 0 0 A) (F0 m 19 ls []) := by
    intro n19
    induction n19 with
    | zero => intro w x0 x2 x3 x5 H locs ls hl hw h; exact h.elim
    | succ n19 ih19 =>
      intro w x0 x2 x3 x5 H locs ls hl hw h
      dsimp only [wl_PL_hold_19] at h
      refine lv_iload hx hb dPL_hold_19 (lv_at hl 3 rfl) ?_
      refine lv_aload_n hx hb dPL_hold_21 rfl (lv_at hl 0 rfl) ?_
      obtain ⟨v1, hv, h⟩ := h
      refine xw_getR (C := RPL) (T := TPL) (N := 4) (ref := RPL) hx hb hts inPL hown hK hw rfl 1 (by decide) (hts _ mw_16) (fun _ h9 => h9) hv dPL_hold_22 ?_
      obtain ⟨a2, rfl, h⟩ := h
      obtain ⟨⟨fs, hk⟩, h⟩ := h
      have hcall := h
      clear h
      refine xw_calli (va_runV (As := []) (rest := [.int x5]) ⟨hx, hb, hml, hown, hts⟩ (c_AL_size l D E A _ w a2 hcall) (cwV 0 hts (xG_V mw_78 mw_79 mw_80 mw_19 mw_81) rfl rfl rfl (by decide +kernel) ⟨(Nat.le_of_ble_eq_true rfl), (Nat.le_of_ble_eq_true rfl)⟩) (xw_preV (ci := 0) hw hK hE rfl hk) rfl rfl hl.1 rfl (lv_room (by first | exact Nat.le_of_ble_eq_true rfl | simp [va_rf_cat, xcat_i, xcat_l, xcat_r, xcat_n])) dPL_hold_25 ⟨(Nat.le_of_ble_eq_true rfl), (Nat.le_of_ble_eq_true rfl)⟩) hw (fun r3 w4 H locs h hw => ?_)
      clear hcall
      refine lv_icmp_ge (tgt := 68) hx hb dPL_hold_28 rfl (fun hc => ?_) (fun hc => ?_)
      · replace h := h.1 hc
        refine lv_lload_n hx hb dPL_hold_68 rfl (lv_at hl 2 rfl) ?_
        refine W.widen (k := 0) (n := 0) (Nat.le_of_ble_eq_true rfl) (Nat.le_of_ble_eq_true rfl) ?_
        exact xw_lret hx hb hr hlocks hw h dPL_hold_69
      · replace h := h.2 hc
        refine lv_aload_n hx hb dPL_hold_31 rfl (lv_at hl 0 rfl) ?_
        obtain ⟨v5, hv, h⟩ := h
        refine xw_getR (C := RPL) (T := TPL) (N := 4) (ref := RPL) hx hb hts inPL hown hK hw rfl 1 (by decide) (hts _ mw_16) (fun _ h9 => h9) hv dPL_hold_32 ?_
        refine lv_iload hx hb dPL_hold_35 (lv_at hl 3 rfl) ?_
        obtain ⟨a6, rfl, h⟩ := h
        obtain ⟨⟨fs, hk⟩, h⟩ := h
        have hcall := h
        clear h
        refine xw_callq (va_runV (As := [.int x5]) (rest := []) ⟨hx, hb, hml, hown, hts⟩ (c_AL_get l D E A _ w4 a6 x5 hcall) (cwV 1 hts (xG_V mw_138 mw_139 mw_140 mw_19 mw_141) rfl rfl rfl (by decide +kernel) ⟨(Nat.le_of_ble_eq_true rfl), (Nat.le_of_ble_eq_true rfl)⟩) (xw_preV (ci := 0) hw hK hE rfl hk) rfl rfl hl.1 rfl (lv_room (by first | exact Nat.le_of_ble_eq_true rfl | simp [va_rf_cat, xcat_i, xcat_l, xcat_r, xcat_n])) dPL_hold_37 ⟨(Nat.le_of_ble_eq_true rfl), (Nat.le_of_ble_eq_true rfl)⟩) hw (fun r7 w8 H locs h hw => ?_)
        clear hcall
        obtain ⟨a9, rfl, h⟩ := h
        obtain ⟨⟨fs, hk⟩, h⟩ := h
        refine va_castS hx hb hown (hts _ mw_112) (hK.1 2 _ rfl).2 (xw_recv hK hw (ci := 2) rfl hk) dPL_hold_40 ?_
        refine lv_astore (i := 6) (lv' := [(6, .ref a9), (0, .ref x0), (2, va_rf x2), (3, .long x3), (5, .int x5)]) hx hb dPL_hold_43 hl (by decide) (by first | rfl | simp [va_rf_cat, xcat_i, xcat_l, xcat_r, xcat_n]) (fun ls hl => ?_)
        refine lv_aload hx hb dPL_hold_45 (lv_at hl 0 rfl) ?_
        obtain ⟨⟨fs, hk⟩, h⟩ := h
        have hcall := h
        clear h
        refine xw_calli (va_runV (As := []) (rest := []) ⟨hx, hb, hml, hown, hts⟩ (c_BA_isOpen l D E A _ w8 a9 hcall) (cwV 0 hts (xG_V mw_163 mw_164 mw_165 mw_110 mw_166) rfl rfl rfl (by decide +kernel) ⟨(Nat.le_of_ble_eq_true rfl), (Nat.le_of_ble_eq_true rfl)⟩) (xw_preV (ci := 2) hw hK hE rfl hk) rfl rfl hl.1 rfl (lv_room (by first | exact Nat.le_of_ble_eq_true rfl | simp [va_rf_cat, xcat_i, xcat_l, xcat_r, xcat_n])) dPL_hold_47 ⟨(Nat.le_of_ble_eq_true rfl), (Nat.le_of_ble_eq_true rfl)⟩) hw (fun r10 w11 H locs h hw => ?_)
        clear hcall
        refine lv_if_eq (tgt := 62) hx hb dPL_hold_50 rfl (fun hc => ?_) (fun hc => ?_)
        · replace h := h.1 hc
          refine lv_iinc (k := 4) (v := x5 + 1) (lv' := [(5, .int (x5 + 1)), (6, .ref a9), (0, .ref x0), (2, va_rf x2), (3, .long x3)]) hx hb dPL_hold_62 hl rfl rfl (by decide) (by first | rfl | simp [va_rf_cat, xcat_i, xcat_l, xcat_r, xcat_n]) (fun ls hl => ?_)
          refine lv_goto (tgt := 19) hx hb dPL_hold_65 rfl ?_
          exact ih19 _ x0 x2 x3 (x5 + 1) _ _ _ (lv_sub hl [2, 3, 4, 0] rfl) hw h
        · replace h := h.2 hc
          refine lv_lload_n hx hb dPL_hold_53 rfl (lv_at hl 3 rfl) ?_
          refine lv_aload hx hb dPL_hold_54 (lv_at hl 0 rfl) ?_
          refine xl_aload_n hx hb dPL_hold_56 rfl (lv_at hl 2 rfl) ?_
          obtain ⟨⟨fs, hk⟩, h⟩ := h
          have hcall := h
          clear h
          refine xw_calll (va_runV (As := [va_rf x2]) (rest := [.long x3]) ⟨hx, hb, hml, hown, hts⟩ (c_BA_takenFromAccount l D E A _ w11 a9 x2 hcall) (cwV 1 hts (xG_V mw_234 mw_235 mw_236 mw_110 mw_237) rfl rfl rfl (by decide +kernel) ⟨(Nat.le_of_ble_eq_true rfl), (Nat.le_of_ble_eq_true rfl)⟩) (xw_preV (ci := 2) hw hK hE rfl hk) rfl rfl hl.1 rfl (lv_room (by first | exact Nat.le_of_ble_eq_true rfl | simp [va_rf_cat, xcat_i, xcat_l, xcat_r, xcat_n])) dPL_hold_57 ⟨(Nat.le_of_ble_eq_true rfl), (Nat.le_of_ble_eq_true rfl)⟩) hw (fun r12 w13 H locs h hw => ?_)
          clear hcall
          refine lv_ladd hx hb dPL_hold_60 ?_
          refine lv_lstore_n (i := 3) (lv' := [(3, .long (x3 + r12)), (6, .ref a9), (0, .ref x0), (2, va_rf x2), (5, .int x5)]) hx hb dPL_hold_61 rfl hl (by decide) (by first | rfl | simp [va_rf_cat, xcat_i, xcat_l, xcat_r, xcat_n]) (fun ls hl => ?_)
          refine lv_iinc (k := 4) (v := x5 + 1) (lv' := [(5, .int (x5 + 1)), (3, .long (x3 + r12)), (6, .ref a9), (0, .ref x0), (2, va_rf x2)]) hx hb dPL_hold_62 hl rfl rfl (by decide) (by first | rfl | simp [va_rf_cat, xcat_i, xcat_l, xcat_r, xcat_n]) (fun ls hl => ?_)
          refine lv_goto (tgt := 19) hx hb dPL_hold_65 rfl ?_
          exact ih19 _ x0 x2 (x3 + r12) (x5 + 1) _ _ _ (lv_sub hl [3, 4, 1, 0] rfl) hw h
  refine xl_start (lvs := [(0, .ref h0), (1, .int p0)]) (by first | exact Nat.le_of_ble_eq_true rfl | simp [lg_sl, va_rf_cat, xcat_i, xcat_l, xcat_r, xcat_n]) (by first | rfl | simp [lv_args, va_rf_cat, xcat_i, xcat_l, xcat_r, xcat_n]) (fun ls hl => ?_)
  unfold wp_PL_hold at h
  refine lv_aload_n hx hb dPL_hold_0 rfl (lv_at hl 0 rfl) ?_
  refine lv_iload_n hx hb dPL_hold_1 rfl (lv_at hl 1 rfl) ?_
  obtain ⟨⟨fs, hk⟩, h⟩ := h
  have hcall := h
  clear h
  refine xw_callq (va_runV (As := [.int p0]) (rest := []) ⟨hx, hb, hml, hown, hts⟩ (c_PL_findAccount l D E A _ w h0 p0 hcall) (cwV 1 hts (xG_V mw_167 mw_168 mw_169 mw_95 mw_170) rfl rfl rfl (by decide +kernel) ⟨(Nat.le_of_ble_eq_true rfl), (Nat.le_of_ble_eq_true rfl)⟩) (xw_preV (ci := 4) hw hK hE rfl hk) rfl rfl hl.1 rfl (lv_room (by first | exact Nat.le_of_ble_eq_true rfl | simp [va_rf_cat, xcat_i, xcat_l, xcat_r, xcat_n])) dPL_hold_2 ⟨(Nat.le_of_ble_eq_true rfl), (Nat.le_of_ble_eq_true rfl)⟩) hw (fun r14 w15 H locs h hw => ?_)
  clear hcall
  refine xl_astore_n (i := 2) (lv' := [(2, va_rf r14), (0, .ref h0), (1, .int p0)]) hx hb dPL_hold_5 rfl hl (by decide) (by first | rfl | simp [va_rf_cat, xcat_i, xcat_l, xcat_r, xcat_n]) (fun ls hl => ?_)
  refine xl_aload_n hx hb dPL_hold_6 rfl (lv_at hl 0 rfl) ?_
  refine xl_ifnonnull (tgt := 14) hx hb dPL_hold_7 rfl (fun hc => ?_) (fun hc => ?_)
  · replace h := h.1 hc
    refine lv_lconst (v := 0) hx hb dPL_hold_14 (by decide) ?_
    refine lv_lstore_n (i := 3) (lv' := [(3, .long 0), (2, va_rf r14), (0, .ref h0), (1, .int p0)]) hx hb dPL_hold_15 rfl hl (by decide) (by first | rfl | simp [va_rf_cat, xcat_i, xcat_l, xcat_r, xcat_n]) (fun ls hl => ?_)
    refine lv_iconst (v := 0) hx hb dPL_hold_16 (by decide) ?_
    refine lv_istore (i := 5) (lv' := [(5, .int 0), (3, .long 0), (2, va_rf r14), (0, .ref h0), (1, .int p0)]) hx hb dPL_hold_17 hl (by decide) (by first | rfl | simp [va_rf_cat, xcat_i, xcat_l, xcat_r, xcat_n]) (fun ls hl => ?_)
    obtain ⟨n19, h⟩ := h
    refine W.widen (k := 0) (n := 0) (Nat.le_of_ble_eq_true rfl) (Nat.le_of_ble_eq_true rfl) ?_
    exact lo_19 n19 _ h0 r14 0 0 _ _ _ (lv_sub hl [3, 2, 1, 0] rfl) hw h
  · replace h := h.2 hc
    refine lv_ldc2 (v := (-2000000001)) hx hb hown (hts _ mw_189) dPL_hold_10 ?_
    refine W.widen (k := 0) (n := 0) (Nat.le_of_ble_eq_true rfl) (Nat.le_of_ble_eq_true rfl) ?_
    exact xw_lret hx hb hr hlocks hw h dPL_hold_13
def wp_PL_rows (E : xE_T) (post : Int32 → xw_T → Prop) (w : xw_T) (h0 : Nat) : Prop := ∃ v1, xgI w h0 4 3 = some v1 ∧ (post v1 w)
set_option maxHeartbeats 4000000 in
set_option maxRecDepth 100000 in
theorem c_PL_rows (l : Launch) (D : va_G) (E : xE_T) (A : Nat → Prop) (post : Int32 → xw_T → Prop) (w : xw_T) (h0 : Nat) (h : wp_PL_rows E post w h0) : Met l yPL_rows (xW yPL_rows cPL_rows 1 (some (.int))) ({ frames := 0, cells := 0, slots := 0, locals := 0 } : Room) (va_Pc [.ref h0] (xP D E A w)) (va_Qi post (xB D A) A) 0 0 A := by
  refine Met.ofW (cc := cPL_rows) (maxL := 1) (ret := (some (.int))) (by decide) rfl ?_
  intro p e s m args below meth c s₁ B hml hv
  obtain ⟨rfl, hw, hK, hE⟩ := hv
  have hx := B.exec
  have hb := B.bytes
  have hr := B.returns
  have hts : ∀ w ∈ xTB, w.before _ s = true := fun w hw => atoms_spec (ws := xW yPL_rows cPL_rows 1 (some (.int))) B.pre w (List.mem_cons_of_mem _ hw)
  have hown : s.vm.findClass RPL = some m.cls := findClass_of_methodNamed B.named
  have hlocks := B.notSynchronized
  have hw : xw_S D vwCl A s.heap w s.heap [] := xw_S0 hw
  refine xl_start (lvs := [(0, .ref h0)]) (by first | exact Nat.le_of_ble_eq_true rfl | simp [lg_sl, va_rf_cat, xcat_i, xcat_l, xcat_r, xcat_n]) (by first | rfl | simp [lv_args, va_rf_cat, xcat_i, xcat_l, xcat_r, xcat_n]) (fun ls hl => ?_)
  unfold wp_PL_rows at h
  refine lv_aload_n hx hb dPL_rows_0 rfl (lv_at hl 0 rfl) ?_
  obtain ⟨v1, hv, h⟩ := h
  refine xw_getI (C := RPL) (T := TPL) (N := 4) (ref := RPL) hx hb hts inPL hown hK hw rfl 3 (by decide) (hts _ mw_14) (fun _ h9 => h9) hv dPL_rows_1 ?_
  refine W.widen (k := 0) (n := 0) (Nat.le_of_ble_eq_true rfl) (Nat.le_of_ble_eq_true rfl) ?_
  exact xw_iret hx hb hr hlocks hw h dPL_rows_4
def wl_PL_all_4 (E : xE_T) (post : Int64 → xw_T → Prop) : Nat → xw_T → Nat → Int64 → Int32 → Prop
  | 0 => fun _ _ _ _ => False
  | n4 + 1 => fun w x0 x1 x3 => ∃ v1, xgR w x0 4 0 = some v1 ∧ (∃ a2 : Nat, v1 = some a2 ∧ ((∃ fs, w a2 = some (.inr (0, fs))) ∧ wp_AL_size E (fun r3 w4 => (r3 ≤ x3 → (post x1 w4)) ∧ (¬ r3 ≤ x3 → (∃ v5, xgR w4 x0 4 0 = some v5 ∧ (∃ a6 : Nat, v5 = some a6 ∧ ((∃ fs, w4 a6 = some (.inr (0, fs))) ∧ wp_AL_get E (fun r7 w8 => ∃ a9 : Nat, r7 = some a9 ∧ ((∃ fs, w8 a9 = some (.inr (1, fs))) ∧ (∃ v10, xgL w8 a9 1 3 = some v10 ∧ (wl_PL_all_4 E post n4 w8 x0 (x1 + v10) (x3 + 1))))) w4 a6 x3))))) w a2))
def wp_PL_all (E : xE_T) (post : Int64 → xw_T → Prop) (w : xw_T) (h0 : Nat) : Prop := ∃ n4, wl_PL_all_4 E post n4 w h0 0 0
set_option maxHeartbeats 4000000 in
set_option maxRecDepth 100000 in
theorem c_PL_all (l : Launch) (D : va_G) (E : xE_T) (A : Nat → Prop) (post : Int64 → xw_T → Prop) (w : xw_T) (h0 : Nat) (h : wp_PL_all E post w h0) : Met l yPL_all (xW yPL_all cPL_all 4 (some (.long))) ({ frames := 3, cells := 0, slots := 0, locals := 64 } : Room) (va_Pc [.ref h0] (xP D E A w)) (va_Ql post (xB D A) A) 0 0 A := by
  refine Met.ofW (cc := cPL_all) (maxL := 4) (ret := (some (.long))) (by decide) rfl ?_
  intro p e s m args below meth c s₁ B hml hv
  obtain ⟨rfl, hw, hK, hE⟩ := hv
  have hx := B.exec
  have hb := B.bytes
  have hr := B.returns
  have hts : ∀ w ∈ xTB, w.before _ s = true := fun w hw => atoms_spec (ws := xW yPL_all cPL_all 4 (some (.long))) B.pre w (List.mem_cons_of_mem _ hw)
  have hown : s.vm.findClass RPL = some m.cls := findClass_of_methodNamed B.named
  have hlocks := B.notSynchronized
  have hw : xw_S D vwCl A s.heap w s.heap [] := xw_S0 hw
  have lo_4 : ∀ (n4 : Nat) (w : xw_T) (x0 : Nat) (x1 : Int64) (x3 : Int32) (H : Heap) (locs : List Loc) (ls : Array Slot), lv_has ls 4 [(0, .ref x0), (1, .long x1), (3, .int x3)] → xw_S D vwCl A s.heap w H locs → wl_PL_all_4 E post n4 w x0 x1 x3 → W p l e (headSpec (xW yPL_all cPL_all 4 (some (.long))) ({ frames := 3, cells := 0, slots := 0, locals := 64 } : Room)).room s m ([.ref h0] : List Value).toArray below meth c H locs 0 0 (MQ below (va_Ql post (xB D A) A) ([.ref h0] : List Value).toArray s 0 0 A) (F0 m 4 ls []) := by
    intro n4
    induction n4 with
    | zero => intro w x0 x1 x3 H locs ls hl hw h; exact h.elim
    | succ n4 ih4 =>
      intro w x0 x1 x3 H locs ls hl hw h
      dsimp only [wl_PL_all_4] at h
      refine lv_iload_n hx hb dPL_all_4 rfl (lv_at hl 2 rfl) ?_
      refine lv_aload_n hx hb dPL_all_5 rfl (lv_at hl 0 rfl) ?_
      obtain ⟨v1, hv, h⟩ := h
      refine xw_getR (C := RPL) (T := TPL) (N := 4) (ref := RPL) hx hb hts inPL hown hK hw rfl 0 (by decide) (hts _ mw_23) (fun _ h9 => h9) hv dPL_all_6 ?_
      obtain ⟨a2, rfl, h⟩ := h
      obtain ⟨⟨fs, hk⟩, h⟩ := h
      have hcall := h
      clear h
      refine xw_calli (va_runV (As := []) (rest := [.int x3]) ⟨hx, hb, hml, hown, hts⟩ (c_AL_size l D E A _ w a2 hcall) (cwV 0 hts (xG_V mw_78 mw_79 mw_80 mw_19 mw_81) rfl rfl rfl (by decide +kernel) ⟨(Nat.le_of_ble_eq_true rfl), (Nat.le_of_ble_eq_true rfl)⟩) (xw_preV (ci := 0) hw hK hE rfl hk) rfl rfl hl.1 rfl (lv_room (by first | exact Nat.le_of_ble_eq_true rfl | simp [va_rf_cat, xcat_i, xcat_l, xcat_r, xcat_n])) dPL_all_9 ⟨(Nat.le_of_ble_eq_true rfl), (Nat.le_of_ble_eq_true rfl)⟩) hw (fun r3 w4 H locs h hw => ?_)
      clear hcall
      refine lv_icmp_ge (tgt := 38) hx hb dPL_all_12 rfl (fun hc => ?_) (fun hc => ?_)
      · replace h := h.1 hc
        refine lv_lload_n hx hb dPL_all_38 rfl (lv_at hl 1 rfl) ?_
        refine W.widen (k := 0) (n := 0) (Nat.le_of_ble_eq_true rfl) (Nat.le_of_ble_eq_true rfl) ?_
        exact xw_lret hx hb hr hlocks hw h dPL_all_39
      · replace h := h.2 hc
        refine lv_lload_n hx hb dPL_all_15 rfl (lv_at hl 1 rfl) ?_
        refine lv_aload_n hx hb dPL_all_16 rfl (lv_at hl 0 rfl) ?_
        obtain ⟨v5, hv, h⟩ := h
        refine xw_getR (C := RPL) (T := TPL) (N := 4) (ref := RPL) hx hb hts inPL hown hK hw rfl 0 (by decide) (hts _ mw_23) (fun _ h9 => h9) hv dPL_all_17 ?_
        refine lv_iload_n hx hb dPL_all_20 rfl (lv_at hl 2 rfl) ?_
        obtain ⟨a6, rfl, h⟩ := h
        obtain ⟨⟨fs, hk⟩, h⟩ := h
        have hcall := h
        clear h
        refine xw_callq (va_runV (As := [.int x3]) (rest := [.long x1]) ⟨hx, hb, hml, hown, hts⟩ (c_AL_get l D E A _ w4 a6 x3 hcall) (cwV 1 hts (xG_V mw_138 mw_139 mw_140 mw_19 mw_141) rfl rfl rfl (by decide +kernel) ⟨(Nat.le_of_ble_eq_true rfl), (Nat.le_of_ble_eq_true rfl)⟩) (xw_preV (ci := 0) hw hK hE rfl hk) rfl rfl hl.1 rfl (lv_room (by first | exact Nat.le_of_ble_eq_true rfl | simp [va_rf_cat, xcat_i, xcat_l, xcat_r, xcat_n])) dPL_all_21 ⟨(Nat.le_of_ble_eq_true rfl), (Nat.le_of_ble_eq_true rfl)⟩) hw (fun r7 w8 H locs h hw => ?_)
        clear hcall
        obtain ⟨a9, rfl, h⟩ := h
        obtain ⟨⟨fs, hk⟩, h⟩ := h
        refine va_castS hx hb hown (hts _ mw_90) (hK.1 1 _ rfl).2 (xw_recv hK hw (ci := 1) rfl hk) dPL_all_24 ?_
        obtain ⟨v10, hv, h⟩ := h
        refine xw_getL (C := RAC) (T := TAC) (N := 4) (ref := RAC) hx hb hts inAC hown hK hw rfl 3 (by decide) (hts _ mw_216) (fun _ h9 => h9) hv dPL_all_27 ?_
        refine lv_ladd hx hb dPL_all_30 ?_
        refine lv_lstore_n (i := 1) (lv' := [(1, .long (x1 + v10)), (0, .ref x0), (3, .int x3)]) hx hb dPL_all_31 rfl hl (by decide) (by first | rfl | simp [va_rf_cat, xcat_i, xcat_l, xcat_r, xcat_n]) (fun ls hl => ?_)
        refine lv_iinc (k := 2) (v := x3 + 1) (lv' := [(3, .int (x3 + 1)), (1, .long (x1 + v10)), (0, .ref x0)]) hx hb dPL_all_32 hl rfl rfl (by decide) (by first | rfl | simp [va_rf_cat, xcat_i, xcat_l, xcat_r, xcat_n]) (fun ls hl => ?_)
        refine lv_goto (tgt := 4) hx hb dPL_all_35 rfl ?_
        exact ih4 _ x0 (x1 + v10) (x3 + 1) _ _ _ (lv_sub hl [2, 1, 0] rfl) hw h
  refine xl_start (lvs := [(0, .ref h0)]) (by first | exact Nat.le_of_ble_eq_true rfl | simp [lg_sl, va_rf_cat, xcat_i, xcat_l, xcat_r, xcat_n]) (by first | rfl | simp [lv_args, va_rf_cat, xcat_i, xcat_l, xcat_r, xcat_n]) (fun ls hl => ?_)
  unfold wp_PL_all at h
  refine lv_lconst (v := 0) hx hb dPL_all_0 (by decide) ?_
  refine lv_lstore_n (i := 1) (lv' := [(1, .long 0), (0, .ref h0)]) hx hb dPL_all_1 rfl hl (by decide) (by first | rfl | simp [va_rf_cat, xcat_i, xcat_l, xcat_r, xcat_n]) (fun ls hl => ?_)
  refine lv_iconst (v := 0) hx hb dPL_all_2 (by decide) ?_
  refine lv_istore_n (i := 3) (lv' := [(3, .int 0), (1, .long 0), (0, .ref h0)]) hx hb dPL_all_3 rfl hl (by decide) (by first | rfl | simp [va_rf_cat, xcat_i, xcat_l, xcat_r, xcat_n]) (fun ls hl => ?_)
  obtain ⟨n4, h⟩ := h
  refine W.widen (k := 0) (n := 0) (Nat.le_of_ble_eq_true rfl) (Nat.le_of_ble_eq_true rfl) ?_
  exact lo_4 n4 _ h0 0 0 _ _ _ (lv_sub hl [2, 1, 0] rfl) hw h
def wl_BA_sumOfRows_4 (E : xE_T) (post : Int64 → xw_T → Prop) : Nat → xw_T → Nat → Int64 → Int32 → Prop
  | 0 => fun _ _ _ _ => False
  | n4 + 1 => fun w x0 x1 x3 => ∃ v1, xgR w x0 2 1 = some v1 ∧ (∃ a2 : Nat, v1 = some a2 ∧ ((∃ fs, w a2 = some (.inr (0, fs))) ∧ wp_AL_size E (fun r3 w4 => (r3 ≤ x3 → (post x1 w4)) ∧ (¬ r3 ≤ x3 → (∃ v5, xgR w4 x0 2 1 = some v5 ∧ (∃ a6 : Nat, v5 = some a6 ∧ ((∃ fs, w4 a6 = some (.inr (0, fs))) ∧ wp_AL_get E (fun r7 w8 => ∃ a9 : Nat, r7 = some a9 ∧ ((∃ fs, w8 a9 = some (.inr (3, fs))) ∧ (∃ v10, xgL w8 a9 3 1 = some v10 ∧ (wl_BA_sumOfRows_4 E post n4 w8 x0 (x1 + v10) (x3 + 1))))) w4 a6 x3))))) w a2))
def wp_BA_sumOfRows (E : xE_T) (post : Int64 → xw_T → Prop) (w : xw_T) (h0 : Nat) : Prop := ∃ n4, wl_BA_sumOfRows_4 E post n4 w h0 0 0
set_option maxHeartbeats 4000000 in
set_option maxRecDepth 100000 in
theorem c_BA_sumOfRows (l : Launch) (D : va_G) (E : xE_T) (A : Nat → Prop) (post : Int64 → xw_T → Prop) (w : xw_T) (h0 : Nat) (h : wp_BA_sumOfRows E post w h0) : Met l yBA_sumOfRows (xW yBA_sumOfRows cBA_sumOfRows 4 (some (.long))) ({ frames := 3, cells := 0, slots := 0, locals := 64 } : Room) (va_Pc [.ref h0] (xP D E A w)) (va_Ql post (xB D A) A) 0 0 A := by
  refine Met.ofW (cc := cBA_sumOfRows) (maxL := 4) (ret := (some (.long))) (by decide) rfl ?_
  intro p e s m args below meth c s₁ B hml hv
  obtain ⟨rfl, hw, hK, hE⟩ := hv
  have hx := B.exec
  have hb := B.bytes
  have hr := B.returns
  have hts : ∀ w ∈ xTB, w.before _ s = true := fun w hw => atoms_spec (ws := xW yBA_sumOfRows cBA_sumOfRows 4 (some (.long))) B.pre w (List.mem_cons_of_mem _ hw)
  have hown : s.vm.findClass RBA = some m.cls := findClass_of_methodNamed B.named
  have hlocks := B.notSynchronized
  have hw : xw_S D vwCl A s.heap w s.heap [] := xw_S0 hw
  have lo_4 : ∀ (n4 : Nat) (w : xw_T) (x0 : Nat) (x1 : Int64) (x3 : Int32) (H : Heap) (locs : List Loc) (ls : Array Slot), lv_has ls 4 [(0, .ref x0), (1, .long x1), (3, .int x3)] → xw_S D vwCl A s.heap w H locs → wl_BA_sumOfRows_4 E post n4 w x0 x1 x3 → W p l e (headSpec (xW yBA_sumOfRows cBA_sumOfRows 4 (some (.long))) ({ frames := 3, cells := 0, slots := 0, locals := 64 } : Room)).room s m ([.ref h0] : List Value).toArray below meth c H locs 0 0 (MQ below (va_Ql post (xB D A) A) ([.ref h0] : List Value).toArray s 0 0 A) (F0 m 4 ls []) := by
    intro n4
    induction n4 with
    | zero => intro w x0 x1 x3 H locs ls hl hw h; exact h.elim
    | succ n4 ih4 =>
      intro w x0 x1 x3 H locs ls hl hw h
      dsimp only [wl_BA_sumOfRows_4] at h
      refine lv_iload_n hx hb dBA_sumOfRows_4 rfl (lv_at hl 2 rfl) ?_
      refine lv_aload_n hx hb dBA_sumOfRows_5 rfl (lv_at hl 0 rfl) ?_
      obtain ⟨v1, hv, h⟩ := h
      refine xw_getR (C := RBA) (T := TBA) (N := 6) (ref := RBA) hx hb hts inBA hown hK hw rfl 1 (by decide) (hts _ mw_103) (fun _ h9 => h9) hv dBA_sumOfRows_6 ?_
      obtain ⟨a2, rfl, h⟩ := h
      obtain ⟨⟨fs, hk⟩, h⟩ := h
      have hcall := h
      clear h
      refine xw_calli (va_runV (As := []) (rest := [.int x3]) ⟨hx, hb, hml, hown, hts⟩ (c_AL_size l D E A _ w a2 hcall) (cwV 0 hts (xG_V mw_142 mw_79 mw_80 mw_19 mw_81) rfl rfl rfl (by decide +kernel) ⟨(Nat.le_of_ble_eq_true rfl), (Nat.le_of_ble_eq_true rfl)⟩) (xw_preV (ci := 0) hw hK hE rfl hk) rfl rfl hl.1 rfl (lv_room (by first | exact Nat.le_of_ble_eq_true rfl | simp [va_rf_cat, xcat_i, xcat_l, xcat_r, xcat_n])) dBA_sumOfRows_9 ⟨(Nat.le_of_ble_eq_true rfl), (Nat.le_of_ble_eq_true rfl)⟩) hw (fun r3 w4 H locs h hw => ?_)
      clear hcall
      refine lv_icmp_ge (tgt := 38) hx hb dBA_sumOfRows_12 rfl (fun hc => ?_) (fun hc => ?_)
      · replace h := h.1 hc
        refine lv_lload_n hx hb dBA_sumOfRows_38 rfl (lv_at hl 1 rfl) ?_
        refine W.widen (k := 0) (n := 0) (Nat.le_of_ble_eq_true rfl) (Nat.le_of_ble_eq_true rfl) ?_
        exact xw_lret hx hb hr hlocks hw h dBA_sumOfRows_39
      · replace h := h.2 hc
        refine lv_lload_n hx hb dBA_sumOfRows_15 rfl (lv_at hl 1 rfl) ?_
        refine lv_aload_n hx hb dBA_sumOfRows_16 rfl (lv_at hl 0 rfl) ?_
        obtain ⟨v5, hv, h⟩ := h
        refine xw_getR (C := RBA) (T := TBA) (N := 6) (ref := RBA) hx hb hts inBA hown hK hw rfl 1 (by decide) (hts _ mw_103) (fun _ h9 => h9) hv dBA_sumOfRows_17 ?_
        refine lv_iload_n hx hb dBA_sumOfRows_20 rfl (lv_at hl 2 rfl) ?_
        obtain ⟨a6, rfl, h⟩ := h
        obtain ⟨⟨fs, hk⟩, h⟩ := h
        have hcall := h
        clear h
        refine xw_callq (va_runV (As := [.int x3]) (rest := [.long x1]) ⟨hx, hb, hml, hown, hts⟩ (c_AL_get l D E A _ w4 a6 x3 hcall) (cwV 1 hts (xG_V mw_177 mw_139 mw_140 mw_19 mw_141) rfl rfl rfl (by decide +kernel) ⟨(Nat.le_of_ble_eq_true rfl), (Nat.le_of_ble_eq_true rfl)⟩) (xw_preV (ci := 0) hw hK hE rfl hk) rfl rfl hl.1 rfl (lv_room (by first | exact Nat.le_of_ble_eq_true rfl | simp [va_rf_cat, xcat_i, xcat_l, xcat_r, xcat_n])) dBA_sumOfRows_21 ⟨(Nat.le_of_ble_eq_true rfl), (Nat.le_of_ble_eq_true rfl)⟩) hw (fun r7 w8 H locs h hw => ?_)
        clear hcall
        obtain ⟨a9, rfl, h⟩ := h
        obtain ⟨⟨fs, hk⟩, h⟩ := h
        refine va_castS hx hb hown (hts _ mw_151) (hK.1 3 _ rfl).2 (xw_recv hK hw (ci := 3) rfl hk) dBA_sumOfRows_24 ?_
        obtain ⟨v10, hv, h⟩ := h
        refine xw_getL (C := RRW) (T := TRW) (N := 2) (ref := RRW) hx hb hts inRW hown hK hw rfl 1 (by decide) (hts _ mw_175) (fun _ h9 => h9) hv dBA_sumOfRows_27 ?_
        refine lv_ladd hx hb dBA_sumOfRows_30 ?_
        refine lv_lstore_n (i := 1) (lv' := [(1, .long (x1 + v10)), (0, .ref x0), (3, .int x3)]) hx hb dBA_sumOfRows_31 rfl hl (by decide) (by first | rfl | simp [va_rf_cat, xcat_i, xcat_l, xcat_r, xcat_n]) (fun ls hl => ?_)
        refine lv_iinc (k := 2) (v := x3 + 1) (lv' := [(3, .int (x3 + 1)), (1, .long (x1 + v10)), (0, .ref x0)]) hx hb dBA_sumOfRows_32 hl rfl rfl (by decide) (by first | rfl | simp [va_rf_cat, xcat_i, xcat_l, xcat_r, xcat_n]) (fun ls hl => ?_)
        refine lv_goto (tgt := 4) hx hb dBA_sumOfRows_35 rfl ?_
        exact ih4 _ x0 (x1 + v10) (x3 + 1) _ _ _ (lv_sub hl [2, 1, 0] rfl) hw h
  refine xl_start (lvs := [(0, .ref h0)]) (by first | exact Nat.le_of_ble_eq_true rfl | simp [lg_sl, va_rf_cat, xcat_i, xcat_l, xcat_r, xcat_n]) (by first | rfl | simp [lv_args, va_rf_cat, xcat_i, xcat_l, xcat_r, xcat_n]) (fun ls hl => ?_)
  unfold wp_BA_sumOfRows at h
  refine lv_lconst (v := 0) hx hb dBA_sumOfRows_0 (by decide) ?_
  refine lv_lstore_n (i := 1) (lv' := [(1, .long 0), (0, .ref h0)]) hx hb dBA_sumOfRows_1 rfl hl (by decide) (by first | rfl | simp [va_rf_cat, xcat_i, xcat_l, xcat_r, xcat_n]) (fun ls hl => ?_)
  refine lv_iconst (v := 0) hx hb dBA_sumOfRows_2 (by decide) ?_
  refine lv_istore_n (i := 3) (lv' := [(3, .int 0), (1, .long 0), (0, .ref h0)]) hx hb dBA_sumOfRows_3 rfl hl (by decide) (by first | rfl | simp [va_rf_cat, xcat_i, xcat_l, xcat_r, xcat_n]) (fun ls hl => ?_)
  obtain ⟨n4, h⟩ := h
  refine W.widen (k := 0) (n := 0) (Nat.le_of_ble_eq_true rfl) (Nat.le_of_ble_eq_true rfl) ?_
  exact lo_4 n4 _ h0 0 0 _ _ _ (lv_sub hl [2, 1, 0] rfl) hw h
def wp_RW_takesFromCustomer (E : xE_T) (post : Int32 → xw_T → Prop) (w : xw_T) (h0 : Nat) : Prop := ∃ v1, xgL w h0 3 1 = some v1 ∧ ((0 ≤ v1 → (post 0 w)) ∧ (¬ 0 ≤ v1 → (∃ v2, xgR w h0 3 0 = some v2 ∧ (∃ a3 : Nat, v2 = some a3 ∧ (∃ v4, xgI w a3 1 1 = some v4 ∧ ((¬ v4 = 3 → (post 0 w)) ∧ (v4 = 3 → (post 1 w))))))))
set_option maxHeartbeats 4000000 in
set_option maxRecDepth 100000 in
theorem c_RW_takesFromCustomer (l : Launch) (D : va_G) (E : xE_T) (A : Nat → Prop) (post : Int32 → xw_T → Prop) (w : xw_T) (h0 : Nat) (h : wp_RW_takesFromCustomer E post w h0) : Met l yRW_takesFromCustomer (xW yRW_takesFromCustomer cRW_takesFromCustomer 1 (some (.boolean))) ({ frames := 0, cells := 0, slots := 0, locals := 0 } : Room) (va_Pc [.ref h0] (xP D E A w)) (va_Qi post (xB D A) A) 0 0 A := by
  refine Met.ofW (cc := cRW_takesFromCustomer) (maxL := 1) (ret := (some (.boolean))) (by decide) rfl ?_
  intro p e s m args below meth c s₁ B hml hv
  obtain ⟨rfl, hw, hK, hE⟩ := hv
  have hx := B.exec
  have hb := B.bytes
  have hr := B.returns
  have hts : ∀ w ∈ xTB, w.before _ s = true := fun w hw => atoms_spec (ws := xW yRW_takesFromCustomer cRW_takesFromCustomer 1 (some (.boolean))) B.pre w (List.mem_cons_of_mem _ hw)
  have hown : s.vm.findClass RRW = some m.cls := findClass_of_methodNamed B.named
  have hlocks := B.notSynchronized
  have hw : xw_S D vwCl A s.heap w s.heap [] := xw_S0 hw
  refine xl_start (lvs := [(0, .ref h0)]) (by first | exact Nat.le_of_ble_eq_true rfl | simp [lg_sl, va_rf_cat, xcat_i, xcat_l, xcat_r, xcat_n]) (by first | rfl | simp [lv_args, va_rf_cat, xcat_i, xcat_l, xcat_r, xcat_n]) (fun ls hl => ?_)
  unfold wp_RW_takesFromCustomer at h
  refine lv_aload_n hx hb dRW_takesFromCustomer_0 rfl (lv_at hl 0 rfl) ?_
  obtain ⟨v1, hv, h⟩ := h
  refine xw_getL (C := RRW) (T := TRW) (N := 2) (ref := RRW) hx hb hts inRW hown hK hw rfl 1 (by decide) (hts _ mw_143) (fun _ h9 => h9) hv dRW_takesFromCustomer_1 ?_
  refine lv_lconst (v := 0) hx hb dRW_takesFromCustomer_4 (by decide) ?_
  refine xl_lc_ge (tgt := 24) hx hb dRW_takesFromCustomer_5 dRW_takesFromCustomer_6 rfl (fun hc => ?_) (fun hc => ?_)
  · replace h := h.1 hc
    refine lv_iconst (v := 0) hx hb dRW_takesFromCustomer_24 (by decide) ?_
    refine W.widen (k := 0) (n := 0) (Nat.le_of_ble_eq_true rfl) (Nat.le_of_ble_eq_true rfl) ?_
    exact xw_zret (by decide) hx hb hr hlocks hw h dRW_takesFromCustomer_25
  · replace h := h.2 hc
    refine lv_aload_n hx hb dRW_takesFromCustomer_9 rfl (lv_at hl 0 rfl) ?_
    obtain ⟨v2, hv, h⟩ := h
    refine xw_getR (C := RRW) (T := TRW) (N := 2) (ref := RRW) hx hb hts inRW hown hK hw rfl 0 (by decide) (hts _ mw_144) (fun _ h9 => h9) hv dRW_takesFromCustomer_10 ?_
    obtain ⟨a3, rfl, h⟩ := h
    obtain ⟨v4, hv, h⟩ := h
    refine xw_getI (C := RAC) (T := TAC) (N := 4) (ref := RAC) hx hb hts inAC hown hK hw rfl 1 (by decide) (hts _ mw_238) (fun _ h9 => h9) hv dRW_takesFromCustomer_13 ?_
    refine lv_iconst (v := 3) hx hb dRW_takesFromCustomer_16 (by decide) ?_
    refine lv_icmp_ne (tgt := 24) hx hb dRW_takesFromCustomer_17 rfl (fun hc => ?_) (fun hc => ?_)
    · replace h := h.1 hc
      refine lv_iconst (v := 0) hx hb dRW_takesFromCustomer_24 (by decide) ?_
      refine W.widen (k := 0) (n := 0) (Nat.le_of_ble_eq_true rfl) (Nat.le_of_ble_eq_true rfl) ?_
      exact xw_zret (by decide) hx hb hr hlocks hw h dRW_takesFromCustomer_25
    · replace h := h.2 hc
      refine lv_iconst (v := 1) hx hb dRW_takesFromCustomer_20 (by decide) ?_
      refine lv_goto (tgt := 25) hx hb dRW_takesFromCustomer_21 rfl ?_
      refine W.widen (k := 0) (n := 0) (Nat.le_of_ble_eq_true rfl) (Nat.le_of_ble_eq_true rfl) ?_
      exact xw_zret (by decide) hx hb hr hlocks hw h dRW_takesFromCustomer_25
def wp_BA_breaksLimit (E : xE_T) (post : Int32 → xw_T → Prop) (w : xw_T) (h0 : Nat) (p0 : Option Nat) (p1 : Int32) : Prop := ∃ a1 : Nat, p0 = some a1 ∧ (∃ v2, xgR w a1 3 0 = some v2 ∧ ((∃ fs, w a1 = some (.inr (3, fs))) ∧ wp_RW_takesFromCustomer E (fun r3 w4 => (r3 = 0 → (post 0 w4)) ∧ (¬ r3 = 0 → (∃ a5 : Nat, v2 = some a5 ∧ (∃ v6, xgL w4 a5 1 3 = some v6 ∧ ((∃ fs, w4 h0 = some (.inr (2, fs))) ∧ wp_BA_sumForAccount E (fun r7 w8 => ∃ v9, xgI w8 a5 1 2 = some v9 ∧ ((((-v9).toInt64) ≤ (v6 + r7) → (post 0 w8)) ∧ (¬ ((-v9).toInt64) ≤ (v6 + r7) → (post 1 w8)))) w4 h0 (some a5) p1))))) w a1))
set_option maxHeartbeats 4000000 in
set_option maxRecDepth 100000 in
theorem c_BA_breaksLimit (l : Launch) (D : va_G) (E : xE_T) (A : Nat → Prop) (post : Int32 → xw_T → Prop) (w : xw_T) (h0 : Nat) (p0 : Option Nat) (p1 : Int32) (h : wp_BA_breaksLimit E post w h0 p0 p1) : Met l yBA_breaksLimit (xW yBA_breaksLimit cBA_breaksLimit 4 (some (.boolean))) ({ frames := 4, cells := 0, slots := 0, locals := 90 } : Room) (va_Pc [.ref h0, va_rf p0, .int p1] (xP D E A w)) (va_Qi post (xB D A) A) 0 0 A := by
  refine Met.ofW (cc := cBA_breaksLimit) (maxL := 4) (ret := (some (.boolean))) (by decide) rfl ?_
  intro p e s m args below meth c s₁ B hml hv
  obtain ⟨rfl, hw, hK, hE⟩ := hv
  have hx := B.exec
  have hb := B.bytes
  have hr := B.returns
  have hts : ∀ w ∈ xTB, w.before _ s = true := fun w hw => atoms_spec (ws := xW yBA_breaksLimit cBA_breaksLimit 4 (some (.boolean))) B.pre w (List.mem_cons_of_mem _ hw)
  have hown : s.vm.findClass RBA = some m.cls := findClass_of_methodNamed B.named
  have hlocks := B.notSynchronized
  have hw : xw_S D vwCl A s.heap w s.heap [] := xw_S0 hw
  refine xl_start (lvs := [(0, .ref h0), (1, va_rf p0), (2, .int p1)]) (by first | exact Nat.le_of_ble_eq_true rfl | simp [lg_sl, va_rf_cat, xcat_i, xcat_l, xcat_r, xcat_n]) (by first | rfl | simp [lv_args, va_rf_cat, xcat_i, xcat_l, xcat_r, xcat_n]) (fun ls hl => ?_)
  unfold wp_BA_breaksLimit at h
  refine xl_aload_n hx hb dBA_breaksLimit_0 rfl (lv_at hl 1 rfl) ?_
  obtain ⟨a1, rfl, h⟩ := h
  obtain ⟨v2, hv, h⟩ := h
  refine xw_getR (C := RRW) (T := TRW) (N := 2) (ref := RRW) hx hb hts inRW hown hK hw rfl 0 (by decide) (hts _ mw_176) (fun _ h9 => h9) hv dBA_breaksLimit_1 ?_
  refine xl_astore_n (i := 3) (lv' := [(3, va_rf v2), (0, .ref h0), (1, .ref a1), (2, .int p1)]) hx hb dBA_breaksLimit_4 rfl hl (by decide) (by first | rfl | simp [va_rf_cat, xcat_i, xcat_l, xcat_r, xcat_n]) (fun ls hl => ?_)
  refine lv_aload_n hx hb dBA_breaksLimit_5 rfl (lv_at hl 2 rfl) ?_
  obtain ⟨⟨fs, hk⟩, h⟩ := h
  have hcall := h
  clear h
  refine xw_calli (va_runV (As := []) (rest := []) ⟨hx, hb, hml, hown, hts⟩ (c_RW_takesFromCustomer l D E A _ w a1 hcall) (cwV 0 hts (xG_V mw_241 mw_242 mw_243 mw_149 mw_244) rfl rfl rfl (by decide +kernel) ⟨(Nat.le_of_ble_eq_true rfl), (Nat.le_of_ble_eq_true rfl)⟩) (xw_preV (ci := 3) hw hK hE rfl hk) rfl rfl hl.1 rfl (lv_room (by first | exact Nat.le_of_ble_eq_true rfl | simp [va_rf_cat, xcat_i, xcat_l, xcat_r, xcat_n])) dBA_breaksLimit_6 ⟨(Nat.le_of_ble_eq_true rfl), (Nat.le_of_ble_eq_true rfl)⟩) hw (fun r3 w4 H locs h hw => ?_)
  clear hcall
  refine lv_if_eq (tgt := 37) hx hb dBA_breaksLimit_9 rfl (fun hc => ?_) (fun hc => ?_)
  · replace h := h.1 hc
    refine lv_iconst (v := 0) hx hb dBA_breaksLimit_37 (by decide) ?_
    refine W.widen (k := 0) (n := 0) (Nat.le_of_ble_eq_true rfl) (Nat.le_of_ble_eq_true rfl) ?_
    exact xw_zret (by decide) hx hb hr hlocks hw h dBA_breaksLimit_38
  · replace h := h.2 hc
    refine xl_aload_n hx hb dBA_breaksLimit_12 rfl (lv_at hl 0 rfl) ?_
    obtain ⟨a5, rfl, h⟩ := h
    obtain ⟨v6, hv, h⟩ := h
    refine xw_getL (C := RAC) (T := TAC) (N := 4) (ref := RAC) hx hb hts inAC hown hK hw rfl 3 (by decide) (hts _ mw_196) (fun _ h9 => h9) hv dBA_breaksLimit_13 ?_
    refine lv_aload_n hx hb dBA_breaksLimit_16 rfl (lv_at hl 1 rfl) ?_
    refine lv_aload_n hx hb dBA_breaksLimit_17 rfl (lv_at hl 0 rfl) ?_
    refine lv_iload_n hx hb dBA_breaksLimit_18 rfl (lv_at hl 3 rfl) ?_
    obtain ⟨⟨fs, hk⟩, h⟩ := h
    have hcall := h
    clear h
    refine xw_calll (va_runV (As := [.ref a5, .int p1]) (rest := [.long v6]) ⟨hx, hb, hml, hown, hts⟩ (c_BA_sumForAccount l D E A _ w4 h0 (some a5) p1 hcall) (cwV 2 hts (xG_V mw_240 mw_179 mw_180 mw_110 mw_181) rfl rfl rfl (by decide +kernel) ⟨(Nat.le_of_ble_eq_true rfl), (Nat.le_of_ble_eq_true rfl)⟩) (xw_preV (ci := 2) hw hK hE rfl hk) rfl rfl hl.1 rfl (lv_room (by first | exact Nat.le_of_ble_eq_true rfl | simp [va_rf_cat, xcat_i, xcat_l, xcat_r, xcat_n])) dBA_breaksLimit_19 ⟨(Nat.le_of_ble_eq_true rfl), (Nat.le_of_ble_eq_true rfl)⟩) hw (fun r7 w8 H locs h hw => ?_)
    clear hcall
    refine lv_ladd hx hb dBA_breaksLimit_22 ?_
    refine lv_aload_n hx hb dBA_breaksLimit_23 rfl (lv_at hl 0 rfl) ?_
    obtain ⟨v9, hv, h⟩ := h
    refine xw_getI (C := RAC) (T := TAC) (N := 4) (ref := RAC) hx hb hts inAC hown hK hw rfl 2 (by decide) (hts _ mw_239) (fun _ h9 => h9) hv dBA_breaksLimit_24 ?_
    refine lv_ineg hx hb dBA_breaksLimit_27 ?_
    refine lv_i2l hx hb dBA_breaksLimit_28 rfl ?_
    refine xl_lc_ge (tgt := 37) hx hb dBA_breaksLimit_29 dBA_breaksLimit_30 rfl (fun hc => ?_) (fun hc => ?_)
    · replace h := h.1 hc
      refine lv_iconst (v := 0) hx hb dBA_breaksLimit_37 (by decide) ?_
      refine W.widen (k := 0) (n := 0) (Nat.le_of_ble_eq_true rfl) (Nat.le_of_ble_eq_true rfl) ?_
      exact xw_zret (by decide) hx hb hr hlocks hw h dBA_breaksLimit_38
    · replace h := h.2 hc
      refine lv_iconst (v := 1) hx hb dBA_breaksLimit_33 (by decide) ?_
      refine lv_goto (tgt := 38) hx hb dBA_breaksLimit_34 rfl ?_
      refine W.widen (k := 0) (n := 0) (Nat.le_of_ble_eq_true rfl) (Nat.le_of_ble_eq_true rfl) ?_
      exact xw_zret (by decide) hx hb hr hlocks hw h dBA_breaksLimit_38
def wl_BA_outcomeOfPosting_25 (E : xE_T) (post : Option Nat → xw_T → Prop) : Nat → xw_T → Nat → Int32 → Prop
  | 0 => fun _ _ _ => False
  | n25 + 1 => fun w x0 x1 => ∃ v1, xgR w x0 2 1 = some v1 ∧ (∃ a2 : Nat, v1 = some a2 ∧ ((∃ fs, w a2 = some (.inr (0, fs))) ∧ wp_AL_size E (fun r3 w4 => (r3 ≤ x1 → (post (some (E.2 3)) w4)) ∧ (¬ r3 ≤ x1 → (∃ v5, xgR w4 x0 2 1 = some v5 ∧ (∃ a6 : Nat, v5 = some a6 ∧ ((∃ fs, w4 a6 = some (.inr (0, fs))) ∧ wp_AL_get E (fun r7 w8 => ∃ a9 : Nat, r7 = some a9 ∧ ((∃ fs, w8 a9 = some (.inr (3, fs))) ∧ ((∃ fs, w8 x0 = some (.inr (2, fs))) ∧ wp_BA_breaksLimit E (fun r10 w11 => (r10 = 0 → (∃ v12, xgI w11 x0 2 3 = some v12 ∧ ((v12 = 0 → (wl_BA_outcomeOfPosting_25 E post n25 w11 x0 (x1 + 1))) ∧ (¬ v12 = 0 → (post (some (E.2 4)) w11))))) ∧ (¬ r10 = 0 → (post (some (E.2 5)) w11))) w8 x0 (some a9) (x1 + 1)))) w4 a6 x1))))) w a2))
def wp_BA_outcomeOfPosting (E : xE_T) (post : Option Nat → xw_T → Prop) (w : xw_T) (h0 : Nat) : Prop := ∃ v13, xgR w h0 2 1 = some v13 ∧ (∃ a14 : Nat, v13 = some a14 ∧ ((∃ fs, w a14 = some (.inr (0, fs))) ∧ wp_AL_isEmpty E (fun r15 w16 => (¬ r15 = 0 → (post (some (E.2 5)) w16)) ∧ (r15 = 0 → ((∃ fs, w16 h0 = some (.inr (2, fs))) ∧ wp_BA_sumOfRows E (fun r17 w18 => (r17 = 0 → (∃ n25, wl_BA_outcomeOfPosting_25 E post n25 w18 h0 0)) ∧ (¬ r17 = 0 → (post (some (E.2 5)) w18))) w16 h0))) w a14))
set_option maxHeartbeats 4000000 in
set_option maxRecDepth 100000 in
theorem c_BA_outcomeOfPosting (l : Launch) (D : va_G) (E : xE_T) (A : Nat → Prop) (post : Option Nat → xw_T → Prop) (w : xw_T) (h0 : Nat) (h : wp_BA_outcomeOfPosting E post w h0) : Met l yBA_outcomeOfPosting (xW yBA_outcomeOfPosting cBA_outcomeOfPosting 2 (some (.object "PostLedger$Outcome"))) ({ frames := 5, cells := 0, slots := 0, locals := 113 } : Room) (va_Pc [.ref h0] (xP D E A w)) (va_Qq post (xB D A) A) 0 0 A := by
  refine Met.ofW (cc := cBA_outcomeOfPosting) (maxL := 2) (ret := (some (.object "PostLedger$Outcome"))) (by decide) rfl ?_
  intro p e s m args below meth c s₁ B hml hv
  obtain ⟨rfl, hw, hK, hE⟩ := hv
  have hx := B.exec
  have hb := B.bytes
  have hr := B.returns
  have hts : ∀ w ∈ xTB, w.before _ s = true := fun w hw => atoms_spec (ws := xW yBA_outcomeOfPosting cBA_outcomeOfPosting 2 (some (.object "PostLedger$Outcome"))) B.pre w (List.mem_cons_of_mem _ hw)
  have hown : s.vm.findClass RBA = some m.cls := findClass_of_methodNamed B.named
  have hlocks := B.notSynchronized
  have hw : xw_S D vwCl A s.heap w s.heap [] := xw_S0 hw
  have lo_25 : ∀ (n25 : Nat) (w : xw_T) (x0 : Nat) (x1 : Int32) (H : Heap) (locs : List Loc) (ls : Array Slot), lv_has ls 2 [(0, .ref x0), (1, .int x1)] → xw_S D vwCl A s.heap w H locs → wl_BA_outcomeOfPosting_25 E post n25 w x0 x1 → W p l e (headSpec (xW yBA_outcomeOfPosting cBA_outcomeOfPosting 2 (some (.object "PostLedger$Outcome"))) ({ frames := 5, cells := 0, slots := 0, locals := 113 } : Room)).room s m ([.ref h0] : List Value).toArray below meth c H locs 0 0 (MQ below (va_Qq post (xB D A) A) ([.ref h0] : List Value).toArray s 0 0 A) (F0 m 25 ls []) := by
    intro n25
    induction n25 with
    | zero => intro w x0 x1 H locs ls hl hw h; exact h.elim
    | succ n25 ih25 =>
      intro w x0 x1 H locs ls hl hw h
      dsimp only [wl_BA_outcomeOfPosting_25] at h
      refine lv_iload_n hx hb dBA_outcomeOfPosting_25 rfl (lv_at hl 1 rfl) ?_
      refine lv_aload_n hx hb dBA_outcomeOfPosting_26 rfl (lv_at hl 0 rfl) ?_
      obtain ⟨v1, hv, h⟩ := h
      refine xw_getR (C := RBA) (T := TBA) (N := 6) (ref := RBA) hx hb hts inBA hown hK hw rfl 1 (by decide) (hts _ mw_103) (fun _ h9 => h9) hv dBA_outcomeOfPosting_27 ?_
      obtain ⟨a2, rfl, h⟩ := h
      obtain ⟨⟨fs, hk⟩, h⟩ := h
      have hcall := h
      clear h
      refine xw_calli (va_runV (As := []) (rest := [.int x1]) ⟨hx, hb, hml, hown, hts⟩ (c_AL_size l D E A _ w a2 hcall) (cwV 0 hts (xG_V mw_142 mw_79 mw_80 mw_19 mw_81) rfl rfl rfl (by decide +kernel) ⟨(Nat.le_of_ble_eq_true rfl), (Nat.le_of_ble_eq_true rfl)⟩) (xw_preV (ci := 0) hw hK hE rfl hk) rfl rfl hl.1 rfl (lv_room (by first | exact Nat.le_of_ble_eq_true rfl | simp [va_rf_cat, xcat_i, xcat_l, xcat_r, xcat_n])) dBA_outcomeOfPosting_30 ⟨(Nat.le_of_ble_eq_true rfl), (Nat.le_of_ble_eq_true rfl)⟩) hw (fun r3 w4 H locs h hw => ?_)
      clear hcall
      refine lv_icmp_ge (tgt := 78) hx hb dBA_outcomeOfPosting_33 rfl (fun hc => ?_) (fun hc => ?_)
      · replace h := h.1 hc
        refine va_gets hx hb hE.2.2.2.1.1 hw.2.1 hown (hts _ mw_245) (fun _ h9 => h9) dBA_outcomeOfPosting_78 ?_
        refine W.widen (k := 0) (n := 0) (Nat.le_of_ble_eq_true rfl) (Nat.le_of_ble_eq_true rfl) ?_
        exact xw_aret (r := (some (E.2 3))) (Or.inl ⟨_, rfl⟩) hx hb hr hlocks hw h dBA_outcomeOfPosting_81
      · replace h := h.2 hc
        refine lv_aload_n hx hb dBA_outcomeOfPosting_36 rfl (lv_at hl 0 rfl) ?_
        refine lv_aload_n hx hb dBA_outcomeOfPosting_37 rfl (lv_at hl 0 rfl) ?_
        obtain ⟨v5, hv, h⟩ := h
        refine xw_getR (C := RBA) (T := TBA) (N := 6) (ref := RBA) hx hb hts inBA hown hK hw rfl 1 (by decide) (hts _ mw_103) (fun _ h9 => h9) hv dBA_outcomeOfPosting_38 ?_
        refine lv_iload_n hx hb dBA_outcomeOfPosting_41 rfl (lv_at hl 1 rfl) ?_
        obtain ⟨a6, rfl, h⟩ := h
        obtain ⟨⟨fs, hk⟩, h⟩ := h
        have hcall := h
        clear h
        refine xw_callq (va_runV (As := [.int x1]) (rest := [.ref x0]) ⟨hx, hb, hml, hown, hts⟩ (c_AL_get l D E A _ w4 a6 x1 hcall) (cwV 1 hts (xG_V mw_177 mw_139 mw_140 mw_19 mw_141) rfl rfl rfl (by decide +kernel) ⟨(Nat.le_of_ble_eq_true rfl), (Nat.le_of_ble_eq_true rfl)⟩) (xw_preV (ci := 0) hw hK hE rfl hk) rfl rfl hl.1 rfl (lv_room (by first | exact Nat.le_of_ble_eq_true rfl | simp [va_rf_cat, xcat_i, xcat_l, xcat_r, xcat_n])) dBA_outcomeOfPosting_42 ⟨(Nat.le_of_ble_eq_true rfl), (Nat.le_of_ble_eq_true rfl)⟩) hw (fun r7 w8 H locs h hw => ?_)
        clear hcall
        obtain ⟨a9, rfl, h⟩ := h
        obtain ⟨⟨fs, hk⟩, h⟩ := h
        refine va_castS hx hb hown (hts _ mw_151) (hK.1 3 _ rfl).2 (xw_recv hK hw (ci := 3) rfl hk) dBA_outcomeOfPosting_45 ?_
        refine lv_iload_n hx hb dBA_outcomeOfPosting_48 rfl (lv_at hl 1 rfl) ?_
        refine lv_iconst (v := 1) hx hb dBA_outcomeOfPosting_49 (by decide) ?_
        refine lv_iadd hx hb dBA_outcomeOfPosting_50 ?_
        obtain ⟨⟨fs, hk⟩, h⟩ := h
        have hcall := h
        clear h
        refine xw_calli (va_runV (As := [.ref a9, .int (x1 + 1)]) (rest := []) ⟨hx, hb, hml, hown, hts⟩ (c_BA_breaksLimit l D E A _ w8 x0 (some a9) (x1 + 1) hcall) (cwV 2 hts (xG_V mw_249 mw_250 mw_251 mw_110 mw_252) rfl rfl rfl (by decide +kernel) ⟨(Nat.le_of_ble_eq_true rfl), (Nat.le_of_ble_eq_true rfl)⟩) (xw_preV (ci := 2) hw hK hE rfl hk) rfl rfl hl.1 rfl (lv_room (by first | exact Nat.le_of_ble_eq_true rfl | simp [va_rf_cat, xcat_i, xcat_l, xcat_r, xcat_n])) dBA_outcomeOfPosting_51 ⟨(Nat.le_of_ble_eq_true rfl), (Nat.le_of_ble_eq_true rfl)⟩) hw (fun r10 w11 H locs h hw => ?_)
        clear hcall
        refine lv_if_eq (tgt := 61) hx hb dBA_outcomeOfPosting_54 rfl (fun hc => ?_) (fun hc => ?_)
        · replace h := h.1 hc
          refine lv_aload_n hx hb dBA_outcomeOfPosting_61 rfl (lv_at hl 0 rfl) ?_
          obtain ⟨v12, hv, h⟩ := h
          refine xw_getI (C := RBA) (T := TBA) (N := 6) (ref := RBA) hx hb hts inBA hown hK hw rfl 3 (by decide) (hts _ mw_247) (fun _ h9 => h9) hv dBA_outcomeOfPosting_62 ?_
          refine lv_if_eq (tgt := 72) hx hb dBA_outcomeOfPosting_65 rfl (fun hc => ?_) (fun hc => ?_)
          · replace h := h.1 hc
            refine lv_iinc (k := 1) (v := x1 + 1) (lv' := [(1, .int (x1 + 1)), (0, .ref x0)]) hx hb dBA_outcomeOfPosting_72 hl rfl rfl (by decide) (by first | rfl | simp [va_rf_cat, xcat_i, xcat_l, xcat_r, xcat_n]) (fun ls hl => ?_)
            refine lv_goto (tgt := 25) hx hb dBA_outcomeOfPosting_75 rfl ?_
            exact ih25 _ x0 (x1 + 1) _ _ _ (lv_sub hl [1, 0] rfl) hw h
          · replace h := h.2 hc
            refine va_gets hx hb hE.2.2.2.1.2.1 hw.2.1 hown (hts _ mw_246) (fun _ h9 => h9) dBA_outcomeOfPosting_68 ?_
            refine W.widen (k := 0) (n := 0) (Nat.le_of_ble_eq_true rfl) (Nat.le_of_ble_eq_true rfl) ?_
            exact xw_aret (r := (some (E.2 4))) (Or.inl ⟨_, rfl⟩) hx hb hr hlocks hw h dBA_outcomeOfPosting_71
        · replace h := h.2 hc
          refine va_gets hx hb hE.2.2.2.1.2.2 hw.2.1 hown (hts _ mw_248) (fun _ h9 => h9) dBA_outcomeOfPosting_57 ?_
          refine W.widen (k := 0) (n := 0) (Nat.le_of_ble_eq_true rfl) (Nat.le_of_ble_eq_true rfl) ?_
          exact xw_aret (r := (some (E.2 5))) (Or.inl ⟨_, rfl⟩) hx hb hr hlocks hw h dBA_outcomeOfPosting_60
  refine xl_start (lvs := [(0, .ref h0)]) (by first | exact Nat.le_of_ble_eq_true rfl | simp [lg_sl, va_rf_cat, xcat_i, xcat_l, xcat_r, xcat_n]) (by first | rfl | simp [lv_args, va_rf_cat, xcat_i, xcat_l, xcat_r, xcat_n]) (fun ls hl => ?_)
  unfold wp_BA_outcomeOfPosting at h
  refine lv_aload_n hx hb dBA_outcomeOfPosting_0 rfl (lv_at hl 0 rfl) ?_
  obtain ⟨v13, hv, h⟩ := h
  refine xw_getR (C := RBA) (T := TBA) (N := 6) (ref := RBA) hx hb hts inBA hown hK hw rfl 1 (by decide) (hts _ mw_103) (fun _ h9 => h9) hv dBA_outcomeOfPosting_1 ?_
  obtain ⟨a14, rfl, h⟩ := h
  obtain ⟨⟨fs, hk⟩, h⟩ := h
  have hcall := h
  clear h
  refine xw_calli (va_runV (As := []) (rest := []) ⟨hx, hb, hml, hown, hts⟩ (c_AL_isEmpty l D E A _ w a14 hcall) (cwV 0 hts (xG_V mw_257 mw_258 mw_259 mw_19 mw_260) rfl rfl rfl (by decide +kernel) ⟨(Nat.le_of_ble_eq_true rfl), (Nat.le_of_ble_eq_true rfl)⟩) (xw_preV (ci := 0) hw hK hE rfl hk) rfl rfl hl.1 rfl (lv_room (by first | exact Nat.le_of_ble_eq_true rfl | simp [va_rf_cat, xcat_i, xcat_l, xcat_r, xcat_n])) dBA_outcomeOfPosting_4 ⟨(Nat.le_of_ble_eq_true rfl), (Nat.le_of_ble_eq_true rfl)⟩) hw (fun r15 w16 H locs h hw => ?_)
  clear hcall
  refine lv_if_ne (tgt := 19) hx hb dBA_outcomeOfPosting_7 rfl (fun hc => ?_) (fun hc => ?_)
  · replace h := h.1 hc
    refine va_gets hx hb hE.2.2.2.1.2.2 hw.2.1 hown (hts _ mw_248) (fun _ h9 => h9) dBA_outcomeOfPosting_19 ?_
    refine W.widen (k := 0) (n := 0) (Nat.le_of_ble_eq_true rfl) (Nat.le_of_ble_eq_true rfl) ?_
    exact xw_aret (r := (some (E.2 5))) (Or.inl ⟨_, rfl⟩) hx hb hr hlocks hw h dBA_outcomeOfPosting_22
  · replace h := h.2 hc
    refine lv_aload_n hx hb dBA_outcomeOfPosting_10 rfl (lv_at hl 0 rfl) ?_
    obtain ⟨⟨fs, hk⟩, h⟩ := h
    have hcall := h
    clear h
    refine xw_calll (va_runV (As := []) (rest := []) ⟨hx, hb, hml, hown, hts⟩ (c_BA_sumOfRows l D E A _ w16 h0 hcall) (cwV 0 hts (xG_V mw_253 mw_254 mw_255 mw_110 mw_256) rfl rfl rfl (by decide +kernel) ⟨(Nat.le_of_ble_eq_true rfl), (Nat.le_of_ble_eq_true rfl)⟩) (xw_preV (ci := 2) hw hK hE rfl hk) rfl rfl hl.1 rfl (lv_room (by first | exact Nat.le_of_ble_eq_true rfl | simp [va_rf_cat, xcat_i, xcat_l, xcat_r, xcat_n])) dBA_outcomeOfPosting_11 ⟨(Nat.le_of_ble_eq_true rfl), (Nat.le_of_ble_eq_true rfl)⟩) hw (fun r17 w18 H locs h hw => ?_)
    clear hcall
    refine lv_lconst (v := 0) hx hb dBA_outcomeOfPosting_14 (by decide) ?_
    refine xl_lc_eq (tgt := 23) hx hb dBA_outcomeOfPosting_15 dBA_outcomeOfPosting_16 rfl (fun hc => ?_) (fun hc => ?_)
    · replace h := h.1 hc
      refine lv_iconst (v := 0) hx hb dBA_outcomeOfPosting_23 (by decide) ?_
      refine lv_istore_n (i := 1) (lv' := [(1, .int 0), (0, .ref h0)]) hx hb dBA_outcomeOfPosting_24 rfl hl (by decide) (by first | rfl | simp [va_rf_cat, xcat_i, xcat_l, xcat_r, xcat_n]) (fun ls hl => ?_)
      obtain ⟨n25, h⟩ := h
      refine W.widen (k := 0) (n := 0) (Nat.le_of_ble_eq_true rfl) (Nat.le_of_ble_eq_true rfl) ?_
      exact lo_25 n25 _ h0 0 _ _ _ (lv_sub hl [1, 0] rfl) hw h
    · replace h := h.2 hc
      refine va_gets hx hb hE.2.2.2.1.2.2 hw.2.1 hown (hts _ mw_248) (fun _ h9 => h9) dBA_outcomeOfPosting_19 ?_
      refine W.widen (k := 0) (n := 0) (Nat.le_of_ble_eq_true rfl) (Nat.le_of_ble_eq_true rfl) ?_
      exact xw_aret (r := (some (E.2 5))) (Or.inl ⟨_, rfl⟩) hx hb hr hlocks hw h dBA_outcomeOfPosting_22
