/-! the law's post -/
def wp_LA_post (E : xE_T) (post : Int32 → xw_T → Prop) (w : xw_T) (p0 : Option Nat) (p1 : Int32) (p2 : Option Nat) : Prop := ∃ a0 : Nat, p0 = some a0 ∧ (∃ fs, w a0 = some (.inr (4, fs))) ∧
  (wp_PL_post E (fun r w1 => ∃ ao : Nat, p2 = some ao ∧ ∃ n f, xaL w1 ao (E.1 2) = some (n, f) ∧ vp_in (0 : Int32) n ∧ ∀ w2, w2 = va_up w1 ao (some (xcL (E.1 2) n (vp_updL f (0 : Int32).toNatClampNeg r.toInt64))) → post 0 w2) (fun _ => False) w a0 p1 ∨ wp_PL_post E (fun _ _ => False) (fun w1 => post 1 w1) w a0 p1)
set_option maxHeartbeats 4000000 in
set_option maxRecDepth 100000 in
theorem c_LA_post (l : Launch) (hlT : l.stackTraces = false) (D : va_G) (E : xE_T) (A : Nat → Prop) (post : Int32 → xw_T → Prop) (w : xw_T) (p0 : Option Nat) (p1 : Int32) (p2 : Option Nat) (h : wp_LA_post E post w p0 p1 p2) : Met l yLA_post (xWw yLA_post cLA_post 4 (some (.int)) [(0, 9, 12, 13)]) ({ frames := 7, cells := 1, slots := 6, locals := 157 } : Room) (va_Pc [va_rf p0, .int p1, va_rf p2] (xP D E A w)) (va_Qi post (xB D A) A) 1 6 A := by
  refine va_MetW (cc := cLA_post) (maxL := 4) (ret := (some (.int))) (hh := [(0, 9, 12, 13)]) (by decide) rfl ?_
  intro p e s m args below meth c s₁ B hml hv
  obtain ⟨rfl, hw, hK, hE⟩ := hv
  have hx := B.exec
  have hb := B.bytes
  have hr := B.returns
  have hts0 := atoms_spec (ws := xWw yLA_post cLA_post 4 (some (.int)) [(0, 9, 12, 13)]) B.pre
  have hts : ∀ w ∈ xTB, w.before _ s = true := fun w hw => hts0 w (List.mem_cons_of_mem _ hw)
  have hown : s.vm.findClass RLA = some m.cls := findClass_of_methodNamed B.named
  have hlocks := B.notSynchronized
  have htab : c.exceptionTable.toList = [⟨0, 9, 12, 13⟩] := by
    obtain ⟨m9, meth9, c9, hn9, h1, h2, -, -, h3, -⟩ := Cond.codeWith_spec (hts0 _ List.mem_cons_self)
    cases B.named.symm.trans hn9
    cases B.method.symm.trans h1
    cases (Stand.of_body B).code.symm.trans h2
    have h4 := Jvm.table_eq c.exceptionTable.toList
    rw [h3] at h4
    exact h4.symm
  have hcast : (Cond.castable xEx xEx).before _ s = true := xKw_use (hE.2.2.2.2.2 _ (by decide +kernel)) #[va_rf p0, .int p1, va_rf p2]
  have hw : xw_S D vwCl A s.heap w s.heap [] := xw_S0 hw
  refine xl_start (lvs := [(0, va_rf p0), (1, .int p1), (2, va_rf p2)]) (by simp [lg_sl, va_rf_cat, xcat_i, xcat_l, xcat_r, xcat_n]) (by simp [lv_args, va_rf_cat, xcat_i, xcat_l, xcat_r, xcat_n]) (fun ls hl => ?_)
  unfold wp_LA_post at h
  refine xl_aload_n hx hb dLA_post_0 rfl (lv_at hl 2 rfl) ?_
  refine lv_iconst (v := 0) hx hb dLA_post_1 (by decide) ?_
  obtain ⟨a0, rfl, ⟨fs, hk⟩, h⟩ := h
  refine lv_aload_n hx hb dLA_post_2 rfl (lv_at hl 0 rfl) ?_
  refine lv_iload_n hx hb dLA_post_3 rfl (lv_at hl 1 rfl) ?_
  rcases h with hcall | hcall
  · refine xw_calli (va_runV (As := [.int p1]) (rest := [.int 0, va_rf p2]) ⟨hx, hb, hml, hown, hts⟩ (xMetT.met (c_PL_post l hlT D E A _ _ w a0 p1 hcall)) (cwV 1 hts (xG_V mw_350 mw_351 mw_352 mw_95 mw_353) rfl rfl rfl (by decide +kernel) ⟨(Nat.le_of_ble_eq_true rfl), (Nat.le_of_ble_eq_true rfl)⟩) (xw_preV (ci := 4) hw hK hE rfl hk) rfl rfl hl.1 rfl (lv_room (by first | exact Nat.le_of_ble_eq_true rfl | simp [va_rf_cat, xcat_i, xcat_l, xcat_r, xcat_n])) dLA_post_4 ⟨(Nat.le_of_ble_eq_true rfl), (Nat.le_of_ble_eq_true rfl)⟩) hw (fun r w1 H locs h hw => ?_)
    refine lv_i2l hx hb dLA_post_7 rfl ?_
    obtain ⟨ao, rfl, n, f, ha, hin9, h⟩ := h
    refine xw_last hx hb hK hw 2 rfl ha hin9 dLA_post_8 (fun H locs hw => ?_)
    refine lv_goto (tgt := 15) hx hb dLA_post_9 rfl ?_
    refine lv_iconst (v := 0) hx hb dLA_post_15 (by decide) ?_
    refine W.widen (k := 1) (n := 6) (Nat.le_of_ble_eq_true rfl) (Nat.le_of_ble_eq_true rfl) ?_
    exact xw_iret hx hb hr hlocks hw (h _ rfl) dLA_post_16
  · refine xT_callV (As := [.int p1]) (rest := [.int 0, va_rf p2]) ⟨hx, hb, hml, hown, hts⟩ (c_PL_post l hlT D E A _ _ w a0 p1 hcall) (cwV 1 hts (xG_V mw_350 mw_351 mw_352 mw_95 mw_353) rfl rfl rfl (by decide +kernel) ⟨(Nat.le_of_ble_eq_true rfl), (Nat.le_of_ble_eq_true rfl)⟩) (xw_preV (ci := 4) hw hK hE rfl hk) rfl hl.1 rfl (lv_room (by first | exact Nat.le_of_ble_eq_true rfl | simp [va_rf_cat, xcat_i, xcat_l, xcat_r, xcat_n])) dLA_post_4 ⟨(Nat.le_of_ble_eq_true rfl), (Nat.le_of_ble_eq_true rfl)⟩ hw ⟨0, 9, 12, 13⟩ htab (by decide) (by decide) (hts _ mw_354) hcast (fun q w1 H locs h hw => ?_)
    refine lv_astore_n (i := 3) (lv' := [(3, .ref q), (0, va_rf (some a0)), (1, .int p1), (2, va_rf p2)]) hx hb dLA_post_12 rfl hl (by decide) (by simp [va_rf_cat, xcat_i, xcat_l, xcat_r, xcat_n]) (fun ls hl => ?_)
    refine lv_iconst (v := 1) hx hb dLA_post_13 (by decide) ?_
    refine W.widen (k := 1) (n := 6) (Nat.le_of_ble_eq_true rfl) (Nat.le_of_ble_eq_true rfl) ?_
    exact xw_iret hx hb hr hlocks hw h dLA_post_14
