/-! the law: its cases -/
section LAWC
variable {p : Program} {l : Launch} {e : Env} {s : State} {m : MethodId} {args : Array Value} {below : List Frame} {meth : Method} {c : Code} {Q : State → Prop} {D : va_G} {E : xE_T} {A : Nat → Prop} {b L : Nat} {xs : Nat → Int32}
def wc_104 (E : xE_T) (L : Nat) (xs : Nat → Int32) (K : xw_T → Prop) (w : xw_T) (a1 a2 a3 : Nat) (i : Int32) : Prop := vp_in (i + 1) L ∧ (vp_in (i + 2) L ∧ ((∃ fs, w a1 = some (.inr (4, fs))) ∧ wp_PL_account E (fun r1 w2 => vp_in (i + 1) L ∧ (vp_in (i + 2) L ∧ ((∃ fs, w2 a2 = some (.inr (5, fs))) ∧ wp_MO_account E (fun r3 w4 => (r1 = r3 → (K w4)) ∧ (¬ r1 = r3 → (False))) w2 a2 (xs (i + 1).toNatClampNeg) (xs (i + 2).toNatClampNeg)))) w a1 (xs (i + 1).toNatClampNeg) (xs (i + 2).toNatClampNeg)))
set_option maxHeartbeats 4000000 in
set_option maxRecDepth 100000 in
theorem k_104 (hlT : l.stackTraces = false) (hx : p.tables.exec = Jvm.exec) (hb : c.code = cLA_law) (hml : c.maxLocals = 7) (hown : s.vm.findClass RLA = some m.cls) (hts : ∀ w ∈ xTB, w.before args s = true) (hK : va_K D vwCl (xtys E) s) (hE : xF E A s) (hX : va_X b L xs s s.heap) (hbl : b < s.heap.size) (hbA : ¬ A b) {K : xw_T → Prop} {w : xw_T} {a1 a2 a3 k : Nat} {i : Int32} {H : Heap} {locs : List Loc} {ls : Array Slot} (hl : lv_has ls 7 [(4, .int (i)), (3, .ref a3), (2, .ref a2), (1, .ref a1), (0, .ref b)]) (hw : xw_S D vwCl A s.heap w H locs) (hkk : k ≤ 512) (h : wc_104 E L xs K w a1 a2 a3 i)
    (kk : ∀ (w : xw_T) (H : Heap) (locs : List Loc) (ls : Array Slot), lv_has ls 7 [(4, .int (i + 5)), (3, .ref a3), (2, .ref a2), (1, .ref a1), (0, .ref b)] → xw_S D vwCl A s.heap w H locs → K w → W p l e room_1 s m args below meth c H locs (17 + 27 * (k + 1)) (9541 + 4791 * (k + 1)) Q (F0 m 23 ls [])) : W p l e room_1 s m args below meth c H locs (17 + 27 * k) (9541 + 4791 * k) Q (F0 m 104 ls []) := by
  unfold wc_104 at h
  refine lv_aload_n hx hb dLA_law_104 rfl (lv_at hl 3 rfl) ?_
  refine lv_aload_n hx hb dLA_law_105 rfl (lv_at hl 4 rfl) ?_
  refine lv_iload hx hb dLA_law_106 (lv_at hl 0 rfl) ?_
  refine lv_iconst (v := 1) hx hb dLA_law_108 (by decide) ?_
  refine lv_iadd hx hb dLA_law_109 ?_
  obtain ⟨hin9, h⟩ := h
  refine va_sld hx hb hX hbl hbA hw.2.1 hin9 dLA_law_110 ?_
  refine lv_aload_n hx hb dLA_law_111 rfl (lv_at hl 4 rfl) ?_
  refine lv_iload hx hb dLA_law_112 (lv_at hl 0 rfl) ?_
  refine lv_iconst (v := 2) hx hb dLA_law_114 (by decide) ?_
  refine lv_iadd hx hb dLA_law_115 ?_
  obtain ⟨hin9, h⟩ := h
  refine va_sld hx hb hX hbl hbA hw.2.1 hin9 dLA_law_116 ?_
  obtain ⟨⟨fs, hk⟩, h⟩ := h
  have hcall := h
  clear h
  refine xw_calli (va_runV (As := [.int (xs (i + 1).toNatClampNeg), .int (xs (i + 2).toNatClampNeg)]) (rest := []) ⟨hx, hb, hml, hown, hts⟩ (c_PL_account l D E A _ w a1 (xs (i + 1).toNatClampNeg) (xs (i + 2).toNatClampNeg) hcall) (cwV 2 hts (xG_V mw_359 mw_360 mw_361 mw_95 mw_362) rfl rfl rfl (by decide +kernel) ⟨(Nat.le_of_ble_eq_true rfl), (Nat.le_of_ble_eq_true rfl)⟩) (xw_preV (ci := 4) hw hK hE rfl hk) rfl rfl hl.1 rfl (lv_room (by first | exact Nat.le_of_ble_eq_true rfl | simp [va_rf_cat, xcat_i, xcat_l, xcat_r, xcat_n])) dLA_law_117 ⟨by show 17 + 27 * k + 2 ≤ 601024; omega, by show 9541 + 4791 * k + 370 ≤ 7293034; omega⟩) hw (fun r1 w2 H locs h hw => ?_)
  clear hcall
  refine lv_aload_n hx hb dLA_law_120 rfl (lv_at hl 2 rfl) ?_
  refine lv_aload_n hx hb dLA_law_121 rfl (lv_at hl 4 rfl) ?_
  refine lv_iload hx hb dLA_law_122 (lv_at hl 0 rfl) ?_
  refine lv_iconst (v := 1) hx hb dLA_law_124 (by decide) ?_
  refine lv_iadd hx hb dLA_law_125 ?_
  obtain ⟨hin9, h⟩ := h
  refine va_sld hx hb hX hbl hbA hw.2.1 hin9 dLA_law_126 ?_
  refine lv_aload_n hx hb dLA_law_127 rfl (lv_at hl 4 rfl) ?_
  refine lv_iload hx hb dLA_law_128 (lv_at hl 0 rfl) ?_
  refine lv_iconst (v := 2) hx hb dLA_law_130 (by decide) ?_
  refine lv_iadd hx hb dLA_law_131 ?_
  obtain ⟨hin9, h⟩ := h
  refine va_sld hx hb hX hbl hbA hw.2.1 hin9 dLA_law_132 ?_
  obtain ⟨⟨fs, hk⟩, h⟩ := h
  have hcall := h
  clear h
  refine xw_calli (va_runV (As := [.int (xs (i + 1).toNatClampNeg), .int (xs (i + 2).toNatClampNeg)]) (rest := [.int r1]) ⟨hx, hb, hml, hown, hts⟩ (c_MO_account l D E A _ w2 a2 (xs (i + 1).toNatClampNeg) (xs (i + 2).toNatClampNeg) hcall) (cwV 2 hts (xG_V mw_355 mw_356 mw_357 mw_294 mw_358) rfl rfl rfl (by decide +kernel) ⟨(Nat.le_of_ble_eq_true rfl), (Nat.le_of_ble_eq_true rfl)⟩) (xw_preV (ci := 5) hw hK hE rfl hk) rfl rfl hl.1 rfl (lv_room (by first | exact Nat.le_of_ble_eq_true rfl | simp [va_rf_cat, xcat_i, xcat_l, xcat_r, xcat_n])) dLA_law_133 ⟨by show 17 + 27 * k + 2 + 0 ≤ 601024; omega, by show 9541 + 4791 * k + 370 + 0 ≤ 7293034; omega⟩) hw (fun r3 w4 H locs h hw => ?_)
  clear hcall
  refine lv_icmp_eq (tgt := 743) hx hb dLA_law_136 rfl (fun hc => ?_) (fun hc => ?_)
  · replace h := h.1 hc
    refine lv_iinc (k := 0) (v := i + 5) (lv' := [(4, .int (i + 5)), (3, .ref a3), (2, .ref a2), (1, .ref a1), (0, .ref b)]) hx hb dLA_law_743 hl rfl rfl (by decide) (by first | rfl | simp [va_rf_cat, xcat_i, xcat_l, xcat_r, xcat_n]) (fun ls hl => ?_)
    refine lv_goto (tgt := 23) hx hb dLA_law_746 rfl ?_
    refine W.widen (k := 17 + 27 * (k + 1)) (n := 9541 + 4791 * (k + 1)) (by omega) (by omega) ?_
    exact kk _ _ _ _ (lv_sub hl [0, 1, 2, 3, 4] rfl) hw h
  · replace h := h.2 hc
    refine lv_iconst (v := 0) hx hb dLA_law_139 (by decide) ?_
    exact h.elim
def wc_141 (E : xE_T) (L : Nat) (xs : Nat → Int32) (K : xw_T → Prop) (w : xw_T) (a1 a2 a3 : Nat) (i : Int32) : Prop := vp_in (i + 1) L ∧ (vp_in (i + 2) L ∧ ((∃ fs, w a1 = some (.inr (4, fs))) ∧ wp_PL_batch E (fun r1 w2 => vp_in (i + 1) L ∧ (vp_in (i + 2) L ∧ ((∃ fs, w2 a2 = some (.inr (5, fs))) ∧ wp_MO_batch E (fun r3 w4 => (r1 = r3 → (K w4)) ∧ (¬ r1 = r3 → (False))) w2 a2 ((((xs (i + 1).toNatClampNeg).toInt64) <<< ((32 : Int32).toInt64 &&& 63)) ||| (((xs (i + 2).toNatClampNeg).toInt64) &&& 4294967295))))) w a1 ((((xs (i + 1).toNatClampNeg).toInt64) <<< ((32 : Int32).toInt64 &&& 63)) ||| (((xs (i + 2).toNatClampNeg).toInt64) &&& 4294967295))))
set_option maxHeartbeats 4000000 in
set_option maxRecDepth 100000 in
theorem k_141 (hlT : l.stackTraces = false) (hx : p.tables.exec = Jvm.exec) (hb : c.code = cLA_law) (hml : c.maxLocals = 7) (hown : s.vm.findClass RLA = some m.cls) (hts : ∀ w ∈ xTB, w.before args s = true) (hK : va_K D vwCl (xtys E) s) (hE : xF E A s) (hX : va_X b L xs s s.heap) (hbl : b < s.heap.size) (hbA : ¬ A b) {K : xw_T → Prop} {w : xw_T} {a1 a2 a3 k : Nat} {i : Int32} {H : Heap} {locs : List Loc} {ls : Array Slot} (hl : lv_has ls 7 [(4, .int (i)), (3, .ref a3), (2, .ref a2), (1, .ref a1), (0, .ref b)]) (hw : xw_S D vwCl A s.heap w H locs) (hkk : k ≤ 512) (h : wc_141 E L xs K w a1 a2 a3 i)
    (kk : ∀ (w : xw_T) (H : Heap) (locs : List Loc) (ls : Array Slot), lv_has ls 7 [(4, .int (i + 5)), (3, .ref a3), (2, .ref a2), (1, .ref a1), (0, .ref b)] → xw_S D vwCl A s.heap w H locs → K w → W p l e room_1 s m args below meth c H locs (17 + 27 * (k + 1)) (9541 + 4791 * (k + 1)) Q (F0 m 23 ls [])) : W p l e room_1 s m args below meth c H locs (17 + 27 * k) (9541 + 4791 * k) Q (F0 m 141 ls []) := by
  unfold wc_141 at h
  refine lv_aload_n hx hb dLA_law_141 rfl (lv_at hl 3 rfl) ?_
  refine lv_aload_n hx hb dLA_law_142 rfl (lv_at hl 4 rfl) ?_
  refine lv_iload hx hb dLA_law_143 (lv_at hl 0 rfl) ?_
  refine lv_iconst (v := 1) hx hb dLA_law_145 (by decide) ?_
  refine lv_iadd hx hb dLA_law_146 ?_
  obtain ⟨hin9, h⟩ := h
  refine va_sld hx hb hX hbl hbA hw.2.1 hin9 dLA_law_147 ?_
  refine lv_i2l hx hb dLA_law_148 rfl ?_
  refine lv_bipush (v := 32) hx hb dLA_law_149 (by decide) ?_
  refine lv_lshl hx hb dLA_law_151 rfl ?_
  refine lv_aload_n hx hb dLA_law_152 rfl (lv_at hl 4 rfl) ?_
  refine lv_iload hx hb dLA_law_153 (lv_at hl 0 rfl) ?_
  refine lv_iconst (v := 2) hx hb dLA_law_155 (by decide) ?_
  refine lv_iadd hx hb dLA_law_156 ?_
  obtain ⟨hin9, h⟩ := h
  refine va_sld hx hb hX hbl hbA hw.2.1 hin9 dLA_law_157 ?_
  refine lv_i2l hx hb dLA_law_158 rfl ?_
  refine lv_ldc2 (v := 4294967295) hx hb hown (hts _ mw_367) dLA_law_159 ?_
  refine lv_land hx hb dLA_law_162 ?_
  refine lv_lor hx hb dLA_law_163 ?_
  obtain ⟨⟨fs, hk⟩, h⟩ := h
  have hcall := h
  clear h
  refine xw_calli (va_runV (As := [.long ((((xs (i + 1).toNatClampNeg).toInt64) <<< ((32 : Int32).toInt64 &&& 63)) ||| (((xs (i + 2).toNatClampNeg).toInt64) &&& 4294967295))]) (rest := []) ⟨hx, hb, hml, hown, hts⟩ (c_PL_batch l D E A _ w a1 ((((xs (i + 1).toNatClampNeg).toInt64) <<< ((32 : Int32).toInt64 &&& 63)) ||| (((xs (i + 2).toNatClampNeg).toInt64) &&& 4294967295)) hcall) (cwV 1 hts (xG_V mw_368 mw_369 mw_370 mw_95 mw_371) rfl rfl rfl (by decide +kernel) ⟨(Nat.le_of_ble_eq_true rfl), (Nat.le_of_ble_eq_true rfl)⟩) (xw_preV (ci := 4) hw hK hE rfl hk) rfl rfl hl.1 rfl (lv_room (by first | exact Nat.le_of_ble_eq_true rfl | simp [va_rf_cat, xcat_i, xcat_l, xcat_r, xcat_n])) dLA_law_164 ⟨by show 17 + 27 * k + 3 ≤ 601024; omega, by show 9541 + 4791 * k + 375 ≤ 7293034; omega⟩) hw (fun r1 w2 H locs h hw => ?_)
  clear hcall
  refine lv_aload_n hx hb dLA_law_167 rfl (lv_at hl 2 rfl) ?_
  refine lv_aload_n hx hb dLA_law_168 rfl (lv_at hl 4 rfl) ?_
  refine lv_iload hx hb dLA_law_169 (lv_at hl 0 rfl) ?_
  refine lv_iconst (v := 1) hx hb dLA_law_171 (by decide) ?_
  refine lv_iadd hx hb dLA_law_172 ?_
  obtain ⟨hin9, h⟩ := h
  refine va_sld hx hb hX hbl hbA hw.2.1 hin9 dLA_law_173 ?_
  refine lv_i2l hx hb dLA_law_174 rfl ?_
  refine lv_bipush (v := 32) hx hb dLA_law_175 (by decide) ?_
  refine lv_lshl hx hb dLA_law_177 rfl ?_
  refine lv_aload_n hx hb dLA_law_178 rfl (lv_at hl 4 rfl) ?_
  refine lv_iload hx hb dLA_law_179 (lv_at hl 0 rfl) ?_
  refine lv_iconst (v := 2) hx hb dLA_law_181 (by decide) ?_
  refine lv_iadd hx hb dLA_law_182 ?_
  obtain ⟨hin9, h⟩ := h
  refine va_sld hx hb hX hbl hbA hw.2.1 hin9 dLA_law_183 ?_
  refine lv_i2l hx hb dLA_law_184 rfl ?_
  refine lv_ldc2 (v := 4294967295) hx hb hown (hts _ mw_367) dLA_law_185 ?_
  refine lv_land hx hb dLA_law_188 ?_
  refine lv_lor hx hb dLA_law_189 ?_
  obtain ⟨⟨fs, hk⟩, h⟩ := h
  have hcall := h
  clear h
  refine xw_calli (va_runV (As := [.long ((((xs (i + 1).toNatClampNeg).toInt64) <<< ((32 : Int32).toInt64 &&& 63)) ||| (((xs (i + 2).toNatClampNeg).toInt64) &&& 4294967295))]) (rest := [.int r1]) ⟨hx, hb, hml, hown, hts⟩ (c_MO_batch l D E A _ w2 a2 ((((xs (i + 1).toNatClampNeg).toInt64) <<< ((32 : Int32).toInt64 &&& 63)) ||| (((xs (i + 2).toNatClampNeg).toInt64) &&& 4294967295)) hcall) (cwV 1 hts (xG_V mw_363 mw_364 mw_365 mw_294 mw_366) rfl rfl rfl (by decide +kernel) ⟨(Nat.le_of_ble_eq_true rfl), (Nat.le_of_ble_eq_true rfl)⟩) (xw_preV (ci := 5) hw hK hE rfl hk) rfl rfl hl.1 rfl (lv_room (by first | exact Nat.le_of_ble_eq_true rfl | simp [va_rf_cat, xcat_i, xcat_l, xcat_r, xcat_n])) dLA_law_190 ⟨by show 17 + 27 * k + 3 + 0 ≤ 601024; omega, by show 9541 + 4791 * k + 375 + 0 ≤ 7293034; omega⟩) hw (fun r3 w4 H locs h hw => ?_)
  clear hcall
  refine lv_icmp_eq (tgt := 743) hx hb dLA_law_193 rfl (fun hc => ?_) (fun hc => ?_)
  · replace h := h.1 hc
    refine lv_iinc (k := 0) (v := i + 5) (lv' := [(4, .int (i + 5)), (3, .ref a3), (2, .ref a2), (1, .ref a1), (0, .ref b)]) hx hb dLA_law_743 hl rfl rfl (by decide) (by first | rfl | simp [va_rf_cat, xcat_i, xcat_l, xcat_r, xcat_n]) (fun ls hl => ?_)
    refine lv_goto (tgt := 23) hx hb dLA_law_746 rfl ?_
    refine W.widen (k := 17 + 27 * (k + 1)) (n := 9541 + 4791 * (k + 1)) (by omega) (by omega) ?_
    exact kk _ _ _ _ (lv_sub hl [0, 1, 2, 3, 4] rfl) hw h
  · replace h := h.2 hc
    refine lv_iconst (v := 0) hx hb dLA_law_196 (by decide) ?_
    exact h.elim
def wc_198 (E : xE_T) (L : Nat) (xs : Nat → Int32) (K : xw_T → Prop) (w : xw_T) (a1 a2 a3 : Nat) (i : Int32) : Prop := vp_in (i + 1) L ∧ (vp_in (i + 2) L ∧ (vp_in (i + 3) L ∧ (vp_in (i + 4) L ∧ ((∃ fs, w a1 = some (.inr (4, fs))) ∧ wp_PL_row E (fun r1 w2 => vp_in (i + 1) L ∧ (vp_in (i + 2) L ∧ (vp_in (i + 3) L ∧ (vp_in (i + 4) L ∧ ((∃ fs, w2 a2 = some (.inr (5, fs))) ∧ wp_MO_row E (fun r3 w4 => (r1 = r3 → (K w4)) ∧ (¬ r1 = r3 → (False))) w2 a2 (xs (i + 1).toNatClampNeg) (xs (i + 2).toNatClampNeg) ((((xs (i + 3).toNatClampNeg).toInt64) <<< ((32 : Int32).toInt64 &&& 63)) ||| (((xs (i + 4).toNatClampNeg).toInt64) &&& 4294967295))))))) w a1 (xs (i + 1).toNatClampNeg) (xs (i + 2).toNatClampNeg) ((((xs (i + 3).toNatClampNeg).toInt64) <<< ((32 : Int32).toInt64 &&& 63)) ||| (((xs (i + 4).toNatClampNeg).toInt64) &&& 4294967295))))))
set_option maxHeartbeats 4000000 in
set_option maxRecDepth 100000 in
theorem k_198 (hlT : l.stackTraces = false) (hx : p.tables.exec = Jvm.exec) (hb : c.code = cLA_law) (hml : c.maxLocals = 7) (hown : s.vm.findClass RLA = some m.cls) (hts : ∀ w ∈ xTB, w.before args s = true) (hK : va_K D vwCl (xtys E) s) (hE : xF E A s) (hX : va_X b L xs s s.heap) (hbl : b < s.heap.size) (hbA : ¬ A b) {K : xw_T → Prop} {w : xw_T} {a1 a2 a3 k : Nat} {i : Int32} {H : Heap} {locs : List Loc} {ls : Array Slot} (hl : lv_has ls 7 [(4, .int (i)), (3, .ref a3), (2, .ref a2), (1, .ref a1), (0, .ref b)]) (hw : xw_S D vwCl A s.heap w H locs) (hkk : k ≤ 512) (h : wc_198 E L xs K w a1 a2 a3 i)
    (kk : ∀ (w : xw_T) (H : Heap) (locs : List Loc) (ls : Array Slot), lv_has ls 7 [(4, .int (i + 5)), (3, .ref a3), (2, .ref a2), (1, .ref a1), (0, .ref b)] → xw_S D vwCl A s.heap w H locs → K w → W p l e room_1 s m args below meth c H locs (17 + 27 * (k + 1)) (9541 + 4791 * (k + 1)) Q (F0 m 23 ls [])) : W p l e room_1 s m args below meth c H locs (17 + 27 * k) (9541 + 4791 * k) Q (F0 m 198 ls []) := by
  unfold wc_198 at h
  refine lv_aload_n hx hb dLA_law_198 rfl (lv_at hl 3 rfl) ?_
  refine lv_aload_n hx hb dLA_law_199 rfl (lv_at hl 4 rfl) ?_
  refine lv_iload hx hb dLA_law_200 (lv_at hl 0 rfl) ?_
  refine lv_iconst (v := 1) hx hb dLA_law_202 (by decide) ?_
  refine lv_iadd hx hb dLA_law_203 ?_
  obtain ⟨hin9, h⟩ := h
  refine va_sld hx hb hX hbl hbA hw.2.1 hin9 dLA_law_204 ?_
  refine lv_aload_n hx hb dLA_law_205 rfl (lv_at hl 4 rfl) ?_
  refine lv_iload hx hb dLA_law_206 (lv_at hl 0 rfl) ?_
  refine lv_iconst (v := 2) hx hb dLA_law_208 (by decide) ?_
  refine lv_iadd hx hb dLA_law_209 ?_
  obtain ⟨hin9, h⟩ := h
  refine va_sld hx hb hX hbl hbA hw.2.1 hin9 dLA_law_210 ?_
  refine lv_aload_n hx hb dLA_law_211 rfl (lv_at hl 4 rfl) ?_
  refine lv_iload hx hb dLA_law_212 (lv_at hl 0 rfl) ?_
  refine lv_iconst (v := 3) hx hb dLA_law_214 (by decide) ?_
  refine lv_iadd hx hb dLA_law_215 ?_
  obtain ⟨hin9, h⟩ := h
  refine va_sld hx hb hX hbl hbA hw.2.1 hin9 dLA_law_216 ?_
  refine lv_i2l hx hb dLA_law_217 rfl ?_
  refine lv_bipush (v := 32) hx hb dLA_law_218 (by decide) ?_
  refine lv_lshl hx hb dLA_law_220 rfl ?_
  refine lv_aload_n hx hb dLA_law_221 rfl (lv_at hl 4 rfl) ?_
  refine lv_iload hx hb dLA_law_222 (lv_at hl 0 rfl) ?_
  refine lv_iconst (v := 4) hx hb dLA_law_224 (by decide) ?_
  refine lv_iadd hx hb dLA_law_225 ?_
  obtain ⟨hin9, h⟩ := h
  refine va_sld hx hb hX hbl hbA hw.2.1 hin9 dLA_law_226 ?_
  refine lv_i2l hx hb dLA_law_227 rfl ?_
  refine lv_ldc2 (v := 4294967295) hx hb hown (hts _ mw_367) dLA_law_228 ?_
  refine lv_land hx hb dLA_law_231 ?_
  refine lv_lor hx hb dLA_law_232 ?_
  obtain ⟨⟨fs, hk⟩, h⟩ := h
  have hcall := h
  clear h
  refine xw_calli (va_runV (As := [.int (xs (i + 1).toNatClampNeg), .int (xs (i + 2).toNatClampNeg), .long ((((xs (i + 3).toNatClampNeg).toInt64) <<< ((32 : Int32).toInt64 &&& 63)) ||| (((xs (i + 4).toNatClampNeg).toInt64) &&& 4294967295))]) (rest := []) ⟨hx, hb, hml, hown, hts⟩ (c_PL_row l D E A _ w a1 (xs (i + 1).toNatClampNeg) (xs (i + 2).toNatClampNeg) ((((xs (i + 3).toNatClampNeg).toInt64) <<< ((32 : Int32).toInt64 &&& 63)) ||| (((xs (i + 4).toNatClampNeg).toInt64) &&& 4294967295)) hcall) (cwV 3 hts (xG_V mw_376 mw_377 mw_378 mw_95 mw_379) rfl rfl rfl (by decide +kernel) ⟨(Nat.le_of_ble_eq_true rfl), (Nat.le_of_ble_eq_true rfl)⟩) (xw_preV (ci := 4) hw hK hE rfl hk) rfl rfl hl.1 rfl (lv_room (by first | exact Nat.le_of_ble_eq_true rfl | simp [va_rf_cat, xcat_i, xcat_l, xcat_r, xcat_n])) dLA_law_233 ⟨by show 17 + 27 * k + 2 ≤ 601024; omega, by show 9541 + 4791 * k + 368 ≤ 7293034; omega⟩) hw (fun r1 w2 H locs h hw => ?_)
  clear hcall
  refine lv_aload_n hx hb dLA_law_236 rfl (lv_at hl 2 rfl) ?_
  refine lv_aload_n hx hb dLA_law_237 rfl (lv_at hl 4 rfl) ?_
  refine lv_iload hx hb dLA_law_238 (lv_at hl 0 rfl) ?_
  refine lv_iconst (v := 1) hx hb dLA_law_240 (by decide) ?_
  refine lv_iadd hx hb dLA_law_241 ?_
  obtain ⟨hin9, h⟩ := h
  refine va_sld hx hb hX hbl hbA hw.2.1 hin9 dLA_law_242 ?_
  refine lv_aload_n hx hb dLA_law_243 rfl (lv_at hl 4 rfl) ?_
  refine lv_iload hx hb dLA_law_244 (lv_at hl 0 rfl) ?_
  refine lv_iconst (v := 2) hx hb dLA_law_246 (by decide) ?_
  refine lv_iadd hx hb dLA_law_247 ?_
  obtain ⟨hin9, h⟩ := h
  refine va_sld hx hb hX hbl hbA hw.2.1 hin9 dLA_law_248 ?_
  refine lv_aload_n hx hb dLA_law_249 rfl (lv_at hl 4 rfl) ?_
  refine lv_iload hx hb dLA_law_250 (lv_at hl 0 rfl) ?_
  refine lv_iconst (v := 3) hx hb dLA_law_252 (by decide) ?_
  refine lv_iadd hx hb dLA_law_253 ?_
  obtain ⟨hin9, h⟩ := h
  refine va_sld hx hb hX hbl hbA hw.2.1 hin9 dLA_law_254 ?_
  refine lv_i2l hx hb dLA_law_255 rfl ?_
  refine lv_bipush (v := 32) hx hb dLA_law_256 (by decide) ?_
  refine lv_lshl hx hb dLA_law_258 rfl ?_
  refine lv_aload_n hx hb dLA_law_259 rfl (lv_at hl 4 rfl) ?_
  refine lv_iload hx hb dLA_law_260 (lv_at hl 0 rfl) ?_
  refine lv_iconst (v := 4) hx hb dLA_law_262 (by decide) ?_
  refine lv_iadd hx hb dLA_law_263 ?_
  obtain ⟨hin9, h⟩ := h
  refine va_sld hx hb hX hbl hbA hw.2.1 hin9 dLA_law_264 ?_
  refine lv_i2l hx hb dLA_law_265 rfl ?_
  refine lv_ldc2 (v := 4294967295) hx hb hown (hts _ mw_367) dLA_law_266 ?_
  refine lv_land hx hb dLA_law_269 ?_
  refine lv_lor hx hb dLA_law_270 ?_
  obtain ⟨⟨fs, hk⟩, h⟩ := h
  have hcall := h
  clear h
  refine xw_calli (va_runV (As := [.int (xs (i + 1).toNatClampNeg), .int (xs (i + 2).toNatClampNeg), .long ((((xs (i + 3).toNatClampNeg).toInt64) <<< ((32 : Int32).toInt64 &&& 63)) ||| (((xs (i + 4).toNatClampNeg).toInt64) &&& 4294967295))]) (rest := [.int r1]) ⟨hx, hb, hml, hown, hts⟩ (c_MO_row l D E A _ w2 a2 (xs (i + 1).toNatClampNeg) (xs (i + 2).toNatClampNeg) ((((xs (i + 3).toNatClampNeg).toInt64) <<< ((32 : Int32).toInt64 &&& 63)) ||| (((xs (i + 4).toNatClampNeg).toInt64) &&& 4294967295)) hcall) (cwV 3 hts (xG_V mw_372 mw_373 mw_374 mw_294 mw_375) rfl rfl rfl (by decide +kernel) ⟨(Nat.le_of_ble_eq_true rfl), (Nat.le_of_ble_eq_true rfl)⟩) (xw_preV (ci := 5) hw hK hE rfl hk) rfl rfl hl.1 rfl (lv_room (by first | exact Nat.le_of_ble_eq_true rfl | simp [va_rf_cat, xcat_i, xcat_l, xcat_r, xcat_n])) dLA_law_271 ⟨by show 17 + 27 * k + 2 + 0 ≤ 601024; omega, by show 9541 + 4791 * k + 368 + 0 ≤ 7293034; omega⟩) hw (fun r3 w4 H locs h hw => ?_)
  clear hcall
  refine lv_icmp_eq (tgt := 743) hx hb dLA_law_274 rfl (fun hc => ?_) (fun hc => ?_)
  · replace h := h.1 hc
    refine lv_iinc (k := 0) (v := i + 5) (lv' := [(4, .int (i + 5)), (3, .ref a3), (2, .ref a2), (1, .ref a1), (0, .ref b)]) hx hb dLA_law_743 hl rfl rfl (by decide) (by first | rfl | simp [va_rf_cat, xcat_i, xcat_l, xcat_r, xcat_n]) (fun ls hl => ?_)
    refine lv_goto (tgt := 23) hx hb dLA_law_746 rfl ?_
    refine W.widen (k := 17 + 27 * (k + 1)) (n := 9541 + 4791 * (k + 1)) (by omega) (by omega) ?_
    exact kk _ _ _ _ (lv_sub hl [0, 1, 2, 3, 4] rfl) hw h
  · replace h := h.2 hc
    refine lv_iconst (v := 0) hx hb dLA_law_277 (by decide) ?_
    exact h.elim
def wc_279 (E : xE_T) (L : Nat) (xs : Nat → Int32) (K : xw_T → Prop) (w : xw_T) (a1 a2 a3 : Nat) (i : Int32) : Prop := vp_in (i + 1) L ∧ (wp_LA_post E (fun r1 w2 => vp_in (i + 1) L ∧ ((∃ fs, w2 a2 = some (.inr (5, fs))) ∧ wp_MO_post E (fun r3 w4 => (∃ fs, w4 a2 = some (.inr (5, fs))) ∧ wp_MO_thrown E (fun r5 w6 => (r5 = r1 → ((¬ r1 = 0 → (K w6)) ∧ (r1 = 0 → (∃ n7 f8, xaL w6 a3 (E.1 2) = some (n7, f8) ∧ vp_in (0 : Int32) n7 ∧ (((f8 (0 : Int32).toNatClampNeg) = r3.toInt64 → (K w6)) ∧ (¬ (f8 (0 : Int32).toNatClampNeg) = r3.toInt64 → (False))))))) ∧ (¬ r5 = r1 → (False))) w4 a2) w2 a2 (xs (i + 1).toNatClampNeg))) w (some a1) (xs (i + 1).toNatClampNeg) (some a3))
set_option maxHeartbeats 4000000 in
set_option maxRecDepth 100000 in
theorem k_279 (hlT : l.stackTraces = false) (hx : p.tables.exec = Jvm.exec) (hb : c.code = cLA_law) (hml : c.maxLocals = 7) (hown : s.vm.findClass RLA = some m.cls) (hts : ∀ w ∈ xTB, w.before args s = true) (hK : va_K D vwCl (xtys E) s) (hE : xF E A s) (hX : va_X b L xs s s.heap) (hbl : b < s.heap.size) (hbA : ¬ A b) {K : xw_T → Prop} {w : xw_T} {a1 a2 a3 k : Nat} {i : Int32} {H : Heap} {locs : List Loc} {ls : Array Slot} (hl : lv_has ls 7 [(4, .int (i)), (3, .ref a3), (2, .ref a2), (1, .ref a1), (0, .ref b)]) (hw : xw_S D vwCl A s.heap w H locs) (hkk : k ≤ 512) (h : wc_279 E L xs K w a1 a2 a3 i)
    (kk : ∀ (w : xw_T) (H : Heap) (locs : List Loc) (ls : Array Slot), lv_has ls 7 [(4, .int (i + 5)), (3, .ref a3), (2, .ref a2), (1, .ref a1), (0, .ref b)] → xw_S D vwCl A s.heap w H locs → K w → W p l e room_1 s m args below meth c H locs (17 + 27 * (k + 1)) (9541 + 4791 * (k + 1)) Q (F0 m 23 ls [])) : W p l e room_1 s m args below meth c H locs (17 + 27 * k) (9541 + 4791 * k) Q (F0 m 279 ls []) := by
  unfold wc_279 at h
  refine lv_aload_n hx hb dLA_law_279 rfl (lv_at hl 3 rfl) ?_
  refine lv_aload_n hx hb dLA_law_280 rfl (lv_at hl 4 rfl) ?_
  refine lv_iload hx hb dLA_law_281 (lv_at hl 0 rfl) ?_
  refine lv_iconst (v := 1) hx hb dLA_law_283 (by decide) ?_
  refine lv_iadd hx hb dLA_law_284 ?_
  obtain ⟨hin9, h⟩ := h
  refine va_sld hx hb hX hbl hbA hw.2.1 hin9 dLA_law_285 ?_
  refine lv_aload_n hx hb dLA_law_286 rfl (lv_at hl 1 rfl) ?_
  have hcall := h
  clear h
  refine xw_calli (xT_runSW (n := 3) (As := [.ref a1, .int (xs (i + 1).toNatClampNeg), .ref a3]) (rest := []) ⟨hx, hb, hml, hown, hts⟩ (c_LA_post l hlT D E A _ w (some a1) (xs (i + 1).toNatClampNeg) (some a3) hcall) (xw_preS hw hK hE) rfl rfl ⟨(Nat.le_of_ble_eq_true rfl), (Nat.le_of_ble_eq_true rfl)⟩ mw_388 mw_389 mw_390 mw_391 (by decide +kernel) rfl rfl hl.1 rfl (lv_room (by first | exact Nat.le_of_ble_eq_true rfl | simp [va_rf_cat, xcat_i, xcat_l, xcat_r, xcat_n])) dLA_law_287 ⟨by show 17 + 27 * k + 1 ≤ 601024; omega, by show 9541 + 4791 * k + 6 ≤ 7293034; omega⟩) hw (fun r1 w2 H locs h hw => ?_)
  clear hcall
  refine lv_istore (i := 5) (lv' := [(5, .int r1), (4, .int i), (3, .ref a3), (2, .ref a2), (1, .ref a1), (0, .ref b)]) hx hb dLA_law_290 hl (by decide) (by first | rfl | simp [va_rf_cat, xcat_i, xcat_l, xcat_r, xcat_n]) (fun ls hl => ?_)
  refine lv_aload_n hx hb dLA_law_292 rfl (lv_at hl 3 rfl) ?_
  refine lv_aload_n hx hb dLA_law_293 rfl (lv_at hl 5 rfl) ?_
  refine lv_iload hx hb dLA_law_294 (lv_at hl 1 rfl) ?_
  refine lv_iconst (v := 1) hx hb dLA_law_296 (by decide) ?_
  refine lv_iadd hx hb dLA_law_297 ?_
  obtain ⟨hin9, h⟩ := h
  refine va_sld hx hb hX hbl hbA hw.2.1 hin9 dLA_law_298 ?_
  obtain ⟨⟨fs, hk⟩, h⟩ := h
  have hcall := h
  clear h
  refine xw_calli (va_runV (As := [.int (xs (i + 1).toNatClampNeg)]) (rest := []) ⟨hx, hb, hml, hown, hts⟩ (c_MO_post l D E A _ w2 a2 (xs (i + 1).toNatClampNeg) hcall) (cwV 1 hts (xG_V mw_384 mw_385 mw_386 mw_294 mw_387) rfl rfl rfl (by decide +kernel) ⟨(Nat.le_of_ble_eq_true rfl), (Nat.le_of_ble_eq_true rfl)⟩) (xw_preV (ci := 5) hw hK hE rfl hk) rfl rfl hl.1 rfl (lv_room (by first | exact Nat.le_of_ble_eq_true rfl | simp [va_rf_cat, xcat_i, xcat_l, xcat_r, xcat_n])) dLA_law_299 ⟨by show 17 + 27 * k + 1 + 0 ≤ 601024; omega, by show 9541 + 4791 * k + 6 + 0 ≤ 7293034; omega⟩) hw (fun r3 w4 H locs h hw => ?_)
  clear hcall
  refine lv_istore (i := 6) (lv' := [(6, .int r3), (5, .int r1), (4, .int i), (3, .ref a3), (2, .ref a2), (1, .ref a1), (0, .ref b)]) hx hb dLA_law_302 hl (by decide) (by first | rfl | simp [va_rf_cat, xcat_i, xcat_l, xcat_r, xcat_n]) (fun ls hl => ?_)
  refine lv_aload_n hx hb dLA_law_304 rfl (lv_at hl 4 rfl) ?_
  obtain ⟨⟨fs, hk⟩, h⟩ := h
  have hcall := h
  clear h
  refine xw_calli (va_runV (As := []) (rest := []) ⟨hx, hb, hml, hown, hts⟩ (c_MO_thrown l D E A _ w4 a2 hcall) (cwV 0 hts (xG_V mw_380 mw_381 mw_382 mw_294 mw_383) rfl rfl rfl (by decide +kernel) ⟨(Nat.le_of_ble_eq_true rfl), (Nat.le_of_ble_eq_true rfl)⟩) (xw_preV (ci := 5) hw hK hE rfl hk) rfl rfl hl.1 rfl (lv_room (by first | exact Nat.le_of_ble_eq_true rfl | simp [va_rf_cat, xcat_i, xcat_l, xcat_r, xcat_n])) dLA_law_305 ⟨by show 17 + 27 * k + 1 + 0 + 0 ≤ 601024; omega, by show 9541 + 4791 * k + 6 + 0 + 0 ≤ 7293034; omega⟩) hw (fun r5 w6 H locs h hw => ?_)
  clear hcall
  refine lv_iload hx hb dLA_law_308 (lv_at hl 1 rfl) ?_
  refine lv_icmp_eq (tgt := 315) hx hb dLA_law_310 rfl (fun hc => ?_) (fun hc => ?_)
  · replace h := h.1 hc
    refine lv_iload hx hb dLA_law_315 (lv_at hl 1 rfl) ?_
    refine lv_if_ne (tgt := 332) hx hb dLA_law_317 rfl (fun hc => ?_) (fun hc => ?_)
    · replace h := h.1 hc
      refine lv_goto (tgt := 743) hx hb dLA_law_332 rfl ?_
      refine lv_iinc (k := 2) (v := i + 5) (lv' := [(4, .int (i + 5)), (6, .int r3), (5, .int r1), (3, .ref a3), (2, .ref a2), (1, .ref a1), (0, .ref b)]) hx hb dLA_law_743 hl rfl rfl (by decide) (by first | rfl | simp [va_rf_cat, xcat_i, xcat_l, xcat_r, xcat_n]) (fun ls hl => ?_)
      refine lv_goto (tgt := 23) hx hb dLA_law_746 rfl ?_
      refine W.widen (k := 17 + 27 * (k + 1)) (n := 9541 + 4791 * (k + 1)) (by omega) (by omega) ?_
      exact kk _ _ _ _ (lv_sub hl [0, 3, 4, 5, 6] rfl) hw h
    · replace h := h.2 hc
      refine lv_aload_n hx hb dLA_law_320 rfl (lv_at hl 3 rfl) ?_
      refine lv_iconst (v := 0) hx hb dLA_law_321 (by decide) ?_
      obtain ⟨n7, f8, ha, hin9, h⟩ := h
      refine xw_lald hx hb hK hw 2 rfl ha hin9 dLA_law_322 ?_
      refine lv_iload hx hb dLA_law_323 (lv_at hl 0 rfl) ?_
      refine lv_i2l hx hb dLA_law_325 rfl ?_
      refine xl_lc_eq (tgt := 332) hx hb dLA_law_326 dLA_law_327 rfl (fun hc => ?_) (fun hc => ?_)
      · replace h := h.1 hc
        refine lv_goto (tgt := 743) hx hb dLA_law_332 rfl ?_
        refine lv_iinc (k := 2) (v := i + 5) (lv' := [(4, .int (i + 5)), (6, .int r3), (5, .int r1), (3, .ref a3), (2, .ref a2), (1, .ref a1), (0, .ref b)]) hx hb dLA_law_743 hl rfl rfl (by decide) (by first | rfl | simp [va_rf_cat, xcat_i, xcat_l, xcat_r, xcat_n]) (fun ls hl => ?_)
        refine lv_goto (tgt := 23) hx hb dLA_law_746 rfl ?_
        refine W.widen (k := 17 + 27 * (k + 1)) (n := 9541 + 4791 * (k + 1)) (by omega) (by omega) ?_
        exact kk _ _ _ _ (lv_sub hl [0, 3, 4, 5, 6] rfl) hw h
      · replace h := h.2 hc
        refine lv_iconst (v := 0) hx hb dLA_law_330 (by decide) ?_
        exact h.elim
  · replace h := h.2 hc
    refine lv_iconst (v := 0) hx hb dLA_law_313 (by decide) ?_
    exact h.elim
def wc_335 (E : xE_T) (L : Nat) (xs : Nat → Int32) (K : xw_T → Prop) (w : xw_T) (a1 a2 a3 : Nat) (i : Int32) : Prop := vp_in (i + 1) L ∧ (vp_in (i + 2) L ∧ (vp_in (i + 3) L ∧ ((∃ fs, w a1 = some (.inr (4, fs))) ∧ wp_PL_balance E (fun r1 w2 => vp_in (i + 1) L ∧ (vp_in (i + 2) L ∧ (vp_in (i + 3) L ∧ ((∃ fs, w2 a2 = some (.inr (5, fs))) ∧ wp_MO_balance E (fun r3 w4 => (r1 = r3 → (K w4)) ∧ (¬ r1 = r3 → (False))) w2 a2 (xs (i + 1).toNatClampNeg) ((((xs (i + 2).toNatClampNeg).toInt64) <<< ((32 : Int32).toInt64 &&& 63)) ||| (((xs (i + 3).toNatClampNeg).toInt64) &&& 4294967295)))))) w a1 (xs (i + 1).toNatClampNeg) ((((xs (i + 2).toNatClampNeg).toInt64) <<< ((32 : Int32).toInt64 &&& 63)) ||| (((xs (i + 3).toNatClampNeg).toInt64) &&& 4294967295)))))
set_option maxHeartbeats 4000000 in
set_option maxRecDepth 100000 in
theorem k_335 (hlT : l.stackTraces = false) (hx : p.tables.exec = Jvm.exec) (hb : c.code = cLA_law) (hml : c.maxLocals = 7) (hown : s.vm.findClass RLA = some m.cls) (hts : ∀ w ∈ xTB, w.before args s = true) (hK : va_K D vwCl (xtys E) s) (hE : xF E A s) (hX : va_X b L xs s s.heap) (hbl : b < s.heap.size) (hbA : ¬ A b) {K : xw_T → Prop} {w : xw_T} {a1 a2 a3 k : Nat} {i : Int32} {H : Heap} {locs : List Loc} {ls : Array Slot} (hl : lv_has ls 7 [(4, .int (i)), (3, .ref a3), (2, .ref a2), (1, .ref a1), (0, .ref b)]) (hw : xw_S D vwCl A s.heap w H locs) (hkk : k ≤ 512) (h : wc_335 E L xs K w a1 a2 a3 i)
    (kk : ∀ (w : xw_T) (H : Heap) (locs : List Loc) (ls : Array Slot), lv_has ls 7 [(4, .int (i + 5)), (3, .ref a3), (2, .ref a2), (1, .ref a1), (0, .ref b)] → xw_S D vwCl A s.heap w H locs → K w → W p l e room_1 s m args below meth c H locs (17 + 27 * (k + 1)) (9541 + 4791 * (k + 1)) Q (F0 m 23 ls [])) : W p l e room_1 s m args below meth c H locs (17 + 27 * k) (9541 + 4791 * k) Q (F0 m 335 ls []) := by
  unfold wc_335 at h
  refine lv_aload_n hx hb dLA_law_335 rfl (lv_at hl 3 rfl) ?_
  refine lv_aload_n hx hb dLA_law_336 rfl (lv_at hl 4 rfl) ?_
  refine lv_iload hx hb dLA_law_337 (lv_at hl 0 rfl) ?_
  refine lv_iconst (v := 1) hx hb dLA_law_339 (by decide) ?_
  refine lv_iadd hx hb dLA_law_340 ?_
  obtain ⟨hin9, h⟩ := h
  refine va_sld hx hb hX hbl hbA hw.2.1 hin9 dLA_law_341 ?_
  refine lv_aload_n hx hb dLA_law_342 rfl (lv_at hl 4 rfl) ?_
  refine lv_iload hx hb dLA_law_343 (lv_at hl 0 rfl) ?_
  refine lv_iconst (v := 2) hx hb dLA_law_345 (by decide) ?_
  refine lv_iadd hx hb dLA_law_346 ?_
  obtain ⟨hin9, h⟩ := h
  refine va_sld hx hb hX hbl hbA hw.2.1 hin9 dLA_law_347 ?_
  refine lv_i2l hx hb dLA_law_348 rfl ?_
  refine lv_bipush (v := 32) hx hb dLA_law_349 (by decide) ?_
  refine lv_lshl hx hb dLA_law_351 rfl ?_
  refine lv_aload_n hx hb dLA_law_352 rfl (lv_at hl 4 rfl) ?_
  refine lv_iload hx hb dLA_law_353 (lv_at hl 0 rfl) ?_
  refine lv_iconst (v := 3) hx hb dLA_law_355 (by decide) ?_
  refine lv_iadd hx hb dLA_law_356 ?_
  obtain ⟨hin9, h⟩ := h
  refine va_sld hx hb hX hbl hbA hw.2.1 hin9 dLA_law_357 ?_
  refine lv_i2l hx hb dLA_law_358 rfl ?_
  refine lv_ldc2 (v := 4294967295) hx hb hown (hts _ mw_367) dLA_law_359 ?_
  refine lv_land hx hb dLA_law_362 ?_
  refine lv_lor hx hb dLA_law_363 ?_
  obtain ⟨⟨fs, hk⟩, h⟩ := h
  have hcall := h
  clear h
  refine xw_calll (va_runV (As := [.int (xs (i + 1).toNatClampNeg), .long ((((xs (i + 2).toNatClampNeg).toInt64) <<< ((32 : Int32).toInt64 &&& 63)) ||| (((xs (i + 3).toNatClampNeg).toInt64) &&& 4294967295))]) (rest := []) ⟨hx, hb, hml, hown, hts⟩ (c_PL_balance l D E A _ w a1 (xs (i + 1).toNatClampNeg) ((((xs (i + 2).toNatClampNeg).toInt64) <<< ((32 : Int32).toInt64 &&& 63)) ||| (((xs (i + 3).toNatClampNeg).toInt64) &&& 4294967295)) hcall) (cwV 2 hts (xG_V mw_396 mw_397 mw_398 mw_95 mw_399) rfl rfl rfl (by decide +kernel) ⟨(Nat.le_of_ble_eq_true rfl), (Nat.le_of_ble_eq_true rfl)⟩) (xw_preV (ci := 4) hw hK hE rfl hk) rfl rfl hl.1 rfl (lv_room (by first | exact Nat.le_of_ble_eq_true rfl | simp [va_rf_cat, xcat_i, xcat_l, xcat_r, xcat_n])) dLA_law_364 ⟨by show 17 + 27 * k + 0 ≤ 601024; omega, by show 9541 + 4791 * k + 0 ≤ 7293034; omega⟩) hw (fun r1 w2 H locs h hw => ?_)
  clear hcall
  refine lv_aload_n hx hb dLA_law_367 rfl (lv_at hl 2 rfl) ?_
  refine lv_aload_n hx hb dLA_law_368 rfl (lv_at hl 4 rfl) ?_
  refine lv_iload hx hb dLA_law_369 (lv_at hl 0 rfl) ?_
  refine lv_iconst (v := 1) hx hb dLA_law_371 (by decide) ?_
  refine lv_iadd hx hb dLA_law_372 ?_
  obtain ⟨hin9, h⟩ := h
  refine va_sld hx hb hX hbl hbA hw.2.1 hin9 dLA_law_373 ?_
  refine lv_aload_n hx hb dLA_law_374 rfl (lv_at hl 4 rfl) ?_
  refine lv_iload hx hb dLA_law_375 (lv_at hl 0 rfl) ?_
  refine lv_iconst (v := 2) hx hb dLA_law_377 (by decide) ?_
  refine lv_iadd hx hb dLA_law_378 ?_
  obtain ⟨hin9, h⟩ := h
  refine va_sld hx hb hX hbl hbA hw.2.1 hin9 dLA_law_379 ?_
  refine lv_i2l hx hb dLA_law_380 rfl ?_
  refine lv_bipush (v := 32) hx hb dLA_law_381 (by decide) ?_
  refine lv_lshl hx hb dLA_law_383 rfl ?_
  refine lv_aload_n hx hb dLA_law_384 rfl (lv_at hl 4 rfl) ?_
  refine lv_iload hx hb dLA_law_385 (lv_at hl 0 rfl) ?_
  refine lv_iconst (v := 3) hx hb dLA_law_387 (by decide) ?_
  refine lv_iadd hx hb dLA_law_388 ?_
  obtain ⟨hin9, h⟩ := h
  refine va_sld hx hb hX hbl hbA hw.2.1 hin9 dLA_law_389 ?_
  refine lv_i2l hx hb dLA_law_390 rfl ?_
  refine lv_ldc2 (v := 4294967295) hx hb hown (hts _ mw_367) dLA_law_391 ?_
  refine lv_land hx hb dLA_law_394 ?_
  refine lv_lor hx hb dLA_law_395 ?_
  obtain ⟨⟨fs, hk⟩, h⟩ := h
  have hcall := h
  clear h
  refine xw_calll (va_runV (As := [.int (xs (i + 1).toNatClampNeg), .long ((((xs (i + 2).toNatClampNeg).toInt64) <<< ((32 : Int32).toInt64 &&& 63)) ||| (((xs (i + 3).toNatClampNeg).toInt64) &&& 4294967295))]) (rest := [.long r1]) ⟨hx, hb, hml, hown, hts⟩ (c_MO_balance l D E A _ w2 a2 (xs (i + 1).toNatClampNeg) ((((xs (i + 2).toNatClampNeg).toInt64) <<< ((32 : Int32).toInt64 &&& 63)) ||| (((xs (i + 3).toNatClampNeg).toInt64) &&& 4294967295)) hcall) (cwV 2 hts (xG_V mw_392 mw_393 mw_394 mw_294 mw_395) rfl rfl rfl (by decide +kernel) ⟨(Nat.le_of_ble_eq_true rfl), (Nat.le_of_ble_eq_true rfl)⟩) (xw_preV (ci := 5) hw hK hE rfl hk) rfl rfl hl.1 rfl (lv_room (by first | exact Nat.le_of_ble_eq_true rfl | simp [va_rf_cat, xcat_i, xcat_l, xcat_r, xcat_n])) dLA_law_396 ⟨by show 17 + 27 * k + 0 + 0 ≤ 601024; omega, by show 9541 + 4791 * k + 0 + 0 ≤ 7293034; omega⟩) hw (fun r3 w4 H locs h hw => ?_)
  clear hcall
  refine xl_lc_eq (tgt := 743) hx hb dLA_law_399 dLA_law_400 rfl (fun hc => ?_) (fun hc => ?_)
  · replace h := h.1 hc
    refine lv_iinc (k := 0) (v := i + 5) (lv' := [(4, .int (i + 5)), (3, .ref a3), (2, .ref a2), (1, .ref a1), (0, .ref b)]) hx hb dLA_law_743 hl rfl rfl (by decide) (by first | rfl | simp [va_rf_cat, xcat_i, xcat_l, xcat_r, xcat_n]) (fun ls hl => ?_)
    refine lv_goto (tgt := 23) hx hb dLA_law_746 rfl ?_
    refine W.widen (k := 17 + 27 * (k + 1)) (n := 9541 + 4791 * (k + 1)) (by omega) (by omega) ?_
    exact kk _ _ _ _ (lv_sub hl [0, 1, 2, 3, 4] rfl) hw h
  · replace h := h.2 hc
    refine lv_iconst (v := 0) hx hb dLA_law_403 (by decide) ?_
    exact h.elim
def wc_405 (E : xE_T) (L : Nat) (xs : Nat → Int32) (K : xw_T → Prop) (w : xw_T) (a1 a2 a3 : Nat) (i : Int32) : Prop := vp_in (i + 1) L ∧ (vp_in (i + 2) L ∧ ((∃ fs, w a1 = some (.inr (4, fs))) ∧ wp_PL_close E (fun r1 w2 => vp_in (i + 1) L ∧ (vp_in (i + 2) L ∧ ((∃ fs, w2 a2 = some (.inr (5, fs))) ∧ wp_MO_close E (fun r3 w4 => (r1 = r3 → (K w4)) ∧ (¬ r1 = r3 → (False))) w2 a2 ((((xs (i + 1).toNatClampNeg).toInt64) <<< ((32 : Int32).toInt64 &&& 63)) ||| (((xs (i + 2).toNatClampNeg).toInt64) &&& 4294967295))))) w a1 ((((xs (i + 1).toNatClampNeg).toInt64) <<< ((32 : Int32).toInt64 &&& 63)) ||| (((xs (i + 2).toNatClampNeg).toInt64) &&& 4294967295))))
set_option maxHeartbeats 4000000 in
set_option maxRecDepth 100000 in
theorem k_405 (hlT : l.stackTraces = false) (hx : p.tables.exec = Jvm.exec) (hb : c.code = cLA_law) (hml : c.maxLocals = 7) (hown : s.vm.findClass RLA = some m.cls) (hts : ∀ w ∈ xTB, w.before args s = true) (hK : va_K D vwCl (xtys E) s) (hE : xF E A s) (hX : va_X b L xs s s.heap) (hbl : b < s.heap.size) (hbA : ¬ A b) {K : xw_T → Prop} {w : xw_T} {a1 a2 a3 k : Nat} {i : Int32} {H : Heap} {locs : List Loc} {ls : Array Slot} (hl : lv_has ls 7 [(4, .int (i)), (3, .ref a3), (2, .ref a2), (1, .ref a1), (0, .ref b)]) (hw : xw_S D vwCl A s.heap w H locs) (hkk : k ≤ 512) (h : wc_405 E L xs K w a1 a2 a3 i)
    (kk : ∀ (w : xw_T) (H : Heap) (locs : List Loc) (ls : Array Slot), lv_has ls 7 [(4, .int (i + 5)), (3, .ref a3), (2, .ref a2), (1, .ref a1), (0, .ref b)] → xw_S D vwCl A s.heap w H locs → K w → W p l e room_1 s m args below meth c H locs (17 + 27 * (k + 1)) (9541 + 4791 * (k + 1)) Q (F0 m 23 ls [])) : W p l e room_1 s m args below meth c H locs (17 + 27 * k) (9541 + 4791 * k) Q (F0 m 405 ls []) := by
  unfold wc_405 at h
  refine lv_aload_n hx hb dLA_law_405 rfl (lv_at hl 3 rfl) ?_
  refine lv_aload_n hx hb dLA_law_406 rfl (lv_at hl 4 rfl) ?_
  refine lv_iload hx hb dLA_law_407 (lv_at hl 0 rfl) ?_
  refine lv_iconst (v := 1) hx hb dLA_law_409 (by decide) ?_
  refine lv_iadd hx hb dLA_law_410 ?_
  obtain ⟨hin9, h⟩ := h
  refine va_sld hx hb hX hbl hbA hw.2.1 hin9 dLA_law_411 ?_
  refine lv_i2l hx hb dLA_law_412 rfl ?_
  refine lv_bipush (v := 32) hx hb dLA_law_413 (by decide) ?_
  refine lv_lshl hx hb dLA_law_415 rfl ?_
  refine lv_aload_n hx hb dLA_law_416 rfl (lv_at hl 4 rfl) ?_
  refine lv_iload hx hb dLA_law_417 (lv_at hl 0 rfl) ?_
  refine lv_iconst (v := 2) hx hb dLA_law_419 (by decide) ?_
  refine lv_iadd hx hb dLA_law_420 ?_
  obtain ⟨hin9, h⟩ := h
  refine va_sld hx hb hX hbl hbA hw.2.1 hin9 dLA_law_421 ?_
  refine lv_i2l hx hb dLA_law_422 rfl ?_
  refine lv_ldc2 (v := 4294967295) hx hb hown (hts _ mw_367) dLA_law_423 ?_
  refine lv_land hx hb dLA_law_426 ?_
  refine lv_lor hx hb dLA_law_427 ?_
  obtain ⟨⟨fs, hk⟩, h⟩ := h
  have hcall := h
  clear h
  refine xw_calli (va_runV (As := [.long ((((xs (i + 1).toNatClampNeg).toInt64) <<< ((32 : Int32).toInt64 &&& 63)) ||| (((xs (i + 2).toNatClampNeg).toInt64) &&& 4294967295))]) (rest := []) ⟨hx, hb, hml, hown, hts⟩ (c_PL_close l D E A _ w a1 ((((xs (i + 1).toNatClampNeg).toInt64) <<< ((32 : Int32).toInt64 &&& 63)) ||| (((xs (i + 2).toNatClampNeg).toInt64) &&& 4294967295)) hcall) (cwV 1 hts (xG_V mw_404 mw_405 mw_406 mw_95 mw_407) rfl rfl rfl (by decide +kernel) ⟨(Nat.le_of_ble_eq_true rfl), (Nat.le_of_ble_eq_true rfl)⟩) (xw_preV (ci := 4) hw hK hE rfl hk) rfl rfl hl.1 rfl (lv_room (by first | exact Nat.le_of_ble_eq_true rfl | simp [va_rf_cat, xcat_i, xcat_l, xcat_r, xcat_n])) dLA_law_428 ⟨by show 17 + 27 * k + 0 ≤ 601024; omega, by show 9541 + 4791 * k + 0 ≤ 7293034; omega⟩) hw (fun r1 w2 H locs h hw => ?_)
  clear hcall
  refine lv_aload_n hx hb dLA_law_431 rfl (lv_at hl 2 rfl) ?_
  refine lv_aload_n hx hb dLA_law_432 rfl (lv_at hl 4 rfl) ?_
  refine lv_iload hx hb dLA_law_433 (lv_at hl 0 rfl) ?_
  refine lv_iconst (v := 1) hx hb dLA_law_435 (by decide) ?_
  refine lv_iadd hx hb dLA_law_436 ?_
  obtain ⟨hin9, h⟩ := h
  refine va_sld hx hb hX hbl hbA hw.2.1 hin9 dLA_law_437 ?_
  refine lv_i2l hx hb dLA_law_438 rfl ?_
  refine lv_bipush (v := 32) hx hb dLA_law_439 (by decide) ?_
  refine lv_lshl hx hb dLA_law_441 rfl ?_
  refine lv_aload_n hx hb dLA_law_442 rfl (lv_at hl 4 rfl) ?_
  refine lv_iload hx hb dLA_law_443 (lv_at hl 0 rfl) ?_
  refine lv_iconst (v := 2) hx hb dLA_law_445 (by decide) ?_
  refine lv_iadd hx hb dLA_law_446 ?_
  obtain ⟨hin9, h⟩ := h
  refine va_sld hx hb hX hbl hbA hw.2.1 hin9 dLA_law_447 ?_
  refine lv_i2l hx hb dLA_law_448 rfl ?_
  refine lv_ldc2 (v := 4294967295) hx hb hown (hts _ mw_367) dLA_law_449 ?_
  refine lv_land hx hb dLA_law_452 ?_
  refine lv_lor hx hb dLA_law_453 ?_
  obtain ⟨⟨fs, hk⟩, h⟩ := h
  have hcall := h
  clear h
  refine xw_calli (va_runV (As := [.long ((((xs (i + 1).toNatClampNeg).toInt64) <<< ((32 : Int32).toInt64 &&& 63)) ||| (((xs (i + 2).toNatClampNeg).toInt64) &&& 4294967295))]) (rest := [.int r1]) ⟨hx, hb, hml, hown, hts⟩ (c_MO_close l D E A _ w2 a2 ((((xs (i + 1).toNatClampNeg).toInt64) <<< ((32 : Int32).toInt64 &&& 63)) ||| (((xs (i + 2).toNatClampNeg).toInt64) &&& 4294967295)) hcall) (cwV 1 hts (xG_V mw_400 mw_401 mw_402 mw_294 mw_403) rfl rfl rfl (by decide +kernel) ⟨(Nat.le_of_ble_eq_true rfl), (Nat.le_of_ble_eq_true rfl)⟩) (xw_preV (ci := 5) hw hK hE rfl hk) rfl rfl hl.1 rfl (lv_room (by first | exact Nat.le_of_ble_eq_true rfl | simp [va_rf_cat, xcat_i, xcat_l, xcat_r, xcat_n])) dLA_law_454 ⟨by show 17 + 27 * k + 0 + 0 ≤ 601024; omega, by show 9541 + 4791 * k + 0 + 0 ≤ 7293034; omega⟩) hw (fun r3 w4 H locs h hw => ?_)
  clear hcall
  refine lv_icmp_eq (tgt := 743) hx hb dLA_law_457 rfl (fun hc => ?_) (fun hc => ?_)
  · replace h := h.1 hc
    refine lv_iinc (k := 0) (v := i + 5) (lv' := [(4, .int (i + 5)), (3, .ref a3), (2, .ref a2), (1, .ref a1), (0, .ref b)]) hx hb dLA_law_743 hl rfl rfl (by decide) (by first | rfl | simp [va_rf_cat, xcat_i, xcat_l, xcat_r, xcat_n]) (fun ls hl => ?_)
    refine lv_goto (tgt := 23) hx hb dLA_law_746 rfl ?_
    refine W.widen (k := 17 + 27 * (k + 1)) (n := 9541 + 4791 * (k + 1)) (by omega) (by omega) ?_
    exact kk _ _ _ _ (lv_sub hl [0, 1, 2, 3, 4] rfl) hw h
  · replace h := h.2 hc
    refine lv_iconst (v := 0) hx hb dLA_law_460 (by decide) ?_
    exact h.elim
def wc_462 (E : xE_T) (L : Nat) (xs : Nat → Int32) (K : xw_T → Prop) (w : xw_T) (a1 a2 a3 : Nat) (i : Int32) : Prop := vp_in (i + 1) L ∧ ((∃ fs, w a1 = some (.inr (4, fs))) ∧ wp_PL_reverse E (fun r1 w2 => vp_in (i + 1) L ∧ ((∃ fs, w2 a2 = some (.inr (5, fs))) ∧ wp_MO_reverse E (fun r3 w4 => (r1 = r3 → (K w4)) ∧ (¬ r1 = r3 → (False))) w2 a2 (xs (i + 1).toNatClampNeg))) w a1 (xs (i + 1).toNatClampNeg))
set_option maxHeartbeats 4000000 in
set_option maxRecDepth 100000 in
theorem k_462 (hlT : l.stackTraces = false) (hx : p.tables.exec = Jvm.exec) (hb : c.code = cLA_law) (hml : c.maxLocals = 7) (hown : s.vm.findClass RLA = some m.cls) (hts : ∀ w ∈ xTB, w.before args s = true) (hK : va_K D vwCl (xtys E) s) (hE : xF E A s) (hX : va_X b L xs s s.heap) (hbl : b < s.heap.size) (hbA : ¬ A b) {K : xw_T → Prop} {w : xw_T} {a1 a2 a3 k : Nat} {i : Int32} {H : Heap} {locs : List Loc} {ls : Array Slot} (hl : lv_has ls 7 [(4, .int (i)), (3, .ref a3), (2, .ref a2), (1, .ref a1), (0, .ref b)]) (hw : xw_S D vwCl A s.heap w H locs) (hkk : k ≤ 512) (h : wc_462 E L xs K w a1 a2 a3 i)
    (kk : ∀ (w : xw_T) (H : Heap) (locs : List Loc) (ls : Array Slot), lv_has ls 7 [(4, .int (i + 5)), (3, .ref a3), (2, .ref a2), (1, .ref a1), (0, .ref b)] → xw_S D vwCl A s.heap w H locs → K w → W p l e room_1 s m args below meth c H locs (17 + 27 * (k + 1)) (9541 + 4791 * (k + 1)) Q (F0 m 23 ls [])) : W p l e room_1 s m args below meth c H locs (17 + 27 * k) (9541 + 4791 * k) Q (F0 m 462 ls []) := by
  unfold wc_462 at h
  refine lv_aload_n hx hb dLA_law_462 rfl (lv_at hl 3 rfl) ?_
  refine lv_aload_n hx hb dLA_law_463 rfl (lv_at hl 4 rfl) ?_
  refine lv_iload hx hb dLA_law_464 (lv_at hl 0 rfl) ?_
  refine lv_iconst (v := 1) hx hb dLA_law_466 (by decide) ?_
  refine lv_iadd hx hb dLA_law_467 ?_
  obtain ⟨hin9, h⟩ := h
  refine va_sld hx hb hX hbl hbA hw.2.1 hin9 dLA_law_468 ?_
  obtain ⟨⟨fs, hk⟩, h⟩ := h
  have hcall := h
  clear h
  refine xw_calli (va_runV (As := [.int (xs (i + 1).toNatClampNeg)]) (rest := []) ⟨hx, hb, hml, hown, hts⟩ (c_PL_reverse l D E A _ w a1 (xs (i + 1).toNatClampNeg) hcall) (cwV 1 hts (xG_V mw_412 mw_413 mw_414 mw_95 mw_415) rfl rfl rfl (by decide +kernel) ⟨(Nat.le_of_ble_eq_true rfl), (Nat.le_of_ble_eq_true rfl)⟩) (xw_preV (ci := 4) hw hK hE rfl hk) rfl rfl hl.1 rfl (lv_room (by first | exact Nat.le_of_ble_eq_true rfl | simp [va_rf_cat, xcat_i, xcat_l, xcat_r, xcat_n])) dLA_law_469 ⟨by show 17 + 27 * k + 27 ≤ 601024; omega, by show 9541 + 4791 * k + 4791 ≤ 7293034; omega⟩) hw (fun r1 w2 H locs h hw => ?_)
  clear hcall
  refine lv_aload_n hx hb dLA_law_472 rfl (lv_at hl 2 rfl) ?_
  refine lv_aload_n hx hb dLA_law_473 rfl (lv_at hl 4 rfl) ?_
  refine lv_iload hx hb dLA_law_474 (lv_at hl 0 rfl) ?_
  refine lv_iconst (v := 1) hx hb dLA_law_476 (by decide) ?_
  refine lv_iadd hx hb dLA_law_477 ?_
  obtain ⟨hin9, h⟩ := h
  refine va_sld hx hb hX hbl hbA hw.2.1 hin9 dLA_law_478 ?_
  obtain ⟨⟨fs, hk⟩, h⟩ := h
  have hcall := h
  clear h
  refine xw_calli (va_runV (As := [.int (xs (i + 1).toNatClampNeg)]) (rest := [.int r1]) ⟨hx, hb, hml, hown, hts⟩ (c_MO_reverse l D E A _ w2 a2 (xs (i + 1).toNatClampNeg) hcall) (cwV 1 hts (xG_V mw_408 mw_409 mw_410 mw_294 mw_411) rfl rfl rfl (by decide +kernel) ⟨(Nat.le_of_ble_eq_true rfl), (Nat.le_of_ble_eq_true rfl)⟩) (xw_preV (ci := 5) hw hK hE rfl hk) rfl rfl hl.1 rfl (lv_room (by first | exact Nat.le_of_ble_eq_true rfl | simp [va_rf_cat, xcat_i, xcat_l, xcat_r, xcat_n])) dLA_law_479 ⟨by show 17 + 27 * k + 27 + 0 ≤ 601024; omega, by show 9541 + 4791 * k + 4791 + 0 ≤ 7293034; omega⟩) hw (fun r3 w4 H locs h hw => ?_)
  clear hcall
  refine lv_icmp_eq (tgt := 743) hx hb dLA_law_482 rfl (fun hc => ?_) (fun hc => ?_)
  · replace h := h.1 hc
    refine lv_iinc (k := 0) (v := i + 5) (lv' := [(4, .int (i + 5)), (3, .ref a3), (2, .ref a2), (1, .ref a1), (0, .ref b)]) hx hb dLA_law_743 hl rfl rfl (by decide) (by first | rfl | simp [va_rf_cat, xcat_i, xcat_l, xcat_r, xcat_n]) (fun ls hl => ?_)
    refine lv_goto (tgt := 23) hx hb dLA_law_746 rfl ?_
    refine W.widen (k := 17 + 27 * (k + 1)) (n := 9541 + 4791 * (k + 1)) (by omega) (by omega) ?_
    exact kk _ _ _ _ (lv_sub hl [0, 1, 2, 3, 4] rfl) hw h
  · replace h := h.2 hc
    refine lv_iconst (v := 0) hx hb dLA_law_485 (by decide) ?_
    exact h.elim
def wc_487 (E : xE_T) (L : Nat) (xs : Nat → Int32) (K : xw_T → Prop) (w : xw_T) (a1 a2 a3 : Nat) (i : Int32) : Prop := vp_in (i + 1) L ∧ (vp_in (i + 2) L ∧ (vp_in (i + 3) L ∧ (vp_in (i + 4) L ∧ ((∃ fs, w a1 = some (.inr (4, fs))) ∧ wp_PL_stock E (fun r1 w2 => vp_in (i + 1) L ∧ (vp_in (i + 2) L ∧ (vp_in (i + 3) L ∧ (vp_in (i + 4) L ∧ ((∃ fs, w2 a2 = some (.inr (5, fs))) ∧ wp_MO_stock E (fun r3 w4 => (r1 = r3 → (K w4)) ∧ (¬ r1 = r3 → (False))) w2 a2 (xs (i + 1).toNatClampNeg) (xs (i + 2).toNatClampNeg) ((((xs (i + 3).toNatClampNeg).toInt64) <<< ((32 : Int32).toInt64 &&& 63)) ||| (((xs (i + 4).toNatClampNeg).toInt64) &&& 4294967295))))))) w a1 (xs (i + 1).toNatClampNeg) (xs (i + 2).toNatClampNeg) ((((xs (i + 3).toNatClampNeg).toInt64) <<< ((32 : Int32).toInt64 &&& 63)) ||| (((xs (i + 4).toNatClampNeg).toInt64) &&& 4294967295))))))
set_option maxHeartbeats 4000000 in
set_option maxRecDepth 100000 in
theorem k_487 (hlT : l.stackTraces = false) (hx : p.tables.exec = Jvm.exec) (hb : c.code = cLA_law) (hml : c.maxLocals = 7) (hown : s.vm.findClass RLA = some m.cls) (hts : ∀ w ∈ xTB, w.before args s = true) (hK : va_K D vwCl (xtys E) s) (hE : xF E A s) (hX : va_X b L xs s s.heap) (hbl : b < s.heap.size) (hbA : ¬ A b) {K : xw_T → Prop} {w : xw_T} {a1 a2 a3 k : Nat} {i : Int32} {H : Heap} {locs : List Loc} {ls : Array Slot} (hl : lv_has ls 7 [(4, .int (i)), (3, .ref a3), (2, .ref a2), (1, .ref a1), (0, .ref b)]) (hw : xw_S D vwCl A s.heap w H locs) (hkk : k ≤ 512) (h : wc_487 E L xs K w a1 a2 a3 i)
    (kk : ∀ (w : xw_T) (H : Heap) (locs : List Loc) (ls : Array Slot), lv_has ls 7 [(4, .int (i + 5)), (3, .ref a3), (2, .ref a2), (1, .ref a1), (0, .ref b)] → xw_S D vwCl A s.heap w H locs → K w → W p l e room_1 s m args below meth c H locs (17 + 27 * (k + 1)) (9541 + 4791 * (k + 1)) Q (F0 m 23 ls [])) : W p l e room_1 s m args below meth c H locs (17 + 27 * k) (9541 + 4791 * k) Q (F0 m 487 ls []) := by
  unfold wc_487 at h
  refine lv_aload_n hx hb dLA_law_487 rfl (lv_at hl 3 rfl) ?_
  refine lv_aload_n hx hb dLA_law_488 rfl (lv_at hl 4 rfl) ?_
  refine lv_iload hx hb dLA_law_489 (lv_at hl 0 rfl) ?_
  refine lv_iconst (v := 1) hx hb dLA_law_491 (by decide) ?_
  refine lv_iadd hx hb dLA_law_492 ?_
  obtain ⟨hin9, h⟩ := h
  refine va_sld hx hb hX hbl hbA hw.2.1 hin9 dLA_law_493 ?_
  refine lv_aload_n hx hb dLA_law_494 rfl (lv_at hl 4 rfl) ?_
  refine lv_iload hx hb dLA_law_495 (lv_at hl 0 rfl) ?_
  refine lv_iconst (v := 2) hx hb dLA_law_497 (by decide) ?_
  refine lv_iadd hx hb dLA_law_498 ?_
  obtain ⟨hin9, h⟩ := h
  refine va_sld hx hb hX hbl hbA hw.2.1 hin9 dLA_law_499 ?_
  refine lv_aload_n hx hb dLA_law_500 rfl (lv_at hl 4 rfl) ?_
  refine lv_iload hx hb dLA_law_501 (lv_at hl 0 rfl) ?_
  refine lv_iconst (v := 3) hx hb dLA_law_503 (by decide) ?_
  refine lv_iadd hx hb dLA_law_504 ?_
  obtain ⟨hin9, h⟩ := h
  refine va_sld hx hb hX hbl hbA hw.2.1 hin9 dLA_law_505 ?_
  refine lv_i2l hx hb dLA_law_506 rfl ?_
  refine lv_bipush (v := 32) hx hb dLA_law_507 (by decide) ?_
  refine lv_lshl hx hb dLA_law_509 rfl ?_
  refine lv_aload_n hx hb dLA_law_510 rfl (lv_at hl 4 rfl) ?_
  refine lv_iload hx hb dLA_law_511 (lv_at hl 0 rfl) ?_
  refine lv_iconst (v := 4) hx hb dLA_law_513 (by decide) ?_
  refine lv_iadd hx hb dLA_law_514 ?_
  obtain ⟨hin9, h⟩ := h
  refine va_sld hx hb hX hbl hbA hw.2.1 hin9 dLA_law_515 ?_
  refine lv_i2l hx hb dLA_law_516 rfl ?_
  refine lv_ldc2 (v := 4294967295) hx hb hown (hts _ mw_367) dLA_law_517 ?_
  refine lv_land hx hb dLA_law_520 ?_
  refine lv_lor hx hb dLA_law_521 ?_
  obtain ⟨⟨fs, hk⟩, h⟩ := h
  have hcall := h
  clear h
  refine xw_calli (va_runV (As := [.int (xs (i + 1).toNatClampNeg), .int (xs (i + 2).toNatClampNeg), .long ((((xs (i + 3).toNatClampNeg).toInt64) <<< ((32 : Int32).toInt64 &&& 63)) ||| (((xs (i + 4).toNatClampNeg).toInt64) &&& 4294967295))]) (rest := []) ⟨hx, hb, hml, hown, hts⟩ (c_PL_stock l D E A _ w a1 (xs (i + 1).toNatClampNeg) (xs (i + 2).toNatClampNeg) ((((xs (i + 3).toNatClampNeg).toInt64) <<< ((32 : Int32).toInt64 &&& 63)) ||| (((xs (i + 4).toNatClampNeg).toInt64) &&& 4294967295)) hcall) (cwV 3 hts (xG_V mw_420 mw_421 mw_422 mw_95 mw_423) rfl rfl rfl (by decide +kernel) ⟨(Nat.le_of_ble_eq_true rfl), (Nat.le_of_ble_eq_true rfl)⟩) (xw_preV (ci := 4) hw hK hE rfl hk) rfl rfl hl.1 rfl (lv_room (by first | exact Nat.le_of_ble_eq_true rfl | simp [va_rf_cat, xcat_i, xcat_l, xcat_r, xcat_n])) dLA_law_522 ⟨by show 17 + 27 * k + 7 ≤ 601024; omega, by show 9541 + 4791 * k + 1111 ≤ 7293034; omega⟩) hw (fun r1 w2 H locs h hw => ?_)
  clear hcall
  refine lv_aload_n hx hb dLA_law_525 rfl (lv_at hl 2 rfl) ?_
  refine lv_aload_n hx hb dLA_law_526 rfl (lv_at hl 4 rfl) ?_
  refine lv_iload hx hb dLA_law_527 (lv_at hl 0 rfl) ?_
  refine lv_iconst (v := 1) hx hb dLA_law_529 (by decide) ?_
  refine lv_iadd hx hb dLA_law_530 ?_
  obtain ⟨hin9, h⟩ := h
  refine va_sld hx hb hX hbl hbA hw.2.1 hin9 dLA_law_531 ?_
  refine lv_aload_n hx hb dLA_law_532 rfl (lv_at hl 4 rfl) ?_
  refine lv_iload hx hb dLA_law_533 (lv_at hl 0 rfl) ?_
  refine lv_iconst (v := 2) hx hb dLA_law_535 (by decide) ?_
  refine lv_iadd hx hb dLA_law_536 ?_
  obtain ⟨hin9, h⟩ := h
  refine va_sld hx hb hX hbl hbA hw.2.1 hin9 dLA_law_537 ?_
  refine lv_aload_n hx hb dLA_law_538 rfl (lv_at hl 4 rfl) ?_
  refine lv_iload hx hb dLA_law_539 (lv_at hl 0 rfl) ?_
  refine lv_iconst (v := 3) hx hb dLA_law_541 (by decide) ?_
  refine lv_iadd hx hb dLA_law_542 ?_
  obtain ⟨hin9, h⟩ := h
  refine va_sld hx hb hX hbl hbA hw.2.1 hin9 dLA_law_543 ?_
  refine lv_i2l hx hb dLA_law_544 rfl ?_
  refine lv_bipush (v := 32) hx hb dLA_law_545 (by decide) ?_
  refine lv_lshl hx hb dLA_law_547 rfl ?_
  refine lv_aload_n hx hb dLA_law_548 rfl (lv_at hl 4 rfl) ?_
  refine lv_iload hx hb dLA_law_549 (lv_at hl 0 rfl) ?_
  refine lv_iconst (v := 4) hx hb dLA_law_551 (by decide) ?_
  refine lv_iadd hx hb dLA_law_552 ?_
  obtain ⟨hin9, h⟩ := h
  refine va_sld hx hb hX hbl hbA hw.2.1 hin9 dLA_law_553 ?_
  refine lv_i2l hx hb dLA_law_554 rfl ?_
  refine lv_ldc2 (v := 4294967295) hx hb hown (hts _ mw_367) dLA_law_555 ?_
  refine lv_land hx hb dLA_law_558 ?_
  refine lv_lor hx hb dLA_law_559 ?_
  obtain ⟨⟨fs, hk⟩, h⟩ := h
  have hcall := h
  clear h
  refine xw_calli (va_runV (As := [.int (xs (i + 1).toNatClampNeg), .int (xs (i + 2).toNatClampNeg), .long ((((xs (i + 3).toNatClampNeg).toInt64) <<< ((32 : Int32).toInt64 &&& 63)) ||| (((xs (i + 4).toNatClampNeg).toInt64) &&& 4294967295))]) (rest := [.int r1]) ⟨hx, hb, hml, hown, hts⟩ (c_MO_stock l D E A _ w2 a2 (xs (i + 1).toNatClampNeg) (xs (i + 2).toNatClampNeg) ((((xs (i + 3).toNatClampNeg).toInt64) <<< ((32 : Int32).toInt64 &&& 63)) ||| (((xs (i + 4).toNatClampNeg).toInt64) &&& 4294967295)) hcall) (cwV 3 hts (xG_V mw_416 mw_417 mw_418 mw_294 mw_419) rfl rfl rfl (by decide +kernel) ⟨(Nat.le_of_ble_eq_true rfl), (Nat.le_of_ble_eq_true rfl)⟩) (xw_preV (ci := 5) hw hK hE rfl hk) rfl rfl hl.1 rfl (lv_room (by first | exact Nat.le_of_ble_eq_true rfl | simp [va_rf_cat, xcat_i, xcat_l, xcat_r, xcat_n])) dLA_law_560 ⟨by show 17 + 27 * k + 7 + 0 ≤ 601024; omega, by show 9541 + 4791 * k + 1111 + 0 ≤ 7293034; omega⟩) hw (fun r3 w4 H locs h hw => ?_)
  clear hcall
  refine lv_icmp_eq (tgt := 743) hx hb dLA_law_563 rfl (fun hc => ?_) (fun hc => ?_)
  · replace h := h.1 hc
    refine lv_iinc (k := 0) (v := i + 5) (lv' := [(4, .int (i + 5)), (3, .ref a3), (2, .ref a2), (1, .ref a1), (0, .ref b)]) hx hb dLA_law_743 hl rfl rfl (by decide) (by first | rfl | simp [va_rf_cat, xcat_i, xcat_l, xcat_r, xcat_n]) (fun ls hl => ?_)
    refine lv_goto (tgt := 23) hx hb dLA_law_746 rfl ?_
    refine W.widen (k := 17 + 27 * (k + 1)) (n := 9541 + 4791 * (k + 1)) (by omega) (by omega) ?_
    exact kk _ _ _ _ (lv_sub hl [0, 1, 2, 3, 4] rfl) hw h
  · replace h := h.2 hc
    refine lv_iconst (v := 0) hx hb dLA_law_566 (by decide) ?_
    exact h.elim
def wc_568 (E : xE_T) (L : Nat) (xs : Nat → Int32) (K : xw_T → Prop) (w : xw_T) (a1 a2 a3 : Nat) (i : Int32) : Prop := vp_in (i + 1) L ∧ (vp_in (i + 2) L ∧ (vp_in (i + 3) L ∧ ((∃ fs, w a1 = some (.inr (4, fs))) ∧ wp_PL_limit E (fun r1 w2 => vp_in (i + 1) L ∧ (vp_in (i + 2) L ∧ (vp_in (i + 3) L ∧ ((∃ fs, w2 a2 = some (.inr (5, fs))) ∧ wp_MO_limit E (fun r3 w4 => (r1 = r3 → (K w4)) ∧ (¬ r1 = r3 → (False))) w2 a2 (xs (i + 1).toNatClampNeg) ((((xs (i + 2).toNatClampNeg).toInt64) <<< ((32 : Int32).toInt64 &&& 63)) ||| (((xs (i + 3).toNatClampNeg).toInt64) &&& 4294967295)))))) w a1 (xs (i + 1).toNatClampNeg) ((((xs (i + 2).toNatClampNeg).toInt64) <<< ((32 : Int32).toInt64 &&& 63)) ||| (((xs (i + 3).toNatClampNeg).toInt64) &&& 4294967295)))))
set_option maxHeartbeats 4000000 in
set_option maxRecDepth 100000 in
theorem k_568 (hlT : l.stackTraces = false) (hx : p.tables.exec = Jvm.exec) (hb : c.code = cLA_law) (hml : c.maxLocals = 7) (hown : s.vm.findClass RLA = some m.cls) (hts : ∀ w ∈ xTB, w.before args s = true) (hK : va_K D vwCl (xtys E) s) (hE : xF E A s) (hX : va_X b L xs s s.heap) (hbl : b < s.heap.size) (hbA : ¬ A b) {K : xw_T → Prop} {w : xw_T} {a1 a2 a3 k : Nat} {i : Int32} {H : Heap} {locs : List Loc} {ls : Array Slot} (hl : lv_has ls 7 [(4, .int (i)), (3, .ref a3), (2, .ref a2), (1, .ref a1), (0, .ref b)]) (hw : xw_S D vwCl A s.heap w H locs) (hkk : k ≤ 512) (h : wc_568 E L xs K w a1 a2 a3 i)
    (kk : ∀ (w : xw_T) (H : Heap) (locs : List Loc) (ls : Array Slot), lv_has ls 7 [(4, .int (i + 5)), (3, .ref a3), (2, .ref a2), (1, .ref a1), (0, .ref b)] → xw_S D vwCl A s.heap w H locs → K w → W p l e room_1 s m args below meth c H locs (17 + 27 * (k + 1)) (9541 + 4791 * (k + 1)) Q (F0 m 23 ls [])) : W p l e room_1 s m args below meth c H locs (17 + 27 * k) (9541 + 4791 * k) Q (F0 m 568 ls []) := by
  unfold wc_568 at h
  refine lv_aload_n hx hb dLA_law_568 rfl (lv_at hl 3 rfl) ?_
  refine lv_aload_n hx hb dLA_law_569 rfl (lv_at hl 4 rfl) ?_
  refine lv_iload hx hb dLA_law_570 (lv_at hl 0 rfl) ?_
  refine lv_iconst (v := 1) hx hb dLA_law_572 (by decide) ?_
  refine lv_iadd hx hb dLA_law_573 ?_
  obtain ⟨hin9, h⟩ := h
  refine va_sld hx hb hX hbl hbA hw.2.1 hin9 dLA_law_574 ?_
  refine lv_aload_n hx hb dLA_law_575 rfl (lv_at hl 4 rfl) ?_
  refine lv_iload hx hb dLA_law_576 (lv_at hl 0 rfl) ?_
  refine lv_iconst (v := 2) hx hb dLA_law_578 (by decide) ?_
  refine lv_iadd hx hb dLA_law_579 ?_
  obtain ⟨hin9, h⟩ := h
  refine va_sld hx hb hX hbl hbA hw.2.1 hin9 dLA_law_580 ?_
  refine lv_i2l hx hb dLA_law_581 rfl ?_
  refine lv_bipush (v := 32) hx hb dLA_law_582 (by decide) ?_
  refine lv_lshl hx hb dLA_law_584 rfl ?_
  refine lv_aload_n hx hb dLA_law_585 rfl (lv_at hl 4 rfl) ?_
  refine lv_iload hx hb dLA_law_586 (lv_at hl 0 rfl) ?_
  refine lv_iconst (v := 3) hx hb dLA_law_588 (by decide) ?_
  refine lv_iadd hx hb dLA_law_589 ?_
  obtain ⟨hin9, h⟩ := h
  refine va_sld hx hb hX hbl hbA hw.2.1 hin9 dLA_law_590 ?_
  refine lv_i2l hx hb dLA_law_591 rfl ?_
  refine lv_ldc2 (v := 4294967295) hx hb hown (hts _ mw_367) dLA_law_592 ?_
  refine lv_land hx hb dLA_law_595 ?_
  refine lv_lor hx hb dLA_law_596 ?_
  obtain ⟨⟨fs, hk⟩, h⟩ := h
  have hcall := h
  clear h
  refine xw_calli (va_runV (As := [.int (xs (i + 1).toNatClampNeg), .long ((((xs (i + 2).toNatClampNeg).toInt64) <<< ((32 : Int32).toInt64 &&& 63)) ||| (((xs (i + 3).toNatClampNeg).toInt64) &&& 4294967295))]) (rest := []) ⟨hx, hb, hml, hown, hts⟩ (c_PL_limit l D E A _ w a1 (xs (i + 1).toNatClampNeg) ((((xs (i + 2).toNatClampNeg).toInt64) <<< ((32 : Int32).toInt64 &&& 63)) ||| (((xs (i + 3).toNatClampNeg).toInt64) &&& 4294967295)) hcall) (cwV 2 hts (xG_V mw_428 mw_429 mw_430 mw_95 mw_431) rfl rfl rfl (by decide +kernel) ⟨(Nat.le_of_ble_eq_true rfl), (Nat.le_of_ble_eq_true rfl)⟩) (xw_preV (ci := 4) hw hK hE rfl hk) rfl rfl hl.1 rfl (lv_room (by first | exact Nat.le_of_ble_eq_true rfl | simp [va_rf_cat, xcat_i, xcat_l, xcat_r, xcat_n])) dLA_law_597 ⟨by show 17 + 27 * k + 0 ≤ 601024; omega, by show 9541 + 4791 * k + 0 ≤ 7293034; omega⟩) hw (fun r1 w2 H locs h hw => ?_)
  clear hcall
  refine lv_aload_n hx hb dLA_law_600 rfl (lv_at hl 2 rfl) ?_
  refine lv_aload_n hx hb dLA_law_601 rfl (lv_at hl 4 rfl) ?_
  refine lv_iload hx hb dLA_law_602 (lv_at hl 0 rfl) ?_
  refine lv_iconst (v := 1) hx hb dLA_law_604 (by decide) ?_
  refine lv_iadd hx hb dLA_law_605 ?_
  obtain ⟨hin9, h⟩ := h
  refine va_sld hx hb hX hbl hbA hw.2.1 hin9 dLA_law_606 ?_
  refine lv_aload_n hx hb dLA_law_607 rfl (lv_at hl 4 rfl) ?_
  refine lv_iload hx hb dLA_law_608 (lv_at hl 0 rfl) ?_
  refine lv_iconst (v := 2) hx hb dLA_law_610 (by decide) ?_
  refine lv_iadd hx hb dLA_law_611 ?_
  obtain ⟨hin9, h⟩ := h
  refine va_sld hx hb hX hbl hbA hw.2.1 hin9 dLA_law_612 ?_
  refine lv_i2l hx hb dLA_law_613 rfl ?_
  refine lv_bipush (v := 32) hx hb dLA_law_614 (by decide) ?_
  refine lv_lshl hx hb dLA_law_616 rfl ?_
  refine lv_aload_n hx hb dLA_law_617 rfl (lv_at hl 4 rfl) ?_
  refine lv_iload hx hb dLA_law_618 (lv_at hl 0 rfl) ?_
  refine lv_iconst (v := 3) hx hb dLA_law_620 (by decide) ?_
  refine lv_iadd hx hb dLA_law_621 ?_
  obtain ⟨hin9, h⟩ := h
  refine va_sld hx hb hX hbl hbA hw.2.1 hin9 dLA_law_622 ?_
  refine lv_i2l hx hb dLA_law_623 rfl ?_
  refine lv_ldc2 (v := 4294967295) hx hb hown (hts _ mw_367) dLA_law_624 ?_
  refine lv_land hx hb dLA_law_627 ?_
  refine lv_lor hx hb dLA_law_628 ?_
  obtain ⟨⟨fs, hk⟩, h⟩ := h
  have hcall := h
  clear h
  refine xw_calli (va_runV (As := [.int (xs (i + 1).toNatClampNeg), .long ((((xs (i + 2).toNatClampNeg).toInt64) <<< ((32 : Int32).toInt64 &&& 63)) ||| (((xs (i + 3).toNatClampNeg).toInt64) &&& 4294967295))]) (rest := [.int r1]) ⟨hx, hb, hml, hown, hts⟩ (c_MO_limit l D E A _ w2 a2 (xs (i + 1).toNatClampNeg) ((((xs (i + 2).toNatClampNeg).toInt64) <<< ((32 : Int32).toInt64 &&& 63)) ||| (((xs (i + 3).toNatClampNeg).toInt64) &&& 4294967295)) hcall) (cwV 2 hts (xG_V mw_424 mw_425 mw_426 mw_294 mw_427) rfl rfl rfl (by decide +kernel) ⟨(Nat.le_of_ble_eq_true rfl), (Nat.le_of_ble_eq_true rfl)⟩) (xw_preV (ci := 5) hw hK hE rfl hk) rfl rfl hl.1 rfl (lv_room (by first | exact Nat.le_of_ble_eq_true rfl | simp [va_rf_cat, xcat_i, xcat_l, xcat_r, xcat_n])) dLA_law_629 ⟨by show 17 + 27 * k + 0 + 0 ≤ 601024; omega, by show 9541 + 4791 * k + 0 + 0 ≤ 7293034; omega⟩) hw (fun r3 w4 H locs h hw => ?_)
  clear hcall
  refine lv_icmp_eq (tgt := 743) hx hb dLA_law_632 rfl (fun hc => ?_) (fun hc => ?_)
  · replace h := h.1 hc
    refine lv_iinc (k := 0) (v := i + 5) (lv' := [(4, .int (i + 5)), (3, .ref a3), (2, .ref a2), (1, .ref a1), (0, .ref b)]) hx hb dLA_law_743 hl rfl rfl (by decide) (by first | rfl | simp [va_rf_cat, xcat_i, xcat_l, xcat_r, xcat_n]) (fun ls hl => ?_)
    refine lv_goto (tgt := 23) hx hb dLA_law_746 rfl ?_
    refine W.widen (k := 17 + 27 * (k + 1)) (n := 9541 + 4791 * (k + 1)) (by omega) (by omega) ?_
    exact kk _ _ _ _ (lv_sub hl [0, 1, 2, 3, 4] rfl) hw h
  · replace h := h.2 hc
    refine lv_iconst (v := 0) hx hb dLA_law_635 (by decide) ?_
    exact h.elim
def wc_637 (E : xE_T) (L : Nat) (xs : Nat → Int32) (K : xw_T → Prop) (w : xw_T) (a1 a2 a3 : Nat) (i : Int32) : Prop := vp_in (i + 1) L ∧ (vp_in (i + 2) L ∧ (((xs (i + 2).toNatClampNeg) = 0 → ((∃ fs, w a1 = some (.inr (4, fs))) ∧ wp_PL_fails E (fun r1 w2 => vp_in (i + 1) L ∧ (vp_in (i + 2) L ∧ (((xs (i + 2).toNatClampNeg) = 0 → ((∃ fs, w2 a2 = some (.inr (5, fs))) ∧ wp_MO_fails E (fun r3 w4 => (r1 = r3 → (K w4)) ∧ (¬ r1 = r3 → (False))) w2 a2 (xs (i + 1).toNatClampNeg) 0)) ∧ (¬ (xs (i + 2).toNatClampNeg) = 0 → ((∃ fs, w2 a2 = some (.inr (5, fs))) ∧ wp_MO_fails E (fun r5 w6 => (r1 = r5 → (K w6)) ∧ (¬ r1 = r5 → (False))) w2 a2 (xs (i + 1).toNatClampNeg) 1))))) w a1 (xs (i + 1).toNatClampNeg) 0)) ∧ (¬ (xs (i + 2).toNatClampNeg) = 0 → ((∃ fs, w a1 = some (.inr (4, fs))) ∧ wp_PL_fails E (fun r7 w8 => vp_in (i + 1) L ∧ (vp_in (i + 2) L ∧ (((xs (i + 2).toNatClampNeg) = 0 → ((∃ fs, w8 a2 = some (.inr (5, fs))) ∧ wp_MO_fails E (fun r9 w10 => (r7 = r9 → (K w10)) ∧ (¬ r7 = r9 → (False))) w8 a2 (xs (i + 1).toNatClampNeg) 0)) ∧ (¬ (xs (i + 2).toNatClampNeg) = 0 → ((∃ fs, w8 a2 = some (.inr (5, fs))) ∧ wp_MO_fails E (fun r11 w12 => (r7 = r11 → (K w12)) ∧ (¬ r7 = r11 → (False))) w8 a2 (xs (i + 1).toNatClampNeg) 1))))) w a1 (xs (i + 1).toNatClampNeg) 1))))
set_option maxHeartbeats 4000000 in
set_option maxRecDepth 100000 in
theorem k_637 (hlT : l.stackTraces = false) (hx : p.tables.exec = Jvm.exec) (hb : c.code = cLA_law) (hml : c.maxLocals = 7) (hown : s.vm.findClass RLA = some m.cls) (hts : ∀ w ∈ xTB, w.before args s = true) (hK : va_K D vwCl (xtys E) s) (hE : xF E A s) (hX : va_X b L xs s s.heap) (hbl : b < s.heap.size) (hbA : ¬ A b) {K : xw_T → Prop} {w : xw_T} {a1 a2 a3 k : Nat} {i : Int32} {H : Heap} {locs : List Loc} {ls : Array Slot} (hl : lv_has ls 7 [(4, .int (i)), (3, .ref a3), (2, .ref a2), (1, .ref a1), (0, .ref b)]) (hw : xw_S D vwCl A s.heap w H locs) (hkk : k ≤ 512) (h : wc_637 E L xs K w a1 a2 a3 i)
    (kk : ∀ (w : xw_T) (H : Heap) (locs : List Loc) (ls : Array Slot), lv_has ls 7 [(4, .int (i + 5)), (3, .ref a3), (2, .ref a2), (1, .ref a1), (0, .ref b)] → xw_S D vwCl A s.heap w H locs → K w → W p l e room_1 s m args below meth c H locs (17 + 27 * (k + 1)) (9541 + 4791 * (k + 1)) Q (F0 m 23 ls [])) : W p l e room_1 s m args below meth c H locs (17 + 27 * k) (9541 + 4791 * k) Q (F0 m 637 ls []) := by
  unfold wc_637 at h
  refine lv_aload_n hx hb dLA_law_637 rfl (lv_at hl 3 rfl) ?_
  refine lv_aload_n hx hb dLA_law_638 rfl (lv_at hl 4 rfl) ?_
  refine lv_iload hx hb dLA_law_639 (lv_at hl 0 rfl) ?_
  refine lv_iconst (v := 1) hx hb dLA_law_641 (by decide) ?_
  refine lv_iadd hx hb dLA_law_642 ?_
  obtain ⟨hin9, h⟩ := h
  refine va_sld hx hb hX hbl hbA hw.2.1 hin9 dLA_law_643 ?_
  refine lv_aload_n hx hb dLA_law_644 rfl (lv_at hl 4 rfl) ?_
  refine lv_iload hx hb dLA_law_645 (lv_at hl 0 rfl) ?_
  refine lv_iconst (v := 2) hx hb dLA_law_647 (by decide) ?_
  refine lv_iadd hx hb dLA_law_648 ?_
  obtain ⟨hin9, h⟩ := h
  refine va_sld hx hb hX hbl hbA hw.2.1 hin9 dLA_law_649 ?_
  refine lv_if_eq (tgt := 657) hx hb dLA_law_650 rfl (fun hc => ?_) (fun hc => ?_)
  · replace h := h.1 hc
    refine lv_iconst (v := 0) hx hb dLA_law_657 (by decide) ?_
    obtain ⟨⟨fs, hk⟩, h⟩ := h
    have hcall := h
    clear h
    refine xw_calli (va_runV (As := [.int (xs (i + 1).toNatClampNeg), .int 0]) (rest := []) ⟨hx, hb, hml, hown, hts⟩ (c_PL_fails l D E A _ w a1 (xs (i + 1).toNatClampNeg) 0 hcall) (cwV 2 hts (xG_V mw_436 mw_437 mw_438 mw_95 mw_439) rfl rfl rfl (by decide +kernel) ⟨(Nat.le_of_ble_eq_true rfl), (Nat.le_of_ble_eq_true rfl)⟩) (xw_preV (ci := 4) hw hK hE rfl hk) rfl rfl hl.1 rfl (lv_room (by first | exact Nat.le_of_ble_eq_true rfl | simp [va_rf_cat, xcat_i, xcat_l, xcat_r, xcat_n])) dLA_law_658 ⟨by show 17 + 27 * k + 0 ≤ 601024; omega, by show 9541 + 4791 * k + 0 ≤ 7293034; omega⟩) hw (fun r1 w2 H locs h hw => ?_)
    clear hcall
    refine lv_aload_n hx hb dLA_law_661 rfl (lv_at hl 2 rfl) ?_
    refine lv_aload_n hx hb dLA_law_662 rfl (lv_at hl 4 rfl) ?_
    refine lv_iload hx hb dLA_law_663 (lv_at hl 0 rfl) ?_
    refine lv_iconst (v := 1) hx hb dLA_law_665 (by decide) ?_
    refine lv_iadd hx hb dLA_law_666 ?_
    obtain ⟨hin9, h⟩ := h
    refine va_sld hx hb hX hbl hbA hw.2.1 hin9 dLA_law_667 ?_
    refine lv_aload_n hx hb dLA_law_668 rfl (lv_at hl 4 rfl) ?_
    refine lv_iload hx hb dLA_law_669 (lv_at hl 0 rfl) ?_
    refine lv_iconst (v := 2) hx hb dLA_law_671 (by decide) ?_
    refine lv_iadd hx hb dLA_law_672 ?_
    obtain ⟨hin9, h⟩ := h
    refine va_sld hx hb hX hbl hbA hw.2.1 hin9 dLA_law_673 ?_
    refine lv_if_eq (tgt := 681) hx hb dLA_law_674 rfl (fun hc => ?_) (fun hc => ?_)
    · replace h := h.1 hc
      refine lv_iconst (v := 0) hx hb dLA_law_681 (by decide) ?_
      obtain ⟨⟨fs, hk⟩, h⟩ := h
      have hcall := h
      clear h
      refine xw_calli (va_runV (As := [.int (xs (i + 1).toNatClampNeg), .int 0]) (rest := [.int r1]) ⟨hx, hb, hml, hown, hts⟩ (c_MO_fails l D E A _ w2 a2 (xs (i + 1).toNatClampNeg) 0 hcall) (cwV 2 hts (xG_V mw_432 mw_433 mw_434 mw_294 mw_435) rfl rfl rfl (by decide +kernel) ⟨(Nat.le_of_ble_eq_true rfl), (Nat.le_of_ble_eq_true rfl)⟩) (xw_preV (ci := 5) hw hK hE rfl hk) rfl rfl hl.1 rfl (lv_room (by first | exact Nat.le_of_ble_eq_true rfl | simp [va_rf_cat, xcat_i, xcat_l, xcat_r, xcat_n])) dLA_law_682 ⟨by show 17 + 27 * k + 0 + 0 ≤ 601024; omega, by show 9541 + 4791 * k + 0 + 0 ≤ 7293034; omega⟩) hw (fun r3 w4 H locs h hw => ?_)
      clear hcall
      refine lv_icmp_eq (tgt := 743) hx hb dLA_law_685 rfl (fun hc => ?_) (fun hc => ?_)
      · replace h := h.1 hc
        refine lv_iinc (k := 0) (v := i + 5) (lv' := [(4, .int (i + 5)), (3, .ref a3), (2, .ref a2), (1, .ref a1), (0, .ref b)]) hx hb dLA_law_743 hl rfl rfl (by decide) (by first | rfl | simp [va_rf_cat, xcat_i, xcat_l, xcat_r, xcat_n]) (fun ls hl => ?_)
        refine lv_goto (tgt := 23) hx hb dLA_law_746 rfl ?_
        refine W.widen (k := 17 + 27 * (k + 1)) (n := 9541 + 4791 * (k + 1)) (by omega) (by omega) ?_
        exact kk _ _ _ _ (lv_sub hl [0, 1, 2, 3, 4] rfl) hw h
      · replace h := h.2 hc
        refine lv_iconst (v := 0) hx hb dLA_law_688 (by decide) ?_
        exact h.elim
    · replace h := h.2 hc
      refine lv_iconst (v := 1) hx hb dLA_law_677 (by decide) ?_
      refine lv_goto (tgt := 682) hx hb dLA_law_678 rfl ?_
      obtain ⟨⟨fs, hk⟩, h⟩ := h
      have hcall := h
      clear h
      refine xw_calli (va_runV (As := [.int (xs (i + 1).toNatClampNeg), .int 1]) (rest := [.int r1]) ⟨hx, hb, hml, hown, hts⟩ (c_MO_fails l D E A _ w2 a2 (xs (i + 1).toNatClampNeg) 1 hcall) (cwV 2 hts (xG_V mw_432 mw_433 mw_434 mw_294 mw_435) rfl rfl rfl (by decide +kernel) ⟨(Nat.le_of_ble_eq_true rfl), (Nat.le_of_ble_eq_true rfl)⟩) (xw_preV (ci := 5) hw hK hE rfl hk) rfl rfl hl.1 rfl (lv_room (by first | exact Nat.le_of_ble_eq_true rfl | simp [va_rf_cat, xcat_i, xcat_l, xcat_r, xcat_n])) dLA_law_682 ⟨by show 17 + 27 * k + 0 + 0 ≤ 601024; omega, by show 9541 + 4791 * k + 0 + 0 ≤ 7293034; omega⟩) hw (fun r5 w6 H locs h hw => ?_)
      clear hcall
      refine lv_icmp_eq (tgt := 743) hx hb dLA_law_685 rfl (fun hc => ?_) (fun hc => ?_)
      · replace h := h.1 hc
        refine lv_iinc (k := 0) (v := i + 5) (lv' := [(4, .int (i + 5)), (3, .ref a3), (2, .ref a2), (1, .ref a1), (0, .ref b)]) hx hb dLA_law_743 hl rfl rfl (by decide) (by first | rfl | simp [va_rf_cat, xcat_i, xcat_l, xcat_r, xcat_n]) (fun ls hl => ?_)
        refine lv_goto (tgt := 23) hx hb dLA_law_746 rfl ?_
        refine W.widen (k := 17 + 27 * (k + 1)) (n := 9541 + 4791 * (k + 1)) (by omega) (by omega) ?_
        exact kk _ _ _ _ (lv_sub hl [0, 1, 2, 3, 4] rfl) hw h
      · replace h := h.2 hc
        refine lv_iconst (v := 0) hx hb dLA_law_688 (by decide) ?_
        exact h.elim
  · replace h := h.2 hc
    refine lv_iconst (v := 1) hx hb dLA_law_653 (by decide) ?_
    refine lv_goto (tgt := 658) hx hb dLA_law_654 rfl ?_
    obtain ⟨⟨fs, hk⟩, h⟩ := h
    have hcall := h
    clear h
    refine xw_calli (va_runV (As := [.int (xs (i + 1).toNatClampNeg), .int 1]) (rest := []) ⟨hx, hb, hml, hown, hts⟩ (c_PL_fails l D E A _ w a1 (xs (i + 1).toNatClampNeg) 1 hcall) (cwV 2 hts (xG_V mw_436 mw_437 mw_438 mw_95 mw_439) rfl rfl rfl (by decide +kernel) ⟨(Nat.le_of_ble_eq_true rfl), (Nat.le_of_ble_eq_true rfl)⟩) (xw_preV (ci := 4) hw hK hE rfl hk) rfl rfl hl.1 rfl (lv_room (by first | exact Nat.le_of_ble_eq_true rfl | simp [va_rf_cat, xcat_i, xcat_l, xcat_r, xcat_n])) dLA_law_658 ⟨by show 17 + 27 * k + 0 ≤ 601024; omega, by show 9541 + 4791 * k + 0 ≤ 7293034; omega⟩) hw (fun r7 w8 H locs h hw => ?_)
    clear hcall
    refine lv_aload_n hx hb dLA_law_661 rfl (lv_at hl 2 rfl) ?_
    refine lv_aload_n hx hb dLA_law_662 rfl (lv_at hl 4 rfl) ?_
    refine lv_iload hx hb dLA_law_663 (lv_at hl 0 rfl) ?_
    refine lv_iconst (v := 1) hx hb dLA_law_665 (by decide) ?_
    refine lv_iadd hx hb dLA_law_666 ?_
    obtain ⟨hin9, h⟩ := h
    refine va_sld hx hb hX hbl hbA hw.2.1 hin9 dLA_law_667 ?_
    refine lv_aload_n hx hb dLA_law_668 rfl (lv_at hl 4 rfl) ?_
    refine lv_iload hx hb dLA_law_669 (lv_at hl 0 rfl) ?_
    refine lv_iconst (v := 2) hx hb dLA_law_671 (by decide) ?_
    refine lv_iadd hx hb dLA_law_672 ?_
    obtain ⟨hin9, h⟩ := h
    refine va_sld hx hb hX hbl hbA hw.2.1 hin9 dLA_law_673 ?_
    refine lv_if_eq (tgt := 681) hx hb dLA_law_674 rfl (fun hc => ?_) (fun hc => ?_)
    · replace h := h.1 hc
      refine lv_iconst (v := 0) hx hb dLA_law_681 (by decide) ?_
      obtain ⟨⟨fs, hk⟩, h⟩ := h
      have hcall := h
      clear h
      refine xw_calli (va_runV (As := [.int (xs (i + 1).toNatClampNeg), .int 0]) (rest := [.int r7]) ⟨hx, hb, hml, hown, hts⟩ (c_MO_fails l D E A _ w8 a2 (xs (i + 1).toNatClampNeg) 0 hcall) (cwV 2 hts (xG_V mw_432 mw_433 mw_434 mw_294 mw_435) rfl rfl rfl (by decide +kernel) ⟨(Nat.le_of_ble_eq_true rfl), (Nat.le_of_ble_eq_true rfl)⟩) (xw_preV (ci := 5) hw hK hE rfl hk) rfl rfl hl.1 rfl (lv_room (by first | exact Nat.le_of_ble_eq_true rfl | simp [va_rf_cat, xcat_i, xcat_l, xcat_r, xcat_n])) dLA_law_682 ⟨by show 17 + 27 * k + 0 + 0 ≤ 601024; omega, by show 9541 + 4791 * k + 0 + 0 ≤ 7293034; omega⟩) hw (fun r9 w10 H locs h hw => ?_)
      clear hcall
      refine lv_icmp_eq (tgt := 743) hx hb dLA_law_685 rfl (fun hc => ?_) (fun hc => ?_)
      · replace h := h.1 hc
        refine lv_iinc (k := 0) (v := i + 5) (lv' := [(4, .int (i + 5)), (3, .ref a3), (2, .ref a2), (1, .ref a1), (0, .ref b)]) hx hb dLA_law_743 hl rfl rfl (by decide) (by first | rfl | simp [va_rf_cat, xcat_i, xcat_l, xcat_r, xcat_n]) (fun ls hl => ?_)
        refine lv_goto (tgt := 23) hx hb dLA_law_746 rfl ?_
        refine W.widen (k := 17 + 27 * (k + 1)) (n := 9541 + 4791 * (k + 1)) (by omega) (by omega) ?_
        exact kk _ _ _ _ (lv_sub hl [0, 1, 2, 3, 4] rfl) hw h
      · replace h := h.2 hc
        refine lv_iconst (v := 0) hx hb dLA_law_688 (by decide) ?_
        exact h.elim
    · replace h := h.2 hc
      refine lv_iconst (v := 1) hx hb dLA_law_677 (by decide) ?_
      refine lv_goto (tgt := 682) hx hb dLA_law_678 rfl ?_
      obtain ⟨⟨fs, hk⟩, h⟩ := h
      have hcall := h
      clear h
      refine xw_calli (va_runV (As := [.int (xs (i + 1).toNatClampNeg), .int 1]) (rest := [.int r7]) ⟨hx, hb, hml, hown, hts⟩ (c_MO_fails l D E A _ w8 a2 (xs (i + 1).toNatClampNeg) 1 hcall) (cwV 2 hts (xG_V mw_432 mw_433 mw_434 mw_294 mw_435) rfl rfl rfl (by decide +kernel) ⟨(Nat.le_of_ble_eq_true rfl), (Nat.le_of_ble_eq_true rfl)⟩) (xw_preV (ci := 5) hw hK hE rfl hk) rfl rfl hl.1 rfl (lv_room (by first | exact Nat.le_of_ble_eq_true rfl | simp [va_rf_cat, xcat_i, xcat_l, xcat_r, xcat_n])) dLA_law_682 ⟨by show 17 + 27 * k + 0 + 0 ≤ 601024; omega, by show 9541 + 4791 * k + 0 + 0 ≤ 7293034; omega⟩) hw (fun r11 w12 H locs h hw => ?_)
      clear hcall
      refine lv_icmp_eq (tgt := 743) hx hb dLA_law_685 rfl (fun hc => ?_) (fun hc => ?_)
      · replace h := h.1 hc
        refine lv_iinc (k := 0) (v := i + 5) (lv' := [(4, .int (i + 5)), (3, .ref a3), (2, .ref a2), (1, .ref a1), (0, .ref b)]) hx hb dLA_law_743 hl rfl rfl (by decide) (by first | rfl | simp [va_rf_cat, xcat_i, xcat_l, xcat_r, xcat_n]) (fun ls hl => ?_)
        refine lv_goto (tgt := 23) hx hb dLA_law_746 rfl ?_
        refine W.widen (k := 17 + 27 * (k + 1)) (n := 9541 + 4791 * (k + 1)) (by omega) (by omega) ?_
        exact kk _ _ _ _ (lv_sub hl [0, 1, 2, 3, 4] rfl) hw h
      · replace h := h.2 hc
        refine lv_iconst (v := 0) hx hb dLA_law_688 (by decide) ?_
        exact h.elim
def wc_690 (E : xE_T) (L : Nat) (xs : Nat → Int32) (K : xw_T → Prop) (w : xw_T) (a1 a2 a3 : Nat) (i : Int32) : Prop := vp_in (i + 1) L ∧ ((∃ fs, w a1 = some (.inr (4, fs))) ∧ wp_PL_hold E (fun r1 w2 => vp_in (i + 1) L ∧ ((∃ fs, w2 a2 = some (.inr (5, fs))) ∧ wp_MO_hold E (fun r3 w4 => (r1 = r3 → (K w4)) ∧ (¬ r1 = r3 → (False))) w2 a2 (xs (i + 1).toNatClampNeg))) w a1 (xs (i + 1).toNatClampNeg))
set_option maxHeartbeats 4000000 in
set_option maxRecDepth 100000 in
theorem k_690 (hlT : l.stackTraces = false) (hx : p.tables.exec = Jvm.exec) (hb : c.code = cLA_law) (hml : c.maxLocals = 7) (hown : s.vm.findClass RLA = some m.cls) (hts : ∀ w ∈ xTB, w.before args s = true) (hK : va_K D vwCl (xtys E) s) (hE : xF E A s) (hX : va_X b L xs s s.heap) (hbl : b < s.heap.size) (hbA : ¬ A b) {K : xw_T → Prop} {w : xw_T} {a1 a2 a3 k : Nat} {i : Int32} {H : Heap} {locs : List Loc} {ls : Array Slot} (hl : lv_has ls 7 [(4, .int (i)), (3, .ref a3), (2, .ref a2), (1, .ref a1), (0, .ref b)]) (hw : xw_S D vwCl A s.heap w H locs) (hkk : k ≤ 512) (h : wc_690 E L xs K w a1 a2 a3 i)
    (kk : ∀ (w : xw_T) (H : Heap) (locs : List Loc) (ls : Array Slot), lv_has ls 7 [(4, .int (i + 5)), (3, .ref a3), (2, .ref a2), (1, .ref a1), (0, .ref b)] → xw_S D vwCl A s.heap w H locs → K w → W p l e room_1 s m args below meth c H locs (17 + 27 * (k + 1)) (9541 + 4791 * (k + 1)) Q (F0 m 23 ls [])) : W p l e room_1 s m args below meth c H locs (17 + 27 * k) (9541 + 4791 * k) Q (F0 m 690 ls []) := by
  unfold wc_690 at h
  refine lv_aload_n hx hb dLA_law_690 rfl (lv_at hl 3 rfl) ?_
  refine lv_aload_n hx hb dLA_law_691 rfl (lv_at hl 4 rfl) ?_
  refine lv_iload hx hb dLA_law_692 (lv_at hl 0 rfl) ?_
  refine lv_iconst (v := 1) hx hb dLA_law_694 (by decide) ?_
  refine lv_iadd hx hb dLA_law_695 ?_
  obtain ⟨hin9, h⟩ := h
  refine va_sld hx hb hX hbl hbA hw.2.1 hin9 dLA_law_696 ?_
  obtain ⟨⟨fs, hk⟩, h⟩ := h
  have hcall := h
  clear h
  refine xw_calll (va_runV (As := [.int (xs (i + 1).toNatClampNeg)]) (rest := []) ⟨hx, hb, hml, hown, hts⟩ (c_PL_hold l D E A _ w a1 (xs (i + 1).toNatClampNeg) hcall) (cwV 1 hts (xG_V mw_444 mw_445 mw_446 mw_95 mw_447) rfl rfl rfl (by decide +kernel) ⟨(Nat.le_of_ble_eq_true rfl), (Nat.le_of_ble_eq_true rfl)⟩) (xw_preV (ci := 4) hw hK hE rfl hk) rfl rfl hl.1 rfl (lv_room (by first | exact Nat.le_of_ble_eq_true rfl | simp [va_rf_cat, xcat_i, xcat_l, xcat_r, xcat_n])) dLA_law_697 ⟨by show 17 + 27 * k + 0 ≤ 601024; omega, by show 9541 + 4791 * k + 0 ≤ 7293034; omega⟩) hw (fun r1 w2 H locs h hw => ?_)
  clear hcall
  refine lv_aload_n hx hb dLA_law_700 rfl (lv_at hl 2 rfl) ?_
  refine lv_aload_n hx hb dLA_law_701 rfl (lv_at hl 4 rfl) ?_
  refine lv_iload hx hb dLA_law_702 (lv_at hl 0 rfl) ?_
  refine lv_iconst (v := 1) hx hb dLA_law_704 (by decide) ?_
  refine lv_iadd hx hb dLA_law_705 ?_
  obtain ⟨hin9, h⟩ := h
  refine va_sld hx hb hX hbl hbA hw.2.1 hin9 dLA_law_706 ?_
  obtain ⟨⟨fs, hk⟩, h⟩ := h
  have hcall := h
  clear h
  refine xw_calll (va_runV (As := [.int (xs (i + 1).toNatClampNeg)]) (rest := [.long r1]) ⟨hx, hb, hml, hown, hts⟩ (c_MO_hold l D E A _ w2 a2 (xs (i + 1).toNatClampNeg) hcall) (cwV 1 hts (xG_V mw_440 mw_441 mw_442 mw_294 mw_443) rfl rfl rfl (by decide +kernel) ⟨(Nat.le_of_ble_eq_true rfl), (Nat.le_of_ble_eq_true rfl)⟩) (xw_preV (ci := 5) hw hK hE rfl hk) rfl rfl hl.1 rfl (lv_room (by first | exact Nat.le_of_ble_eq_true rfl | simp [va_rf_cat, xcat_i, xcat_l, xcat_r, xcat_n])) dLA_law_707 ⟨by show 17 + 27 * k + 0 + 0 ≤ 601024; omega, by show 9541 + 4791 * k + 0 + 0 ≤ 7293034; omega⟩) hw (fun r3 w4 H locs h hw => ?_)
  clear hcall
  refine xl_lc_eq (tgt := 743) hx hb dLA_law_710 dLA_law_711 rfl (fun hc => ?_) (fun hc => ?_)
  · replace h := h.1 hc
    refine lv_iinc (k := 0) (v := i + 5) (lv' := [(4, .int (i + 5)), (3, .ref a3), (2, .ref a2), (1, .ref a1), (0, .ref b)]) hx hb dLA_law_743 hl rfl rfl (by decide) (by first | rfl | simp [va_rf_cat, xcat_i, xcat_l, xcat_r, xcat_n]) (fun ls hl => ?_)
    refine lv_goto (tgt := 23) hx hb dLA_law_746 rfl ?_
    refine W.widen (k := 17 + 27 * (k + 1)) (n := 9541 + 4791 * (k + 1)) (by omega) (by omega) ?_
    exact kk _ _ _ _ (lv_sub hl [0, 1, 2, 3, 4] rfl) hw h
  · replace h := h.2 hc
    refine lv_iconst (v := 0) hx hb dLA_law_714 (by decide) ?_
    exact h.elim
def wc_716 (E : xE_T) (L : Nat) (xs : Nat → Int32) (K : xw_T → Prop) (w : xw_T) (a1 a2 a3 : Nat) (i : Int32) : Prop := (∃ fs, w a1 = some (.inr (4, fs))) ∧ wp_PL_rows E (fun r1 w2 => (∃ fs, w2 a2 = some (.inr (5, fs))) ∧ wp_MO_rows E (fun r3 w4 => (r1 = r3 → (K w4)) ∧ (¬ r1 = r3 → (False))) w2 a2) w a1
set_option maxHeartbeats 4000000 in
set_option maxRecDepth 100000 in
theorem k_716 (hlT : l.stackTraces = false) (hx : p.tables.exec = Jvm.exec) (hb : c.code = cLA_law) (hml : c.maxLocals = 7) (hown : s.vm.findClass RLA = some m.cls) (hts : ∀ w ∈ xTB, w.before args s = true) (hK : va_K D vwCl (xtys E) s) (hE : xF E A s) (hX : va_X b L xs s s.heap) (hbl : b < s.heap.size) (hbA : ¬ A b) {K : xw_T → Prop} {w : xw_T} {a1 a2 a3 k : Nat} {i : Int32} {H : Heap} {locs : List Loc} {ls : Array Slot} (hl : lv_has ls 7 [(4, .int (i)), (3, .ref a3), (2, .ref a2), (1, .ref a1), (0, .ref b)]) (hw : xw_S D vwCl A s.heap w H locs) (hkk : k ≤ 512) (h : wc_716 E L xs K w a1 a2 a3 i)
    (kk : ∀ (w : xw_T) (H : Heap) (locs : List Loc) (ls : Array Slot), lv_has ls 7 [(4, .int (i + 5)), (3, .ref a3), (2, .ref a2), (1, .ref a1), (0, .ref b)] → xw_S D vwCl A s.heap w H locs → K w → W p l e room_1 s m args below meth c H locs (17 + 27 * (k + 1)) (9541 + 4791 * (k + 1)) Q (F0 m 23 ls [])) : W p l e room_1 s m args below meth c H locs (17 + 27 * k) (9541 + 4791 * k) Q (F0 m 716 ls []) := by
  unfold wc_716 at h
  refine lv_aload_n hx hb dLA_law_716 rfl (lv_at hl 3 rfl) ?_
  obtain ⟨⟨fs, hk⟩, h⟩ := h
  have hcall := h
  clear h
  refine xw_calli (va_runV (As := []) (rest := []) ⟨hx, hb, hml, hown, hts⟩ (c_PL_rows l D E A _ w a1 hcall) (cwV 0 hts (xG_V mw_452 mw_453 mw_454 mw_95 mw_455) rfl rfl rfl (by decide +kernel) ⟨(Nat.le_of_ble_eq_true rfl), (Nat.le_of_ble_eq_true rfl)⟩) (xw_preV (ci := 4) hw hK hE rfl hk) rfl rfl hl.1 rfl (lv_room (by first | exact Nat.le_of_ble_eq_true rfl | simp [va_rf_cat, xcat_i, xcat_l, xcat_r, xcat_n])) dLA_law_717 ⟨by show 17 + 27 * k + 0 ≤ 601024; omega, by show 9541 + 4791 * k + 0 ≤ 7293034; omega⟩) hw (fun r1 w2 H locs h hw => ?_)
  clear hcall
  refine lv_aload_n hx hb dLA_law_720 rfl (lv_at hl 2 rfl) ?_
  obtain ⟨⟨fs, hk⟩, h⟩ := h
  have hcall := h
  clear h
  refine xw_calli (va_runV (As := []) (rest := [.int r1]) ⟨hx, hb, hml, hown, hts⟩ (c_MO_rows l D E A _ w2 a2 hcall) (cwV 0 hts (xG_V mw_448 mw_449 mw_450 mw_294 mw_451) rfl rfl rfl (by decide +kernel) ⟨(Nat.le_of_ble_eq_true rfl), (Nat.le_of_ble_eq_true rfl)⟩) (xw_preV (ci := 5) hw hK hE rfl hk) rfl rfl hl.1 rfl (lv_room (by first | exact Nat.le_of_ble_eq_true rfl | simp [va_rf_cat, xcat_i, xcat_l, xcat_r, xcat_n])) dLA_law_721 ⟨by show 17 + 27 * k + 0 + 0 ≤ 601024; omega, by show 9541 + 4791 * k + 0 + 0 ≤ 7293034; omega⟩) hw (fun r3 w4 H locs h hw => ?_)
  clear hcall
  refine lv_icmp_eq (tgt := 743) hx hb dLA_law_724 rfl (fun hc => ?_) (fun hc => ?_)
  · replace h := h.1 hc
    refine lv_iinc (k := 0) (v := i + 5) (lv' := [(4, .int (i + 5)), (3, .ref a3), (2, .ref a2), (1, .ref a1), (0, .ref b)]) hx hb dLA_law_743 hl rfl rfl (by decide) (by first | rfl | simp [va_rf_cat, xcat_i, xcat_l, xcat_r, xcat_n]) (fun ls hl => ?_)
    refine lv_goto (tgt := 23) hx hb dLA_law_746 rfl ?_
    refine W.widen (k := 17 + 27 * (k + 1)) (n := 9541 + 4791 * (k + 1)) (by omega) (by omega) ?_
    exact kk _ _ _ _ (lv_sub hl [0, 1, 2, 3, 4] rfl) hw h
  · replace h := h.2 hc
    refine lv_iconst (v := 0) hx hb dLA_law_727 (by decide) ?_
    exact h.elim
def wc_729 (E : xE_T) (L : Nat) (xs : Nat → Int32) (K : xw_T → Prop) (w : xw_T) (a1 a2 a3 : Nat) (i : Int32) : Prop := (∃ fs, w a1 = some (.inr (4, fs))) ∧ wp_PL_all E (fun r1 w2 => (∃ fs, w2 a2 = some (.inr (5, fs))) ∧ wp_MO_all E (fun r3 w4 => (r1 = r3 → (K w4)) ∧ (¬ r1 = r3 → (False))) w2 a2) w a1
set_option maxHeartbeats 4000000 in
set_option maxRecDepth 100000 in
theorem k_729 (hlT : l.stackTraces = false) (hx : p.tables.exec = Jvm.exec) (hb : c.code = cLA_law) (hml : c.maxLocals = 7) (hown : s.vm.findClass RLA = some m.cls) (hts : ∀ w ∈ xTB, w.before args s = true) (hK : va_K D vwCl (xtys E) s) (hE : xF E A s) (hX : va_X b L xs s s.heap) (hbl : b < s.heap.size) (hbA : ¬ A b) {K : xw_T → Prop} {w : xw_T} {a1 a2 a3 k : Nat} {i : Int32} {H : Heap} {locs : List Loc} {ls : Array Slot} (hl : lv_has ls 7 [(4, .int (i)), (3, .ref a3), (2, .ref a2), (1, .ref a1), (0, .ref b)]) (hw : xw_S D vwCl A s.heap w H locs) (hkk : k ≤ 512) (h : wc_729 E L xs K w a1 a2 a3 i)
    (kk : ∀ (w : xw_T) (H : Heap) (locs : List Loc) (ls : Array Slot), lv_has ls 7 [(4, .int (i + 5)), (3, .ref a3), (2, .ref a2), (1, .ref a1), (0, .ref b)] → xw_S D vwCl A s.heap w H locs → K w → W p l e room_1 s m args below meth c H locs (17 + 27 * (k + 1)) (9541 + 4791 * (k + 1)) Q (F0 m 23 ls [])) : W p l e room_1 s m args below meth c H locs (17 + 27 * k) (9541 + 4791 * k) Q (F0 m 729 ls []) := by
  unfold wc_729 at h
  refine lv_aload_n hx hb dLA_law_729 rfl (lv_at hl 3 rfl) ?_
  obtain ⟨⟨fs, hk⟩, h⟩ := h
  have hcall := h
  clear h
  refine xw_calll (va_runV (As := []) (rest := []) ⟨hx, hb, hml, hown, hts⟩ (c_PL_all l D E A _ w a1 hcall) (cwV 0 hts (xG_V mw_460 mw_461 mw_462 mw_95 mw_463) rfl rfl rfl (by decide +kernel) ⟨(Nat.le_of_ble_eq_true rfl), (Nat.le_of_ble_eq_true rfl)⟩) (xw_preV (ci := 4) hw hK hE rfl hk) rfl rfl hl.1 rfl (lv_room (by first | exact Nat.le_of_ble_eq_true rfl | simp [va_rf_cat, xcat_i, xcat_l, xcat_r, xcat_n])) dLA_law_730 ⟨by show 17 + 27 * k + 0 ≤ 601024; omega, by show 9541 + 4791 * k + 0 ≤ 7293034; omega⟩) hw (fun r1 w2 H locs h hw => ?_)
  clear hcall
  refine lv_aload_n hx hb dLA_law_733 rfl (lv_at hl 2 rfl) ?_
  obtain ⟨⟨fs, hk⟩, h⟩ := h
  have hcall := h
  clear h
  refine xw_calll (va_runV (As := []) (rest := [.long r1]) ⟨hx, hb, hml, hown, hts⟩ (c_MO_all l D E A _ w2 a2 hcall) (cwV 0 hts (xG_V mw_456 mw_457 mw_458 mw_294 mw_459) rfl rfl rfl (by decide +kernel) ⟨(Nat.le_of_ble_eq_true rfl), (Nat.le_of_ble_eq_true rfl)⟩) (xw_preV (ci := 5) hw hK hE rfl hk) rfl rfl hl.1 rfl (lv_room (by first | exact Nat.le_of_ble_eq_true rfl | simp [va_rf_cat, xcat_i, xcat_l, xcat_r, xcat_n])) dLA_law_734 ⟨by show 17 + 27 * k + 0 + 0 ≤ 601024; omega, by show 9541 + 4791 * k + 0 + 0 ≤ 7293034; omega⟩) hw (fun r3 w4 H locs h hw => ?_)
  clear hcall
  refine xl_lc_eq (tgt := 743) hx hb dLA_law_737 dLA_law_738 rfl (fun hc => ?_) (fun hc => ?_)
  · replace h := h.1 hc
    refine lv_iinc (k := 0) (v := i + 5) (lv' := [(4, .int (i + 5)), (3, .ref a3), (2, .ref a2), (1, .ref a1), (0, .ref b)]) hx hb dLA_law_743 hl rfl rfl (by decide) (by first | rfl | simp [va_rf_cat, xcat_i, xcat_l, xcat_r, xcat_n]) (fun ls hl => ?_)
    refine lv_goto (tgt := 23) hx hb dLA_law_746 rfl ?_
    refine W.widen (k := 17 + 27 * (k + 1)) (n := 9541 + 4791 * (k + 1)) (by omega) (by omega) ?_
    exact kk _ _ _ _ (lv_sub hl [0, 1, 2, 3, 4] rfl) hw h
  · replace h := h.2 hc
    refine lv_iconst (v := 0) hx hb dLA_law_741 (by decide) ?_
    exact h.elim
end LAWC
