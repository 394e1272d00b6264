/-! CALLS AND ENDS OVER THE MAP -/
/-- a method's start and end: the map stands -/
def xB (D : va_G) (A : Nat → Prop) (w : xw_T) (t : State) : Prop := ∃ ws : va_W, xw_in w ws ∧ va_P D vwCl ws t.heap ∧ va_D A ws
def xP (D : va_G) (E : xE_T) (A : Nat → Prop) (w : xw_T) (U : State) : Prop := (xB D A w U ∧ ∀ q : Nat, U.heap.size ≤ q → A q) ∧ va_K D vwCl (xtys E) U ∧ xF E A U
section XC
variable {p : Program} {l : Launch} {e : Env} {R : Room} {s : State} {m : MethodId} {args : Array Value} {below : List Frame} {meth : Method} {c : Code} {H : Heap} {locs : List Loc} {cells slots : Nat} {Q : State → Prop}
variable {cc : ByteArray} {pc : Nat} {ls : Array Slot} {rest st0 : List Value} {D : va_G} {E : xE_T} {A : Nat → Prop} {w : xw_T} {mc ms : Nat} {a : Array Value}
theorem xw_S0 (h : xB D A w s ∧ ∀ q : Nat, s.heap.size ≤ q → A q) : xw_S D vwCl A s.heap w s.heap [] := ⟨h.1, va_S.rf, h.2⟩
theorem xP_of {U : State} (hw : xw_S D vwCl A s.heap w H locs) (hK : va_K D vwCl (xtys E) s) (hE : xF E A s) (hU : U.heap = H) (hW : s.WarmedH U.vm) : xP D E A w U := by
  obtain ⟨⟨ws, h1, h2, h3⟩, hS, hA⟩ := hw
  refine ⟨⟨⟨ws, h1, by rw [hU]; exact h2, h3⟩, fun q hq => hA q (Nat.le_trans hS.1 (by rw [← hU]; exact hq))⟩, va_K.moved hW.alike hK, xF_of hE hW (by rw [hU]; exact hS)⟩
theorem xP_blind {U : State} {g : JFrame} {mk : MethodId} {a : Array Value} (h : xP D E A w U) : xP D E A w (U.calling g mk a) :=
  ⟨h.1, va_K.moved (u := U) (U := U.calling g mk a) (Vm.Alike.refl U.vm) h.2.1, xF_call h.2.2⟩
theorem xw_preV {ci : Nat} {q : vw_C} {b : Nat} {fs : List Value} {As : List Value} (hw : xw_S D vwCl A s.heap w H locs) (hK : va_K D vwCl (xtys E) s) (hE : xF E A s) (hc : vwCl[ci]? = some q) (hk : w b = some (.inr (ci, fs))) : PreV s H q.1 b (va_Pc (.ref b :: As) (xP D E A w)) As :=
  ⟨fun _ _ _ _ h => ⟨h.1, xP_blind h.2⟩, xw_recv hK hw hc hk, fun _ hU hW => ⟨rfl, xP_of hw hK hE hU hW⟩⟩
theorem xw_preS {As : List Value} (hw : xw_S D vwCl A s.heap w H locs) (hK : va_K D vwCl (xtys E) s) (hE : xF E A s) : PreS s H (va_Pc As (xP D E A w)) As :=
  ⟨fun _ _ _ _ h => ⟨h.1, xP_blind h.2⟩, fun _ hU hW => ⟨rfl, xP_of hw hK hE hU hW⟩⟩
theorem xB_of {t : State} {H1 : Heap} (ht : t.heap = H1) (hB : xB D A w t) : ∃ ws : va_W, xw_in w ws ∧ va_P D vwCl ws H1 ∧ va_D A ws := by
  obtain ⟨ws, h1, h2, h3⟩ := hB
  exact ⟨ws, h1, by rw [← ht]; exact h2, h3⟩
theorem xw_calli {w0 : xw_T} {post : Int32 → xw_T → Prop} (hr : va_Run p l e R s m args below meth c H locs cells slots mc ms (F0 m pc ls st0) rest (va_Qi post (xB D A) A a) A) (hw : xw_S D vwCl A s.heap w0 H locs)
    (kk : ∀ (r : Int32) (w1 : xw_T) (H1 : Heap) (locs1 : List Loc), post r w1 → xw_S D vwCl A s.heap w1 H1 locs1 → W p l e R s m args below meth c H1 locs1 (cells + mc) (slots + ms) Q (F0 m (pc + 3) ls (.int r :: rest))) : W p l e R s m args below meth c H locs cells slots Q (F0 m pc ls st0) :=
  va_calli hr hw.2.1 (fun _ _ h => h) (fun _ h => h) (fun r u _ H1 locs1 ht _ hp hB _ _ hS => kk r u H1 locs1 hp ⟨xB_of ht hB, hS, hw.2.2⟩)
theorem xw_calll {w0 : xw_T} {post : Int64 → xw_T → Prop} (hr : va_Run p l e R s m args below meth c H locs cells slots mc ms (F0 m pc ls st0) rest (va_Ql post (xB D A) A a) A) (hw : xw_S D vwCl A s.heap w0 H locs)
    (kk : ∀ (r : Int64) (w1 : xw_T) (H1 : Heap) (locs1 : List Loc), post r w1 → xw_S D vwCl A s.heap w1 H1 locs1 → W p l e R s m args below meth c H1 locs1 (cells + mc) (slots + ms) Q (F0 m (pc + 3) ls (.long r :: rest))) : W p l e R s m args below meth c H locs cells slots Q (F0 m pc ls st0) :=
  va_calll hr hw.2.1 (fun _ _ h => h) (fun _ h => h) (fun r u _ H1 locs1 ht _ hp hB _ _ hS => kk r u H1 locs1 hp ⟨xB_of ht hB, hS, hw.2.2⟩)
theorem xw_callq {w0 : xw_T} {post : Option Nat → xw_T → Prop} (hr : va_Run p l e R s m args below meth c H locs cells slots mc ms (F0 m pc ls st0) rest (va_Qq post (xB D A) A a) A) (hw : xw_S D vwCl A s.heap w0 H locs)
    (kk : ∀ (r : Option Nat) (w1 : xw_T) (H1 : Heap) (locs1 : List Loc), post r w1 → xw_S D vwCl A s.heap w1 H1 locs1 → W p l e R s m args below meth c H1 locs1 (cells + mc) (slots + ms) Q (F0 m (pc + 3) ls (va_rf r :: rest))) : W p l e R s m args below meth c H locs cells slots Q (F0 m pc ls st0) :=
  va_callq hr hw.2.1 (fun _ _ h => h) (fun _ h => h) (fun r u _ H1 locs1 ht _ hp hB _ _ hS => kk r u H1 locs1 hp ⟨xB_of ht hB, hS, hw.2.2⟩)
theorem xw_callv {w0 : xw_T} {post : xw_T → Prop} (hr : va_Run p l e R s m args below meth c H locs cells slots mc ms (F0 m pc ls st0) rest (va_Qv post (xB D A) A a) A) (hw : xw_S D vwCl A s.heap w0 H locs)
    (kk : ∀ (w1 : xw_T) (H1 : Heap) (locs1 : List Loc), post w1 → xw_S D vwCl A s.heap w1 H1 locs1 → W p l e R s m args below meth c H1 locs1 (cells + mc) (slots + ms) Q (F0 m (pc + 3) ls rest)) : W p l e R s m args below meth c H locs cells slots Q (F0 m pc ls st0) :=
  va_callv hr hw.2.1 (fun _ _ h => h) (fun _ h => h) (fun u _ H1 locs1 ht _ hp hB _ _ hS => kk u H1 locs1 hp ⟨xB_of ht hB, hS, hw.2.2⟩)
theorem xw_iret {post : Int32 → xw_T → Prop} {v : Int32} (hx : p.tables.exec = Jvm.exec) (hb : c.code = cc) (hr : meth.sig.returnType = some .int) (hlocks : meth.locks = false) (hw : xw_S D vwCl A s.heap w H locs) (h : post v w) (hdg : decode cc pc = .ok (.ireturn, 1)) : W p l e R s m args below meth c H locs cells slots (MQ below (va_Qi post (xB D A) A) args s cells slots A) (F0 m pc ls [.int v]) :=
  W.iret hx hb hr (fun t ht _ => ⟨⟨v, w, rfl, h, xB_of (H1 := t.heap) rfl (by rw [← ht] at hw; exact hw.1)⟩, hw.2.1.F ht⟩) hw.2.1.2.2 hdg hlocks
theorem xw_zret {post : Int32 → xw_T → Prop} {v : Int32} {ty : FieldType} (hn : narrow ty (.int v) = .int v) (hx : p.tables.exec = Jvm.exec) (hb : c.code = cc) (hr : meth.sig.returnType = some ty) (hlocks : meth.locks = false) (hw : xw_S D vwCl A s.heap w H locs) (h : post v w) (hdg : decode cc pc = .ok (.ireturn, 1)) : W p l e R s m args below meth c H locs cells slots (MQ below (va_Qi post (xB D A) A) args s cells slots A) (F0 m pc ls [.int v]) :=
  W.zret hx hb hr hn (fun t ht _ => ⟨⟨v, w, rfl, h, xB_of (H1 := t.heap) rfl (by rw [← ht] at hw; exact hw.1)⟩, hw.2.1.F ht⟩) hw.2.1.2.2 hdg hlocks
theorem xw_lret {post : Int64 → xw_T → Prop} {v : Int64} (hx : p.tables.exec = Jvm.exec) (hb : c.code = cc) (hr : meth.sig.returnType = some .long) (hlocks : meth.locks = false) (hw : xw_S D vwCl A s.heap w H locs) (h : post v w) (hdg : decode cc pc = .ok (.lreturn, 1)) : W p l e R s m args below meth c H locs cells slots (MQ below (va_Ql post (xB D A) A) args s cells slots A) (F0 m pc ls [.long v]) :=
  W.lret hx hb hr (fun t ht _ => ⟨⟨v, w, rfl, h, xB_of (H1 := t.heap) rfl (by rw [← ht] at hw; exact hw.1)⟩, hw.2.1.F ht⟩) hw.2.1.2.2 hdg hlocks
theorem xw_vret {post : xw_T → Prop} (hx : p.tables.exec = Jvm.exec) (hb : c.code = cc) (hr : meth.sig.returnType = none) (hlocks : meth.locks = false) (hw : xw_S D vwCl A s.heap w H locs) (h : post w) (hdg : decode cc pc = .ok (.return_, 1)) : W p l e R s m args below meth c H locs cells slots (MQ below (va_Qv post (xB D A) A) args s cells slots A) (F0 m pc ls []) :=
  W.vret hx hb hr (fun t ht _ => ⟨⟨w, rfl, h, xB_of (H1 := t.heap) rfl (by rw [← ht] at hw; exact hw.1)⟩, hw.2.1.F ht⟩) hw.2.1.2.2 hdg hlocks
theorem xw_aret {post : Option Nat → xw_T → Prop} {r : Option Nat} {rt : FieldType} (hrt : (∃ n, rt = .object n) ∨ ∃ t, rt = .array t) (hx : p.tables.exec = Jvm.exec) (hb : c.code = cc) (hr : meth.sig.returnType = some rt) (hlocks : meth.locks = false) (hw : xw_S D vwCl A s.heap w H locs) (h : post r w) (hdg : decode cc pc = .ok (.areturn, 1)) : W p l e R s m args below meth c H locs cells slots (MQ below (va_Qq post (xB D A) A) args s cells slots A) (F0 m pc ls [va_rf r]) :=
  W.aret hx hb hr hrt (by cases r with | none => exact Or.inl rfl | some x => exact Or.inr ⟨x, rfl⟩) (fun t ht _ => ⟨⟨r, w, rfl, h, xB_of (H1 := t.heap) rfl (by rw [← ht] at hw; exact hw.1)⟩, hw.2.1.F ht⟩) hw.2.1.2.2 hdg hlocks
theorem xl_start {vs : List Value} {n : Nat} {lvs : List (Nat × Value)} (h1 : (lg_sl vs).length ≤ n) (h2 : lv_args 0 vs = lvs) (kk : ∀ ls : Array Slot, lv_has ls n lvs → W p l e R s m args below meth c H locs cells slots Q (F0 m 0 ls [])) : W p l e R s m args below meth c H locs cells slots Q (entryFrame m vs.toArray n) := by
  have hl := lv_entry vs (n := n) h1
  rw [h2] at hl
  rw [lg_entry_eq]
  exact kk _ hl
end XC
theorem xn_rf (r : Option Nat) (ty : FieldType) (h : (∃ n, ty = .object n) ∨ ∃ t, ty = .array t) : narrow ty (va_rf r) = va_rf r := by
  rcases h with ⟨n, rfl⟩ | ⟨t, rfl⟩ <;> cases r <;> rfl
theorem xf_rf (r : Option Nat) (ty : FieldType) (h : (∃ n, ty = .object n) ∨ ∃ t, ty = .array t) : fits ty (va_rf r) = true := by
  rcases h with ⟨n, rfl⟩ | ⟨t, rfl⟩ <;> cases r <;> rfl
