/-! ROWS OF THEIR OWN: new arrays, the length of an array that may be the empty static one, getClass, the mirror, arraycopy -/
/-- the length of an array: our own, or the static empty one -/
def xlen (E : xE_T) (w : xw_T) (a : Nat) (t : Nat) : Option Nat := if a = E.2 6 ∧ t = 0 then some 0 else (xaE w a (E.1 t)).map (fun x => x.1)
theorem xq6 {E : xE_T} {A : Nat → Prop} {s : State} {q : Nat} (hE : xF E A s) (h : A q) : q ≠ E.2 6 := fun e => hE.2.2.2.2.1.2.out (by rw [← e]; exact h)
section XS
variable {p : Program} {l : Launch} {e : Env} {R : Room} {s : State} {m : MethodId} {args : Array Value} {below : List Frame} {meth : Method} {c : Code} {H : Heap} {locs : List Loc} {cells slots : Nat} {Q : State → Prop}
variable {cc : ByteArray} {pc : Nat} {ls : Array Slot} {rest : List Value} {D : va_G} {E : xE_T} {A : Nat → Prop} {a : Nat} {w : xw_T}
theorem xw_len (hx : p.tables.exec = Jvm.exec) (hb : c.code = cc) (hK : va_K D vwCl (xtys E) s) (hE : xF E A s) (hw : xw_S D vwCl A s.heap w H locs) (t : Nat) (ht : t < 4) {n : Nat} (hn : xlen E w a t = some n) (hdg : decode cc pc = .ok (.arraylength, 1))
    (kk : W p l e R s m args below meth c H locs cells slots Q (F0 m (pc + 1) ls (.int (nI n) :: rest))) : W p l e R s m args below meth c H locs cells slots Q (F0 m pc ls (.ref a :: rest)) := by
  unfold xlen at hn
  by_cases h0 : a = E.2 6 ∧ t = 0
  · rw [if_pos h0] at hn
    cases hn
    rw [h0.1]
    exact va_tlen hx hb hE.2.2.2.2.1.2 hw.2.1 rfl hdg kk
  · rw [if_neg h0] at hn
    cases hx2 : xaE w a (E.1 t) with
    | none => rw [hx2] at hn; cases hn
    | some y =>
      rw [hx2] at hn
      cases hn
      have ha := xaE_spec hx2
      match t, ht with
      | 0, _ => exact xw_alen hx hb hK hw 0 rfl ha hdg kk
      | 1, _ => exact xw_alen hx hb hK hw 1 rfl ha hdg kk
      | 2, _ => exact xw_alen hx hb hK hw 2 rfl ha hdg kk
      | 3, _ => exact xw_alen hx hb hK hw 3 rfl ha hdg kk
theorem xw_newq (hx : p.tables.exec = Jvm.exec) (hb : c.code = cc) {own : String} {index : Nat} (hown : s.vm.findClass own = some m.cls) (hclink : (Cond.classLink own index "java/lang/Object").before args s = true) (hK : va_K D vwCl (xtys E) s) (hE : xF E A s) (hw : xw_S D vwCl A s.heap w H locs)
    {n : Int32} {N' : Nat} (hn : ¬ n < 0) (hN : n.toNatClampNeg = N') (hbytes : N' * 4 ≤ 536870912) (hcells : cells + 1 ≤ R.cells) (hslots : slots + N' ≤ R.slots) (hdg : decode cc pc = .ok (.anewarray index, 3))
    (kk : ∀ (q : Nat) (H1 : Heap), w q = none → A q → xw_S D vwCl A s.heap (va_up w q (some (xcQ (E.1 0) N' (fun _ => none)))) H1 locs → W p l e R s m args below meth c H1 locs (cells + 1) (slots + N') Q (F0 m (pc + 3) ls (.ref q :: rest))) : W p l e R s m args below meth c H locs cells slots Q (F0 m pc ls (.int n :: rest)) := by
  obtain ⟨⟨ws, hi, hP, hD⟩, hS, hA⟩ := hw
  refine va_newq hx hb hown hclink hE.2.1.1 hK hP hD hS hA hn hN hbytes hcells hslots hdg (fun q cA H1 hK1 hP1 hD1 hS1 => ?_)
  have h1 : va_RA s (E.1 0) (.object "java/lang/Object") := (hK.2 0 _ rfl).2
  have h2 : va_RA s cA (.object "java/lang/Object") := (hK1.2 4 _ rfl).2
  have hc : cA = E.1 0 := Option.some.inj ((va_nmO h2 rfl).symm.trans (va_nmO h1 rfl))
  subst hc
  exact kk q H1 (xw_in_fresh hi hD1) (xw_in_A hD1) ⟨⟨_, xw_in_push hi hD1, hP1, hD1⟩, hS1, hA⟩
theorem xw_newi (hx : p.tables.exec = Jvm.exec) (hb : c.code = cc) (harr : (Cond.arrayClass .int).before args s = true) (hK : va_K D vwCl (xtys E) s) (hw : xw_S D vwCl A s.heap w H locs)
    {n : Int32} {N' : Nat} (hn : ¬ n < 0) (hN : n.toNatClampNeg = N') (hbytes : N' * componentBytes .int ≤ 536870912) (hcells : cells + 1 ≤ R.cells) (hslots : slots + N' ≤ R.slots) (hdg : decode cc pc = .ok (.newarray .int, 2))
    (kk : ∀ (q : Nat) (H1 : Heap), w q = none → A q → xw_S D vwCl A s.heap (va_up w q (some (xcI (E.1 1) N' (fun _ => 0)))) H1 locs → W p l e R s m args below meth c H1 locs (cells + 1) (slots + N') Q (F0 m (pc + 2) ls (.ref q :: rest))) : W p l e R s m args below meth c H locs cells slots Q (F0 m pc ls (.int n :: rest)) := by
  obtain ⟨⟨ws, hi, hP, hD⟩, hS, hA⟩ := hw
  refine va_newa (atype := .int) (a0 := (N', .inl (fun _ => 0))) (ty := .int) hx hb harr rfl hK hP hD hS hA (fun _ => rfl) hn hN hbytes hcells hslots hdg (fun q cA H1 hK1 hP1 hD1 hS1 => ?_)
  have h1 : va_RA s (E.1 1) .int := (hK.2 1 _ rfl).2
  have h2 : va_RA s cA .int := (hK1.2 4 _ rfl).2
  have hc : cA = E.1 1 := Option.some.inj (h2.symm.trans h1)
  subst hc
  exact kk q H1 (xw_in_fresh hi hD1) (xw_in_A hD1) ⟨⟨_, xw_in_push hi hD1, hP1, hD1⟩, hS1, hA⟩
theorem xw_newl (hx : p.tables.exec = Jvm.exec) (hb : c.code = cc) (harr : (Cond.arrayClass .long).before args s = true) (hK : va_K D vwCl (xtys E) s) (hw : xw_S D vwCl A s.heap w H locs)
    {n : Int32} {N' : Nat} (hn : ¬ n < 0) (hN : n.toNatClampNeg = N') (hbytes : N' * componentBytes .long ≤ 536870912) (hcells : cells + 1 ≤ R.cells) (hslots : slots + N' ≤ R.slots) (hdg : decode cc pc = .ok (.newarray .long, 2))
    (kk : ∀ (q : Nat) (H1 : Heap), w q = none → A q → xw_S D vwCl A s.heap (va_up w q (some (xcL (E.1 2) N' (fun _ => 0)))) H1 locs → W p l e R s m args below meth c H1 locs (cells + 1) (slots + N') Q (F0 m (pc + 2) ls (.ref q :: rest))) : W p l e R s m args below meth c H locs cells slots Q (F0 m pc ls (.int n :: rest)) := by
  obtain ⟨⟨ws, hi, hP, hD⟩, hS, hA⟩ := hw
  refine va_newa (atype := .long) (a0 := (N', .inr (.inl (fun _ => 0)))) (ty := .long) hx hb harr rfl hK hP hD hS hA (fun _ => rfl) hn hN hbytes hcells hslots hdg (fun q cA H1 hK1 hP1 hD1 hS1 => ?_)
  have h1 : va_RA s (E.1 2) .long := (hK.2 2 _ rfl).2
  have h2 : va_RA s cA .long := (hK1.2 4 _ rfl).2
  have hc : cA = E.1 2 := Option.some.inj (h2.symm.trans h1)
  subst hc
  exact kk q H1 (xw_in_fresh hi hD1) (xw_in_A hD1) ⟨⟨_, xw_in_push hi hD1, hP1, hD1⟩, hS1, hA⟩
theorem xw_newz (hx : p.tables.exec = Jvm.exec) (hb : c.code = cc) (harr : (Cond.arrayClass .boolean).before args s = true) (hK : va_K D vwCl (xtys E) s) (hw : xw_S D vwCl A s.heap w H locs)
    {n : Int32} {N' : Nat} (hn : ¬ n < 0) (hN : n.toNatClampNeg = N') (hbytes : N' * componentBytes .boolean ≤ 536870912) (hcells : cells + 1 ≤ R.cells) (hslots : slots + N' ≤ R.slots) (hdg : decode cc pc = .ok (.newarray .boolean, 2))
    (kk : ∀ (q : Nat) (H1 : Heap), w q = none → A q → xw_S D vwCl A s.heap (va_up w q (some (xcI (E.1 3) N' (fun _ => 0)))) H1 locs → W p l e R s m args below meth c H1 locs (cells + 1) (slots + N') Q (F0 m (pc + 2) ls (.ref q :: rest))) : W p l e R s m args below meth c H locs cells slots Q (F0 m pc ls (.int n :: rest)) := by
  obtain ⟨⟨ws, hi, hP, hD⟩, hS, hA⟩ := hw
  refine va_newa (atype := .boolean) (a0 := (N', .inl (fun _ => 0))) (ty := .boolean) hx hb harr rfl hK hP hD hS hA (fun _ => rfl) hn hN hbytes hcells hslots hdg (fun q cA H1 hK1 hP1 hD1 hS1 => ?_)
  have h1 : va_RA s (E.1 3) .boolean := (hK.2 3 _ rfl).2
  have h2 : va_RA s cA .boolean := (hK1.2 4 _ rfl).2
  have hc : cA = E.1 3 := Option.some.inj (h2.symm.trans h1)
  subst hc
  exact kk q H1 (xw_in_fresh hi hD1) (xw_in_A hD1) ⟨⟨_, xw_in_push hi hD1, hP1, hD1⟩, hS1, hA⟩
/-- our own array of Objects: a cell of its kind -/
theorem xw_recvQ (hK : va_K D vwCl (xtys E) s) (hw : xw_S D vwCl A s.heap w H locs) {n : Nat} {f : Nat → Option Nat} (ha : xaQ w a (E.1 0) = some (n, f)) : ∃ cell : Cell, H[a]? = some cell ∧ cell.vm.isStatics = false ∧ s.vm.findClass "[Ljava/lang/Object;" = some cell.cls := by
  obtain ⟨⟨ws, hi, hP, hD⟩, hS, hA⟩ := hw
  obtain ⟨q0, hq⟩ := (hi _ _).mp (xaQ_spec ha)
  have h1 : va_RA s (E.1 0) (.object "java/lang/Object") := (hK.2 0 _ rfl).2
  exact ⟨_, hP q0 _ hq, rfl, va_nmO h1 rfl⟩
/-- an object of the world, or an element of an array of Objects that holds such: can be stored into an array of Objects -/
theorem xw_any {E0 : String} (hK : va_K D vwCl (xtys E) s) (hw : xw_S D vwCl A s.heap w H locs) {v ci : Nat} {vs : List Value} {r : vw_C} (hv : w v = some (.inr (ci, vs))) (hc : vwCl[ci]? = some r) (hca : va_Nw (.castable r.1 E0) s) : va_Any E0 s H v := by
  obtain ⟨⟨ws, hi, hP, hD⟩, hS, hA⟩ := hw
  obtain ⟨qk, hqk⟩ := (hi _ _).mp hv
  exact va_rAny hK hP hqk hc (vb_asgC hca)
/-- what may lie in our arrays of Objects: accounts, batches, rows -/
def xOb (w : xw_T) (v : Nat) : Prop := ∃ vs : List Value, w v = some (.inr (1, vs)) ∨ w v = some (.inr (2, vs)) ∨ w v = some (.inr (3, vs))
theorem xw_anyO (hK : va_K D vwCl (xtys E) s) (hE : xF E A s) (hw : xw_S D vwCl A s.heap w H locs) {v : Nat} (hv : xOb w v) : va_Any "java/lang/Object" s H v := by
  obtain ⟨vs, h | h | h⟩ := hv
  · exact xw_any hK hw (ci := 1) h rfl hE.1.2.1
  · exact xw_any hK hw (ci := 2) h rfl hE.1.2.2
  · exact xw_any hK hw (ci := 3) h rfl hE.1.1
theorem xw_aasO (hx : p.tables.exec = Jvm.exec) (hb : c.code = cc) (hK : va_K D vwCl (xtys E) s) (hE : xF E A s) (hw : xw_S D vwCl A s.heap w H locs) {n : Nat} {f : Nat → Option Nat} (ha : xaQ w a (E.1 0) = some (n, f)) {v : Nat} (hv : xOb w v) {i : Int32} (hin : vp_in i n) (hdg : decode cc pc = .ok (.aastore, 1))
    (kk : ∀ (H1 : Heap) (locs1 : List Loc), xw_S D vwCl A s.heap (va_up w a (some (xcQ (E.1 0) n (va_up f i.toNatClampNeg (some v))))) H1 locs1 → W p l e R s m args below meth c H1 locs1 cells slots Q (F0 m (pc + 1) ls rest)) : W p l e R s m args below meth c H locs cells slots Q (F0 m pc ls (.ref v :: .int i :: .ref a :: rest)) := by
  have hany := xw_anyO hK hE hw hv
  obtain ⟨⟨ws, hi, hP, hD⟩, hS, hA⟩ := hw
  obtain ⟨q0, hq⟩ := (hi _ _).mp (xaQ_spec ha)
  exact va_astqM hx hb hK hP hD hS q0 0 hq rfl hany hin hdg (fun H1 locs1 hP1 hD1 hS1 => kk H1 locs1 (xw_S_set hi hD hA hq hP1 hD1 hS1))
theorem xw_copy (hx : p.tables.exec = Jvm.exec) (hb : c.code = cc) (hml : c.maxLocals = ls.size) {own : String} {index : Nat} (hown : s.vm.findClass own = some m.cls) (hlink : (Cond.methodLink own index arraycopyName).before args s = true) (hnat : (Cond.native arraycopyName).before args s = true) (hstat : (Cond.static arraycopyName).before args s = true) (hini : (Cond.initialized "java/lang/System").before args s = true)
    (hK : va_K D vwCl (xtys E) s) (hE : xF E A s) (hw : xw_S D vwCl A s.heap w H locs) {a0 : Nat} {n0 n1 : Nat} {f g : Nat → Option Nat} (ha0 : xaQ w a0 (E.1 0) = some (n0, f)) (ha1 : xaQ w a (E.1 0) = some (n1, g))
    {sp dp n : Int32} (hc : ¬ sp < 0 ∧ ¬ dp < 0 ∧ ¬ n < 0 ∧ sp.toNatClampNeg + n.toNatClampNeg ≤ n0 ∧ dp.toNatClampNeg + n.toNatClampNeg ≤ n1) (hel : ∀ i : Nat, i < n.toNatClampNeg → ∀ y : Nat, f (sp.toNatClampNeg + i) = some y → xOb w y)
    (hframes : 1 ≤ R.frames) (hlocals : (rest.map fun v => v.category).sum + (nativeFrameWords "java/lang/System" "arraycopy" 5 + 11) ≤ R.locals) (hdg : decode cc pc = .ok (.invokestatic index, 3))
    (kk : ∀ (H1 : Heap) (locs1 : List Loc), xw_S D vwCl A s.heap (va_up w a (some (xcQ (E.1 0) n1 (va_cpy f g sp.toNatClampNeg dp.toNatClampNeg n.toNatClampNeg)))) H1 locs1 → W p l e R s m args below meth c H1 locs1 cells slots Q (F0 m (pc + 3) ls rest)) : W p l e R s m args below meth c H locs cells slots Q (F0 m pc ls (.int n :: .int dp :: .ref a :: .int sp :: .ref a0 :: rest)) := by
  have hany : ∀ i : Nat, i < n.toNatClampNeg → ∀ y : Nat, f (sp.toNatClampNeg + i) = some y → va_Any "java/lang/Object" s H y := fun i hi y hy => xw_anyO hK hE hw (hel i hi y hy)
  obtain ⟨⟨ws, hi, hP, hD⟩, hS, hA⟩ := hw
  obtain ⟨q0, hq0⟩ := (hi _ _).mp (xaQ_spec ha0)
  obtain ⟨q1, hq1⟩ := (hi _ _).mp (xaQ_spec ha1)
  obtain ⟨h1, h2, h3, h4, h5⟩ := hc
  exact va_copyM hx hb hml hown hlink hnat hstat hini hK hP hD hS q0 q1 0 0 hq0 hq1 rfl rfl h1 h2 h3 h4 h5 hany hframes hlocals hdg (fun H1 locs1 hP1 hD1 hS1 => kk H1 locs1 (xw_S_set hi hD hA hq1 hP1 hD1 hS1))
end XS
