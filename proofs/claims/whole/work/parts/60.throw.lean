/-! A METHOD THAT MAY THROW -/
/-- it threw x, an IllegalStateException; the map stands -/
def xThr (D : va_G) (A : Nat → Prop) (postT : xw_T → Prop) (x : Addr) (st t : State) : Prop := (∃ w : xw_T, postT w ∧ xB D A w t) ∧ va_F A st t ∧ ∃ ce : Cell, t.heap[x]? = some ce ∧ ce.vm = .none ∧ st.vm.findClass xEx = some ce.cls
def xTE (D : va_G) (A : Nat → Prop) (post : Int32 → xw_T → Prop) (postT : xw_T → Prop) (mc ms : Nat) (a : Array Value) (s : State) (o : Outcome) (t : State) : Prop :=
  (va_Qi post (xB D A) A a s o t ∧ ∃ L, FrameEnd s o t L mc ms ∧ ∀ q ∈ L, A q.base) ∨ ∃ (x : Addr) (L : List Loc), o = .threw x ∧ xThr D A postT x s t ∧ s.WarmedH t.vm ∧ s.sameButNew ({ t with vm := s.vm } : State) L mc ms ∧ ∀ q ∈ L, A q.base
def xTQ (below : List Frame) (D : va_G) (A : Nat → Prop) (post : Int32 → xw_T → Prop) (postT : xw_T → Prop) (a : Array Value) (s : State) (mc ms : Nat) : State → Prop := fun t =>
  ∃ o, t.status = .running ∧ Ended t below o ∧ xTE D A post postT mc ms a s o t
def xMetT (l : Launch) (y : MethodName) (ws : List Cond) (rm : Room) (Pc : Array Value → State → Prop) (D : va_G) (A : Nat → Prop) (post : Int32 → xw_T → Prop) (postT : xw_T → Prop) (mc ms : Nat) : Prop :=
  MetFree l y (headSpec ws rm) Pc (fun _ _ _ _ _ => True) (xTE D A post postT mc ms)
theorem xMetT.ofW {l : Launch} {y : MethodName} {ws ws' : List Cond} {rm : Room} {Pc : Array Value → State → Prop} {D : va_G} {A : Nat → Prop} {post : Int32 → xw_T → Prop} {postT : xw_T → Prop} {mc ms : Nat} {cc : ByteArray} {maxL : Nat} {ret : Option FieldType}
    (hy : plainName y.cls = true) (hw : ws = Cond.code y cc maxL ret :: ws')
    (body : ∀ p e s m args below meth c s₁, BodyLoose p l y (headSpec ws rm) cc maxL ret e s m args below meth c s₁ → c.maxLocals = maxL → Pc args s → W p l e (headSpec ws rm).room s m args below meth c s.heap [] 0 0 (xTQ below D A post postT args s mc ms) (entryFrame m args maxL)) : xMetT l y ws rm Pc D A post postT mc ms := by
  refine MetFree.of_bodyS (code := cc) (maxLocals := maxL) (ret := ret) hy ?_ ?_
  · intro args s m h hn
    obtain ⟨meth, c, h1, h2, h3, h4, h5, h6, -, -⟩ := Cond.code_spec hn (atoms_spec (ws := ws) h _ (by rw [hw]; exact List.mem_cons_self))
    exact ⟨meth, c, h1, h2, h3, h4, h5, h6⟩
  · intro p e s m args below meth c s₁ B hml hP _
    obtain ⟨t, a1, o, b1, b2, b3⟩ := body p e s m args below meth c s₁ B hml hP s₁ (by rw [B.state]; rfl) (Stand.of_body B)
    exact ⟨t, o, a1, b1, b2, b3⟩
section XT
variable {p : Program} {l : Launch} {e : Env} {R : Room} {s : State} {m : MethodId} {args : Array Value} {below : List Frame} {meth : Method} {c : Code} {H : Heap} {locs : List Loc} {cells slots : Nat}
variable {cc : ByteArray} {pc : Nat} {ls : Array Slot} {rest : List Value} {D : va_G} {E : xE_T} {A : Nat → Prop} {w w0 : xw_T} {post : Int32 → xw_T → Prop} {postT : xw_T → Prop} {mc ms : Nat}
theorem xT_ret {g : JFrame} (k : W p l e R s m args below meth c H locs cells slots (MQ below (va_Qi post (xB D A) A) args s mc ms A) g) : W p l e R s m args below meth c H locs cells slots (xTQ below D A post postT args s mc ms) g := by
  intro T hT X
  obtain ⟨t, a1, o, b1, b2, b3, b4⟩ := k T hT X
  exact ⟨t, a1, o, b1, b2, Or.inl ⟨b3, b4⟩⟩
/-- nothing that was there changes but at the slots of locs -/
theorem xT_frame {U : State} {k n : Nat} (h : s.sameButNew ({ U with vm := s.vm } : State) locs k n) (q : Nat) (hq : q < s.heap.size) (hz : ∀ z ∈ locs, z.base ≠ q) : U.heap[q]? = s.heap[q]? := by
  have h6 := h.2.2.2.2.2 q _ (Array.getElem?_eq_getElem hq)
  obtain ⟨c9, e1, e2, -, e4⟩ := h6
  have hs : c9.slots = (s.heap[q]).slots := Array.ext_getElem? fun i => e4 i fun hm => hz _ hm rfl
  rw [hs] at e2
  have e5 : U.heap[q]? = some c9 := e1
  rw [e5, e2, Array.getElem?_eq_getElem hq]
/-- the walk, looked at from here: the state as it is now is taken as the method's start -/
theorem xT_anew {T : State} (X : Stand p l e R s m args below meth c T locs cells slots) {k n : Nat} (hk : cells + k ≤ R.cells) (hn : slots + n ≤ R.slots) :
    Stand p l e ({ frames := R.frames, cells := k, slots := n, locals := R.locals } : Room) ((T.setVm s.vm).setFrames (.invoking m args :: below)) m args below meth c T [] 0 0 := by
  have hcur := State.cur_lt_of_top (s := T.setVm s.vm) X.here.top
  have hfr : ((T.setVm s.vm).setFrames (.invoking m args :: below)).frames = .invoking m args :: below := State.frames_setFrames _ hcur
  have hroom := X.room
  have hheap := X.heapSize
  have hused := X.used
  have hlim : e.platform.stackLimits (T.setVm s.vm).me = e.platform.stackLimits s.me := X.limits
  have hby : (T.setVm s.vm).me.stackBytes = s.me.stackBytes := X.bytes
  have hin : ((T.setVm s.vm).setFrames (.invoking m args :: below)).localsInUse = s.localsInUse := by
    rw [State.localsInUse_invoking hfr (meth := meth) (c := c) X.method X.code, State.localsInUse_invoking X.frames X.method X.code]
  constructor
  · exact X.admits
  · exact X.cas
  · exact X.clock
  · exact hfr
  · simp only [State.hasRoom, Bool.and_eq_true, decide_eq_true_eq] at hroom ⊢
    obtain ⟨⟨⟨⟨r1, r2, r3, r4, r5, r6⟩, r7⟩, r8⟩, r9⟩ := hroom
    rw [X.frames, List.length_cons] at r2 r3
    simp only [hfr, hin, List.length_cons, State.stackLimits_setFrames, State.stackBytes_setFrames, hlim, hby]
    refine ⟨⟨⟨⟨r1, r2, r3, r4, r5, r6⟩, ?_⟩, ?_⟩, X.book⟩
    · show T.heap.size + k ≤ e.platform.maxCells
      omega
    · show T.slotsUsed + n ≤ e.platform.maxSlots
      omega
  · exact X.hears
  · exact X.method
  · exact X.code
  · exact X.here
  · exact X.tail
  · exact X.warmed
  · rw [State.stackLimits_setFrames]; rfl
  · rw [State.stackBytes_setFrames]; rfl
  · obtain ⟨g0, hg0⟩ := Option.isSome_iff_exists.mp (show (T.setVm s.vm).topJava?.isSome from X.here.top)
    obtain ⟨r, hr⟩ := State.topJava?_eq_some.mp hg0
    obtain ⟨t, ht, -⟩ := State.frames_cons hr
    have hd : T.heap.toList.drop T.heap.size = [] := List.drop_eq_nil_of_le (Nat.le_of_eq Array.length_toList)
    refine ⟨?_, Nat.le_refl _, Nat.le_refl _, ?_, ?_, fun a c9 h9 => ⟨c9, h9, rfl, rfl, fun _ _ => rfl⟩⟩
    · show T.setVm s.vm = { ((T.setVm s.vm).setFrames (.invoking m args :: below)).setFrames (T.setVm s.vm).frames with heap := T.heap, slotsUsed := T.slotsUsed }
      rw [State.setFrames_setFrames, State.setFrames_self ht]
      rfl
    · show T.slotsUsed = T.slotsUsed + ((T.heap.toList.drop T.heap.size).map (·.slots.size)).sum
      rw [hd]; rfl
    · show ((T.heap.toList.drop T.heap.size).map (·.slots.size)).sum ≤ 0
      rw [hd]; exact Nat.le_refl _
theorem xThA_fit : Bundle.fit xEx = true ∧ ∀ n ∈ (["java/lang/RuntimeException", "java/lang/Exception"] : List String), Bundle.fit n = true := by decide +kernel
theorem xThA_in : ∀ w ∈ xThA.filter goodWord, w ∈ xTB := by
  intro w hw
  have h : ∀ w ∈ xThA.filter goodWord, w ∈ lw_tbl := by decide +kernel
  exact List.mem_filter.mpr ⟨h w hw, (List.mem_filter.mp hw).2⟩
theorem xT_atoms {args' : Array Value} {U : State} (hts : ∀ w ∈ xTB, w.before args' U = true) (hE : xF E A U) : ∀ w ∈ xThA, w.before args' U = true := by
  intro w hw
  by_cases g : goodWord w = true
  · exact hts w (xThA_in w (List.mem_filter.mpr ⟨hw, g⟩))
  · have hg : goodWord w = false := by cases h : goodWord w with | true => exact absurd h g | false => rfl
    exact xKw_use (hE.2.2.2.2.2 w (List.mem_filter.mpr ⟨hw, by rw [hg]; rfl⟩)) _
set_option maxHeartbeats 4000000 in
theorem xT_throw (hx : p.tables.exec = Jvm.exec) (hb : c.code = cc) (hl : l.stackTraces = false) (hown : s.vm.findClass RPL = some m.cls) (hts : ∀ w ∈ xTB, w.before args s = true) (hE : xF E A s) (hw : xw_S D vwCl A s.heap w H locs) (h : postT w) (hsize : ls.size = c.maxLocals)
    (hk : (Cond.classLink RPL 118 xEx).before args s = true) (hini : (Cond.initialized xEx).before args s = true)
    (d0 : decode cc pc = .ok (.new 118, 3)) (d3 : decode cc (pc + 3) = .ok (.dup, 1)) (d4 : decode cc (pc + 4) = .ok (.ldc 120, 2)) (d6 : decode cc (pc + 6) = .ok (.invokespecial 122, 3)) (d9 : decode cc (pc + 9) = .ok (.athrow, 1))
    (hout : ∀ x ∈ c.exceptionTable.toList, covers x (pc + 9) = false) (hRf : 2 + 3 < R.frames) (hRl : 82 + (rest.map fun v => v.category).sum ≤ R.locals) (hRc : cells + 1 ≤ R.cells) (hRs : slots + 6 ≤ R.slots) (hmc : cells + 1 ≤ mc) (hms : slots + 6 ≤ ms) (hlocks : meth.locks = false) :
    W p l e R s m args below meth c H locs cells slots (xTQ below D A post postT args s mc ms) (F0 m pc ls rest) := by
  intro T hT X
  have htr : e.platform.stackTraces = false := (show e.platform.stackTraces = l.stackTraces by rw [X.admits.platform]).trans hl
  have Y := xT_anew X (k := 1) (n := 6) hRc hRs
  obtain ⟨s', hs'⟩ : ∃ z, z = (T.setVm s.vm).setFrames (.invoking m args :: below) := ⟨_, rfl⟩
  rw [← hs'] at Y
  have hvm : s'.vm = s.vm := by rw [hs']; rfl
  have hhp : s'.heap = H := by rw [hs']; exact hT
  have hW0 : s.WarmedH s'.vm := by rw [hvm]; exact State.WarmedH.refl s
  have hE' : xF E A s' := xF_of hE hW0 (by rw [hhp]; exact hw.2.1)
  have hts' : ∀ w ∈ xTB, w.before args s' = true := fun w hw => word_at hW0 (xTB_good w hw).2 (hts w hw)
  have hat := xT_atoms hts' hE'
  have hown' : s'.vm.findClass RPL = some m.cls := by rw [hvm]; exact hown
  have hk' : (Cond.classLink RPL 118 xEx).before args s' = true := word_at hW0 (Or.inl rfl) hk
  have hini' : (Cond.initialized xEx).before args s' = true := word_at hW0 (Or.inl rfl) hini
  have hins : (Cond.instantiable xEx 6).before args s' = true := hat _ (by simp [xThA, Bundle.ownAtoms])
  obtain ⟨vm₁, cX, kX, hfX, hkX, -, -, X₁, st1⟩ := Y.newCold hx (own := RPL) (C := xEx) (index := 118) (n := 6) hown' hk' hins hini' (g := F0 m pc ls rest) rfl (by rw [hb]; exact d0) (Nat.le_refl _) (Nat.le_refl _)
  generalize hT1 : (T.setVm vm₁).pushCell { cls := cX, slots := kX.instanceTypes.map defaultValue, vm := .none } = T1 at X₁ st1
  have hcat : (Value.ref T.heap.size).category = 1 := rfl
  have hcellA : T1.heap[T.heap.size]? = some (freshCell cX kX) := by rw [← hT1]; exact State.heap_pushCell_size _ _
  have d3' : decode c.code (pc + 3) = .ok (.dup, 1) := by rw [hb]; exact d3
  have d4' : decode c.code (pc + 4) = .ok (.ldc 120, 2) := by rw [hb]; exact d4
  have hstr := hE'.2.1.2.2.2
  obtain ⟨U, hsteps, hrun, hend, hW, hsame, ce, hce, hO⟩ := X₁.ctorThrowS hx htr (own := RPL) (cls := xEx) (names := ["java/lang/RuntimeException", "java/lang/Exception"]) (ic := 122) hown' xThA_fit.1 xThA_fit.2 hat (fun x hx => nomatch hx) hfX hkX hcellA (by rw [hhp, hT]; exact Nat.le_refl _) (msg := .ref (E.2 8)) rfl
    (g := { method := m, pc := pc + 6, locals := ls, stack := .ref (E.2 8) :: .ref T.heap.size :: .ref T.heap.size :: rest, locked := none }) rfl hsize rfl rfl (rest := rest) rfl
    (by rw [hb]; exact d6) (by rw [hb]; exact d9) hout hRf (by simp only [List.map_cons, List.sum_cons, hcat, List.length_cons, List.length_nil]; show 2 * 0 + _ + _ ≤ R.locals; omega) hlocks
  have hfr : ∀ q : Nat, q < H.size → U.heap[q]? = H[q]? := fun q hq => by
    have h1 := xT_frame hsame q (by rw [hhp]; exact hq) (fun z hz => nomatch hz)
    rw [h1, hhp]
  have hsz : H.size ≤ U.heap.size := by
    have h1 := hsame.2.1
    rw [hhp] at h1
    exact h1
  have hWs : s.WarmedH U.vm := State.WarmedH.trans hW0 hW
  have hcl : s.vm.findClass xEx = some ce.cls := by
    have h9 := hO.cls
    rw [hvm] at h9
    exact h9
  have hall : s.sameButNew ({ U with vm := s.vm } : State) locs mc ms := by
    subst hs'
    obtain ⟨e1, e2⟩ := hsame
    rw [State.setFrames_setFrames] at e1
    have h2 : (T.setVm s.vm).sameButNew ({ U with vm := s.vm } : State) [] (0 + 1) (0 + 6) := ⟨e1, e2⟩
    have h3 := X.same.trans h2
    rw [List.append_nil] at h3
    exact h3.mono hmc hms
  obtain ⟨⟨ws, hi, hP, hD⟩, hS, hA⟩ := hw
  refine ⟨U, ?_, .threw T.heap.size, hrun, hend, Or.inr ⟨T.heap.size, locs, rfl, ⟨⟨w, h, ws, hi, hP.kept (fun k q hq => hfr q.1 (hP k q hq).lt), hD⟩, ⟨Nat.le_trans hS.1 hsz, fun q h1 h2 => (hfr q (Nat.lt_of_lt_of_le h1 hS.1)).trans (hS.2.1 q h1 h2)⟩, ce, hce, hO.vm, hcl⟩, hWs, hall, hS.2.2⟩⟩
  refine st1 _ ?_
  show Steps p.tables e below (T1.setTop { method := m, pc := pc + 3, locals := ls, stack := .ref T.heap.size :: rest, locked := none }) _
  jvm_step X₁.here [X₁.here.top, hx, d3', Value.category]
  exact X₁.ldcString hx (own := RPL) (text := "the batch is refused") (index := 120) (a := E.2 8) hown' hstr.1 hstr.2
    (g := { method := m, pc := pc + 4, locals := ls, stack := .ref T.heap.size :: .ref T.heap.size :: rest, locked := none }) rfl d4' _ hsteps
end XT
