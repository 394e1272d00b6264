/-! A CALL THAT THROWS, AND ITS CATCH IN THE CALLER AT A CLASS ENTRY THAT MAY STILL BE OPEN -/
section XKG
variable {e : Env} {U : State} {f : JFrame} {v : Addr} {x : ExceptionTableEntry} {rows : List ExceptionTableEntry} {k : ClassId} {ce : Cell} {vm' : Vm} {pc : Nat} {r : List Frame}
/-- the table's first row takes the object; the tables are those that the look at its class entry leaves -/
theorem xK_go (hcov : covers x f.pc = true) (h0 : x.catchType ≠ 0) (hg : (Jvm.resolveClass f.method.cls x.catchType).Gives e.toSetting U.vm (.ok k) vm') (hsz : vm'.classes.size ≤ U.vm.classes.size)
    (hcell : U.heap[v]? = some ce) (hobj : ∀ z, ce.vm ≠ .statics z) (hk : ∃ q, vm'.classes[ce.cls]? = some q) (hc : ∃ q, vm'.classes[k]? = some q) (hfit : vm'.assignable ce.cls k = true)
    {Q : Handler → Pre} {E : CtlPost} {d : Bool} {acts : List Action} : wp (findHandler.go f v (x :: rows)) Q E e d acts U ↔ Q (.found x.handlerPc) d acts (U.setVm vm') := by
  obtain ⟨ha, ht⟩ := hg.op (op := VmOp.resolveClass f.method.cls x.catchType) rfl
  simp only [covers] at hcov
  simp [findHandler.go, hcov, h0, ha, ht, hsz, hcell, hobj, hk, hc, hfit, VmOp.dirties, VmOp.acts]
/-- one step of the unwinding whose search ends at a handler and leaves other tables -/
theorem xK_step (hfind : ∀ (Q : Handler → Pre) (E : CtlPost) (d : Bool) (acts : List Action), wp (findHandler f v) Q E e d acts U ↔ Q (.found pc) d acts (U.setVm vm')) :
    (stepThrowing e U v (.java f :: r)).1 = (U.setVm vm').setFrames (.java { f with pc := pc, stack := [.ref v] } :: r) := by
  simp only [stepThrowing, searchFrame, vmDo]
  generalize hr : Sem.go _ e false [] U = res
  obtain ⟨as, rfl, -⟩ := Sem.eq_ok_of hr (a := Handler.found pc) (s' := U.setVm vm') (acts' := []) (by simp [hfind _ _ _ _])
  rfl
end XKG
section XKC
variable {p : Program} {l : Launch} {e : Env} {R : Room} {s T : State} {m : MethodId} {args : Array Value} {below : List Frame} {meth : Method} {c : Code} {locs : List Loc} {cells slots : Nat}
/-- a class entry that the walk may meet for the first time: the tables that it leaves, and what they keep -/
theorem xK_entry (X : Stand p l e R s m args below meth c T locs cells slots) {own C C0 : String} {index : Nat} {ce : Cell} (hown : s.vm.findClass own = some m.cls)
    (hlink : (Cond.classLink own index C).before args s = true) (hcast : (Cond.castable C0 C).before args s = true) (hcl : s.vm.findClass C0 = some ce.cls) :
    ∃ (k : ClassId) (vm' : Vm), (Jvm.resolveClass m.cls index).Gives e.toSetting T.vm (.ok k) vm' ∧ s.WarmedH vm' ∧ vm'.classes.size ≤ T.vm.classes.size ∧ (∃ q, vm'.classes[ce.cls]? = some q) ∧ (∃ q, vm'.classes[k]? = some q) ∧ vm'.assignable ce.cls k = true := by
  obtain ⟨k, hk, hL⟩ := Cond.classLink_spec hown hlink e.platform (by rw [X.admits.platform])
  obtain ⟨c1, k1, h1, h2, h3⟩ := Cond.castable_spec hcast
  cases Option.some.inj (h1.symm.trans hcl)
  cases Option.some.inj (h2.symm.trans hk)
  obtain ⟨g1, g2, -⟩ := State.classEntry (e := e) X.warmed hL
  exact ⟨_, _, g1, g2, (X.warmed.alike.symm.trans g2.alike).size_le, Vm.classAt_of_findClass (by rw [g2.alike.findClass]; exact hcl), Vm.classAt_of_findClass (by rw [g2.alike.findClass]; exact hk), by rw [g2.alike.assignable]; exact h3⟩
/-- thrown over the frame g, whose method's first row takes it: the walk goes on at the handler -/
theorem xK_caught (X : Stand p l e R s m args below meth c T locs cells slots) {own C C0 : String} {g : JFrame} {v : Addr} {ce : Cell} {x : ExceptionTableEntry} {rows : List ExceptionTableEntry} (hg : g.method = m) (hown : s.vm.findClass own = some m.cls)
    (htab : c.exceptionTable.toList = x :: rows) (hcov : covers x g.pc = true) (h0 : x.catchType ≠ 0) (hlink : (Cond.classLink own x.catchType C).before args s = true) (hcast : (Cond.castable C0 C).before args s = true)
    (hcell : T.heap[v]? = some ce) (hv : ce.vm = .none) (hcl : s.vm.findClass C0 = some ce.cls) :
    ∃ vm' : Vm, Stand p l e R s m args below meth c (T.setVm vm') locs cells slots ∧
      ∀ target : State, Steps p.tables e below ((T.setVm vm').setTop { g with pc := x.handlerPc, stack := [.ref v] }) target → Steps p.tables e below (T.setFrames (.throwing v :: .java g :: below)) target := by
  obtain ⟨k, vm', hG, hW, hsz, hk1, hk2, hfit⟩ := xK_entry X hown hlink hcast hcl
  subst hg
  obtain ⟨g₀, hT⟩ := X.frames_eq
  have hnote : (T.setTop g).pushFrame (.throwing v) = T.setFrames (.throwing v :: .java g :: below) := by
    rw [State.pushFrame, State.frames_setTop _ hT, State.setTop_of_frames _ hT, State.setFrames_setFrames]
  obtain ⟨hgo, hin⟩ := X.here.throwing (g := g) v
  rw [hnote] at hgo hin
  refine ⟨vm', X.noted hW, fun target h => Steps.head hgo hin ?_⟩
  rw [stepThread_throwing (State.frames_setFrames _ (State.cur_lt_of_frames hT)), xK_step (pc := x.handlerPc) (vm' := vm') (fun Q E d acts => ?_)]
  · have hT' : (T.setVm vm').frames = .java g₀ :: below := hT
    rw [State.setTop_of_frames _ hT'] at h
    have h9 : ((T.setFrames (.throwing v :: .java g :: below)).setVm vm').setFrames (.java { g with pc := x.handlerPc, stack := [.ref v] } :: below) = (T.setVm vm').setFrames (.java { g with pc := x.handlerPc, stack := [.ref v] } :: below) := State.setFrames_setFrames (T.setVm vm') _ _
    rw [h9]
    exact h
  · have hm : (T.setFrames (.throwing v :: .java g :: below)).vm.method? g.method = some meth := X.method'
    rw [Jvm.W.findHandler_eq hm X.code, htab]
    exact xK_go (U := T.setFrames (.throwing v :: .java g :: below)) hcov h0 hG hsz hcell (fun z h => by rw [hv] at h; cases h) hk1 hk2 hfit
end XKC
section XKB
variable {p : Program} {l : Launch} {e : Env} {R : Room} {s : State} {m : MethodId} {args : Array Value} {below : List Frame} {meth : Method} {c : Code} {locs : List Loc} {cells slots : Nat}
variable {bytes : ByteArray} {maxL mc ms : Nat} {D : va_G} {A : Nat → Prop} {postT : xw_T → Prop} {y : MethodName} {ws : List Cond} {rm : Room} {Pc : Array Value → State → Prop} {ret : Option FieldType}
/-- the call of a method that must throw: up to its exception, over the caller's frame g (its arguments popped, pc at the call) -/
theorem xK_back {U : State} {g : JFrame} {ig : Instr} {mk : MethodId} {a : Array Value} (hM : xMetT l y ws rm Pc D A (fun _ _ => False) postT mc ms) (X : Stand p l e R s m args below meth c U locs cells slots)
    (hg : g.method = m) (hsize : g.locals.size = c.maxLocals) (hdg : decode c.code g.pc = .ok (ig, 3)) (hW : 2 * g.monitorRoom + (g.stack.map fun v => v.category).sum ≤ 8) (hn : U.methodNamed? y = some mk)
    (hws : ∀ w ∈ ws, w.before a U = true) (hcode : (Cond.code y bytes maxL ret).before a U = true) (hini : (Cond.initialized y.cls).before a U = true)
    (hfr : rm.frames + 1 ≤ R.frames) (hlo : 8 + (maxL + 11) + rm.locals ≤ R.locals) (hce : cells + rm.cells ≤ R.cells) (hsl : slots + rm.slots ≤ R.slots) (hP : Pc a (U.calling g mk a)) :
    ∃ (v : Addr) (t : State) (L : List Loc), xThr D A postT v (U.calling g mk a) t ∧ (∀ z ∈ L, A z.base) ∧ Stand p l e R s m args below meth c (({ U with heap := t.heap, slotsUsed := t.slotsUsed } : State).setVm t.vm) (locs ++ L) (cells + mc) (slots + ms) ∧
      Steps p.tables e below (doInvoke e (U.setTop g) [] mk a).1 ((({ U with heap := t.heap, slotsUsed := t.slotsUsed } : State).setVm t.vm).setFrames (.throwing v :: .java g :: below)) := by
  subst hg
  obtain ⟨methY, cY, hmY, hcY, -, hlY, -, -, -, -⟩ := Cond.code_spec hn hcode
  obtain ⟨kY, hkY, -⟩ := className_of_methodNamed hn
  obtain ⟨g₀, hU⟩ := X.frames_eq
  have hfrm : (U.setTop g).frames = .java g :: below := by
    rw [State.setTop_of_frames _ hU]
    exact State.frames_setFrames _ (State.cur_lt_of_frames hU)
  have hroom := X.room_calling (g := g) (args' := a) (R' := rm) hsize hmY hcY hfr (by rw [hlY]; omega) hce hsl
  have happ : (headSpec ws rm).appliesLoose y e.platform (U.calling g mk a) = true := Spec.appliesLoose_calling (g := g) X.here hdg hn hkY (Cond.initialized_spec (findClass_of_methodNamed hn) hkY hini) hroom (atoms_intro hws)
  obtain ⟨o, t, hst, -, hend, hq⟩ := Steps.callFree (S := headSpec ws rm) (P := Pc) (K := fun _ _ _ _ _ => True) (Q := xTE D A (fun _ _ => False) postT mc ms) hM p X.admits X.cas X.clock (acts := []) (mid := [.java g]) (below := below) hfrm happ hP trivial
  have hq' : xTE D A (fun _ _ => False) postT mc ms a (U.calling g mk a) o t := hq
  rcases hq' with ⟨⟨⟨r, u, -, hr, -⟩, -⟩, -⟩ | ⟨v, L, ho, hth, hwm, hsm, hL⟩
  · exact hr.elim
  subst ho
  rw [hfrm] at hend
  have hft : t.frames = .throwing v :: .java g :: below := hend
  have hW' : U.WarmedH t.vm := hwm
  obtain ⟨e1, e2⟩ := hsm
  have e1' : ({ t with vm := (U.calling g mk a).vm } : State) = ({ (U.calling g mk a).setFrames t.frames with heap := t.heap, slotsUsed := t.slotsUsed } : State) := e1
  have e3 : t = ({ (U.calling g mk a).setFrames t.frames with heap := t.heap, slotsUsed := t.slotsUsed } : State).setVm t.vm := by
    have h9 : ({ t with vm := (U.calling g mk a).vm } : State).setVm t.vm = ({ (U.calling g mk a).setFrames t.frames with heap := t.heap, slotsUsed := t.slotsUsed } : State).setVm t.vm := by rw [e1']
    exact h9
  have e4 : t = (({ U with heap := t.heap, slotsUsed := t.slotsUsed } : State).setVm t.vm).setFrames (.throwing v :: .java g :: below) := by
    refine e3.trans ?_
    rw [hft, State.calling_eq X.here.top, State.setFrames_setFrames]
    rfl
  have hsame : U.sameButNew ({ U with heap := t.heap, slotsUsed := t.slotsUsed } : State) L mc ms := by
    refine ⟨?_, e2⟩
    obtain ⟨th, hth9, -⟩ := State.frames_cons hU
    show ({ U with heap := t.heap, slotsUsed := t.slotsUsed } : State) = { U.setFrames U.frames with heap := t.heap, slotsUsed := t.slotsUsed }
    rw [State.setFrames_self hth9]
  refine ⟨v, t, L, hth, hL, ⟨X.admits, X.cas, X.clock, X.frames, X.room, X.hears, X.method, X.code, (X.here.setHeapUsed t.heap t.slotsUsed).setVm hW'.alike, X.tail, State.WarmedH.trans X.warmed hW', X.limits, X.bytes, X.same.trans (hsame.setVm s.vm)⟩, ?_⟩
  rw [← e4]
  exact hst
end XKB
