/-! THE LAW'S post: the call that may throw, and its catch. -/
theorem xMetT.met {l : Launch} {y : MethodName} {ws : List Cond} {rm : Room} {Pc : Array Value → State → Prop} {D : va_G} {A : Nat → Prop} {post : Int32 → xw_T → Prop} {mc ms : Nat} (h : xMetT l y ws rm Pc D A post (fun _ => False) mc ms) : Met l y ws rm Pc (va_Qi post (xB D A) A) mc ms A := by
  intro p e ha hc hk s m args below hf happ hP hK
  obtain ⟨n, o, h1, h2, h3, h4⟩ := h p e ha hc hk s m args below hf happ hP hK
  refine ⟨n, o, h1, h2, h3, ?_⟩
  rcases h4 with h4 | ⟨x, L, -, ⟨⟨w, hw, -⟩, -⟩, -⟩
  · exact h4
  · exact hw.elim
section XTC
variable {p : Program} {l : Launch} {e : Env} {R : Room} {s : State} {m : MethodId} {args : Array Value} {below : List Frame} {meth : Method} {c : Code} {H : Heap} {locs : List Loc} {cells slots : Nat} {Q : State → Prop}
variable {cc bytes : ByteArray} {pc nL maxL n index mc ms : Nat} {ls : Array Slot} {As rest st0 : List Value} {D : va_G} {E : xE_T} {A : Nat → Prop} {w0 : xw_T} {postT : xw_T → Prop} {y : MethodName} {ws Ts : List Cond} {rm : Room} {Pc : Array Value → State → Prop} {own C : String} {ret : Option FieldType} {b : Addr}
set_option maxHeartbeats 4000000 in
theorem xT_callV (S : CallFix p m c cc nL s args Ts own) (hM : xMetT l y ws rm Pc D A (fun _ _ => False) postT mc ms) (cw : CallW R s args own C index y bytes maxL ret ws rm mc ms n) (hp : PreV s H C b Pc As)
    (hn : As.length = n) (hsize : ls.size = nL) (hstack : st0 = As.reverse ++ .ref b :: rest) (hW8 : 2 * (F0 m pc ls st0).monitorRoom + (rest.map fun v => v.category).sum ≤ 8) (hdg : decode cc pc = .ok (.invokevirtual index, 3)) (hf : cells + mc ≤ R.cells ∧ slots + ms ≤ R.slots)
    (hw : xw_S D vwCl A s.heap w0 H locs) (x : ExceptionTableEntry) (hsplit : c.exceptionTable.toList = [x]) (hcov : covers x pc = true) (h0 : x.catchType ≠ 0) (hlinkX : (Cond.classLink own x.catchType xEx).before args s = true) (hcast : (Cond.castable xEx xEx).before args s = true)
    (kk : ∀ (q : Nat) (w1 : xw_T) (H1 : Heap) (locs1 : List Loc), postT w1 → xw_S D vwCl A s.heap w1 H1 locs1 → W p l e R s m args below meth c H1 locs1 (cells + mc) (slots + ms) Q (F0 m x.handlerPc ls [.ref q])) : W p l e R s m args below meth c H locs cells slots Q (F0 m pc ls st0) := by
  obtain ⟨⟨hrc, hrs, hfr, hlo, hws, hcw, hcode, hini, hy, hlen, hl⟩, hinst, hsel⟩ := cw
  obtain ⟨hx, hb, hml, hown, -⟩ := S
  obtain ⟨hblind, ⟨cellB, hcB, hoB, hclB⟩, hPc⟩ := hp
  intro T hT X
  obtain ⟨mk, methM, hnamed, hmethM, hstM, habM⟩ := Cond.instanceMethod_spec hinst
  obtain ⟨methM', cM, hmethM', -, -, -, -, -, -, hsigM⟩ := Cond.code_spec hnamed hcode
  cases hmethM.symm.trans hmethM'
  obtain ⟨c2, r2, m2, q1, q2, q3, q4, kP, hkP, hkPi⟩ := Cond.selects_spec hsel
  cases hclB.symm.trans q1
  cases (State.methodFound?_of_named hnamed hy).symm.trans q2
  cases hnamed.symm.trans q3
  have hselP : selectMethod e.platform s.vm cellB.cls mk = .method mk := by rw [Launch.admits_selectMethod X.admits]; exact q4
  obtain ⟨vm₁, X₁, hstep₁⟩ := X.invokevirtual hx hown hl hnamed hmethM hstM hkP hkPi hy (a := b) (cell := cellB) (by rw [hT]; exact hcB)
    (fun z h => by rw [h] at hoB; cases hoB) hselP hmethM habM hkP hkPi (g := F0 m pc ls st0) rfl (argsL := As) (rest := rest) (hn.trans (hlen _ hsigM)) hstack (by rw [hb]; exact hdg)
  obtain ⟨v, t, L, hth, hL, X', hsteps⟩ := xK_back (bytes := bytes) (maxL := maxL) (ret := ret) (ig := .invokevirtual index) (g := F0 m pc ls rest) (mk := mk) (a := (Value.ref b :: As).toArray) hM X₁ rfl (hsize.trans hml.symm) (by rw [hb]; exact hdg) hW8 (X₁.named hnamed)
    (fun w hw => hws w hw _ _ X₁.warmed) (hws _ hcw _ _ X₁.warmed) (word_at X₁.warmed (Or.inl rfl) hini) hfr hlo (by rw [hrc]; exact hf.1) (by rw [hrs]; exact hf.2) (hblind _ _ _ _ (hPc (T.setVm vm₁) hT X₁.warmed))
  obtain ⟨⟨w1, hpw, ws1, hi1, hP1, hD1⟩, hF1, ce, hce, hcv, hcl⟩ := hth
  have hclS : s.vm.findClass xEx = some ce.cls := by
    have h9 : (T.setVm vm₁).vm.findClass xEx = some ce.cls := hcl
    rw [X₁.warmed.alike.findClass] at h9
    exact h9
  generalize hU : (({ T.setVm vm₁ with heap := t.heap, slotsUsed := t.slotsUsed } : State).setVm t.vm) = U' at X' hsteps
  have e1 : U'.heap = t.heap := by rw [← hU]; rfl
  obtain ⟨vm', XV, st⟩ := xK_caught X' (v := v) (g := F0 m pc ls rest) rfl hown hsplit hcov h0 hlinkX hcast (by rw [e1]; exact hce) hcv hclS
  have hS1 : va_S A s.heap U'.heap (locs ++ L) := by
    obtain ⟨-, hS, -⟩ := hw
    have hh : ((T.setVm vm₁).calling (F0 m pc ls rest) mk (Value.ref b :: As).toArray).heap = H := hT
    obtain ⟨f1, f2⟩ := hF1
    rw [hh] at f1 f2
    refine ⟨by rw [e1]; exact Nat.le_trans hS.1 f1, fun q h1 h2 => ?_, fun z hz => ?_⟩
    · rw [e1]; exact (f2 q (Nat.lt_of_lt_of_le h1 hS.1) h2).trans (hS.2.1 q h1 h2)
    · rcases List.mem_append.mp hz with h | h
      · exact hS.2.2 z h
      · exact hL z h
  obtain ⟨t2, a1, b1⟩ := kk v w1 U'.heap (locs ++ L) hpw ⟨⟨ws1, hi1, by rw [e1]; exact hP1, hD1⟩, hS1, hw.2.2⟩ (U'.setVm vm') rfl XV
  refine ⟨t2, ?_, b1⟩
  refine hstep₁ _ fun acts => ?_
  rw [doInvoke_state]
  exact hsteps.trans (st _ a1)
end XTC
section XTS
variable {p : Program} {l : Launch} {e : Env} {R : Room} {s : State} {m : MethodId} {args : Array Value} {below : List Frame} {meth : Method} {c : Code} {H : Heap} {locs : List Loc} {cells slots : Nat}
/-- a static call of a method that has an exception table -/
theorem xT_runSW {y : MethodName} {bytes cc : ByteArray} {maxL nL mc ms n index : Nat} {ret : Option FieldType} {hh : List (Nat × Nat × Nat × Nat)} {rm : Room} {Pc : Array Value → State → Prop} {Qc : Array Value → State → Outcome → State → Prop} {free : Addr → Prop} {own : String} {As rest : List Value} {g : JFrame}
    (S : CallFix p m c cc nL s args xTB own) (hM : Met l y (Cond.codeWith y bytes maxL ret hh :: xTB) rm Pc Qc mc ms free) (hp : PreS s H Pc As) (hrc : rm.cells = mc) (hrs : rm.slots = ms) (hR : rm.frames + 1 ≤ R.frames ∧ 8 + (maxL + 11) + rm.locals ≤ R.locals)
    (w1 : Cond.methodLink own index y ∈ xTB) (w2 : Cond.static y ∈ xTB) (w3 : Cond.initialized y.cls ∈ xTB) (w4 : Cond.codeWith y bytes maxL ret hh ∈ xTB) (hy : y.cls ≠ "java/lang/invoke/MethodHandle" ∧ y.cls ≠ "java/lang/invoke/VarHandle" ∧ (parseMethodDescriptor y.desc).map (fun d => d.parameters.length) = some n)
    (hg : g.method = m) (hn : As.length = n) (hsize : g.locals.size = nL) (hstack : g.stack = As.reverse ++ rest) (hW : 2 * g.monitorRoom + (rest.map fun v => v.category).sum ≤ 8) (hdg : decode cc g.pc = .ok (.invokestatic index, 3)) (hf : cells + mc ≤ R.cells ∧ slots + ms ≤ R.slots) :
    va_Run p l e R s m args below meth c H locs cells slots mc ms g rest (Qc As.toArray) free := by
  obtain ⟨hx, hb, hml, hown, hts⟩ := S
  have hK : Back l R p e below s args y 3 8 (PreOf R mc ms Pc) (PostOf Qc mc ms free) := va_backW (hh := hh) (bytes := bytes) (maxL := maxL) (ret := ret) hM hp.1 hrc hrs hR.1 hR.2 (fun w hw a' U hW => by
    rcases List.mem_cons.mp hw with rfl | hw
    · exact word_at hW (xTB_good _ w4).2 (hts _ w4)
    · exact word_at hW (xTB_good _ hw).2 (hts _ hw)) List.mem_cons_self (fun a' U hW => word_at hW (xTB_good _ w3).2 (hts _ w3))
  intro T hT X
  obtain ⟨mk, methM, cM, hnamed, hmethM, -, -, -, -, -, -, hsigM⟩ := Cond.codeWith_spec (hts _ w4)
  have hstatic : methM.isStatic = true := Cond.static_spec hnamed hmethM (hts _ w2)
  obtain ⟨kP, hkP, -⟩ := className_of_methodNamed hnamed
  have hinitP : kP.init = .initialized := Cond.initialized_spec (findClass_of_methodNamed hnamed) hkP (hts _ w3)
  have hlen : As.length = methM.sig.parameters.length := by
    have h2 := hy.2.2
    rw [hsigM] at h2
    exact hn.trans (Option.some.inj h2).symm
  obtain ⟨vm₁, X₁, hstep₁⟩ := X.invokestatic hx hown (hts _ w1) hnamed hmethM hstatic hkP hinitP ⟨hy.1, hy.2.1⟩ (g := g) hg (argsL := As) (rest := rest) hlen hstack (by rw [hb]; exact hdg)
  obtain ⟨v, ⟨U', l2, c2, s2⟩, X', ⟨g', mk', t, L, e1, e2, hq, h1, hL, h2, h3⟩, hsteps⟩ := hK m meth c ⟨T.setVm vm₁, locs, cells, slots⟩ { g with stack := rest } (.invokestatic index) mk As.toArray X₁ hg (hsize.trans hml.symm) (by rw [hb]; exact hdg) hW (X₁.named hnamed) ⟨hf.1, hf.2, hp.2 (T.setVm vm₁) hT X₁.warmed⟩
  dsimp only [Pt.U, Pt.locs, Pt.cells, Pt.slots] at X' e1 e2 h1 h2 h3 hsteps
  subst h1; subst h2; subst h3
  exact ⟨v, (T.setVm vm₁).calling g' mk' As.toArray, t, U', L, hT, X', hL, e1, e2, hq, fun target h => hstep₁ _ fun acts => by rw [doInvoke_state]; exact hsteps.trans h⟩
end XTS
def xWw (y : MethodName) (c : ByteArray) (n : Nat) (r : Option FieldType) (hh : List (Nat × Nat × Nat × Nat)) : List Cond := Cond.codeWith y c n r hh :: xTB
