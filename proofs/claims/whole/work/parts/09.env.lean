/-! WHAT STANDS BEHIND EVERY METHOD: statics, constants, array classes. E.1: array classes (0 Object, 1 int, 2 long, 3 boolean); E.2: addresses (0 OPEN, 1 POSTED, 2 VOID; 3 POSTED, 4 FAILED, 5 REFUSED of Outcome; 6 the empty array; 7 the mirror of Object[]; 8 the text of the exception) -/
abbrev xE_T : Type := (Nat → ClassId) × (Nat → Nat)
abbrev xtys (E : xE_T) : List (ClassId × FieldType) := [(E.1 0, .object "java/lang/Object"), (E.1 1, .int), (E.1 2, .long), (E.1 3, .boolean)]
def xZ (C n d : String) (a : Nat) (A : Nat → Prop) (U : State) : Prop := va_Z C n d (.ref a) A U U.heap
/-- a word that holds, and goes on holding as long as nothing outside A is written -/
def xKw (w : Cond) (A : Nat → Prop) (U : State) : Prop := ∀ (V : State) (a : Array Value), U.WarmedH V.vm → U.heap.size ≤ V.heap.size → (∀ q : Nat, q < U.heap.size → ¬ A q → V.heap[q]? = U.heap[q]?) → w.before a V = true
abbrev xEx : String := "java/lang/IllegalStateException"
/-- the words of the throw; those of them that a list of words cannot hold -/
def xThA : List Cond := Bundle.ownAtoms "PostLedger" 122 xEx ["java/lang/RuntimeException", "java/lang/Exception"]
def xNG : List Cond := xThA.filter (fun w => !goodWord w)
def xF (E : xE_T) (A : Nat → Prop) (U : State) : Prop :=
  (va_Nw (.castable "PostLedger$Row" "java/lang/Object") U ∧ va_Nw (.castable "PostLedger$Account" "java/lang/Object") U ∧ va_Nw (.castable "PostLedger$Batch" "java/lang/Object") U) ∧
  (va_AO "java/lang/Object" U ∧ va_Dc U ∧ va_Mi "[Ljava/lang/Object;" (E.2 7) U ∧ vk_R "PostLedger" 120 "the batch is refused" (E.2 8) U) ∧
  (xZ "PostLedger$Standing" "OPEN" "LPostLedger$Standing;" (E.2 0) A U ∧ xZ "PostLedger$Standing" "POSTED" "LPostLedger$Standing;" (E.2 1) A U ∧ xZ "PostLedger$Standing" "VOID" "LPostLedger$Standing;" (E.2 2) A U) ∧
  (xZ "PostLedger$Outcome" "POSTED" "LPostLedger$Outcome;" (E.2 3) A U ∧ xZ "PostLedger$Outcome" "FAILED" "LPostLedger$Outcome;" (E.2 4) A U ∧ xZ "PostLedger$Outcome" "REFUSED" "LPostLedger$Outcome;" (E.2 5) A U) ∧
  (xZ "java/util/ArrayList" "DEFAULTCAPACITY_EMPTY_ELEMENTDATA" "[Ljava/lang/Object;" (E.2 6) A U ∧ va_T (.object "java/lang/Object") (E.2 6) 0 (fun _ => .null) A U U.heap) ∧
  ∀ w ∈ xNG, xKw w A U
theorem xZ_of {C n d : String} {a : Nat} {A : Nat → Prop} {s U : State} (h : xZ C n d a A s) (hvm : s.vm.Alike U.vm) (hq : ∀ q : Nat, q < s.heap.size → ¬ A q → U.heap[q]? = s.heap[q]?) : xZ C n d a A U := (h.kept hq).moved hvm
theorem xKw_of {w : Cond} {A : Nat → Prop} {s U : State} {locs : List Loc} (h : xKw w A s) (hW : s.WarmedH U.vm) (hS : va_S A s.heap U.heap locs) : xKw w A U :=
  fun V a hV hz hq => h V a (State.WarmedH.trans hW hV) (Nat.le_trans hS.1 hz) (fun q h1 h2 => (hq q (Nat.lt_of_lt_of_le h1 hS.1) h2).trans (hS.2.1 q h1 h2))
theorem xKw_narrow {w : Cond} {A B : Nat → Prop} {U : State} (h : xKw w A U) (hAB : ∀ q, B q → A q) : xKw w B U := fun V a hV hz hq => h V a hV hz (fun q h1 h2 => hq q h1 (fun z => h2 (hAB q z)))
theorem xKw_use {w : Cond} {A : Nat → Prop} {U : State} (h : xKw w A U) (a : Array Value) : w.before a U = true := h U a (State.WarmedH.refl U) (Nat.le_refl _) (fun _ _ _ => rfl)
theorem xF_of {E : xE_T} {A : Nat → Prop} {s U : State} {locs : List Loc} (h : xF E A s) (hW : s.WarmedH U.vm) (hS : va_S A s.heap U.heap locs) : xF E A U := by
  obtain ⟨⟨a1, a2, a3⟩, ⟨b1, b2, b3, b4⟩, ⟨c1, c2, c3⟩, ⟨d1, d2, d3⟩, ⟨e1, e2⟩, f0⟩ := h
  have hq : ∀ q : Nat, q < s.heap.size → ¬ A q → U.heap[q]? = s.heap[q]? := hS.2.1
  have hvm := hW.alike
  exact ⟨⟨a1.warmC hW, a2.warmC hW, a3.warmC hW⟩, ⟨b1.moved hvm, b2.moved hvm, b3.moved hvm, b4.warm hW⟩, ⟨xZ_of c1 hvm hq, xZ_of c2 hvm hq, xZ_of c3 hvm hq⟩, ⟨xZ_of d1 hvm hq, xZ_of d2 hvm hq, xZ_of d3 hvm hq⟩, ⟨xZ_of e1 hvm hq, (e2.kept hq).moved hvm⟩, fun w hw => xKw_of (f0 w hw) hW hS⟩
theorem xF_call {E : xE_T} {A : Nat → Prop} {u : State} {g : JFrame} {mk : MethodId} {a : Array Value} (h : xF E A u) : xF E A (u.calling g mk a) := by
  obtain ⟨⟨a1, a2, a3⟩, ⟨b1, b2, b3, b4⟩, ⟨c1, c2, c3⟩, ⟨d1, d2, d3⟩, ⟨e1, e2⟩, f0⟩ := h
  have hv : (u.calling g mk a).vm = u.vm := rfl
  have hvm : u.vm.Alike (u.calling g mk a).vm := Vm.Alike.refl _
  have hq : ∀ q : Nat, q < u.heap.size → ¬ A q → (u.calling g mk a).heap[q]? = u.heap[q]? := fun q _ _ => rfl
  exact ⟨⟨a1.same rfl hv.symm, a2.same rfl hv.symm, a3.same rfl hv.symm⟩, ⟨b1.moved hvm, b2.moved hvm, b3.moved hvm, b4.same hv⟩, ⟨xZ_of c1 hvm hq, xZ_of c2 hvm hq, xZ_of c3 hvm hq⟩, ⟨xZ_of d1 hvm hq, xZ_of d2 hvm hq, xZ_of d3 hvm hq⟩, ⟨xZ_of e1 hvm hq, (e2.kept hq).moved hvm⟩, f0⟩
theorem xF_narrow {E : xE_T} {A B : Nat → Prop} {U : State} (h : xF E A U) (hAB : ∀ q, B q → A q) : xF E B U := by
  obtain ⟨⟨a1, a2, a3⟩, ⟨b1, b2, b3, b4⟩, ⟨c1, c2, c3⟩, ⟨d1, d2, d3⟩, ⟨e1, e2⟩, f0⟩ := h
  exact ⟨⟨a1, a2, a3⟩, ⟨b1, b2, b3, b4⟩, ⟨va_Z.narrow c1 hAB, va_Z.narrow c2 hAB, va_Z.narrow c3 hAB⟩, ⟨va_Z.narrow d1 hAB, va_Z.narrow d2 hAB, va_Z.narrow d3 hAB⟩, ⟨va_Z.narrow e1 hAB, e2.narrow hAB⟩, fun w hw => xKw_narrow (f0 w hw) hAB⟩
