/-! WHAT STANDS BEHIND EVERY METHOD: statics, constants, array classes. E.1: array classes (0 Object, 1 int, 2 long, 3 boolean); E.2: addresses (0 OPEN, 1 POSTED, 2 VOID; 3 POSTED, 4 FAILED, 5 REFUSED of Outcome; 6 the empty array; 7 the mirror of Object[]; 8 the text of the exception) -/
abbrev xE_T : Type := (Nat → ClassId) × (Nat → Nat)
abbrev xtys (E : xE_T) : List (ClassId × FieldType) := [(E.1 0, .object "java/lang/Object"), (E.1 1, .int), (E.1 2, .long), (E.1 3, .boolean)]
def xZ (C n d : String) (a : Nat) (A : Nat → Prop) (U : State) : Prop := va_Z C n d (.ref a) A U U.heap
def xF (E : xE_T) (A : Nat → Prop) (U : State) : Prop :=
  (va_Nw (.castable "PostLedger$Row" "java/lang/Object") U ∧ va_Nw (.castable "PostLedger$Account" "java/lang/Object") U ∧ va_Nw (.castable "PostLedger$Batch" "java/lang/Object") U) ∧
  (va_AO "java/lang/Object" U ∧ va_Dc U ∧ va_Mi "[Ljava/lang/Object;" (E.2 7) U ∧ vk_R "PostLedger" 120 "the batch is refused" (E.2 8) U) ∧
  (xZ "PostLedger$Standing" "OPEN" "LPostLedger$Standing;" (E.2 0) A U ∧ xZ "PostLedger$Standing" "POSTED" "LPostLedger$Standing;" (E.2 1) A U ∧ xZ "PostLedger$Standing" "VOID" "LPostLedger$Standing;" (E.2 2) A U) ∧
  (xZ "PostLedger$Outcome" "POSTED" "LPostLedger$Outcome;" (E.2 3) A U ∧ xZ "PostLedger$Outcome" "FAILED" "LPostLedger$Outcome;" (E.2 4) A U ∧ xZ "PostLedger$Outcome" "REFUSED" "LPostLedger$Outcome;" (E.2 5) A U) ∧
  (xZ "java/util/ArrayList" "DEFAULTCAPACITY_EMPTY_ELEMENTDATA" "[Ljava/lang/Object;" (E.2 6) A U ∧ va_T (.object "java/lang/Object") (E.2 6) 0 (fun _ => .null) A U U.heap) ∧
  (va_Zq "java/lang/Throwable" "UNASSIGNED_STACK" "[Ljava/lang/StackTraceElement;" A U U.heap ∧ va_Zq "java/lang/Throwable" "SUPPRESSED_SENTINEL" "Ljava/util/List;" A U U.heap)
theorem xZ_of {C n d : String} {a : Nat} {A : Nat → Prop} {s U : State} (h : xZ C n d a A s) (hvm : s.vm.Alike U.vm) (hq : ∀ q : Nat, q < s.heap.size → ¬ A q → U.heap[q]? = s.heap[q]?) : xZ C n d a A U := (h.kept hq).moved hvm
theorem xF_of {E : xE_T} {A : Nat → Prop} {s U : State} {locs : List Loc} (h : xF E A s) (hW : s.WarmedH U.vm) (hS : va_S A s.heap U.heap locs) : xF E A U := by
  obtain ⟨⟨a1, a2, a3⟩, ⟨b1, b2, b3, b4⟩, ⟨c1, c2, c3⟩, ⟨d1, d2, d3⟩, ⟨e1, e2⟩, ⟨f1, f2⟩⟩ := h
  have hq : ∀ q : Nat, q < s.heap.size → ¬ A q → U.heap[q]? = s.heap[q]? := hS.2.1
  have hvm := hW.alike
  exact ⟨⟨a1.warmC hW, a2.warmC hW, a3.warmC hW⟩, ⟨b1.moved hvm, b2.moved hvm, b3.moved hvm, b4.warm hW⟩, ⟨xZ_of c1 hvm hq, xZ_of c2 hvm hq, xZ_of c3 hvm hq⟩, ⟨xZ_of d1 hvm hq, xZ_of d2 hvm hq, xZ_of d3 hvm hq⟩, ⟨xZ_of e1 hvm hq, (e2.kept hq).moved hvm⟩, ⟨(f1.kept hq).moved hvm, (f2.kept hq).moved hvm⟩⟩
theorem xF_same {E : xE_T} {A : Nat → Prop} {u U : State} (hv : U.vm = u.vm) (hh : U.heap = u.heap) (h : xF E A u) : xF E A U := by
  obtain ⟨⟨a1, a2, a3⟩, ⟨b1, b2, b3, b4⟩, ⟨c1, c2, c3⟩, ⟨d1, d2, d3⟩, ⟨e1, e2⟩, ⟨f1, f2⟩⟩ := h
  have hvm : u.vm.Alike U.vm := by rw [hv]; exact Vm.Alike.refl _
  have hq : ∀ q : Nat, q < u.heap.size → ¬ A q → U.heap[q]? = u.heap[q]? := fun q _ _ => by rw [hh]
  exact ⟨⟨a1.same rfl hv.symm, a2.same rfl hv.symm, a3.same rfl hv.symm⟩, ⟨b1.moved hvm, b2.moved hvm, b3.moved hvm, b4.same hv⟩, ⟨xZ_of c1 hvm hq, xZ_of c2 hvm hq, xZ_of c3 hvm hq⟩, ⟨xZ_of d1 hvm hq, xZ_of d2 hvm hq, xZ_of d3 hvm hq⟩, ⟨xZ_of e1 hvm hq, (e2.kept hq).moved hvm⟩, ⟨(f1.kept hq).moved hvm, (f2.kept hq).moved hvm⟩⟩
