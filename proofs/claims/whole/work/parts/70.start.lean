/-! THE LAW'S START: what the Statement gives there -/
section XST
variable {args : Array Value} {s : State} {A : Nat → Prop}
theorem xst_ref {t : Term} {C : String} (h : (Cond.exactly t C).before args s = true) : ∃ a : Nat, t.eval args s none [] s = some (.ref a) := by
  obtain ⟨a, _, _, _, q1, _⟩ := Cond.exactly_spec h
  exact ⟨a, q1⟩
theorem xst_isRef {C n d : String} {v : Value} (h : va_Z C n d v A s s.heap) (hv : v.isRef = true) : (Cond.isRef (.static C n d)).before args s = true := by
  obtain ⟨cf, kf, fi, f, a, cell, h1, h2, h3, h4, h5, h6, h7, -⟩ := h
  have he : (Term.static C n d).eval args s none [] s = some v := by
    simp [Term.eval, State.fieldNamed?, h1, h2, h4, h5, h6, h7]
  simp only [Cond.before, Cond.holds, Cond.value, he]
  cases v <;> simp_all [Value.isRef]
theorem xst_kRef {C n d : String} (h : va_Zq C n d A s s.heap) : xKw (.isRef (.static C n d)) A s := by
  intro V a hW hz hq
  have h2 : va_Zq C n d A V V.heap := va_Zq.moved hW.alike (va_Zq.kept h hq)
  rcases h2 with h2 | ⟨t, h2⟩
  · exact xst_isRef h2 rfl
  · exact xst_isRef h2 rfl
theorem xst_kLays {C n d : String} (h : (Cond.laysStatic C n d).before args s = true) (hA : ∀ a : Nat, a < s.heap.size → ¬ A a) : xKw (.laysStatic C n d) A s := by
  intro V a hW hz hq
  obtain ⟨c, k, i, f, b, cell, h1, h2, h3, h4, h5, h6, h7, h8, h9⟩ := Cond.laysStatic_spec h
  have hvm := hW.alike
  obtain ⟨k', hi', he⟩ := State.fieldFound?_setVm hvm h2
  have hb := (Array.getElem?_eq_some_iff.mp h5).1
  show (Cond.laysStatic C n d).holds a V none V [] = true
  exact Cond.laysStatic_of (by rw [hvm.findClass]; exact h1) hi' h3 (by rw [he]; exact h4) (by rw [hq b hb (hA b hb)]; exact h5) h6 h7 h8 (by rw [he]; exact h9)
theorem xst_kCast {C T : String} (h : (Cond.castable C T).before args s = true) : xKw (.castable C T) A s := fun _ _ hW _ _ => (va_Nw.warmC hW (va_Nw.of rfl h)).use rfl
theorem xst_kDecl {x : MethodName} (h : (Cond.declares x).before args s = true) : xKw (.declares x) A s := fun _ _ hW _ _ => (va_Nw.warmD hW (va_Nw.of rfl h)).use rfl
theorem xst_arr {ty : FieldType} (h : (Cond.arrayClass ty).before args s = true) (hty : ∀ C, ty ≠ .object C) : ∃ c : ClassId, ArrOfT s c ty ∧ va_RA s c ty := by
  obtain ⟨c, k, comp, h1, h2, h3⟩ := Cond.arrayClass_spec h
  refine ⟨c, fun n z => ⟨fun k h => (by cases h), k, h2, comp, h3⟩, ?_⟩
  cases ty <;> first | exact h1 | exact absurd rfl (hty _)
theorem xst_arrO {C : String} (h : (Cond.arrayOver (.object C)).before args s = true) : ∃ c : ClassId, ArrOfT s c (.object C) ∧ va_RA s c (.object C) := by
  obtain ⟨comp, c, k, h1, h2, h3, h4, h5⟩ := Cond.arrayOver_spec h
  exact ⟨c, fun n z => ⟨fun k h => (by cases h), k, h3, comp, h4⟩, k, comp, h3, h4, h1, h5⟩
end XST
theorem xNG_eq : xNG = [.laysStatic "java/lang/Throwable" "UNASSIGNED_STACK" "[Ljava/lang/StackTraceElement;", .laysStatic "java/lang/Throwable" "SUPPRESSED_SENTINEL" "Ljava/util/List;", .declares ⟨"java/lang/RuntimeException", "<init>", "(Ljava/lang/String;)V"⟩, .declares ⟨"java/lang/Exception", "<init>", "(Ljava/lang/String;)V"⟩, .declares ⟨"java/lang/Throwable", "<init>", "(Ljava/lang/String;)V"⟩, .castable xEx xEx, .isRef (.static "java/lang/Throwable" "UNASSIGNED_STACK" "[Ljava/lang/StackTraceElement;"), .isRef (.static "java/lang/Throwable" "SUPPRESSED_SENTINEL" "Ljava/util/List;")] := by decide +kernel
/-- the six constants differ, kind by kind -/
def xEok (E : xE_T) : Prop := (E.2 0 ≠ E.2 1 ∧ E.2 0 ≠ E.2 2 ∧ E.2 1 ≠ E.2 2) ∧ (E.2 3 ≠ E.2 4 ∧ E.2 3 ≠ E.2 5 ∧ E.2 4 ≠ E.2 5)
set_option maxHeartbeats 4000000 in
set_option maxRecDepth 100000 in
/-- at the law's start there are D and E -/
theorem xst_env {p : Program} {s : State} {m : MethodId} {meth : Method} {c : Code} {b L : Nat} {xs : Nat → Int32} (C0 : lw_At p s m meth c b L xs) : ∃ (D : va_G) (E : xE_T), va_K D vwCl (xtys E) s ∧ xF E (fun q => s.heap.size ≤ q) s ∧ xEok E ∧ ∀ i, i < 9 → E.2 i < s.heap.size ∨ i = 7 ∨ i = 8 := by
  obtain ⟨-, -, -, -, -, hts, -, -, -, hgv⟩ := C0
  have hs := flat_of_before _ hgv
  have hA : ∀ a : Nat, a < s.heap.size → ¬ (fun q => s.heap.size ≤ q) a := fun a h h2 => Nat.not_le.mpr h h2
  have htb : ∀ w ∈ xTB, w.before #[Value.ref b] s = true := fun w hw => hts w (xTB_in w hw)
  obtain ⟨k0, i0, K0⟩ := u_known htb inAL (hts (.instantiable RAL 3) (by decide +kernel))
  obtain ⟨k1, i1, K1⟩ := u_known htb inAC (hts (.instantiable RAC 4) (by decide +kernel))
  obtain ⟨k2, i2, K2⟩ := u_known htb inBA (hts (.instantiable RBA 6) (by decide +kernel))
  obtain ⟨k3, i3, K3⟩ := u_known htb inRW (hts (.instantiable RRW 2) (by decide +kernel))
  obtain ⟨k4, i4, K4⟩ := u_known htb inPL (hts (.instantiable RPL 4) (by decide +kernel))
  obtain ⟨k5, i5, K5⟩ := u_known htb inMO (hts (.instantiable RMO 17) (by decide +kernel))
  obtain ⟨t0, T0⟩ := xst_arrO (hts (.arrayOver (.object "java/lang/Object")) (by decide +kernel))
  obtain ⟨t1, T1⟩ := xst_arr (hts (.arrayClass .int) (by decide +kernel)) (fun _ h => by cases h)
  obtain ⟨t2, T2⟩ := xst_arr (hts (.arrayClass .long) (by decide +kernel)) (fun _ h => by cases h)
  obtain ⟨t3, T3⟩ := xst_arr (hts (.arrayClass .boolean) (by decide +kernel)) (fun _ h => by cases h)
  obtain ⟨e0, E0⟩ := xst_ref (hs (.exactly (.static "PostLedger$Standing" "OPEN" "LPostLedger$Standing;") "PostLedger$Standing") (by decide +kernel))
  obtain ⟨e1, E1⟩ := xst_ref (hs (.exactly (.static "PostLedger$Standing" "POSTED" "LPostLedger$Standing;") "PostLedger$Standing") (by decide +kernel))
  obtain ⟨e2, E2⟩ := xst_ref (hs (.exactly (.static "PostLedger$Standing" "VOID" "LPostLedger$Standing;") "PostLedger$Standing") (by decide +kernel))
  obtain ⟨e3, E3⟩ := xst_ref (hs (.exactly (.static "PostLedger$Outcome" "POSTED" "LPostLedger$Outcome;") "PostLedger$Outcome") (by decide +kernel))
  obtain ⟨e4, E4⟩ := xst_ref (hs (.exactly (.static "PostLedger$Outcome" "FAILED" "LPostLedger$Outcome;") "PostLedger$Outcome") (by decide +kernel))
  obtain ⟨e5, E5⟩ := xst_ref (hs (.exactly (.static "PostLedger$Outcome" "REFUSED" "LPostLedger$Outcome;") "PostLedger$Outcome") (by decide +kernel))
  obtain ⟨e7, E7⟩ := va_Mi.of (hs (.isRef (.mirror "[Ljava/lang/Object;")) (by decide +kernel))
  obtain ⟨e8, E8⟩ := xst_ref (hs (.exactly (.string "PostLedger" 120) "java/lang/String") (by decide +kernel))
  obtain ⟨e6, E6, T6⟩ := va_Tof (A := fun q => s.heap.size ≤ q) (N := 0) (f := fun _ => .null) (by decide) (hs (.arrayOf (.static "java/util/ArrayList" "DEFAULTCAPACITY_EMPTY_ELEMENTDATA" "[Ljava/lang/Object;") (.object "java/lang/Object")) (by decide +kernel)) (va_eqt (hs (.eq (.length (.static "java/util/ArrayList" "DEFAULTCAPACITY_EMPTY_ELEMENTDATA" "[Ljava/lang/Object;")) (.int 0)) (by decide +kernel))) (fun j hj => absurd hj (Nat.not_lt_zero _)) hA
  have iS := hts (.initialized "PostLedger$Standing") (by decide +kernel)
  have iO := hts (.initialized "PostLedger$Outcome") (by decide +kernel)
  have iL := hts (.initialized "java/util/ArrayList") (by decide +kernel)
  have iT := hts (.initialized "java/lang/Throwable") (by decide +kernel)
  have Z0 := va_Zof (A := fun q => s.heap.size ≤ q) (hts (.laysStatic "PostLedger$Standing" "OPEN" "LPostLedger$Standing;") (by decide +kernel)) iS E0 hA
  have Z1 := va_Zof (A := fun q => s.heap.size ≤ q) (hts (.laysStatic "PostLedger$Standing" "POSTED" "LPostLedger$Standing;") (by decide +kernel)) iS E1 hA
  have Z2 := va_Zof (A := fun q => s.heap.size ≤ q) (hts (.laysStatic "PostLedger$Standing" "VOID" "LPostLedger$Standing;") (by decide +kernel)) iS E2 hA
  have Z3 := va_Zof (A := fun q => s.heap.size ≤ q) (hts (.laysStatic "PostLedger$Outcome" "POSTED" "LPostLedger$Outcome;") (by decide +kernel)) iO E3 hA
  have Z4 := va_Zof (A := fun q => s.heap.size ≤ q) (hts (.laysStatic "PostLedger$Outcome" "FAILED" "LPostLedger$Outcome;") (by decide +kernel)) iO E4 hA
  have Z5 := va_Zof (A := fun q => s.heap.size ≤ q) (hts (.laysStatic "PostLedger$Outcome" "REFUSED" "LPostLedger$Outcome;") (by decide +kernel)) iO E5 hA
  have Z6 := va_Zof (A := fun q => s.heap.size ≤ q) (hts (.laysStatic "java/util/ArrayList" "DEFAULTCAPACITY_EMPTY_ELEMENTDATA" "[Ljava/lang/Object;") (by decide +kernel)) iL E6 hA
  have lU := hts (.laysStatic "java/lang/Throwable" "UNASSIGNED_STACK" "[Ljava/lang/StackTraceElement;") (by decide +kernel)
  have lS := hts (.laysStatic "java/lang/Throwable" "SUPPRESSED_SENTINEL" "Ljava/util/List;") (by decide +kernel)
  have zU := va_Zqof (A := fun q => s.heap.size ≤ q) lU iT (hs (.isRef (.static "java/lang/Throwable" "UNASSIGNED_STACK" "[Ljava/lang/StackTraceElement;")) (by decide +kernel)) hA
  have zS := va_Zqof (A := fun q => s.heap.size ≤ q) lS iT (hs (.isRef (.static "java/lang/Throwable" "SUPPRESSED_SENTINEL" "Ljava/util/List;")) (by decide +kernel)) hA
  have n01 := va_neR (hs (.not (.eq (.static "PostLedger$Standing" "OPEN" "LPostLedger$Standing;") (.static "PostLedger$Standing" "POSTED" "LPostLedger$Standing;"))) (by decide +kernel)) E0 E1
  have n02 := va_neR (hs (.not (.eq (.static "PostLedger$Standing" "OPEN" "LPostLedger$Standing;") (.static "PostLedger$Standing" "VOID" "LPostLedger$Standing;"))) (by decide +kernel)) E0 E2
  have n12 := va_neR (hs (.not (.eq (.static "PostLedger$Standing" "POSTED" "LPostLedger$Standing;") (.static "PostLedger$Standing" "VOID" "LPostLedger$Standing;"))) (by decide +kernel)) E1 E2
  have n53 := va_neR (hs (.not (.eq (.static "PostLedger$Outcome" "REFUSED" "LPostLedger$Outcome;") (.static "PostLedger$Outcome" "POSTED" "LPostLedger$Outcome;"))) (by decide +kernel)) E5 E3
  have n54 := va_neR (hs (.not (.eq (.static "PostLedger$Outcome" "REFUSED" "LPostLedger$Outcome;") (.static "PostLedger$Outcome" "FAILED" "LPostLedger$Outcome;"))) (by decide +kernel)) E5 E4
  have n43 := va_neR (hs (.not (.eq (.static "PostLedger$Outcome" "FAILED" "LPostLedger$Outcome;") (.static "PostLedger$Outcome" "POSTED" "LPostLedger$Outcome;"))) (by decide +kernel)) E4 E3
  have hlt : ∀ {t : Term} {C : String} {a : Nat}, (Cond.exactly t C).before #[Value.ref b] s = true → t.eval #[Value.ref b] s none [] s = some (.ref a) → a < s.heap.size := by
    intro t C a h1 h2
    obtain ⟨a2, _, cell, _, q1, _, q3, _⟩ := Cond.exactly_spec h1
    cases h2.symm.trans q1
    exact (Array.getElem?_eq_some_iff.mp q3).1
  have hl0 := hlt (hs (.exactly (.static "PostLedger$Standing" "OPEN" "LPostLedger$Standing;") "PostLedger$Standing") (by decide +kernel)) E0
  have hl1 := hlt (hs (.exactly (.static "PostLedger$Standing" "POSTED" "LPostLedger$Standing;") "PostLedger$Standing") (by decide +kernel)) E1
  have hl2 := hlt (hs (.exactly (.static "PostLedger$Standing" "VOID" "LPostLedger$Standing;") "PostLedger$Standing") (by decide +kernel)) E2
  have hl3 := hlt (hs (.exactly (.static "PostLedger$Outcome" "POSTED" "LPostLedger$Outcome;") "PostLedger$Outcome") (by decide +kernel)) E3
  have hl4 := hlt (hs (.exactly (.static "PostLedger$Outcome" "FAILED" "LPostLedger$Outcome;") "PostLedger$Outcome") (by decide +kernel)) E4
  have hl5 := hlt (hs (.exactly (.static "PostLedger$Outcome" "REFUSED" "LPostLedger$Outcome;") "PostLedger$Outcome") (by decide +kernel)) E5
  have hl6 : e6 < s.heap.size := Nat.not_le.mp T6.out
  refine ⟨((fun c => match c with | 0 => k0 | 1 => k1 | 2 => k2 | 3 => k3 | 4 => k4 | _ => k5), (fun c => match c with | 0 => i0 | 1 => i1 | 2 => i2 | 3 => i3 | 4 => i4 | _ => i5)), ((fun t => match t with | 0 => t0 | 1 => t1 | 2 => t2 | _ => t3), (fun i => match i with | 0 => e0 | 1 => e1 | 2 => e2 | 3 => e3 | 4 => e4 | 5 => e5 | 6 => e6 | 7 => e7 | _ => e8)), ⟨?_, ?_⟩, ?_, ⟨⟨n01, n02, n12⟩, fun h => n43 h.symm, fun h => n53 h.symm, fun h => n54 h.symm⟩, ?_⟩
  · intro c q hq
    match c, hq with
    | 0, hq => cases hq; exact K0
    | 1, hq => cases hq; exact K1
    | 2, hq => cases hq; exact K2
    | 3, hq => cases hq; exact K3
    | 4, hq => cases hq; exact K4
    | 5, hq => cases hq; exact K5
  · intro k q hq
    match k, hq with
    | 0, hq => cases hq; exact T0
    | 1, hq => cases hq; exact T1
    | 2, hq => cases hq; exact T2
    | 3, hq => cases hq; exact T3
  · refine ⟨⟨va_Nw.of rfl (hts (.castable "PostLedger$Row" "java/lang/Object") (by decide +kernel)), va_Nw.of rfl (hts (.castable "PostLedger$Account" "java/lang/Object") (by decide +kernel)), va_Nw.of rfl (hts (.castable "PostLedger$Batch" "java/lang/Object") (by decide +kernel))⟩, ⟨va_AO.of (hts (.arrayOver (.object "java/lang/Object")) (by decide +kernel)), va_Dc.of (hts (.declares ⟨"java/lang/Object", "getClass", "()Ljava/lang/Class;"⟩) (by decide +kernel)), E7, vk_R.of (hts (.stringRef "PostLedger" 120 "the batch is refused") (by decide +kernel)) E8⟩, ⟨Z0, Z1, Z2⟩, ⟨Z3, Z4, Z5⟩, ⟨Z6, T6⟩, ?_⟩
    rw [xNG_eq]
    intro w hw
    simp only [List.mem_cons, List.not_mem_nil, or_false] at hw
    rcases hw with rfl | rfl | rfl | rfl | rfl | rfl | rfl | rfl
    · exact xst_kLays lU hA
    · exact xst_kLays lS hA
    · exact xst_kDecl (hts (.declares ⟨"java/lang/RuntimeException", "<init>", "(Ljava/lang/String;)V"⟩) (by decide +kernel))
    · exact xst_kDecl (hts (.declares ⟨"java/lang/Exception", "<init>", "(Ljava/lang/String;)V"⟩) (by decide +kernel))
    · exact xst_kDecl (hts (.declares ⟨"java/lang/Throwable", "<init>", "(Ljava/lang/String;)V"⟩) (by decide +kernel))
    · exact xst_kCast (hts (.castable xEx xEx) (by decide +kernel))
    · exact xst_kRef zU
    · exact xst_kRef zS
  · intro i hi
    rcases (show i = 0 ∨ i = 1 ∨ i = 2 ∨ i = 3 ∨ i = 4 ∨ i = 5 ∨ i = 6 ∨ i = 7 ∨ i = 8 by omega) with rfl | rfl | rfl | rfl | rfl | rfl | rfl | rfl | rfl
    · exact Or.inl hl0
    · exact Or.inl hl1
    · exact Or.inl hl2
    · exact Or.inl hl3
    · exact Or.inl hl4
    · exact Or.inl hl5
    · exact Or.inl hl6
    · exact Or.inr (Or.inl rfl)
    · exact Or.inr (Or.inr rfl)
