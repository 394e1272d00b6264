/-! A HEAP BY NAMES: every object of the two systems has a name (a triple of numbers), an address (ad), a content (ct). Names that are alive have addresses of their own. -/
abbrev xR : Type := Nat × Nat × Nat
def xup {α : Type} (f : xR → α) (r : xR) (v : α) : xR → α := fun z => if z = r then v else f z
theorem xup_self {α : Type} (f : xR → α) (r : xR) (v : α) : xup f r v r = v := if_pos rfl
theorem xup_ne {α : Type} (f : xR → α) {r z : xR} (v : α) (h : z ≠ r) : xup f r v z = f z := if_neg h
def xRp (w : xw_T) (ad : xR → Nat) (ct : xR → Option va_E) : Prop := (∀ (r : xR) (e : va_E), ct r = some e → w (ad r) = some e) ∧ ∀ r z : xR, ct r ≠ none → ct z ≠ none → ad r = ad z → r = z
theorem xRp.at {w : xw_T} {ad : xR → Nat} {ct : xR → Option va_E} (h : xRp w ad ct) {r : xR} {e : va_E} (he : ct r = some e) : w (ad r) = some e := h.1 r e he
theorem xRp.set {w : xw_T} {ad : xR → Nat} {ct : xR → Option va_E} (h : xRp w ad ct) {r : xR} {e0 : va_E} (he : ct r = some e0) (e : va_E) : xRp (va_up w (ad r) (some e)) ad (xup ct r (some e)) := by
  have hl : ∀ z, xup ct r (some e) z ≠ none → ct z ≠ none := by
    intro z hz
    by_cases q : z = r
    · rw [q, he]; exact fun x => by cases x
    · rw [xup_ne _ _ q] at hz; exact hz
  refine ⟨fun z e' hz => ?_, fun z y hz hy e' => h.2 z y (hl z hz) (hl y hy) e'⟩
  by_cases q : z = r
  · subst q
    rw [xup_self] at hz
    rw [va_up_self]; exact hz
  · have hz' := hz
    rw [xup_ne _ _ q] at hz
    have ha : ad z ≠ ad r := fun x => q (h.2 z r (by rw [hz]; exact fun x => by cases x) (by rw [he]; exact fun x => by cases x) x)
    rw [va_up_ne _ _ ha]
    exact h.1 z e' hz
theorem xRp.new {w : xw_T} {ad : xR → Nat} {ct : xR → Option va_E} (h : xRp w ad ct) {r : xR} {q : Nat} (hr : ct r = none) (hq : w q = none) (e : va_E) : xRp (va_up w q (some e)) (xup ad r q) (xup ct r (some e)) := by
  have hne : ∀ z e', ct z = some e' → ad z ≠ q := by
    intro z e' hz x
    have := h.1 z e' hz
    rw [x, hq] at this
    cases this
  refine ⟨fun z e' hz => ?_, fun z y hz hy x => ?_⟩
  · by_cases k : z = r
    · subst k
      rw [xup_self] at hz
      rw [xup_self, va_up_self]; exact hz
    · rw [xup_ne _ _ k] at hz
      rw [xup_ne _ _ k, va_up_ne _ _ (hne z e' hz)]
      exact h.1 z e' hz
  · by_cases k : z = r
    · by_cases k2 : y = r
      · rw [k, k2]
      · rw [xup_ne _ _ k2] at hy
        rw [k, xup_self, xup_ne _ _ k2] at x
        obtain ⟨e', he'⟩ := Option.ne_none_iff_exists'.mp hy
        exact absurd x.symm (hne y e' he')
    · rw [xup_ne _ _ k] at hz
      obtain ⟨e', he'⟩ := Option.ne_none_iff_exists'.mp hz
      by_cases k2 : y = r
      · rw [k2, xup_self, xup_ne _ _ k] at x
        exact absurd x (hne z e' he')
      · rw [xup_ne _ _ k2] at hy
        rw [xup_ne _ _ k, xup_ne _ _ k2] at x
        exact h.2 z y hz hy x
/-- another table of contents that says no more -/
theorem xRp.mono {w : xw_T} {ad ad' : xR → Nat} {ct ct' : xR → Option va_E} (h : xRp w ad ct) (hc : ∀ r e, ct' r = some e → ct r = some e) (ha : ∀ r, ct' r ≠ none → ad' r = ad r) : xRp w ad' ct' := by
  have hl : ∀ z, ct' z ≠ none → ct z ≠ none := by
    intro z hz
    obtain ⟨e, he⟩ := Option.ne_none_iff_exists'.mp hz
    rw [hc z e he]; exact fun x => by cases x
  refine ⟨fun r e he => ?_, fun r z hr hz x => h.2 r z (hl r hr) (hl z hz) (by rw [← ha r hr, ← ha z hz]; exact x)⟩
  rw [ha r (by rw [he]; exact fun x => by cases x)]
  exact h.1 r e (hc r e he)
