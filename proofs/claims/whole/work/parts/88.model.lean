/-! THE REFERENCE: what its object and its arrays hold. Written by wip/gen/model.py -/
abbrev xG : Type := (Nat → Int32) × (Nat → Int32) × (Nat → Int64) × (Nat → Int32) × (Nat → Int64) × (Nat → Int32) × (Nat → Int32) × (Nat → Int32) × (Nat → Int32) × (Nat → Int32) × (Nat → Int64) × (Nat → Int32)
def gO (G : xG) : Nat → Int32 := G.1
def gK (G : xG) : Nat → Int32 := G.2.1
def gL (G : xG) : Nat → Int64 := G.2.2.1
def gS (G : xG) : Nat → Int32 := G.2.2.2.1
def gD (G : xG) : Nat → Int64 := G.2.2.2.2.1
def gP (G : xG) : Nat → Int32 := G.2.2.2.2.2.1
def gF (G : xG) : Nat → Int32 := G.2.2.2.2.2.2.1
def gB (G : xG) : Nat → Int32 := G.2.2.2.2.2.2.2.1
def gR (G : xG) : Nat → Int32 := G.2.2.2.2.2.2.2.2.1
def gA (G : xG) : Nat → Int32 := G.2.2.2.2.2.2.2.2.2.1
def gC (G : xG) : Nat → Int64 := G.2.2.2.2.2.2.2.2.2.2.1
def gQ (G : xG) : Nat → Int32 := G.2.2.2.2.2.2.2.2.2.2.2
def sgO (G : xG) (f : Nat → Int32) : xG := (f, gK G, gL G, gS G, gD G, gP G, gF G, gB G, gR G, gA G, gC G, gQ G)
def sgK (G : xG) (f : Nat → Int32) : xG := (gO G, f, gL G, gS G, gD G, gP G, gF G, gB G, gR G, gA G, gC G, gQ G)
def sgL (G : xG) (f : Nat → Int64) : xG := (gO G, gK G, f, gS G, gD G, gP G, gF G, gB G, gR G, gA G, gC G, gQ G)
def sgS (G : xG) (f : Nat → Int32) : xG := (gO G, gK G, gL G, f, gD G, gP G, gF G, gB G, gR G, gA G, gC G, gQ G)
def sgD (G : xG) (f : Nat → Int64) : xG := (gO G, gK G, gL G, gS G, f, gP G, gF G, gB G, gR G, gA G, gC G, gQ G)
def sgP (G : xG) (f : Nat → Int32) : xG := (gO G, gK G, gL G, gS G, gD G, f, gF G, gB G, gR G, gA G, gC G, gQ G)
def sgF (G : xG) (f : Nat → Int32) : xG := (gO G, gK G, gL G, gS G, gD G, gP G, f, gB G, gR G, gA G, gC G, gQ G)
def sgB (G : xG) (f : Nat → Int32) : xG := (gO G, gK G, gL G, gS G, gD G, gP G, gF G, f, gR G, gA G, gC G, gQ G)
def sgR (G : xG) (f : Nat → Int32) : xG := (gO G, gK G, gL G, gS G, gD G, gP G, gF G, gB G, f, gA G, gC G, gQ G)
def sgA (G : xG) (f : Nat → Int32) : xG := (gO G, gK G, gL G, gS G, gD G, gP G, gF G, gB G, gR G, f, gC G, gQ G)
def sgC (G : xG) (f : Nat → Int64) : xG := (gO G, gK G, gL G, gS G, gD G, gP G, gF G, gB G, gR G, gA G, f, gQ G)
def sgQ (G : xG) (f : Nat → Int32) : xG := (gO G, gK G, gL G, gS G, gD G, gP G, gF G, gB G, gR G, gA G, gC G, f)
/-- thrown, accounts, batches, posted, closed -/
abbrev xH : Type := Int32 × Nat × Nat × Nat × Int64
abbrev moF (ad : xR → Nat) (H : xH) : List Value := [.int H.1, .int (nI H.2.1), .ref (ad (11, 0, 0)), .ref (ad (12, 0, 0)), .ref (ad (13, 0, 0)), .int (nI H.2.2.1), .ref (ad (14, 0, 0)), .ref (ad (15, 0, 0)), .ref (ad (16, 0, 0)), .ref (ad (17, 0, 0)), .ref (ad (18, 0, 0)), .ref (ad (19, 0, 0)), .ref (ad (20, 0, 0)), .ref (ad (21, 0, 0)), .int (nI H.2.2.2.1), .ref (ad (22, 0, 0)), .long H.2.2.2.2]
def mR (E : xE_T) (ad : xR → Nat) (ct : xR → Option va_E) (H : xH) (G : xG) : Prop := ct (10, 0, 0) = some (.inr (5, moF ad H)) ∧ ct (11, 0, 0) = some (xcI (E.1 1) 61 (gO G)) ∧ ct (12, 0, 0) = some (xcI (E.1 1) 61 (gK G)) ∧ ct (13, 0, 0) = some (xcL (E.1 2) 61 (gL G)) ∧ ct (14, 0, 0) = some (xcI (E.1 1) 301 (gS G)) ∧ ct (15, 0, 0) = some (xcL (E.1 2) 301 (gD G)) ∧ ct (16, 0, 0) = some (xcI (E.1 3) 301 (gP G)) ∧ ct (17, 0, 0) = some (xcI (E.1 3) 301 (gF G)) ∧ ct (18, 0, 0) = some (xcI (E.1 3) 301 (gB G)) ∧ ct (19, 0, 0) = some (xcI (E.1 1) 301 (gR G)) ∧ ct (20, 0, 0) = some (xcI (E.1 1) 3612 (gA G)) ∧ ct (21, 0, 0) = some (xcL (E.1 2) 3612 (gC G)) ∧ ct (22, 0, 0) = some (xcI (E.1 1) 300 (gQ G))
/-- what a step of the reference keeps -/
def Fm (ct ct' : xR → Option va_E) : Prop := ∀ r : xR, r.1 < 10 ∨ 22 < r.1 → ct' r = ct r
theorem Fm.refl (ct : xR → Option va_E) : Fm ct ct := fun _ _ => rfl
theorem Fm.trans {ct ct' ct2 : xR → Option va_E} (h : Fm ct ct') (g : Fm ct' ct2) : Fm ct ct2 := fun r hr => (g r hr).trans (h r hr)
section MOR
variable {E : xE_T} {w : xw_T} {ad : xR → Nat} {ct : xR → Option va_E} {H : xH} {G : xG}
theorem Fm_set {t : Nat} {e : va_E} (h1 : 10 ≤ t) (h2 : t ≤ 22) : Fm ct (xup ct (t, 0, 0) (some e)) := fun r hr => xup_ne _ _ (fun q => by rw [q] at hr; dsimp only at hr; omega)
theorem mR_at (hR : xRp w ad ct) (hM : mR E ad ct H G) : w (ad (10, 0, 0)) = some (.inr (5, moF ad H)) ∧ w (ad (11, 0, 0)) = some (xcI (E.1 1) 61 (gO G)) ∧ w (ad (12, 0, 0)) = some (xcI (E.1 1) 61 (gK G)) ∧ w (ad (13, 0, 0)) = some (xcL (E.1 2) 61 (gL G)) ∧ w (ad (14, 0, 0)) = some (xcI (E.1 1) 301 (gS G)) ∧ w (ad (15, 0, 0)) = some (xcL (E.1 2) 301 (gD G)) ∧ w (ad (16, 0, 0)) = some (xcI (E.1 3) 301 (gP G)) ∧ w (ad (17, 0, 0)) = some (xcI (E.1 3) 301 (gF G)) ∧ w (ad (18, 0, 0)) = some (xcI (E.1 3) 301 (gB G)) ∧ w (ad (19, 0, 0)) = some (xcI (E.1 1) 301 (gR G)) ∧ w (ad (20, 0, 0)) = some (xcI (E.1 1) 3612 (gA G)) ∧ w (ad (21, 0, 0)) = some (xcL (E.1 2) 3612 (gC G)) ∧ w (ad (22, 0, 0)) = some (xcI (E.1 1) 300 (gQ G)) := by
  obtain ⟨m10, m11, m12, m13, m14, m15, m16, m17, m18, m19, m20, m21, m22⟩ := hM
  exact ⟨hR.at m10, hR.at m11, hR.at m12, hR.at m13, hR.at m14, hR.at m15, hR.at m16, hR.at m17, hR.at m18, hR.at m19, hR.at m20, hR.at m21, hR.at m22⟩
theorem mR_h (hR : xRp w ad ct) (hM : mR E ad ct H G) (H' : xH) : ∃ ct', xRp (va_up w (ad (10, 0, 0)) (some (.inr (5, moF ad H')))) ad ct' ∧ mR E ad ct' H' G ∧ Fm ct ct' := by
  obtain ⟨m10, m11, m12, m13, m14, m15, m16, m17, m18, m19, m20, m21, m22⟩ := hM
  exact ⟨_, hR.set m10 _, ⟨(xup_self _ _ _), (by rw [xup_ne _ _ (tg (by decide))]; exact m11), (by rw [xup_ne _ _ (tg (by decide))]; exact m12), (by rw [xup_ne _ _ (tg (by decide))]; exact m13), (by rw [xup_ne _ _ (tg (by decide))]; exact m14), (by rw [xup_ne _ _ (tg (by decide))]; exact m15), (by rw [xup_ne _ _ (tg (by decide))]; exact m16), (by rw [xup_ne _ _ (tg (by decide))]; exact m17), (by rw [xup_ne _ _ (tg (by decide))]; exact m18), (by rw [xup_ne _ _ (tg (by decide))]; exact m19), (by rw [xup_ne _ _ (tg (by decide))]; exact m20), (by rw [xup_ne _ _ (tg (by decide))]; exact m21), (by rw [xup_ne _ _ (tg (by decide))]; exact m22)⟩, Fm_set (by decide) (by decide)⟩
theorem mR_gO (hR : xRp w ad ct) (hM : mR E ad ct H G) (f : Nat → Int32) : ∃ ct', xRp (va_up w (ad (11, 0, 0)) (some (xcI (E.1 1) 61 f))) ad ct' ∧ mR E ad ct' H (sgO G f) ∧ Fm ct ct' := by
  obtain ⟨m10, m11, m12, m13, m14, m15, m16, m17, m18, m19, m20, m21, m22⟩ := hM
  exact ⟨_, hR.set m11 _, ⟨(by rw [xup_ne _ _ (tg (by decide))]; exact m10), (xup_self _ _ _), (by rw [xup_ne _ _ (tg (by decide))]; exact m12), (by rw [xup_ne _ _ (tg (by decide))]; exact m13), (by rw [xup_ne _ _ (tg (by decide))]; exact m14), (by rw [xup_ne _ _ (tg (by decide))]; exact m15), (by rw [xup_ne _ _ (tg (by decide))]; exact m16), (by rw [xup_ne _ _ (tg (by decide))]; exact m17), (by rw [xup_ne _ _ (tg (by decide))]; exact m18), (by rw [xup_ne _ _ (tg (by decide))]; exact m19), (by rw [xup_ne _ _ (tg (by decide))]; exact m20), (by rw [xup_ne _ _ (tg (by decide))]; exact m21), (by rw [xup_ne _ _ (tg (by decide))]; exact m22)⟩, Fm_set (by decide) (by decide)⟩
theorem mR_gK (hR : xRp w ad ct) (hM : mR E ad ct H G) (f : Nat → Int32) : ∃ ct', xRp (va_up w (ad (12, 0, 0)) (some (xcI (E.1 1) 61 f))) ad ct' ∧ mR E ad ct' H (sgK G f) ∧ Fm ct ct' := by
  obtain ⟨m10, m11, m12, m13, m14, m15, m16, m17, m18, m19, m20, m21, m22⟩ := hM
  exact ⟨_, hR.set m12 _, ⟨(by rw [xup_ne _ _ (tg (by decide))]; exact m10), (by rw [xup_ne _ _ (tg (by decide))]; exact m11), (xup_self _ _ _), (by rw [xup_ne _ _ (tg (by decide))]; exact m13), (by rw [xup_ne _ _ (tg (by decide))]; exact m14), (by rw [xup_ne _ _ (tg (by decide))]; exact m15), (by rw [xup_ne _ _ (tg (by decide))]; exact m16), (by rw [xup_ne _ _ (tg (by decide))]; exact m17), (by rw [xup_ne _ _ (tg (by decide))]; exact m18), (by rw [xup_ne _ _ (tg (by decide))]; exact m19), (by rw [xup_ne _ _ (tg (by decide))]; exact m20), (by rw [xup_ne _ _ (tg (by decide))]; exact m21), (by rw [xup_ne _ _ (tg (by decide))]; exact m22)⟩, Fm_set (by decide) (by decide)⟩
theorem mR_gL (hR : xRp w ad ct) (hM : mR E ad ct H G) (f : Nat → Int64) : ∃ ct', xRp (va_up w (ad (13, 0, 0)) (some (xcL (E.1 2) 61 f))) ad ct' ∧ mR E ad ct' H (sgL G f) ∧ Fm ct ct' := by
  obtain ⟨m10, m11, m12, m13, m14, m15, m16, m17, m18, m19, m20, m21, m22⟩ := hM
  exact ⟨_, hR.set m13 _, ⟨(by rw [xup_ne _ _ (tg (by decide))]; exact m10), (by rw [xup_ne _ _ (tg (by decide))]; exact m11), (by rw [xup_ne _ _ (tg (by decide))]; exact m12), (xup_self _ _ _), (by rw [xup_ne _ _ (tg (by decide))]; exact m14), (by rw [xup_ne _ _ (tg (by decide))]; exact m15), (by rw [xup_ne _ _ (tg (by decide))]; exact m16), (by rw [xup_ne _ _ (tg (by decide))]; exact m17), (by rw [xup_ne _ _ (tg (by decide))]; exact m18), (by rw [xup_ne _ _ (tg (by decide))]; exact m19), (by rw [xup_ne _ _ (tg (by decide))]; exact m20), (by rw [xup_ne _ _ (tg (by decide))]; exact m21), (by rw [xup_ne _ _ (tg (by decide))]; exact m22)⟩, Fm_set (by decide) (by decide)⟩
theorem mR_gS (hR : xRp w ad ct) (hM : mR E ad ct H G) (f : Nat → Int32) : ∃ ct', xRp (va_up w (ad (14, 0, 0)) (some (xcI (E.1 1) 301 f))) ad ct' ∧ mR E ad ct' H (sgS G f) ∧ Fm ct ct' := by
  obtain ⟨m10, m11, m12, m13, m14, m15, m16, m17, m18, m19, m20, m21, m22⟩ := hM
  exact ⟨_, hR.set m14 _, ⟨(by rw [xup_ne _ _ (tg (by decide))]; exact m10), (by rw [xup_ne _ _ (tg (by decide))]; exact m11), (by rw [xup_ne _ _ (tg (by decide))]; exact m12), (by rw [xup_ne _ _ (tg (by decide))]; exact m13), (xup_self _ _ _), (by rw [xup_ne _ _ (tg (by decide))]; exact m15), (by rw [xup_ne _ _ (tg (by decide))]; exact m16), (by rw [xup_ne _ _ (tg (by decide))]; exact m17), (by rw [xup_ne _ _ (tg (by decide))]; exact m18), (by rw [xup_ne _ _ (tg (by decide))]; exact m19), (by rw [xup_ne _ _ (tg (by decide))]; exact m20), (by rw [xup_ne _ _ (tg (by decide))]; exact m21), (by rw [xup_ne _ _ (tg (by decide))]; exact m22)⟩, Fm_set (by decide) (by decide)⟩
theorem mR_gD (hR : xRp w ad ct) (hM : mR E ad ct H G) (f : Nat → Int64) : ∃ ct', xRp (va_up w (ad (15, 0, 0)) (some (xcL (E.1 2) 301 f))) ad ct' ∧ mR E ad ct' H (sgD G f) ∧ Fm ct ct' := by
  obtain ⟨m10, m11, m12, m13, m14, m15, m16, m17, m18, m19, m20, m21, m22⟩ := hM
  exact ⟨_, hR.set m15 _, ⟨(by rw [xup_ne _ _ (tg (by decide))]; exact m10), (by rw [xup_ne _ _ (tg (by decide))]; exact m11), (by rw [xup_ne _ _ (tg (by decide))]; exact m12), (by rw [xup_ne _ _ (tg (by decide))]; exact m13), (by rw [xup_ne _ _ (tg (by decide))]; exact m14), (xup_self _ _ _), (by rw [xup_ne _ _ (tg (by decide))]; exact m16), (by rw [xup_ne _ _ (tg (by decide))]; exact m17), (by rw [xup_ne _ _ (tg (by decide))]; exact m18), (by rw [xup_ne _ _ (tg (by decide))]; exact m19), (by rw [xup_ne _ _ (tg (by decide))]; exact m20), (by rw [xup_ne _ _ (tg (by decide))]; exact m21), (by rw [xup_ne _ _ (tg (by decide))]; exact m22)⟩, Fm_set (by decide) (by decide)⟩
theorem mR_gP (hR : xRp w ad ct) (hM : mR E ad ct H G) (f : Nat → Int32) : ∃ ct', xRp (va_up w (ad (16, 0, 0)) (some (xcI (E.1 3) 301 f))) ad ct' ∧ mR E ad ct' H (sgP G f) ∧ Fm ct ct' := by
  obtain ⟨m10, m11, m12, m13, m14, m15, m16, m17, m18, m19, m20, m21, m22⟩ := hM
  exact ⟨_, hR.set m16 _, ⟨(by rw [xup_ne _ _ (tg (by decide))]; exact m10), (by rw [xup_ne _ _ (tg (by decide))]; exact m11), (by rw [xup_ne _ _ (tg (by decide))]; exact m12), (by rw [xup_ne _ _ (tg (by decide))]; exact m13), (by rw [xup_ne _ _ (tg (by decide))]; exact m14), (by rw [xup_ne _ _ (tg (by decide))]; exact m15), (xup_self _ _ _), (by rw [xup_ne _ _ (tg (by decide))]; exact m17), (by rw [xup_ne _ _ (tg (by decide))]; exact m18), (by rw [xup_ne _ _ (tg (by decide))]; exact m19), (by rw [xup_ne _ _ (tg (by decide))]; exact m20), (by rw [xup_ne _ _ (tg (by decide))]; exact m21), (by rw [xup_ne _ _ (tg (by decide))]; exact m22)⟩, Fm_set (by decide) (by decide)⟩
theorem mR_gF (hR : xRp w ad ct) (hM : mR E ad ct H G) (f : Nat → Int32) : ∃ ct', xRp (va_up w (ad (17, 0, 0)) (some (xcI (E.1 3) 301 f))) ad ct' ∧ mR E ad ct' H (sgF G f) ∧ Fm ct ct' := by
  obtain ⟨m10, m11, m12, m13, m14, m15, m16, m17, m18, m19, m20, m21, m22⟩ := hM
  exact ⟨_, hR.set m17 _, ⟨(by rw [xup_ne _ _ (tg (by decide))]; exact m10), (by rw [xup_ne _ _ (tg (by decide))]; exact m11), (by rw [xup_ne _ _ (tg (by decide))]; exact m12), (by rw [xup_ne _ _ (tg (by decide))]; exact m13), (by rw [xup_ne _ _ (tg (by decide))]; exact m14), (by rw [xup_ne _ _ (tg (by decide))]; exact m15), (by rw [xup_ne _ _ (tg (by decide))]; exact m16), (xup_self _ _ _), (by rw [xup_ne _ _ (tg (by decide))]; exact m18), (by rw [xup_ne _ _ (tg (by decide))]; exact m19), (by rw [xup_ne _ _ (tg (by decide))]; exact m20), (by rw [xup_ne _ _ (tg (by decide))]; exact m21), (by rw [xup_ne _ _ (tg (by decide))]; exact m22)⟩, Fm_set (by decide) (by decide)⟩
theorem mR_gB (hR : xRp w ad ct) (hM : mR E ad ct H G) (f : Nat → Int32) : ∃ ct', xRp (va_up w (ad (18, 0, 0)) (some (xcI (E.1 3) 301 f))) ad ct' ∧ mR E ad ct' H (sgB G f) ∧ Fm ct ct' := by
  obtain ⟨m10, m11, m12, m13, m14, m15, m16, m17, m18, m19, m20, m21, m22⟩ := hM
  exact ⟨_, hR.set m18 _, ⟨(by rw [xup_ne _ _ (tg (by decide))]; exact m10), (by rw [xup_ne _ _ (tg (by decide))]; exact m11), (by rw [xup_ne _ _ (tg (by decide))]; exact m12), (by rw [xup_ne _ _ (tg (by decide))]; exact m13), (by rw [xup_ne _ _ (tg (by decide))]; exact m14), (by rw [xup_ne _ _ (tg (by decide))]; exact m15), (by rw [xup_ne _ _ (tg (by decide))]; exact m16), (by rw [xup_ne _ _ (tg (by decide))]; exact m17), (xup_self _ _ _), (by rw [xup_ne _ _ (tg (by decide))]; exact m19), (by rw [xup_ne _ _ (tg (by decide))]; exact m20), (by rw [xup_ne _ _ (tg (by decide))]; exact m21), (by rw [xup_ne _ _ (tg (by decide))]; exact m22)⟩, Fm_set (by decide) (by decide)⟩
theorem mR_gR (hR : xRp w ad ct) (hM : mR E ad ct H G) (f : Nat → Int32) : ∃ ct', xRp (va_up w (ad (19, 0, 0)) (some (xcI (E.1 1) 301 f))) ad ct' ∧ mR E ad ct' H (sgR G f) ∧ Fm ct ct' := by
  obtain ⟨m10, m11, m12, m13, m14, m15, m16, m17, m18, m19, m20, m21, m22⟩ := hM
  exact ⟨_, hR.set m19 _, ⟨(by rw [xup_ne _ _ (tg (by decide))]; exact m10), (by rw [xup_ne _ _ (tg (by decide))]; exact m11), (by rw [xup_ne _ _ (tg (by decide))]; exact m12), (by rw [xup_ne _ _ (tg (by decide))]; exact m13), (by rw [xup_ne _ _ (tg (by decide))]; exact m14), (by rw [xup_ne _ _ (tg (by decide))]; exact m15), (by rw [xup_ne _ _ (tg (by decide))]; exact m16), (by rw [xup_ne _ _ (tg (by decide))]; exact m17), (by rw [xup_ne _ _ (tg (by decide))]; exact m18), (xup_self _ _ _), (by rw [xup_ne _ _ (tg (by decide))]; exact m20), (by rw [xup_ne _ _ (tg (by decide))]; exact m21), (by rw [xup_ne _ _ (tg (by decide))]; exact m22)⟩, Fm_set (by decide) (by decide)⟩
theorem mR_gA (hR : xRp w ad ct) (hM : mR E ad ct H G) (f : Nat → Int32) : ∃ ct', xRp (va_up w (ad (20, 0, 0)) (some (xcI (E.1 1) 3612 f))) ad ct' ∧ mR E ad ct' H (sgA G f) ∧ Fm ct ct' := by
  obtain ⟨m10, m11, m12, m13, m14, m15, m16, m17, m18, m19, m20, m21, m22⟩ := hM
  exact ⟨_, hR.set m20 _, ⟨(by rw [xup_ne _ _ (tg (by decide))]; exact m10), (by rw [xup_ne _ _ (tg (by decide))]; exact m11), (by rw [xup_ne _ _ (tg (by decide))]; exact m12), (by rw [xup_ne _ _ (tg (by decide))]; exact m13), (by rw [xup_ne _ _ (tg (by decide))]; exact m14), (by rw [xup_ne _ _ (tg (by decide))]; exact m15), (by rw [xup_ne _ _ (tg (by decide))]; exact m16), (by rw [xup_ne _ _ (tg (by decide))]; exact m17), (by rw [xup_ne _ _ (tg (by decide))]; exact m18), (by rw [xup_ne _ _ (tg (by decide))]; exact m19), (xup_self _ _ _), (by rw [xup_ne _ _ (tg (by decide))]; exact m21), (by rw [xup_ne _ _ (tg (by decide))]; exact m22)⟩, Fm_set (by decide) (by decide)⟩
theorem mR_gC (hR : xRp w ad ct) (hM : mR E ad ct H G) (f : Nat → Int64) : ∃ ct', xRp (va_up w (ad (21, 0, 0)) (some (xcL (E.1 2) 3612 f))) ad ct' ∧ mR E ad ct' H (sgC G f) ∧ Fm ct ct' := by
  obtain ⟨m10, m11, m12, m13, m14, m15, m16, m17, m18, m19, m20, m21, m22⟩ := hM
  exact ⟨_, hR.set m21 _, ⟨(by rw [xup_ne _ _ (tg (by decide))]; exact m10), (by rw [xup_ne _ _ (tg (by decide))]; exact m11), (by rw [xup_ne _ _ (tg (by decide))]; exact m12), (by rw [xup_ne _ _ (tg (by decide))]; exact m13), (by rw [xup_ne _ _ (tg (by decide))]; exact m14), (by rw [xup_ne _ _ (tg (by decide))]; exact m15), (by rw [xup_ne _ _ (tg (by decide))]; exact m16), (by rw [xup_ne _ _ (tg (by decide))]; exact m17), (by rw [xup_ne _ _ (tg (by decide))]; exact m18), (by rw [xup_ne _ _ (tg (by decide))]; exact m19), (by rw [xup_ne _ _ (tg (by decide))]; exact m20), (xup_self _ _ _), (by rw [xup_ne _ _ (tg (by decide))]; exact m22)⟩, Fm_set (by decide) (by decide)⟩
theorem mR_gQ (hR : xRp w ad ct) (hM : mR E ad ct H G) (f : Nat → Int32) : ∃ ct', xRp (va_up w (ad (22, 0, 0)) (some (xcI (E.1 1) 300 f))) ad ct' ∧ mR E ad ct' H (sgQ G f) ∧ Fm ct ct' := by
  obtain ⟨m10, m11, m12, m13, m14, m15, m16, m17, m18, m19, m20, m21, m22⟩ := hM
  exact ⟨_, hR.set m22 _, ⟨(by rw [xup_ne _ _ (tg (by decide))]; exact m10), (by rw [xup_ne _ _ (tg (by decide))]; exact m11), (by rw [xup_ne _ _ (tg (by decide))]; exact m12), (by rw [xup_ne _ _ (tg (by decide))]; exact m13), (by rw [xup_ne _ _ (tg (by decide))]; exact m14), (by rw [xup_ne _ _ (tg (by decide))]; exact m15), (by rw [xup_ne _ _ (tg (by decide))]; exact m16), (by rw [xup_ne _ _ (tg (by decide))]; exact m17), (by rw [xup_ne _ _ (tg (by decide))]; exact m18), (by rw [xup_ne _ _ (tg (by decide))]; exact m19), (by rw [xup_ne _ _ (tg (by decide))]; exact m20), (by rw [xup_ne _ _ (tg (by decide))]; exact m21), (xup_self _ _ _)⟩, Fm_set (by decide) (by decide)⟩
end MOR
/-- the head, as the state says it -/
def hd (x : xSt) (th : Int32) : xH := (th, sA x, sB x, sP x, (nI (sO x)).toInt64 - 1)
def mS (x : xSt) (G : xG) : Prop :=
  (∀ i, i < sA x → gO G (i + 1) = aO x i ∧ gK G (i + 1) = aK x i ∧ gL G (i + 1) = (aL x i).toInt64) ∧
  (∀ i, sA x ≤ i → gL G (i + 1) = 0) ∧
  (∀ j, j < sB x → gS G (j + 1) = nI (bS x j) ∧ gD G (j + 1) = (nI (bD x j)).toInt64 ∧ gP G (j + 1) = b2i (bF x j) ∧ gB G (j + 1) = b2i (bK x j) ∧ gR G (j + 1) = nI (bC x j) ∧ ∀ k, k < bC x j → gA G (12 * (j + 1) + k) = nI (rA x j k + 1) ∧ gC G (12 * (j + 1) + k) = rV x j k) ∧
  (∀ j, sB x ≤ j → gP G (j + 1) = 0 ∧ gF G (j + 1) = 0 ∧ gB G (j + 1) = 0 ∧ gR G (j + 1) = 0) ∧
  (∀ k, k < sP x → gQ G k = nI (pB x k + 1))
/-- a batch that is not yet ended is not free of limits -/
def mF0 (x : xSt) (G : xG) : Prop := ∀ j, j < sB x → bS x j = 0 → gF G (j + 1) = 0
def mOk (x : xSt) : Prop := sOk x ∧ (∀ k, k < sP x → pB x k < sB x) ∧ ∀ j, j < sB x → ∀ k, k < bC x j → rA x j k < sA x
def mbF (x : xSt) (a : Nat) (day : Int64) (k : Nat) : Int64 := if day < (nI (bD x (pB x k))).toInt64 then 0 else part x (pB x k) a
def mTot (x : xSt) (a : Nat) : Int64 := sumL (fun k => part x (pB x k) a) (sP x)
theorem ix12 (j k : Nat) : (12 * nI (j + 1)) + nI k = nI (12 * (j + 1) + k) := by
  rw [show (12 : Int32) = nI 12 from rfl, pk_mul, nI_add]
section MOD
variable {E : xE_T} {w : xw_T} {ad : xR → Nat} {ct : xR → Option va_E} {x : xSt} {G : xG} {th : Int32}
theorem mo_isB {post : Int32 → xw_T → Prop} (hR : xRp w ad ct) (hM : mR E ad ct (hd x th) G) (hO : mOk x) (p : Int32) (h0 : num p (sB x) = none → post 0 w) (h1 : ∀ j, num p (sB x) = some j → j < sB x → p = nI (j + 1) → post 1 w) : wp_MO_isBatch E post w (ad (10, 0, 0)) p := by
  have m10 := (mR_at hR hM).1
  have hB := hO.1.2.1
  have e1 : (1 : Int64).toInt = 1 := rfl
  have eB : ((nI (sB x)).toInt64).toInt = (sB x : Int) := by rw [Int32.toInt_toInt64, nI_toInt (by omega)]
  refine ⟨_, gi_of m10 rfl, mo_isIn _ _ _ ⟨b2i_nar _, ?_⟩⟩
  rcases num_cases p (n := sB x) (by omega) with ⟨q1, q2⟩ | ⟨q1, q2, q3⟩ | ⟨j, hj, q1, q2⟩
  · rw [decide_eq_false (fun z => ?_)]
    · exact h0 q2
    · have a1 := Int64.le_iff_toInt_le.mp z.1
      have a2 := Int32.lt_iff_toInt_lt.mp q1
      have a3 : (1 : Int32).toInt = 1 := rfl
      rw [Int32.toInt_toInt64] at a1
      omega
  · rw [decide_eq_false (fun z => ?_)]
    · exact h0 q3
    · have a1 := Int64.le_iff_toInt_le.mp z.2
      have a2 := Int32.lt_iff_toInt_lt.mp q2
      rw [nI_toInt (by omega)] at a2
      rw [Int32.toInt_toInt64, show (hd x th).2.2.1 = sB x from rfl, eB] at a1
      omega
  · have hh : 1 ≤ p.toInt64 ∧ p.toInt64 ≤ (nI (hd x th).2.2.1).toInt64 := by
      refine ⟨Int64.le_iff_toInt_le.mpr ?_, Int64.le_iff_toInt_le.mpr ?_⟩
      · rw [q1, Int32.toInt_toInt64, nI_toInt (by omega), e1]; omega
      · rw [q1, Int32.toInt_toInt64, nI_toInt (by omega), show (hd x th).2.2.1 = sB x from rfl, eB]; omega
    rw [decide_eq_true hh]
    exact h1 j q2 hj q1
theorem mo_isA {post : Int32 → xw_T → Prop} (hR : xRp w ad ct) (hM : mR E ad ct (hd x th) G) (hO : mOk x) (p : Int32) (h0 : num p (sA x) = none → post 0 w) (h1 : ∀ j, num p (sA x) = some j → j < sA x → p = nI (j + 1) → post 1 w) : wp_MO_isAccount E post w (ad (10, 0, 0)) p := by
  have m10 := (mR_at hR hM).1
  have hB := hO.1.1
  have e1 : (1 : Int64).toInt = 1 := rfl
  have eB : ((nI (sA x)).toInt64).toInt = (sA x : Int) := by rw [Int32.toInt_toInt64, nI_toInt (by omega)]
  refine ⟨_, gi_of m10 rfl, mo_isIn _ _ _ ⟨b2i_nar _, ?_⟩⟩
  rcases num_cases p (n := sA x) (by omega) with ⟨q1, q2⟩ | ⟨q1, q2, q3⟩ | ⟨j, hj, q1, q2⟩
  · rw [decide_eq_false (fun z => ?_)]
    · exact h0 q2
    · have a1 := Int64.le_iff_toInt_le.mp z.1
      have a2 := Int32.lt_iff_toInt_lt.mp q1
      have a3 : (1 : Int32).toInt = 1 := rfl
      rw [Int32.toInt_toInt64] at a1
      omega
  · rw [decide_eq_false (fun z => ?_)]
    · exact h0 q3
    · have a1 := Int64.le_iff_toInt_le.mp z.2
      have a2 := Int32.lt_iff_toInt_lt.mp q2
      rw [nI_toInt (by omega)] at a2
      rw [Int32.toInt_toInt64, show (hd x th).2.1 = sA x from rfl, eB] at a1
      omega
  · have hh : 1 ≤ p.toInt64 ∧ p.toInt64 ≤ (nI (hd x th).2.1).toInt64 := by
      refine ⟨Int64.le_iff_toInt_le.mpr ?_, Int64.le_iff_toInt_le.mpr ?_⟩
      · rw [q1, Int32.toInt_toInt64, nI_toInt (by omega), e1]; omega
      · rw [q1, Int32.toInt_toInt64, nI_toInt (by omega), show (hd x th).2.1 = sA x from rfl, eB]; omega
    rw [decide_eq_true hh]
    exact h1 j q2 hj q1
theorem mo_part {post : Int64 → xw_T → Prop} (hR : xRp w ad ct) (hM : mR E ad ct (hd x th) G) (hO : mOk x) (hS : mS x G) {j a n : Nat} (hj : j < sB x) (ha : a < sA x) (hn : n ≤ bC x j) (h : post (sumL (rowF x j a) n) w) : wp_MO_part E post w (ad (10, 0, 0)) (nI (j + 1)) (nI n) (nI (a + 1)) := by
  obtain ⟨m10, m11, m12, m13, m14, m15, m16, m17, m18, m19, m20, m21, m22⟩ := mR_at hR hM
  have hA := hO.1.1
  have hB := hO.1.2.1
  have hc := (hO.1.2.2.2.2.2 j hj).1
  have key : ∀ d i, i + d = n → wl_MO_part_6 E post (d + 1) w (ad (10, 0, 0)) (nI (j + 1)) (nI n) (nI (a + 1)) (sumL (rowF x j a) i) (nI i) := by
    intro d
    induction d with
    | zero =>
      intro i hi
      have hi : i = n := by omega
      subst hi
      exact ⟨fun _ => h, fun q => absurd (nI_le (Nat.le_refl _) (by omega)) q⟩
    | succ d ih =>
      intro i hi
      have h9 := ih (i + 1) (by omega)
      have hi2 : i < bC x j := by omega
      have hr := (hS.2.2.1 j hj).2.2.2.2.2 i hi2
      have hlt := hO.2.2 j hj i hi2
      refine ⟨fun q => absurd q (nI_ge (by omega) (by omega)), fun _ => ⟨_, gr_of m10 rfl, _, rfl, _, _, xaI_of m20, ?_⟩⟩
      rw [ix12, nI_clamp (by omega), hr.1]
      refine ⟨vp_in_nI (by omega) (by omega), fun q => ?_, fun q => ⟨_, gr_of m10 rfl, _, rfl, _, _, xaL_of m21, vp_in_nI (by omega) (by omega), ?_⟩⟩
      · have e : sumL (rowF x j a) (i + 1) = sumL (rowF x j a) i := by
          show sumL (rowF x j a) i + rowF x j a i = _
          rw [rowF, if_neg (fun z => q (by rw [z])), Int64.add_zero]
        rw [e] at h9
        rw [nI_1]; exact h9
      · have e : sumL (rowF x j a) (i + 1) = sumL (rowF x j a) i + rV x j i := by
          show sumL (rowF x j a) i + rowF x j a i = _
          rw [rowF, if_pos (by have := (nI_eq (by omega) (by omega)).mp q; omega)]
        rw [e] at h9
        rw [hr.2, nI_1]; exact h9
  exact ⟨_, key n 0 (by omega)⟩
theorem mo_bal {post : Int64 → xw_T → Prop} (hR : xRp w ad ct) (hM : mR E ad ct (hd x th) G) (hO : mOk x) (hS : mS x G) {a : Nat} (ha : a < sA x) (day : Int64) (h : post (sumL (mbF x a day) (sP x)) w) : wp_MO_balanceOf E post w (ad (10, 0, 0)) (nI (a + 1)) day := by
  obtain ⟨m10, m11, m12, m13, m14, m15, m16, m17, m18, m19, m20, m21, m22⟩ := mR_at hR hM
  have hB := hO.1.2.1
  have hP := hO.1.2.2.1
  have key : ∀ d i, i + d = sP x → wl_MO_balanceOf_6 E post (d + 1) w (ad (10, 0, 0)) (nI (a + 1)) day (sumL (mbF x a day) i) (nI i) := by
    intro d
    induction d with
    | zero =>
      intro i hi
      have hi : i = sP x := by omega
      subst hi
      exact ⟨_, gi_of m10 rfl, fun _ => h, fun q => absurd (nI_le (Nat.le_refl _) (by show sP x < _; omega)) q⟩
    | succ d ih =>
      intro i hi
      have h9 := ih (i + 1) (by omega)
      have hi2 : i < sP x := by omega
      have hb := hO.2.1 i hi2
      have hq := hS.2.2.2.2 i hi2
      have hs := hS.2.2.1 (pB x i) hb
      refine ⟨_, gi_of m10 rfl, fun q => absurd q (nI_ge hi2 (by show sP x < _; omega)), fun _ => ⟨_, gr_of m10 rfl, _, rfl, _, _, xaI_of m22, ?_⟩⟩
      rw [nI_clamp (by omega), hq, nI_clamp (by omega)]
      refine ⟨vp_in_nI (by omega) (by omega), _, gr_of m10 rfl, _, rfl, _, _, xaL_of m15, vp_in_nI (by omega) (by omega), ?_⟩
      rw [hs.2.1]
      refine ⟨fun q => ?_, fun q => ⟨_, gr_of m10 rfl, _, rfl, _, _, xaI_of m19, vp_in_nI (by omega) (by omega), ⟨_, m10⟩, ?_⟩⟩
      · have e : sumL (mbF x a day) (i + 1) = sumL (mbF x a day) i := by
          show sumL (mbF x a day) i + mbF x a day i = _
          rw [mbF, if_pos q, Int64.add_zero]
        rw [e] at h9
        rw [nI_1]; exact h9
      · rw [hs.2.2.2.2.1]
        refine mo_part hR hM hO hS hb ha (Nat.le_refl _) ?_
        have e : sumL (mbF x a day) (i + 1) = sumL (mbF x a day) i + sumL (rowF x (pB x i) a) (bC x (pB x i)) := by
          show sumL (mbF x a day) i + mbF x a day i = _
          rw [mbF, if_neg q]; rfl
        rw [e] at h9
        rw [nI_1]; exact h9
  exact ⟨_, key (sP x) 0 (by omega)⟩
theorem sumL_congr {f g : Nat → Int64} {n : Nat} (h : ∀ i, i < n → f i = g i) : sumL f n = sumL g n := by
  induction n with
  | zero => rfl
  | succ n ih => show sumL f n + f n = sumL g n + g n; rw [ih (fun i hi => h i (by omega)), h n (by omega)]
theorem ever (d : Int64) : ¬ (9223372036854775807 : Int64) < d := by
  intro h
  have h := Int64.lt_iff_toInt_lt.mp h
  have e : (9223372036854775807 : Int64).toInt = 9223372036854775807 := rfl
  have := Int64.toInt_lt d
  omega
theorem mo_ever {post : Int64 → xw_T → Prop} (hR : xRp w ad ct) (hM : mR E ad ct (hd x th) G) (hO : mOk x) (hS : mS x G) {a : Nat} (ha : a < sA x) (h : post (mTot x a) w) : wp_MO_balanceOf E post w (ad (10, 0, 0)) (nI (a + 1)) 9223372036854775807 := by
  refine mo_bal hR hM hO hS ha _ ?_
  have e : sumL (mbF x a 9223372036854775807) (sP x) = mTot x a := sumL_congr (fun i _ => if_neg (ever _))
  rw [e]; exact h
end MOD
