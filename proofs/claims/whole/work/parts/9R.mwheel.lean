/-! a wheel's line, for the model -/
def MJr (w : ab_W) (K0 : KA) (a0 b0 c0 : Nat) (S : KS) : Prop := (∃ f, w 93 = aI 2 f ∧ f 0 = nI a0 ∧ f 1 = nI (sR S)) ∧ (∃ f, w 94 = aI 2 f ∧ f 0 = nI b0 ∧ f 1 = nI (sW S)) ∧ (∃ f, w 95 = aI 2 f ∧ f 0 = nI c0 ∧ f 1 = nI (sP S)) ∧ (∃ f, w 96 = aI 8 f ∧ ∀ i, i < sR S → f (4 + i) = nI (sRt S i)) ∧ (∃ f, w 97 = aI 24 f ∧ ∀ i, i < sW S → f (12 + i) = nI (sWt S i)) ∧ (∃ f, w 98 = aI 24 f ∧ (∀ v, v < b0 → BsM K0 v (f v)) ∧ ∀ v, v < sW S → BsM (sK S) v (f (12 + v))) ∧ (∃ f, w 99 = aI 24 f ∧ (∀ v, v < b0 → f v = kSp K0 v) ∧ ∀ v, v < sW S → f (12 + v) = kSp (sK S) v) ∧ (∃ f, w 100 = aI 24 f ∧ ∀ v, v < sW S → f (12 + v) = nI (kHt (sK S) v)) ∧ (∃ f, w 101 = aI 16 f ∧ (∀ v, v < c0 → f v = nI (kPw K0 v)) ∧ ∀ v, v < sP S → f (8 + v) = nI (kPw (sK S) v)) ∧ (∃ f, w 102 = aI 16 f ∧ (∀ v, v < c0 → f v = kPo K0 v) ∧ ∀ v, v < sP S → f (8 + v) = kPo (sK S) v) ∧ (∃ f, w 103 = aJ 24 f ∧ (∀ v, v < b0 → f v = (kUp K0 v).toInt64) ∧ ∀ v, v < sW S → f (12 + v) = (kUp (sK S) v).toInt64) ∧ (∃ f, w 104 = aJ 24 f ∧ (∀ v, v < b0 → f v = (kLo K0 v).toInt64) ∧ ∀ v, v < sW S → f (12 + v) = (kLo (sK S) v).toInt64) ∧ (∃ f, w 105 = aJ 24 f ∧ (∀ v, v < b0 → f v = (kSu K0 v).toInt64) ∧ ∀ v, v < sW S → f (12 + v) = (kSu (sK S) v).toInt64) ∧ ∃ f, w 106 = aJ 24 f ∧ (∀ v, v < b0 → f v = (kSl K0 v).toInt64) ∧ ∀ v, v < sW S → f (12 + v) = (kSl (sK S) v).toInt64
theorem MJr.sh {w : ab_W} {K0 : KA} {a0 b0 c0 : Nat} {S : KS} (h : MJr w K0 a0 b0 c0 S) (h92 : ∃ f, w 92 = aJ 24 f) : MKs w K0 a0 b0 c0 := by
  obtain ⟨⟨f3, h3, l3, _⟩, ⟨f4, h4, l4, _⟩, ⟨f5, h5, l5, _⟩, ⟨f6, h6, _⟩, ⟨f7, h7, _⟩, ⟨f8, h8, l8, _⟩, ⟨f9, h9, l9, _⟩, ⟨g0, i0, _⟩, ⟨g1, i1, l1, _⟩, ⟨g2, i2, m2, _⟩, ⟨g3, i3, m3, _⟩, ⟨g4, i4, m4, _⟩, ⟨g5, i5, m5, _⟩, ⟨g6, i6, m6, _⟩⟩ := h
  exact ⟨⟨⟨f3, h3, l3⟩, ⟨f4, h4, l4⟩, ⟨f5, h5, l5⟩, ⟨f8, h8, l8⟩, ⟨f9, h9, l9⟩, ⟨g1, i1, l1⟩, ⟨g2, i2, m2⟩, ⟨g3, i3, m3⟩, ⟨g4, i4, m4⟩, ⟨g5, i5, m5⟩, ⟨g6, i6, m6⟩⟩, h92, ⟨f6, h6⟩, ⟨f7, h7⟩, ⟨g0, i0⟩⟩
theorem MJr.u90 {w : ab_W} {K0 : KA} {a0 b0 c0 : Nat} {S : KS} {x : va_E} (h : MJr w K0 a0 b0 c0 S) : MJr (va_up w 90 x) K0 a0 b0 c0 S := by
  obtain ⟨m93, m94, m95, m96, m97, m98, m99, m100, m101, m102, m103, m104, m105, m106⟩ := h
  exact ⟨m93, m94, m95, m96, m97, m98, m99, m100, m101, m102, m103, m104, m105, m106⟩
theorem MJr.u92 {w : ab_W} {K0 : KA} {a0 b0 c0 : Nat} {S : KS} {x : va_E} (h : MJr w K0 a0 b0 c0 S) : MJr (va_up w 92 x) K0 a0 b0 c0 S := by
  obtain ⟨m93, m94, m95, m96, m97, m98, m99, m100, m101, m102, m103, m104, m105, m106⟩ := h
  exact ⟨m93, m94, m95, m96, m97, m98, m99, m100, m101, m102, m103, m104, m105, m106⟩
theorem MJr.u97 {w : ab_W} {K0 : KA} {a0 b0 c0 : Nat} {S : KS} {f : Nat → Int32} {x : Int32} (h : MJr w K0 a0 b0 c0 S) (hk : w 97 = aI 24 f) : MJr (va_up w 97 (aI 24 (upd f (12 + sW S) x))) K0 a0 b0 c0 S := by
  obtain ⟨m93, m94, m95, m96, m97, m98, m99, m100, m101, m102, m103, m104, m105, m106⟩ := h
  obtain ⟨g, q1, q2⟩ := m97
  have e : aI 24 g = aI 24 f := q1.symm.trans hk
  cases e
  exact ⟨m93, m94, m95, m96, ⟨_, rfl, fun v hv => by rw [upd_ne (by omega)]; exact q2 v hv⟩, m98, m99, m100, m101, m102, m103, m104, m105, m106⟩
theorem MJr.u100 {w : ab_W} {K0 : KA} {a0 b0 c0 : Nat} {S : KS} {f : Nat → Int32} {x : Int32} (h : MJr w K0 a0 b0 c0 S) (hk : w 100 = aI 24 f) : MJr (va_up w 100 (aI 24 (upd f (12 + sW S) x))) K0 a0 b0 c0 S := by
  obtain ⟨m93, m94, m95, m96, m97, m98, m99, m100, m101, m102, m103, m104, m105, m106⟩ := h
  obtain ⟨g, q1, q2⟩ := m100
  have e : aI 24 g = aI 24 f := q1.symm.trans hk
  cases e
  exact ⟨m93, m94, m95, m96, m97, m98, m99, ⟨_, rfl, fun v hv => by rw [upd_ne (by omega)]; exact q2 v hv⟩, m101, m102, m103, m104, m105, m106⟩
theorem MJr.u98 {w : ab_W} {K0 : KA} {a0 b0 c0 : Nat} {S : KS} {f : Nat → Int32} {x : Int32} (h : MJr w K0 a0 b0 c0 S) (hb : b0 ≤ 12) (hk : w 98 = aI 24 f) : MJr (va_up w 98 (aI 24 (upd f (12 + sW S) x))) K0 a0 b0 c0 S := by
  obtain ⟨m93, m94, m95, m96, m97, m98, m99, m100, m101, m102, m103, m104, m105, m106⟩ := h
  obtain ⟨g, q1, q2, q3⟩ := m98
  have e : aI 24 g = aI 24 f := q1.symm.trans hk
  cases e
  exact ⟨m93, m94, m95, m96, m97, ⟨_, rfl, fun v hv => by rw [upd_ne (by omega)]; exact q2 v hv, fun v hv => by rw [upd_ne (by omega)]; exact q3 v hv⟩, m99, m100, m101, m102, m103, m104, m105, m106⟩
theorem MJr.u99 {w : ab_W} {K0 : KA} {a0 b0 c0 : Nat} {S : KS} {f : Nat → Int32} {x : Int32} (h : MJr w K0 a0 b0 c0 S) (hb : b0 ≤ 12) (hk : w 99 = aI 24 f) : MJr (va_up w 99 (aI 24 (upd f (12 + sW S) x))) K0 a0 b0 c0 S := by
  obtain ⟨m93, m94, m95, m96, m97, m98, m99, m100, m101, m102, m103, m104, m105, m106⟩ := h
  obtain ⟨g, q1, q2, q3⟩ := m99
  have e : aI 24 g = aI 24 f := q1.symm.trans hk
  cases e
  exact ⟨m93, m94, m95, m96, m97, m98, ⟨_, rfl, fun v hv => by rw [upd_ne (by omega)]; exact q2 v hv, fun v hv => by rw [upd_ne (by omega)]; exact q3 v hv⟩, m100, m101, m102, m103, m104, m105, m106⟩
theorem MJr.u103 {w : ab_W} {K0 : KA} {a0 b0 c0 : Nat} {S : KS} {f : Nat → Int64} {x : Int64} (h : MJr w K0 a0 b0 c0 S) (hb : b0 ≤ 12) (hk : w 103 = aJ 24 f) : MJr (va_up w 103 (aJ 24 (vp_updL f (12 + sW S) x))) K0 a0 b0 c0 S := by
  obtain ⟨m93, m94, m95, m96, m97, m98, m99, m100, m101, m102, m103, m104, m105, m106⟩ := h
  obtain ⟨g, q1, q2, q3⟩ := m103
  have e : aJ 24 g = aJ 24 f := q1.symm.trans hk
  cases e
  exact ⟨m93, m94, m95, m96, m97, m98, m99, m100, m101, m102, ⟨_, rfl, fun v hv => by rw [pk_uLn (by omega)]; exact q2 v hv, fun v hv => by rw [pk_uLn (by omega)]; exact q3 v hv⟩, m104, m105, m106⟩
theorem MJr.u104 {w : ab_W} {K0 : KA} {a0 b0 c0 : Nat} {S : KS} {f : Nat → Int64} {x : Int64} (h : MJr w K0 a0 b0 c0 S) (hb : b0 ≤ 12) (hk : w 104 = aJ 24 f) : MJr (va_up w 104 (aJ 24 (vp_updL f (12 + sW S) x))) K0 a0 b0 c0 S := by
  obtain ⟨m93, m94, m95, m96, m97, m98, m99, m100, m101, m102, m103, m104, m105, m106⟩ := h
  obtain ⟨g, q1, q2, q3⟩ := m104
  have e : aJ 24 g = aJ 24 f := q1.symm.trans hk
  cases e
  exact ⟨m93, m94, m95, m96, m97, m98, m99, m100, m101, m102, m103, ⟨_, rfl, fun v hv => by rw [pk_uLn (by omega)]; exact q2 v hv, fun v hv => by rw [pk_uLn (by omega)]; exact q3 v hv⟩, m105, m106⟩
theorem MJr.u105 {w : ab_W} {K0 : KA} {a0 b0 c0 : Nat} {S : KS} {f : Nat → Int64} {x : Int64} (h : MJr w K0 a0 b0 c0 S) (hb : b0 ≤ 12) (hk : w 105 = aJ 24 f) : MJr (va_up w 105 (aJ 24 (vp_updL f (12 + sW S) x))) K0 a0 b0 c0 S := by
  obtain ⟨m93, m94, m95, m96, m97, m98, m99, m100, m101, m102, m103, m104, m105, m106⟩ := h
  obtain ⟨g, q1, q2, q3⟩ := m105
  have e : aJ 24 g = aJ 24 f := q1.symm.trans hk
  cases e
  exact ⟨m93, m94, m95, m96, m97, m98, m99, m100, m101, m102, m103, m104, ⟨_, rfl, fun v hv => by rw [pk_uLn (by omega)]; exact q2 v hv, fun v hv => by rw [pk_uLn (by omega)]; exact q3 v hv⟩, m106⟩
theorem MJr.u106 {w : ab_W} {K0 : KA} {a0 b0 c0 : Nat} {S : KS} {f : Nat → Int64} {x : Int64} (h : MJr w K0 a0 b0 c0 S) (hb : b0 ≤ 12) (hk : w 106 = aJ 24 f) : MJr (va_up w 106 (aJ 24 (vp_updL f (12 + sW S) x))) K0 a0 b0 c0 S := by
  obtain ⟨m93, m94, m95, m96, m97, m98, m99, m100, m101, m102, m103, m104, m105, m106⟩ := h
  obtain ⟨g, q1, q2, q3⟩ := m106
  have e : aJ 24 g = aJ 24 f := q1.symm.trans hk
  cases e
  exact ⟨m93, m94, m95, m96, m97, m98, m99, m100, m101, m102, m103, m104, m105, ⟨_, rfl, fun v hv => by rw [pk_uLn (by omega)]; exact q2 v hv, fun v hv => by rw [pk_uLn (by omega)]; exact q3 v hv⟩⟩
def bsN (o : Option (Nat × Nat)) : Nat := if soI o = 0 then soJ o else 4 + soJ o
def onR (o : Option (Nat × Nat)) : Bool := decide (soI o = 0)
theorem aI_inj {n : Nat} {f g : Nat → Int32} {w : ab_W} {k : Nat} (h : w k = aI n f) (h2 : w k = aI n g) : f = g := by
  have e : aI n f = aI n g := h.symm.trans h2
  cases e
  rfl
theorem aJ_inj {n : Nat} {f g : Nat → Int64} {w : ab_W} {k : Nat} (h : w k = aJ n f) (h2 : w k = aJ n g) : f = g := by
  have e : aJ n f = aJ n g := h.symm.trans h2
  cases e
  rfl
theorem nw_of {α β : Type} {f : Nat → β} {g : Nat → α} {F : α → β} {o v : Nat} {y : α} (h : ∀ i, i < v → f (o + i) = F (g i)) (hx : f (o + v) = F y) : ∀ i, i < v + 1 → f (o + i) = F (va_up g v y i) := fun i hi => by
  by_cases e : i = v
  · rw [e, va_us, hx]
  · rw [va_un e]
    exact h i (by omega)
theorem MJ_adW {w : ab_W} {K0 : KA} {a0 b0 c0 c t lo : Nat} {S : KS} {i : Bool} {o : Option (Nat × Nat)} {u : Int} {f2 : Nat → Int64} {f4 f7 f8 f9 f10 : Nat → Int32} {g3 g4 g5 g6 : Nat → Int64} (h : MJr w K0 a0 b0 c0 S) (hX : (sX S o t i u lo).natAbs < 2 ^ 31) (hY : (sY S o t i u lo).natAbs < 2 ^ 31) (hb : BsOk S o) (hr : sR S ≤ 4) (h92 : w 92 = aJ 24 f2) (hN : NmM (adW S c 0 false none 0 1) f2) (h94 : w 94 = aI 2 f4) (h97 : w 97 = aI 24 f7) (e7 : f7 (12 + sW S) = nI t) (h98 : w 98 = aI 24 f8) (e8 : f8 (12 + sW S) = nI (bsN o)) (h99 : w 99 = aI 24 f9) (e9 : f9 (12 + sW S) = sSp S o t i) (h100 : w 100 = aI 24 f10) (e10 : f10 (12 + sW S) = nI (bH S o)) (h103 : w 103 = aJ 24 g3) (k3 : g3 (12 + sW S) = (Int32.ofInt (arU u lo)).toInt64) (h104 : w 104 = aJ 24 g4) (k4 : g4 (12 + sW S) = (nI (arL u lo)).toInt64) (h105 : w 105 = aJ 24 g5) (k5 : g5 (12 + sW S) = Int64.ofInt (sX S o t i u lo)) (h106 : w 106 = aJ 24 g6) (k6 : g6 (12 + sW S) = Int64.ofInt (sY S o t i u lo)) : MJ (va_up w 94 (aI 2 (upd f4 1 (nI (sW S) + nI 1)))) K0 a0 b0 c0 (adW S c t i o u lo) := by
  obtain ⟨m93, ⟨q4, n4, l4, v4⟩, m95, m96, ⟨q7, n7, v7⟩, ⟨q8, n8, l8, v8⟩, ⟨q9, n9, l9, v9⟩, ⟨q10, n10, v10⟩, m101, m102, ⟨r3, n13, l13, v13⟩, ⟨r4, n14, l14, v14⟩, ⟨r5, n15, l15, v15⟩, ⟨r6, n16, l16, v16⟩⟩ := h
  obtain rfl := aI_inj n4 h94
  obtain rfl := aI_inj n7 h97
  obtain rfl := aI_inj n8 h98
  obtain rfl := aI_inj n9 h99
  obtain rfl := aI_inj n10 h100
  obtain rfl := aJ_inj n13 h103
  obtain rfl := aJ_inj n14 h104
  obtain rfl := aJ_inj n15 h105
  obtain rfl := aJ_inj n16 h106
  refine ⟨⟨f2, h92, hN⟩, m93, ⟨_, rfl, by rw [upd_ne (by omega)]; exact l4, by rw [upd_at]; exact (nI_s (sW S)).symm⟩, m95, m96, ⟨q7, h97, nw_of (F := nI) v7 e7⟩, ⟨q8, h98, l8, fun v hv => ?_⟩, ⟨q9, h99, l9, nw_of (F := id) v9 e9⟩, ⟨q10, h100, nw_of (F := nI) v10 e10⟩, m101, m102, ⟨r3, h103, l13, nw_of (F := Int32.toInt64) v13 k3⟩, ⟨r4, h104, l14, nw_of (F := Int32.toInt64) v14 k4⟩, ⟨r5, h105, l15, nw_of (F := Int32.toInt64) v15 ?_⟩, ⟨r6, h106, l16, nw_of (F := Int32.toInt64) v16 ?_⟩⟩
  · have hv : v < sW S + 1 := hv
    show (∀ b, va_up (kBs (sK S)) (sW S) (bB o) v = some b → q8 (12 + v) = nI (4 + b)) ∧ (va_up (kBs (sK S)) (sW S) (bB o) v = none → ∃ r, r < 4 ∧ q8 (12 + v) = nI r)
    by_cases e : v = sW S
    · subst e
      rw [va_us, e8]
      unfold bB bsN
      rcases hb with ⟨b1, b2⟩ | ⟨b1, b2⟩
      · rw [if_pos b1, if_pos b1]
        exact ⟨fun b hb => (by cases hb), fun _ => ⟨_, by omega, rfl⟩⟩
      · rw [if_neg (by omega), if_neg (by omega)]
        exact ⟨fun b hb => by rw [Option.some.inj hb], fun hb => (by cases hb)⟩
    · rw [va_un e]
      exact v8 v (by omega)
  · rw [k5, i32_64, o32_i hX]
  · rw [k6, i32_64, o32_i hY]
