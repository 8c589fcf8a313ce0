/-! the model's kit while it is read -/
def BsM (K : KA) (v : Nat) (x : Int32) : Prop := (∀ b, kBs K v = some b → x = nI (4 + b)) ∧ (kBs K v = none → ∃ r, r < 4 ∧ x = nI r)
def MJ (w : ab_W) (K0 : KA) (a0 b0 c0 : Nat) (S : KS) : Prop := (∃ f, w 92 = aJ 24 f ∧ NmM S f) ∧ (∃ f, w 93 = aI 2 f ∧ f 0 = nI a0 ∧ f 1 = nI (sR S)) ∧ (∃ f, w 94 = aI 2 f ∧ f 0 = nI b0 ∧ f 1 = nI (sW S)) ∧ (∃ f, w 95 = aI 2 f ∧ f 0 = nI c0 ∧ f 1 = nI (sP S)) ∧ (∃ f, w 96 = aI 8 f ∧ ∀ i, i < sR S → f (4 + i) = nI (sRt S i)) ∧ (∃ f, w 97 = aI 24 f ∧ ∀ i, i < sW S → f (12 + i) = nI (sWt S i)) ∧ (∃ f, w 98 = aI 24 f ∧ (∀ v, v < b0 → BsM K0 v (f v)) ∧ ∀ v, v < sW S → BsM (sK S) v (f (12 + v))) ∧ (∃ f, w 99 = aI 24 f ∧ (∀ v, v < b0 → f v = kSp K0 v) ∧ ∀ v, v < sW S → f (12 + v) = kSp (sK S) v) ∧ (∃ f, w 100 = aI 24 f ∧ ∀ v, v < sW S → f (12 + v) = nI (kHt (sK S) v)) ∧ (∃ f, w 101 = aI 16 f ∧ (∀ v, v < c0 → f v = nI (kPw K0 v)) ∧ ∀ v, v < sP S → f (8 + v) = nI (kPw (sK S) v)) ∧ (∃ f, w 102 = aI 16 f ∧ (∀ v, v < c0 → f v = kPo K0 v) ∧ ∀ v, v < sP S → f (8 + v) = kPo (sK S) v) ∧ (∃ f, w 103 = aJ 24 f ∧ (∀ v, v < b0 → f v = (kUp K0 v).toInt64) ∧ ∀ v, v < sW S → f (12 + v) = (kUp (sK S) v).toInt64) ∧ (∃ f, w 104 = aJ 24 f ∧ (∀ v, v < b0 → f v = (kLo K0 v).toInt64) ∧ ∀ v, v < sW S → f (12 + v) = (kLo (sK S) v).toInt64) ∧ (∃ f, w 105 = aJ 24 f ∧ (∀ v, v < b0 → f v = (kSu K0 v).toInt64) ∧ ∀ v, v < sW S → f (12 + v) = (kSu (sK S) v).toInt64) ∧ ∃ f, w 106 = aJ 24 f ∧ (∀ v, v < b0 → f v = (kSl K0 v).toInt64) ∧ ∀ v, v < sW S → f (12 + v) = (kSl (sK S) v).toInt64
def MKs (w : ab_W) (K0 : KA) (a0 b0 c0 : Nat) : Prop := MKit w K0 a0 b0 c0 ∧ (∃ f, w 92 = aJ 24 f) ∧ (∃ f, w 96 = aI 8 f) ∧ (∃ f, w 97 = aI 24 f) ∧ ∃ f, w 100 = aI 24 f
theorem MJ.sh {w : ab_W} {K0 : KA} {a0 b0 c0 : Nat} {S : KS} (h : MJ w K0 a0 b0 c0 S) : MKs w K0 a0 b0 c0 := by
  obtain ⟨⟨f2, h2, _⟩, ⟨f3, h3, l3, _⟩, ⟨f4, h4, l4, _⟩, ⟨f5, h5, l5, _⟩, ⟨f6, h6, _⟩, ⟨f7, h7, _⟩, ⟨f8, h8, l8, _⟩, ⟨f9, h9, l9, _⟩, ⟨g0, i0, _⟩, ⟨g1, i1, l1, _⟩, ⟨g2, i2, m2, _⟩, ⟨g3, i3, m3, _⟩, ⟨g4, i4, m4, _⟩, ⟨g5, i5, m5, _⟩, ⟨g6, i6, m6, _⟩⟩ := h
  exact ⟨⟨⟨f3, h3, l3⟩, ⟨f4, h4, l4⟩, ⟨f5, h5, l5⟩, ⟨f8, h8, l8⟩, ⟨f9, h9, l9⟩, ⟨g1, i1, l1⟩, ⟨g2, i2, m2⟩, ⟨g3, i3, m3⟩, ⟨g4, i4, m4⟩, ⟨g5, i5, m5⟩, ⟨g6, i6, m6⟩⟩, ⟨f2, h2⟩, ⟨f6, h6⟩, ⟨f7, h7⟩, ⟨g0, i0⟩⟩
theorem upd_lo {f : Nat → Int32} {i v : Nat} {x : Int32} (h : v ≠ i) : upd f i x v = f v := upd_ne h
theorem MKs.u90 {w : ab_W} {K0 : KA} {a0 b0 c0 : Nat} {x : va_E} (h : MKs w K0 a0 b0 c0) : MKs (va_up w 90 x) K0 a0 b0 c0 := by
  obtain ⟨⟨k93, k94, k95, k98, k99, k101, k102, k103, k104, k105, k106⟩, s92, s96, s97, s100⟩ := h
  exact ⟨⟨k93, k94, k95, k98, k99, k101, k102, k103, k104, k105, k106⟩, s92, s96, s97, s100⟩
theorem MKs.u92 {w : ab_W} {K0 : KA} {a0 b0 c0 : Nat} {g : Nat → Int64} (h : MKs w K0 a0 b0 c0) : MKs (va_up w 92 (aJ 24 g)) K0 a0 b0 c0 := by
  obtain ⟨⟨k93, k94, k95, k98, k99, k101, k102, k103, k104, k105, k106⟩, s92, s96, s97, s100⟩ := h
  exact ⟨⟨k93, k94, k95, k98, k99, k101, k102, k103, k104, k105, k106⟩, ⟨_, rfl⟩, s96, s97, s100⟩
theorem MKs.u96 {w : ab_W} {K0 : KA} {a0 b0 c0 : Nat} {g : Nat → Int32} (h : MKs w K0 a0 b0 c0) : MKs (va_up w 96 (aI 8 g)) K0 a0 b0 c0 := by
  obtain ⟨⟨k93, k94, k95, k98, k99, k101, k102, k103, k104, k105, k106⟩, s92, s96, s97, s100⟩ := h
  exact ⟨⟨k93, k94, k95, k98, k99, k101, k102, k103, k104, k105, k106⟩, s92, ⟨_, rfl⟩, s97, s100⟩
theorem MKs.u97 {w : ab_W} {K0 : KA} {a0 b0 c0 : Nat} {g : Nat → Int32} (h : MKs w K0 a0 b0 c0) : MKs (va_up w 97 (aI 24 g)) K0 a0 b0 c0 := by
  obtain ⟨⟨k93, k94, k95, k98, k99, k101, k102, k103, k104, k105, k106⟩, s92, s96, s97, s100⟩ := h
  exact ⟨⟨k93, k94, k95, k98, k99, k101, k102, k103, k104, k105, k106⟩, s92, s96, ⟨_, rfl⟩, s100⟩
theorem MKs.u100 {w : ab_W} {K0 : KA} {a0 b0 c0 : Nat} {g : Nat → Int32} (h : MKs w K0 a0 b0 c0) : MKs (va_up w 100 (aI 24 g)) K0 a0 b0 c0 := by
  obtain ⟨⟨k93, k94, k95, k98, k99, k101, k102, k103, k104, k105, k106⟩, s92, s96, s97, s100⟩ := h
  exact ⟨⟨k93, k94, k95, k98, k99, k101, k102, k103, k104, k105, k106⟩, s92, s96, s97, ⟨_, rfl⟩⟩
theorem MKs.u93 {w : ab_W} {K0 : KA} {a0 b0 c0 : Nat} {f : Nat → Int32} {x : Int32} (h : MKs w K0 a0 b0 c0) (hk : w 93 = aI 2 f) : MKs (va_up w 93 (aI 2 (upd f 1 x))) K0 a0 b0 c0 := by
  obtain ⟨⟨k93, k94, k95, k98, k99, k101, k102, k103, k104, k105, k106⟩, s92, s96, s97, s100⟩ := h
  obtain ⟨g, q1, q2⟩ := k93
  have e : aI 2 g = aI 2 f := q1.symm.trans hk
  cases e
  exact ⟨⟨⟨_, rfl, q2⟩, k94, k95, k98, k99, k101, k102, k103, k104, k105, k106⟩, s92, s96, s97, s100⟩
theorem MKs.u94 {w : ab_W} {K0 : KA} {a0 b0 c0 : Nat} {f : Nat → Int32} {x : Int32} (h : MKs w K0 a0 b0 c0) (hk : w 94 = aI 2 f) : MKs (va_up w 94 (aI 2 (upd f 1 x))) K0 a0 b0 c0 := by
  obtain ⟨⟨k93, k94, k95, k98, k99, k101, k102, k103, k104, k105, k106⟩, s92, s96, s97, s100⟩ := h
  obtain ⟨g, q1, q2⟩ := k94
  have e : aI 2 g = aI 2 f := q1.symm.trans hk
  cases e
  exact ⟨⟨k93, ⟨_, rfl, q2⟩, k95, k98, k99, k101, k102, k103, k104, k105, k106⟩, s92, s96, s97, s100⟩
theorem MKs.u95 {w : ab_W} {K0 : KA} {a0 b0 c0 : Nat} {f : Nat → Int32} {x : Int32} (h : MKs w K0 a0 b0 c0) (hk : w 95 = aI 2 f) : MKs (va_up w 95 (aI 2 (upd f 1 x))) K0 a0 b0 c0 := by
  obtain ⟨⟨k93, k94, k95, k98, k99, k101, k102, k103, k104, k105, k106⟩, s92, s96, s97, s100⟩ := h
  obtain ⟨g, q1, q2⟩ := k95
  have e : aI 2 g = aI 2 f := q1.symm.trans hk
  cases e
  exact ⟨⟨k93, k94, ⟨_, rfl, q2⟩, k98, k99, k101, k102, k103, k104, k105, k106⟩, s92, s96, s97, s100⟩
theorem MKs.u98 {w : ab_W} {K0 : KA} {a0 b0 c0 : Nat} {f : Nat → Int32} {i : Nat} {x : Int32} (h : MKs w K0 a0 b0 c0) (hb : b0 ≤ 12) (hi : 12 ≤ i) (hk : w 98 = aI 24 f) : MKs (va_up w 98 (aI 24 (upd f i x))) K0 a0 b0 c0 := by
  obtain ⟨⟨k93, k94, k95, k98, k99, k101, k102, k103, k104, k105, k106⟩, s92, s96, s97, s100⟩ := h
  obtain ⟨g, q1, q2⟩ := k98
  have e : aI 24 g = aI 24 f := q1.symm.trans hk
  cases e
  exact ⟨⟨k93, k94, k95, ⟨_, rfl, fun v hv => by rw [upd_ne (by omega)]; exact q2 v hv⟩, k99, k101, k102, k103, k104, k105, k106⟩, s92, s96, s97, s100⟩
theorem MKs.u99 {w : ab_W} {K0 : KA} {a0 b0 c0 : Nat} {f : Nat → Int32} {i : Nat} {x : Int32} (h : MKs w K0 a0 b0 c0) (hb : b0 ≤ 12) (hi : 12 ≤ i) (hk : w 99 = aI 24 f) : MKs (va_up w 99 (aI 24 (upd f i x))) K0 a0 b0 c0 := by
  obtain ⟨⟨k93, k94, k95, k98, k99, k101, k102, k103, k104, k105, k106⟩, s92, s96, s97, s100⟩ := h
  obtain ⟨g, q1, q2⟩ := k99
  have e : aI 24 g = aI 24 f := q1.symm.trans hk
  cases e
  exact ⟨⟨k93, k94, k95, k98, ⟨_, rfl, fun v hv => by rw [upd_ne (by omega)]; exact q2 v hv⟩, k101, k102, k103, k104, k105, k106⟩, s92, s96, s97, s100⟩
theorem MKs.u101 {w : ab_W} {K0 : KA} {a0 b0 c0 : Nat} {f : Nat → Int32} {i : Nat} {x : Int32} (h : MKs w K0 a0 b0 c0) (hb : c0 ≤ 8) (hi : 8 ≤ i) (hk : w 101 = aI 16 f) : MKs (va_up w 101 (aI 16 (upd f i x))) K0 a0 b0 c0 := by
  obtain ⟨⟨k93, k94, k95, k98, k99, k101, k102, k103, k104, k105, k106⟩, s92, s96, s97, s100⟩ := h
  obtain ⟨g, q1, q2⟩ := k101
  have e : aI 16 g = aI 16 f := q1.symm.trans hk
  cases e
  exact ⟨⟨k93, k94, k95, k98, k99, ⟨_, rfl, fun v hv => by rw [upd_ne (by omega)]; exact q2 v hv⟩, k102, k103, k104, k105, k106⟩, s92, s96, s97, s100⟩
theorem MKs.u102 {w : ab_W} {K0 : KA} {a0 b0 c0 : Nat} {f : Nat → Int32} {i : Nat} {x : Int32} (h : MKs w K0 a0 b0 c0) (hb : c0 ≤ 8) (hi : 8 ≤ i) (hk : w 102 = aI 16 f) : MKs (va_up w 102 (aI 16 (upd f i x))) K0 a0 b0 c0 := by
  obtain ⟨⟨k93, k94, k95, k98, k99, k101, k102, k103, k104, k105, k106⟩, s92, s96, s97, s100⟩ := h
  obtain ⟨g, q1, q2⟩ := k102
  have e : aI 16 g = aI 16 f := q1.symm.trans hk
  cases e
  exact ⟨⟨k93, k94, k95, k98, k99, k101, ⟨_, rfl, fun v hv => by rw [upd_ne (by omega)]; exact q2 v hv⟩, k103, k104, k105, k106⟩, s92, s96, s97, s100⟩
theorem MKs.u103 {w : ab_W} {K0 : KA} {a0 b0 c0 : Nat} {f : Nat → Int64} {i : Nat} {x : Int64} (h : MKs w K0 a0 b0 c0) (hb : b0 ≤ 12) (hi : 12 ≤ i) (hk : w 103 = aJ 24 f) : MKs (va_up w 103 (aJ 24 (vp_updL f i x))) K0 a0 b0 c0 := by
  obtain ⟨⟨k93, k94, k95, k98, k99, k101, k102, k103, k104, k105, k106⟩, s92, s96, s97, s100⟩ := h
  obtain ⟨g, q1, q2⟩ := k103
  have e : aJ 24 g = aJ 24 f := q1.symm.trans hk
  cases e
  exact ⟨⟨k93, k94, k95, k98, k99, k101, k102, ⟨_, rfl, fun v hv => by rw [pk_uLn (by omega)]; exact q2 v hv⟩, k104, k105, k106⟩, s92, s96, s97, s100⟩
theorem MKs.u104 {w : ab_W} {K0 : KA} {a0 b0 c0 : Nat} {f : Nat → Int64} {i : Nat} {x : Int64} (h : MKs w K0 a0 b0 c0) (hb : b0 ≤ 12) (hi : 12 ≤ i) (hk : w 104 = aJ 24 f) : MKs (va_up w 104 (aJ 24 (vp_updL f i x))) K0 a0 b0 c0 := by
  obtain ⟨⟨k93, k94, k95, k98, k99, k101, k102, k103, k104, k105, k106⟩, s92, s96, s97, s100⟩ := h
  obtain ⟨g, q1, q2⟩ := k104
  have e : aJ 24 g = aJ 24 f := q1.symm.trans hk
  cases e
  exact ⟨⟨k93, k94, k95, k98, k99, k101, k102, k103, ⟨_, rfl, fun v hv => by rw [pk_uLn (by omega)]; exact q2 v hv⟩, k105, k106⟩, s92, s96, s97, s100⟩
theorem MKs.u105 {w : ab_W} {K0 : KA} {a0 b0 c0 : Nat} {f : Nat → Int64} {i : Nat} {x : Int64} (h : MKs w K0 a0 b0 c0) (hb : b0 ≤ 12) (hi : 12 ≤ i) (hk : w 105 = aJ 24 f) : MKs (va_up w 105 (aJ 24 (vp_updL f i x))) K0 a0 b0 c0 := by
  obtain ⟨⟨k93, k94, k95, k98, k99, k101, k102, k103, k104, k105, k106⟩, s92, s96, s97, s100⟩ := h
  obtain ⟨g, q1, q2⟩ := k105
  have e : aJ 24 g = aJ 24 f := q1.symm.trans hk
  cases e
  exact ⟨⟨k93, k94, k95, k98, k99, k101, k102, k103, k104, ⟨_, rfl, fun v hv => by rw [pk_uLn (by omega)]; exact q2 v hv⟩, k106⟩, s92, s96, s97, s100⟩
theorem MKs.u106 {w : ab_W} {K0 : KA} {a0 b0 c0 : Nat} {f : Nat → Int64} {i : Nat} {x : Int64} (h : MKs w K0 a0 b0 c0) (hb : b0 ≤ 12) (hi : 12 ≤ i) (hk : w 106 = aJ 24 f) : MKs (va_up w 106 (aJ 24 (vp_updL f i x))) K0 a0 b0 c0 := by
  obtain ⟨⟨k93, k94, k95, k98, k99, k101, k102, k103, k104, k105, k106⟩, s92, s96, s97, s100⟩ := h
  obtain ⟨g, q1, q2⟩ := k106
  have e : aJ 24 g = aJ 24 f := q1.symm.trans hk
  cases e
  exact ⟨⟨k93, k94, k95, k98, k99, k101, k102, k103, k104, k105, ⟨_, rfl, fun v hv => by rw [pk_uLn (by omega)]; exact q2 v hv⟩⟩, s92, s96, s97, s100⟩
def FMk (k : Nat) : Prop := k = 90 ∨ (92 ≤ k ∧ k ≤ 106)
def mrQ (T : TE) (K0 : KA) (a0 b0 c0 : Nat) (w : ab_W) (n : Nat) (s0 : Nat → Int32) (tn : Int64) (o : Out) : ab_Q := fun v w' n' => ∃ b : Bool, v = some (.int (b01 b)) ∧ n = n' ∧ Fr FMk w w' ∧ ∃ s wd, w' 90 = oMod s wd tn ∧ Fr FMx s0 s ∧ MKs w' K0 a0 b0 c0 ∧ (∀ e, o = .inl e → b = false ∧ s 10 = nI e.1 ∧ s 11 = nI e.2) ∧ (∀ x, o = .inr x → b = true ∧ Fr FMr s0 s ∧ AtM T x.1 s wd ∧ MJ w' K0 a0 b0 c0 x.2)
theorem fmr_x {s s' : Nat → Int32} (h : Fr FMr s s') : Fr FMx s s' := h.mono (fun k hk => by unfold FMr at hk; unfold FMx; omega)
theorem mrQ_l {T : TE} {K0 : KA} {a0 b0 c0 : Nat} {w w' : ab_W} {n k pl : Nat} {s0 s : Nat → Int32} {wd tn : Int64} {o : Out} (ho : .inl (k, pl) = o) (hf : Fr FMk w w') (h90 : w' 90 = oMod (upd (upd s 10 (nI k)) 11 (nI pl)) wd tn) (hs : Fr FMr s0 s) (hM : MKs w' K0 a0 b0 c0) : mrQ T K0 a0 b0 c0 w n s0 tn o (some (.int (nI 0))) w' n := by
  refine ⟨false, rfl, rfl, hf, _, wd, h90, ((fmr_x hs).us (Or.inl ⟨by omega, by omega⟩)).us (Or.inl ⟨by omega, by omega⟩), hM, fun e he => ?_, fun x hx => ?_⟩
  · have z : (k, pl) = e := Sum.inl.inj (ho.trans he)
    subst z
    exact ⟨rfl, by rw [upd_ne (by omega), upd_at], by rw [upd_at]⟩
  · have z : (Sum.inl (k, pl) : Out) = .inr x := ho.trans hx
    cases z
theorem mrQ_r {T : TE} {K0 : KA} {a0 b0 c0 : Nat} {w w' : ab_W} {n p : Nat} {S : KS} {s0 s : Nat → Int32} {wd tn : Int64} {o : Out} (ho : .inr (p, S) = o) (hf : Fr FMk w w') (h90 : w' 90 = oMod s wd tn) (hs : Fr FMr s0 s) (hA : AtM T p s wd) (hM : MJ w' K0 a0 b0 c0 S) : mrQ T K0 a0 b0 c0 w n s0 tn o (some (.int (nI 1))) w' n := by
  refine ⟨true, rfl, rfl, hf, s, wd, h90, fmr_x hs, hM.sh, fun e he => ?_, fun x hx => ?_⟩
  · have z : (Sum.inr (p, S) : Out) = .inl e := ho.trans he
    cases z
  · have z : (p, S) = x := Sum.inr.inj (ho.trans hx)
    subst z
    exact ⟨rfl, hs, hA, hM⟩
def rdR' (T : TE) (S : KS) (p : Nat) : Out := if 4 ≤ sR S then .inl (4, tP T p) else bnd (qNew T S (tX T p)) fun p2 => bnd (qNum T 3 200 p2) fun p3 => .inr (p3, adR S (tV T (tX T p)) (tV T p2))
def rdP' (T : TE) (S : KS) (p : Nat) : Out := if 8 ≤ sP S then .inl (4, tP T p) else bnd (qNew T S (tX T p)) fun p2 => bnd (qWh T S p2) fun p3 => bnd (qNum T 0 200 (qMin T p3)) fun p4 => .inr (p4, adP S (tV T (tX T p)) (soJ (sLo S (tV T p2))) (sgI (tkS T p3 45) (tV T (qMin T p3))))
def rdW' (T : TE) (S : KS) (p : Nat) : Out := if 12 ≤ sW S then .inl (4, tP T p) else bnd (qNew T S (tX T p)) fun p2 => bnd (qNum T 3 200 p2) fun p3 => bnd (qIO T p3) fun p4 => bnd (qBs T S (tV T p2) (tkW T p3 3) p4) fun p5 => bnd (qAt T p5) fun p6 => if tkS T p6 59 = true then (if sO S (sLo S (tV T p4)) (tV T p2) (tkW T p3 3) (atU T p5) (atL T p5) = true then .inr (p6, adW S (tV T (tX T p)) (tV T p2) (tkW T p3 3) (sLo S (tV T p4)) (atU T p5) (atL T p5)) else .inl (5, tP T p6)) else .inl (1, tP T p6)
section MKITS
variable {X : ab_X} {l : Launch}
theorem k_readNew_y (T : TE) (i p q : Nat) (w : ab_W) (n : Nat) {S : KS} {s : Nat → Int32} {wd tn : Int64} {x : Int32} {f : Nat → Int64} {f3 f4 f5 : Nat → Int32} (hq : qNew T S p = .inr q) (hx : x = nI i) (hi : i < 24) (hS : KSok S) (hL : tL T ≤ 640) (hM : tM T ≤ 640) (hp : p ≤ tL T) (h90 : w 90 = oMod s wd tn) (h91 : w 91 = aI 640 (tB T)) (h3 : s 3 = nI (tL T)) (h4 : s 4 = nI (tM T)) (h : AtM T p s wd) (h92 : w 92 = aJ 24 f) (h93 : w 93 = aI 2 f3) (h94 : w 94 = aI 2 f4) (h95 : w 95 = aI 2 f5) (e3 : f3 1 = nI (sR S)) (e4 : f4 1 = nI (sW S)) (e5 : f5 1 = nI (sP S)) (hN : NmM S f) :
    ab_C X l i_Mod_readNew [.ref 90, .int x] w n 0 0 (qI (nI 1) (fun w' n' => n = n' ∧ ∃ s' wd', w' = va_up (va_up w 92 (aJ 24 (vp_updL f i (lN (cv (tV T p)))))) 90 (oMod s' wd' tn) ∧ Fr FMr s s' ∧ AtM T q s' wd')) := by
  subst hx
  obtain ⟨rfl, e2, e6, e7, e8⟩ := qNew_r hp hq
  have hw := h.2.2.2.1 e8
  have cf := k_find (X := X) (l := l) (tV T p) w n hS (tk_vd hp e8) hw h90 h92 h93 h94 h95 e3 e4 e5 hN
  obtain ⟨w, rfl⟩ := va_ex3 h90 h91 h92
  refine ab_mqI cd_166 om_166 rfl (ab_sound ok_166 [] 80 ?_)
  (refine Exists.intro 0 ?_; refine ⟨0, _, Nat.zero_le _, Nat.zero_le _, k_Mod_isName T p _ _ hp rfl h, ?_⟩; refine ab_q1_elim ?_)
  refine And.intro (fun _ => ?_) (fun h_9 => absurd h_9 ((by rw [e2]; decide)))
  (refine Exists.intro 0 ?_; refine ⟨0, _, Nat.zero_le _, Nat.zero_le _, cf, ?_⟩; refine ab_q1_elim ?_)
  refine And.intro (fun _ => ?_) (fun h_9 => absurd ((by rw [(lo_none hS.2.2.2.2).mp e6]; rfl)) h_9)
  refine And.intro (vp_in_nI hi (by omega)) ?_
  rw [nI_clamp (by omega)]
  (refine Exists.intro 0 ?_; refine ⟨0, _, Nat.zero_le _, Nat.zero_le _, k_mgo T p _ _ hL hM hp (by omega) (by omega) rfl rfl h3 h4 h, ?_⟩; rintro _ _ _ ⟨rfl, rfl, s2, wd2, rfl, f2, a2⟩)
  refine ⟨rfl, rfl, rfl, s2, wd2, ?_, fgo_fmr f2, a2⟩
  rw [← hw]
theorem k_readNew_n (T : TE) (i p k pl : Nat) (w : ab_W) (n : Nat) {S : KS} {s : Nat → Int32} {wd tn : Int64} {x : Int32} {f : Nat → Int64} {f3 f4 f5 : Nat → Int32} (hq : qNew T S p = .inl (k, pl)) (hx : x = nI i) (hS : KSok S) (hp : p ≤ tL T) (h90 : w 90 = oMod s wd tn) (h : AtM T p s wd) (h92 : w 92 = aJ 24 f) (h93 : w 93 = aI 2 f3) (h94 : w 94 = aI 2 f4) (h95 : w 95 = aI 2 f5) (e3 : f3 1 = nI (sR S)) (e4 : f4 1 = nI (sW S)) (e5 : f5 1 = nI (sP S)) (hN : NmM S f) :
    ab_C X l i_Mod_readNew [.ref 90, .int x] w n 0 0 (ab_q1 (some (.int (nI 0))) (va_up w 90 (oMod (upd (upd s 10 (nI k)) 11 (nI pl)) wd tn)) n) := by
  subst hx
  obtain ⟨rfl, e⟩ := qNew_l hq
  rcases e with ⟨e1, rfl⟩ | ⟨e1, e2, rfl⟩
  · obtain ⟨w, rfl⟩ := va_ex h90
    refine ab_metI cd_166 om_166 rfl (ab_sound ok_166 [] 80 ?_)
    (refine Exists.intro 0 ?_; refine ⟨0, _, Nat.zero_le _, Nat.zero_le _, k_Mod_isName T p _ _ hp rfl h, ?_⟩; refine ab_q1_elim ?_)
    refine And.intro (fun h_9 => absurd ((by rw [e1]; rfl)) h_9) (fun _ => ?_)
    (refine Exists.intro 0 ?_; refine ⟨0, _, Nat.zero_le _, Nat.zero_le _, k_bad T p 1 _ _ rfl (Or.inl rfl) rfl h, ?_⟩; refine ab_q1_elim ?_)
    exact ⟨rfl, rfl, rfl, rfl⟩
  · have e8 := tkN_k e1
    have cf := k_find (X := X) (l := l) (tV T p) w n hS (tk_vd hp e8) (h.2.2.2.1 e8) h90 h92 h93 h94 h95 e3 e4 e5 hN
    obtain ⟨y, hy⟩ := lo_some e2
    have g := (hS.2.2.2.2 _ y hy).2
    have hk := hS.1
    have hb : offI y.1 + y.2 < 24 := by
      unfold offI
      rcases g with ⟨g1, g2⟩ | ⟨g1, g2⟩ | ⟨g1, g2⟩ <;> rw [g1] <;> simp <;> omega
    obtain ⟨w, rfl⟩ := va_ex h90
    refine ab_metI cd_166 om_166 rfl (ab_sound ok_166 [] 80 ?_)
    (refine Exists.intro 0 ?_; refine ⟨0, _, Nat.zero_le _, Nat.zero_le _, k_Mod_isName T p _ _ hp rfl h, ?_⟩; refine ab_q1_elim ?_)
    refine And.intro (fun _ => ?_) (fun h_9 => absurd h_9 ((by rw [e1]; decide)))
    (refine Exists.intro 0 ?_; refine ⟨0, _, Nat.zero_le _, Nat.zero_le _, cf, ?_⟩; refine ab_q1_elim ?_)
    refine And.intro (fun h_9 => absurd h_9 ((by rw [hy]; exact nI_nn (by omega)))) (fun _ => ?_)
    (refine Exists.intro 0 ?_; refine ⟨0, _, Nat.zero_le _, Nat.zero_le _, k_bad T p 3 _ _ rfl (Or.inr ⟨by omega, by omega⟩) rfl h, ?_⟩; refine ab_q1_elim ?_)
    exact ⟨rfl, rfl, rfl, rfl⟩
end MKITS
