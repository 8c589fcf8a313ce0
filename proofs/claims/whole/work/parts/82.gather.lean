/-! the arms of a pen of a kit -/
abbrev KA : Type := (Nat → Option Nat) × (Nat → Int32) × (Nat → Int32) × (Nat → Int32) × (Nat → Int32) × (Nat → Int32) × (Nat → Nat) × (Nat → Int32) × (Nat → Nat)
def kBs (K : KA) : Nat → Option Nat := K.1
def kUp (K : KA) : Nat → Int32 := K.2.1
def kLo (K : KA) : Nat → Int32 := K.2.2.1
def kSp (K : KA) : Nat → Int32 := K.2.2.2.1
def kSu (K : KA) : Nat → Int32 := K.2.2.2.2.1
def kSl (K : KA) : Nat → Int32 := K.2.2.2.2.2.1
def kPw (K : KA) : Nat → Nat := K.2.2.2.2.2.2.1
def kPo (K : KA) : Nat → Int32 := K.2.2.2.2.2.2.2.1
def kHt (K : KA) : Nat → Nat := K.2.2.2.2.2.2.2.2
def WOk (K : KA) (v : Nat) : Prop := (∀ b, kBs K v = some b → b < v ∧ kHt K v = kHt K b + 1) ∧ (1 ≤ kHt K v ∧ kHt K v ≤ 4) ∧ (kUp K v).toInt.natAbs ≤ 99 ∧ (1 ≤ (kLo K v).toInt ∧ (kLo K v).toInt ≤ 99) ∧ (kSp K v).toInt.natAbs ≤ 400 ∧ (kSu K v).toInt.natAbs ≤ 9999 ∧ 1 ≤ (kSl K v).toInt ∧ (kSl K v).toInt ≤ 9999
def KAok (K : KA) (nw np : Nat) : Prop := (nw ≤ 12 ∧ np ≤ 8) ∧ (∀ v, v < nw → WOk K v) ∧ ∀ p, p < np → kPw K p < nw ∧ (kPo K p).toInt.natAbs ≤ 200
def bsV : Option Nat → Int32
  | none => -nI 1
  | some b => nI b
def chL (K : KA) : Nat → Option Nat → List Arm → List Arm
  | 0, _, L => L
  | _ + 1, none, L => L
  | f + 1, some v, L => chL K f (kBs K v) (jnL (kUp K v).toInt64 (kLo K v).toInt64 (kSp K v).toInt L)
def PnL0 (K : KA) (p : Nat) : List Arm := chL K 4 (some (kPw K p)) (jnL (kSu K (kPw K p)).toInt64 (kSl K (kPw K p)).toInt64 (kPo K p).toInt [])
def PnL (K : KA) (p : Nat) : List Arm := fltA (PnL0 K p)
def PnT (K : KA) (p : Nat) : Nat := TLr 1 (PnL K p)
def PnW (K : KA) (p k : Nat) : Int64 := wnd (PnL K p) (PnT K p) k
def PnS (K : KA) (p k : Nat) : Int := ((PnL K p).getD k arD).2.2
def PnO (K : KA) (p k : Nat) : Nat := srtW (PnW K p) (PnL K p).length k
theorem i32_64 (x : Int32) : x.toInt64 = Int64.ofInt x.toInt := by
  apply Int64.toInt_inj.mp
  have h1 := Int32.le_toInt x
  have h2 := Int32.toInt_lt x
  rw [Int32.toInt_toInt64, Int64.toInt_ofInt_of_le (by omega) (by omega)]
theorem i32_of (x : Int32) : x = Int32.ofInt x.toInt := by
  apply Int32.toInt_inj.mp
  have h1 := Int32.le_toInt x
  have h2 := Int32.toInt_lt x
  rw [Int32.toInt_ofInt_of_le (by omega) (by omega)]
theorem jn_all {a b : Int64} {s : Int} : ∀ {L : List Arm} {x : Arm}, x ∈ jnL a b s L → x ∈ L ∨ (x.1 = a ∧ x.2.1 = b ∧ (x.2.2 = s ∨ ∃ y ∈ L, x.2.2 = y.2.2 + s))
  | [], x, h => by
    have h : x ∈ [(a, b, s)] := h
    rw [List.mem_singleton] at h
    rw [h]
    exact Or.inr ⟨rfl, rfl, Or.inl rfl⟩
  | y :: L, x, h => by
    unfold jnL at h
    split at h
    · rcases List.mem_cons.mp h with e | e
      · rw [e]
        exact Or.inr ⟨rfl, rfl, Or.inr ⟨y, List.mem_cons_self, rfl⟩⟩
      · exact Or.inl (List.mem_cons_of_mem _ e)
    · rcases List.mem_cons.mp h with e | e
      · rw [e]; exact Or.inl List.mem_cons_self
      · rcases jn_all e with q | ⟨q1, q2, q3⟩
        · exact Or.inl (List.mem_cons_of_mem _ q)
        · refine Or.inr ⟨q1, q2, q3.imp id (fun ⟨z, z1, z2⟩ => ⟨z, List.mem_cons_of_mem _ z1, z2⟩)⟩
theorem jn_prd {a b : Int64} {s : Int} : ∀ {L : List Arm}, prd (jnL a b s L) = prd L ∨ prd (jnL a b s L) = prd L * dn (a, b, s)
  | [] => by
    right
    show dn (a, b, s) * 1 = 1 * dn (a, b, s)
    omega
  | x :: L => by
    unfold jnL
    split
    · rename_i h
      left
      show dn (a, b, x.2.2 + s) * prd L = dn x * prd L
      have : dn (a, b, x.2.2 + s) = dn x := by unfold dn; rw [h.2]
      rw [this]
    · rcases jn_prd (a := a) (b := b) (s := s) (L := L) with e | e
      · left
        show dn x * prd (jnL a b s L) = dn x * prd L
        rw [e]
      · right
        show dn x * prd (jnL a b s L) = dn x * prd L * dn (a, b, s)
        rw [e, Nat.mul_assoc]
def JOk (c : Nat) (L : List Arm) : Prop := (∀ x ∈ L, x.2.1 = lN (dn x) ∧ 1 ≤ dn x ∧ dn x ≤ 9999 ∧ x.1.toInt.natAbs ≤ 9999 ∧ x.2.2.natAbs ≤ 400 * c) ∧ L.length ≤ c
theorem lo_dn (x : Int64) (z : Int) (b : Int32) (h1 : 1 ≤ b.toInt) : b.toInt64 = lN (dn (x, b.toInt64, z)) ∧ dn (x, b.toInt64, z) = b.toInt.toNat := by
  have h2 := Int32.toInt_lt b
  have e : dn (x, b.toInt64, z) = b.toInt.toNat := by
    unfold dn
    rw [Int32.toInt_toInt64]
  refine ⟨?_, e⟩
  rw [e]
  apply Int64.toInt_inj.mp
  rw [Int32.toInt_toInt64, lN_toI (by omega)]
  omega
theorem JOk.join {c : Nat} {L : List Arm} (h : JOk c L) {a b s : Int32} (ha : a.toInt.natAbs ≤ 9999) (hb : 1 ≤ b.toInt ∧ b.toInt ≤ 9999) (hs : s.toInt.natAbs ≤ 400) : JOk (c + 1) (jnL a.toInt64 b.toInt64 s.toInt L) := by
  refine ⟨fun x hx => ?_, by have := (jn_len (a := a.toInt64) (b := b.toInt64) (s := s.toInt) L).2; have := h.2; omega⟩
  rcases jn_all hx with q | ⟨q1, q2, q3⟩
  · obtain ⟨y1, y2, y3, y4, y5⟩ := h.1 x q
    exact ⟨y1, y2, y3, y4, by omega⟩
  · obtain ⟨e1, e2⟩ := lo_dn x.1 x.2.2 b hb.1
    have ex : dn x = b.toInt.toNat := by
      rw [← e2]
      unfold dn
      rw [q2]
    refine ⟨by rw [q2, ex, ← e2]; exact e1, by omega, by omega, by rw [q1, Int32.toInt_toInt64]; exact ha, ?_⟩
    rcases q3 with q3 | ⟨y, hy, q3⟩
    · rw [q3]; omega
    · have := (h.1 y hy).2.2.2.2
      rw [q3]; omega
theorem prd_pos9 {c : Nat} : ∀ {L : List Arm}, JOk c L → 1 ≤ prd L
  | [], _ => Nat.le_refl _
  | x :: L, h => by
    have h1 := (h.1 x List.mem_cons_self).2.1
    have hl : L.length ≤ c := by have := h.2; rw [List.length_cons] at this; omega
    have h2 := prd_pos9 (c := c) (L := L) ⟨fun y hy => h.1 y (List.mem_cons_of_mem _ hy), hl⟩
    exact Nat.mul_le_mul h1 h2
theorem ch_ok {K : KA} {nw : Nat} (hK : ∀ v, v < nw → WOk K v) : ∀ (f c : Nat) (o : Option Nat) (L : List Arm), (∀ v, o = some v → v < nw) → JOk c L → JOk (c + f) (chL K f o L) ∧ prd (chL K f o L) ≤ prd L * 99 ^ f ∧ 1 ≤ prd L
  | 0, c, o, L, _, h => ⟨h, by show prd L ≤ prd L * 1; omega, prd_pos9 h⟩
  | f + 1, c, none, L, _, h => by
    refine ⟨⟨fun x hx => ?_, by have := h.2; show L.length ≤ c + (f + 1); omega⟩, ?_, prd_pos9 h⟩
    · obtain ⟨y1, y2, y3, y4, y5⟩ := h.1 x hx
      exact ⟨y1, y2, y3, y4, by omega⟩
    · show prd L ≤ prd L * 99 ^ (f + 1)
      exact Nat.le_mul_of_pos_right _ (Nat.pow_pos (by omega))
  | f + 1, c, some v, L, ho, h => by
    have hv := ho v rfl
    obtain ⟨w1, w2, w3, w4, w5, w6, w7⟩ := hK v hv
    have hj := h.join (a := kUp K v) (b := kLo K v) (s := kSp K v) (by omega) (by omega) w5
    have ih := ch_ok hK f (c + 1) (kBs K v) _ (fun b hb => by have := (w1 b hb).1; omega) hj
    have hp : prd (jnL (kUp K v).toInt64 (kLo K v).toInt64 (kSp K v).toInt L) ≤ prd L * 99 := by
      have e2 := (lo_dn (kUp K v).toInt64 (kSp K v).toInt (kLo K v) w4.1).2
      rcases jn_prd (a := (kUp K v).toInt64) (b := (kLo K v).toInt64) (s := (kSp K v).toInt) (L := L) with e | e
      · rw [e]; exact Nat.le_mul_of_pos_right _ (by omega)
      · rw [e, e2]; exact Nat.mul_le_mul_left _ (by omega)
    refine ⟨by rw [show c + (f + 1) = c + 1 + f by omega]; exact ih.1, ?_, prd_pos9 h⟩
    refine Nat.le_trans ih.2.1 ?_
    rw [Nat.pow_succ, Nat.mul_comm (99 ^ f) 99, ← Nat.mul_assoc]
    exact Nat.mul_le_mul_right _ hp
theorem pn_ok {K : KA} {nw np p : Nat} (hK : KAok K nw np) (hp : p < np) : LOk (PnL0 K p) ∧ (PnL0 K p).length ≤ 5 := by
  obtain ⟨-, h1, h2⟩ := hK
  obtain ⟨p1, p2⟩ := h2 p hp
  obtain ⟨w1, w2, w3, w4, w5, w6, w7⟩ := h1 _ p1
  have j0 : JOk 0 [] := ⟨fun x hx => absurd hx List.not_mem_nil, Nat.le_refl _⟩
  have j1 := j0.join (a := kSu K (kPw K p)) (b := kSl K (kPw K p)) (s := kPo K p) w6 w7 (by omega)
  have hc := ch_ok h1 4 1 (some (kPw K p)) _ (fun v hv => by cases hv; exact p1) j1
  have e2 := (lo_dn (kSu K (kPw K p)).toInt64 (kPo K p).toInt (kSl K (kPw K p)) w7.1).2
  have hp1 : prd (jnL (kSu K (kPw K p)).toInt64 (kSl K (kPw K p)).toInt64 (kPo K p).toInt []) = (kSl K (kPw K p)).toInt.toNat := by
    show dn _ * 1 = _
    rw [e2]
    omega
  refine ⟨⟨fun x hx => ?_, ?_⟩, hc.1.2⟩
  · obtain ⟨y1, y2, y3, y4, y5⟩ := hc.1.1 x hx
    exact ⟨y1, y2, y3, y4, by omega⟩
  · refine Nat.le_trans hc.2.1 ?_
    rw [hp1]
    exact Nat.mul_le_mul_right _ (by omega)
/-- a kit of the class -/
def CKit (w : ab_W) (q : Nat) (K : KA) (nr nw np : Nat) : Prop := (∃ nm, w q = oKit q (nI nr) (nI nw) (nI np) nm) ∧ (∃ f, w (q + 6) = aI 12 f ∧ ∀ v, v < nw → f v = bsV (kBs K v)) ∧ (∃ f, w (q + 8) = aI 12 f ∧ ∀ v, v < nw → f v = kSp K v) ∧ (∃ f, w (q + 9) = aI 12 f ∧ ∀ v, v < nw → f v = kUp K v) ∧ (∃ f, w (q + 10) = aI 12 f ∧ ∀ v, v < nw → f v = kLo K v) ∧ (∃ f, w (q + 11) = aI 12 f ∧ ∀ v, v < nw → f v = kSu K v) ∧ (∃ f, w (q + 12) = aI 12 f ∧ ∀ v, v < nw → f v = kSl K v) ∧ (∃ f, w (q + 13) = aI 8 f ∧ ∀ v, v < np → f v = nI (kPw K v)) ∧ ∃ f, w (q + 14) = aI 8 f ∧ ∀ v, v < np → f v = kPo K v
theorem CKit.fr {F : Nat → Prop} {w w' : ab_W} {q : Nat} {K : KA} {nr nw np : Nat} (h : CKit w q K nr nw np) (hf : Fr F w w') (hF : ∀ k, F k → ¬ (q ≤ k ∧ k ≤ q + 14)) : CKit w' q K nr nw np := by
  have z : ∀ k, (q ≤ k ∧ k ≤ q + 14) → ¬ F k := fun k a b => hF k b a
  obtain ⟨⟨nm, h0⟩, ⟨f1, h1, g1⟩, ⟨f2, h2, g2⟩, ⟨f3, h3, g3⟩, ⟨f4, h4, g4⟩, ⟨f5, h5, g5⟩, ⟨f6, h6, g6⟩, ⟨f7, h7, g7⟩, f8, h8, g8⟩ := h
  exact ⟨⟨nm, hf.get h0 (z _ (by omega))⟩, ⟨f1, hf.get h1 (z _ (by omega)), g1⟩, ⟨f2, hf.get h2 (z _ (by omega)), g2⟩, ⟨f3, hf.get h3 (z _ (by omega)), g3⟩, ⟨f4, hf.get h4 (z _ (by omega)), g4⟩, ⟨f5, hf.get h5 (z _ (by omega)), g5⟩, ⟨f6, hf.get h6 (z _ (by omega)), g6⟩, ⟨f7, hf.get h7 (z _ (by omega)), g7⟩, f8, hf.get h8 (z _ (by omega)), g8⟩
def KP (w : ab_W) : Prop := (∃ a b, w 12 = oPA a b) ∧ (∃ f, w 13 = aJ 5 f) ∧ (∃ f, w 14 = aJ 5 f) ∧ (∃ f, w 15 = aJ 5 f) ∧ ∃ f, w 16 = aJ 5 f
theorem KP.fr {F : Nat → Prop} {w w' : ab_W} (h : KP w) (hf : Fr F w w') (hF : ∀ k, F k → ¬ (12 ≤ k ∧ k ≤ 16)) : KP w' := by
  have z : ∀ k, (12 ≤ k ∧ k ≤ 16) → ¬ F k := fun k a b => hF k b a
  obtain ⟨⟨a, b, h0⟩, ⟨f1, h1⟩, ⟨f2, h2⟩, ⟨f3, h3⟩, f4, h4⟩ := h
  exact ⟨⟨a, b, hf.get h0 (z _ (by omega))⟩, ⟨f1, hf.get h1 (z _ (by omega))⟩, ⟨f2, hf.get h2 (z _ (by omega))⟩, ⟨f3, hf.get h3 (z _ (by omega))⟩, f4, hf.get h4 (z _ (by omega))⟩
/-- the arms are gathered -/
def PnC (w : ab_W) (K : KA) (p : Nat) : Prop := w 12 = oPA (nI (PnL K p).length) (lN (PnT K p)) ∧ (∃ f, w 13 = aJ 5 f) ∧ (∃ f, w 14 = aJ 5 f) ∧ (∃ f, w 15 = aJ 5 f ∧ ∀ k, k < (PnL K p).length → f k = Int64.ofInt (PnS K p (PnO K p k))) ∧ ∃ f, w 16 = aJ 5 f ∧ ∀ k, k < (PnL K p).length → f k = PnW K p (PnO K p k)
theorem PnC.kp {w : ab_W} {K : KA} {p : Nat} (h : PnC w K p) : KP w := by
  obtain ⟨h0, h1, h2, ⟨f3, h3, -⟩, f4, h4, -⟩ := h
  exact ⟨⟨_, _, h0⟩, h1, h2, ⟨f3, h3⟩, f4, h4⟩
section GATHER
variable {X : ab_X} {l : Launch}
theorem k_gather_44 (x : Int32) (p : Nat) (w : ab_W) (n : Nat) {K : KA} {nr nw np : Nat} (hx : x = nI p) (hp : p < np) (hK : KAok K nw np) (hC : CKit w 44 K nr nw np) (hP : KP w) :
    ab_C X l i_PA_gather [.ref 12, .ref 44, .int x] w n 0 0 (qV fun w' n' => n = n' ∧ Fr (fun k => 12 ≤ k ∧ k ≤ 16) w w' ∧ PnC w' K p) := by
  subst hx
  obtain ⟨hok, hlen⟩ := pn_ok hK hp
  obtain ⟨⟨nm, h0⟩, ⟨f6, h6, g6⟩, ⟨f8, h8, g8⟩, ⟨f9, h9, g9⟩, ⟨f10, h10, g10⟩, ⟨f11, h11, g11⟩, ⟨f12, h12, g12⟩, ⟨f13, h13, g13⟩, f14, h14, g14⟩ := hC
  obtain ⟨⟨pa, pb, k12⟩, ⟨q13, k13⟩, ⟨q14, k14⟩, ⟨q15, k15⟩, q16, k16⟩ := hP
  obtain ⟨⟨hw12, hp8⟩, hW, hPn⟩ := hK
  obtain ⟨p1, p2⟩ := hPn p hp
  have w0 := hW _ p1
  obtain ⟨u1, u2, u3, u4, u5, u6, u7⟩ := id w0
  have hnn : ∀ v : Nat, v < nw → nI v ≠ -nI 1 := fun v hv => nI_nn (by omega)
  have loop : ∀ i, i ≤ 4 → ∀ w3 (o : Option Nat) (L : List Arm) u d s, Fr (fun k => 12 ≤ k ∧ k ≤ 15) w w3 → (∀ v, o = some v → v < nw) → chL K (4 - i) o L = PnL0 K p → L.length ≤ i + 1 → w3 12 = oPA (nI L.length) (lN 1) → w3 13 = aJ 5 u → w3 14 = aJ 5 d → w3 15 = aJ 5 s → paI L u d s → ab_Ev X l i_PA_gather 58 [some (.ref 12), some (.ref 44), some (.int (nI p)), some (.int (bsV o)), some (.int (nI i))] [] w3 n 0 0 (qV fun w' n' => n = n' ∧ Fr (fun k => 12 ≤ k ∧ k ≤ 16) w w' ∧ PnC w' K p) := by
    have fin : ∀ w3 (L : List Arm) u d s, Fr (fun k => 12 ≤ k ∧ k ≤ 15) w w3 → L = PnL0 K p → w3 12 = oPA (nI L.length) (lN 1) → w3 13 = aJ 5 u → w3 14 = aJ 5 d → w3 15 = aJ 5 s → paI L u d s → ∀ l3 l4 : Int32, ab_Ev X l i_PA_gather 107 [some (.ref 12), some (.ref 44), some (.int (nI p)), some (.int l3), some (.int l4)] [] w3 n 0 0 (qV fun w' n' => n = n' ∧ Fr (fun k => 12 ≤ k ∧ k ≤ 16) w w' ∧ PnC w' K p) := by
      intro w3 L u d s hf hL k12 k13 k14 k15 hpa l3 l4
      subst hL
      have k16' := hf.get k16 (by omega)
      obtain ⟨w3, rfl⟩ := va_ex k12
      refine ab_sound ok_47 [] 80 ?_
      (refine Exists.intro 0 ?_; refine ⟨0, _, Nat.zero_le _, Nat.zero_le _, k_dropEmpty (PnL0 K p) _ _ hlen hok rfl k13 k14 k15 hpa, ?_⟩; rintro _ w4 _ ⟨rfl, rfl, a1, a2, u4, d4, s4, a3, a4, a5, a6⟩)
      have b16 := a1.get k16' (by omega)
      have hok2 : LOk (PnL K p) := hok.flt
      have hlen2 : (PnL K p).length ≤ 5 := Nat.le_trans (flt_len _) hlen
      obtain ⟨w4, rfl⟩ := va_ex a2
      (refine Exists.intro 0 ?_; refine ⟨0, _, Nat.zero_le _, Nat.zero_le _, k_findWindings (PnL K p) _ _ (s := s4) hlen2 hok2 a2 a3 a4 b16 a6, ?_⟩; rintro _ w5 _ ⟨rfl, rfl, c1, c2, f5, c3, c4⟩)
      have b13 := c1.get a3 (by omega)
      have b14 := c1.get a4 (by omega)
      have b15 := c1.get a5 (by omega)
      obtain ⟨w5, rfl⟩ := va_ex c2
      (refine Exists.intro 0 ?_; refine ⟨0, _, Nat.zero_le _, Nat.zero_le _, k_sort (PnL K p).length (PnW K p) (fun k => Int64.ofInt (PnS K p k)) _ _ hlen2 c2 b15 c3 c4 (fun k hk => (a6 k hk).2.2), ?_⟩; rintro _ w6 _ ⟨rfl, rfl, e1, f7, g7, e2, e3, e4, e5⟩)
      have ff : Fr (fun k => 12 ≤ k ∧ k ≤ 16) w w6 := ((hf.tr a1 (fun k hk => by omega) (fun k hk => by omega) : Fr (fun k => 12 ≤ k ∧ k ≤ 16) w _).trans (c1.mono (fun k hk => by omega))).trans (e1.mono (fun k hk => by omega))
      exact ⟨rfl, rfl, ff, e1.get c2 (by omega), ⟨u4, e1.get b13 (by omega)⟩, ⟨d4, e1.get b14 (by omega)⟩, ⟨g7, e3, e5⟩, f7, e2, e4⟩
    refine ab_up 4 ?_ (fun i hi ih => ?_)
    · intro w3 o L u d s hf ho hL hl k12 k13 k14 k15 hpa
      have hL : L = PnL0 K p := hL
      refine ab_sound ok_47 [107] 80 ?_
      refine And.intro (fun _ => ?_) (fun h_9 => absurd ((by decide)) h_9)
      exact fin w3 L u d s hf hL k12 k13 k14 k15 hpa _ _
    · intro w3 o L u d s hf ho hL hl k12 k13 k14 k15 hpa
      cases o with
      | none =>
        have hL : L = PnL0 K p := by
          rw [show 4 - i = (3 - i) + 1 by omega] at hL
          exact hL
        refine ab_sound ok_47 [107] 80 ?_
        refine And.intro (fun h_9 => absurd h_9 (nI_ge hi (by omega))) (fun _ => ?_)
        refine And.intro (fun _ => ?_) (fun h_9 => absurd (rfl) h_9)
        exact fin w3 L u d s hf hL k12 k13 k14 k15 hpa _ _
      | some v =>
        have hv := ho v rfl
        obtain ⟨w1, w2, w3', w4, w5, w6, w7⟩ := hW v hv
        have hL : chL K (3 - i) (kBs K v) (jnL (kUp K v).toInt64 (kLo K v).toInt64 (kSp K v).toInt L) = PnL0 K p := by
          rw [show 4 - i = (3 - i) + 1 by omega] at hL
          exact hL
        have z0 := hf.get h0 (by omega)
        have z6 := hf.get h6 (by omega)
        have z8 := hf.get h8 (by omega)
        have z9 := hf.get h9 (by omega)
        have z10 := hf.get h10 (by omega)
        have hk12 := k12
        obtain ⟨w3, rfl⟩ := va_ex6 k12 z0 z6 z8 z9 z10
        refine ab_sound ok_47 [58] 80 ?_
        refine And.intro (fun h_9 => absurd h_9 (nI_ge hi (by omega))) (fun _ => ?_)
        refine And.intro (fun h_9 => absurd h_9 (hnn v hv)) (fun _ => ?_)
        refine And.intro (vp_in_nI (by omega) (by omega)) ?_
        refine And.intro (vp_in_nI (by omega) (by omega)) ?_
        refine And.intro (vp_in_nI (by omega) (by omega)) ?_
        have hb : (bsV (some v)).toNatClampNeg = v := nI_clamp (by omega)
        rw [hb, g9 v hv, g10 v hv, g8 v hv]
        (refine Exists.intro 0 ?_; refine ⟨0, _, Nat.zero_le _, Nat.zero_le _, k_join _ _ _ (kSp K v).toInt L _ _ (i32_64 _) (by omega) hk12 k13 k14 k15 hpa, ?_⟩; rintro _ w4 _ ⟨rfl, rfl, a1, a2, u4, d4, s4, a3, a4, a5, a6⟩)
        have y0 : w4 44 = oKit 44 (nI nr) (nI nw) (nI np) nm := a1.get rfl (by omega)
        have y6 : w4 50 = aI 12 f6 := a1.get rfl (by omega)
        have hjl := (jn_len (a := (kUp K v).toInt64) (b := (kLo K v).toInt64) (s := (kSp K v).toInt) L).2
        have ih := ih w4 (kBs K v) _ u4 d4 s4 (hf.trans a1) (fun b hb => by have := (w1 b hb).1; omega) (by rw [show 4 - (i + 1) = 3 - i by omega]; exact hL) (by omega) a2 a3 a4 a5 a6
        obtain ⟨w4, rfl⟩ := va_ex2 y0 y6
        refine And.intro (vp_in_nI (by omega) (by omega)) ?_
        rw [hb, g6 v hv]
        exact ab_ev_of ih (by rw [nI_s i]; rfl) rfl rfl
  have fA : Fr (fun k => 12 ≤ k ∧ k ≤ 15) w (va_up w 12 (oPA (nI 0) (lN 1))) := Fr.refl.up (by omega)
  have first := k_join (X := X) (l := l) (kSu K (kPw K p)).toInt64 (kSl K (kPw K p)).toInt64 (kPo K p).toInt64 (kPo K p).toInt [] (va_up w 12 (oPA (nI 0) (lN 1))) n (tc := lN 1) (i32_64 _) (by show 0 < 5; omega) va_us ((va_un (by omega)).trans k13) ((va_un (by omega)).trans k14) ((va_un (by omega)).trans k15) (fun i hi => absurd hi (Nat.not_lt_zero _))
  have y0 := fA.get h0 (by omega)
  have y11 := fA.get h11 (by omega)
  have y12 := fA.get h12 (by omega)
  have y13 := fA.get h13 (by omega)
  have y14 := fA.get h14 (by omega)
  have y12' : (va_up w 12 (oPA (nI 0) (lN 1))) 12 = oPA (nI 0) (lN 1) := va_us
  have at10 : ab_Ev X l i_PA_gather 10 [some (.ref 12), some (.ref 44), some (.int (nI p)), none, none] [] (va_up w 12 (oPA (nI 0) (lN 1))) n 0 0 (qV fun w' n' => n = n' ∧ Fr (fun k => 12 ≤ k ∧ k ≤ 16) w w' ∧ PnC w' K p) := by
    generalize hW9 : va_up w 12 (oPA (nI 0) (lN 1)) = W9 at *
    obtain ⟨W9, rfl⟩ := va_ex6 y12' y0 y13 y11 y12 y14
    refine ab_sound ok_47 [58] 80 ?_
    refine And.intro (fun h_9 => absurd h_9 (nI_pos (by omega))) (fun _ => ?_)
    refine And.intro (fun _ => ?_) (fun h_9 => absurd (nI_lt hp (by omega)) h_9)
    refine And.intro (vp_in_nI (by omega) (by omega)) ?_
    rw [nI_clamp (by omega), g13 p hp]
    refine And.intro (vp_in_nI (by omega) (by omega)) ?_
    refine And.intro (vp_in_nI (by omega) (by omega)) ?_
    refine And.intro (vp_in_nI (by omega) (by omega)) ?_
    rw [nI_clamp (by omega), nI_clamp (by omega), g11 _ p1, g12 _ p1, g14 p hp]
    (refine Exists.intro 0 ?_; refine ⟨0, _, Nat.zero_le _, Nat.zero_le _, first, ?_⟩; rintro _ w4 _ ⟨rfl, rfl, a1, a2, u4, d4, s4, a3, a4, a5, a6⟩)
    exact ab_ev_of (loop 0 (by omega) w4 (some (kPw K p)) _ u4 d4 s4 (fA.trans a1) (fun v hv => by cases hv; exact p1) rfl (jn_len (a := (kSu K (kPw K p)).toInt64) (b := (kSl K (kPw K p)).toInt64) (s := (kPo K p).toInt) []).2 a2 a3 a4 a5 a6) rfl rfl rfl
  obtain ⟨w, rfl⟩ := va_ex k12
  refine ab_mqV cd_47 om_47 rfl rfl (ab_sound ok_47 [10] 80 ?_)
  exact ab_ev_of at10 rfl rfl (by rw [va_uu]; rfl)
theorem k_gather_59 (x : Int32) (p : Nat) (w : ab_W) (n : Nat) {K : KA} {nr nw np : Nat} (hx : x = nI p) (hp : p < np) (hK : KAok K nw np) (hC : CKit w 59 K nr nw np) (hP : KP w) :
    ab_C X l i_PA_gather [.ref 12, .ref 59, .int x] w n 0 0 (qV fun w' n' => n = n' ∧ Fr (fun k => 12 ≤ k ∧ k ≤ 16) w w' ∧ PnC w' K p) := by
  subst hx
  obtain ⟨hok, hlen⟩ := pn_ok hK hp
  obtain ⟨⟨nm, h0⟩, ⟨f6, h6, g6⟩, ⟨f8, h8, g8⟩, ⟨f9, h9, g9⟩, ⟨f10, h10, g10⟩, ⟨f11, h11, g11⟩, ⟨f12, h12, g12⟩, ⟨f13, h13, g13⟩, f14, h14, g14⟩ := hC
  obtain ⟨⟨pa, pb, k12⟩, ⟨q13, k13⟩, ⟨q14, k14⟩, ⟨q15, k15⟩, q16, k16⟩ := hP
  obtain ⟨⟨hw12, hp8⟩, hW, hPn⟩ := hK
  obtain ⟨p1, p2⟩ := hPn p hp
  have w0 := hW _ p1
  obtain ⟨u1, u2, u3, u4, u5, u6, u7⟩ := id w0
  have hnn : ∀ v : Nat, v < nw → nI v ≠ -nI 1 := fun v hv => nI_nn (by omega)
  have loop : ∀ i, i ≤ 4 → ∀ w3 (o : Option Nat) (L : List Arm) u d s, Fr (fun k => 12 ≤ k ∧ k ≤ 15) w w3 → (∀ v, o = some v → v < nw) → chL K (4 - i) o L = PnL0 K p → L.length ≤ i + 1 → w3 12 = oPA (nI L.length) (lN 1) → w3 13 = aJ 5 u → w3 14 = aJ 5 d → w3 15 = aJ 5 s → paI L u d s → ab_Ev X l i_PA_gather 58 [some (.ref 12), some (.ref 59), some (.int (nI p)), some (.int (bsV o)), some (.int (nI i))] [] w3 n 0 0 (qV fun w' n' => n = n' ∧ Fr (fun k => 12 ≤ k ∧ k ≤ 16) w w' ∧ PnC w' K p) := by
    have fin : ∀ w3 (L : List Arm) u d s, Fr (fun k => 12 ≤ k ∧ k ≤ 15) w w3 → L = PnL0 K p → w3 12 = oPA (nI L.length) (lN 1) → w3 13 = aJ 5 u → w3 14 = aJ 5 d → w3 15 = aJ 5 s → paI L u d s → ∀ l3 l4 : Int32, ab_Ev X l i_PA_gather 107 [some (.ref 12), some (.ref 59), some (.int (nI p)), some (.int l3), some (.int l4)] [] w3 n 0 0 (qV fun w' n' => n = n' ∧ Fr (fun k => 12 ≤ k ∧ k ≤ 16) w w' ∧ PnC w' K p) := by
      intro w3 L u d s hf hL k12 k13 k14 k15 hpa l3 l4
      subst hL
      have k16' := hf.get k16 (by omega)
      obtain ⟨w3, rfl⟩ := va_ex k12
      refine ab_sound ok_47 [] 80 ?_
      (refine Exists.intro 0 ?_; refine ⟨0, _, Nat.zero_le _, Nat.zero_le _, k_dropEmpty (PnL0 K p) _ _ hlen hok rfl k13 k14 k15 hpa, ?_⟩; rintro _ w4 _ ⟨rfl, rfl, a1, a2, u4, d4, s4, a3, a4, a5, a6⟩)
      have b16 := a1.get k16' (by omega)
      have hok2 : LOk (PnL K p) := hok.flt
      have hlen2 : (PnL K p).length ≤ 5 := Nat.le_trans (flt_len _) hlen
      obtain ⟨w4, rfl⟩ := va_ex a2
      (refine Exists.intro 0 ?_; refine ⟨0, _, Nat.zero_le _, Nat.zero_le _, k_findWindings (PnL K p) _ _ (s := s4) hlen2 hok2 a2 a3 a4 b16 a6, ?_⟩; rintro _ w5 _ ⟨rfl, rfl, c1, c2, f5, c3, c4⟩)
      have b13 := c1.get a3 (by omega)
      have b14 := c1.get a4 (by omega)
      have b15 := c1.get a5 (by omega)
      obtain ⟨w5, rfl⟩ := va_ex c2
      (refine Exists.intro 0 ?_; refine ⟨0, _, Nat.zero_le _, Nat.zero_le _, k_sort (PnL K p).length (PnW K p) (fun k => Int64.ofInt (PnS K p k)) _ _ hlen2 c2 b15 c3 c4 (fun k hk => (a6 k hk).2.2), ?_⟩; rintro _ w6 _ ⟨rfl, rfl, e1, f7, g7, e2, e3, e4, e5⟩)
      have ff : Fr (fun k => 12 ≤ k ∧ k ≤ 16) w w6 := ((hf.tr a1 (fun k hk => by omega) (fun k hk => by omega) : Fr (fun k => 12 ≤ k ∧ k ≤ 16) w _).trans (c1.mono (fun k hk => by omega))).trans (e1.mono (fun k hk => by omega))
      exact ⟨rfl, rfl, ff, e1.get c2 (by omega), ⟨u4, e1.get b13 (by omega)⟩, ⟨d4, e1.get b14 (by omega)⟩, ⟨g7, e3, e5⟩, f7, e2, e4⟩
    refine ab_up 4 ?_ (fun i hi ih => ?_)
    · intro w3 o L u d s hf ho hL hl k12 k13 k14 k15 hpa
      have hL : L = PnL0 K p := hL
      refine ab_sound ok_47 [107] 80 ?_
      refine And.intro (fun _ => ?_) (fun h_9 => absurd ((by decide)) h_9)
      exact fin w3 L u d s hf hL k12 k13 k14 k15 hpa _ _
    · intro w3 o L u d s hf ho hL hl k12 k13 k14 k15 hpa
      cases o with
      | none =>
        have hL : L = PnL0 K p := by
          rw [show 4 - i = (3 - i) + 1 by omega] at hL
          exact hL
        refine ab_sound ok_47 [107] 80 ?_
        refine And.intro (fun h_9 => absurd h_9 (nI_ge hi (by omega))) (fun _ => ?_)
        refine And.intro (fun _ => ?_) (fun h_9 => absurd (rfl) h_9)
        exact fin w3 L u d s hf hL k12 k13 k14 k15 hpa _ _
      | some v =>
        have hv := ho v rfl
        obtain ⟨w1, w2, w3', w4, w5, w6, w7⟩ := hW v hv
        have hL : chL K (3 - i) (kBs K v) (jnL (kUp K v).toInt64 (kLo K v).toInt64 (kSp K v).toInt L) = PnL0 K p := by
          rw [show 4 - i = (3 - i) + 1 by omega] at hL
          exact hL
        have z0 := hf.get h0 (by omega)
        have z6 := hf.get h6 (by omega)
        have z8 := hf.get h8 (by omega)
        have z9 := hf.get h9 (by omega)
        have z10 := hf.get h10 (by omega)
        have hk12 := k12
        obtain ⟨w3, rfl⟩ := va_ex6 k12 z0 z6 z8 z9 z10
        refine ab_sound ok_47 [58] 80 ?_
        refine And.intro (fun h_9 => absurd h_9 (nI_ge hi (by omega))) (fun _ => ?_)
        refine And.intro (fun h_9 => absurd h_9 (hnn v hv)) (fun _ => ?_)
        refine And.intro (vp_in_nI (by omega) (by omega)) ?_
        refine And.intro (vp_in_nI (by omega) (by omega)) ?_
        refine And.intro (vp_in_nI (by omega) (by omega)) ?_
        have hb : (bsV (some v)).toNatClampNeg = v := nI_clamp (by omega)
        rw [hb, g9 v hv, g10 v hv, g8 v hv]
        (refine Exists.intro 0 ?_; refine ⟨0, _, Nat.zero_le _, Nat.zero_le _, k_join _ _ _ (kSp K v).toInt L _ _ (i32_64 _) (by omega) hk12 k13 k14 k15 hpa, ?_⟩; rintro _ w4 _ ⟨rfl, rfl, a1, a2, u4, d4, s4, a3, a4, a5, a6⟩)
        have y0 : w4 59 = oKit 59 (nI nr) (nI nw) (nI np) nm := a1.get rfl (by omega)
        have y6 : w4 65 = aI 12 f6 := a1.get rfl (by omega)
        have hjl := (jn_len (a := (kUp K v).toInt64) (b := (kLo K v).toInt64) (s := (kSp K v).toInt) L).2
        have ih := ih w4 (kBs K v) _ u4 d4 s4 (hf.trans a1) (fun b hb => by have := (w1 b hb).1; omega) (by rw [show 4 - (i + 1) = 3 - i by omega]; exact hL) (by omega) a2 a3 a4 a5 a6
        obtain ⟨w4, rfl⟩ := va_ex2 y0 y6
        refine And.intro (vp_in_nI (by omega) (by omega)) ?_
        rw [hb, g6 v hv]
        exact ab_ev_of ih (by rw [nI_s i]; rfl) rfl rfl
  have fA : Fr (fun k => 12 ≤ k ∧ k ≤ 15) w (va_up w 12 (oPA (nI 0) (lN 1))) := Fr.refl.up (by omega)
  have first := k_join (X := X) (l := l) (kSu K (kPw K p)).toInt64 (kSl K (kPw K p)).toInt64 (kPo K p).toInt64 (kPo K p).toInt [] (va_up w 12 (oPA (nI 0) (lN 1))) n (tc := lN 1) (i32_64 _) (by show 0 < 5; omega) va_us ((va_un (by omega)).trans k13) ((va_un (by omega)).trans k14) ((va_un (by omega)).trans k15) (fun i hi => absurd hi (Nat.not_lt_zero _))
  have y0 := fA.get h0 (by omega)
  have y11 := fA.get h11 (by omega)
  have y12 := fA.get h12 (by omega)
  have y13 := fA.get h13 (by omega)
  have y14 := fA.get h14 (by omega)
  have y12' : (va_up w 12 (oPA (nI 0) (lN 1))) 12 = oPA (nI 0) (lN 1) := va_us
  have at10 : ab_Ev X l i_PA_gather 10 [some (.ref 12), some (.ref 59), some (.int (nI p)), none, none] [] (va_up w 12 (oPA (nI 0) (lN 1))) n 0 0 (qV fun w' n' => n = n' ∧ Fr (fun k => 12 ≤ k ∧ k ≤ 16) w w' ∧ PnC w' K p) := by
    generalize hW9 : va_up w 12 (oPA (nI 0) (lN 1)) = W9 at *
    obtain ⟨W9, rfl⟩ := va_ex6 y12' y0 y13 y11 y12 y14
    refine ab_sound ok_47 [58] 80 ?_
    refine And.intro (fun h_9 => absurd h_9 (nI_pos (by omega))) (fun _ => ?_)
    refine And.intro (fun _ => ?_) (fun h_9 => absurd (nI_lt hp (by omega)) h_9)
    refine And.intro (vp_in_nI (by omega) (by omega)) ?_
    rw [nI_clamp (by omega), g13 p hp]
    refine And.intro (vp_in_nI (by omega) (by omega)) ?_
    refine And.intro (vp_in_nI (by omega) (by omega)) ?_
    refine And.intro (vp_in_nI (by omega) (by omega)) ?_
    rw [nI_clamp (by omega), nI_clamp (by omega), g11 _ p1, g12 _ p1, g14 p hp]
    (refine Exists.intro 0 ?_; refine ⟨0, _, Nat.zero_le _, Nat.zero_le _, first, ?_⟩; rintro _ w4 _ ⟨rfl, rfl, a1, a2, u4, d4, s4, a3, a4, a5, a6⟩)
    exact ab_ev_of (loop 0 (by omega) w4 (some (kPw K p)) _ u4 d4 s4 (fA.trans a1) (fun v hv => by cases hv; exact p1) rfl (jn_len (a := (kSu K (kPw K p)).toInt64) (b := (kSl K (kPw K p)).toInt64) (s := (kPo K p).toInt) []).2 a2 a3 a4 a5 a6) rfl rfl rfl
  obtain ⟨w, rfl⟩ := va_ex k12
  refine ab_mqV cd_47 om_47 rfl rfl (ab_sound ok_47 [10] 80 ?_)
  exact ab_ev_of at10 rfl rfl (by rw [va_uu]; rfl)
end GATHER
