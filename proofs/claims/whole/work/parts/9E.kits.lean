/-! the kit that is read, pure -/
abbrev KS : Type := (Nat × Nat × Nat) × (Nat → Option (Nat × Nat)) × (Nat → Nat) × (Nat → Nat) × KA
def sR (S : KS) : Nat := S.1.1
def sW (S : KS) : Nat := S.1.2.1
def sP (S : KS) : Nat := S.1.2.2
def sLo (S : KS) : Nat → Option (Nat × Nat) := S.2.1
def sRt (S : KS) : Nat → Nat := S.2.2.1
def sWt (S : KS) : Nat → Nat := S.2.2.2.1
def sK (S : KS) : KA := S.2.2.2.2
def sN (S : KS) : Nat := sR S + sW S + sP S
def soI : Option (Nat × Nat) → Nat
  | none => 3
  | some x => x.1
def soJ : Option (Nat × Nat) → Nat
  | none => 0
  | some x => x.2
def bT (S : KS) (o : Option (Nat × Nat)) : Nat := if soI o = 0 then sRt S (soJ o) else sWt S (soJ o)
def bH (S : KS) (o : Option (Nat × Nat)) : Nat := if soI o = 0 then 1 else kHt (sK S) (soJ o) + 1
def bU (S : KS) (o : Option (Nat × Nat)) : Int32 := if soI o = 0 then nI 0 else kSu (sK S) (soJ o)
def bL (S : KS) (o : Option (Nat × Nat)) : Int32 := if soI o = 0 then nI 1 else kSl (sK S) (soJ o)
def bB (o : Option (Nat × Nat)) : Option Nat := if soI o = 0 then none else some (soJ o)
def sgI (b : Bool) (x : Nat) : Int := if b = true then -(x : Int) else (x : Int)
def sX (S : KS) (o : Option (Nat × Nat)) (t : Nat) (i : Bool) (u : Int) (lo : Nat) : Int := wpX i (bU S o).toInt (bL S o).toInt (arU u lo) (arL u lo : Int) t (bT S o)
def sY (S : KS) (o : Option (Nat × Nat)) (t : Nat) (i : Bool) (u : Int) (lo : Nat) : Int := wpY i (bU S o).toInt (bL S o).toInt (arU u lo) (arL u lo : Int) t (bT S o)
def sO (S : KS) (o : Option (Nat × Nat)) (t : Nat) (i : Bool) (u : Int) (lo : Nat) : Bool := wpO i (bU S o).toInt (bL S o).toInt (arU u lo) (arL u lo : Int) t (bT S o)
def sSp (S : KS) (o : Option (Nat × Nat)) (t : Nat) (i : Bool) : Int32 := if i = true then nI (bT S o) - nI t else nI (bT S o) + nI t
def adR (S : KS) (c t : Nat) : KS := ((sR S + 1, sW S, sP S), va_up (sLo S) c (some (0, sR S)), va_up (sRt S) (sR S) t, sWt S, sK S)
def adW (S : KS) (c t : Nat) (i : Bool) (o : Option (Nat × Nat)) (u : Int) (lo : Nat) : KS := ((sR S, sW S + 1, sP S), va_up (sLo S) c (some (1, sW S)), sRt S, va_up (sWt S) (sW S) t, (va_up (kBs (sK S)) (sW S) (bB o), va_up (kUp (sK S)) (sW S) (Int32.ofInt (arU u lo)), va_up (kLo (sK S)) (sW S) (nI (arL u lo)), va_up (kSp (sK S)) (sW S) (sSp S o t i), va_up (kSu (sK S)) (sW S) (Int32.ofInt (sX S o t i u lo)), va_up (kSl (sK S)) (sW S) (Int32.ofInt (sY S o t i u lo)), kPw (sK S), kPo (sK S), va_up (kHt (sK S)) (sW S) (bH S o)))
def adP (S : KS) (c v : Nat) (x : Int) : KS := ((sR S, sW S, sP S + 1), va_up (sLo S) c (some (2, sP S)), sRt S, sWt S, (kBs (sK S), kUp (sK S), kLo (sK S), kSp (sK S), kSu (sK S), kSl (sK S), va_up (kPw (sK S)) (sP S) v, va_up (kPo (sK S)) (sP S) (Int32.ofInt x), kHt (sK S)))
/-- what the kit keeps to -/
def LoOk (S : KS) : Prop := ∀ c x, sLo S c = some x → vd c ∧ ((x.1 = 0 ∧ x.2 < sR S) ∨ (x.1 = 1 ∧ x.2 < sW S) ∨ (x.1 = 2 ∧ x.2 < sP S))
def KSok (S : KS) : Prop := (sR S ≤ 4 ∧ sW S ≤ 12 ∧ sP S ≤ 8) ∧ (∀ i, i < sR S → 3 ≤ sRt S i ∧ sRt S i ≤ 200) ∧ (∀ i, i < sW S → 3 ≤ sWt S i ∧ sWt S i ≤ 200) ∧ KAok (sK S) (sW S) (sP S) ∧ LoOk S
theorem upE {α : Type} {f : Nat → α} {k j : Nat} {a : α} : va_up f k a j = if j = k then a else f j := rfl
theorem upL {f : Nat → Option (Nat × Nat)} {c d : Nat} {y x : Nat × Nat} (h : va_up f c (some y) d = some x) : (d = c ∧ x = y) ∨ (d ≠ c ∧ f d = some x) := by
  rw [upE] at h
  by_cases e : d = c
  · rw [if_pos e] at h
    exact Or.inl ⟨e, (Option.some.inj h).symm⟩
  · rw [if_neg e] at h
    exact Or.inr ⟨e, h⟩
theorem adR_ok {S : KS} {c t : Nat} (h : KSok S) (hc : vd c) (h4 : sR S < 4) (ht : 3 ≤ t ∧ t ≤ 200) : KSok (adR S c t) := by
  obtain ⟨h1, h2, h3, h5, h6⟩ := h
  refine ⟨⟨by show sR S + 1 ≤ 4; omega, h1.2⟩, fun i hi => ?_, h3, h5, fun d x hx => ?_⟩
  · show 3 ≤ va_up (sRt S) (sR S) t i ∧ va_up (sRt S) (sR S) t i ≤ 200
    rw [upE]
    have hi : i < sR S + 1 := hi
    by_cases e : i = sR S
    · rw [if_pos e]; exact ht
    · rw [if_neg e]; exact h2 i (by omega)
  · rcases upL hx with ⟨e1, e2⟩ | ⟨e1, e2⟩
    · rw [e1, e2]
      exact ⟨hc, Or.inl ⟨rfl, by show sR S < sR S + 1; omega⟩⟩
    · obtain ⟨g1, g2⟩ := h6 d x e2
      refine ⟨g1, g2.imp (fun z => ⟨z.1, ?_⟩) id⟩
      show x.2 < sR S + 1
      omega
theorem adP_ok {S : KS} {c v : Nat} {x : Int} (h : KSok S) (hc : vd c) (h4 : sP S < 8) (hv : v < sW S) (hx : x.natAbs ≤ 200) : KSok (adP S c v x) := by
  obtain ⟨h1, h2, h3, h5, h6⟩ := h
  refine ⟨⟨h1.1, h1.2.1, by show sP S + 1 ≤ 8; omega⟩, h2, h3, ⟨⟨h5.1.1, by show sP S + 1 ≤ 8; omega⟩, h5.2.1, fun p hp => ?_⟩, fun d y hy => ?_⟩
  · show va_up (kPw (sK S)) (sP S) v p < sW S ∧ (va_up (kPo (sK S)) (sP S) (Int32.ofInt x) p).toInt.natAbs ≤ 200
    rw [upE, upE]
    have hp : p < sP S + 1 := hp
    by_cases e : p = sP S
    · rw [if_pos e, if_pos e, o32_i (by omega)]; exact ⟨hv, hx⟩
    · rw [if_neg e, if_neg e]; exact h5.2.2 p (by omega)
  · rcases upL hy with ⟨e1, e2⟩ | ⟨e1, e2⟩
    · rw [e1, e2]
      exact ⟨hc, Or.inr (Or.inr ⟨rfl, by show sP S < sP S + 1; omega⟩)⟩
    · obtain ⟨g1, g2⟩ := h6 d y e2
      refine ⟨g1, g2.imp id (Or.imp id (fun z => ⟨z.1, ?_⟩))⟩
      show y.2 < sP S + 1
      omega
/-- a base that a wheel may stand on -/
def BsOk (S : KS) (o : Option (Nat × Nat)) : Prop := (soI o = 0 ∧ soJ o < sR S) ∨ (soI o = 1 ∧ soJ o < sW S)
theorem bs_lo {S : KS} {c : Nat} (h : LoOk S) (h1 : soI (sLo S c) ≤ 1) : BsOk S (sLo S c) := by
  cases e : sLo S c with
  | none => rw [e] at h1; exact absurd h1 (by show ¬ 3 ≤ 1; omega)
  | some x =>
    rw [e] at h1
    have h1 : x.1 ≤ 1 := h1
    obtain ⟨_, g⟩ := h c x e
    rcases g with g | g | g
    · exact Or.inl g
    · exact Or.inr g
    · omega
theorem bs_wn {S : KS} {o : Option (Nat × Nat)} {t lo : Nat} {u : Int} (h : KSok S) (hb : BsOk S o) (hu : u.natAbs ≤ 99) (h1 : 1 ≤ lo) (h2 : lo ≤ 99) (ht : 3 ≤ t ∧ t ≤ 200) : WN (bU S o).toInt (bL S o).toInt (arU u lo) (arL u lo : Int) t (bT S o) := by
  obtain ⟨g1, g2, g3⟩ := ar_ok hu h1 h2
  unfold WN bU bL bT
  rcases hb with ⟨b1, b2⟩ | ⟨b1, b2⟩
  · rw [if_pos b1, if_pos b1, if_pos b1]
    have := h.2.1 _ b2
    refine ⟨by rw [nI_toInt (by omega)]; omega, by rw [nI_toInt (by omega)]; omega, g1, by omega, ht, this.1, this.2⟩
  · rw [if_neg (by omega), if_neg (by omega), if_neg (by omega)]
    have a := h.2.2.1 _ b2
    have b := h.2.2.2.1.2.1 _ b2
    obtain ⟨_, _, _, _, _, k1, k2, k3⟩ := b
    exact ⟨k1, ⟨k2, k3⟩, g1, by omega, ht, a.1, a.2⟩
theorem bT_bd {S : KS} {o : Option (Nat × Nat)} (h : KSok S) (hb : BsOk S o) : 3 ≤ bT S o ∧ bT S o ≤ 200 := by
  unfold bT
  rcases hb with ⟨b1, b2⟩ | ⟨b1, b2⟩
  · rw [if_pos b1]; exact h.2.1 _ b2
  · rw [if_neg (by omega)]; exact h.2.2.1 _ b2
theorem bH_bd {S : KS} {o : Option (Nat × Nat)} (h : KSok S) (hb : BsOk S o) : 1 ≤ bH S o ∧ bH S o ≤ 5 := by
  unfold bH
  rcases hb with ⟨b1, b2⟩ | ⟨b1, b2⟩
  · rw [if_pos b1]; omega
  · rw [if_neg (by omega)]
    have b := (h.2.2.2.1.2.1 _ b2).2.1
    omega
theorem sSp_i {S : KS} {o : Option (Nat × Nat)} {t : Nat} {i : Bool} (h : KSok S) (hb : BsOk S o) (ht : 3 ≤ t ∧ t ≤ 200) : (sSp S o t i).toInt = (if i = true then (bT S o : Int) - (t : Int) else (bT S o : Int) + (t : Int)) := by
  have := bT_bd h hb
  unfold sSp
  cases i
  · rw [if_neg (by decide), if_neg (by decide), nI_add, nI_toInt (by omega)]
    omega
  · rw [if_pos rfl, if_pos rfl, Int32.toInt_sub, nI_toInt (by omega), nI_toInt (by omega)]
    exact Int.bmod_eq_of_le_mul_two (by omega) (by omega)
theorem adW_ok {S : KS} {c t lo : Nat} {i : Bool} {o : Option (Nat × Nat)} {u : Int} (h : KSok S) (hc : vd c) (h12 : sW S < 12) (ht : 3 ≤ t ∧ t ≤ 200) (hb : BsOk S o) (hH : bH S o ≤ 4) (hu : u.natAbs ≤ 99) (h1 : 1 ≤ lo) (h2 : lo ≤ 99) (hO : sO S o t i u lo = true) : KSok (adW S c t i o u lo) := by
  have wn := bs_wn (t := t) h hb hu h1 h2 ht
  obtain ⟨_, _, y3, y4, y5⟩ := wp_xy (i := i) wn
  have hO : wpX i (bU S o).toInt (bL S o).toInt (arU u lo) (arL u lo : Int) t (bT S o) ≤ 9999 ∧ -9999 ≤ wpX i (bU S o).toInt (bL S o).toInt (arU u lo) (arL u lo : Int) t (bT S o) ∧ wpY i (bU S o).toInt (bL S o).toInt (arU u lo) (arL u lo : Int) t (bT S o) ≤ 9999 := of_decide_eq_true hO
  have hX : (Int32.ofInt (sX S o t i u lo)).toInt = sX S o t i u lo := o32_i (by unfold sX; omega)
  have hY : (Int32.ofInt (sY S o t i u lo)).toInt = sY S o t i u lo := o32_i (by unfold sY; omega)
  obtain ⟨g1, g2, g3⟩ := ar_ok hu h1 h2
  have tb := bT_bd h hb
  have hb2 := bH_bd h hb
  have sp := sSp_i (i := i) h hb ht
  obtain ⟨k1, k2, k3, k5, k6⟩ := h
  refine ⟨⟨k1.1, by show sW S + 1 ≤ 12; omega, k1.2.2⟩, k2, fun j hj => ?_, ⟨⟨by show sW S + 1 ≤ 12; omega, k5.1.2⟩, fun v hv => ?_, fun p hp => ?_⟩, fun d x hx => ?_⟩
  · show 3 ≤ va_up (sWt S) (sW S) t j ∧ va_up (sWt S) (sW S) t j ≤ 200
    rw [upE]
    have hj : j < sW S + 1 := hj
    by_cases e : j = sW S
    · rw [if_pos e]; exact ht
    · rw [if_neg e]; exact k3 j (by omega)
  · have hv : v < sW S + 1 := hv
    show (∀ b, va_up (kBs (sK S)) (sW S) (bB o) v = some b → b < v ∧ va_up (kHt (sK S)) (sW S) (bH S o) v = va_up (kHt (sK S)) (sW S) (bH S o) b + 1) ∧ (1 ≤ va_up (kHt (sK S)) (sW S) (bH S o) v ∧ va_up (kHt (sK S)) (sW S) (bH S o) v ≤ 4) ∧ (va_up (kUp (sK S)) (sW S) (Int32.ofInt (arU u lo)) v).toInt.natAbs ≤ 99 ∧ (1 ≤ (va_up (kLo (sK S)) (sW S) (nI (arL u lo)) v).toInt ∧ (va_up (kLo (sK S)) (sW S) (nI (arL u lo)) v).toInt ≤ 99) ∧ (va_up (kSp (sK S)) (sW S) (sSp S o t i) v).toInt.natAbs ≤ 400 ∧ (va_up (kSu (sK S)) (sW S) (Int32.ofInt (sX S o t i u lo)) v).toInt.natAbs ≤ 9999 ∧ 1 ≤ (va_up (kSl (sK S)) (sW S) (Int32.ofInt (sY S o t i u lo)) v).toInt ∧ (va_up (kSl (sK S)) (sW S) (Int32.ofInt (sY S o t i u lo)) v).toInt ≤ 9999
    by_cases e : v = sW S
    · subst e
      rw [va_us, va_us, va_us, va_us, va_us, va_us, va_us, o32_i (by omega), nI_toInt (by omega), sp, hX, hY]
      refine ⟨fun b hbb => ?_, ⟨hb2.1, hH⟩, g1, ⟨by omega, by omega⟩, ?_, by unfold sX; omega, by unfold sY; omega, by unfold sY; omega⟩
      · unfold bB at hbb
        rcases hb with ⟨b1, b2⟩ | ⟨b1, b2⟩
        · rw [if_pos b1] at hbb; exact absurd hbb (by intro z; cases z)
        · rw [if_neg (by omega)] at hbb
          have hbb : soJ o = b := Option.some.inj hbb
          rw [va_un (by omega)]
          refine ⟨by omega, ?_⟩
          unfold bH
          rw [if_neg (by omega), hbb]
      · cases i
        · rw [if_neg (by decide)]; omega
        · rw [if_pos rfl]; omega
    · obtain ⟨w1, w2⟩ := k5.2.1 v (by omega)
      rw [va_un e, va_un e, va_un e, va_un e, va_un e, va_un e, va_un e]
      refine ⟨fun b hbb => ?_, w2⟩
      have := w1 b hbb
      rw [va_un (by omega)]
      exact this
  · have q := k5.2.2 p hp
    exact ⟨by show kPw (sK S) p < sW S + 1; omega, q.2⟩
  · rcases upL hx with ⟨e1, e2⟩ | ⟨e1, e2⟩
    · rw [e1, e2]
      exact ⟨hc, Or.inr (Or.inl ⟨rfl, by show sW S < sW S + 1; omega⟩)⟩
    · obtain ⟨z1, z2⟩ := k6 d x e2
      refine ⟨z1, z2.imp id (Or.imp (fun z => ⟨z.1, ?_⟩) id)⟩
      show x.2 < sW S + 1
      omega
/-! the reading of a kit's text, pure -/
def bnd {α : Type} (x : Er) (k : Nat → Sum (Nat × Nat) α) : Sum (Nat × Nat) α :=
  match x with
  | .inl e => .inl e
  | .inr p => k p
abbrev Out : Type := Sum (Nat × Nat) (Nat × KS)
def qNew (T : TE) (S : KS) (p : Nat) : Er := if tkN T p = true then (if soI (sLo S (tV T p)) = 3 then .inr (tX T p) else .inl (3, tP T p)) else .inl (1, tP T p)
def qIO (T : TE) (p : Nat) : Er := if tkW T p 3 = true ∨ tkW T p 4 = true then .inr (tX T p) else .inl (1, tP T p)
def qBs (T : TE) (S : KS) (t : Nat) (i : Bool) (p : Nat) : Er := if tkN T p = true then (if soI (sLo S (tV T p)) ≤ 1 then (if i = true ∧ bT S (sLo S (tV T p)) ≤ t then .inl (2, tP T p) else if 4 < bH S (sLo S (tV T p)) then .inl (4, tP T p) else .inr (tX T p)) else .inl (3, tP T p)) else .inl (1, tP T p)
def qWh (T : TE) (S : KS) (p : Nat) : Er := if tkN T p = true then (if soI (sLo S (tV T p)) = 1 then .inr (tX T p) else .inl (3, tP T p)) else .inl (1, tP T p)
def qAt (T : TE) (p : Nat) : Er := if tkW T p 5 = true then bnd (qNum T 0 99 (qMin T (tX T p))) fun a => bnd (qSig T 47 a) fun b => qNum T 1 99 b else .inr p
def atU (T : TE) (p : Nat) : Int := if tkW T p 5 = true then sgI (tkS T (tX T p) 45) (tV T (qMin T (tX T p))) else 1
def atL (T : TE) (p : Nat) : Nat := if tkW T p 5 = true then tV T (tX T (tX T (qMin T (tX T p)))) else 1
def rdR (T : TE) (S : KS) (p : Nat) : Out := if 4 ≤ sR S then .inl (4, tP T p) else bnd (qNew T S (tX T p)) fun p2 => bnd (qNum T 3 200 p2) fun p3 => bnd (qSig T 59 p3) fun p4 => .inr (p4, adR S (tV T (tX T p)) (tV T p2))
def rdP (T : TE) (S : KS) (p : Nat) : Out := if 8 ≤ sP S then .inl (4, tP T p) else bnd (qNew T S (tX T p)) fun p2 => bnd (qWh T S p2) fun p3 => bnd (qNum T 0 200 (qMin T p3)) fun p4 => bnd (qSig T 59 p4) fun p5 => .inr (p5, adP S (tV T (tX T p)) (soJ (sLo S (tV T p2))) (sgI (tkS T p3 45) (tV T (qMin T p3))))
def rdW (T : TE) (S : KS) (p : Nat) : Out := if 12 ≤ sW S then .inl (4, tP T p) else bnd (qNew T S (tX T p)) fun p2 => bnd (qNum T 3 200 p2) fun p3 => bnd (qIO T p3) fun p4 => bnd (qBs T S (tV T p2) (tkW T p3 3) p4) fun p5 => bnd (qAt T p5) fun p6 => if tkS T p6 59 = true then (if sO S (sLo S (tV T p4)) (tV T p2) (tkW T p3 3) (atU T p5) (atL T p5) = true then .inr (tX T p6, adW S (tV T (tX T p)) (tV T p2) (tkW T p3 3) (sLo S (tV T p4)) (atU T p5) (atL T p5)) else .inl (5, tP T p6)) else .inl (1, tP T p6)
def rdL (T : TE) (S : KS) (p : Nat) : Out := if tkW T p 0 = true then rdR T S p else if tkW T p 1 = true then rdW T S p else if tkW T p 2 = true then rdP T S p else .inl (1, tP T p)
def rdK (T : TE) : Nat → KS → Nat → Out
  | 0, _, _ => .inl (0, 0)
  | f + 1, S, p => if tK T p = 5 then .inl (1, tP T p) else if tK T p = 0 then .inr (p, S) else match rdL T S p with
    | .inl e => .inl e
    | .inr (q, S2) => rdK T f S2 q
theorem bnd_l {α : Type} {x : Er} {k : Nat → Sum (Nat × Nat) α} {e : Nat × Nat} (h : x = .inl e) : bnd x k = .inl e := by rw [h]; rfl
theorem bnd_r {α : Type} {x : Er} {k : Nat → Sum (Nat × Nat) α} {p : Nat} (h : x = .inr p) : bnd x k = k p := by rw [h]; rfl
