/-! a part of a mix, for the class -/
abbrev PD : Type := Nat × Int × Pt
abbrev MS : Type := Nat × (Nat → PD)
def qNo (T : TE) (p : Nat) : Nat := if tK T p = 3 then tX T p else p
def noV (T : TE) (p : Nat) : Nat := if tK T p = 3 then tV T p else 1
def rdPt (T : TE) (N : Nat → Nat) (S : MS) (p : Nat) (sg : Bool) : Sum (Nat × Nat) (Nat × PD) := if tK T (qNo T p) ≠ 2 ∨ tV T (qNo T p) < 1 ∨ 8 < tV T (qNo T p) then .inl (1, tP T (qNo T p)) else if N (tV T (qNo T p) - 1) = 0 ∨ (0 < S.1 ∧ N (tV T (qNo T p) - 1) ≠ N (S.2 0).1) then .inl (3, tP T (qNo T p)) else match chg T 700 (tX T (qNo T p)) (0, 0, false, false) with
  | .inl e => .inl e
  | .inr y => .inr (y.1, (tV T (qNo T p) - 1, wyI sg (noV T p : Int), y.2))
def F511 (k : Nat) : Prop := k = 1 ∨ (5 ≤ k ∧ k ≤ 11)
def SN (w : ab_W) (N : Nat → Nat) : Prop := (∃ g : Nat → Option Nat, w 40 = .inl (3, 8, .inr (.inr (.inr (.inr g)))) ∧ ∀ t, t < 8 → g t = some (74 + 2 * t)) ∧ ∀ t, t < 8 → N t ≤ 60 ∧ ∃ p a, w (74 + 2 * t) = oSheet (nI (N t)) p a
theorem SN.fr {w w' : ab_W} {N : Nat → Nat} (h : SN w N) (hf : Fr F511 w w') : SN w' N := by
  obtain ⟨⟨g, h1, h2⟩, h3⟩ := h
  refine ⟨⟨g, hf.get h1 (by unfold F511; omega), h2⟩, fun t ht => ?_⟩
  obtain ⟨a, p, b, c⟩ := h3 t ht
  exact ⟨a, p, b, hf.get c (by unfold F511; omega)⟩
theorem KSh.sn {w : ab_W} {n : Nat} {N : Nat → Nat} {R : Nat → Nat → Nat → Int64} (h : KSh w n N R) : SN w N := by
  obtain ⟨a, -, h1, h3, -, -, h6⟩ := h
  refine ⟨h1, fun t ht => ?_⟩
  obtain ⟨⟨v, p, k1, k2⟩, -⟩ := h6 t (by omega)
  have e := h3 t ht
  rw [k2 ht, qp_lt ht] at k1
  exact ⟨by omega, p, _, k1⟩
def CMx (w : ab_W) (S : MS) (r1 r2 : Int32) : Prop := w 5 = oMR r1 r2 (nI S.1) ∧ (∃ f, w 6 = aI 12 f ∧ ∀ j, j < S.1 → f j = nI (S.2 j).1) ∧ (∃ f, w 7 = aI 12 f ∧ ∀ j, j < S.1 → f j = Int32.ofInt (S.2 j).2.1) ∧ (∃ f, w 8 = aI 12 f ∧ ∀ j, j < S.1 → f j = Int32.ofInt (S.2 j).2.2.1) ∧ (∃ f, w 9 = aI 12 f ∧ ∀ j, j < S.1 → f j = Int32.ofInt (S.2 j).2.2.2.1) ∧ (∃ f, w 10 = aI 12 f ∧ ∀ j, j < S.1 → f j = wyV (S.2 j).2.2.2.2.1) ∧ ∃ f, w 11 = aZ 12 f ∧ ∀ j, j < S.1 → f j = b01 (S.2 j).2.2.2.2.2
def CMs (w : ab_W) : Prop := (∃ a b c, w 5 = oMR a b c) ∧ (∃ f, w 6 = aI 12 f) ∧ (∃ f, w 7 = aI 12 f) ∧ (∃ f, w 8 = aI 12 f) ∧ (∃ f, w 9 = aI 12 f) ∧ (∃ f, w 10 = aI 12 f) ∧ ∃ f, w 11 = aZ 12 f
theorem CMx.sh {w : ab_W} {S : MS} {r1 r2 : Int32} (h : CMx w S r1 r2) : CMs w := by
  obtain ⟨h5, ⟨_, h6, _⟩, ⟨_, h7, _⟩, ⟨_, h8, _⟩, ⟨_, h9, _⟩, ⟨_, h10, _⟩, ⟨_, h11, _⟩⟩ := h
  exact ⟨⟨_, _, _, h5⟩, ⟨_, h6⟩, ⟨_, h7⟩, ⟨_, h8⟩, ⟨_, h9⟩, ⟨_, h10⟩, ⟨_, h11⟩⟩
def mpQ (T : TE) (w : ab_W) (n : Nat) (r1 r2 : Int32) (S : MS) (o : Sum (Nat × Nat) (Nat × PD)) : ab_Q := fun v w' n' => ∃ b : Bool, v = some (.int (b01 b)) ∧ n = n' ∧ Fr F511 w w' ∧ (∀ e, o = .inl e → b = false ∧ (∃ r3, w' 5 = oMR (nI e.1) (nI e.2) r3) ∧ isTp T (w' 1) ∧ CMs w') ∧ (∀ y, o = .inr y → b = true ∧ (∃ g, w' 1 = oTk T y.1 g) ∧ CMx w' (S.1 + 1, va_up S.2 S.1 y.2) r1 r2)
theorem mpQ_l {T : TE} {w w' : ab_W} {n k pl : Nat} {r1 r2 r3 : Int32} {S : MS} {o : Sum (Nat × Nat) (Nat × PD)} (ho : .inl (k, pl) = o) (hf : Fr F511 w w') (h5 : w' 5 = oMR (nI k) (nI pl) r3) (h1 : isTp T (w' 1)) (hs : CMs w') : mpQ T w n r1 r2 S o (some (.int (nI 0))) w' n := by
  refine ⟨false, rfl, rfl, hf, fun e he => ?_, fun y hy => ?_⟩
  · have z : (k, pl) = e := Sum.inl.inj (ho.trans he)
    subst z
    exact ⟨rfl, ⟨r3, h5⟩, h1, hs⟩
  · have z := ho.trans hy
    cases z
section MPART
variable {X : ab_X} {l : Launch}
theorem k_mp100 (T : TE) (p p1 : Nat) (sg : Bool) (w w1 : ab_W) (n : Nat) {g r1 r2 num : Int32} {S : MS} {x6 : Int32} {O : Sum (Nat × Nat) (Nat × PD)} (hO : (match chg T 700 (tX T p1) (0, 0, false, false) with
  | .inl e => .inl e
  | .inr y => .inr (y.1, (tV T p1 - 1, wyI sg (noV T p : Int), y.2))) = O) (hnum : num = nI (noV T p)) (hv : 1 ≤ tV T p1 ∧ tV T p1 ≤ 8) (hk2 : tK T p1 = 2) (hS : S.1 < 12) (hM : tM T ≤ 200) (hL : tL T ≤ 640) (hp : p1 ≤ tL T) (fr : Fr F511 w w1) (h1 : w1 1 = oTk T p1 g) (h2 : w1 2 = aI 640 (tB T)) (hC : CMx w1 S r1 r2) :
    ab_Ev X l i_MR_readPart 100 [some (.ref 5), some (.ref 1), some (.ref 40), some (.int (wyV sg)), some (.int num), some (.int (nI (tV T p1 - 1))), some (.int x6), none] [] w1 n 0 0 (mpQ T w n r1 r2 S O) := by
  subst hnum
  obtain ⟨h5, ⟨f6, h6, u6⟩, ⟨f7, h7, u7⟩, ⟨f8, h8, u8⟩, ⟨f9, h9, u9⟩, ⟨f10, h10, u10⟩, ⟨f11, h11, u11⟩⟩ := hC
  have hx := tX_le hp (by omega) (by omega)
  obtain ⟨w1, rfl⟩ : ∃ w0, w1 = va_up (va_up (va_up (va_up (va_up (va_up (va_up (va_up (va_up w0 11 (aZ 12 f11)) 10 (aI 12 f10)) 9 (aI 12 f9)) 8 (aI 12 f8)) 7 (aI 12 f7)) 6 (aI 12 f6)) 5 (oMR r1 r2 (nI S.1))) 2 (aI 640 (tB T))) 1 (oTk T p1 g) := ⟨w1, by rw [← va_self h11, ← va_self h10, ← va_self h9, ← va_self h8, ← va_self h7, ← va_self h6, ← va_self h5, ← va_self h2, ← va_self h1]⟩
  have at175 : ∀ (b : Bool) (w2 : ab_W) (q1 q2 : Int32) (x6 : Int32), w2 5 = oMR q1 q2 (nI S.1) → mpQ T w n r1 r2 S O (some (.int (b01 b))) (va_up w2 5 (oMR q1 q2 (nI (S.1 + 1)))) n → ab_Ev X l i_MR_readPart 175 [some (.ref 5), some (.ref 1), some (.ref 40), some (.int (wyV sg)), some (.int (nI (noV T p))), some (.int (nI (tV T p1 - 1))), some (.int x6), some (.int (b01 b))] [] w2 n 0 0 (mpQ T w n r1 r2 S O) := by
    intro b w2 q1 q2 x6 y5 hq
    obtain ⟨w2, rfl⟩ := va_ex y5
    rw [va_uu, nI_s S.1] at hq
    refine ab_sound ok_29 [] 80 ?_
    cases b
    · refine ⟨rfl, ?_⟩
      rw [va_uu]
      exact hq
    · refine ⟨rfl, ?_⟩
      rw [va_uu]
      exact hq
  have at138 : ab_Ev X l i_MR_readPart 138 [some (.ref 5), some (.ref 1), some (.ref 40), some (.int (wyV sg)), some (.int (nI (noV T p))), some (.int (nI (tV T p1 - 1))), some (.int x6), none] [] (va_up (va_up (va_up (va_up (va_up (va_up (va_up (va_up (va_up (va_up (va_up (va_up (va_up w1 11 (aZ 12 f11)) 10 (aI 12 f10)) 9 (aI 12 f9)) 8 (aI 12 f8)) 7 (aI 12 f7)) 6 (aI 12 f6)) 5 (oMR r1 r2 (nI S.1))) 2 (aI 640 (tB T))) 1 (oTk T p1 g)) 1 (oTk T (tX T p1) (cV T p1 g))) 6 (aI 12 (upd f6 S.1 (nI (tV T p1 - 1))))) 7 (aI 12 (upd f7 S.1 (Int32.ofInt (wyI sg (noV T p : Int)))))) 8 (aI 12 (upd f8 S.1 (nI 0)))) n 0 0 (mpQ T w n r1 r2 S O) := by
    refine ab_sound ok_29 [175] 80 ?_
    refine And.intro (vp_in_nI hS (by omega)) ?_
    rw [nI_clamp (by omega)]
    refine And.intro (vp_in_nI hS (by omega)) ?_
    rw [nI_clamp (by omega)]
    refine And.intro (vp_in_nI hS (by omega)) ?_
    rw [nI_clamp (by omega), show vp_nar .boolean (nI 0) = b01 false from narB (v := false)]
    have frw := (((((((fr.up (k := 1) (c := oTk T (tX T p1) (cV T p1 g)) (Or.inl rfl)).up (k := 6) (c := aI 12 (upd f6 S.1 (nI (tV T p1 - 1)))) (by unfold F511; omega)).up (k := 7) (c := aI 12 (upd f7 S.1 (Int32.ofInt (wyI sg (noV T p : Int))))) (by unfold F511; omega)).up (k := 8) (c := aI 12 (upd f8 S.1 (nI 0))) (by unfold F511; omega)).up (k := 9) (c := aI 12 (upd f9 S.1 (nI 0))) (by unfold F511; omega)).up (k := 10) (c := aI 12 (upd f10 S.1 (nI 1))) (by unfold F511; omega)).up (k := 11) (c := aZ 12 (upd f11 S.1 (b01 false))) (by unfold F511; omega))
    (refine Exists.intro 0 ?_; refine ⟨0, _, Nat.zero_le _, Nat.zero_le _, k_MR_readChanges T S.1 (tX T p1) (0, 0, false, false) _ _ (f8 := f8) (f9 := f9) (f10 := f10) (f11 := f11) hS hM hL hx.2 rfl rfl rfl rfl rfl rfl rfl, ?_⟩; rintro _ w2 _ ⟨b, rfl, rfl, f2, ⟨x8, y8⟩, ⟨x9, y9⟩, ⟨x10, y10⟩, ⟨x11, y11⟩, hl, hr⟩)
    have y6 : w2 6 = aI 12 (upd f6 S.1 (nI (tV T p1 - 1))) := f2.get rfl (by omega)
    have y7 : w2 7 = aI 12 (upd f7 S.1 (Int32.ofInt (wyI sg (noV T p : Int)))) := f2.get rfl (by omega)
    have fr3 := frw.trans (f2.mono (G := F511) (fun k hk => by unfold F511; omega))
    cases hc : chg T 700 (tX T p1) (0, 0, false, false) with
    | inl e =>
      obtain ⟨rfl, z5, z1⟩ := hl e hc
      rw [hc] at hO
      have hO : .inl e = O := hO
      refine ab_ev_of (at175 false w2 _ _ x6 z5 ?_) rfl rfl rfl
      exact mpQ_l hO (fr3.up (by unfold F511; omega)) rfl z1 ⟨⟨_, _, _, rfl⟩, ⟨_, y6⟩, ⟨_, y7⟩, ⟨_, y8⟩, ⟨_, y9⟩, ⟨_, y10⟩, ⟨_, y11⟩⟩
    | inr y =>
      obtain ⟨rfl, z5, ⟨g2, z1⟩, z8, z9, z10, z11⟩ := hr y hc
      rw [hc] at hO
      have hO : .inr (y.1, (tV T p1 - 1, wyI sg (noV T p : Int), y.2)) = O := hO
      refine ab_ev_of (at175 true w2 _ _ x6 z5 ?_) rfl rfl rfl
      refine ⟨true, rfl, rfl, fr3.up (by unfold F511; omega), fun e he => ?_, fun y9 hy => ?_⟩
      · have z := hO.trans he
        cases z
      · have z := Sum.inr.inj (hO.trans hy)
        subst z
        refine ⟨rfl, ⟨g2, z1⟩, ?_, ⟨_, y6, up_ex (F := fun d : PD => nI d.1) u6 rfl⟩, ⟨_, y7, up_ex (F := fun d : PD => Int32.ofInt d.2.1) u7 rfl⟩, ⟨_, z8, up_ex (F := fun d : PD => Int32.ofInt d.2.2.1) u8 rfl⟩, ⟨_, z9, up_ex (F := fun d : PD => Int32.ofInt d.2.2.2.1) u9 rfl⟩, ⟨_, z10, up_ex (F := fun d : PD => wyV d.2.2.2.2.1) u10 rfl⟩, ⟨_, z11, up_ex (F := fun d : PD => b01 d.2.2.2.2.2) u11 rfl⟩⟩
        rfl
  refine ab_sound ok_29 [138] 80 ?_
  (refine Exists.intro 0 ?_; refine ⟨0, _, Nat.zero_le _, Nat.zero_le _, k_adv T p1 _ _ hL hp (by omega) (by omega) rfl rfl, ?_⟩; refine ab_q1_elim ?_)
  refine And.intro (vp_in_nI hS (by omega)) ?_
  rw [nI_clamp (by omega)]
  refine And.intro (vp_in_nI hS (by omega)) ?_
  rw [nI_clamp (by omega), wy_mul]
  refine And.intro (vp_in_nI hS (by omega)) ?_
  rw [nI_clamp (by omega)]
  exact at138
theorem k_MR_readPart (T : TE) (p : Nat) (sg : Bool) (w : ab_W) (n : Nat) {g r1 r2 : Int32} {S : MS} {N : Nat → Nat} (hS : S.1 < 12) (hS8 : 0 < S.1 → (S.2 0).1 < 8) (hM : tM T ≤ 200) (hL : tL T ≤ 640) (hp : p ≤ tL T) (h1 : w 1 = oTk T p g) (h2 : w 2 = aI 640 (tB T)) (hC : CMx w S r1 r2) (hN : SN w N) :
    ab_C X l i_MR_readPart [.ref 5, .ref 1, .ref 40, .int (wyV sg)] w n 0 0 (mpQ T w n r1 r2 S (rdPt T N S p sg)) := by
  generalize hO : rdPt T N S p sg = O
  unfold rdPt at hO
  have hq : qNo T p ≤ tL T := by
    unfold qNo
    by_cases c : tK T p = 3
    · rw [if_pos c]; exact (tX_le hp (by omega) (by omega)).2
    · rw [if_neg c]; exact hp
  have at21 : ∀ (w1 : ab_W) (g1 num : Int32), Fr F511 w w1 → num = nI (noV T p) → w1 1 = oTk T (qNo T p) g1 → w1 2 = aI 640 (tB T) → CMx w1 S r1 r2 → ab_Ev X l i_MR_readPart 21 [some (.ref 5), some (.ref 1), some (.ref 40), some (.int (wyV sg)), some (.int num), none, none, none] [] w1 n 0 0 (mpQ T w n r1 r2 S O) := by
    intro w1 g1 num fr hnum m1 m2 mC
    generalize hp1 : qNo T p = p1 at *
    have m5 := mC.1
    have mSN := hN.fr fr
    have mCs := mC.sh
    have d100 := fun hO hv hk2 x6 => k_mp100 (X := X) (l := l) T p p1 sg w w1 n (g := g1) (r1 := r1) (r2 := r2) (num := num) (S := S) (x6 := x6) (O := O) hO hnum hv hk2 hS hM hL hq fr m1 m2 mC
    obtain ⟨-, ⟨f6, m6, u6⟩, -⟩ := mC
    obtain ⟨⟨gg, h40, h40b⟩, hsh⟩ := mSN
    by_cases hk2 : tK T p1 = 2
    · have ev := cV_eq (f := g1) hq (by omega) (by omega)
      have ek := (tk_cell (T := T) (p := p1) (by omega) (by omega)).2
      have vb := (vd_lt (tk_vd hq hk2)).1
      by_cases hv : tV T p1 < 1 ∨ 8 < tV T p1
      · rw [if_pos (Or.inr hv)] at hO
        have at49 : ∀ x5 : Option Value, ab_Ev X l i_MR_readPart 49 [some (.ref 5), some (.ref 1), some (.ref 40), some (.int (wyV sg)), some (.int num), x5, none, none] [] w1 n 0 0 (mpQ T w n r1 r2 S O) := by
          intro x5
          have cf := k_MR_fail (X := X) (l := l) T p1 1 w1 n rfl m1 m5
          obtain ⟨w1, rfl⟩ := va_ex2 m1 m5
          refine ab_sound ok_29 [] 80 ?_
          (refine Exists.intro 0 ?_; refine ⟨0, _, Nat.zero_le _, Nat.zero_le _, cf, ?_⟩; refine ab_q1_elim ?_)
          exact ⟨rfl, mpQ_l hO (fr.up (by unfold F511; omega)) rfl tk_isTp ⟨⟨_, _, _, rfl⟩, mCs.2⟩⟩
        obtain ⟨w1, rfl⟩ := va_ex2 m1 m5
        refine ab_sound ok_29 [49] 80 ?_
        refine And.intro (fun h_9 => absurd ((by show nI (cK T p1) = nI 2; rw [ek, hk2])) h_9) (fun _ => ?_)
        rcases hv with hv | hv
        · refine And.intro (fun _ => ?_) (fun h_9 => absurd ((by show cV T p1 g1 - nI 1 < 0; rw [ev, show tV T p1 = 0 by omega]; decide)) h_9)
          exact at49 _
        · have e1 : cV T p1 g1 - nI 1 = nI (tV T p1 - 1) := by rw [ev, pk_sub (by omega)]
          refine And.intro (fun h_9 => absurd h_9 ((by show ¬ cV T p1 g1 - nI 1 < 0; rw [e1]; exact nI_pos (by omega)))) (fun _ => ?_)
          refine And.intro (fun h_9 => absurd h_9 ((by show ¬ cV T p1 g1 - nI 1 < nI 8; rw [e1]; exact nI_nlt (by omega) (by omega)))) (fun _ => ?_)
          exact at49 _
      · have hv2 : 1 ≤ tV T p1 ∧ tV T p1 ≤ 8 := by omega
        rw [if_neg (fun z => z.elim (fun z => z hk2) hv)] at hO
        have e1 : cV T p1 g1 - nI 1 = nI (tV T p1 - 1) := by rw [ev, pk_sub (by omega)]
        obtain ⟨n60, pp, aa, hsl⟩ := hsh (tV T p1 - 1) (by omega)
        have at93 : N (tV T p1 - 1) = 0 ∨ (0 < S.1 ∧ N (tV T p1 - 1) ≠ N (S.2 0).1) → ∀ x6 : Option Value, ab_Ev X l i_MR_readPart 93 [some (.ref 5), some (.ref 1), some (.ref 40), some (.int (wyV sg)), some (.int num), some (.int (nI (tV T p1 - 1))), x6, none] [] w1 n 0 0 (mpQ T w n r1 r2 S O) := by
          intro hn x6
          rw [if_pos hn] at hO
          have cf := k_MR_fail (X := X) (l := l) T p1 3 w1 n rfl m1 m5
          obtain ⟨w1, rfl⟩ := va_ex2 m1 m5
          refine ab_sound ok_29 [] 80 ?_
          (refine Exists.intro 0 ?_; refine ⟨0, _, Nat.zero_le _, Nat.zero_le _, cf, ?_⟩; refine ab_q1_elim ?_)
          exact ⟨rfl, mpQ_l hO (fr.up (by unfold F511; omega)) rfl tk_isTp ⟨⟨_, _, _, rfl⟩, mCs.2⟩⟩
        have at100 : ¬ (N (tV T p1 - 1) = 0 ∨ (0 < S.1 ∧ N (tV T p1 - 1) ≠ N (S.2 0).1)) → ∀ x6 : Int32, ab_Ev X l i_MR_readPart 100 [some (.ref 5), some (.ref 1), some (.ref 40), some (.int (wyV sg)), some (.int num), some (.int (nI (tV T p1 - 1))), some (.int x6), none] [] w1 n 0 0 (mpQ T w n r1 r2 S O) := by
          intro hn x6
          rw [if_neg hn] at hO
          exact d100 hO hv2 hk2 x6
        have hsl0 : ∀ t, t < 8 → ∃ pp aa, w1 (74 + 2 * t) = oSheet (nI (N t)) pp aa := fun t ht => (hsh t ht).2
        have hnl : ∀ t, t < 8 → N t ≤ 60 := fun t ht => (hsh t ht).1
        obtain ⟨w1, rfl⟩ : ∃ w0, w1 = va_up (va_up (va_up (va_up w0 40 (.inl (3, 8, .inr (.inr (.inr (.inr gg)))))) 6 (aI 12 f6)) 5 (oMR r1 r2 (nI S.1))) 1 (oTk T p1 g1) := ⟨w1, by rw [← va_self h40, ← va_self m6, ← va_self m5, ← va_self m1]⟩
        refine ab_sound ok_29 [93, 100] 80 ?_
        refine And.intro (fun h_9 => absurd ((by show nI (cK T p1) = nI 2; rw [ek, hk2])) h_9) (fun _ => ?_)
        refine And.intro (fun h_9 => absurd h_9 ((by show ¬ cV T p1 g1 - nI 1 < 0; rw [e1]; exact nI_pos (by omega)))) (fun _ => ?_)
        refine And.intro (fun _ => ?_) (fun h_9 => absurd ((by show cV T p1 g1 - nI 1 < nI 8; rw [e1]; exact nI_lt (by omega) (by omega))) h_9)
        refine And.intro ((by show vp_in (cV T p1 g1 - nI 1) 8; rw [e1]; exact vp_in_nI (show tV T p1 - 1 < 8 by omega) (by omega))) ?_
        intro z hz
        rw [e1, nI_clamp (by omega), h40b (tV T p1 - 1) (by omega)] at hz
        subst hz
        refine Exists.intro _ (Exists.intro _ (And.intro (hsl) (And.intro rfl ?_)))
        by_cases hn0 : N (tV T p1 - 1) = 0
        · refine And.intro (fun _ => ?_) (fun h_9 => absurd ((by rw [hn0]; rfl)) h_9)
          exact ab_ev_of (at93 (Or.inl hn0) _) (by rw [← e1]; rfl) rfl rfl
        · refine And.intro (fun h_9 => absurd h_9 ((nI_ne0 (by omega) (by omega)))) (fun _ => ?_)
          by_cases hs0 : S.1 = 0
          · refine And.intro (fun _ => ?_) (fun h_9 => absurd ((by rw [hs0]; decide)) h_9)
            exact ab_ev_of (at100 (fun z => z.elim hn0 (fun z => absurd z.1 (by omega))) _) (by rw [← e1]; rfl) rfl rfl
          · refine And.intro (fun h_9 => absurd h_9 ((nI_nle (by omega) (by omega)))) (fun _ => ?_)
            have h8 := hS8 (by omega)
            refine And.intro (vp_in_nI (show 0 < 12 by omega) (by omega)) ?_
            rw [nI_clamp (by omega), u6 0 (by omega)]
            refine And.intro (vp_in_nI h8 (by omega)) ?_
            intro z hz
            rw [nI_clamp (by omega), h40b (S.2 0).1 h8] at hz
            subst hz
            obtain ⟨pp2, aa2, hsl2⟩ := hsl0 (S.2 0).1 h8
            have hl2 := hnl (S.2 0).1 h8
            refine Exists.intro _ (Exists.intro _ (And.intro (hsl2) (And.intro rfl ?_)))
            by_cases hnn : N (tV T p1 - 1) = N (S.2 0).1
            · refine And.intro (fun _ => ?_) (fun h_9 => absurd ((by rw [hnn])) h_9)
              exact ab_ev_of (at100 (fun z => z.elim hn0 (fun z => z.2 hnn)) _) (by rw [← e1]; rfl) rfl rfl
            · refine And.intro (fun h_9 => absurd h_9 ((fun z => hnn ((nI_eq (by omega) (by omega)).mp z)))) (fun _ => ?_)
              exact ab_ev_of (at93 (Or.inr ⟨by omega, hnn⟩) _) (by rw [← e1]; rfl) rfl rfl
    · rw [if_pos (Or.inl hk2)] at hO
      have cf := k_MR_fail (X := X) (l := l) T p1 1 w1 n rfl m1 m5
      obtain ⟨w1, rfl⟩ := va_ex2 m1 m5
      refine ab_sound ok_29 [] 80 ?_
      refine And.intro (fun _ => ?_) (fun h_9 => absurd h_9 ((oTk_k hk2 (by omega) (by omega))))
      (refine Exists.intro 0 ?_; refine ⟨0, _, Nat.zero_le _, Nat.zero_le _, cf, ?_⟩; refine ab_q1_elim ?_)
      exact ⟨rfl, mpQ_l hO (fr.up (by unfold F511; omega)) rfl tk_isTp ⟨⟨_, _, _, rfl⟩, mCs.2⟩⟩
  have hC2 := hC
  obtain ⟨h5, k6, k7, k8, k9, k10, k11⟩ := hC2
  by_cases c3 : tK T p = 3
  · have e1 : qNo T p = tX T p := by unfold qNo; rw [if_pos c3]
    have e2 : noV T p = tV T p := by unfold noV; rw [if_pos c3]
    have ev := cV_eq (f := g) hp (by omega) (by omega)
    have ek := (tk_cell (T := T) (p := p) (by omega) (by omega)).2
    have a21 := at21 (va_up w 1 (oTk T (tX T p) (cV T p g))) (cV T p g) (nI (tV T p)) (Fr.refl.up (Or.inl rfl)) (by rw [e2]) (by rw [e1]; rfl) h2 ⟨h5, k6, k7, k8, k9, k10, k11⟩
    obtain ⟨w, rfl⟩ := va_ex2 h1 h2
    refine ab_met cd_29 om_29 rfl (by rintro _ _ _ ⟨b, rfl, -⟩; trivial) (ab_sound ok_29 [21] 80 ?_)
    refine And.intro (fun h_9 => absurd ((by show nI (cK T p) = nI 3; rw [ek, c3])) h_9) (fun _ => ?_)
    (refine Exists.intro 0 ?_; refine ⟨0, _, Nat.zero_le _, Nat.zero_le _, k_adv T p _ _ hL hp (by omega) (by omega) rfl rfl, ?_⟩; refine ab_q1_elim ?_)
    exact ab_ev_of a21 (by rw [← ev]; rfl) rfl rfl
  · have e1 : qNo T p = p := by unfold qNo; rw [if_neg c3]
    have e2 : noV T p = 1 := by unfold noV; rw [if_neg c3]
    have a21 := at21 w g (nI 1) Fr.refl (by rw [e2]) (by rw [e1]; exact h1) h2 hC
    obtain ⟨w, rfl⟩ := va_ex2 h1 h2
    refine ab_met cd_29 om_29 rfl (by rintro _ _ _ ⟨b, rfl, -⟩; trivial) (ab_sound ok_29 [21] 80 ?_)
    refine And.intro (fun _ => ?_) (fun h_9 => absurd h_9 ((oTk_k c3 (by omega) (by omega))))
    exact ab_ev_of a21 rfl rfl rfl
end MPART
