/-! a kit's text read by the class -/
theorem rdR_ok {T : TE} {S : KS} {p q : Nat} {S2 : KS} (hp : p ≤ tL T) (hk : tK T p = 2) (hS : KSok S) (h : rdR T S p = .inr (q, S2)) : KSok S2 ∧ sN S2 = sN S + 1 ∧ q ≤ tL T := by
  have k1 := (tX_le hp (by omega) (by omega)).2
  unfold rdR at h
  by_cases c : 4 ≤ sR S
  · rw [if_pos c] at h; cases h
  rw [if_neg c] at h
  cases e1 : qNew T S (tX T p) with
  | inl e => rw [bnd_l e1] at h; cases h
  | inr p2 =>
  rw [bnd_r e1] at h
  obtain ⟨a1, a2, a3, a4, a5⟩ := qNew_r k1 e1
  cases e2 : qNum T 3 200 p2 with
  | inl e => rw [bnd_l e2] at h; cases h
  | inr p3 =>
  rw [bnd_r e2] at h
  obtain ⟨b1, b2, b3, b4, b5⟩ := qNum_r a4 e2
  cases e3 : qSig T 59 p3 with
  | inl e => rw [bnd_l e3] at h; cases h
  | inr p4 =>
  rw [bnd_r e3] at h
  obtain ⟨c1, c2, c3⟩ := qSig_r b5 e3
  have z := Sum.inr.inj h
  have z1 : p4 = q := congrArg Prod.fst z
  have z2 : adR S (tV T (tX T p)) (tV T p2) = S2 := congrArg Prod.snd z
  subst z1 z2
  refine ⟨adR_ok hS (tk_vd k1 a5) (by omega) ⟨b3, b4⟩, ?_, c3⟩
  unfold sN
  show sR S + 1 + sW S + sP S = _
  omega
theorem rdP_ok {T : TE} {S : KS} {p q : Nat} {S2 : KS} (hp : p ≤ tL T) (hk : tK T p = 2) (hS : KSok S) (h : rdP T S p = .inr (q, S2)) : KSok S2 ∧ sN S2 = sN S + 1 ∧ q ≤ tL T := by
  have k1 := (tX_le hp (by omega) (by omega)).2
  unfold rdP at h
  by_cases c : 8 ≤ sP S
  · rw [if_pos c] at h; cases h
  rw [if_neg c] at h
  cases e1 : qNew T S (tX T p) with
  | inl e => rw [bnd_l e1] at h; cases h
  | inr p2 =>
  rw [bnd_r e1] at h
  obtain ⟨a1, a2, a3, a4, a5⟩ := qNew_r k1 e1
  cases e2 : qWh T S p2 with
  | inl e => rw [bnd_l e2] at h; cases h
  | inr p3 =>
  rw [bnd_r e2] at h
  obtain ⟨b1, b2, b3, b4, b5⟩ := qWh_r a4 e2
  have m := qMin_le b4
  cases e3 : qNum T 0 200 (qMin T p3) with
  | inl e => rw [bnd_l e3] at h; cases h
  | inr p4 =>
  rw [bnd_r e3] at h
  obtain ⟨c1, c2, c3, c4, c5⟩ := qNum_r m e3
  cases e4 : qSig T 59 p4 with
  | inl e => rw [bnd_l e4] at h; cases h
  | inr p5 =>
  rw [bnd_r e4] at h
  obtain ⟨d1, d2, d3⟩ := qSig_r c5 e4
  have z := Sum.inr.inj h
  have z1 : p5 = q := congrArg Prod.fst z
  have z2 : adP S (tV T (tX T p)) (soJ (sLo S (tV T p2))) (sgI (tkS T p3 45) (tV T (qMin T p3))) = S2 := congrArg Prod.snd z
  subst z1 z2
  have hb : BsOk S (sLo S (tV T p2)) := bs_lo hS.2.2.2.2 (by omega)
  refine ⟨adP_ok hS (tk_vd k1 a5) (by omega) ?_ (by rw [sgI_ab]; omega), ?_, d3⟩
  · rcases hb with hb | hb
    · omega
    · exact hb.2
  · unfold sN
    show sR S + sW S + (sP S + 1) = _
    omega
theorem rdW_ok {T : TE} {S : KS} {p q : Nat} {S2 : KS} (hp : p ≤ tL T) (hk : tK T p = 2) (hS : KSok S) (h : rdW T S p = .inr (q, S2)) : KSok S2 ∧ sN S2 = sN S + 1 ∧ q ≤ tL T := by
  have k1 := (tX_le hp (by omega) (by omega)).2
  unfold rdW at h
  by_cases c : 12 ≤ sW S
  · rw [if_pos c] at h; cases h
  rw [if_neg c] at h
  cases e1 : qNew T S (tX T p) with
  | inl e => rw [bnd_l e1] at h; cases h
  | inr p2 =>
  rw [bnd_r e1] at h
  obtain ⟨a1, a2, a3, a4, a5⟩ := qNew_r k1 e1
  cases e2 : qNum T 3 200 p2 with
  | inl e => rw [bnd_l e2] at h; cases h
  | inr p3 =>
  rw [bnd_r e2] at h
  obtain ⟨b1, b2, b3, b4, b5⟩ := qNum_r a4 e2
  cases e3 : qIO T p3 with
  | inl e => rw [bnd_l e3] at h; cases h
  | inr p4 =>
  rw [bnd_r e3] at h
  obtain ⟨c1, c2⟩ := qIO_r b5 e3
  cases e4 : qBs T S (tV T p2) (tkW T p3 3) p4 with
  | inl e => rw [bnd_l e4] at h; cases h
  | inr p5 =>
  rw [bnd_r e4] at h
  obtain ⟨x1, x2, x3, x4, x5, x6, x7⟩ := qBs_r c2 e4
  cases e5 : qAt T p5 with
  | inl e => rw [bnd_l e5] at h; cases h
  | inr p6 =>
  rw [bnd_r e5] at h
  obtain ⟨y1, y2, y3, y4⟩ := qAt_ok x6 e5
  by_cases c9 : tkS T p6 59 = true
  · rw [if_pos c9] at h
    by_cases c8 : sO S (sLo S (tV T p4)) (tV T p2) (tkW T p3 3) (atU T p5) (atL T p5) = true
    · rw [if_pos c8] at h
      have z := Sum.inr.inj h
      have z1 : tX T p6 = q := congrArg Prod.fst z
      have z2 : adW S (tV T (tX T p)) (tV T p2) (tkW T p3 3) (sLo S (tV T p4)) (atU T p5) (atL T p5) = S2 := congrArg Prod.snd z
      subst z1 z2
      have k9 := (tkS_k c9).1
      refine ⟨adW_ok hS (tk_vd k1 a5) (by omega) ⟨b3, b4⟩ (bs_lo hS.2.2.2.2 x3) x5 y1 y2 y3 c8, ?_, (tX_le y4 (by omega) (by omega)).2⟩
      unfold sN
      show sR S + (sW S + 1) + sP S = _
      omega
    · rw [if_neg c8] at h; cases h
  · rw [if_neg c9] at h; cases h
theorem rdL_ok {T : TE} {S : KS} {p q : Nat} {S2 : KS} (hp : p ≤ tL T) (hS : KSok S) (h : rdL T S p = .inr (q, S2)) : KSok S2 ∧ sN S2 = sN S + 1 ∧ q ≤ tL T := by
  unfold rdL at h
  by_cases c0 : tkW T p 0 = true
  · rw [if_pos c0] at h
    exact rdR_ok hp (tkW_k c0).1 hS h
  rw [if_neg c0] at h
  by_cases c1 : tkW T p 1 = true
  · rw [if_pos c1] at h
    exact rdW_ok hp (tkW_k c1).1 hS h
  rw [if_neg c1] at h
  by_cases c2 : tkW T p 2 = true
  · rw [if_pos c2] at h
    exact rdP_ok hp (tkW_k c2).1 hS h
  rw [if_neg c2] at h
  cases h
theorem tk_cut {T : TE} {p : Nat} (h : tK T p = 5) : tE T < tL T := by
  unfold tK at h
  by_cases c : tM T < tL T ∧ tM T ≤ tQ T p
  · unfold tE; omega
  · rw [if_neg c] at h
    exfalso
    have := @rK_123 (tB T) (tQ T p) (tR T (tQ T p) - tQ T p)
    split at h
    · omega
    · split at h
      · omega
      · split at h <;> omega
theorem tk_stop {T : TE} {p : Nat} (h : tK T p = 0) : tE T = tL T := by
  unfold tK at h
  by_cases c : tM T < tL T ∧ tM T ≤ tQ T p
  · rw [if_pos c] at h; omega
  · rw [if_neg c] at h
    by_cases d : tL T ≤ tQ T p
    · unfold tE; omega
    · rw [if_neg d] at h
      exfalso
      have := @rK_123 (tB T) (tQ T p) (tR T (tQ T p) - tQ T p)
      split at h
      · omega
      · split at h <;> omega
def rkQ (q : Nat) (T : TE) (w : ab_W) (n : Nat) (o : Out) : ab_Q := fun v w' n' => ∃ b : Bool, v = some (.int (b01 b)) ∧ n = n' ∧ Fr (FRd q) w w' ∧ RdS w' q T ∧ (∀ e, o = .inl e → b = false ∧ ∃ r3, w' 3 = oKR (nI e.1) (nI e.2) r3) ∧ (∀ x, o = .inr x → b = true ∧ (∃ r2, w' 3 = oKR (nI 0) r2 (nI (sN x.2))) ∧ CRd w' q x.2)
section READ
variable {X : ab_X} {l : Launch}
theorem k_read_44 (T : TE) (w : ab_W) (n : Nat) (hM : tM T = 600) (hL : tL T ≤ 640) {b c d e f r1 r2 r3 : Int32} (h1 : w 1 = oTape (nI (tL T)) b c d e f) (h2 : w 2 = aI 640 (tB T)) (h3 : w 3 = oKR r1 r2 r3) (h4 : isWL (w 4)) (hC : CSh w 44) : ab_C X l i_KR_read [.ref 3, .ref 1, .ref 44] w n 0 0 (rkQ 44 T w n (rdK T 26 KSz 0)) := by
  generalize hO : rdK T 26 KSz 0 = O
  have hxa : ∃ a b c d, w 44 = oKit 44 a b c d := hC.1
  have loop : ∀ (fl i p : Nat) (S : KS) (w1 : ab_W) (x4 : Option Value), sN S = i → i + fl = 26 → KSok S → p ≤ tL T → RdI w1 44 T S p (nI i) → Fr (FRd 44) w w1 → rdK T fl S p = O → ab_Ev X l i_KR_read 23 [some (.ref 3), some (.ref 1), some (.ref 44), some (.int (nI i)), x4] [] w1 n 0 0 (rkQ 44 T w n O) := by
    intro fl
    induction fl with
    | zero =>
      intro i p S w1 x4 hi hf hS
      have := sN_le hS
      omega
    | succ fl ih =>
      intro i p S w1 x4 hi hf hS hp hR fr ho
      have hN := sN_le hS
      have hRR := hR
      obtain ⟨⟨g, m1⟩, m2, ⟨q1, q2, m3, hq1⟩, m4, mC⟩ := hR
      have m0 := mC.1
      have ho : (if tK T p = 5 then .inl (1, tP T p) else if tK T p = 0 then .inr (p, S) else match rdL T S p with
        | .inl e => .inl e
        | .inr (q, S2) => rdK T fl S2 q) = O := ho
      have at125 : tK T p = 5 ∨ tK T p = 0 → ab_Ev X l i_KR_read 125 [some (.ref 3), some (.ref 1), some (.ref 44), some (.int (nI i)), x4] [] w1 n 0 0 (rkQ 44 T w n O) := by
        intro hk
        obtain ⟨w1, rfl⟩ := va_ex4 m1 m2 m3 m0
        have m4 : isWL (w1 4) := m4
        refine ab_sound ok_13 [] 80 ?_
        (refine Exists.intro 0 ?_; refine ⟨0, _, Nat.zero_le _, Nat.zero_le _, c_Tape_isCut _ _ rfl, ?_⟩; refine ab_q1_elim ?_)
        rcases hk with hk | hk
        · rw [decide_eq_true (nI_lt (tk_cut hk) (by omega))]
          refine And.intro (fun h_9 => absurd h_9 ((by decide))) (fun _ => ?_)
          (refine Exists.intro 0 ?_; refine ⟨0, _, Nat.zero_le _, Nat.zero_le _, k_fail T p 1 _ _ rfl rfl rfl, ?_⟩; refine ab_q1_elim ?_)
          refine And.intro (fun _ => ?_) (fun h_9 => absurd (rfl) h_9)
          rw [if_pos hk] at ho
          refine ⟨rfl, false, rfl, rfl, fr.up (Or.inr (Or.inl rfl)), ⟨tk_isTp, rfl, m4, (mC.up n3_44).sh⟩, fun e9 he => ?_, fun x hx => ?_⟩
          · have z : (1, tP T p) = e9 := Sum.inl.inj (ho.trans he)
            subst z
            exact ⟨rfl, _, rfl⟩
          · have z : (Sum.inl (1, tP T p) : Out) = .inr x := ho.trans hx
            cases z
        · have hs := tk_stop hk
          rw [decide_eq_false (by rw [hs]; exact nI_nlt (Nat.le_refl _) (by omega))]
          refine And.intro (fun _ => ?_) (fun h_9 => absurd (rfl) h_9)
          rw [if_neg (by omega), if_pos hk] at ho
          refine ⟨rfl, true, rfl, rfl, fr, ⟨tk_isTp, rfl, m4, mC.sh⟩, fun e9 he => ?_, fun x hx => ?_⟩
          · have z : (Sum.inr (p, S) : Out) = .inl e9 := ho.trans he
            cases z
          · have z : (p, S) = x := Sum.inr.inj (ho.trans hx)
            subst z
            refine ⟨rfl, ⟨q2, ?_⟩, mC⟩
            show oKR q1 q2 (nI i) = oKR (nI 0) q2 (nI (sN S))
            rw [hq1, hi]
      by_cases hk : tK T p = 5 ∨ tK T p = 0
      · have a125 := at125 hk
        have hz1 : nI (cK T p) = 0 := by
          unfold cK
          rcases hk with hk | hk
          · rw [if_pos hk]; rfl
          · rw [if_neg (by omega), hk]; rfl
        obtain ⟨w1, rfl⟩ := va_ex4 m1 m2 m3 m0
        refine ab_sound ok_13 [125] 80 ?_
        refine And.intro (fun h_9 => absurd h_9 ((fun z => by have z : nI 24 < nI i := z; rw [nI_ltI (by omega) (by omega)] at z; omega))) (fun _ => ?_)
        refine And.intro (fun _ => ?_) (fun h_9 => absurd (hz1) h_9)
        exact a125
      · have hk5 : tK T p ≠ 5 := fun z => hk (Or.inl z)
        have hk0 : tK T p ≠ 0 := fun z => hk (Or.inr z)
        have hk6 := tK_le T p
        rw [if_neg hk5, if_neg hk0] at ho
        have hz2 : ¬ nI (cK T p) = 0 := by
          unfold cK
          rw [if_neg hk5]
          exact nI_ne0 (by omega) (by omega)
        have at102 : ∀ (v : Bool) (w2 : ab_W), Fr (FRd 44) w1 w2 → (∀ e, rdL T S p = .inl e → v = false ∧ w2 3 = oKR (nI e.1) (nI e.2) (nI i) ∧ RdS w2 44 T) → (∀ x, rdL T S p = .inr x → v = true ∧ RdI w2 44 T x.2 x.1 (nI i)) → ab_Ev X l i_KR_read 102 [some (.ref 3), some (.ref 1), some (.ref 44), some (.int (nI i)), some (.int (b01 v))] [] w2 n 0 0 (rkQ 44 T w n O) := by
          intro v w2 f2 hl hr
          cases hq : rdL T S p with
          | inl e9 =>
            obtain ⟨rfl, l3, lS⟩ := hl e9 hq
            rw [hq] at ho
            have ho : .inl e9 = O := ho
            refine ab_sound ok_13 [23] 80 ?_
            refine And.intro (fun h_9 => absurd (rfl) h_9) (fun _ => ?_)
            refine ⟨rfl, false, rfl, rfl, fr.trans f2, lS, fun e8 he => ?_, fun x hx => ?_⟩
            · have z : e9 = e8 := Sum.inl.inj (ho.trans he)
              subst z
              exact ⟨rfl, _, l3⟩
            · have z : (Sum.inl e9 : Out) = .inr x := ho.trans hx
              cases z
          | inr x9 =>
            obtain ⟨p9, S9⟩ := x9
            obtain ⟨rfl, rI⟩ := hr _ hq
            rw [hq] at ho
            have ho : rdK T fl S9 p9 = O := ho
            obtain ⟨u1, u2, u3⟩ := rdL_ok hp hS hq
            obtain ⟨n1, n2, ⟨z1, z2, n3, hz1⟩, n4, nC⟩ := rI
            have nC2 : CRd (va_up w2 3 (oKR z1 z2 (nI i + nI 1))) 44 S9 := CRd.up nC n3_44
            have fr3 : Fr (FRd 44) w (va_up w2 3 (oKR z1 z2 (nI i + nI 1))) := (fr.trans f2).up (Or.inr (Or.inl rfl))
            have ih := ih (i + 1) p9 S9 (va_up w2 3 (oKR z1 z2 (nI i + nI 1))) (some (.int (b01 true))) (by omega) (by omega) u1 u3 ⟨n1, n2, ⟨z1, z2, by rw [nI_s i]; rfl, hz1⟩, n4, nC2⟩ fr3 ho
            obtain ⟨w2, rfl⟩ := va_ex n3
            refine ab_sound ok_13 [23] 80 ?_
            refine And.intro (fun _ => ?_) (fun h_9 => absurd h_9 ((by decide)))
            refine ab_ev_of ih (by rw [nI_s i]; rfl) rfl rfl
        have cR := fun h => k_readRing_44 (X := X) (l := l) T p w1 n (S := S) (r3 := nI i) h hS hL hp hRR
        have cW := fun h => k_readWheel_44 (X := X) (l := l) T p w1 n (S := S) (r3 := nI i) h hS hL hp hRR
        have cP := fun h => k_readPen_44 (X := X) (l := l) T p w1 n (S := S) (r3 := nI i) h hS hL hp hRR
        have at102f : tkW T p 0 = false → tkW T p 1 = false → tkW T p 2 = false → ∀ w2 : ab_W, w2 = va_up w1 3 (oKR (nI 1) (nI (tP T p)) (nI i)) → ab_Ev X l i_KR_read 102 [some (.ref 3), some (.ref 1), some (.ref 44), some (.int (nI i)), some (.int (nI 0))] [] w2 n 0 0 (rkQ 44 T w n O) := by
          intro t0 t1 t2 w2 hw2
          have hq : rdL T S p = .inl (1, tP T p) := by unfold rdL; rw [if_neg (by rw [t0]; decide), if_neg (by rw [t1]; decide), if_neg (by rw [t2]; decide)]
          have fz : Fr (FRd 44) w1 w2 := by rw [hw2]; exact Fr.refl.up (Or.inr (Or.inl rfl))
          refine at102 false w2 fz (fun e9 he => ?_) (fun x hx => ?_)
          · have z : (1, tP T p) = e9 := Sum.inl.inj (hq.symm.trans he)
            subst z
            subst hw2
            refine ⟨rfl, rfl, ?_, m2, m4, (mC.up n3_44).sh⟩
            show isTp T (w1 1)
            rw [m1]
            exact tk_isTp
          · rw [hq] at hx; cases hx
        obtain ⟨w1, rfl⟩ := va_ex4 m1 m2 m3 m0
        refine ab_sound ok_13 [102] 80 ?_
        refine And.intro (fun h_9 => absurd h_9 ((fun z => by have z : nI 24 < nI i := z; rw [nI_ltI (by omega) (by omega)] at z; omega))) (fun _ => ?_)
        refine And.intro (fun h_9 => absurd h_9 (hz2)) (fun _ => ?_)
        (refine Exists.intro 0 ?_; refine ⟨0, _, Nat.zero_le _, Nat.zero_le _, k_isWord_0 T p _ _ hL hp rfl rfl, ?_⟩; refine ab_q1_elim ?_)
        cases t0 : tkW T p 0
        · refine And.intro (fun _ => ?_) (fun h_9 => absurd (rfl) h_9)
          (refine Exists.intro 0 ?_; refine ⟨0, _, Nat.zero_le _, Nat.zero_le _, k_isWord_1 T p _ _ hL hp rfl rfl, ?_⟩; refine ab_q1_elim ?_)
          cases t1 : tkW T p 1
          · refine And.intro (fun _ => ?_) (fun h_9 => absurd (rfl) h_9)
            (refine Exists.intro 0 ?_; refine ⟨0, _, Nat.zero_le _, Nat.zero_le _, k_isWord_2 T p _ _ hL hp rfl rfl, ?_⟩; refine ab_q1_elim ?_)
            cases t2 : tkW T p 2
            · refine And.intro (fun _ => ?_) (fun h_9 => absurd (rfl) h_9)
              (refine Exists.intro 0 ?_; refine ⟨0, _, Nat.zero_le _, Nat.zero_le _, k_fail T p 1 _ _ rfl rfl rfl, ?_⟩; refine ab_q1_elim ?_)
              exact at102f t0 t1 t2 _ rfl
            · refine And.intro (fun h_9 => absurd h_9 ((by decide))) (fun _ => ?_)
              (refine Exists.intro 0 ?_; refine ⟨0, _, Nat.zero_le _, Nat.zero_le _, cP t2, ?_⟩; rintro _ w2 _ ⟨v, rfl, rfl, f2, hl, hr⟩)
              have hq : rdL T S p = rdP T S p := by unfold rdL; rw [if_neg (by rw [t0]; decide), if_neg (by rw [t1]; decide), if_pos t2]
              exact at102 v w2 f2 (fun e9 he => hl e9 (hq.symm.trans he)) (fun x hx => hr x (hq.symm.trans hx))
          · refine And.intro (fun h_9 => absurd h_9 ((by decide))) (fun _ => ?_)
            (refine Exists.intro 0 ?_; refine ⟨0, _, Nat.zero_le _, Nat.zero_le _, cW t1, ?_⟩; rintro _ w2 _ ⟨v, rfl, rfl, f2, hl, hr⟩)
            have hq : rdL T S p = rdW T S p := by unfold rdL; rw [if_neg (by rw [t0]; decide), if_pos t1]
            exact at102 v w2 f2 (fun e9 he => hl e9 (hq.symm.trans he)) (fun x hx => hr x (hq.symm.trans hx))
        · refine And.intro (fun h_9 => absurd h_9 ((by decide))) (fun _ => ?_)
          (refine Exists.intro 0 ?_; refine ⟨0, _, Nat.zero_le _, Nat.zero_le _, cR t0, ?_⟩; rintro _ w2 _ ⟨v, rfl, rfl, f2, hl, hr⟩)
          have hq : rdL T S p = rdR T S p := by unfold rdL; rw [if_pos t0]
          exact at102 v w2 f2 (fun e9 he => hl e9 (hq.symm.trans he)) (fun x hx => hr x (hq.symm.trans hx))
  have cc := k_Kit_clear_44 (X := X) (l := l) w n hC
  obtain ⟨a9, b9, c9, d9, h0⟩ := hxa
  obtain ⟨w, rfl⟩ : ∃ w0, w = va_up (va_up (va_up (va_up w0 44 (oKit 44 a9 b9 c9 d9)) 3 (oKR r1 r2 r3)) 2 (aI 640 (tB T))) 1 (oTape (nI (tL T)) b c d e f) := ⟨w, by rw [← va_self h0, ← va_self h3, ← va_self h2, ← va_self h1]⟩
  have h4 : isWL (w 4) := h4
  refine ab_met cd_13 om_13 rfl (by rintro _ _ _ ⟨b, rfl, -⟩; trivial) (ab_sound ok_13 [23] 80 ?_)
  (refine Exists.intro 0 ?_; refine ⟨0, _, Nat.zero_le _, Nat.zero_le _, cc, ?_⟩; rintro _ w1 _ ⟨rfl, rfl, f1, hC1⟩)
  have y1 : w1 1 = oTape (nI (tL T)) b c d e f := f1.get rfl n1_44
  have y2 : w1 2 = aI 640 (tB T) := f1.get rfl (by unfold FKt; omega)
  have y3 : w1 3 = oKR r1 r2 r3 := f1.get rfl n3_44
  have y4 : isWL (w1 4) := by rw [f1 4 n4_44]; exact h4
  have fz := f1.mono (G := FRd 44) (fun k hk => Or.inr (Or.inr (Or.inr hk)))
  have lp := loop 26 0 0 KSz (va_up (va_up w1 3 (oKR (nI 0) r2 (nI 0))) 1 (oTk T 0 f)) none rfl rfl KSz_ok (by omega) ⟨⟨f, rfl⟩, y2, ⟨nI 0, r2, rfl, rfl⟩, y4, (hC1.up n3_44).up n1_44⟩ ((fz.up (Or.inr (Or.inl rfl))).up (Or.inl rfl)) hO
  obtain ⟨w1, rfl⟩ := va_ex3 y1 y2 y3
  have co := fun w2 => c_Tape_open (X := X) (l := l) T w2 n (b := b) (c := c) (d := d) (e := e) (f := f) hL (by omega)
  rw [hM] at co
  (refine Exists.intro 0 ?_; refine ⟨0, _, Nat.zero_le _, Nat.zero_le _, co _ rfl rfl, ?_⟩; refine ab_q1_elim ?_)
  refine ab_ev_of lp rfl rfl ?_
  simp only [va_uu]
  rfl
theorem k_read_59 (T : TE) (w : ab_W) (n : Nat) (hM : tM T = 600) (hL : tL T ≤ 640) {b c d e f r1 r2 r3 : Int32} (h1 : w 1 = oTape (nI (tL T)) b c d e f) (h2 : w 2 = aI 640 (tB T)) (h3 : w 3 = oKR r1 r2 r3) (h4 : isWL (w 4)) (hC : CSh w 59) : ab_C X l i_KR_read [.ref 3, .ref 1, .ref 59] w n 0 0 (rkQ 59 T w n (rdK T 26 KSz 0)) := by
  generalize hO : rdK T 26 KSz 0 = O
  have hxa : ∃ a b c d, w 59 = oKit 59 a b c d := hC.1
  have loop : ∀ (fl i p : Nat) (S : KS) (w1 : ab_W) (x4 : Option Value), sN S = i → i + fl = 26 → KSok S → p ≤ tL T → RdI w1 59 T S p (nI i) → Fr (FRd 59) w w1 → rdK T fl S p = O → ab_Ev X l i_KR_read 23 [some (.ref 3), some (.ref 1), some (.ref 59), some (.int (nI i)), x4] [] w1 n 0 0 (rkQ 59 T w n O) := by
    intro fl
    induction fl with
    | zero =>
      intro i p S w1 x4 hi hf hS
      have := sN_le hS
      omega
    | succ fl ih =>
      intro i p S w1 x4 hi hf hS hp hR fr ho
      have hN := sN_le hS
      have hRR := hR
      obtain ⟨⟨g, m1⟩, m2, ⟨q1, q2, m3, hq1⟩, m4, mC⟩ := hR
      have m0 := mC.1
      have ho : (if tK T p = 5 then .inl (1, tP T p) else if tK T p = 0 then .inr (p, S) else match rdL T S p with
        | .inl e => .inl e
        | .inr (q, S2) => rdK T fl S2 q) = O := ho
      have at125 : tK T p = 5 ∨ tK T p = 0 → ab_Ev X l i_KR_read 125 [some (.ref 3), some (.ref 1), some (.ref 59), some (.int (nI i)), x4] [] w1 n 0 0 (rkQ 59 T w n O) := by
        intro hk
        obtain ⟨w1, rfl⟩ := va_ex4 m1 m2 m3 m0
        have m4 : isWL (w1 4) := m4
        refine ab_sound ok_13 [] 80 ?_
        (refine Exists.intro 0 ?_; refine ⟨0, _, Nat.zero_le _, Nat.zero_le _, c_Tape_isCut _ _ rfl, ?_⟩; refine ab_q1_elim ?_)
        rcases hk with hk | hk
        · rw [decide_eq_true (nI_lt (tk_cut hk) (by omega))]
          refine And.intro (fun h_9 => absurd h_9 ((by decide))) (fun _ => ?_)
          (refine Exists.intro 0 ?_; refine ⟨0, _, Nat.zero_le _, Nat.zero_le _, k_fail T p 1 _ _ rfl rfl rfl, ?_⟩; refine ab_q1_elim ?_)
          refine And.intro (fun _ => ?_) (fun h_9 => absurd (rfl) h_9)
          rw [if_pos hk] at ho
          refine ⟨rfl, false, rfl, rfl, fr.up (Or.inr (Or.inl rfl)), ⟨tk_isTp, rfl, m4, (mC.up n3_59).sh⟩, fun e9 he => ?_, fun x hx => ?_⟩
          · have z : (1, tP T p) = e9 := Sum.inl.inj (ho.trans he)
            subst z
            exact ⟨rfl, _, rfl⟩
          · have z : (Sum.inl (1, tP T p) : Out) = .inr x := ho.trans hx
            cases z
        · have hs := tk_stop hk
          rw [decide_eq_false (by rw [hs]; exact nI_nlt (Nat.le_refl _) (by omega))]
          refine And.intro (fun _ => ?_) (fun h_9 => absurd (rfl) h_9)
          rw [if_neg (by omega), if_pos hk] at ho
          refine ⟨rfl, true, rfl, rfl, fr, ⟨tk_isTp, rfl, m4, mC.sh⟩, fun e9 he => ?_, fun x hx => ?_⟩
          · have z : (Sum.inr (p, S) : Out) = .inl e9 := ho.trans he
            cases z
          · have z : (p, S) = x := Sum.inr.inj (ho.trans hx)
            subst z
            refine ⟨rfl, ⟨q2, ?_⟩, mC⟩
            show oKR q1 q2 (nI i) = oKR (nI 0) q2 (nI (sN S))
            rw [hq1, hi]
      by_cases hk : tK T p = 5 ∨ tK T p = 0
      · have a125 := at125 hk
        have hz1 : nI (cK T p) = 0 := by
          unfold cK
          rcases hk with hk | hk
          · rw [if_pos hk]; rfl
          · rw [if_neg (by omega), hk]; rfl
        obtain ⟨w1, rfl⟩ := va_ex4 m1 m2 m3 m0
        refine ab_sound ok_13 [125] 80 ?_
        refine And.intro (fun h_9 => absurd h_9 ((fun z => by have z : nI 24 < nI i := z; rw [nI_ltI (by omega) (by omega)] at z; omega))) (fun _ => ?_)
        refine And.intro (fun _ => ?_) (fun h_9 => absurd (hz1) h_9)
        exact a125
      · have hk5 : tK T p ≠ 5 := fun z => hk (Or.inl z)
        have hk0 : tK T p ≠ 0 := fun z => hk (Or.inr z)
        have hk6 := tK_le T p
        rw [if_neg hk5, if_neg hk0] at ho
        have hz2 : ¬ nI (cK T p) = 0 := by
          unfold cK
          rw [if_neg hk5]
          exact nI_ne0 (by omega) (by omega)
        have at102 : ∀ (v : Bool) (w2 : ab_W), Fr (FRd 59) w1 w2 → (∀ e, rdL T S p = .inl e → v = false ∧ w2 3 = oKR (nI e.1) (nI e.2) (nI i) ∧ RdS w2 59 T) → (∀ x, rdL T S p = .inr x → v = true ∧ RdI w2 59 T x.2 x.1 (nI i)) → ab_Ev X l i_KR_read 102 [some (.ref 3), some (.ref 1), some (.ref 59), some (.int (nI i)), some (.int (b01 v))] [] w2 n 0 0 (rkQ 59 T w n O) := by
          intro v w2 f2 hl hr
          cases hq : rdL T S p with
          | inl e9 =>
            obtain ⟨rfl, l3, lS⟩ := hl e9 hq
            rw [hq] at ho
            have ho : .inl e9 = O := ho
            refine ab_sound ok_13 [23] 80 ?_
            refine And.intro (fun h_9 => absurd (rfl) h_9) (fun _ => ?_)
            refine ⟨rfl, false, rfl, rfl, fr.trans f2, lS, fun e8 he => ?_, fun x hx => ?_⟩
            · have z : e9 = e8 := Sum.inl.inj (ho.trans he)
              subst z
              exact ⟨rfl, _, l3⟩
            · have z : (Sum.inl e9 : Out) = .inr x := ho.trans hx
              cases z
          | inr x9 =>
            obtain ⟨p9, S9⟩ := x9
            obtain ⟨rfl, rI⟩ := hr _ hq
            rw [hq] at ho
            have ho : rdK T fl S9 p9 = O := ho
            obtain ⟨u1, u2, u3⟩ := rdL_ok hp hS hq
            obtain ⟨n1, n2, ⟨z1, z2, n3, hz1⟩, n4, nC⟩ := rI
            have nC2 : CRd (va_up w2 3 (oKR z1 z2 (nI i + nI 1))) 59 S9 := CRd.up nC n3_59
            have fr3 : Fr (FRd 59) w (va_up w2 3 (oKR z1 z2 (nI i + nI 1))) := (fr.trans f2).up (Or.inr (Or.inl rfl))
            have ih := ih (i + 1) p9 S9 (va_up w2 3 (oKR z1 z2 (nI i + nI 1))) (some (.int (b01 true))) (by omega) (by omega) u1 u3 ⟨n1, n2, ⟨z1, z2, by rw [nI_s i]; rfl, hz1⟩, n4, nC2⟩ fr3 ho
            obtain ⟨w2, rfl⟩ := va_ex n3
            refine ab_sound ok_13 [23] 80 ?_
            refine And.intro (fun _ => ?_) (fun h_9 => absurd h_9 ((by decide)))
            refine ab_ev_of ih (by rw [nI_s i]; rfl) rfl rfl
        have cR := fun h => k_readRing_59 (X := X) (l := l) T p w1 n (S := S) (r3 := nI i) h hS hL hp hRR
        have cW := fun h => k_readWheel_59 (X := X) (l := l) T p w1 n (S := S) (r3 := nI i) h hS hL hp hRR
        have cP := fun h => k_readPen_59 (X := X) (l := l) T p w1 n (S := S) (r3 := nI i) h hS hL hp hRR
        have at102f : tkW T p 0 = false → tkW T p 1 = false → tkW T p 2 = false → ∀ w2 : ab_W, w2 = va_up w1 3 (oKR (nI 1) (nI (tP T p)) (nI i)) → ab_Ev X l i_KR_read 102 [some (.ref 3), some (.ref 1), some (.ref 59), some (.int (nI i)), some (.int (nI 0))] [] w2 n 0 0 (rkQ 59 T w n O) := by
          intro t0 t1 t2 w2 hw2
          have hq : rdL T S p = .inl (1, tP T p) := by unfold rdL; rw [if_neg (by rw [t0]; decide), if_neg (by rw [t1]; decide), if_neg (by rw [t2]; decide)]
          have fz : Fr (FRd 59) w1 w2 := by rw [hw2]; exact Fr.refl.up (Or.inr (Or.inl rfl))
          refine at102 false w2 fz (fun e9 he => ?_) (fun x hx => ?_)
          · have z : (1, tP T p) = e9 := Sum.inl.inj (hq.symm.trans he)
            subst z
            subst hw2
            refine ⟨rfl, rfl, ?_, m2, m4, (mC.up n3_59).sh⟩
            show isTp T (w1 1)
            rw [m1]
            exact tk_isTp
          · rw [hq] at hx; cases hx
        obtain ⟨w1, rfl⟩ := va_ex4 m1 m2 m3 m0
        refine ab_sound ok_13 [102] 80 ?_
        refine And.intro (fun h_9 => absurd h_9 ((fun z => by have z : nI 24 < nI i := z; rw [nI_ltI (by omega) (by omega)] at z; omega))) (fun _ => ?_)
        refine And.intro (fun h_9 => absurd h_9 (hz2)) (fun _ => ?_)
        (refine Exists.intro 0 ?_; refine ⟨0, _, Nat.zero_le _, Nat.zero_le _, k_isWord_0 T p _ _ hL hp rfl rfl, ?_⟩; refine ab_q1_elim ?_)
        cases t0 : tkW T p 0
        · refine And.intro (fun _ => ?_) (fun h_9 => absurd (rfl) h_9)
          (refine Exists.intro 0 ?_; refine ⟨0, _, Nat.zero_le _, Nat.zero_le _, k_isWord_1 T p _ _ hL hp rfl rfl, ?_⟩; refine ab_q1_elim ?_)
          cases t1 : tkW T p 1
          · refine And.intro (fun _ => ?_) (fun h_9 => absurd (rfl) h_9)
            (refine Exists.intro 0 ?_; refine ⟨0, _, Nat.zero_le _, Nat.zero_le _, k_isWord_2 T p _ _ hL hp rfl rfl, ?_⟩; refine ab_q1_elim ?_)
            cases t2 : tkW T p 2
            · refine And.intro (fun _ => ?_) (fun h_9 => absurd (rfl) h_9)
              (refine Exists.intro 0 ?_; refine ⟨0, _, Nat.zero_le _, Nat.zero_le _, k_fail T p 1 _ _ rfl rfl rfl, ?_⟩; refine ab_q1_elim ?_)
              exact at102f t0 t1 t2 _ rfl
            · refine And.intro (fun h_9 => absurd h_9 ((by decide))) (fun _ => ?_)
              (refine Exists.intro 0 ?_; refine ⟨0, _, Nat.zero_le _, Nat.zero_le _, cP t2, ?_⟩; rintro _ w2 _ ⟨v, rfl, rfl, f2, hl, hr⟩)
              have hq : rdL T S p = rdP T S p := by unfold rdL; rw [if_neg (by rw [t0]; decide), if_neg (by rw [t1]; decide), if_pos t2]
              exact at102 v w2 f2 (fun e9 he => hl e9 (hq.symm.trans he)) (fun x hx => hr x (hq.symm.trans hx))
          · refine And.intro (fun h_9 => absurd h_9 ((by decide))) (fun _ => ?_)
            (refine Exists.intro 0 ?_; refine ⟨0, _, Nat.zero_le _, Nat.zero_le _, cW t1, ?_⟩; rintro _ w2 _ ⟨v, rfl, rfl, f2, hl, hr⟩)
            have hq : rdL T S p = rdW T S p := by unfold rdL; rw [if_neg (by rw [t0]; decide), if_pos t1]
            exact at102 v w2 f2 (fun e9 he => hl e9 (hq.symm.trans he)) (fun x hx => hr x (hq.symm.trans hx))
        · refine And.intro (fun h_9 => absurd h_9 ((by decide))) (fun _ => ?_)
          (refine Exists.intro 0 ?_; refine ⟨0, _, Nat.zero_le _, Nat.zero_le _, cR t0, ?_⟩; rintro _ w2 _ ⟨v, rfl, rfl, f2, hl, hr⟩)
          have hq : rdL T S p = rdR T S p := by unfold rdL; rw [if_pos t0]
          exact at102 v w2 f2 (fun e9 he => hl e9 (hq.symm.trans he)) (fun x hx => hr x (hq.symm.trans hx))
  have cc := k_Kit_clear_59 (X := X) (l := l) w n hC
  obtain ⟨a9, b9, c9, d9, h0⟩ := hxa
  obtain ⟨w, rfl⟩ : ∃ w0, w = va_up (va_up (va_up (va_up w0 59 (oKit 59 a9 b9 c9 d9)) 3 (oKR r1 r2 r3)) 2 (aI 640 (tB T))) 1 (oTape (nI (tL T)) b c d e f) := ⟨w, by rw [← va_self h0, ← va_self h3, ← va_self h2, ← va_self h1]⟩
  have h4 : isWL (w 4) := h4
  refine ab_met cd_13 om_13 rfl (by rintro _ _ _ ⟨b, rfl, -⟩; trivial) (ab_sound ok_13 [23] 80 ?_)
  (refine Exists.intro 0 ?_; refine ⟨0, _, Nat.zero_le _, Nat.zero_le _, cc, ?_⟩; rintro _ w1 _ ⟨rfl, rfl, f1, hC1⟩)
  have y1 : w1 1 = oTape (nI (tL T)) b c d e f := f1.get rfl n1_59
  have y2 : w1 2 = aI 640 (tB T) := f1.get rfl (by unfold FKt; omega)
  have y3 : w1 3 = oKR r1 r2 r3 := f1.get rfl n3_59
  have y4 : isWL (w1 4) := by rw [f1 4 n4_59]; exact h4
  have fz := f1.mono (G := FRd 59) (fun k hk => Or.inr (Or.inr (Or.inr hk)))
  have lp := loop 26 0 0 KSz (va_up (va_up w1 3 (oKR (nI 0) r2 (nI 0))) 1 (oTk T 0 f)) none rfl rfl KSz_ok (by omega) ⟨⟨f, rfl⟩, y2, ⟨nI 0, r2, rfl, rfl⟩, y4, (hC1.up n3_59).up n1_59⟩ ((fz.up (Or.inr (Or.inl rfl))).up (Or.inl rfl)) hO
  obtain ⟨w1, rfl⟩ := va_ex3 y1 y2 y3
  have co := fun w2 => c_Tape_open (X := X) (l := l) T w2 n (b := b) (c := c) (d := d) (e := e) (f := f) hL (by omega)
  rw [hM] at co
  (refine Exists.intro 0 ?_; refine ⟨0, _, Nat.zero_le _, Nat.zero_le _, co _ rfl rfl, ?_⟩; refine ab_q1_elim ?_)
  refine ab_ev_of lp rfl rfl ?_
  simp only [va_uu]
  rfl
end READ
