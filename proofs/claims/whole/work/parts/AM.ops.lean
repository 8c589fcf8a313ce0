/-! the law's calls: back, right, made -/
section OPSD
variable {X : ab_X} {l : Launch} {w w' : ab_W} {n n' L L' : Nat} {tb tb' : Nat → Int32} {kn ks : Nat} {lf lf' : Int32} {N N' : Nat → Nat} {R R' : Nat → Nat → Nat → Int64} {K K' : KA} {nr nw np nr' nw' np' : Nat} {T S T' S' : TD} {Y Z Y' Z' : XD} {s s' : Nat → Int32} {wd tn wd' tn' : Int64} {F G : Nat → Prop}
theorem ICl.n60 (h : ICl w n L tb kn ks lf N R K nr nw np T Y) {t : Nat} (ht : t < 8) (hN : N t ≠ 0) : 3 ≤ N t ∧ N t ≤ 60 := by
  obtain ⟨a, -, h9⟩ := h.1.1.2.2.1.is ht hN
  exact h9
theorem op_back (x : Int32) (h : IV w n) : opI X l i_WP_back i_Mod_back [.int x] w n := by
  obtain ⟨L, tb, kn, ks, lf, N, R, K, nr, nw, np, T, S, Y, Z, s, wd, tn, ⟨hL, hk⟩, hc, hm, hT, hY, h4⟩ := h
  have hI : IH s wd tn L tb lf N R K nr nw np S Z kn ks L tb lf N R K nr nw np T Y w n := IH.of hc Fr.refl hm h4
  rcases sh_or N x with ⟨t, ht, hx, hN⟩ | hx
  · have h60 := hc.n60 ht hN
    refine opI_of (fun w1 n1 => ∃ T', IH s wd tn L tb lf N R K nr nw np S Z kn ks L tb lf N R K nr nw np T' Y w1 n1 ∧ T'.1 = nI (cnt (fun f => thB (N t) (TBv (N t) (R t) f)) (N t)) ∧ T'.2.1 = T.2.1 ∧ T'.2.2.1 = T.2.2.1 ∧ T'.2.2.2.2.2.2 = T.2.2.2.2.2.2 ∧ KeptIs (N t) (TBv (N t) (R t)) (N t) T'.2.2.2.1 T'.2.2.2.2.1 T'.2.2.2.2.2.1) (fun _ _ h => h.elim (fun _ h => h.1.heads)) (k_WP_back x t w n hx ht hN hc.1 hc.2.1) (by omega) (by omega) (fun w1 n1 hq => ?_) (fun w1 n1 hM => ?_)
    · obtain ⟨rfl, f, a3, arm', sp', pl', a4, a5⟩ := hq
      obtain ⟨b, c, d, e, g1, h1⟩ := hc.2.2.2.2.2.2.2.1
      obtain ⟨x1, x2⟩ := hc.mv2 (T' := (nI (cnt (fun f => thB (N t) (TBv (N t) (R t) f)) (N t)), T.2.1, T.2.2.1, arm', sp', pl', T.2.2.2.2.2.2)) hk f (fun k hk => by unfold FK at hk; omega) a3 a4 (KX.fr hc.2.2.1 f (fun k hk => by unfold FK at hk; omega)) ⟨b, c, d, e, g1, f.get h1 (by unfold FK; omega)⟩
      exact ⟨_, IH.of x1 x2 hm h4, rfl, rfl, rfl, rfl, a5⟩
    · obtain ⟨T', hI, t1, t2, t3, t4, t5⟩ := hM
      obtain ⟨j6, j7, j8, j9⟩ := hI.2.1.2.2.2.2.2.2.1
      refine (k_Mod_back x t w1 n1 hx ht hN hI.2.1.1 j6 j7 j8).weaken ?_
      rintro _ w2 n2 ⟨rfl, rfl, f, s', g, e0, e57, hB, arm', sp', pl', k6, k7, k8, k5⟩
      obtain ⟨-, m2, m3, m4, m5, ⟨g5, h6⟩, -, ⟨j0, j1, j2, j3⟩, e2, e10, -, e58, e59, e65⟩ := hI.2.1
      have o : ∀ k, (FM k ∨ (126 ≤ k ∧ k ≤ 128)) → k = 90 ∨ (111 ≤ k ∧ k ≤ 118) ∨ (126 ≤ k ∧ k ≤ 128) := fun k hk => by unfold FM at hk; omega
      refine ⟨rfl, IV.after (S' := (nI (cnt (fun f => thB (N t) (TBv (N t) (R t) f)) (N t)), S.2.1, S.2.2.1, arm', sp', pl', S.2.2.2.2.2.2)) hL hk hI (f.mono (fun k hk => by have := o k hk; unfold MF; omega)) rfl ⟨hB, m2.fr f (fun k hk => by have := o k hk; omega), m3.fr f (fun k hk => by have := o k hk; omega), m4.fr f (fun k hk => by have := o k hk; omega), f.get m5 (by omega), ⟨g5, f.get h6 (by omega)⟩, ⟨k6, k7, k8, f.get j9 (by omega)⟩, ⟨f.get j0 (by omega), f.get j1 (by omega), f.get j2 (by omega), f.get j3 (by omega)⟩, g.get e2 (by omega), g.get e10 (by omega), e57, g.get e58 (by omega), g.get e59 (by omega), g.get e65 (by omega)⟩ ⟨⟨_, ?_, t1, rfl, fun i hi => ?_⟩, ?_, ?_⟩ hY⟩
      · exact Nat.le_trans (cnt_le _ _) h60.2
      · obtain ⟨f9, q1, q2, q3⟩ := cnt_ex hi
        obtain ⟨u1, u2, u3⟩ := t5 f9 q1 q2
        obtain ⟨v1, v2, v3⟩ := k5 f9 q1 q2
        rw [q3] at u1 u2 u3 v1 v2 v3
        exact ⟨u1.trans v1.symm, u2.trans v2.symm, u3.trans v3.symm, _, v3⟩
      · rw [t2]
        exact hT.2.1
      · rw [t2, t3, t4]
        exact hT.2.2
  · refine opI_q1 (k_WP_back_n x w n hx hc.1.1) hI ?_
    refine (k_Mod_back_n x w n hx hm.1).weaken ?_
    rintro _ w2 n2 ⟨rfl, hq⟩
    exact ⟨rfl, (md_Q hL hk hI hT hY hq).1⟩
theorem op_right (x : Int32) (h : IV w n) : opI X l i_WP_right i_Mod_right [.int x] w n := by
  obtain ⟨L, tb, kn, ks, lf, N, R, K, nr, nw, np, T, S, Y, Z, s, wd, tn, ⟨hL, hk⟩, hc, hm, hT, hY, h4⟩ := h
  have hI : IH s wd tn L tb lf N R K nr nw np S Z kn ks L tb lf N R K nr nw np T Y w n := IH.of hc Fr.refl hm h4
  rcases sh_or N x with ⟨t, ht, hx, hN⟩ | hx
  · have h60 := hc.n60 ht hN
    refine ⟨0, 0, fun v w1 n1 => ∃ (T' : TD) (b : Nat) (o : Option Nat), IH s wd tn L tb lf N R K nr nw np S Z kn ks L tb lf N R K nr nw np T' Y w1 n1 ∧ v = nI (N t) - nI b ∧ ScIs (cnt (fun f => !thB (N t) (TBv (N t) (R t) f)) (N t)) (aX (N t) (alM (N t) (TBv (N t) (R t)))) (N t * N t) b o ∧ T'.1 = T.1 ∧ T'.2.1 = chV (N t) o ∧ T'.2.2.2.1 = T.2.2.2.1 ∧ T'.2.2.2.2.1 = T.2.2.2.2.1 ∧ T'.2.2.2.2.2.1 = T.2.2.2.2.2.1 ∧ ∀ y, o = some y → T'.2.2.1 = nI (phi (N t)) ∧ ∀ i, i < phi (N t) → T'.2.2.2.2.2.2 i = R t (y / N t) i - tv (N t) (y % N t * (y / N t)) (TBv (N t) (R t) (y % N t)) i, by omega, by omega, (k_WP_right x t w n hx ht hN hc.1 hc.2.1).weaken ?_, ?_⟩
    · rintro _ w1 n1 ⟨rfl, b, o, cs', c, rfl, hSc, f, a3, a4, a5⟩
      obtain ⟨b1, c1, d1, e1, g1, h1⟩ := hc.2.2.2.2.2.2.2.1
      obtain ⟨x1, x2⟩ := hc.mv2 (T' := (T.1, chV (N t) o, cs', T.2.2.2.1, T.2.2.2.2.1, T.2.2.2.2.2.1, c)) hk f (fun k hk => by unfold FK at hk; omega) a3 a4 (KX.fr hc.2.2.1 f (fun k hk => by unfold FK at hk; omega)) ⟨b1, c1, d1, e1, g1, f.get h1 (by unfold FK; omega)⟩
      have hI2 := IH.of x1 x2 hm h4
      exact ⟨_, rfl, ⟨_, b, o, hI2, rfl, hSc, rfl, rfl, rfl, rfl, rfl, a5⟩, hI2.heads⟩
    · rintro _ w1 n1 ⟨T', b, o, hI, rfl, hSc, t1, t2, t3, t4, t5, t6⟩
      obtain ⟨j6, j7, j8, j9⟩ := hI.2.1.2.2.2.2.2.2.1
      refine (k_Mod_right x t w1 n1 hx ht hN hI.2.1.1 j9).weaken ?_
      rintro _ w2 n2 ⟨rfl, b2, o2, s', c, rfl, hSc2, f, g, e0, e58, e59, hB, k9, k5⟩
      obtain ⟨eb, eo⟩ := hSc2.uniq hSc
      subst eb
      subst eo
      obtain ⟨-, m2, m3, m4, m5, ⟨g5, h6⟩, -, ⟨j0, j1, j2, j3⟩, e2, e10, e57, -, -, e65⟩ := hI.2.1
      have q : ∀ k, (FM k ∨ k = 129) → k = 90 ∨ (111 ≤ k ∧ k ≤ 118) ∨ k = 129 := fun k hk => by unfold FM at hk; omega
      refine ⟨rfl, IV.after (S' := (S.1, chV (N t) o2, nI (phi (N t)), S.2.2.2.1, S.2.2.2.2.1, S.2.2.2.2.2.1, c)) hL hk hI (f.mono (fun k hk => by have := q k hk; unfold MF; omega)) rfl ⟨hB, m2.fr f (fun k hk => by have := q k hk; omega), m3.fr f (fun k hk => by have := q k hk; omega), m4.fr f (fun k hk => by have := q k hk; omega), f.get m5 (by omega), ⟨g5, f.get h6 (by omega)⟩, ⟨f.get j6 (by omega), f.get j7 (by omega), f.get j8 (by omega), k9⟩, ⟨f.get j0 (by omega), f.get j1 (by omega), f.get j2 (by omega), f.get j3 (by omega)⟩, g.get e2 (by omega), g.get e10 (by omega), g.get e57 (by omega), e58, e59, g.get e65 (by omega)⟩ ⟨?_, t2, ?_⟩ hY⟩
      · rw [t1, t3, t4, t5]
        exact hT.1
      · intro hne
        rw [t2] at hne
        cases o2 with
        | none => exact absurd rfl hne
        | some y =>
          obtain ⟨u1, u2⟩ := t6 y rfl
          exact ⟨phi (N t), phi_le _ h60.2, u1, rfl, fun i hi => (u2 i hi).trans (k5 y rfl i hi).symm⟩
  · refine opI_q1 (k_WP_right_n x w n hx hc.1.1) hI ?_
    refine (k_Mod_right_n x w n hx hm.1).weaken ?_
    rintro _ w2 n2 ⟨rfl, hq⟩
    exact ⟨rfl, (md_Q hL hk hI hT hY hq).1⟩
theorem op_made (x y : Int32) (h : IV w n) : opI X l i_WP_made i_Mod_made [.int x, .int y] w n := by
  obtain ⟨L, tb, kn, ks, lf, N, R, K, nr, nw, np, T, S, Y, Z, s, wd, tn, ⟨hL, hk⟩, hc, hm, hT, hY, h4⟩ := h
  have hI : IH s wd tn L tb lf N R K nr nw np S Z kn ks L tb lf N R K nr nw np T Y w n := IH.of hc Fr.refl hm h4
  obtain ⟨b, c, d, e, g1, h1⟩ := hc.2.2.2.2.2.2.2.1
  have h2 := hc.2.2.2.2.2.2.2.2
  by_cases hbx : bxOk y L tb
  · obtain ⟨Rn, Wn, hy, hR, hW, rfl, hb⟩ := hbx
    rcases sh_or N x with ⟨t, ht, hx, hN⟩ | hx
    · have h60 := hc.n60 ht hN
      refine ⟨0, 0, fun v w1 n1 => ∃ Y' : XD, IH s wd tn (Rn + Wn) tb lf N R K nr nw np S Z kn ks 0 tb lf N R K nr nw np T Y' w1 n1 ∧ (((¬ ∃ f g, TwoP (N t) (TBv (N t) (R t)) f g) ∧ v = -nI 1 ∧ Y' = Y) ∨ ((∃ f g, TwoP (N t) (TBv (N t) (R t)) f g) ∧ v = nI (cnt (hP (N t) Wn (TBv (N t) (R t)) (Gf tb) (Tf tb Rn)) (Rn * Wn * 2)) ∧ Y'.1 = nI (cnt (hP (N t) Wn (TBv (N t) (R t)) (Gf tb) (Tf tb Rn)) (Rn * Wn * 2)) ∧ MkIs (hP (N t) Wn (TBv (N t) (R t)) (Gf tb) (Tf tb Rn)) (wR Wn) (wW Wn) wO (hZ (N t) Wn (TBv (N t) (R t)) (Gf tb) (Tf tb Rn)) (Rn * Wn * 2) Y'.2.1 Y'.2.2.1 Y'.2.2.2.1 Y'.2.2.2.2)), by omega, by omega, (k_WP_made x y t Rn Wn w n hx ht hN hy hR hW hb hc.1 h1 h2 hc.2.1 hc.2.2.1).weaken ?_, ?_⟩
      · rintro v w1 n1 ⟨rfl, f, a3, a4, a5, a6⟩
        have fd : ∀ k, FD k → k = 1 ∨ (17 ≤ k ∧ k ≤ 39) := fun k hk => by unfold FD at hk; omega
        rcases a6 with ⟨c1, rfl, c3⟩ | ⟨c1, rfl, b1, b2, b3, b4, c3, c4⟩
        · obtain ⟨x1, x2⟩ := hc.mv2 (T' := T) (Y' := Y) hk f fd a3 a5 c3 ⟨b, c, d, e, g1, a4⟩
          have hI2 := IH.of x1 x2 hm h4
          exact ⟨_, rfl, ⟨Y, hI2, Or.inl ⟨c1, rfl, rfl⟩⟩, hI2.heads⟩
        · obtain ⟨x1, x2⟩ := hc.mv2 (T' := T) (Y' := (nI (cnt (hP (N t) Wn (TBv (N t) (R t)) (Gf tb) (Tf tb Rn)) (Rn * Wn * 2)), b1, b2, b3, b4)) hk f fd a3 a5 c3 ⟨b, c, d, e, g1, a4⟩
          have hI2 := IH.of x1 x2 hm h4
          exact ⟨_, rfl, ⟨_, hI2, Or.inr ⟨c1, rfl, rfl, c4⟩⟩, hI2.heads⟩
      · rintro v w1 n1 ⟨Y', hI, hv⟩
        obtain ⟨j0, j1, j2, j3⟩ := hI.2.1.2.2.2.2.2.2.2.1
        refine (k_Mod_made x y t Rn Wn w1 n1 hx ht hN hy hR hW hb hI.2.1.1 hI.2.1.2.2.2.2.2.2.2.2.1 hI.2.1.2.2.2.2.1 j0 j1 j2 j3).weaken ?_
        rintro u w2 n2 ⟨s', ⟨rfl, f, g, e0, e2, hB⟩, hq⟩
        obtain ⟨-, m2, m3, m4, m5, ⟨g5, h6⟩, ⟨j6, j7, j8, j9⟩, -, -, e10, e57, e58, e59, e65⟩ := hI.2.1
        have o : ∀ k, (FM k ∨ (130 ≤ k ∧ k ≤ 133)) → k = 90 ∨ (111 ≤ k ∧ k ≤ 118) ∨ (130 ≤ k ∧ k ≤ 133) := fun k hk => by unfold FM at hk; omega
        have mk : ∀ (Z' : XD), w2 130 = aI 40 Z'.2.1 → w2 131 = aI 40 Z'.2.2.1 → w2 132 = aI 40 Z'.2.2.2.1 → w2 133 = aI 40 Z'.2.2.2.2 → s' 65 = Z'.1 → RelX Y' Z' → IV w2 n1 := by
          intro Z' z0 z1 z2 z3 z5 hr
          exact IV.after (Z' := Z') (by omega) hk hI (f.mono (fun k hk => by have := o k hk; unfold MF; omega)) rfl ⟨hB, m2.fr f (fun k hk => by have := o k hk; omega), m3.fr f (fun k hk => by have := o k hk; omega), m4.fr f (fun k hk => by have := o k hk; omega), f.get m5 (by omega), ⟨g5, f.get h6 (by omega)⟩, ⟨f.get j6 (by omega), f.get j7 (by omega), f.get j8 (by omega), f.get j9 (by omega)⟩, ⟨z0, z1, z2, z3⟩, e2, g.get e10 (by omega), g.get e57 (by omega), g.get e58 (by omega), g.get e59 (by omega), z5⟩ hT hr
        rcases hq with ⟨c1, rfl, c3, c4, c5, c6, c7⟩ | ⟨c1, rfl, c3, b1, b2, b3, b4, c4, c5, c6, c7, c8⟩
        · rcases hv with ⟨-, rfl, rfl⟩ | ⟨d1, -⟩
          · exact ⟨rfl, mk Z c4 c5 c6 c7 (c3.trans e65) hY⟩
          · exact absurd d1 c1
        · rcases hv with ⟨d1, -⟩ | ⟨-, rfl, d2, d3⟩
          · exact absurd c1 d1
          · refine ⟨rfl, mk (_, b1, b2, b3, b4) c4 c5 c6 c7 c3 ⟨_, ?_, d2, rfl, fun i hi hi4 => ?_⟩⟩
            · have q1 := cnt_le (hP (N t) Wn (TBv (N t) (R t)) (Gf tb) (Tf tb Rn)) (Rn * Wn * 2)
              have q2 : Rn * Wn ≤ 12 * 12 := Nat.mul_le_mul hR.2 hW.2
              omega
            · obtain ⟨f9, p1, p2, p3⟩ := cnt_ex hi
              obtain ⟨u1, u2, u3, u4⟩ := d3 f9 p1 p2 (by omega)
              obtain ⟨v1, v2, v3, v4⟩ := c8 f9 p1 p2 (by omega)
              rw [p3] at u1 u2 u3 u4 v1 v2 v3 v4
              exact ⟨u1.trans v1.symm, u2.trans v2.symm, u3.trans v3.symm, u4.trans v4.symm⟩
    · refine opI_of (IH s wd tn (Rn + Wn) tb lf N R K nr nw np S Z kn ks 0 tb lf N R K nr nw np T Y) (fun _ _ h => h.heads) (k_WP_made_n x y Rn Wn w n hx hy hR hW hb hc.1 h1 h2 hc.2.1 hc.2.2.1) (by omega) (by omega) (fun w1 n1 hq => ?_) (fun w1 n1 hI => ?_)
      · obtain ⟨rfl, f, a3, a4, a5, a6⟩ := hq
        obtain ⟨x1, x2⟩ := hc.mv2 (T' := T) (Y' := Y) hk f (fun k hk => by unfold FD at hk; omega) a3 a5 a6 ⟨b, c, d, e, g1, a4⟩
        exact IH.of x1 x2 hm h4
      · refine (k_Mod_made_n x y Rn Wn w1 n1 hx hy hR hW hb hI.2.1.1 hI.2.1.2.2.2.2.2.2.2.2.1 hI.2.1.2.2.2.2.1).weaken ?_
        rintro _ w2 n2 ⟨rfl, hq⟩
        exact ⟨rfl, md_QT hk hI hT hY hq⟩
  · refine opI_of (IH s wd tn L tb lf N R K nr nw np S Z kn ks 0 tb lf N R K nr nw np T Y) (fun _ _ h => h.heads) (k_WP_made_bad x y L w n hL hbx hc.w0 h1 h2 hc.2.2.1) (by omega) (by omega) (fun w1 n1 hq => ?_) (fun w1 n1 hI => ?_)
    · obtain ⟨rfl, f, a3, a4⟩ := hq
      obtain ⟨x1, x2⟩ := hc.mv2 (T' := T) (Y' := Y) hk f (fun k hk => by omega) ⟨hc.1.1.fr f (fun k hk => by unfold FRS FR FS; omega) (Nat.le_refl _), hc.1.2.fr f (fun k hk => by unfold FP; omega)⟩ (KT.fr hc.2.1 f (fun k hk => by omega)) a4 ⟨b, c, d, e, g1, a3⟩
      exact IH.of x1 x2 hm h4
    · refine (k_Mod_made_bad x y L w1 n1 hL hbx hI.2.1.1 hI.2.1.2.2.2.2.2.2.2.2.1 hI.2.1.2.2.2.2.1).weaken ?_
      rintro _ w2 n2 ⟨rfl, hq⟩
      exact ⟨rfl, md_QT hk hI hT hY hq⟩
end OPSD
