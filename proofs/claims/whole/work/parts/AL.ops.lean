/-! the law's calls: draw, mix, drawnBy, count; what is told back -/
section OPSC
variable {X : ab_X} {l : Launch} {w w' : ab_W} {n n' L L' : Nat} {tb tb' : Nat → Int32} {kn ks : Nat} {lf lf' : Int32} {N N' : Nat → Nat} {R R' : Nat → Nat → Nat → Int64} {K K' : KA} {nr nw np nr' nw' np' : Nat} {T S T' S' : TD} {Y Z Y' Z' : XD} {s s' : Nat → Int32} {wd tn wd' tn' : Int64} {F G : Nat → Prop}
theorem ICl.mv2 (h : ICl w n L tb kn ks lf N R K nr nw np T Y) (hk : Kns kn ks) (hf : Fr F w w') (hF : ∀ k, F k → k = 1 ∨ (17 ≤ k ∧ k ≤ 39)) (hC : KC w' n' kn ks lf N R) (hT : KTd w' T') (hX : KXd w' Y') (h1 : ∃ b c d e f, w' 1 = oTape (nI L') b c d e f) : ICl w' n' L' tb kn ks lf N R K nr nw np T' Y' ∧ Fr CF w w' := by
  obtain ⟨-, -, -, h5, ⟨h6, h7⟩, ⟨⟨t, i, bw, bt, ht, bu, bl, au, al, su, sl, h8⟩, a, b, c, h9⟩, h10, -, h12⟩ := h
  have hk2 : kn = 44 ∨ kn = 59 := by unfold Kns at hk; omega
  exact ⟨⟨hC, hT, hX, h5.fr hf (fun k hk => by have := hF k hk; omega), ⟨h6.fr hf (fun k hk => by have := hF k hk; unfold FKt; omega), h7.fr hf (fun k hk => by have := hF k hk; unfold FKt; omega)⟩, ⟨⟨t, i, bw, bt, ht, bu, bl, au, al, su, sl, hf.get h8 (fun z => by have := hF _ z; omega)⟩, a, b, c, hf.get h9 (fun z => by have := hF _ z; omega)⟩, h10.fr hf (fun k hk => by have := hF k hk; omega), h1, hf.get h12 (fun z => by have := hF _ z; omega)⟩, hf.mono (fun k hk => by have := hF k hk; unfold CF; omega)⟩
theorem op_draw (x y z : Int32) (h : IV w n) : opI X l i_WP_draw i_Mod_draw [.int x, .int y, .int z] w n := by
  obtain ⟨L, tb, kn, ks, lf, N, R, K, nr, nw, np, T, S, Y, Z, s, wd, tn, ⟨hL, hk⟩, hc, hm, hT, hY, h4⟩ := h
  have hI : IH s wd tn L tb lf N R K nr nw np S Z kn ks L tb lf N R K nr nw np T Y w n := IH.of hc Fr.refl hm h4
  have hKK := hc.2.2.2.1
  have hA := hKK.2.1
  have bad : ((x < 0 ∨ nI 8 ≤ x) ∨ (y < 0 ∨ nI np ≤ y) ∨ (z < nI 3 ∨ nI 60 < z)) → opI X l i_WP_draw i_Mod_draw [.int x, .int y, .int z] w n := by
    intro hb
    have hC : ab_C X l i_WP_draw [.ref 0, .int x, .int y, .int z] w n 0 0 (ab_q1 (some (.int (-nI 1))) w n) := by
      rcases hk with ⟨rfl, rfl⟩ | ⟨rfl, rfl⟩
      · exact k_WP_draw_n_44 x y z w n hb hc.w0 hKK.1 hA
      · exact k_WP_draw_n_59 x y z w n hb hc.w0 hKK.1 hA
    refine opI_q1 hC hI ?_
    refine (k_Mod_draw_n x y z w n hb hm.w90 hm.2.1.1 hA).weaken ?_
    rintro _ _ _ ⟨rfl, rfl, rfl⟩
    exact ⟨rfl, md_set0 hL hk hI hT hY _⟩
  rcases in_or 8 (by omega) x with ⟨t, ht, hx⟩ | hx
  · rcases in_or np (by have := hA.1; omega) y with ⟨p, hp, hy⟩ | hy
    · rcases in_or 61 (by omega) z with ⟨M, hM, hz⟩ | hz
      · by_cases h3 : 3 ≤ M
        · have hC : ab_C X l i_WP_draw [.ref 0, .int x, .int y, .int z] w n 1 3480 (qI (nI (cnt (fresh (phi M) (DrV K p M)) M)) fun w' n' => n ≤ n' ∧ Fr FV w w' ∧ KB w' n' kn ks lf (va_up N t M) (va_up R t (DrV K p M)) ∧ KP w') := by
            rcases hk with ⟨rfl, rfl⟩ | ⟨rfl, rfl⟩
            · exact k_WP_draw_44 x y z t p M w n hx hy hz ht ⟨h3, by omega⟩ hp hc.1.1 hKK
            · exact k_WP_draw_59 x y z t p M w n hx hy hz ht ⟨h3, by omega⟩ hp hc.1.1 hKK
          refine opI_of (IH s wd tn L tb lf N R K nr nw np S Z kn ks L tb lf (va_up N t M) (va_up R t (DrV K p M)) K nr nw np T Y) (fun _ _ h => h.heads) hC (by omega) (by omega) (fun w1 n1 hq => ?_) (fun w1 n1 hI => ?_)
          · obtain ⟨q1, f, q4, hP⟩ := hq
            obtain ⟨b, c, d, e, g1, h1⟩ := hc.2.2.2.2.2.2.2.1
            have o : ∀ k, FV k → (12 ≤ k ∧ k ≤ 19) ∨ (41 ≤ k ∧ k ≤ 43) ∨ (74 ≤ k ∧ k < 90) ∨ 135 ≤ k := fun k hk => by unfold FV FRS FR FS FG at hk; omega
            exact IH.of (hc.mv hk f (fun k hk => by have := o k hk; omega) ⟨q4, hc.1.2.fr f (fun k hk => by have := o k hk; unfold FP; omega)⟩ hP (hc.2.2.2.2.2.2.1.fr f (fun k hk => by have := o k hk; omega)) ⟨b, c, d, e, g1, f.get h1 (fun z => by have := o _ z; omega)⟩) (f.mono (fun k hk => by have := o k hk; unfold CF; omega)) hm h4
          · refine (k_Mod_draw x y z t p M w1 n1 hx hy hz ht ⟨h3, by omega⟩ hp hA hI.2.1.1 hI.2.1.2.1.1 hI.2.1.2.2.1).weaken ?_
            rintro _ w2 n2 ⟨rfl, rfl, f, hA2, s', tn', g, e0, hB⟩
            obtain ⟨g5, h6⟩ := hI.2.1.2.2.2.2.2.1
            exact ⟨rfl, IV.after hL hk hI (f.mono (fun k hk => by unfold MF; omega)) rfl (hI.2.1.mv f g (fun k hk => by omega) (fun k hk => by omega) hB hA2 ⟨g5, f.get h6 (by omega)⟩ (g.get hI.2.1.2.2.2.2.2.2.2.2.1 (by omega))) hT hY⟩
        · exact bad (Or.inr (Or.inr (Or.inl (by rw [hz]; exact nI_lt (by omega) (by omega)))))
      · refine bad (Or.inr (Or.inr (hz.imp (fun q => ?_) (fun q => ?_))))
        · rw [i32_lt] at q ⊢
          rw [nI_toInt (by omega)]
          have : (0 : Int32).toInt = 0 := rfl
          omega
        · rw [i32_le, nI_toInt (by omega)] at q
          rw [i32_lt, nI_toInt (by omega)]
          omega
    · exact bad (Or.inr (Or.inl hy))
  · exact bad (Or.inl hx)
theorem op_drawnBy (x : Int32) (h : IV w n) : opI X l i_WP_drawnBy i_Mod_drawnBy [.int x] w n := by
  obtain ⟨L, tb, kn, ks, lf, N, R, K, nr, nw, np, T, S, Y, Z, s, wd, tn, ⟨hL, hk⟩, hc, hm, hT, hY, h4⟩ := h
  have hI : IH s wd tn L tb lf N R K nr nw np S Z kn ks L tb lf N R K nr nw np T Y w n := IH.of hc Fr.refl hm h4
  have hKK := hc.2.2.2.1
  have hA := hKK.2.1
  rcases sh_or N x with ⟨t, ht, hx, hN⟩ | hx
  · have hC : ab_C X l i_WP_drawnBy [.ref 0, .int x] w n 1 3480 (qI (dbV (fun p => dnB (N t) (R t) (DrV K p (N t))) np) fun w' n' => n ≤ n' ∧ Fr FU w w' ∧ KC w' n' kn ks lf N R ∧ KP w') := by
      rcases hk with ⟨rfl, rfl⟩ | ⟨rfl, rfl⟩
      · exact k_WP_drawnBy_44 x t w n hx ht hN hc.1 hKK
      · exact k_WP_drawnBy_59 x t w n hx ht hN hc.1 hKK
    refine opI_of (IH s wd tn L tb lf N R K nr nw np S Z kn ks L tb lf N R K nr nw np T Y) (fun _ _ h => h.heads) hC (by omega) (by omega) (fun w1 n1 hq => ?_) (fun w1 n1 hI => ?_)
    · obtain ⟨q1, f, q4, hP⟩ := hq
      obtain ⟨b, c, d, e, g1, h1⟩ := hc.2.2.2.2.2.2.2.1
      have o : ∀ k, FU k → (12 ≤ k ∧ k ≤ 26) ∨ (41 ≤ k ∧ k ≤ 43) ∨ (74 ≤ k ∧ k < 90) ∨ 135 ≤ k := fun k hk => by unfold FU FV FRS FR FS FG FA at hk; omega
      exact IH.of (hc.mv hk f (fun k hk => by have := o k hk; omega) q4 hP (hc.2.2.2.2.2.2.1.fr f (fun k hk => by have := o k hk; omega)) ⟨b, c, d, e, g1, f.get h1 (fun z => by have := o _ z; omega)⟩) (f.mono (fun k hk => by have := o k hk; unfold CF; omega)) hm h4
    · refine (k_Mod_drawnBy x t w1 n1 hx ht hN hA hI.2.1.1 hI.2.1.2.1.1 hI.2.1.2.2.1).weaken ?_
      rintro _ w2 n2 ⟨rfl, rfl, f, hA2, s', tn', g, e0, hB⟩
      obtain ⟨g5, h6⟩ := hI.2.1.2.2.2.2.2.1
      exact ⟨rfl, IV.after hL hk hI (f.mono (fun k hk => by unfold MF; omega)) rfl (hI.2.1.mv f g (fun k hk => by omega) (fun k hk => by omega) hB hA2 ⟨g5, f.get h6 (by omega)⟩ (g.get hI.2.1.2.2.2.2.2.2.2.2.1 (by omega))) hT hY⟩
  · refine opI_q1 (k_WP_drawnBy_n x w n hx hc.1.1) hI ?_
    refine (k_Mod_drawnBy_n x w n hx hm.1).weaken ?_
    rintro _ _ _ ⟨rfl, rfl, rfl⟩
    exact ⟨rfl, md_set0 hL hk hI hT hY _⟩
theorem op_count (x : Int32) (h : IV w n) : opI X l i_WP_count i_Mod_count [.int x] w n := by
  obtain ⟨L, tb, kn, ks, lf, N, R, K, nr, nw, np, T, S, Y, Z, s, wd, tn, ⟨hL, hk⟩, hc, hm, hT, hY, h4⟩ := h
  have hI : IH s wd tn L tb lf N R K nr nw np S Z kn ks L tb lf N R K nr nw np T Y w n := IH.of hc Fr.refl hm h4
  obtain ⟨b, c, d, e, g1, h1⟩ := hc.2.2.2.2.2.2.2.1
  have hKK := hc.2.2.2.1
  have hC : ab_C X l i_WP_count [.ref 0, .int x] w n 0 0 (ab_q1 (some (.int (cnV x nr nw np (cnt (isN N) 8) (nI L)))) w n) := by
    rcases hk with ⟨rfl, rfl⟩ | ⟨rfl, rfl⟩
    · exact k_WP_count_44 x w n hc.w0 hc.1.1.2.2.1 hKK.1 h1
    · exact k_WP_count_59 x w n hc.w0 hc.1.1.2.2.1 hKK.1 h1
  refine opI_q1 hC hI ?_
  refine (k_Mod_count x w n hm.w90 hm.1.2.2.1 hm.2.1.1).weaken ?_
  rintro _ _ _ ⟨rfl, rfl, rfl⟩
  exact ⟨by rw [hm.2.2.2.2.2.2.2.2.1], md_set0 hL hk hI hT hY _⟩
theorem op_mix (x : Int32) (h : IV w n) : opI X l i_WP_mix i_Mod_mix [.int x] w n := by
  obtain ⟨L, tb, kn, ks, lf, N, R, K, nr, nw, np, T, S, Y, Z, s, wd, tn, ⟨hL, hk⟩, hc, hm, hT, hY, h4⟩ := h
  have hI : IH s wd tn L tb lf N R K nr nw np S Z kn ks L tb lf N R K nr nw np T Y w n := IH.of hc Fr.refl hm h4
  obtain ⟨q1, q2, q3, q4, q5, h1⟩ := hc.2.2.2.2.2.2.2.1
  rcases in_or 8 (by omega) x with ⟨t, ht, hx⟩ | hx
  · have hC := k_WP_mix_y (X := X) (l := l) x t L tb w n hx ht hL hc.1.1 h1 hc.2.2.2.2.2.2.2.2 hc.2.2.2.2.2.2.1
    have hM : ∀ w1 n1, IMs w1 s wd tn L tb lf N R K nr nw np S Z → ab_C X l i_Mod_mix [.ref 90, .int x] w1 n1 0 0 (qI (mixV N R (rdM0 (tb, L, 200) N)) (mxQ N R t (rdM0 (tb, L, 200) N) w1 n1 s tn)) := fun w1 n1 hm1 => k_Mod_mix_y x t L tb w1 n1 hx ht hL hm1.1 hm1.2.2.2.2.2.2.2.2.1 hm1.2.2.2.2.1 hm1.2.2.2.1
    generalize rdM0 (tb, L, 200) N = O at hC hM
    refine opI_of (IH s wd tn L tb lf N R K nr nw np S Z kn ks 0 tb (mixF O) (mixN N R t O) (mixR N R t O) K nr nw np T Y) (fun _ _ h => h.heads) hC (by omega) (by omega) (fun w1 n1 hq => ?_) (fun w1 n1 hI => ?_)
    · obtain ⟨a1, f, a3, a4, a5⟩ := hq
      have o : ∀ k, FMX k → k = 0 ∨ k = 1 ∨ (5 ≤ k ∧ k ≤ 11) ∨ (17 ≤ k ∧ k ≤ 19) ∨ (41 ≤ k ∧ k ≤ 43) ∨ (74 ≤ k ∧ k < 90) ∨ 135 ≤ k := fun k hk => by unfold FMX F511 FRS FR FS at hk; omega
      exact IH.of (hc.mv hk f (fun k hk => by have := o k hk; omega) ⟨a5, hc.1.2.fr f (fun k hk => by have := o k hk; unfold FP; omega)⟩ (hc.2.2.2.1.2.2.fr f (fun k hk => by have := o k hk; omega)) a4 a3) (f.mono (fun k hk => by have := o k hk; unfold CF; omega)) hm h4
    · refine (hM w1 n1 hI.2.1).weaken ?_
      rintro _ w2 n2 ⟨rfl, rfl, f, s', wd', hB, m2, e0, e2, e10, g⟩
      obtain ⟨-, k2, k3, -, k5, ⟨g5, h6⟩, ⟨k6, k7, k8, k9⟩, ⟨j0, j1, j2, j3⟩, -, -, e57, e58, e59, e65⟩ := hI.2.1
      have o : ∀ k, FMm k → k = 90 ∨ (111 ≤ k ∧ k ≤ 124) := fun k hk => by unfold FMm at hk; omega
      have p : ∀ k, GMx k → ¬ 57 ≤ k := fun k hk => by unfold GMx at hk; omega
      refine ⟨rfl, IV.after (by omega) hk hI (f.mono (fun k hk => by have := o k hk; unfold MF; omega)) rfl ⟨hB, k2.fr f (fun k hk => by have := o k hk; omega), k3.fr f (fun k hk => by have := o k hk; omega), m2, f.get k5 (fun z => by have := o _ z; omega), ⟨g5, f.get h6 (fun z => by have := o _ z; omega)⟩, ⟨f.get k6 (fun z => by have := o _ z; omega), f.get k7 (fun z => by have := o _ z; omega), f.get k8 (fun z => by have := o _ z; omega), f.get k9 (fun z => by have := o _ z; omega)⟩, ⟨f.get j0 (fun z => by have := o _ z; omega), f.get j1 (fun z => by have := o _ z; omega), f.get j2 (fun z => by have := o _ z; omega), f.get j3 (fun z => by have := o _ z; omega)⟩, e2, e10, g.get e57 (fun z => p _ z (by omega)), g.get e58 (fun z => p _ z (by omega)), g.get e59 (fun z => p _ z (by omega)), g.get e65 (fun z => p _ z (by omega))⟩ hT hY⟩
  · refine opI_of (IH s wd tn L tb lf N R K nr nw np S Z kn ks 0 tb lf N R K nr nw np T Y) (fun _ _ h => h.heads) (v := -nI 1000) (P := fun w1 n1 => w1 = va_up w 1 (oTape (nI 0) q1 q2 q3 q4 q5) ∧ n1 = n) ((k_WP_mix_n x w n hx hc.w0 h1).weaken ?_) (by omega) (by omega) (fun w1 n1 hq => ?_) (fun w1 n1 hI => ?_)
    · rintro _ _ _ ⟨rfl, rfl, rfl⟩
      exact ⟨rfl, rfl, rfl⟩
    · obtain ⟨rfl, rfl⟩ := hq
      obtain ⟨x1, x2⟩ := cl_tape (b := q1) (c := q2) (d := q3) (e := q4) (g1 := q5) hc hk 0
      exact IH.of x1 x2 hm h4
    · refine (k_Mod_mix_n x w1 n1 hx hI.2.1.w90).weaken ?_
      rintro _ _ _ ⟨rfl, rfl, rfl⟩
      exact ⟨rfl, IV.after (by omega) hk hI (Fr.refl.up (by unfold MF; omega)) rfl (hI.2.1.set (G := fun k => k = 0 ∨ k = 2 ∨ k = 3) (((Fr.refl.us (Or.inl rfl)).us (Or.inr (Or.inl rfl))).us (Or.inr (Or.inr rfl))) (fun k hk => by omega) ((upd_ne (by omega)).trans upd_at)) hT hY⟩
theorem op_wrong (h : IV w n) : opI X l i_WP_wrong i_Mod_wrong [] w n := by
  obtain ⟨L, tb, kn, ks, lf, N, R, K, nr, nw, np, T, S, Y, Z, s, wd, tn, ⟨hL, hk⟩, hc, hm, hT, hY, h4⟩ := h
  have hI : IH s wd tn L tb lf N R K nr nw np S Z kn ks L tb lf N R K nr nw np T Y w n := IH.of hc Fr.refl hm h4
  obtain ⟨a, b, c, d, h27⟩ := hc.2.1.1
  refine opI_q1 (c_WP_wrong w n hc.w0 h27) hI ?_
  refine (c_Mod_wrong w n hm.w90).weaken ?_
  rintro _ _ _ ⟨rfl, rfl, rfl⟩
  exact ⟨by rw [hm.2.2.2.2.2.2.2.2.2.2.2.1, hT.2.1], md_set0 hL hk hI hT hY _⟩
theorem op_backAt (x y : Int32) (h : IV w n) : opL X l i_WP_backAt i_Mod_backAt [.int x, .int y] w n := by
  obtain ⟨L, tb, kn, ks, lf, N, R, K, nr, nw, np, T, S, Y, Z, s, wd, tn, ⟨hL, hk⟩, hc, hm, hT, hY, h4⟩ := h
  have hI : IH s wd tn L tb lf N R K nr nw np S Z kn ks L tb lf N R K nr nw np T Y w n := IH.of hc Fr.refl hm h4
  obtain ⟨⟨a, b, c, d, h27⟩, -, h29, h30, h31, -⟩ := hc.2.1
  obtain ⟨⟨m, hm60, eT, eS, hr⟩, -⟩ := id hT
  obtain ⟨h126, h127, h128, -⟩ := hm.2.2.2.2.2.2.1
  have e57 := hm.2.2.2.2.2.2.2.2.2.2.1
  rw [eT] at h27
  rw [eS] at e57
  rcases in_or m (by omega) x with ⟨i, hi, hx⟩ | hx
  · obtain ⟨r1, r2, r3, bb, r4⟩ := hr i hi
    refine opL_q1 (c_WP_backAt x y i m w n hx hi hm60 hc.w0 h27 h29 h30 h31) hI ?_
    refine (c_Mod_backAt x y i m bb w n hx hi hm60 hm.w90 e57 h126 h127 h128 r4).weaken ?_
    rintro _ _ _ ⟨rfl, rfl, rfl⟩
    exact ⟨by rw [r1, r2, r3], md_set0 hL hk hI hT hY _⟩
  · refine opL_q1 (c_WP_backAt_n x y w n hx hc.w0 h27) hI ?_
    refine (c_Mod_backAt_n x y w n (by rw [e57]; exact hx) hm.w90).weaken ?_
    rintro _ _ _ ⟨rfl, rfl, rfl⟩
    exact ⟨rfl, md_set0 hL hk hI hT hY _⟩
end OPSC
