/-! the law's calls that may throw -/
section OPSE
variable {X : ab_X} {l : Launch} {w w' : ab_W} {n n' L L' : Nat} {tb tb' : Nat → Int32} {kn ks : Nat} {lf lf' : Int32} {N N' : Nat → Nat} {R R' : Nat → Nat → Nat → Int64} {K K' : KA} {nr nw np nr' nw' np' : Nat} {T S T' S' : TD} {Y Z Y' Z' : XD} {s s' : Nat → Int32} {wd tn wd' tn' : Int64} {F G : Nat → Prop} {ls : ab_L} {y9 : Nat}
theorem ev_T (hI : IH s wd tn L tb lf N R K nr nw np S Z kn ks L tb lf N R K nr nw np T Y w n) (h : ab_Ev X l y9 0 ls [] w n 1 6 (ab_q1 (some (.retAddr 7777)) w n)) : ab_Ev X l y9 0 ls [] w n 1 6 (qT (fun w1 n1 => IH s wd tn L tb lf N R K nr nw np S Z kn ks L tb lf N R K nr nw np T Y w1 n1 ∧ ∃ kn ks lf s wd tn, w1 0 = oWP kn ks lf ∧ w1 90 = oMod s wd tn)) := by
  refine h.weaken ?_
  rintro _ _ _ ⟨rfl, rfl, rfl⟩
  exact ⟨rfl, hI, hI.heads⟩
theorem ev_L {r : Int64} (hI : IH s wd tn L tb lf N R K nr nw np S Z kn ks L tb lf N R K nr nw np T Y w n) (h : ab_Ev X l y9 0 ls [] w n 1 6 (ab_q1 (some (.long r)) w n)) : ab_Ev X l y9 0 ls [] w n 1 6 (qL r (fun w1 n1 => IH s wd tn L tb lf N R K nr nw np S Z kn ks L tb lf N R K nr nw np T Y w1 n1 ∧ ∃ kn ks lf s wd tn, w1 0 = oWP kn ks lf ∧ w1 90 = oMod s wd tn)) := by
  refine h.weaken ?_
  rintro _ _ _ ⟨rfl, rfl, rfl⟩
  exact ⟨rfl, hI, hI.heads⟩
theorem ev_I {r : Int32} (hI : IH s wd tn L tb lf N R K nr nw np S Z kn ks L tb lf N R K nr nw np T Y w n) (h : ab_Ev X l y9 0 ls [] w n 1 6 (ab_q1 (some (.int r)) w n)) : ab_Ev X l y9 0 ls [] w n 1 6 (qI r (fun w1 n1 => IH s wd tn L tb lf N R K nr nw np S Z kn ks L tb lf N R K nr nw np T Y w1 n1 ∧ ∃ kn ks lf s wd tn, w1 0 = oWP kn ks lf ∧ w1 90 = oMod s wd tn)) := by
  refine h.weaken ?_
  rintro _ _ _ ⟨rfl, rfl, rfl⟩
  exact ⟨rfl, hI, hI.heads⟩
theorem op_spin (htr : l.stackTraces = false) (x y : Int32) (h : IV w n) : opT X l 244 i_Mod_spin [.int x, .int y] false w n := by
  obtain ⟨L, tb, kn, ks, lf, N, R, K, nr, nw, np, T, S, Y, Z, s, wd, tn, ⟨hL, hk⟩, hc, hm, hT, hY, h4⟩ := h
  have hI : IH s wd tn L tb lf N R K nr nw np S Z kn ks L tb lf N R K nr nw np T Y w n := IH.of hc Fr.refl hm h4
  have hKK := hc.2.2.2.1
  have hA := hKK.2.1
  have bad : ((x < 0 ∨ nI nw ≤ x) ∨ (y < 0 ∨ nI 2 ≤ y)) → opT X l 244 i_Mod_spin [.int x, .int y] false w n := by
    intro hb
    have hE : ab_Ev X l i_WP_spin 0 (ab_en (ab_mx i_WP_spin) [.ref 0, .int x, .int y]) [] w n 1 6 (ab_q1 (some (.retAddr 7777)) w n) := by
      rcases hk with ⟨rfl, rfl⟩ | ⟨rfl, rfl⟩
      · exact k_WP_spin_n_44 x y w n hb hc.w0 hKK
      · exact k_WP_spin_n_59 x y w n hb hc.w0 hKK
    refine ⟨true, 0, IH s wd tn L tb lf N R K nr nw np S Z kn ks L tb lf N R K nr nw np T Y, h_spin_n x y w n htr hc.w0 (ev_T hI hE), fun w1 n1 hI => ?_⟩
    refine (k_Mod_spin_n x y w1 n1 hb hI.2.1.w90 hI.2.1.2.1.1).weaken ?_
    rintro _ _ _ ⟨rfl, rfl, rfl⟩
    obtain ⟨a, b, c⟩ := md_set0t hL hk hI hT hY true
    exact ⟨a, b, c, _, rfl, fun h => nomatch h⟩
  rcases in_or nw (by have := hA.1; omega) x with ⟨v, hv, hx⟩ | hx
  · rcases in_or 2 (by omega) y with ⟨e0, he, hy⟩ | hy
    · obtain ⟨e, hy⟩ := b01_of he hy
      have hE : ab_Ev X l i_WP_spin 0 (ab_en (ab_mx i_WP_spin) [.ref 0, .int x, .int y]) [] w n 1 6 (ab_q1 (some (.int (if e = true then kSl K v else kSu K v))) w n) := by
        rcases hk with ⟨rfl, rfl⟩ | ⟨rfl, rfl⟩
        · exact k_WP_spin_44 x y v e w n hx hy hv hc.w0 hKK
        · exact k_WP_spin_59 x y v e w n hx hy hv hc.w0 hKK
      refine ⟨false, _, IH s wd tn L tb lf N R K nr nw np S Z kn ks L tb lf N R K nr nw np T Y, h_spin_y x y w n _ hc.w0 (ev_I hI hE) (ih_cl hk), fun w1 n1 hI => ?_⟩
      refine (k_Mod_spin x y v e w1 n1 hx hy hv hI.2.1.w90 hI.2.1.2.1.1 hA).weaken ?_
      rintro _ _ _ ⟨rfl, rfl, rfl⟩
      obtain ⟨a, b, c⟩ := md_set0t hL hk hI hT hY false
      exact ⟨a, b, c, _, rfl, fun _ => rfl⟩
    · exact bad (Or.inr hy)
  · exact bad (Or.inl hx)
theorem op_arm (htr : l.stackTraces = false) (x y z : Int32) (h : IV w n) : opT X l 245 i_Mod_arm [.int x, .int y, .int z] true w n := by
  obtain ⟨L, tb, kn, ks, lf, N, R, K, nr, nw, np, T, S, Y, Z, s, wd, tn, ⟨hL, hk⟩, hc, hm, hT, hY, h4⟩ := h
  have hI : IH s wd tn L tb lf N R K nr nw np S Z kn ks L tb lf N R K nr nw np T Y w n := IH.of hc Fr.refl hm h4
  have hKK := hc.2.2.2.1
  have hA := hKK.2.1
  have bad : ((x < 0 ∨ nI np ≤ x) ∨ (z < 0 ∨ nI 2 ≤ z) ∨ ∃ p, p < np ∧ x = nI p ∧ (y < 0 ∨ nI (PnL K p).length ≤ y)) → opT X l 245 i_Mod_arm [.int x, .int y, .int z] true w n := by
    intro hb
    have hE : ab_Ev X l i_WP_arm 0 (ab_en (ab_mx i_WP_arm) [.ref 0, .int x, .int y, .int z]) [] w n 1 6 (qT fun w' n' => n = n' ∧ Fr FG w w' ∧ KP w') := by
      rcases hk with ⟨rfl, rfl⟩ | ⟨rfl, rfl⟩
      · exact k_WP_arm_n_44 x y z w n hb hc.w0 hKK
      · exact k_WP_arm_n_59 x y z w n hb hc.w0 hKK
    refine ⟨true, 0, IH s wd tn L tb lf N R K nr nw np S Z kn ks L tb lf N R K nr nw np T Y, h_arm_n x y z w n htr hc.w0 (hE.weaken ?_), fun w1 n1 hI => ?_⟩
    · rintro _ w1 n1 ⟨rfl, rfl, f, hP⟩
      obtain ⟨a, b⟩ := cl_FG hc hk f hP
      have hJ := IH.of a b hm h4
      exact ⟨rfl, hJ, hJ.heads⟩
    · refine (k_Mod_arm_n x y z w1 n1 hb hI.2.1.w90 hI.2.1.2.1.1 hA hI.2.1.2.2.1).weaken ?_
      rintro _ w2 n2 ⟨rfl, hq⟩
      obtain ⟨a, b, c⟩ := md_Z hL hk hI hT hY hq
      exact ⟨a, b, c, _, rfl, fun h => nomatch h⟩
  rcases in_or np (by have := hA.1; omega) x with ⟨p, hp, hx⟩ | hx
  · rcases in_or 2 (by omega) z with ⟨e0, he, hz⟩ | hz
    · obtain ⟨e, hz⟩ := b01_of he hz
      have hl : (PnL K p).length ≤ 5 := Nat.le_trans (flt_len _) (pn_ok hA hp).2
      rcases in_or (PnL K p).length (by omega) y with ⟨i, hi, hy⟩ | hy
      · have hE : ab_Ev X l i_WP_arm 0 (ab_en (ab_mx i_WP_arm) [.ref 0, .int x, .int y, .int z]) [] w n 1 6 (qL (if e = true then Int64.ofInt (PnS K p (PnO K p i)) else PnF K p i) fun w' n' => n = n' ∧ Fr FG w w' ∧ KP w') := by
          rcases hk with ⟨rfl, rfl⟩ | ⟨rfl, rfl⟩
          · exact k_WP_arm_44 x y z p i e w n hx hy hz hp hi hc.w0 hKK
          · exact k_WP_arm_59 x y z p i e w n hx hy hz hp hi hc.w0 hKK
        refine ⟨false, if e = true then Int64.ofInt (PnS K p (PnO K p i)) else PnF K p i, IH s wd tn L tb lf N R K nr nw np S Z kn ks L tb lf N R K nr nw np T Y, h_arm_y x y z w n (if e = true then Int64.ofInt (PnS K p (PnO K p i)) else PnF K p i) hc.w0 (hE.weaken ?_) (ih_cl hk), fun w1 n1 hI => ?_⟩
        · rintro _ w1 n1 ⟨rfl, rfl, f, hP⟩
          obtain ⟨a, b⟩ := cl_FG hc hk f hP
          have hJ := IH.of a b hm h4
          exact ⟨rfl, hJ, hJ.heads⟩
        · refine (k_Mod_arm x y z p i e w1 n1 hx hy hz hp hi hI.2.1.w90 hI.2.1.2.1.1 hA hI.2.1.2.2.1).weaken ?_
          rintro _ w2 n2 ⟨rfl, hq⟩
          obtain ⟨a, b, c⟩ := md_Z hL hk hI hT hY hq
          exact ⟨a, b, c, _, rfl, fun _ => rfl⟩
      · exact bad (Or.inr (Or.inr ⟨p, hp, hx, hy⟩))
    · exact bad (Or.inr (Or.inl hz))
  · exact bad (Or.inl hx)
theorem op_point (htr : l.stackTraces = false) (x y z : Int32) (h : IV w n) : opT X l 246 i_Mod_point [.int x, .int y, .int z] true w n := by
  obtain ⟨L, tb, kn, ks, lf, N, R, K, nr, nw, np, T, S, Y, Z, s, wd, tn, ⟨hL, hk⟩, hc, hm, hT, hY, h4⟩ := h
  have hI : IH s wd tn L tb lf N R K nr nw np S Z kn ks L tb lf N R K nr nw np T Y w n := IH.of hc Fr.refl hm h4
  have bad : (badS N x ∨ ∃ t, t < 8 ∧ x = nI t ∧ N t ≠ 0 ∧ ((y < 0 ∨ nI (N t) ≤ y) ∨ (z < 0 ∨ nI (phi (N t)) ≤ z))) → opT X l 246 i_Mod_point [.int x, .int y, .int z] true w n := by
    intro hb
    refine ⟨true, 0, IH s wd tn L tb lf N R K nr nw np S Z kn ks L tb lf N R K nr nw np T Y, h_point_n x y z w n htr hc.w0 (ev_T hI (k_WP_point_n x y z w n hb hc.1.1)), fun w1 n1 hI => ?_⟩
    refine (k_Mod_point_n x y z w1 n1 hb hI.2.1.1).weaken ?_
    rintro _ w2 n2 ⟨rfl, hq⟩
    obtain ⟨a, b, c⟩ := md_Q hL hk hI hT hY hq
    exact ⟨a, b, c, _, rfl, fun h => nomatch h⟩
  rcases sh_or N x with ⟨t, ht, hx, hN⟩ | hx
  · have h60 := hc.n60 ht hN
    have hph := phi_le (N t) h60.2
    rcases in_or (N t) (by omega) y with ⟨k, hk1, hy⟩ | hy
    · rcases in_or (phi (N t)) (by omega) z with ⟨i, hi, hz⟩ | hz
      · refine ⟨false, _, IH s wd tn L tb lf N R K nr nw np S Z kn ks L tb lf N R K nr nw np T Y, h_point_y x y z w n _ hc.w0 (ev_L hI (k_WP_point x y z t k i w n hx hy hz ht hN hk1 hi hc.1.1)) (ih_cl hk), fun w1 n1 hI => ?_⟩
        refine (k_Mod_point x y z t k i w1 n1 hx hy hz ht hN hk1 hi hI.2.1.1).weaken ?_
        rintro _ w2 n2 ⟨rfl, hq⟩
        obtain ⟨a, b, c⟩ := md_Q hL hk hI hT hY hq
        exact ⟨a, b, c, _, rfl, fun _ => rfl⟩
      · exact bad (Or.inr ⟨t, ht, hx, hN, Or.inr hz⟩)
    · exact bad (Or.inr ⟨t, ht, hx, hN, Or.inl hy⟩)
  · exact bad (Or.inl hx)
theorem op_area (htr : l.stackTraces = false) (x y : Int32) (h : IV w n) : opT X l 247 i_Mod_area [.int x, .int y] true w n := by
  obtain ⟨L, tb, kn, ks, lf, N, R, K, nr, nw, np, T, S, Y, Z, s, wd, tn, ⟨hL, hk⟩, hc, hm, hT, hY, h4⟩ := h
  have hI : IH s wd tn L tb lf N R K nr nw np S Z kn ks L tb lf N R K nr nw np T Y w n := IH.of hc Fr.refl hm h4
  have bad : (badS N x ∨ ∃ t, t < 8 ∧ x = nI t ∧ N t ≠ 0 ∧ (y < 0 ∨ nI (phi (N t)) ≤ y)) → opT X l 247 i_Mod_area [.int x, .int y] true w n := by
    intro hb
    refine ⟨true, 0, IH s wd tn L tb lf N R K nr nw np S Z kn ks L tb lf N R K nr nw np T Y, h_area_n x y w n htr hc.w0 (ev_T hI (k_WP_area_n x y w n hb hc.1.1)), fun w1 n1 hI => ?_⟩
    refine (k_Mod_area_n x y w1 n1 hb hI.2.1.1).weaken ?_
    rintro _ w2 n2 ⟨rfl, hq⟩
    obtain ⟨a, b, c⟩ := md_Q hL hk hI hT hY hq
    exact ⟨a, b, c, _, rfl, fun h => nomatch h⟩
  rcases sh_or N x with ⟨t, ht, hx, hN⟩ | hx
  · have h60 := hc.n60 ht hN
    have hph := phi_le (N t) h60.2
    rcases in_or (phi (N t)) (by omega) y with ⟨i, hi, hy⟩ | hy
    · refine ⟨false, ArV (N t) (R t) i, IH s wd tn L tb lf N R K nr nw np S Z kn ks L tb lf N R K nr nw np T Y, h_area_y x y w n (ArV (N t) (R t) i) hc.w0 ((k_WP_area x y t i w n hx hy ht hN hi hc.1.1).weaken ?_) (ih_cl hk), fun w1 n1 hI => ?_⟩
      · rintro _ w1 n1 ⟨rfl, hq⟩
        obtain ⟨a, b⟩ := cl_KQ hc hk hq
        have hJ := IH.of a b hm h4
        exact ⟨rfl, hJ, hJ.heads⟩
      · obtain ⟨g5, h125⟩ := hI.2.1.2.2.2.2.2.1
        refine (k_Mod_area x y t i w1 n1 hx hy ht hN hi hI.2.1.1 h125).weaken ?_
        rintro _ w2 n2 ⟨rfl, e, f, h6, s2, g, e0, hB⟩
        have fm : ∀ k, (FM k ∨ k = 125) → k = 90 ∨ (111 ≤ k ∧ k ≤ 118) ∨ k = 125 := fun k hk => by unfold FM at hk; omega
        have hm2 := hI.2.1.mv f g (fun k hk => by have := fm k hk; omega) (fun k hk => by unfold GA at hk; omega) hB (hI.2.1.2.2.1.fr f (fun k hk => by have := fm k hk; omega)) h6 (g.get hI.2.1.2.2.2.2.2.2.2.2.1 (by unfold GA; omega))
        exact ⟨IV.after hL hk hI (f.mono (fun k hk => by have := fm k hk; unfold MF; omega)) e hm2 hT hY, f _ (fun z => by have := fm _ z; omega), ⟨_, _, _, hm2.w90, e0⟩, _, rfl, fun _ => rfl⟩
    · exact bad (Or.inr ⟨t, ht, hx, hN, hy⟩)
  · exact bad (Or.inl hx)
theorem op_rightAt (htr : l.stackTraces = false) (x : Int32) (h : IV w n) : opT X l 248 i_Mod_rightAt [.int x] true w n := by
  obtain ⟨L, tb, kn, ks, lf, N, R, K, nr, nw, np, T, S, Y, Z, s, wd, tn, ⟨hL, hk⟩, hc, hm, hT, hY, h4⟩ := h
  have hI : IH s wd tn L tb lf N R K nr nw np S Z kn ks L tb lf N R K nr nw np T Y w n := IH.of hc Fr.refl hm h4
  obtain ⟨⟨a0, b0, c0, d0, h27⟩, -, -, -, -, h32⟩ := hc.2.1
  have bad : (T.2.1 = -nI 1 ∨ x < 0 ∨ T.2.2.1 ≤ x) → (S.2.1 = -nI 1 ∨ x < 0 ∨ S.2.2.1 ≤ x) → opT X l 248 i_Mod_rightAt [.int x] true w n := by
    intro hb hb2
    refine ⟨true, 0, IH s wd tn L tb lf N R K nr nw np S Z kn ks L tb lf N R K nr nw np T Y, h_rightAt_n x w n htr hc.w0 (ev_T hI (k_WP_rightAt_n x w n hb hc.w0 h27)), fun w1 n1 hI => ?_⟩
    obtain ⟨-, -, -, e58, e59, -⟩ := hI.2.1.2.2.2.2.2.2.2.2
    refine (c_Mod_rightAt_n x w1 n1 (by rw [e58, e59]; exact hb2) hI.2.1.w90).weaken ?_
    rintro _ _ _ ⟨rfl, rfl, rfl⟩
    obtain ⟨a, b, c⟩ := md_set0t hL hk hI hT hY true
    exact ⟨a, b, c, _, rfl, fun h => nomatch h⟩
  by_cases hch : T.2.1 = -nI 1
  · exact bad (Or.inl hch) (Or.inl (hT.2.1.symm.trans hch))
  · obtain ⟨p, hp, e1, e2, e3⟩ := hT.2.2 hch
    rcases in_or p (by omega) x with ⟨i, hi, hx⟩ | hx
    · rw [e1] at h27
      refine ⟨false, _, IH s wd tn L tb lf N R K nr nw np S Z kn ks L tb lf N R K nr nw np T Y, h_rightAt_y x w n _ hc.w0 (ev_L hI (k_WP_rightAt x i p w n hx hi hp hch hc.w0 h27 h32)) (ih_cl hk), fun w1 n1 hI => ?_⟩
      obtain ⟨-, -, -, e58, e59, -⟩ := hI.2.1.2.2.2.2.2.2.2.2
      obtain ⟨-, -, -, h129⟩ := hI.2.1.2.2.2.2.2.2.1
      refine (c_Mod_rightAt x i p w1 n1 hx hi hp hI.2.1.w90 (e59.trans e2) (by rw [e58, ← hT.2.1]; exact hch) h129).weaken ?_
      rintro _ _ _ ⟨rfl, rfl, rfl⟩
      obtain ⟨a, b, c⟩ := md_set0t hL hk hI hT hY false
      exact ⟨a, b, c, _, rfl, fun _ => (e3 i hi).symm⟩
    · exact bad (Or.inr (by rw [e1]; exact hx)) (Or.inr (by rw [e2]; exact hx))
theorem op_madeAt (htr : l.stackTraces = false) (x y : Int32) (h : IV w n) : opT X l 249 i_Mod_madeAt [.int x, .int y] false w n := by
  obtain ⟨L, tb, kn, ks, lf, N, R, K, nr, nw, np, T, S, Y, Z, s, wd, tn, ⟨hL, hk⟩, hc, hm, hT, hY, h4⟩ := h
  have hI : IH s wd tn L tb lf N R K nr nw np S Z kn ks L tb lf N R K nr nw np T Y w n := IH.of hc Fr.refl hm h4
  obtain ⟨⟨a0, b0, h33⟩, -, -, h36, h37, h38, h39⟩ := hc.2.2.1
  have bad : (x < 0 ∨ Y.1 ≤ x ∨ nI 40 ≤ x ∨ y < 0 ∨ nI 4 ≤ y) → (x < 0 ∨ Z.1 ≤ x ∨ y < 0 ∨ nI 4 ≤ y) → opT X l 249 i_Mod_madeAt [.int x, .int y] false w n := by
    intro hb hb2
    refine ⟨true, 0, IH s wd tn L tb lf N R K nr nw np S Z kn ks L tb lf N R K nr nw np T Y, h_madeAt_n x y w n htr hc.w0 (ev_T hI (k_WP_madeAt_n x y w n hb hc.w0 h33)), fun w1 n1 hI => ?_⟩
    have e65 := hI.2.1.2.2.2.2.2.2.2.2.2.2.2.2.2
    refine (k_Mod_madeAt_n x y w1 n1 (by rw [e65]; exact hb2) hI.2.1.w90).weaken ?_
    rintro _ _ _ ⟨rfl, rfl, rfl⟩
    obtain ⟨a, b, c⟩ := md_set0t hL hk hI hT hY true
    exact ⟨a, b, c, _, rfl, fun h => nomatch h⟩
  obtain ⟨m, hm9, e1, e2, e3⟩ := id hY
  by_cases hy : y < 0 ∨ nI 4 ≤ y
  · exact bad (Or.inr (Or.inr (Or.inr hy))) (Or.inr (Or.inr hy))
  · have hmn : (if m < 40 then m else 40) ≤ m ∧ (if m < 40 then m else 40) ≤ 40 := by split <;> omega
    rcases in_or (if m < 40 then m else 40) (by omega) x with ⟨i, hi, hx⟩ | hx
    · obtain ⟨q1, q2, q3, q4⟩ := e3 i (by omega) (by omega)
      rw [e1] at h33
      refine ⟨false, _, IH s wd tn L tb lf N R K nr nw np S Z kn ks L tb lf N R K nr nw np T Y, h_madeAt_y x y w n _ hc.w0 (ev_I hI (k_WP_madeAt x y i m w n hx (by omega) (by omega) (by omega) hy hc.w0 h33 h36 h37 h38 h39)) (ih_cl hk), fun w1 n1 hI => ?_⟩
      have e65 := hI.2.1.2.2.2.2.2.2.2.2.2.2.2.2.2
      obtain ⟨j0, j1, j2, j3⟩ := hI.2.1.2.2.2.2.2.2.2.1
      refine (k_Mod_madeAt x y i _ w1 n1 hx hi hmn.2 hy hI.2.1.w90 (e65.trans e2) j0 j1 j2 j3).weaken ?_
      rintro _ _ _ ⟨rfl, rfl, rfl⟩
      obtain ⟨a, b, c⟩ := md_set0t hL hk hI hT hY false
      exact ⟨a, b, c, _, rfl, fun _ => by rw [q1, q2, q3, q4]⟩
    · refine bad ?_ (hx.imp id (fun z => Or.inl (by rw [e2]; exact z)))
      refine hx.imp id (fun z => ?_)
      by_cases h9 : m < 40
      · rw [if_pos h9] at z
        exact Or.inl (by rw [e1]; exact z)
      · rw [if_neg h9] at z
        exact Or.inr (Or.inl z)
end OPSE
