/-! the law's calls: tape, kit, pens -/
section OPSB
variable {X : ab_X} {l : Launch} {w w' : ab_W} {n n' L L' : Nat} {tb tb' : Nat → Int32} {kn ks : Nat} {lf lf' : Int32} {N N' : Nat → Nat} {R R' : Nat → Nat → Nat → Int64} {K K' : KA} {nr nw np nr' nw' np' : Nat} {T S T' S' : TD} {Y Z Y' Z' : XD} {s s' : Nat → Int32} {wd tn wd' tn' : Int64} {F G : Nat → Prop}
theorem ICl.set2 (h : ICl w n L tb kn ks lf N R K nr nw np T Y) (hk : Kns kn ks) (tb' : Nat → Int32) : ICl (va_up w 2 (aI 640 tb')) n L tb' kn ks lf N R K nr nw np T Y := by
  obtain ⟨⟨h1, h2⟩, h3, h4, h5, ⟨h6, h7⟩, ⟨⟨t, i, bw, bt, ht, bu, bl, au, al, su, sl, h8⟩, a, b, c, h9⟩, h10, ⟨b1, c1, d1, e1, f1, h11⟩, h12⟩ := h
  have hf : Fr (fun k => k = 2) w (va_up w 2 (aI 640 tb')) := Fr.refl.up rfl
  have hk2 : kn = 44 ∨ kn = 59 := by unfold Kns at hk; omega
  exact ⟨⟨h1.fr hf (fun k hk => by unfold FRS FR FS; omega) (Nat.le_refl _), h2.fr hf (fun k hk => by unfold FP; omega)⟩, KT.fr h3 hf (fun k hk => by omega), KX.fr h4 hf (fun k hk => by omega), h5.fr hf (fun k hk => by omega), ⟨h6.fr hf (fun k hk => by unfold FKt; omega), h7.fr hf (fun k hk => by unfold FKt; omega)⟩, ⟨⟨t, i, bw, bt, ht, bu, bl, au, al, su, sl, hf.get h8 (by omega)⟩, a, b, c, hf.get h9 (by omega)⟩, h10.fr hf (fun k hk => by omega), ⟨b1, c1, d1, e1, f1, hf.get h11 (by omega)⟩, va_us⟩
theorem IMs.set91 (h : IMs w s wd tn L tb lf N R K nr nw np T Y) (tb' : Nat → Int32) : IMs (va_up w 91 (aI 640 tb')) s wd tn L tb' lf N R K nr nw np T Y := by
  obtain ⟨h1, h2, h3, h4, h5, ⟨g, h6⟩, ⟨k6, k7, k8, k9⟩, ⟨j0, j1, j2, j3⟩, h9⟩ := h
  have hf : Fr (fun k => k = 91) w (va_up w 91 (aI 640 tb')) := Fr.refl.up rfl
  exact ⟨h1.fr hf (fun k hk => by omega), h2.fr hf (fun k hk => by omega), h3.fr hf (fun k hk => by omega), h4.fr hf (fun k hk => by omega), va_us, ⟨g, hf.get h6 (by omega)⟩, ⟨hf.get k6 (by omega), hf.get k7 (by omega), hf.get k8 (by omega), hf.get k9 (by omega)⟩, ⟨hf.get j0 (by omega), hf.get j1 (by omega), hf.get j2 (by omega), hf.get j3 (by omega)⟩, h9⟩
theorem op_feed (a b c d e : Int32) (h : IV w n) : opI X l i_WP_feed i_Mod_feed [.int a, .int b, .int c, .int d, .int e] w n := by
  obtain ⟨L, tb, kn, ks, lf, N, R, K, nr, nw, np, T, S, Y, Z, s, wd, tn, ⟨hL, hk⟩, hc, hm, hT, hY, h4⟩ := h
  have hI : IH s wd tn L tb lf N R K nr nw np S Z kn ks L tb lf N R K nr nw np T Y w n := IH.of hc Fr.refl hm h4
  obtain ⟨q1, q2, q3, q4, q5, h1⟩ := hc.2.2.2.2.2.2.2.1
  by_cases h6 : L ≤ 620
  · refine opI_of (IH s wd tn L tb lf N R K nr nw np S Z kn ks (L + 20) (put20 tb L a b c d e) lf N R K nr nw np T Y) (fun _ _ h => h.heads) (v := nI (L + 20)) (P := fun w1 n1 => w1 = va_up (va_up w 1 (oTape (nI (L + 20)) q1 q2 q3 q4 q5)) 2 (aI 640 (put20 tb L a b c d e)) ∧ n1 = n) ((c_WP_feed a b c d e w n L h6 hc.w0 h1 hc.2.2.2.2.2.2.2.2).weaken ?_) (by omega) (by omega) (fun w1 n1 hq => ?_) (fun w1 n1 hI => ?_)
    · rintro _ _ _ ⟨rfl, rfl, rfl⟩
      exact ⟨rfl, rfl, rfl⟩
    · obtain ⟨rfl, rfl⟩ := hq
      obtain ⟨x1, x2⟩ := cl_tape (b := q1) (c := q2) (d := q3) (e := q4) (g1 := q5) hc hk (L + 20)
      exact IH.of (x1.set2 hk _) (x2.up (by unfold CF; omega)) hm h4
    · refine (c_Mod_feed a b c d e w1 n1 L h6 hI.2.1.w90 hI.2.1.2.2.2.2.2.2.2.2.1 hI.2.1.2.2.2.2.1).weaken ?_
      rintro _ _ _ ⟨rfl, rfl, rfl⟩
      refine ⟨rfl, IV.after (by omega) hk hI ((Fr.refl.up (by unfold MF; omega)).up (by unfold MF; omega)) rfl ((hI.2.1.set (G := fun k => k = 0 ∨ k = 2) ((Fr.refl.us (Or.inl rfl)).us (Or.inr rfl)) (fun k hk => by omega) upd_at).set91 _) hT hY⟩
  · refine opI_q1 (c_WP_feed_no a b c d e w n L (by omega) hL hc.w0 h1) hI ?_
    refine (c_Mod_feed_no a b c d e w n L (by omega) hL hm.w90 hm.2.2.2.2.2.2.2.2.1).weaken ?_
    rintro _ _ _ ⟨rfl, rfl, rfl⟩
    exact ⟨rfl, md_set0 hL hk hI hT hY _⟩
theorem op_end (x : Int32) (h : IV w n) : opI X l i_WP_end i_Mod_end [.int x] w n := by
  obtain ⟨L, tb, kn, ks, lf, N, R, K, nr, nw, np, T, S, Y, Z, s, wd, tn, ⟨hL, hk⟩, hc, hm, hT, hY, h4⟩ := h
  have hI : IH s wd tn L tb lf N R K nr nw np S Z kn ks L tb lf N R K nr nw np T Y w n := IH.of hc Fr.refl hm h4
  obtain ⟨q1, q2, q3, q4, q5, h1⟩ := hc.2.2.2.2.2.2.2.1
  rcases in_or (L + 1) (by omega) x with ⟨m, hm1, hx⟩ | hx
  · have z0 : ¬ x < 0 := by rw [hx]; exact nI_pos (by omega)
    have z1 : ¬ nI L < x := by rw [hx, i32_lt, nI_toInt (by omega), nI_toInt (by omega)]; omega
    refine opI_of (IH s wd tn L tb lf N R K nr nw np S Z kn ks m tb lf N R K nr nw np T Y) (fun _ _ h => h.heads) (v := nI 1) (P := fun w1 n1 => w1 = va_up w 1 (oTape (nI m) q1 q2 q3 q4 q5) ∧ n1 = n) ((c_WP_end x w n L z0 z1 hc.w0 h1).weaken ?_) (by omega) (by omega) (fun w1 n1 hq => ?_) (fun w1 n1 hI => ?_)
    · rintro _ _ _ ⟨rfl, rfl, rfl⟩
      exact ⟨rfl, by rw [hx], rfl⟩
    · obtain ⟨rfl, rfl⟩ := hq
      obtain ⟨x1, x2⟩ := cl_tape (b := q1) (c := q2) (d := q3) (e := q4) (g1 := q5) hc hk m
      exact IH.of x1 x2 hm h4
    · refine (c_Mod_end x w1 n1 L z0 z1 hI.2.1.w90 hI.2.1.2.2.2.2.2.2.2.2.1).weaken ?_
      rintro _ _ _ ⟨rfl, rfl, rfl⟩
      exact ⟨rfl, IV.after (by omega) hk hI (Fr.refl.up (by unfold MF; omega)) rfl (hI.2.1.set (G := fun k => k = 0 ∨ k = 2) ((Fr.refl.us (Or.inl rfl)).us (Or.inr rfl)) (fun k hk => by omega) (upd_at.trans hx)) hT hY⟩
  · have hx2 : x < 0 ∨ nI L < x := by
      refine hx.imp id (fun z => ?_)
      rw [i32_le, nI_toInt (by omega)] at z
      rw [i32_lt, nI_toInt (by omega)]
      omega
    refine opI_q1 (c_WP_end_no x w n L hL hx2 hc.w0 h1) hI ?_
    refine (c_Mod_end_no x w n L hx2 hm.w90 hm.2.2.2.2.2.2.2.2.1).weaken ?_
    rintro _ _ _ ⟨rfl, rfl, rfl⟩
    exact ⟨rfl, md_set0 hL hk hI hT hY _⟩
theorem rdK_ok {T : TE} : ∀ (f : Nat) (S : KS) (p : Nat) (x : Nat × KS), p ≤ tL T → KSok S → rdK T f S p = .inr x → KSok x.2
  | 0, _, _, _, _, _, h => by cases h
  | f + 1, S, p, x, hp, hS, h => by
    unfold rdK at h
    split at h
    · cases h
    · split at h
      · cases h
        exact hS
      · split at h
        · cases h
        · rename_i q S2 hq
          obtain ⟨h1, -, h3⟩ := rdL_ok hp hS hq
          exact rdK_ok f S2 q x h3 h1 h
theorem cl_kitE (h : ICl w n L tb kn ks lf N R K nr nw np T Y) (hk : Kns kn ks) (f : Fr (fun k => k = 0 ∨ FRd ks k) w w') (h1 : ∃ b c d e f, w' 1 = oTape (nI 0) b c d e f) (h3 : ∃ a b c, w' 3 = oKR a b c) (h4 : isWL (w' 4)) (hS : CSh w' ks) (h0 : w' 0 = oWP kn ks lf') : ICl w' n 0 tb kn ks lf' N R K nr nw np T Y ∧ Fr CF w w' := by
  obtain ⟨⟨⟨-, k1, k2, g, k3⟩, h2⟩, h3', h4', ⟨h5, h5b, h5c⟩, ⟨h6, h7⟩, -, h10, -, h12⟩ := h
  have o : ∀ k, (k = 0 ∨ FRd ks k) → k = 0 ∨ k = 1 ∨ k = 3 ∨ k = 4 ∨ (ks ≤ k ∧ k ≤ ks + 14) := fun k hk => by unfold FRd FKt at hk; omega
  have hkk : (kn = 44 ∧ ks = 59) ∨ (kn = 59 ∧ ks = 44) := hk
  refine ⟨⟨⟨⟨h0, k1.fr f (fun z => by have := o _ z; omega) (fun z => by have := o _ z; omega) (fun z => by have := o _ z; omega), k2.fr f (fun k hk => by have := o k hk; unfold FS; omega) (Nat.le_refl _), g, f.get k3 (fun z => by have := o _ z; omega)⟩, h2.fr f (fun k hk => by have := o k hk; unfold FP; omega)⟩, KT.fr h3' f (fun k hk => by have := o k hk; omega), KX.fr h4' f (fun k hk => by have := o k hk; omega), ⟨h5.fr f (fun k hk => by have := o k hk; omega), h5b, h5c.fr f (fun k hk => by have := o k hk; omega)⟩, ?_, ⟨h4, h3⟩, h10.fr f (fun k hk => by have := o k hk; omega), h1, f.get h12 (fun z => by have := o _ z; omega)⟩, f.mono (fun k hk => by have := o k hk; unfold CF; omega)⟩
  rcases hkk with ⟨rfl, rfl⟩ | ⟨rfl, rfl⟩
  · exact ⟨h6.fr f (fun k hk => by have := o k hk; unfold FKt; omega), hS⟩
  · exact ⟨hS, h7.fr f (fun k hk => by have := o k hk; unfold FKt; omega)⟩
theorem cl_kitO (h : ICl w n L tb kn ks lf N R K nr nw np T Y) (hk : Kns kn ks) (f : Fr (fun k => k = 0 ∨ FRd ks k) w w') (h1 : ∃ b c d e f, w' 1 = oTape (nI 0) b c d e f) (h3 : ∃ a b c, w' 3 = oKR a b c) (h4 : isWL (w' 4)) (hS : CSh w' ks) (h0 : w' 0 = oWP ks kn lf') (hC : CKit w' ks K' nr' nw' np') (hA : KAok K' nw' np') : ICl w' n 0 tb ks kn lf' N R K' nr' nw' np' T Y ∧ Fr CF w w' := by
  obtain ⟨⟨⟨-, k1, k2, g, k3⟩, h2⟩, h3', h4', ⟨-, -, h5c⟩, ⟨h6, h7⟩, -, h10, -, h12⟩ := h
  have o : ∀ k, (k = 0 ∨ FRd ks k) → k = 0 ∨ k = 1 ∨ k = 3 ∨ k = 4 ∨ (ks ≤ k ∧ k ≤ ks + 14) := fun k hk => by unfold FRd FKt at hk; omega
  have hkk : (kn = 44 ∧ ks = 59) ∨ (kn = 59 ∧ ks = 44) := hk
  refine ⟨⟨⟨⟨h0, k1.fr f (fun z => by have := o _ z; omega) (fun z => by have := o _ z; omega) (fun z => by have := o _ z; omega), k2.fr f (fun k hk => by have := o k hk; unfold FS; omega) (Nat.le_refl _), g, f.get k3 (fun z => by have := o _ z; omega)⟩, h2.fr f (fun k hk => by have := o k hk; unfold FP; omega)⟩, KT.fr h3' f (fun k hk => by have := o k hk; omega), KX.fr h4' f (fun k hk => by have := o k hk; omega), ⟨hC, hA, h5c.fr f (fun k hk => by have := o k hk; omega)⟩, ?_, ⟨h4, h3⟩, h10.fr f (fun k hk => by have := o k hk; omega), h1, f.get h12 (fun z => by have := o _ z; omega)⟩, f.mono (fun k hk => by have := o k hk; unfold CF; omega)⟩
  rcases hkk with ⟨rfl, rfl⟩ | ⟨rfl, rfl⟩
  · exact ⟨h6.fr f (fun k hk => by have := o k hk; unfold FKt; omega), hS⟩
  · exact ⟨hS, h7.fr f (fun k hk => by have := o k hk; unfold FKt; omega)⟩
theorem IMs.ofK (h : IMs w s wd tn L tb lf N R K nr nw np T Y) (f : Fr FMk w w') (g : Fr FKm s s') (h90 : w' 90 = oMod s' wd' tn) (e2 : s' 2 = nI 0) (e10 : s' 10 = lf') (hK : MKs w' K' nr' nw' np') : IMs w' s' wd' tn 0 tb lf' N R K' nr' nw' np' T Y := by
  obtain ⟨h1, -, h3, h4, h5, ⟨q, h6⟩, ⟨k6, k7, k8, k9⟩, ⟨j0, j1, j2, j3⟩, -, -, e57, e58, e59, e65⟩ := h
  have o : ∀ k, FMk k → ¬ (k = 91 ∨ 107 ≤ k) := fun k hk => by unfold FMk at hk; omega
  have p : ∀ k, FKm k → ¬ (14 ≤ k) := fun k hk => by unfold FKm at hk; omega
  exact ⟨h1.mv f (fun k hk z => o k hk (by omega)) h90 (h1.2.1.fr f g (fun z => o _ z (by omega)) (fun z => o _ z (by omega)) (fun z => o _ z (by omega)) (fun z => p _ z (by omega)) (fun z => p _ z (by omega))), hK, h3.fr f (fun k hk z => o k hk (by omega)), h4.fr f (fun k hk z => o k hk (by omega)), f.get h5 (fun z => o _ z (by omega)), ⟨q, f.get h6 (fun z => o _ z (by omega))⟩, ⟨f.get k6 (fun z => o _ z (by omega)), f.get k7 (fun z => o _ z (by omega)), f.get k8 (fun z => o _ z (by omega)), f.get k9 (fun z => o _ z (by omega))⟩, ⟨f.get j0 (fun z => o _ z (by omega)), f.get j1 (fun z => o _ z (by omega)), f.get j2 (fun z => o _ z (by omega)), f.get j3 (fun z => o _ z (by omega))⟩, e2, e10, g.get e57 (fun z => p _ z (by omega)), g.get e58 (fun z => p _ z (by omega)), g.get e59 (fun z => p _ z (by omega)), g.get e65 (fun z => p _ z (by omega))⟩
theorem op_kit (h : IV w n) : opI X l i_WP_kit i_Mod_kit [] w n := by
  obtain ⟨L, tb, kn, ks, lf, N, R, K, nr, nw, np, T, S, Y, Z, s, wd, tn, ⟨hL, hk⟩, hc, hm, hT, hY, h4⟩ := h
  have hI : IH s wd tn L tb lf N R K nr nw np S Z kn ks L tb lf N R K nr nw np T Y w n := IH.of hc Fr.refl hm h4
  obtain ⟨q1, q2, q3, q4, q5, h1⟩ := hc.2.2.2.2.2.2.2.1
  obtain ⟨r1, r2, r3, h3⟩ := hc.2.2.2.2.2.1.2
  have hA := hc.2.2.2.1.2.1
  have hC : ab_C X l i_WP_kit [.ref 0] w n 0 0 (qI (kitV (rdK (tb, L, 600) 26 KSz 0)) (fun w' n' => n = n' ∧ Fr (fun k => k = 0 ∨ FRd ks k) w w' ∧ (∃ b c d e f, w' 1 = oTape (nI 0) b c d e f) ∧ (∃ a b c, w' 3 = oKR a b c) ∧ isWL (w' 4) ∧ CSh w' ks ∧ (∀ e, rdK (tb, L, 600) 26 KSz 0 = .inl e → w' 0 = oWP kn ks (nI e.1)) ∧ (∀ x, rdK (tb, L, 600) 26 KSz 0 = .inr x → w' 0 = oWP ks kn (nI 0) ∧ CRd w' ks x.2))) := by
    rcases hk with ⟨rfl, rfl⟩ | ⟨rfl, rfl⟩
    · exact k_WP_kit_59 L tb w n hL hc.w0 h1 hc.2.2.2.2.2.2.2.2 h3 hc.2.2.2.2.2.1.1 hc.2.2.2.2.1.2
    · exact k_WP_kit_44 L tb w n hL hc.w0 h1 hc.2.2.2.2.2.2.2.2 h3 hc.2.2.2.2.2.1.1 hc.2.2.2.2.1.1
  have hM : ∀ w1 n1, IMs w1 s wd tn L tb lf N R K nr nw np S Z → ab_C X l i_Mod_kit [.ref 90] w1 n1 0 0 (qI (kitV (rdK (tb, L, 600) 26 KSz 0)) (kmQ K nr nw np w1 n1 s tn (rdK (tb, L, 600) 26 KSz 0))) := fun w1 n1 hm1 => k_Mod_kit L tb w1 n1 hL hA.1.1 hA.1.2 hm1.w90 hm1.2.2.2.2.2.2.2.2.1 hm1.2.2.2.2.1 hm1.2.1
  have hok : ∀ x, rdK (tb, L, 600) 26 KSz 0 = .inr x → KSok x.2 := fun x hx => rdK_ok 26 KSz 0 x (Nat.zero_le _) KSz_ok hx
  generalize rdK (tb, L, 600) 26 KSz 0 = O at hC hM hok
  cases O with
  | inl e =>
    refine opI_of (IH s wd tn L tb lf N R K nr nw np S Z kn ks 0 tb (nI e.1) N R K nr nw np T Y) (fun _ _ h => h.heads) hC (by omega) (by omega) (fun w1 n1 hq => ?_) (fun w1 n1 hI => ?_)
    · obtain ⟨rfl, f, a1, a2, a3, a4, a5, -⟩ := hq
      obtain ⟨x1, x2⟩ := cl_kitE hc hk f a1 a2 a3 a4 (a5 e rfl)
      exact IH.of x1 x2 hm h4
    · refine (hM w1 n1 hI.2.1).weaken ?_
      rintro _ w2 n2 ⟨rfl, rfl, f, s', wd', h90, g, e0, e2, e10, m1, -⟩
      exact ⟨rfl, IV.after (by omega) hk hI (f.mono (fun k hk => by unfold FMk at hk; unfold MF; omega)) rfl (hI.2.1.ofK f g h90 e2 e10 (m1 e rfl)) hT hY⟩
  | inr x =>
    refine opI_of (IH s wd tn L tb lf N R K nr nw np S Z ks kn 0 tb (nI 0) N R (sK x.2) (sR x.2) (sW x.2) (sP x.2) T Y) (fun _ _ h => h.heads) hC (by omega) (by omega) (fun w1 n1 hq => ?_) (fun w1 n1 hI => ?_)
    · obtain ⟨rfl, f, a1, a2, a3, a4, -, a6⟩ := hq
      obtain ⟨b1, b2⟩ := a6 x rfl
      obtain ⟨x1, x2⟩ := cl_kitO hc hk f a1 a2 a3 a4 b1 b2.2.2.2.2.2 (hok x rfl).2.2.2.1
      exact IH.of x1 x2 hm h4
    · refine (hM w1 n1 hI.2.1).weaken ?_
      rintro _ w2 n2 ⟨rfl, rfl, f, s', wd', h90, g, e0, e2, e10, -, m2⟩
      exact ⟨rfl, IV.after (by omega) (hk.elim (fun z => Or.inr ⟨z.2, z.1⟩) (fun z => Or.inl ⟨z.2, z.1⟩)) hI (f.mono (fun k hk => by unfold FMk at hk; unfold MF; omega)) rfl (hI.2.1.ofK f g h90 e2 e10 (m2 x rfl)) hT hY⟩
theorem op_closes (x : Int32) (h : IV w n) : opL X l i_WP_closes i_Mod_closes [.int x] w n := by
  obtain ⟨L, tb, kn, ks, lf, N, R, K, nr, nw, np, T, S, Y, Z, s, wd, tn, ⟨hL, hk⟩, hc, hm, hT, hY, h4⟩ := h
  have hI : IH s wd tn L tb lf N R K nr nw np S Z kn ks L tb lf N R K nr nw np T Y w n := IH.of hc Fr.refl hm h4
  have hKK := hc.2.2.2.1
  have hA := hKK.2.1
  rcases in_or np (by have := hA.1; omega) x with ⟨p, hp, hx⟩ | hx
  · have hC : ab_C X l i_WP_closes [.ref 0, .int x] w n 0 0 (qL (lN (PnT K p)) fun w' n' => n = n' ∧ Fr FG w w' ∧ KP w') := by
      rcases hk with ⟨rfl, rfl⟩ | ⟨rfl, rfl⟩
      · exact k_WP_closes_44 x p w n hx hp hc.w0 hKK
      · exact k_WP_closes_59 x p w n hx hp hc.w0 hKK
    refine opL_of (IH s wd tn L tb lf N R K nr nw np S Z kn ks L tb lf N R K nr nw np T Y) (fun _ _ h => h.heads) hC (by omega) (by omega) (fun w1 n1 hq => ?_) (fun w1 n1 hI => ?_)
    · obtain ⟨rfl, f, hP⟩ := hq
      obtain ⟨a, b⟩ := cl_FG hc hk f hP
      exact IH.of a b hm h4
    · refine (k_Mod_closes x p w1 n1 hx hp hI.2.1.w90 hI.2.1.2.1.1 hA hI.2.1.2.2.1).weaken ?_
      rintro _ w2 n2 ⟨rfl, hq⟩
      exact ⟨rfl, (md_Z hL hk hI hT hY hq).1⟩
  · have hC : ab_C X l i_WP_closes [.ref 0, .int x] w n 0 0 (ab_q1 (some (.long (-lN 1))) w n) := by
      rcases hk with ⟨rfl, rfl⟩ | ⟨rfl, rfl⟩
      · exact (k_WP_pen_n_44 x w n hx hc.w0 hKK.1).1
      · exact (k_WP_pen_n_59 x w n hx hc.w0 hKK.1).1
    refine opL_q1 hC hI ?_
    refine ((k_Mod_pen_n x w n hx hm.w90 hm.2.1.1 hm.2.2.1).1).weaken ?_
    rintro _ w2 n2 ⟨rfl, hq⟩
    exact ⟨rfl, (md_Z hL hk hI hT hY hq).1⟩
theorem op_lobes (x : Int32) (h : IV w n) : opL X l i_WP_lobes i_Mod_lobes [.int x] w n := by
  obtain ⟨L, tb, kn, ks, lf, N, R, K, nr, nw, np, T, S, Y, Z, s, wd, tn, ⟨hL, hk⟩, hc, hm, hT, hY, h4⟩ := h
  have hI : IH s wd tn L tb lf N R K nr nw np S Z kn ks L tb lf N R K nr nw np T Y w n := IH.of hc Fr.refl hm h4
  have hKK := hc.2.2.2.1
  have hA := hKK.2.1
  rcases in_or np (by have := hA.1; omega) x with ⟨p, hp, hx⟩ | hx
  · have hC : ab_C X l i_WP_lobes [.ref 0, .int x] w n 0 0 (qL (lN (PnB K p)) fun w' n' => n = n' ∧ Fr FG w w' ∧ KP w') := by
      rcases hk with ⟨rfl, rfl⟩ | ⟨rfl, rfl⟩
      · exact k_WP_lobes_44 x p w n hx hp hc.w0 hKK
      · exact k_WP_lobes_59 x p w n hx hp hc.w0 hKK
    refine opL_of (IH s wd tn L tb lf N R K nr nw np S Z kn ks L tb lf N R K nr nw np T Y) (fun _ _ h => h.heads) hC (by omega) (by omega) (fun w1 n1 hq => ?_) (fun w1 n1 hI => ?_)
    · obtain ⟨rfl, f, hP⟩ := hq
      obtain ⟨a, b⟩ := cl_FG hc hk f hP
      exact IH.of a b hm h4
    · refine (k_Mod_lobes x p w1 n1 hx hp hI.2.1.w90 hI.2.1.2.1.1 hA hI.2.1.2.2.1).weaken ?_
      rintro _ w2 n2 ⟨rfl, hq⟩
      exact ⟨rfl, (md_Z hL hk hI hT hY hq).1⟩
  · have hC : ab_C X l i_WP_lobes [.ref 0, .int x] w n 0 0 (ab_q1 (some (.long (-lN 1))) w n) := by
      rcases hk with ⟨rfl, rfl⟩ | ⟨rfl, rfl⟩
      · exact (k_WP_pen_n_44 x w n hx hc.w0 hKK.1).2.1
      · exact (k_WP_pen_n_59 x w n hx hc.w0 hKK.1).2.1
    refine opL_q1 hC hI ?_
    refine ((k_Mod_pen_n x w n hx hm.w90 hm.2.1.1 hm.2.2.1).2.1).weaken ?_
    rintro _ w2 n2 ⟨rfl, hq⟩
    exact ⟨rfl, (md_Z hL hk hI hT hY hq).1⟩
theorem op_arms (x : Int32) (h : IV w n) : opI X l i_WP_arms i_Mod_arms [.int x] w n := by
  obtain ⟨L, tb, kn, ks, lf, N, R, K, nr, nw, np, T, S, Y, Z, s, wd, tn, ⟨hL, hk⟩, hc, hm, hT, hY, h4⟩ := h
  have hI : IH s wd tn L tb lf N R K nr nw np S Z kn ks L tb lf N R K nr nw np T Y w n := IH.of hc Fr.refl hm h4
  have hKK := hc.2.2.2.1
  have hA := hKK.2.1
  rcases in_or np (by have := hA.1; omega) x with ⟨p, hp, hx⟩ | hx
  · have hC : ab_C X l i_WP_arms [.ref 0, .int x] w n 0 0 (qI (nI (PnL K p).length) fun w' n' => n = n' ∧ Fr FG w w' ∧ KP w') := by
      rcases hk with ⟨rfl, rfl⟩ | ⟨rfl, rfl⟩
      · exact k_WP_arms_44 x p w n hx hp hc.w0 hKK
      · exact k_WP_arms_59 x p w n hx hp hc.w0 hKK
    refine opI_of (IH s wd tn L tb lf N R K nr nw np S Z kn ks L tb lf N R K nr nw np T Y) (fun _ _ h => h.heads) hC (by omega) (by omega) (fun w1 n1 hq => ?_) (fun w1 n1 hI => ?_)
    · obtain ⟨rfl, f, hP⟩ := hq
      obtain ⟨a, b⟩ := cl_FG hc hk f hP
      exact IH.of a b hm h4
    · refine (k_Mod_arms x p w1 n1 hx hp hI.2.1.w90 hI.2.1.2.1.1 hA hI.2.1.2.2.1).weaken ?_
      rintro _ w2 n2 ⟨rfl, hq⟩
      exact ⟨rfl, (md_Z hL hk hI hT hY hq).1⟩
  · have hC : ab_C X l i_WP_arms [.ref 0, .int x] w n 0 0 (ab_q1 (some (.int (-nI 1))) w n) := by
      rcases hk with ⟨rfl, rfl⟩ | ⟨rfl, rfl⟩
      · exact (k_WP_pen_n_44 x w n hx hc.w0 hKK.1).2.2
      · exact (k_WP_pen_n_59 x w n hx hc.w0 hKK.1).2.2
    refine opI_q1 hC hI ?_
    refine ((k_Mod_pen_n x w n hx hm.w90 hm.2.1.1 hm.2.2.1).2.2).weaken ?_
    rintro _ w2 n2 ⟨rfl, hq⟩
    exact ⟨rfl, (md_Z hL hk hI hT hY hq).1⟩
end OPSB
