/-! the law's calls, one by one: the class and the model answer alike, and what holds between two calls holds again -/
section OPSA
variable {X : ab_X} {l : Launch} {w w' : ab_W} {n n' L L' : Nat} {tb tb' : Nat → Int32} {kn ks : Nat} {lf lf' : Int32} {N N' : Nat → Nat} {R R' : Nat → Nat → Nat → Int64} {K K' : KA} {nr nw np nr' nw' np' : Nat} {T S T' S' : TD} {Y Z Y' Z' : XD} {s s' : Nat → Int32} {wd tn wd' tn' : Int64}
theorem md_set0 (hL : L ≤ 640) (hk : Kns kn ks) (hI : IH s wd tn L tb lf N R K nr nw np S Z kn ks L tb lf N R K nr nw np T Y w n) (hT : RelT T S) (hY : RelX Y Z) (x : Int32) : IV (va_up w 90 (oMod (upd s 0 x) wd tn)) n :=
  IV.after hL hk hI (Fr.refl.up (by unfold MF; omega)) rfl (hI.2.1.set0 x) hT hY
theorem md_set0t (hL : L ≤ 640) (hk : Kns kn ks) (hI : IH s wd tn L tb lf N R K nr nw np S Z kn ks L tb lf N R K nr nw np T Y w n) (hT : RelT T S) (hY : RelX Y Z) (b : Bool) : IV (va_up w 90 (oMod (upd s 0 (b01 b)) wd tn)) n ∧ va_up w 90 (oMod (upd s 0 (b01 b)) wd tn) 134 = w 134 ∧ ∃ s' wd' tn', va_up w 90 (oMod (upd s 0 (b01 b)) wd tn) 90 = oMod s' wd' tn' ∧ s' 0 = b01 b :=
  ⟨md_set0 hL hk hI hT hY _, va_un (by omega), _, _, _, va_us, upd_at⟩
theorem md_Q (hL : L ≤ 640) (hk : Kns kn ks) (hI : IH s wd tn L tb lf N R K nr nw np S Z kn ks L tb lf N' R' K nr nw np T Y w n) (hT : RelT T S) (hY : RelX Y Z) {th : Int32} (hq : mQ w n s wd tn th N' R' w' n') : IV w' n' ∧ w' 134 = w 134 ∧ ∃ s' wd' tn', w' 90 = oMod s' wd' tn' ∧ s' 0 = th := by
  obtain ⟨e, f, s', e0, hm⟩ := hI.2.1.ofQ hq
  exact ⟨IV.after hL hk hI f e hm hT hY, f _ (by unfold MF; omega), s', wd, tn, hm.w90, e0⟩
theorem md_QT (hk : Kns kn ks) (hI : IH s wd tn L tb lf N R K nr nw np S Z kn ks 0 tb lf N' R' K nr nw np T Y w n) (hT : RelT T S) (hY : RelX Y Z) (hq : mQT w n s wd tn N' R' w' n') : IV w' n' := by
  obtain ⟨e, f, s', e0, hm⟩ := hI.2.1.ofQT hq
  exact IV.after (by omega) hk hI f e hm hT hY
theorem md_Z (hL : L ≤ 640) (hk : Kns kn ks) (hI : IH s wd tn L tb lf N R K nr nw np S Z kn ks L tb lf N R K nr nw np T Y w n) (hT : RelT T S) (hY : RelX Y Z) {th : Int32} (hq : mZ w n s wd th w' n') : IV w' n' ∧ w' 134 = w 134 ∧ ∃ s' wd' tn', w' 90 = oMod s' wd' tn' ∧ s' 0 = th := by
  obtain ⟨e, f, s', tn', e0, hm⟩ := hI.2.1.ofZ hq
  exact ⟨IV.after hL hk hI f e hm hT hY, f _ (by unfold MF; omega), s', wd, tn', hm.w90, e0⟩
theorem ih_cl (hk : Kns kn ks) : ∀ w1 n1, (IH s wd tn L tb lf N R K nr nw np S Z kn ks L tb lf N R K nr nw np T Y w1 n1 ∧ ∃ kn ks lf s wd tn, w1 0 = oWP kn ks lf ∧ w1 90 = oMod s wd tn) → (∃ f, w1 134 = aJ 1 f) ∧ ∀ f, (IH s wd tn L tb lf N R K nr nw np S Z kn ks L tb lf N R K nr nw np T Y (va_up w1 134 (aJ 1 f)) n1 ∧ ∃ kn ks lf s wd tn, va_up w1 134 (aJ 1 f) 0 = oWP kn ks lf ∧ va_up w1 134 (aJ 1 f) 90 = oMod s wd tn) := by
  rintro w1 n1 ⟨h, -⟩
  exact ⟨h.2.2, fun f => ⟨h.cl hk f, (h.cl hk f).heads⟩⟩
theorem b01_of {y : Int32} {e : Nat} (he : e < 2) (hy : y = nI e) : ∃ b : Bool, y = b01 b := by
  rcases (show e = 0 ∨ e = 1 by omega) with rfl | rfl
  · exact ⟨false, hy⟩
  · exact ⟨true, hy⟩
theorem two_or (N : Nat → Nat) (x y : Int32) : (∃ u v, u < 8 ∧ v < 8 ∧ x = nI u ∧ y = nI v ∧ N u ≠ 0 ∧ N v = N u) ∨ (badS N x ∨ badS N y ∨ ∃ u v, u < 8 ∧ v < 8 ∧ x = nI u ∧ y = nI v ∧ N u ≠ 0 ∧ N v ≠ 0 ∧ N u ≠ N v) := by
  rcases sh_or N x with ⟨u, hu, hx, hNu⟩ | hx
  · rcases sh_or N y with ⟨v, hv, hy, hNv⟩ | hy
    · by_cases e : N v = N u
      · exact Or.inl ⟨u, v, hu, hv, hx, hy, hNu, e⟩
      · exact Or.inr (Or.inr (Or.inr ⟨u, v, hu, hv, hx, hy, hNu, hNv, fun z => e z.symm⟩))
    · exact Or.inr (Or.inr (Or.inl hy))
  · exact Or.inr (Or.inl hx)
theorem op_fault (h : IV w n) : opI X l i_WP_fault i_Mod_fault [] w n := by
  obtain ⟨L, tb, kn, ks, lf, N, R, K, nr, nw, np, T, S, Y, Z, s, wd, tn, ⟨hL, hk⟩, hc, hm, hT, hY, h4⟩ := h
  have hI : IH s wd tn L tb lf N R K nr nw np S Z kn ks L tb lf N R K nr nw np T Y w n := IH.of hc Fr.refl hm h4
  refine opI_q1 (k_WP_fault w n hc.w0) hI ?_
  refine (k_Mod_fault w n hm.w90).weaken ?_
  rintro _ _ _ ⟨rfl, rfl, rfl⟩
  exact ⟨by rw [hm.2.2.2.2.2.2.2.2.2.1], md_set0 hL hk hI hT hY _⟩
theorem op_wipe (x : Int32) (h : IV w n) : opI X l i_WP_wipe i_Mod_wipe [.int x] w n := by
  obtain ⟨L, tb, kn, ks, lf, N, R, K, nr, nw, np, T, S, Y, Z, s, wd, tn, ⟨hL, hk⟩, hc, hm, hT, hY, h4⟩ := h
  have hI : IH s wd tn L tb lf N R K nr nw np S Z kn ks L tb lf N R K nr nw np T Y w n := IH.of hc Fr.refl hm h4
  rcases sh_or N x with ⟨t, ht, hx, hN⟩ | hx
  · refine opI_of (IH s wd tn L tb lf N R K nr nw np S Z kn ks L tb lf (va_up N t 0) R K nr nw np T Y) (fun _ _ h => h.heads) (k_WP_wipe x t w n hx ht hN hc.1.1) (by omega) (by omega) (fun w1 n1 hq => ?_) (fun w1 n1 hI => ?_)
    · obtain ⟨a, b⟩ := cl_KQ hc hk hq
      exact IH.of a b hm h4
    · refine (k_Mod_wipe x t w1 n1 hx ht hN hI.2.1.1).weaken ?_
      rintro _ w2 n2 ⟨rfl, hq⟩
      exact ⟨rfl, (md_Q hL hk hI hT hY hq).1⟩
  · refine opI_q1 (k_WP_wipe_n x w n hx hc.1.1) hI ?_
    refine (k_Mod_wipe_n x w n hx hm.1).weaken ?_
    rintro _ w2 n2 ⟨rfl, hq⟩
    exact ⟨rfl, (md_Q hL hk hI hT hY hq).1⟩
theorem op_about (x y : Int32) (h : IV w n) : opI X l i_WP_about i_Mod_about [.int x, .int y] w n := by
  obtain ⟨L, tb, kn, ks, lf, N, R, K, nr, nw, np, T, S, Y, Z, s, wd, tn, ⟨hL, hk⟩, hc, hm, hT, hY, h4⟩ := h
  have hI : IH s wd tn L tb lf N R K nr nw np S Z kn ks L tb lf N R K nr nw np T Y w n := IH.of hc Fr.refl hm h4
  rcases sh_or N x with ⟨t, ht, hx, hN⟩ | hx
  · refine opI_q1 (k_WP_about x y t w n hx ht hN hc.1.1) hI ?_
    refine (k_Mod_about x y t w n hx ht hN hm.1).weaken ?_
    rintro _ w2 n2 ⟨rfl, hq⟩
    exact ⟨rfl, (md_Q hL hk hI hT hY hq).1⟩
  · refine opI_q1 (k_WP_about_n x y w n hx hc.1.1) hI ?_
    refine (k_Mod_about_n x y w n hx hm.1).weaken ?_
    rintro _ w2 n2 ⟨rfl, hq⟩
    exact ⟨rfl, (md_Q hL hk hI hT hY hq).1⟩
theorem op_shared (x y : Int32) (h : IV w n) : opI X l i_WP_shared i_Mod_shared [.int x, .int y] w n := by
  obtain ⟨L, tb, kn, ks, lf, N, R, K, nr, nw, np, T, S, Y, Z, s, wd, tn, ⟨hL, hk⟩, hc, hm, hT, hY, h4⟩ := h
  have hI : IH s wd tn L tb lf N R K nr nw np S Z kn ks L tb lf N R K nr nw np T Y w n := IH.of hc Fr.refl hm h4
  rcases two_or N x y with ⟨u, v, hu, hv, hx, hy, hN, hNv⟩ | hb
  · refine opI_q1 (k_WP_shared x y u v w n hx hy hu hv hN hNv hc.1.1) hI ?_
    refine (k_Mod_shared x y u v w n hx hy hu hv hN hNv hm.1).weaken ?_
    rintro _ w2 n2 ⟨rfl, hq⟩
    exact ⟨rfl, (md_Q hL hk hI hT hY hq).1⟩
  · refine opI_q1 (k_WP_shared_n x y w n hc.1.1 hb) hI ?_
    refine (k_Mod_shared_n x y w n hm.1 hb).weaken ?_
    rintro _ w2 n2 ⟨rfl, hq⟩
    exact ⟨rfl, (md_Q hL hk hI hT hY hq).1⟩
theorem op_one (x y : Int32) (h : IV w n) : opI X l i_WP_one i_Mod_one [.int x, .int y] w n := by
  obtain ⟨L, tb, kn, ks, lf, N, R, K, nr, nw, np, T, S, Y, Z, s, wd, tn, ⟨hL, hk⟩, hc, hm, hT, hY, h4⟩ := h
  have hI : IH s wd tn L tb lf N R K nr nw np S Z kn ks L tb lf N R K nr nw np T Y w n := IH.of hc Fr.refl hm h4
  rcases two_or N x y with ⟨u, v, hu, hv, hx, hy, hN, hNv⟩ | hb
  · refine opI_of (IH s wd tn L tb lf N R K nr nw np S Z kn ks L tb lf N R K nr nw np T Y) (fun _ _ h => h.heads) (k_WP_one x y u v w n hx hy hu hv hN hNv hc.1) (by omega) (by omega) (fun w1 n1 hq => ?_) (fun w1 n1 hI => ?_)
    · obtain ⟨a, b⟩ := cl_KCQ hc hk hq
      exact IH.of a b hm h4
    · refine (k_Mod_one x y u v w1 n1 hx hy hu hv hN hNv hI.2.1.1).weaken ?_
      rintro _ w2 n2 ⟨rfl, hq⟩
      exact ⟨rfl, (md_Q hL hk hI hT hY hq).1⟩
  · refine opI_q1 (k_WP_one_n x y w n hc.1.1 hb) hI ?_
    refine (k_Mod_one_n x y w n hm.1 hb).weaken ?_
    rintro _ w2 n2 ⟨rfl, hq⟩
    exact ⟨rfl, (md_Q hL hk hI hT hY hq).1⟩
theorem op_again (x y : Int32) (h : IV w n) : opI X l i_WP_again i_Mod_again [.int x, .int y] w n := by
  obtain ⟨L, tb, kn, ks, lf, N, R, K, nr, nw, np, T, S, Y, Z, s, wd, tn, ⟨hL, hk⟩, hc, hm, hT, hY, h4⟩ := h
  have hI : IH s wd tn L tb lf N R K nr nw np S Z kn ks L tb lf N R K nr nw np T Y w n := IH.of hc Fr.refl hm h4
  have bad : (badS N x ∨ (y < 0 ∨ nI 2 ≤ y)) → opI X l i_WP_again i_Mod_again [.int x, .int y] w n := by
    intro hb
    refine opI_q1 (k_WP_again_n x y w n hb hc.1.1) hI ?_
    refine (k_Mod_again_n x y w n hb hm.1).weaken ?_
    rintro _ w2 n2 ⟨rfl, hq⟩
    exact ⟨rfl, (md_Q hL hk hI hT hY hq).1⟩
  rcases sh_or N x with ⟨t, ht, hx, hN⟩ | hx
  · rcases in_or 2 (by omega) y with ⟨e, he, hy⟩ | hy
    · rcases (show e = 0 ∨ e = 1 by omega) with rfl | rfl
      · subst hy
        refine opI_q1 (k_WP_again0 x t w n hx ht hN hc.1.1) hI ?_
        refine (k_Mod_again x (nI 0) t false w n hx rfl ht hN hm.1).weaken ?_
        rintro _ w2 n2 ⟨rfl, hq⟩
        exact ⟨rfl, (md_Q hL hk hI hT hY hq).1⟩
      · subst hy
        refine opI_of (IH s wd tn L tb lf N R K nr nw np S Z kn ks L tb lf N R K nr nw np T Y) (fun _ _ h => h.heads) (k_WP_again1 x t w n hx ht hN hc.1) (by omega) (by omega) (fun w1 n1 hq => ?_) (fun w1 n1 hI => ?_)
        · obtain ⟨a, b⟩ := cl_KCQ hc hk hq
          exact IH.of a b hm h4
        · refine (k_Mod_again x (nI 1) t true w1 n1 hx rfl ht hN hI.2.1.1).weaken ?_
          rintro _ w2 n2 ⟨rfl, hq⟩
          exact ⟨rfl, (md_Q hL hk hI hT hY hq).1⟩
    · exact bad (Or.inr hy)
  · exact bad (Or.inl hx)
theorem op_same (x y : Int32) (h : IV w n) : opI X l i_WP_same i_Mod_same [.int x, .int y] w n := by
  obtain ⟨L, tb, kn, ks, lf, N, R, K, nr, nw, np, T, S, Y, Z, s, wd, tn, ⟨hL, hk⟩, hc, hm, hT, hY, h4⟩ := h
  have hI : IH s wd tn L tb lf N R K nr nw np S Z kn ks L tb lf N R K nr nw np T Y w n := IH.of hc Fr.refl hm h4
  have bad : (badS N x ∨ (y < 0 ∨ nI 3 ≤ y)) → opI X l i_WP_same i_Mod_same [.int x, .int y] w n := by
    intro hb
    refine opI_q1 (k_WP_same_n x y w n hb hc.1.1) hI ?_
    refine (k_Mod_same_n x y w n hb hm.1).weaken ?_
    rintro _ w2 n2 ⟨rfl, hq⟩
    exact ⟨rfl, (md_Q hL hk hI hT hY hq).1⟩
  rcases sh_or N x with ⟨t, ht, hx, hN⟩ | hx
  · rcases in_or 3 (by omega) y with ⟨e, he, hy⟩ | hy
    · by_cases e2 : e = 2
      · subst e2
        subst hy
        refine opI_of (IH s wd tn L tb lf N R K nr nw np S Z kn ks L tb lf N R K nr nw np T Y) (fun _ _ h => h.heads) (k_WP_same2 x t w n hx ht hN hc.1) (by omega) (by omega) (fun w1 n1 hq => ?_) (fun w1 n1 hI => ?_)
        · obtain ⟨a, b⟩ := cl_KCQ hc hk hq
          exact IH.of a b hm h4
        · refine (k_Mod_same2 x t w1 n1 hx ht hN hI.2.1.1).weaken ?_
          rintro _ w2 n2 ⟨rfl, hq⟩
          exact ⟨rfl, (md_Q hL hk hI hT hY hq).1⟩
      · obtain ⟨b, hb⟩ := b01_of (by omega) hy
        refine opI_of (IH s wd tn L tb lf N R K nr nw np S Z kn ks L tb lf N R K nr nw np T Y) (fun _ _ h => h.heads) (k_WP_same x y t b w n hx hb ht hN hc.1) (by omega) (by omega) (fun w1 n1 hq => ?_) (fun w1 n1 hI => ?_)
        · obtain ⟨a, b⟩ := cl_KCQ hc hk hq
          exact IH.of a b hm h4
        · refine (k_Mod_same x y t b w1 n1 hx hb ht hN hI.2.1.1).weaken ?_
          rintro _ w2 n2 ⟨rfl, hq⟩
          exact ⟨rfl, (md_Q hL hk hI hT hY hq).1⟩
    · exact bad (Or.inr hy)
  · exact bad (Or.inl hx)
theorem op_product (x y z : Int32) (h : IV w n) : opI X l i_WP_product i_Mod_product [.int x, .int y, .int z] w n := by
  obtain ⟨L, tb, kn, ks, lf, N, R, K, nr, nw, np, T, S, Y, Z, s, wd, tn, ⟨hL, hk⟩, hc, hm, hT, hY, h4⟩ := h
  have hI : IH s wd tn L tb lf N R K nr nw np S Z kn ks L tb lf N R K nr nw np T Y w n := IH.of hc Fr.refl hm h4
  have bad : ((x < 0 ∨ nI 8 ≤ x) ∨ badS N y ∨ badS N z ∨ ∃ u v, u < 8 ∧ v < 8 ∧ y = nI u ∧ z = nI v ∧ N u ≠ 0 ∧ N v ≠ 0 ∧ N u ≠ N v) → opI X l i_WP_product i_Mod_product [.int x, .int y, .int z] w n := by
    intro hb
    refine opI_q1 (k_WP_product_n x y z w n hc.1.1 hb) hI ?_
    refine (k_Mod_product_n x y z w n hm.1 hb).weaken ?_
    rintro _ w2 n2 ⟨rfl, hq⟩
    exact ⟨rfl, (md_Q hL hk hI hT hY hq).1⟩
  rcases in_or 8 (by omega) x with ⟨t, ht, hx⟩ | hx
  · rcases two_or N y z with ⟨u, v, hu, hv, hy, hz, hN, hNv⟩ | hb
    · obtain ⟨b0, b1, b2, b3⟩ := hc.1.1
      refine opI_of (IH s wd tn L tb lf N R K nr nw np S Z kn ks L tb lf (if wiB (N u) (PV (N u) (R u) (R v)) = true then va_up N t (N u) else N) (if wiB (N u) (PV (N u) (R u) (R v)) = true then va_up R t (PV (N u) (R u) (R v)) else R) K nr nw np T Y) (fun _ _ h => h.heads) (k_WP_product x y z t u v w n hx hy hz ht hu hv hN hNv b0 b1 b2 b3) (by omega) (by omega) (fun w1 n1 hq => ?_) (fun w1 n1 hI => ?_)
      · obtain ⟨q1, q2, q3, q4, q5⟩ := hq
        obtain ⟨a, b⟩ := cl_KQ hc hk ⟨q1, q2, q2.get b0 (by unfold FRS FR FS; omega), q3, q5, q4⟩
        exact IH.of a b hm h4
      · refine (k_Mod_product x y z t u v w1 n1 hx hy hz ht hu hv hN hNv hI.2.1.1).weaken ?_
        rintro _ w2 n2 ⟨rfl, hq⟩
        exact ⟨rfl, (md_Q hL hk hI hT hY hq).1⟩
    · exact bad (Or.inr hb)
  · exact bad (Or.inl hx)
theorem op_tell (x : Int32) (h : IV w n) : opI X l i_WP_tell i_Mod_tell [.int x] w n := by
  obtain ⟨L, tb, kn, ks, lf, N, R, K, nr, nw, np, T, S, Y, Z, s, wd, tn, ⟨hL, hk⟩, hc, hm, hT, hY, h4⟩ := h
  have hI : IH s wd tn L tb lf N R K nr nw np S Z kn ks L tb lf N R K nr nw np T Y w n := IH.of hc Fr.refl hm h4
  obtain ⟨b, c, d, e, g1, h1⟩ := hc.2.2.2.2.2.2.2.1
  have e2 := hm.2.2.2.2.2.2.2.2.1
  have bad : ((x < 0 ∨ nI 8 ≤ x) ∨ L % 2 ≠ 0 ∨ L / 2 < 3 ∨ 60 < L / 2) → opI X l i_WP_tell i_Mod_tell [.int x] w n := by
    intro hb
    refine opI_of (IH s wd tn L tb lf N R K nr nw np S Z kn ks 0 tb lf N R K nr nw np T Y) (fun _ _ h => h.heads) (v := -nI 1) (P := fun w1 n1 => w1 = va_up w 1 (oTape (nI 0) b c d e g1) ∧ n1 = n) ((k_WP_tell_n x L w n hL hc.1.1 h1 hb).weaken ?_) (by omega) (by omega) (fun w1 n1 hq => ?_) (fun w1 n1 hI => ?_)
    · rintro _ _ _ ⟨rfl, rfl, rfl⟩
      exact ⟨rfl, rfl, rfl⟩
    · obtain ⟨rfl, rfl⟩ := hq
      obtain ⟨a, b⟩ := cl_tape (b := b) (c := c) (d := d) (e := e) (g1 := g1) hc hk 0
      exact IH.of a b hm h4
    · refine (k_Mod_tell_n x L w1 n1 hL hI.2.1.1 e2 hb).weaken ?_
      rintro _ w2 n2 ⟨rfl, hq⟩
      exact ⟨rfl, md_QT hk hI hT hY hq⟩
  rcases in_or 8 (by omega) x with ⟨t, ht, hx⟩ | hx
  · by_cases hM : L % 2 = 0 ∧ 3 ≤ L / 2 ∧ L / 2 ≤ 60
    · obtain ⟨m1, m2, m3⟩ := hM
      have eL : L = 2 * (L / 2) := by omega
      have h1' : w 1 = oTape (nI (2 * (L / 2))) b c d e g1 := by rw [← eL]; exact h1
      have e2' : s 2 = nI (2 * (L / 2)) := by rw [← eL]; exact e2
      refine opI_of (IH s wd tn L tb lf N R K nr nw np S Z kn ks 0 tb lf (va_up N t (L / 2)) (va_up R t (tellV tb)) K nr nw np T Y) (fun _ _ h => h.heads) (k_WP_tell x t (L / 2) w n hx ht ⟨m2, m3⟩ hc.1.1 h1' hc.2.2.2.2.2.2.2.2) (by omega) (by omega) (fun w1 n1 hq => ?_) (fun w1 n1 hI => ?_)
      · obtain ⟨q1, q2, q3, q4⟩ := hq
        have o : ∀ k, (FRS k ∨ k = 1) → k = 1 ∨ (17 ≤ k ∧ k ≤ 19) ∨ (41 ≤ k ∧ k ≤ 43) ∨ (74 ≤ k ∧ k < 90) ∨ 135 ≤ k := fun k hk => by unfold FRS FR FS at hk; omega
        refine IH.of (hc.mv hk q2 (fun k hk => by have := o k hk; omega) ⟨q4, hc.1.2.fr q2 (fun k hk => by have := o k hk; unfold FP; omega)⟩ (hc.2.2.2.1.2.2.fr q2 (fun k hk => by have := o k hk; omega)) (hc.2.2.2.2.2.2.1.fr q2 (fun k hk => by have := o k hk; omega)) ⟨b, c, d, e, g1, q3⟩) (q2.mono (fun k hk => by have := o k hk; unfold CF; omega)) hm h4
      · refine (k_Mod_tell x t (L / 2) w1 n1 hx ht ⟨m2, m3⟩ hI.2.1.1 e2' hI.2.1.2.2.2.2.1).weaken ?_
        rintro _ w2 n2 ⟨rfl, hq⟩
        exact ⟨rfl, md_QT hk hI hT hY hq⟩
    · exact bad (Or.inr (by omega))
  · exact bad (Or.inl hx)
end OPSA
