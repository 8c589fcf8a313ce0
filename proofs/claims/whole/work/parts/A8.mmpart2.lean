/-! a part of a mix read by the model -/
theorem updL_updL {f : Nat → Int64} {k : Nat} {a b : Int64} : vp_updL (vp_updL f k a) k b = vp_updL f k b := by
  funext j
  by_cases e : j = k
  · rw [e, pk_uLs, pk_uLs]
  · rw [pk_uLn e, pk_uLn e, pk_uLn e]
section MMPART2
variable {X : ab_X} {l : Launch}
theorem k_mp133 (T : TE) (k M : Nat) (sg : Bool) (num : Int) (t p1 : Nat) (w w1 : ab_W) (n : Nat) {s0 s1 : Nat → Int32} {wd1 tn : Int64} {N : Nat → Nat} {S : MS} {O : Sum (Nat × Nat) (Nat × PD)} {f19 f20 f21 f23 f24 pt : Nat → Int32} {f22 : Nat → Int64} (hO : (match chg T 700 (tX T p1) (0, 0, false, false) with
    | .inl e => .inl e
    | .inr y => .inr (y.1, (t, num, y.2))) = O) (hk : k = S.1) (hk12 : k < 12) (ht : t < 8) (hMe : N t = M) (hMM : 3 ≤ M ∧ M ≤ 60) (hL : tL T ≤ 640) (hM : tM T ≤ 640) (u19 : ∀ j, j < k → f19 j = nI (S.2 j).1) (u20 : ∀ j, j < k → f20 j = nI (md (S.2 j).2.2.1 (N (S.2 j).1))) (u21 : ∀ j, j < k → f21 j = nI (md (S.2 j).2.2.2.1 (N (S.2 j).1))) (u22 : ∀ j, j < k → f22 j = Int64.ofInt (S.2 j).2.1) (u23 : ∀ j, j < k → f23 j = b01 (S.2 j).2.2.2.2.2) (u24 : ∀ j, j < k → f24 j = b01 (S.2 j).2.2.2.2.1) (hp : p1 ≤ tL T) (hk2 : tK T p1 = 2) (fr : Fr FPt w w1) (y90 : w1 90 = oMod s1 wd1 tn) (y91 : w1 91 = aI 640 (tB T)) (frs : Fr GPs s0 s1) (y3 : s1 3 = nI (tL T)) (y4 : s1 4 = nI (tM T)) (y52 : s1 52 = nI k) (yN : MN0 w1 s1) (hA : AtM T p1 s1 wd1) (y115 : w1 115 = aI 8 pt) (hpt : pt t = nI M) (y119 : w1 119 = aI 12 f19) (y120 : w1 120 = aI 12 f20) (y121 : w1 121 = aI 12 f21) (y122 : w1 122 = aJ 12 (vp_updL f22 k (Int64.ofInt num))) (y123 : w1 123 = aZ 12 f23) (y124 : w1 124 = aZ 12 f24) :
    ab_Ev X l i_Mod_readPart 133 [some (.ref 90), some (.int (b01 sg)), some (.int (nI k)), some (.int (nI t))] [] w1 n 0 0 (mtQ T N S w n s0 tn O) := by
  have hx := tX_le hp (by omega) (by omega)
  have lp := k_mp182 (X := X) (l := l) T k M sg num t w n (s0 := s0) (tn := tn) (N := N) (S := S) (O := O) (f19 := f19) (f20 := f20) (f21 := f21) (f23 := f23) (f24 := f24) (f22 := f22) (x3 := nI t) hk hk12 hMe hMM hL hM u19 u20 u21 u22 u23 u24 700 (tX T p1) (0, 0, false, false)
  have at150 : ∀ (w2 : ab_W) (s2 : Nat → Int32), Fr FPt w w2 → w2 90 = oMod s2 wd1 tn → w2 91 = aI 640 (tB T) → Fr GPs s0 s2 → s2 3 = nI (tL T) → s2 4 = nI (tM T) → s2 52 = nI k → MN w2 s2 M → AtM T p1 s2 wd1 → w2 119 = aI 12 (upd f19 k (nI t)) → w2 120 = aI 12 f20 → w2 121 = aI 12 f21 → w2 122 = aJ 12 (vp_updL f22 k (Int64.ofInt num)) → w2 123 = aZ 12 f23 → w2 124 = aZ 12 f24 → ab_Ev X l i_Mod_readPart 150 [some (.ref 90), some (.int (b01 sg)), some (.int (nI k)), some (.int (nI t))] [] w2 n 0 0 (mtQ T N S w n s0 tn O) := by
    intro w2 s2 fr z90 z91 frs z3 z4 z52 zN a2 z119 z120 z121 z122 z123 z124
    obtain ⟨w2, rfl⟩ : ∃ w0, w2 = va_up (va_up (va_up (va_up (va_up (va_up w0 124 (aZ 12 f24)) 123 (aZ 12 f23)) 121 (aI 12 f21)) 120 (aI 12 f20)) 91 (aI 640 (tB T))) 90 (oMod s2 wd1 tn) := ⟨w2, by rw [← va_self z124, ← va_self z123, ← va_self z121, ← va_self z120, ← va_self z91, ← va_self z90]⟩
    refine ab_sound ok_210 [182] 80 ?_
    (refine Exists.intro 0 ?_; refine ⟨0, _, Nat.zero_le _, Nat.zero_le _, k_mgo T p1 _ _ hL hM hp (by omega) (by omega) rfl rfl z3 z4 a2, ?_⟩; rintro _ _ _ ⟨rfl, rfl, s3, wd3, rfl, g3, a3⟩)
    have g3 := fgo_fmr g3
    refine And.intro (vp_in_nI hk12 (by omega)) ?_
    rw [nI_clamp (by omega)]
    refine And.intro (vp_in_nI hk12 (by omega)) ?_
    rw [nI_clamp (by omega)]
    refine And.intro (vp_in_nI hk12 (by omega)) ?_
    rw [nI_clamp (by omega), show vp_nar .boolean (nI 0) = b01 false from narB (v := false)]
    refine And.intro (vp_in_nI hk12 (by omega)) ?_
    rw [nI_clamp (by omega), show vp_nar .boolean (nI 0) = b01 false from narB (v := false)]
    have m0 : nI (md 0 M) = nI 0 := by
      have := md_nat 0 (m := M)
      rw [show ((0 : Nat) : Int) = 0 from rfl] at this
      rw [this, Nat.zero_mod]
    have frw := (((((fr.up (k := 90) (c := oMod s3 wd3 tn) (Or.inl rfl)).up (k := 120) (c := aI 12 (upd f20 k (nI 0))) (by unfold FPt; omega)).up (k := 121) (c := aI 12 (upd f21 k (nI 0))) (by unfold FPt; omega)).up (k := 123) (c := aZ 12 (upd f23 k (b01 false))) (by unfold FPt; omega)).up (k := 124) (c := aZ 12 (upd f24 k (b01 false))) (by unfold FPt; omega))
    have fx := ((((Fr.refl (F := FPt) (w := va_up (va_up (va_up (va_up (va_up (va_up w2 124 (aZ 12 f24)) 123 (aZ 12 f23)) 121 (aI 12 f21)) 120 (aI 12 f20)) 91 (aI 640 (tB T))) 90 (oMod s2 wd1 tn))).up (k := 90) (c := oMod s3 wd3 tn) (Or.inl rfl)).up (k := 120) (c := aI 12 (upd f20 k (nI 0))) (by unfold FPt; omega)).up (k := 121) (c := aI 12 (upd f21 k (nI 0))) (by unfold FPt; omega)).up (k := 123) (c := aZ 12 (upd f23 k (b01 false))) (by unfold FPt; omega)
    have hMN : MN (va_up (va_up (va_up (va_up (va_up (va_up (va_up (va_up (va_up (va_up (va_up w2 124 (aZ 12 f24)) 123 (aZ 12 f23)) 121 (aI 12 f21)) 120 (aI 12 f20)) 91 (aI 640 (tB T))) 90 (oMod s2 wd1 tn)) 90 (oMod s3 wd3 tn)) 120 (aI 12 (upd f20 k (nI 0)))) 121 (aI 12 (upd f21 k (nI 0)))) 123 (aZ 12 (upd f23 k (b01 false)))) 124 (aZ 12 (upd f24 k (b01 false)))) s3 M := zN.fr (F := fun j => j = 90 ∨ j = 120 ∨ j = 121 ∨ j = 123 ∨ j = 124) (((((Fr.refl.up (by omega)).up (by omega)).up (by omega)).up (by omega)).up (by omega)) g3 (by omega) (by omega) (by omega) (by unfold FMr; omega) (by unfold FMr; omega)
    refine lp _ s3 wd3 (by omega) hx.2 frw rfl rfl (frs.trans (fmr_s g3)) (fr3 g3 z3) (fr4 g3 z4) (by rw [g3 52 (by unfold FMr; omega), z52]) hMN a3 z119 ?_ ?_ z122 rfl rfl hO
    · show aI 12 (upd f20 k (nI 0)) = aI 12 (upd f20 k (nI (md 0 M)))
      rw [m0]
    · show aI 12 (upd f21 k (nI 0)) = aI 12 (upd f21 k (nI (md 0 M)))
      rw [m0]
  have yN2 : MN0 (va_up w1 119 (aI 12 (upd f19 k (nI t)))) s1 := yN.fr (F := fun j => j = 119) (Fr.refl.up rfl) (Fr.refl (F := fun _ => False)) (by omega) (by omega) (by omega) id id
  have frw := fr.up (k := 119) (c := aI 12 (upd f19 k (nI t))) (by unfold FPt; omega)
  have cl := k_layN (X := X) (l := l) (nI M) M (va_up w1 119 (aI 12 (upd f19 k (nI t)))) n rfl hMM y90 yN2
  obtain ⟨w1, rfl⟩ := va_ex3 y90 y115 y119
  refine ab_sound ok_210 [150] 80 ?_
  refine And.intro (vp_in_nI hk12 (by omega)) ?_
  rw [nI_clamp (by omega)]
  refine And.intro (vp_in_nI ht (by omega)) ?_
  rw [nI_clamp (by omega), hpt]
  (refine Exists.intro 0 ?_; refine ⟨0, _, Nat.zero_le _, Nat.zero_le _, cl, ?_⟩; rintro _ w2 _ ⟨rfl, rfl, f2, s2, z90, g2, zN⟩)
  have frw2 := frw.trans (f2.mono (G := FPt) (fun k hk => by unfold FPt; omega))
  have frs2 := frs.trans (g2.mono (G := GPs) (fun k hk => Or.inr (Or.inl hk)))
  refine at150 w2 s2 frw2 z90 (f2.get y91 (by omega)) frs2 (by rw [g2 3 (by omega), y3]) (by rw [g2 4 (by omega), y4]) (by rw [g2 52 (by omega), y52]) zN ?_ (f2.get rfl (by omega)) (f2.get y120 (by omega)) (f2.get y121 (by omega)) (f2.get y122 (by omega)) (f2.get y123 (by omega)) (f2.get y124 (by omega))
  obtain ⟨c1, c2, c3, c4, c5, c6⟩ := hA
  exact ⟨by rw [g2 6 (by omega)]; exact c1, by rw [g2 7 (by omega)]; exact c2, fun a b => by rw [g2 5 (by omega)]; exact c3 a b, c4, fun a => by rw [g2 8 (by omega)]; exact c5 a, fun a => by rw [g2 9 (by omega)]; exact c6 a⟩
theorem k_mReadPart (T : TE) (p : Nat) (sg : Bool) (w : ab_W) (n : Nat) {s : Nat → Int32} {wd tn : Int64} {N : Nat → Nat} {S : MS} {pt : Nat → Int32} (hS : S.1 < 12) (hS8 : 0 < S.1 → (S.2 0).1 < 8) (hNO : NOk N) (hL : tL T ≤ 640) (hM : tM T ≤ 640) (hp : p ≤ tL T) (h90 : w 90 = oMod s wd tn) (h91 : w 91 = aI 640 (tB T)) (h3 : s 3 = nI (tL T)) (h4 : s 4 = nI (tM T)) (h52 : s 52 = nI S.1) (hA : AtM T p s wd) (hN0 : MN0 w s) (h115 : w 115 = aI 8 pt) (hpt : ∀ t, t < 8 → pt t = nI (N t)) (hX : MMx w N S) :
    ab_C X l i_Mod_readPart [.ref 90, .int (b01 sg)] w n 0 0 (mtQ T N S w n s tn (rdPt T N S p sg)) := by
  generalize hO : rdPt T N S p sg = O
  unfold rdPt at hO
  have hq := qNo_le hp
  have hnv := noV_le hp
  obtain ⟨⟨f19, h119, u19⟩, ⟨f20, h120, u20⟩, ⟨f21, h121, u21⟩, ⟨f22, h122, u22⟩, ⟨f23, h123, u23⟩, ⟨f24, h124, u24⟩⟩ := hX
  have at52 : ∀ (w1 : ab_W) (s1 : Nat → Int32) (wd1 : Int64), Fr FPt w w1 → w1 90 = oMod s1 wd1 tn → Fr GPs s s1 → MN0 w1 s1 → AtM T (qNo T p) s1 wd1 → s1 52 = nI S.1 → s1 3 = nI (tL T) → s1 4 = nI (tM T) → w1 91 = aI 640 (tB T) → w1 115 = aI 8 pt → w1 119 = aI 12 f19 → w1 120 = aI 12 f20 → w1 121 = aI 12 f21 → w1 122 = aJ 12 (vp_updL f22 S.1 (Int64.ofInt (wyI sg (noV T p : Int)))) → w1 123 = aZ 12 f23 → w1 124 = aZ 12 f24 → ab_Ev X l i_Mod_readPart 52 [some (.ref 90), some (.int (b01 sg)), some (.int (nI S.1)), none] [] w1 n 0 0 (mtQ T N S w n s tn O) := by
    intro w1 s1 wd1 fr y90 frs yN a1 y52 y3 y4 y91 y115 y119 y120 y121 y122 y123 y124
    generalize hp1 : qNo T p = p1 at *
    have mS : MMs w1 := ⟨⟨_, y119⟩, ⟨_, y120⟩, ⟨_, y121⟩, ⟨_, y122⟩, ⟨_, y123⟩, ⟨_, y124⟩⟩
    have bad : ∀ (kk : Nat) (w2 : ab_W), .inl (kk, tP T p1) = O → w2 = va_up w1 90 (oMod (upd (upd s1 10 (nI kk)) 11 (nI (tP T p1))) wd1 tn) → mtQ T N S w n s tn O (some (.int (nI 0))) w2 n := by
      intro kk w2 ho hw
      subst hw
      exact mtQ_l ho (fr.up (Or.inl rfl)) rfl frs (yN.fr (F := fun j => j = 90) (Fr.refl.up rfl) (Fr.refl (F := fun _ => False)) (by omega) (by omega) (by omega) id id) mS
    have at80 : tK T p1 ≠ 2 ∨ tV T p1 < 1 ∨ 8 < tV T p1 → ab_Ev X l i_Mod_readPart 80 [some (.ref 90), some (.int (b01 sg)), some (.int (nI S.1)), none] [] w1 n 0 0 (mtQ T N S w n s tn O) := by
      intro hv
      rw [if_pos hv] at hO
      have cb := k_bad (X := X) (l := l) T p1 1 w1 n rfl (Or.inl rfl) y90 a1
      obtain ⟨w1, rfl⟩ := va_ex y90
      refine ab_sound ok_210 [] 80 ?_
      (refine Exists.intro 0 ?_; refine ⟨0, _, Nat.zero_le _, Nat.zero_le _, cb, ?_⟩; refine ab_q1_elim ?_)
      exact ⟨rfl, bad 1 _ hO rfl⟩
    by_cases hk2 : tK T p1 = 2
    · have hw := a1.2.2.2.1 hk2
      have hvd := tk_vd hq hk2
      have h8 := cv_8 hvd
      have hb := (vd_lt hvd).2
      have hw1 : ∀ {c : Nat}, c < 100 → (wd1 < lN c ↔ cv (tV T p1) < c) := fun hc => by rw [hw]; exact pk_lLT (by omega) (by omega)
      have hw2 : ∀ {c : Nat}, c < 100 → (wd1 ≤ lN c ↔ cv (tV T p1) ≤ c) := fun hc => by rw [hw]; exact pk_lLE (by omega) (by omega)
      by_cases hv : tV T p1 < 1 ∨ 8 < tV T p1
      · have a80 := at80 (Or.inr hv)
        obtain ⟨w1, rfl⟩ := va_ex y90
        refine ab_sound ok_210 [80] 80 ?_
        refine And.intro (fun h_9 => absurd (((mK_k a1 (by omega) (by omega)).mpr hk2)) h_9) (fun _ => ?_)
        by_cases c1 : cv (tV T p1) < 1
        · refine And.intro (fun _ => ?_) (fun h_9 => absurd ((lg_lt.mpr ((hw1 (by omega)).mpr c1))) h_9)
          exact a80
        · refine And.intro (fun h_9 => absurd h_9 ((fun z => c1 ((hw1 (by omega)).mp (lg_lt.mp z))))) (fun _ => ?_)
          refine And.intro (fun h_9 => absurd h_9 ((fun z => by have := (hw2 (c := 8) (by omega)).mp (lg_le.mp z); have := h8.mp ⟨by omega, this⟩; omega))) (fun _ => ?_)
          exact a80
      · have hv2 : 1 ≤ tV T p1 ∧ tV T p1 ≤ 8 := by omega
        have ecv : cv (tV T p1) = tV T p1 := cv_id (by omega)
        rw [if_neg (fun z => z.elim (fun z => z hk2) hv)] at hO
        have e1 : wd1.toInt32 - nI 1 = nI (tV T p1 - 1) := by rw [hw, ecv, lN_i, pk_sub (by omega)]
        have ht8 : tV T p1 - 1 < 8 := by omega
        have n60 := hNO (tV T p1 - 1) ht8
        have at127 : N (tV T p1 - 1) = 0 ∨ (0 < S.1 ∧ N (tV T p1 - 1) ≠ N (S.2 0).1) → ab_Ev X l i_Mod_readPart 127 [some (.ref 90), some (.int (b01 sg)), some (.int (nI S.1)), some (.int (nI (tV T p1 - 1)))] [] w1 n 0 0 (mtQ T N S w n s tn O) := by
          intro hn
          rw [if_pos hn] at hO
          have cb := k_bad (X := X) (l := l) T p1 3 w1 n rfl (Or.inr ⟨by omega, by omega⟩) y90 a1
          obtain ⟨w1, rfl⟩ := va_ex y90
          refine ab_sound ok_210 [] 80 ?_
          (refine Exists.intro 0 ?_; refine ⟨0, _, Nat.zero_le _, Nat.zero_le _, cb, ?_⟩; refine ab_q1_elim ?_)
          exact ⟨rfl, bad 3 _ hO rfl⟩
        have at133 : ¬ (N (tV T p1 - 1) = 0 ∨ (0 < S.1 ∧ N (tV T p1 - 1) ≠ N (S.2 0).1)) → ab_Ev X l i_Mod_readPart 133 [some (.ref 90), some (.int (b01 sg)), some (.int (nI S.1)), some (.int (nI (tV T p1 - 1)))] [] w1 n 0 0 (mtQ T N S w n s tn O) := by
          intro hn
          rw [if_neg hn] at hO
          exact k_mp133 (X := X) (l := l) T S.1 (N (tV T p1 - 1)) sg (wyI sg (noV T p : Int)) (tV T p1 - 1) p1 w w1 n hO rfl hS ht8 rfl (by have : N (tV T p1 - 1) ≠ 0 := fun z => hn (Or.inl z); omega) hL hM u19 u20 u21 u22 u23 u24 hq hk2 fr y90 y91 frs y3 y4 y52 yN a1 y115 (hpt _ ht8) y119 y120 y121 y122 y123 y124
        obtain ⟨w1, rfl⟩ := va_ex3 y90 y115 y119
        refine ab_sound ok_210 [127, 133] 80 ?_
        refine And.intro (fun h_9 => absurd (((mK_k a1 (by omega) (by omega)).mpr hk2)) h_9) (fun _ => ?_)
        refine And.intro (fun h_9 => absurd h_9 ((fun z => by have := (hw1 (c := 1) (by omega)).mp (lg_lt.mp z); omega))) (fun _ => ?_)
        refine And.intro (fun _ => ?_) (fun h_9 => absurd ((lg_le.mpr ((hw2 (by omega)).mpr (by omega)))) h_9)
        refine And.intro ((by rw [e1]; exact vp_in_nI ht8 (by omega))) ?_
        rw [e1, nI_clamp (by omega), hpt _ ht8]
        by_cases hn0 : N (tV T p1 - 1) = 0
        · refine And.intro (fun _ => ?_) (fun h_9 => absurd ((by rw [hn0]; rfl)) h_9)
          exact at127 (Or.inl hn0)
        · refine And.intro (fun h_9 => absurd h_9 ((nI_ne0 (by omega) (by omega)))) (fun _ => ?_)
          by_cases hs0 : S.1 = 0
          · refine And.intro (fun _ => ?_) (fun h_9 => absurd ((by rw [hs0]; decide)) h_9)
            exact at133 (fun z => z.elim hn0 (fun z => absurd z.1 (by omega)))
          · have h08 := hS8 (by omega)
            have n61 := hNO (S.2 0).1 h08
            refine And.intro (fun h_9 => absurd h_9 ((nI_nle (by omega) (by omega)))) (fun _ => ?_)
            refine And.intro (vp_in_nI ht8 (by omega)) ?_
            rw [nI_clamp (by omega), hpt _ ht8]
            refine And.intro (vp_in_nI (show 0 < 12 by omega) (by omega)) ?_
            rw [nI_clamp (by omega), u19 0 (by omega)]
            refine And.intro (vp_in_nI h08 (by omega)) ?_
            rw [nI_clamp (by omega), hpt _ h08]
            by_cases hnn : N (tV T p1 - 1) = N (S.2 0).1
            · refine And.intro (fun _ => ?_) (fun h_9 => absurd ((by rw [hnn])) h_9)
              exact at133 (fun z => z.elim hn0 (fun z => z.2 hnn))
            · refine And.intro (fun h_9 => absurd h_9 ((fun z => hnn ((nI_eq (by omega) (by omega)).mp z)))) (fun _ => ?_)
              exact at127 (Or.inr ⟨by omega, hnn⟩)
    · have a80 := at80 (Or.inl hk2)
      obtain ⟨w1, rfl⟩ := va_ex y90
      refine ab_sound ok_210 [80] 80 ?_
      refine And.intro (fun _ => ?_) (fun h_9 => absurd h_9 ((fun z => hk2 ((mK_k a1 (by omega) (by omega)).mp z))))
      exact a80
  have at35 : ∀ (w1 : ab_W) (s1 : Nat → Int32) (wd1 : Int64), Fr FPt w w1 → w1 90 = oMod s1 wd1 tn → Fr GPs s s1 → MN0 w1 s1 → AtM T (qNo T p) s1 wd1 → s1 52 = nI S.1 → s1 3 = nI (tL T) → s1 4 = nI (tM T) → w1 91 = aI 640 (tB T) → w1 115 = aI 8 pt → w1 119 = aI 12 f19 → w1 120 = aI 12 f20 → w1 121 = aI 12 f21 → w1 122 = aJ 12 (vp_updL f22 S.1 (lN (noV T p))) → w1 123 = aZ 12 f23 → w1 124 = aZ 12 f24 → ab_Ev X l i_Mod_readPart 35 [some (.ref 90), some (.int (b01 sg)), some (.int (nI S.1)), none] [] w1 n 0 0 (mtQ T N S w n s tn O) := by
    intro w1 s1 wd1 fr y90 frs yN a1 y52 y3 y4 y91 y115 y119 y120 y121 y122 y123 y124
    cases sg
    · have a := at52 w1 s1 wd1 fr y90 frs yN a1 y52 y3 y4 y91 y115 y119 y120 y121 (by rw [y122, lN_ofInt]; rfl) y123 y124
      obtain ⟨w1, rfl⟩ := va_ex y90
      refine ab_sound ok_210 [52] 80 ?_
      refine And.intro (fun _ => ?_) (fun h_9 => absurd (rfl) h_9)
      exact a
    · have a := at52 (va_up w1 122 (aJ 12 (vp_updL f22 S.1 (-lN (noV T p))))) s1 wd1 (fr.up (by unfold FPt; omega)) y90 frs (yN.fr (F := fun j => j = 122) (Fr.refl.up rfl) (Fr.refl (F := fun _ => False)) (by omega) (by omega) (by omega) id id) a1 y52 y3 y4 y91 y115 y119 y120 y121 (by show aJ 12 (vp_updL f22 S.1 (-lN (noV T p))) = aJ 12 (vp_updL f22 S.1 (Int64.ofInt (-(noV T p : Int)))); rw [lN_ofInt, Int64.ofInt_neg]) y123 y124
      obtain ⟨w1, rfl⟩ := va_ex2 y90 y122
      refine ab_sound ok_210 [52] 80 ?_
      refine And.intro (fun h_9 => absurd h_9 ((by decide))) (fun _ => ?_)
      refine And.intro (vp_in_nI hS (by omega)) ?_
      rw [nI_clamp (by omega), pk_uLs]
      refine And.intro (vp_in_nI hS (by omega)) ?_
      rw [nI_clamp (by omega)]
      refine ab_ev_of a rfl rfl ?_
      rw [updL_updL]
  have hN1 : ∀ x9 : va_E, MN0 (va_up w 122 x9) s := fun x9 => hN0.fr (F := fun j => j = 122) (Fr.refl.up rfl) (Fr.refl (F := fun _ => False)) (by omega) (by omega) (by omega) id id
  by_cases c3 : tK T p = 3
  · have e1 : qNo T p = tX T p := by unfold qNo; rw [if_pos c3]
    have e2 : noV T p = tV T p := by unfold noV; rw [if_pos c3]
    have hv := tk_nlt hp c3
    have e8 := hA.2.2.2.2.1 c3
    have hN2 : ∀ (x9 : va_E) (s9 : Nat → Int32) (c9 : va_E), Fr FMr s s9 → MN0 (va_up (va_up w 122 x9) 90 c9) s9 := fun x9 s9 c9 g9 => hN0.fr (F := fun j => j = 122 ∨ j = 90) ((Fr.refl.up (Or.inl rfl)).up (Or.inr rfl)) g9 (by omega) (by omega) (by omega) (by unfold FMr; omega) (by unfold FMr; omega)
    rw [e1] at at35
    rw [e2] at at35
    obtain ⟨w, rfl⟩ := va_ex3 h90 h91 h122
    have at20 : ab_Ev X l i_Mod_readPart 20 [some (.ref 90), some (.int (b01 sg)), some (.int (nI S.1)), none] [] (va_up (va_up (va_up (va_up w 122 (aJ 12 f22)) 91 (aI 640 (tB T))) 90 (oMod s wd tn)) 122 (aJ 12 (vp_updL f22 S.1 (lN 1)))) n 0 0 (mtQ T N S (va_up (va_up (va_up w 122 (aJ 12 f22)) 91 (aI 640 (tB T))) 90 (oMod s wd tn)) n s tn O) := by
      refine ab_sound ok_210 [35] 80 ?_
      refine And.intro (vp_in_nI hS (by omega)) ?_
      rw [nI_clamp (by omega), updL_updL, e8, nI_l (by omega)]
      (refine Exists.intro 0 ?_; refine ⟨0, _, Nat.zero_le _, Nat.zero_le _, k_mgo T p _ _ hL hM hp (by omega) (by omega) rfl rfl h3 h4 hA, ?_⟩; rintro _ _ _ ⟨rfl, rfl, s1, wd1, rfl, g1, a1⟩)
      have g1 := fgo_fmr g1
      refine ab_ev_of (at35 (va_up (va_up (va_up (va_up (va_up w 122 (aJ 12 f22)) 91 (aI 640 (tB T))) 90 (oMod s wd tn)) 122 (aJ 12 (vp_updL f22 S.1 (lN (tV T p))))) 90 (oMod s1 wd1 tn)) s1 wd1 ((Fr.refl.up (by unfold FPt; omega)).up (Or.inl rfl)) rfl (fmr_s g1) (hN2 _ s1 _ g1) a1 (by rw [g1 52 (by unfold FMr; omega), h52]) (fr3 g1 h3) (fr4 g1 h4) rfl h115 h119 h120 h121 rfl h123 h124) rfl rfl ?_
      rw [va_uu]
    refine ab_met cd_210 om_210 rfl (by rintro _ _ _ ⟨b, rfl, -⟩; trivial) (ab_sound ok_210 [20] 80 ?_)
    refine And.intro ((by rw [h52]; exact vp_in_nI hS (by omega))) ?_
    rw [h52, nI_clamp (by omega)]
    refine And.intro (fun h_9 => absurd (((mK_k hA (by omega) (by omega)).mpr c3)) h_9) (fun _ => ?_)
    exact ab_ev_of at20 (by rw [← h52]; rfl) rfl rfl
  · have e1 : qNo T p = p := by unfold qNo; rw [if_neg c3]
    have e2 : noV T p = 1 := by unfold noV; rw [if_neg c3]
    rw [e1] at at35
    rw [e2] at at35
    have a35 := at35 (va_up w 122 (aJ 12 (vp_updL f22 S.1 (lN 1)))) s wd (Fr.refl.up (by unfold FPt; omega)) h90 Fr.refl (hN1 _) hA h52 h3 h4 h91 h115 h119 h120 h121 rfl h123 h124
    obtain ⟨w, rfl⟩ := va_ex2 h90 h122
    refine ab_met cd_210 om_210 rfl (by rintro _ _ _ ⟨b, rfl, -⟩; trivial) (ab_sound ok_210 [35] 80 ?_)
    refine And.intro ((by rw [h52]; exact vp_in_nI hS (by omega))) ?_
    rw [h52, nI_clamp (by omega)]
    refine And.intro (fun _ => ?_) (fun h_9 => absurd h_9 ((fun z => c3 ((mK_k hA (by omega) (by omega)).mp z))))
    exact ab_ev_of a35 (by rw [← h52]; rfl) rfl rfl
end MMPART2
