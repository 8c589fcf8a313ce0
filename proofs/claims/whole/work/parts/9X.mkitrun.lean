/-! kit of the model, from its beginning -/
theorem MJ_z {w : ab_W} {K0 : KA} {a0 b0 c0 : Nat} {f3 f4 f5 : Nat → Int32} (h : MKs w K0 a0 b0 c0) (h93 : w 93 = aI 2 f3) (h94 : w 94 = aI 2 f4) (h95 : w 95 = aI 2 f5) : MJ (va_up (va_up (va_up w 93 (aI 2 (upd f3 1 (nI 0)))) 94 (aI 2 (upd f4 1 (nI 0)))) 95 (aI 2 (upd f5 1 (nI 0)))) K0 a0 b0 c0 KSz := by
  obtain ⟨⟨⟨q3, k93, l3⟩, ⟨q4, k94, l4⟩, ⟨q5, k95, l5⟩, ⟨q8, k98, l8⟩, ⟨q9, k99, l9⟩, ⟨q11, k101, l11⟩, ⟨q12, k102, l12⟩, ⟨r3, k103, l13⟩, ⟨r4, k104, l14⟩, ⟨r5, k105, l15⟩, ⟨r6, k106, l16⟩⟩, ⟨q2, k92⟩, ⟨q6, k96⟩, ⟨q7, k97⟩, ⟨q10, k100⟩⟩ := h
  obtain rfl := aI_inj k93 h93
  obtain rfl := aI_inj k94 h94
  obtain rfl := aI_inj k95 h95
  have z : ∀ {P : Nat → Prop} (i : Nat), i < 0 → P i := fun i hi => absurd hi (by omega)
  refine ⟨⟨q2, k92, fun c x hx => ?_, z, z, z⟩, ⟨_, rfl, by rw [upd_ne (by omega)]; exact l3, by rw [upd_at]; rfl⟩, ⟨_, rfl, by rw [upd_ne (by omega)]; exact l4, by rw [upd_at]; rfl⟩, ⟨_, rfl, by rw [upd_ne (by omega)]; exact l5, by rw [upd_at]; rfl⟩, ⟨q6, k96, z⟩, ⟨q7, k97, z⟩, ⟨q8, k98, l8, z⟩, ⟨q9, k99, l9, z⟩, ⟨q10, k100, z⟩, ⟨q11, k101, l11, z⟩, ⟨q12, k102, l12, z⟩, ⟨r3, k103, l13, z⟩, ⟨r4, k104, l14, z⟩, ⟨r5, k105, l15, z⟩, ⟨r6, k106, l16, z⟩⟩
  have hx : (none : Option (Nat × Nat)) = some x := hx
  cases hx
section MKITRUN
variable {X : ab_X} {l : Launch}
theorem k_mk57 (L : Nat) (tb : Nat → Int32) (w : ab_W) (n : Nat) {s : Nat → Int32} {tn : Int64} {K0 : KA} {a0 b0 c0 : Nat} {O : Out} (hL : L ≤ 640) (hb0 : b0 ≤ 12) (hc0 : c0 ≤ 8) : ∀ (fl i p : Nat) (S : KS) (w1 : ab_W) (s1 : Nat → Int32) (wd1 : Int64), sN S = i → i + fl = 26 → KSok S → p ≤ L → Fr FMk w w1 → w1 90 = oMod s1 wd1 tn → w1 91 = aI 640 tb → s1 3 = nI L → s1 4 = nI 600 → Fr FKm s s1 → s1 0 = nI 0 → s1 2 = nI 0 → s1 10 = nI 0 → AtM (tb, L, 600) p s1 wd1 → MJ w1 K0 a0 b0 c0 S → rdK (tb, L, 600) fl S p = O → ab_Ev X l i_Mod_kit 57 [some (.ref 90), some (.int (nI i)), none] [] w1 n 0 0 (qI (kitV O) (kmQ K0 a0 b0 c0 w n s tn O)) := by
  intro fl
  induction fl with
  | zero =>
    intro i p S w1 s1 wd1 hi hf hS
    have := sN_le hS
    omega
  | succ fl ih =>
    intro i p S w1 s1 wd1 hi hf hS hp fr m90 m91 m3 m4 frs z0 z2 z10 hA hJ ho
    have hN := sN_le hS
    have hk6 := tK_le (tb, L, 600) p
    have ho : (if tK (tb, L, 600) p = 5 then .inl (1, tP (tb, L, 600) p) else if tK (tb, L, 600) p = 0 then .inr (p, S) else match rdL (tb, L, 600) S p with
      | .inl e => .inl e
      | .inr (q, S2) => rdK (tb, L, 600) fl S2 q) = O := ho
    by_cases hk0 : tK (tb, L, 600) p = 0
    · rw [if_neg (by omega), if_pos hk0] at ho
      have a84 := k_mk84 (X := X) (l := l) i w w1 n (K0 := K0) (a0 := a0) (b0 := b0) (c0 := c0) ho hi.symm hS fr m90 frs z0 z2 z10 hJ
      have h7 : s1 7 = nI 0 := by rw [hA.2.1]; unfold mK; rw [if_neg (by omega), hk0]
      obtain ⟨w1, rfl⟩ := va_ex m90
      refine ab_sound ok_154 [84] 80 ?_
      refine And.intro (fun _ => ?_) (fun h_9 => absurd (h7) h_9)
      exact a84
    · have hq : rdL (tb, L, 600) S p = .inl (1, tP (tb, L, 600) p) ∨ tK (tb, L, 600) p ≠ 5 := by
        by_cases c : tK (tb, L, 600) p = 5
        · left
          unfold rdL
          rw [if_neg (by rw [tkW_no (by omega)]; decide), if_neg (by rw [tkW_no (by omega)]; decide), if_neg (by rw [tkW_no (by omega)]; decide)]
        · exact Or.inr c
      have h7 : ¬ s1 7 = nI 0 := fun z => by
        rw [hA.2.1] at z
        unfold mK at z
        by_cases c : tK (tb, L, 600) p = 5
        · rw [if_pos c, nI_eq (by omega) (by omega)] at z; omega
        · rw [if_neg c, nI_eq (by omega) (by omega)] at z; omega
      have cl := k_mReadLine (X := X) (l := l) (tb, L, 600) p w1 n (S := S) (s := s1) (wd := wd1) (tn := tn) (K0 := K0) (a0 := a0) (b0 := b0) (c0 := c0) hb0 hc0 hS hL (show 600 ≤ 640 by omega) hp m90 m91 m3 m4 hA hJ
      obtain ⟨w1, rfl⟩ := va_ex2 m90 m91
      refine ab_sound ok_154 [57] 80 ?_
      refine And.intro (fun h_9 => absurd h_9 (h7)) (fun _ => ?_)
      (refine Exists.intro 0 ?_; refine ⟨0, _, Nat.zero_le _, Nat.zero_le _, cl, ?_⟩; rintro _ w2 _ ⟨b, rfl, rfl, f2, s2, wd2, q90, g2, qS, hl, hr⟩)
      have frw := fr.trans f2
      have frs2 : Fr FKm s s2 := frs.trans (g2.mono (fun k hk => by unfold FMx at hk; unfold FKm; omega))
      have y0 : s2 0 = nI 0 := by rw [g2 0 (by unfold FMx; omega), z0]
      have y2 : s2 2 = nI 0 := by rw [g2 2 (by unfold FMx; omega), z2]
      cases hd : rdL (tb, L, 600) S p with
      | inl e =>
        obtain ⟨rfl, e1, e2⟩ := hl e hd
        have ho2 : .inl e = O := by
          by_cases c : tK (tb, L, 600) p = 5
          · rw [if_pos c] at ho
            have hq2 := hq.resolve_right (fun z => z c)
            rw [hd] at hq2
            rw [hq2]
            exact ho
          · rw [if_neg c, if_neg hk0, hd] at ho
            exact ho
        obtain ⟨w2, rfl⟩ := va_ex q90
        refine And.intro (fun h_9 => absurd (rfl) h_9) (fun _ => ?_)
        subst ho2
        refine ⟨?_, rfl, frw, s2, wd2, rfl, frs2, y0, y2, e1, fun e9 he => qS, fun x hx => ?_⟩
        · show some (Value.int (-nI 1 - s2 11)) = some (Value.int (-nI 1 - nI e.2))
          rw [e2]
        · have z : (Sum.inl e : Out) = .inr x := hx
          cases z
      | inr x =>
        obtain ⟨p9, S9⟩ := x
        obtain ⟨rfl, g3, a3, hJ3⟩ := hr _ hd
        have c5 : tK (tb, L, 600) p ≠ 5 := by
          rcases hq with hq | hq
          · rw [hd] at hq; cases hq
          · exact hq
        rw [if_neg c5, if_neg hk0, hd] at ho
        have ho : rdK (tb, L, 600) fl S9 p9 = O := ho
        obtain ⟨u1, u2, u3⟩ := rdL_ok hp hS hd
        have ih := ih (i + 1) p9 S9 w2 s2 wd2 (by omega) (by omega) u1 u3 frw q90 (by rw [f2 91 (by unfold FMk; omega)]; rfl) (by rw [g2 3 (by unfold FMx; omega), m3]) (by rw [g2 4 (by unfold FMx; omega), m4]) frs2 y0 y2 (by rw [g3 10 (by unfold FMr; omega), z10]) a3 hJ3 ho
        refine And.intro (fun _ => ?_) (fun h_9 => absurd h_9 ((by decide)))
        exact ab_ev_of ih (by rw [nI_s i]; rfl) rfl rfl
theorem k_Mod_kit (L : Nat) (tb : Nat → Int32) (w : ab_W) (n : Nat) {s : Nat → Int32} {wd tn : Int64} {K0 : KA} {a0 b0 c0 : Nat} (hL : L ≤ 640) (hb0 : b0 ≤ 12) (hc0 : c0 ≤ 8) (h90 : w 90 = oMod s wd tn) (h2 : s 2 = nI L) (h91 : w 91 = aI 640 tb) (hK : MKs w K0 a0 b0 c0) :
    ab_C X l i_Mod_kit [.ref 90] w n 0 0 (qI (kitV (rdK (tb, L, 600) 26 KSz 0)) (kmQ K0 a0 b0 c0 w n s tn (rdK (tb, L, 600) 26 KSz 0))) := by
  generalize hO : rdK (tb, L, 600) 26 KSz 0 = O
  have loop := k_mk57 (X := X) (l := l) L tb w n (s := s) (tn := tn) (K0 := K0) (a0 := a0) (b0 := b0) (c0 := c0) (O := O) hL hb0 hc0
  have hKs := hK
  obtain ⟨⟨⟨f3, h93, _⟩, ⟨f4, h94, _⟩, ⟨f5, h95, _⟩, _⟩, _⟩ := hKs
  have zJ := fun (w9 : ab_W) (a : MKs w9 K0 a0 b0 c0) => MJ_z (f3 := f3) (f4 := f4) (f5 := f5) a
  obtain ⟨w, rfl⟩ : ∃ w0, w = va_up (va_up (va_up (va_up (va_up w0 95 (aI 2 f5)) 94 (aI 2 f4)) 93 (aI 2 f3)) 91 (aI 640 tb)) 90 (oMod s wd tn) := ⟨w, by rw [← va_self h95, ← va_self h94, ← va_self h93, ← va_self h91, ← va_self h90]⟩
  have zs := zJ (va_up (va_up (va_up (va_up (va_up (va_up w 95 (aI 2 f5)) 94 (aI 2 f4)) 93 (aI 2 f3)) 91 (aI 640 tb)) 90 (oMod s wd tn)) 90 (oMod (upd (upd (upd (upd (upd (upd s 0 (nI 0)) 2 (nI 0)) 3 (nI L)) 4 (nI 600)) 10 (nI 0)) 5 (nI 0)) wd tn)) hK.u90 rfl rfl rfl
  have cg := k_go (X := X) (l := l) (tb, L, 600) 0 (va_up (va_up (va_up (va_up (va_up (va_up (va_up (va_up (va_up w 95 (aI 2 f5)) 94 (aI 2 f4)) 93 (aI 2 f3)) 91 (aI 640 tb)) 90 (oMod s wd tn)) 90 (oMod (upd (upd (upd (upd (upd (upd s 0 (nI 0)) 2 (nI 0)) 3 (nI L)) 4 (nI 600)) 10 (nI 0)) 5 (nI 0)) wd tn)) 93 (aI 2 (upd f3 1 (nI 0)))) 94 (aI 2 (upd f4 1 (nI 0)))) 95 (aI 2 (upd f5 1 (nI 0)))) n (s := upd (upd (upd (upd (upd (upd s 0 (nI 0)) 2 (nI 0)) 3 (nI L)) 4 (nI 600)) 10 (nI 0)) 5 (nI 0)) (wd := wd) (tn := tn) hL (show 600 ≤ 640 by omega) (by omega) rfl rfl rfl rfl rfl
  have at53 : ab_Ev X l i_Mod_kit 53 [some (.ref 90), some (.int (nI 0)), none] [] (va_up (va_up (va_up (va_up (va_up (va_up (va_up (va_up (va_up w 95 (aI 2 f5)) 94 (aI 2 f4)) 93 (aI 2 f3)) 91 (aI 640 tb)) 90 (oMod s wd tn)) 90 (oMod (upd (upd (upd (upd (upd (upd s 0 (nI 0)) 2 (nI 0)) 3 (nI L)) 4 (nI 600)) 10 (nI 0)) 5 (nI 0)) wd tn)) 93 (aI 2 (upd f3 1 (nI 0)))) 94 (aI 2 (upd f4 1 (nI 0)))) 95 (aI 2 (upd f5 1 (nI 0)))) n 0 0 (qI (kitV O) (kmQ K0 a0 b0 c0 (va_up (va_up (va_up (va_up (va_up w 95 (aI 2 f5)) 94 (aI 2 f4)) 93 (aI 2 f3)) 91 (aI 640 tb)) 90 (oMod s wd tn)) n s tn O)) := by
    refine ab_sound ok_154 [57] 80 ?_
    (refine Exists.intro 0 ?_; refine ⟨0, _, Nat.zero_le _, Nat.zero_le _, cg, ?_⟩; rintro _ _ _ ⟨rfl, rfl, s2, wd2, rfl, g2, a2⟩)
    have f9 : Fr FKm s (upd (upd (upd (upd (upd (upd s 0 (nI 0)) 2 (nI 0)) 3 (nI L)) 4 (nI 600)) 10 (nI 0)) 5 (nI 0)) := (((((Fr.refl.us (Or.inl rfl)).us (by unfold FKm; omega)).us (by unfold FKm; omega)).us (by unfold FKm; omega)).us (by unfold FKm; omega)).us (by unfold FKm; omega)
    exact ab_ev_of (loop 26 0 0 KSz _ s2 wd2 rfl rfl KSz_ok (by omega) (((((Fr.refl.up (k := 90) (c := oMod (upd (upd (upd (upd (upd (upd s 0 (nI 0)) 2 (nI 0)) 3 (nI L)) 4 (nI 600)) 10 (nI 0)) 5 (nI 0)) wd tn) (Or.inl rfl)).up (k := 93) (c := aI 2 (upd f3 1 (nI 0))) (by unfold FMk; omega)).up (k := 94) (c := aI 2 (upd f4 1 (nI 0))) (by unfold FMk; omega)).up (k := 95) (c := aI 2 (upd f5 1 (nI 0))) (by unfold FMk; omega)).up (k := 90) (c := oMod s2 wd2 tn) (Or.inl rfl)) rfl rfl (by rw [g2 3 (by unfold FGo; omega)]; rfl) (by rw [g2 4 (by unfold FGo; omega)]; rfl) (f9.trans (g2.mono (fun k hk => by unfold FGo at hk; unfold FKm; omega))) (by rw [g2 0 (by unfold FGo; omega)]; rfl) (by rw [g2 2 (by unfold FGo; omega)]; rfl) (by rw [g2 10 (by unfold FGo; omega)]; rfl) a2 ⟨zs.1, MJr.u90 (S := KSz) zs.2⟩ hO) rfl rfl rfl
  have at25 : ab_Ev X l i_Mod_kit 25 [some (.ref 90), none, none] [] (va_up (va_up (va_up (va_up (va_up (va_up w 95 (aI 2 f5)) 94 (aI 2 f4)) 93 (aI 2 f3)) 91 (aI 640 tb)) 90 (oMod s wd tn)) 90 (oMod (upd (upd (upd (upd (upd s 0 (nI 0)) 2 (nI 0)) 3 (nI L)) 4 (nI 600)) 10 (nI 0)) wd tn)) n 0 0 (qI (kitV O) (kmQ K0 a0 b0 c0 (va_up (va_up (va_up (va_up (va_up w 95 (aI 2 f5)) 94 (aI 2 f4)) 93 (aI 2 f3)) 91 (aI 640 tb)) 90 (oMod s wd tn)) n s tn O)) := by
    refine ab_sound ok_154 [53] 80 ?_
    refine And.intro (vp_in_nI (show 1 < 2 by omega) (by omega)) ?_
    refine And.intro (vp_in_nI (show 1 < 2 by omega) (by omega)) ?_
    refine And.intro (vp_in_nI (show 1 < 2 by omega) (by omega)) ?_
    refine ab_ev_of at53 rfl rfl ?_
    simp only [va_uu, va_uc, Nat.reduceLT]
    rfl
  have at13 : ab_Ev X l i_Mod_kit 13 [some (.ref 90), none, none] [] (va_up (va_up (va_up (va_up (va_up (va_up w 95 (aI 2 f5)) 94 (aI 2 f4)) 93 (aI 2 f3)) 91 (aI 640 tb)) 90 (oMod s wd tn)) 90 (oMod (upd (upd (upd s 0 (nI 0)) 2 (nI 0)) 3 (nI L)) wd tn)) n 0 0 (qI (kitV O) (kmQ K0 a0 b0 c0 (va_up (va_up (va_up (va_up (va_up w 95 (aI 2 f5)) 94 (aI 2 f4)) 93 (aI 2 f3)) 91 (aI 640 tb)) 90 (oMod s wd tn)) n s tn O)) := by
    refine ab_sound ok_154 [25] 80 ?_
    refine ab_ev_of at25 rfl rfl ?_
    simp only [va_uu]
    rfl
  refine ab_mqI cd_154 om_154 rfl (ab_sound ok_154 [13] 80 ?_)
  (refine Exists.intro 0 ?_; refine ⟨0, _, Nat.zero_le _, Nat.zero_le _, c_Mod_take _ _ (s := upd s 0 (nI 0)) (wd := wd) (tn := tn) rfl, ?_⟩; refine ab_q1_elim ?_)
  refine ab_ev_of at13 rfl rfl ?_
  simp only [va_uu]
  rw [← h2]
  rfl
end MKITRUN
