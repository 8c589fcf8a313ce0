/-! the law's cases -/
section LAW2
variable {X : ab_X} {l : Launch} {w : ab_W} {n i c b : Nat}
set_option maxRecDepth 100000 in
theorem cs_368 (htr : l.stackTraces = false) (hi : i + 6 ≤ X.2.2.2.1) (hs : X.2.2.2.1 ≤ 3072) : CS X l i 368 := by
  intro w n a5 a6 a7 c b h nx
  obtain ⟨kn, ks, lf, s, wd, tn, e0, e9⟩ := h.heads
  obtain ⟨mc, ms, M, h1, h2, hC, hM⟩ := op_closes (X := X) (l := l) (X.2.2.2.2 (nI i + nI 1).toNatClampNeg) h
  obtain ⟨w, rfl⟩ := va_ex2 e0 e9
  refine ab_sound ok_259 [1339] 60 ?_
  refine And.intro (vpi hi hs (by omega)) ?_
  refine Exists.intro mc ?_
  refine ⟨ms, _, by omega, by omega, hC, ?_⟩
  rintro _ w1 n1 ⟨v, rfl, hm, kn1, ks1, lf1, s1, wd1, tn1, f0, f9⟩
  have hC2 := hM v _ _ hm
  obtain ⟨w1, rfl⟩ := va_ex2 f0 f9
  refine And.intro (vpi hi hs (by omega)) ?_
  refine Exists.intro 0 ?_
  refine ⟨0, _, Nat.zero_le _, Nat.zero_le _, hC2, ?_⟩
  rintro _ w2 n2 ⟨rfl, hv⟩
  refine And.intro (fun _ => ?_) (fun h_9 => absurd (lg_eq.mpr rfl) h_9)
  exact lw_more (nx w2 n2 _ _ _ hv) (by omega) (by omega)
set_option maxRecDepth 100000 in
theorem cs_394 (htr : l.stackTraces = false) (hi : i + 6 ≤ X.2.2.2.1) (hs : X.2.2.2.1 ≤ 3072) : CS X l i 394 := by
  intro w n a5 a6 a7 c b h nx
  obtain ⟨kn, ks, lf, s, wd, tn, e0, e9⟩ := h.heads
  obtain ⟨mc, ms, M, h1, h2, hC, hM⟩ := op_arms (X := X) (l := l) (X.2.2.2.2 (nI i + nI 1).toNatClampNeg) h
  obtain ⟨w, rfl⟩ := va_ex2 e0 e9
  refine ab_sound ok_259 [1339] 60 ?_
  refine And.intro (vpi hi hs (by omega)) ?_
  refine Exists.intro mc ?_
  refine ⟨ms, _, by omega, by omega, hC, ?_⟩
  rintro _ w1 n1 ⟨v, rfl, hm, kn1, ks1, lf1, s1, wd1, tn1, f0, f9⟩
  have hC2 := hM v _ _ hm
  obtain ⟨w1, rfl⟩ := va_ex2 f0 f9
  refine And.intro (vpi hi hs (by omega)) ?_
  refine Exists.intro 0 ?_
  refine ⟨0, _, Nat.zero_le _, Nat.zero_le _, hC2, ?_⟩
  rintro _ w2 n2 ⟨rfl, hv⟩
  refine And.intro (fun _ => ?_) (fun h_9 => absurd rfl h_9)
  exact lw_more (nx w2 n2 _ _ _ hv) (by omega) (by omega)
set_option maxRecDepth 100000 in
theorem cs_419 (htr : l.stackTraces = false) (hi : i + 6 ≤ X.2.2.2.1) (hs : X.2.2.2.1 ≤ 3072) : CS X l i 419 := by
  intro w n a5 a6 a7 c b h nx
  obtain ⟨kn, ks, lf, s, wd, tn, e0, e9⟩ := h.heads
  obtain ⟨t, r, M, hC, hM⟩ := op_arm (X := X) htr (X.2.2.2.2 (nI i + nI 1).toNatClampNeg) (X.2.2.2.2 (nI i + nI 2).toNatClampNeg) (X.2.2.2.2 (nI i + nI 3).toNatClampNeg) h
  obtain ⟨w, rfl⟩ := va_ex2 e0 e9
  refine ab_sound ok_259 [439] 60 ?_
  refine And.intro (vpi hi hs (by omega)) ?_
  refine And.intro (vpi hi hs (by omega)) ?_
  refine And.intro (vpi hi hs (by omega)) ?_
  refine ab_x_callSH (i := 74) (a := 245) (b := 5) (mc := 1) (ms := 6) (by decide +kernel) lh_245 (by decide +kernel) (by decide +kernel) rfl rfl (by omega) (by omega) hC ?_
  rintro _ w1 n1 ⟨rfl, ⟨hm, kn1, ks1, lf1, s1, wd1, tn1, f0, f9⟩, hr⟩
  have hC2 := hM _ _ hm
  show ab_Ev X l 259 442 (LL i a5 a6 a7) [.int (b01 t)] w1 n1 (c + 1 - 1) (b + 3480 - 6) LQ
  cases t with
  | true =>
    obtain ⟨w1, rfl⟩ := va_ex2 f0 f9
    refine ab_sound ok_259 [1339] 60 ?_
    refine And.intro (vpi hi hs (by omega)) ?_
    refine And.intro (vpi hi hs (by omega)) ?_
    refine And.intro (vpi hi hs (by omega)) ?_
    refine Exists.intro 0 ?_
    refine ⟨0, _, Nat.zero_le _, Nat.zero_le _, hC2, ?_⟩
    rintro u w2 n2 ⟨hv, h134, ⟨s2, wd2, tn2, g9, gs⟩, x, rfl, hx⟩
    obtain ⟨w2, rfl⟩ := va_ex g9
    refine Exists.intro 0 ?_
    refine ⟨0, _, Nat.zero_le _, Nat.zero_le _, c_Mod_thrown _ _ rfl, ?_⟩
    rintro _ _ _ ⟨rfl, rfl, rfl⟩
    refine And.intro (fun _ => ?_) (fun h_9 => absurd gs h_9)
    refine And.intro (fun _ => ?_) (fun h_9 => absurd h_9 (by decide))
    exact lw_more (nx _ _ _ _ _ hv) (by omega) (by omega)
  | false =>
    obtain ⟨f, f4, fr⟩ := hr rfl
    obtain ⟨w1, rfl⟩ := va_ex2 f0 f9
    refine ab_sound ok_259 [1339] 60 ?_
    refine And.intro (vpi hi hs (by omega)) ?_
    refine And.intro (vpi hi hs (by omega)) ?_
    refine And.intro (vpi hi hs (by omega)) ?_
    refine Exists.intro 0 ?_
    refine ⟨0, _, Nat.zero_le _, Nat.zero_le _, hC2, ?_⟩
    rintro u w2 n2 ⟨hv, h134, ⟨s2, wd2, tn2, g9, gs⟩, x, rfl, hx⟩
    have g4 := h134.trans f4
    obtain ⟨w2, rfl⟩ := va_ex2 g9 g4
    refine Exists.intro 0 ?_
    refine ⟨0, _, Nat.zero_le _, Nat.zero_le _, c_Mod_thrown _ _ rfl, ?_⟩
    rintro _ _ _ ⟨rfl, rfl, rfl⟩
    refine And.intro (fun _ => ?_) (fun h_9 => absurd gs h_9)
    refine And.intro (fun h_9 => absurd (by decide) h_9) (fun _ => ?_)
    refine And.intro (vp_in_nI (by omega) (by omega)) ?_
    have e : f (nI 0).toNatClampNeg = x := by
      rw [nI_clamp (by omega)]
      exact fr.trans (hx rfl).symm
    refine And.intro (fun _ => ?_) (fun h_9 => absurd (lg_eq.mpr e) h_9)
    exact lw_more (nx _ _ _ _ _ hv) (by omega) (by omega)
set_option maxRecDepth 100000 in
theorem cs_498 (htr : l.stackTraces = false) (hi : i + 6 ≤ X.2.2.2.1) (hs : X.2.2.2.1 ≤ 3072) : CS X l i 498 := by
  intro w n a5 a6 a7 c b h nx
  obtain ⟨kn, ks, lf, s, wd, tn, e0, e9⟩ := h.heads
  obtain ⟨mc, ms, M, h1, h2, hC, hM⟩ := op_lobes (X := X) (l := l) (X.2.2.2.2 (nI i + nI 1).toNatClampNeg) h
  obtain ⟨w, rfl⟩ := va_ex2 e0 e9
  refine ab_sound ok_259 [1339] 60 ?_
  refine And.intro (vpi hi hs (by omega)) ?_
  refine Exists.intro mc ?_
  refine ⟨ms, _, by omega, by omega, hC, ?_⟩
  rintro _ w1 n1 ⟨v, rfl, hm, kn1, ks1, lf1, s1, wd1, tn1, f0, f9⟩
  have hC2 := hM v _ _ hm
  obtain ⟨w1, rfl⟩ := va_ex2 f0 f9
  refine And.intro (vpi hi hs (by omega)) ?_
  refine Exists.intro 0 ?_
  refine ⟨0, _, Nat.zero_le _, Nat.zero_le _, hC2, ?_⟩
  rintro _ w2 n2 ⟨rfl, hv⟩
  refine And.intro (fun _ => ?_) (fun h_9 => absurd (lg_eq.mpr rfl) h_9)
  exact lw_more (nx w2 n2 _ _ _ hv) (by omega) (by omega)
set_option maxRecDepth 100000 in
theorem cs_524 (htr : l.stackTraces = false) (hi : i + 6 ≤ X.2.2.2.1) (hs : X.2.2.2.1 ≤ 3072) : CS X l i 524 := by
  intro w n a5 a6 a7 c b h nx
  obtain ⟨kn, ks, lf, s, wd, tn, e0, e9⟩ := h.heads
  obtain ⟨mc, ms, M, h1, h2, hC, hM⟩ := op_draw (X := X) (l := l) (X.2.2.2.2 (nI i + nI 1).toNatClampNeg) (X.2.2.2.2 (nI i + nI 2).toNatClampNeg) (X.2.2.2.2 (nI i + nI 3).toNatClampNeg) h
  obtain ⟨w, rfl⟩ := va_ex2 e0 e9
  refine ab_sound ok_259 [1339] 60 ?_
  refine And.intro (vpi hi hs (by omega)) ?_
  refine And.intro (vpi hi hs (by omega)) ?_
  refine And.intro (vpi hi hs (by omega)) ?_
  refine Exists.intro mc ?_
  refine ⟨ms, _, by omega, by omega, hC, ?_⟩
  rintro _ w1 n1 ⟨v, rfl, hm, kn1, ks1, lf1, s1, wd1, tn1, f0, f9⟩
  have hC2 := hM v _ _ hm
  obtain ⟨w1, rfl⟩ := va_ex2 f0 f9
  refine And.intro (vpi hi hs (by omega)) ?_
  refine And.intro (vpi hi hs (by omega)) ?_
  refine And.intro (vpi hi hs (by omega)) ?_
  refine Exists.intro 0 ?_
  refine ⟨0, _, Nat.zero_le _, Nat.zero_le _, hC2, ?_⟩
  rintro _ w2 n2 ⟨rfl, hv⟩
  refine And.intro (fun _ => ?_) (fun h_9 => absurd rfl h_9)
  exact lw_more (nx w2 n2 _ _ _ hv) (by omega) (by omega)
end LAW2
