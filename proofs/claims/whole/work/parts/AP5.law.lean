/-! the law's cases -/
section LAW5
variable {X : ab_X} {l : Launch} {w : ab_W} {n i c b : Nat}
set_option maxRecDepth 100000 in
theorem cs_991 (htr : l.stackTraces = false) (hi : i + 6 ≤ X.2.2.2.1) (hs : X.2.2.2.1 ≤ 3072) : CS X l i 991 := by
  intro w n a5 a6 a7 c b h nx
  obtain ⟨kn, ks, lf, s, wd, tn, e0, e9⟩ := h.heads
  obtain ⟨mc, ms, M, h1, h2, hC, hM⟩ := op_shared (X := X) (l := l) (X.2.2.2.2 (nI i + nI 1).toNatClampNeg) (X.2.2.2.2 (nI i + nI 2).toNatClampNeg) h
  obtain ⟨w, rfl⟩ := va_ex2 e0 e9
  refine ab_sound ok_259 [1339] 60 ?_
  refine And.intro (vpi hi hs (by omega)) ?_
  refine And.intro (vpi hi hs (by omega)) ?_
  refine Exists.intro mc ?_
  refine ⟨ms, _, by omega, by omega, hC, ?_⟩
  rintro _ w1 n1 ⟨v, rfl, hm, kn1, ks1, lf1, s1, wd1, tn1, f0, f9⟩
  have hC2 := hM v _ _ hm
  obtain ⟨w1, rfl⟩ := va_ex2 f0 f9
  refine And.intro (vpi hi hs (by omega)) ?_
  refine And.intro (vpi hi hs (by omega)) ?_
  refine Exists.intro 0 ?_
  refine ⟨0, _, Nat.zero_le _, Nat.zero_le _, hC2, ?_⟩
  rintro _ w2 n2 ⟨rfl, hv⟩
  refine And.intro (fun _ => ?_) (fun h_9 => absurd rfl h_9)
  exact lw_more (nx w2 n2 _ _ _ hv) (by omega) (by omega)
set_option maxRecDepth 100000 in
theorem cs_1028 (htr : l.stackTraces = false) (hi : i + 6 ≤ X.2.2.2.1) (hs : X.2.2.2.1 ≤ 3072) : CS X l i 1028 := by
  intro w n a5 a6 a7 c b h nx
  obtain ⟨kn, ks, lf, s, wd, tn, e0, e9⟩ := h.heads
  obtain ⟨mc, ms, M, h1, h2, hC, hM⟩ := op_back (X := X) (l := l) (X.2.2.2.2 (nI i + nI 1).toNatClampNeg) h
  obtain ⟨w, rfl⟩ := va_ex2 e0 e9
  refine ab_sound ok_259 [1339] 60 ?_
  refine And.intro (vpi hi hs (by omega)) ?_
  refine Exists.intro mc ?_
  refine ⟨ms, _, by omega, by omega, hC, ?_⟩
  rintro _ w1 n1 ⟨v, rfl, hm, kn1, ks1, lf1, s1, wd1, tn1, f0, f9⟩
  have hC2 := hM v _ _ hm
  obtain ⟨w1, rfl⟩ := va_ex2 f0 f9
  refine And.intro (vpi hi hs (by omega)) ?_
  refine Exists.intro 0 ?_
  refine ⟨0, _, Nat.zero_le _, Nat.zero_le _, hC2, ?_⟩
  rintro _ w2 n2 ⟨rfl, hv⟩
  refine And.intro (fun _ => ?_) (fun h_9 => absurd rfl h_9)
  exact lw_more (nx w2 n2 _ _ _ hv) (by omega) (by omega)
set_option maxRecDepth 100000 in
theorem cs_1053 (htr : l.stackTraces = false) (hi : i + 6 ≤ X.2.2.2.1) (hs : X.2.2.2.1 ≤ 3072) : CS X l i 1053 := by
  intro w n a5 a6 a7 c b h nx
  obtain ⟨kn, ks, lf, s, wd, tn, e0, e9⟩ := h.heads
  obtain ⟨mc, ms, M, h1, h2, hC, hM⟩ := op_backAt (X := X) (l := l) (X.2.2.2.2 (nI i + nI 1).toNatClampNeg) (X.2.2.2.2 (nI i + nI 2).toNatClampNeg) h
  obtain ⟨w, rfl⟩ := va_ex2 e0 e9
  refine ab_sound ok_259 [1339] 60 ?_
  refine And.intro (vpi hi hs (by omega)) ?_
  refine And.intro (vpi hi hs (by omega)) ?_
  refine Exists.intro mc ?_
  refine ⟨ms, _, by omega, by omega, hC, ?_⟩
  rintro _ w1 n1 ⟨v, rfl, hm, kn1, ks1, lf1, s1, wd1, tn1, f0, f9⟩
  have hC2 := hM v _ _ hm
  obtain ⟨w1, rfl⟩ := va_ex2 f0 f9
  refine And.intro (vpi hi hs (by omega)) ?_
  refine And.intro (vpi hi hs (by omega)) ?_
  refine Exists.intro 0 ?_
  refine ⟨0, _, Nat.zero_le _, Nat.zero_le _, hC2, ?_⟩
  rintro _ w2 n2 ⟨rfl, hv⟩
  refine And.intro (fun _ => ?_) (fun h_9 => absurd (lg_eq.mpr rfl) h_9)
  exact lw_more (nx w2 n2 _ _ _ hv) (by omega) (by omega)
set_option maxRecDepth 100000 in
theorem cs_1091 (htr : l.stackTraces = false) (hi : i + 6 ≤ X.2.2.2.1) (hs : X.2.2.2.1 ≤ 3072) : CS X l i 1091 := by
  intro w n a5 a6 a7 c b h nx
  obtain ⟨kn, ks, lf, s, wd, tn, e0, e9⟩ := h.heads
  obtain ⟨mc, ms, M, h1, h2, hC, hM⟩ := op_right (X := X) (l := l) (X.2.2.2.2 (nI i + nI 1).toNatClampNeg) h
  obtain ⟨w, rfl⟩ := va_ex2 e0 e9
  refine ab_sound ok_259 [1339] 60 ?_
  refine And.intro (vpi hi hs (by omega)) ?_
  refine Exists.intro mc ?_
  refine ⟨ms, _, by omega, by omega, hC, ?_⟩
  rintro _ w1 n1 ⟨v, rfl, hm, kn1, ks1, lf1, s1, wd1, tn1, f0, f9⟩
  have hC2 := hM v _ _ hm
  obtain ⟨w1, rfl⟩ := va_ex2 f0 f9
  refine And.intro (vpi hi hs (by omega)) ?_
  refine Exists.intro 0 ?_
  refine ⟨0, _, Nat.zero_le _, Nat.zero_le _, hC2, ?_⟩
  rintro _ w2 n2 ⟨rfl, hv⟩
  refine And.intro (fun _ => ?_) (fun h_9 => absurd rfl h_9)
  exact lw_more (nx w2 n2 _ _ _ hv) (by omega) (by omega)
set_option maxRecDepth 100000 in
theorem cs_1116 (htr : l.stackTraces = false) (hi : i + 6 ≤ X.2.2.2.1) (hs : X.2.2.2.1 ≤ 3072) : CS X l i 1116 := by
  intro w n a5 a6 a7 c b h nx
  obtain ⟨kn, ks, lf, s, wd, tn, e0, e9⟩ := h.heads
  obtain ⟨mc, ms, M, h1, h2, hC, hM⟩ := op_wrong (X := X) (l := l)  h
  obtain ⟨w, rfl⟩ := va_ex2 e0 e9
  refine ab_sound ok_259 [1339] 60 ?_
  refine Exists.intro mc ?_
  refine ⟨ms, _, by omega, by omega, hC, ?_⟩
  rintro _ w1 n1 ⟨v, rfl, hm, kn1, ks1, lf1, s1, wd1, tn1, f0, f9⟩
  have hC2 := hM v _ _ hm
  obtain ⟨w1, rfl⟩ := va_ex2 f0 f9
  refine Exists.intro 0 ?_
  refine ⟨0, _, Nat.zero_le _, Nat.zero_le _, hC2, ?_⟩
  rintro _ w2 n2 ⟨rfl, hv⟩
  refine And.intro (fun _ => ?_) (fun h_9 => absurd rfl h_9)
  exact lw_more (nx w2 n2 _ _ _ hv) (by omega) (by omega)
end LAW5
