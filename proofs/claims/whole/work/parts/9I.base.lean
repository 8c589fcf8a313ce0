/-! the base of a wheel and its arm, for the class -/
theorem qBs_r {T : TE} {S : KS} {t p q : Nat} {i : Bool} (hp : p ≤ tL T) (h : qBs T S t i p = .inr q) : q = tX T p ∧ tkN T p = true ∧ soI (sLo S (tV T p)) ≤ 1 ∧ ¬ (i = true ∧ bT S (sLo S (tV T p)) ≤ t) ∧ bH S (sLo S (tV T p)) ≤ 4 ∧ q ≤ tL T ∧ tK T p = 2 := by
  unfold qBs at h
  by_cases c : tkN T p = true
  · rw [if_pos c] at h
    by_cases d : soI (sLo S (tV T p)) ≤ 1
    · rw [if_pos d] at h
      by_cases e : i = true ∧ bT S (sLo S (tV T p)) ≤ t
      · rw [if_pos e] at h; cases h
      · rw [if_neg e] at h
        by_cases g : 4 < bH S (sLo S (tV T p))
        · rw [if_pos g] at h; cases h
        · rw [if_neg g] at h
          have e9 : tX T p = q := Sum.inr.inj h
          have k := tkN_k c
          have g9 := tX_le hp (by omega) (by omega)
          exact ⟨e9.symm, c, d, e, by omega, by omega, k⟩
    · rw [if_neg d] at h; cases h
  · rw [if_neg c] at h; cases h
theorem qBs_l {T : TE} {S : KS} {t p k pl : Nat} {i : Bool} (h : qBs T S t i p = .inl (k, pl)) : pl = tP T p ∧ ((tkN T p = false ∧ k = 1) ∨ (tkN T p = true ∧ ((¬ soI (sLo S (tV T p)) ≤ 1 ∧ k = 3) ∨ (soI (sLo S (tV T p)) ≤ 1 ∧ (((i = true ∧ bT S (sLo S (tV T p)) ≤ t) ∧ k = 2) ∨ (¬ (i = true ∧ bT S (sLo S (tV T p)) ≤ t) ∧ 4 < bH S (sLo S (tV T p)) ∧ k = 4)))))) := by
  unfold qBs at h
  by_cases c : tkN T p = true
  · rw [if_pos c] at h
    by_cases d : soI (sLo S (tV T p)) ≤ 1
    · rw [if_pos d] at h
      by_cases e : i = true ∧ bT S (sLo S (tV T p)) ≤ t
      · rw [if_pos e] at h
        obtain ⟨e1, e2⟩ := inlE h
        exact ⟨e2.symm, Or.inr ⟨c, Or.inr ⟨d, Or.inl ⟨e, e1.symm⟩⟩⟩⟩
      · rw [if_neg e] at h
        by_cases g : 4 < bH S (sLo S (tV T p))
        · rw [if_pos g] at h
          obtain ⟨e1, e2⟩ := inlE h
          exact ⟨e2.symm, Or.inr ⟨c, Or.inr ⟨d, Or.inr ⟨e, g, e1.symm⟩⟩⟩⟩
        · rw [if_neg g] at h; cases h
    · rw [if_neg d] at h
      obtain ⟨e1, e2⟩ := inlE h
      exact ⟨e2.symm, Or.inr ⟨c, Or.inl ⟨d, e1.symm⟩⟩⟩
  · rw [if_neg c] at h
    obtain ⟨e1, e2⟩ := inlE h
    exact ⟨e2.symm, Or.inl ⟨Bool.eq_false_iff.mpr c, e1.symm⟩⟩
section BASE
variable {X : ab_X} {l : Launch}
theorem k_stand_44 (i : Nat) (o : Option (Nat × Nat)) (w : ab_W) (n : Nat) {S : KS} {t ii bw bt ht bu bl au al : Int32} {su sl : Int64} {fo fu : Nat → Int32} (hS : KSok S) (hi : i < 24) (ho : BsOk S o) (hC : CRd w 44 S) (g2 : w 46 = aI 24 fo) (g3 : w 47 = aI 24 fu) (e1 : fo i = nI (soI o)) (e2 : fu i = nI (soJ o)) (h4 : w 4 = oWL t ii bw bt ht bu bl au al su sl) :
    ab_C X l i_WL_stand [.ref 4, .ref 44, .int (nI i)] w n 0 0 (ab_q1 none (va_up w 4 (oWL t ii (bsI o) (nI (bT S o)) (nI (bH S o)) (bU S o) (bL S o) au al su sl)) n) := by
  obtain ⟨h0, -, ⟨f4, q4, q4b⟩, ⟨f5, q5, q5b⟩, ⟨f7, q7, q7b⟩, -, -, -, -, -, ⟨f11, k11, k11b⟩, ⟨f12, k12, k12b⟩, -, -⟩ := hC
  have hk := hS.1
  obtain ⟨w, rfl⟩ : ∃ w0, w = va_up (va_up (va_up (va_up (va_up (va_up (va_up (va_up (va_up w0 56 (aI 12 f12)) 55 (aI 12 f11)) 51 (aI 12 f7)) 49 (aI 12 f5)) 48 (aI 4 f4)) 47 (aI 24 fu)) 46 (aI 24 fo)) 44 (oKit 44 (nI (sR S)) (nI (sW S)) (nI (sP S)) (nI (sN S)))) 4 (oWL t ii bw bt ht bu bl au al su sl) := ⟨w, by rw [← va_self k12, ← va_self k11, ← va_self q7, ← va_self q5, ← va_self q4, ← va_self g3, ← va_self g2, ← va_self h0, ← va_self h4]⟩
  refine ab_metV cd_103 om_103 rfl rfl (ab_sound ok_103 [] 80 ?_)
  refine And.intro (vp_in_nI hi (by omega)) ?_
  rw [nI_clamp (by omega), e2]
  refine And.intro (vp_in_nI hi (by omega)) ?_
  rw [nI_clamp (by omega), e1]
  rcases ho with ⟨b1, b2⟩ | ⟨b1, b2⟩
  · refine And.intro (fun h_9 => absurd ((by rw [b1]; rfl)) h_9) (fun _ => ?_)
    refine And.intro (vp_in_nI (show soJ o < 4 by omega) (by omega)) ?_
    rw [nI_clamp (by omega), q4b _ b2]
    refine ⟨rfl, ?_, rfl⟩
    simp only [va_uu]
    unfold bsI bB bT bH bU bL
    rw [if_pos b1, if_pos b1, if_pos b1, if_pos b1, if_pos b1]
    rfl
  · refine And.intro (fun _ => ?_) (fun h_9 => absurd h_9 ((by rw [b1]; exact nI_ne0 (by omega) (by omega))))
    refine And.intro (vp_in_nI (show soJ o < 12 by omega) (by omega)) ?_
    rw [nI_clamp (by omega), q5b _ b2]
    refine And.intro (vp_in_nI (show soJ o < 12 by omega) (by omega)) ?_
    rw [nI_clamp (by omega), q7b _ b2]
    refine And.intro (vp_in_nI (show soJ o < 12 by omega) (by omega)) ?_
    rw [nI_clamp (by omega), k11b _ b2]
    refine And.intro (vp_in_nI (show soJ o < 12 by omega) (by omega)) ?_
    rw [nI_clamp (by omega), k12b _ b2]
    refine ⟨rfl, ?_, rfl⟩
    simp only [va_uu]
    unfold bsI bB bT bH bU bL
    rw [if_neg (by omega), if_neg (by omega), if_neg (by omega), if_neg (by omega), if_neg (by omega), nI_s (kHt (sK S) (soJ o))]
    rfl
theorem k_passBase_y_44 (T : TE) (t p q : Nat) (i : Bool) (w : ab_W) (n : Nat) {S : KS} {f r1 r2 r3 bw bt ht bu bl au al : Int32} {su sl : Int64} (ht200 : t ≤ 200) (hq : qBs T S t i p = .inr q) (hS : KSok S) (hL : tL T ≤ 640) (hp : p ≤ tL T) (h1 : w 1 = oTk T p f) (h2 : w 2 = aI 640 (tB T)) (h3 : w 3 = oKR r1 r2 r3) (h4 : w 4 = oWL (nI t) (b01 i) bw bt ht bu bl au al su sl) (hC : CRd w 44 S) :
    ab_C X l i_KR_passBase [.ref 3, .ref 1, .ref 44] w n 0 0 (ab_q1 (some (.int (nI 1))) (va_up (va_up w 4 (oWL (nI t) (b01 i) (bsI (sLo S (tV T p))) (nI (bT S (sLo S (tV T p)))) (nI (bH S (sLo S (tV T p)))) (bU S (sLo S (tV T p))) (bL S (sLo S (tV T p))) au al su sl)) 1 (oTk T q (cV T p f))) n) := by
  obtain ⟨rfl, c1, c2, c3, c4, c5, c6⟩ := qBs_r hp hq
  have ev := cV_eq (f := f) hp (by omega) (by omega)
  have ho := bs_lo hS.2.2.2.2 c2
  obtain ⟨y, hy⟩ := lo_some (S := S) (c := tV T p) (by omega)
  have y1 : soI (sLo S (tV T p)) = y.1 := by rw [hy]; rfl
  have y2 : soJ (sLo S (tV T p)) = y.2 := by rw [hy]; rfl
  have h0 := hC.1
  have hC2 := hC
  have tb := bT_bd hS ho
  obtain ⟨-, ⟨fn, fo, fu, g1, g2, g3, g4⟩, -⟩ := hC2
  obtain ⟨j, b1, b2, b3, ce⟩ := k_entryOf_y_44 (X := X) (l := l) (tV T p) w n ev hS hy h0 g1 g4
  have cs := k_stand_44 (X := X) (l := l) j (sLo S (tV T p)) w n hS b1 ho hC g2 g3 (by rw [b2, y1]) (by rw [b3, y2]) h4
  obtain ⟨w, rfl⟩ : ∃ w0, w = va_up (va_up (va_up (va_up (va_up (va_up w0 46 (aI 24 fo)) 44 (oKit 44 (nI (sR S)) (nI (sW S)) (nI (sP S)) (nI (sN S)))) 4 (oWL (nI t) (b01 i) bw bt ht bu bl au al su sl)) 3 (oKR r1 r2 r3)) 2 (aI 640 (tB T))) 1 (oTk T p f) := ⟨w, by rw [← va_self g2, ← va_self h0, ← va_self h4, ← va_self h3, ← va_self h2, ← va_self h1]⟩
  generalize ho9 : sLo S (tV T p) = o at *
  have at88 : ab_Ev X l i_KR_passBase 88 [some (.ref 3), some (.ref 1), some (.ref 44), some (.int (nI j))] [] (va_up (va_up (va_up (va_up (va_up (va_up (va_up w 46 (aI 24 fo)) 44 (oKit 44 (nI (sR S)) (nI (sW S)) (nI (sP S)) (nI (sN S)))) 4 (oWL (nI t) (b01 i) bw bt ht bu bl au al su sl)) 3 (oKR r1 r2 r3)) 2 (aI 640 (tB T))) 1 (oTk T p f)) 4 (oWL (nI t) (b01 i) (bsI o) (nI (bT S o)) (nI (bH S o)) (bU S o) (bL S o) au al su sl)) n 0 0 (ab_q1 (some (.int (nI 1))) (va_up (va_up (va_up (va_up (va_up (va_up (va_up (va_up w 46 (aI 24 fo)) 44 (oKit 44 (nI (sR S)) (nI (sW S)) (nI (sP S)) (nI (sN S)))) 4 (oWL (nI t) (b01 i) bw bt ht bu bl au al su sl)) 3 (oKR r1 r2 r3)) 2 (aI 640 (tB T))) 1 (oTk T p f)) 4 (oWL (nI t) (b01 i) (bsI o) (nI (bT S o)) (nI (bH S o)) (bU S o) (bL S o) au al su sl)) 1 (oTk T (tX T p) (cV T p f))) n) := by
    refine ab_sound ok_22 [] 80 ?_
    refine And.intro (fun _ => ?_) (fun h_9 => absurd (nI_le c4 (by omega)) h_9)
    (refine Exists.intro 0 ?_; refine ⟨0, _, Nat.zero_le _, Nat.zero_le _, k_adv T p _ _ hL hp (by omega) (by omega) rfl rfl, ?_⟩; refine ab_q1_elim ?_)
    exact ⟨rfl, rfl, rfl, rfl⟩
  refine ab_metI cd_22 om_22 rfl (ab_sound ok_22 [88] 80 ?_)
  (refine Exists.intro 0 ?_; refine ⟨0, _, Nat.zero_le _, Nat.zero_le _, k_isName T p _ _ hL hp rfl rfl, ?_⟩; refine ab_q1_elim ?_)
  refine And.intro (fun _ => ?_) (fun h_9 => absurd h_9 ((by rw [c1]; decide)))
  (refine Exists.intro 0 ?_; refine ⟨0, _, Nat.zero_le _, Nat.zero_le _, ce, ?_⟩; refine ab_q1_elim ?_)
  refine And.intro (fun h_9 => absurd h_9 ((nI_nn (by omega)))) (fun _ => ?_)
  refine And.intro (vp_in_nI b1 (by omega)) ?_
  rw [nI_clamp (by omega), b2]
  refine And.intro (fun _ => ?_) (fun h_9 => absurd h_9 ((fun z => by rw [nI_eq (by omega) (by omega)] at z; omega)))
  (refine Exists.intro 0 ?_; refine ⟨0, _, Nat.zero_le _, Nat.zero_le _, cs, ?_⟩; refine ab_q1_elim ?_)
  cases i
  · refine And.intro (fun _ => ?_) (fun h_9 => absurd (rfl) h_9)
    exact at88
  · refine And.intro (fun h_9 => absurd h_9 ((by decide))) (fun _ => ?_)
    refine And.intro (fun _ => ?_) (fun h_9 => absurd (nI_lt (by have : ¬ bT S o ≤ t := fun z => c3 ⟨rfl, z⟩; omega) (by omega)) h_9)
    exact at88
theorem k_passBase_n_44 (T : TE) (t p k pl : Nat) (i : Bool) (w : ab_W) (n : Nat) {S : KS} {f r1 r2 r3 bw bt ht bu bl au al : Int32} {su sl : Int64} (ht200 : t ≤ 200) (hq : qBs T S t i p = .inl (k, pl)) (hS : KSok S) (hL : tL T ≤ 640) (hp : p ≤ tL T) (h1 : w 1 = oTk T p f) (h2 : w 2 = aI 640 (tB T)) (h3 : w 3 = oKR r1 r2 r3) (h4 : w 4 = oWL (nI t) (b01 i) bw bt ht bu bl au al su sl) (hC : CRd w 44 S) :
    ab_C X l i_KR_passBase [.ref 3, .ref 1, .ref 44] w n 0 0 (qI (nI 0) (fun w' n' => n = n' ∧ ∃ c4, isWL c4 ∧ w' = va_up (va_up w 4 c4) 3 (oKR (nI k) (nI pl) r3))) := by
  obtain ⟨rfl, c⟩ := qBs_l hq
  rcases c with ⟨c1, rfl⟩ | ⟨c1, c⟩
  · obtain ⟨w, rfl⟩ := va_ex4 h1 h2 h3 h4
    refine ab_mqI cd_22 om_22 rfl (ab_sound ok_22 [] 80 ?_)
    (refine Exists.intro 0 ?_; refine ⟨0, _, Nat.zero_le _, Nat.zero_le _, k_isName T p _ _ hL hp rfl rfl, ?_⟩; refine ab_q1_elim ?_)
    refine And.intro (fun h_9 => absurd ((by rw [c1]; rfl)) h_9) (fun _ => ?_)
    (refine Exists.intro 0 ?_; refine ⟨0, _, Nat.zero_le _, Nat.zero_le _, k_fail T p 1 _ _ rfl rfl rfl, ?_⟩; refine ab_q1_elim ?_)
    refine ⟨rfl, rfl, rfl, oWL (nI t) (b01 i) bw bt ht bu bl au al su sl, ⟨_, _, _, _, _, _, _, _, _, _, _, rfl⟩, ?_⟩
    rw [← va_self h4]
  · have c6 := tkN_k c1
    have ev := cV_eq (f := f) hp (by omega) (by omega)
    have h0 := hC.1
    have hC2 := hC
    obtain ⟨-, ⟨fn, fo, fu, g1, g2, g3, g4⟩, -⟩ := hC2
    by_cases z3 : soI (sLo S (tV T p)) = 3
    · have k3 : k = 3 := by omega
      subst k3
      have ce := k_entryOf_n_44 (X := X) (l := l) (tV T p) w n ev hS (tk_vd hp c6) ((lo_none hS.2.2.2.2).mp z3) h0 g1 g4
      obtain ⟨w, rfl⟩ : ∃ w0, w = va_up (va_up (va_up (va_up (va_up (va_up w0 46 (aI 24 fo)) 44 (oKit 44 (nI (sR S)) (nI (sW S)) (nI (sP S)) (nI (sN S)))) 4 (oWL (nI t) (b01 i) bw bt ht bu bl au al su sl)) 3 (oKR r1 r2 r3)) 2 (aI 640 (tB T))) 1 (oTk T p f) := ⟨w, by rw [← va_self g2, ← va_self h0, ← va_self h4, ← va_self h3, ← va_self h2, ← va_self h1]⟩
      refine ab_mqI cd_22 om_22 rfl (ab_sound ok_22 [] 80 ?_)
      (refine Exists.intro 0 ?_; refine ⟨0, _, Nat.zero_le _, Nat.zero_le _, k_isName T p _ _ hL hp rfl rfl, ?_⟩; refine ab_q1_elim ?_)
      refine And.intro (fun _ => ?_) (fun h_9 => absurd h_9 ((by rw [c1]; decide)))
      (refine Exists.intro 0 ?_; refine ⟨0, _, Nat.zero_le _, Nat.zero_le _, ce, ?_⟩; refine ab_q1_elim ?_)
      refine And.intro (fun _ => ?_) (fun h_9 => absurd (rfl) h_9)
      (refine Exists.intro 0 ?_; refine ⟨0, _, Nat.zero_le _, Nat.zero_le _, k_fail T p 3 _ _ rfl rfl rfl, ?_⟩; refine ab_q1_elim ?_)
      refine ⟨rfl, rfl, rfl, oWL (nI t) (b01 i) bw bt ht bu bl au al su sl, ⟨_, _, _, _, _, _, _, _, _, _, _, rfl⟩, ?_⟩
      rw [← va_self h4]
    · obtain ⟨y, hy⟩ := lo_some z3
      have y1 : soI (sLo S (tV T p)) = y.1 := by rw [hy]; rfl
      have y2 : soJ (sLo S (tV T p)) = y.2 := by rw [hy]; rfl
      have y3 : y.1 ≤ 2 := by have := (hS.2.2.2.2 _ y hy).2; omega
      obtain ⟨j, b1, b2, b3, ce⟩ := k_entryOf_y_44 (X := X) (l := l) (tV T p) w n ev hS hy h0 g1 g4
      rcases c with ⟨c2, rfl⟩ | ⟨c2, c⟩
      · obtain ⟨w, rfl⟩ : ∃ w0, w = va_up (va_up (va_up (va_up (va_up (va_up w0 46 (aI 24 fo)) 44 (oKit 44 (nI (sR S)) (nI (sW S)) (nI (sP S)) (nI (sN S)))) 4 (oWL (nI t) (b01 i) bw bt ht bu bl au al su sl)) 3 (oKR r1 r2 r3)) 2 (aI 640 (tB T))) 1 (oTk T p f) := ⟨w, by rw [← va_self g2, ← va_self h0, ← va_self h4, ← va_self h3, ← va_self h2, ← va_self h1]⟩
        refine ab_mqI cd_22 om_22 rfl (ab_sound ok_22 [] 80 ?_)
        (refine Exists.intro 0 ?_; refine ⟨0, _, Nat.zero_le _, Nat.zero_le _, k_isName T p _ _ hL hp rfl rfl, ?_⟩; refine ab_q1_elim ?_)
        refine And.intro (fun _ => ?_) (fun h_9 => absurd h_9 ((by rw [c1]; decide)))
        (refine Exists.intro 0 ?_; refine ⟨0, _, Nat.zero_le _, Nat.zero_le _, ce, ?_⟩; refine ab_q1_elim ?_)
        refine And.intro (fun h_9 => absurd h_9 ((nI_nn (by omega)))) (fun _ => ?_)
        refine And.intro (vp_in_nI b1 (by omega)) ?_
        rw [nI_clamp (by omega), b2]
        refine And.intro (fun h_9 => absurd ((by rw [show y.1 = 2 by omega])) h_9) (fun _ => ?_)
        (refine Exists.intro 0 ?_; refine ⟨0, _, Nat.zero_le _, Nat.zero_le _, k_fail T p 3 _ _ rfl rfl rfl, ?_⟩; refine ab_q1_elim ?_)
        refine ⟨rfl, rfl, rfl, oWL (nI t) (b01 i) bw bt ht bu bl au al su sl, ⟨_, _, _, _, _, _, _, _, _, _, _, rfl⟩, ?_⟩
        rw [← va_self h4]
      · have ho := bs_lo hS.2.2.2.2 c2
        have tb := bT_bd hS ho
        have hb := bH_bd hS ho
        have cs := k_stand_44 (X := X) (l := l) j (sLo S (tV T p)) w n hS b1 ho hC g2 g3 (by rw [b2, y1]) (by rw [b3, y2]) h4
        obtain ⟨w, rfl⟩ : ∃ w0, w = va_up (va_up (va_up (va_up (va_up (va_up w0 46 (aI 24 fo)) 44 (oKit 44 (nI (sR S)) (nI (sW S)) (nI (sP S)) (nI (sN S)))) 4 (oWL (nI t) (b01 i) bw bt ht bu bl au al su sl)) 3 (oKR r1 r2 r3)) 2 (aI 640 (tB T))) 1 (oTk T p f) := ⟨w, by rw [← va_self g2, ← va_self h0, ← va_self h4, ← va_self h3, ← va_self h2, ← va_self h1]⟩
        generalize ho9 : sLo S (tV T p) = o at *
        refine ab_mqI cd_22 om_22 rfl (ab_sound ok_22 [88] 80 ?_)
        (refine Exists.intro 0 ?_; refine ⟨0, _, Nat.zero_le _, Nat.zero_le _, k_isName T p _ _ hL hp rfl rfl, ?_⟩; refine ab_q1_elim ?_)
        refine And.intro (fun _ => ?_) (fun h_9 => absurd h_9 ((by rw [c1]; decide)))
        (refine Exists.intro 0 ?_; refine ⟨0, _, Nat.zero_le _, Nat.zero_le _, ce, ?_⟩; refine ab_q1_elim ?_)
        refine And.intro (fun h_9 => absurd h_9 ((nI_nn (by omega)))) (fun _ => ?_)
        refine And.intro (vp_in_nI b1 (by omega)) ?_
        rw [nI_clamp (by omega), b2]
        refine And.intro (fun _ => ?_) (fun h_9 => absurd h_9 ((fun z => by rw [nI_eq (by omega) (by omega)] at z; omega)))
        (refine Exists.intro 0 ?_; refine ⟨0, _, Nat.zero_le _, Nat.zero_le _, cs, ?_⟩; refine ab_q1_elim ?_)
        rcases c with ⟨⟨rfl, c3⟩, rfl⟩ | ⟨c3, c4, rfl⟩
        · refine And.intro (fun h_9 => absurd h_9 ((by decide))) (fun _ => ?_)
          refine And.intro (fun h_9 => absurd h_9 (nI_nlt c3 (by omega))) (fun _ => ?_)
          (refine Exists.intro 0 ?_; refine ⟨0, _, Nat.zero_le _, Nat.zero_le _, k_fail T p 2 _ _ rfl rfl rfl, ?_⟩; refine ab_q1_elim ?_)
          exact ⟨rfl, rfl, rfl, _, ⟨_, _, _, _, _, _, _, _, _, _, _, rfl⟩, rfl⟩
        · have at88 : ab_Ev X l i_KR_passBase 88 [some (.ref 3), some (.ref 1), some (.ref 44), some (.int (nI j))] [] (va_up (va_up (va_up (va_up (va_up (va_up (va_up w 46 (aI 24 fo)) 44 (oKit 44 (nI (sR S)) (nI (sW S)) (nI (sP S)) (nI (sN S)))) 4 (oWL (nI t) (b01 i) bw bt ht bu bl au al su sl)) 3 (oKR r1 r2 r3)) 2 (aI 640 (tB T))) 1 (oTk T p f)) 4 (oWL (nI t) (b01 i) (bsI o) (nI (bT S o)) (nI (bH S o)) (bU S o) (bL S o) au al su sl)) n 0 0 (qI (nI 0) (fun w' n' => n = n' ∧ ∃ c4, isWL c4 ∧ w' = va_up (va_up (va_up (va_up (va_up (va_up (va_up (va_up w 46 (aI 24 fo)) 44 (oKit 44 (nI (sR S)) (nI (sW S)) (nI (sP S)) (nI (sN S)))) 4 (oWL (nI t) (b01 i) bw bt ht bu bl au al su sl)) 3 (oKR r1 r2 r3)) 2 (aI 640 (tB T))) 1 (oTk T p f)) 4 c4) 3 (oKR (nI 4) (nI (tP T p)) r3))) := by
            refine ab_sound ok_22 [] 80 ?_
            refine And.intro (fun h_9 => absurd h_9 (nI_ge c4 (by omega))) (fun _ => ?_)
            (refine Exists.intro 0 ?_; refine ⟨0, _, Nat.zero_le _, Nat.zero_le _, k_fail T p 4 _ _ rfl rfl rfl, ?_⟩; refine ab_q1_elim ?_)
            exact ⟨rfl, rfl, rfl, _, ⟨_, _, _, _, _, _, _, _, _, _, _, rfl⟩, rfl⟩
          cases i
          · refine And.intro (fun _ => ?_) (fun h_9 => absurd (rfl) h_9)
            exact at88
          · refine And.intro (fun h_9 => absurd h_9 ((by decide))) (fun _ => ?_)
            refine And.intro (fun _ => ?_) (fun h_9 => absurd (nI_lt (by have : ¬ bT S o ≤ t := fun z => c3 ⟨rfl, z⟩; omega) (by omega)) h_9)
            exact at88
theorem k_stand_59 (i : Nat) (o : Option (Nat × Nat)) (w : ab_W) (n : Nat) {S : KS} {t ii bw bt ht bu bl au al : Int32} {su sl : Int64} {fo fu : Nat → Int32} (hS : KSok S) (hi : i < 24) (ho : BsOk S o) (hC : CRd w 59 S) (g2 : w 61 = aI 24 fo) (g3 : w 62 = aI 24 fu) (e1 : fo i = nI (soI o)) (e2 : fu i = nI (soJ o)) (h4 : w 4 = oWL t ii bw bt ht bu bl au al su sl) :
    ab_C X l i_WL_stand [.ref 4, .ref 59, .int (nI i)] w n 0 0 (ab_q1 none (va_up w 4 (oWL t ii (bsI o) (nI (bT S o)) (nI (bH S o)) (bU S o) (bL S o) au al su sl)) n) := by
  obtain ⟨h0, -, ⟨f4, q4, q4b⟩, ⟨f5, q5, q5b⟩, ⟨f7, q7, q7b⟩, -, -, -, -, -, ⟨f11, k11, k11b⟩, ⟨f12, k12, k12b⟩, -, -⟩ := hC
  have hk := hS.1
  obtain ⟨w, rfl⟩ : ∃ w0, w = va_up (va_up (va_up (va_up (va_up (va_up (va_up (va_up (va_up w0 71 (aI 12 f12)) 70 (aI 12 f11)) 66 (aI 12 f7)) 64 (aI 12 f5)) 63 (aI 4 f4)) 62 (aI 24 fu)) 61 (aI 24 fo)) 59 (oKit 59 (nI (sR S)) (nI (sW S)) (nI (sP S)) (nI (sN S)))) 4 (oWL t ii bw bt ht bu bl au al su sl) := ⟨w, by rw [← va_self k12, ← va_self k11, ← va_self q7, ← va_self q5, ← va_self q4, ← va_self g3, ← va_self g2, ← va_self h0, ← va_self h4]⟩
  refine ab_metV cd_103 om_103 rfl rfl (ab_sound ok_103 [] 80 ?_)
  refine And.intro (vp_in_nI hi (by omega)) ?_
  rw [nI_clamp (by omega), e2]
  refine And.intro (vp_in_nI hi (by omega)) ?_
  rw [nI_clamp (by omega), e1]
  rcases ho with ⟨b1, b2⟩ | ⟨b1, b2⟩
  · refine And.intro (fun h_9 => absurd ((by rw [b1]; rfl)) h_9) (fun _ => ?_)
    refine And.intro (vp_in_nI (show soJ o < 4 by omega) (by omega)) ?_
    rw [nI_clamp (by omega), q4b _ b2]
    refine ⟨rfl, ?_, rfl⟩
    simp only [va_uu]
    unfold bsI bB bT bH bU bL
    rw [if_pos b1, if_pos b1, if_pos b1, if_pos b1, if_pos b1]
    rfl
  · refine And.intro (fun _ => ?_) (fun h_9 => absurd h_9 ((by rw [b1]; exact nI_ne0 (by omega) (by omega))))
    refine And.intro (vp_in_nI (show soJ o < 12 by omega) (by omega)) ?_
    rw [nI_clamp (by omega), q5b _ b2]
    refine And.intro (vp_in_nI (show soJ o < 12 by omega) (by omega)) ?_
    rw [nI_clamp (by omega), q7b _ b2]
    refine And.intro (vp_in_nI (show soJ o < 12 by omega) (by omega)) ?_
    rw [nI_clamp (by omega), k11b _ b2]
    refine And.intro (vp_in_nI (show soJ o < 12 by omega) (by omega)) ?_
    rw [nI_clamp (by omega), k12b _ b2]
    refine ⟨rfl, ?_, rfl⟩
    simp only [va_uu]
    unfold bsI bB bT bH bU bL
    rw [if_neg (by omega), if_neg (by omega), if_neg (by omega), if_neg (by omega), if_neg (by omega), nI_s (kHt (sK S) (soJ o))]
    rfl
theorem k_passBase_y_59 (T : TE) (t p q : Nat) (i : Bool) (w : ab_W) (n : Nat) {S : KS} {f r1 r2 r3 bw bt ht bu bl au al : Int32} {su sl : Int64} (ht200 : t ≤ 200) (hq : qBs T S t i p = .inr q) (hS : KSok S) (hL : tL T ≤ 640) (hp : p ≤ tL T) (h1 : w 1 = oTk T p f) (h2 : w 2 = aI 640 (tB T)) (h3 : w 3 = oKR r1 r2 r3) (h4 : w 4 = oWL (nI t) (b01 i) bw bt ht bu bl au al su sl) (hC : CRd w 59 S) :
    ab_C X l i_KR_passBase [.ref 3, .ref 1, .ref 59] w n 0 0 (ab_q1 (some (.int (nI 1))) (va_up (va_up w 4 (oWL (nI t) (b01 i) (bsI (sLo S (tV T p))) (nI (bT S (sLo S (tV T p)))) (nI (bH S (sLo S (tV T p)))) (bU S (sLo S (tV T p))) (bL S (sLo S (tV T p))) au al su sl)) 1 (oTk T q (cV T p f))) n) := by
  obtain ⟨rfl, c1, c2, c3, c4, c5, c6⟩ := qBs_r hp hq
  have ev := cV_eq (f := f) hp (by omega) (by omega)
  have ho := bs_lo hS.2.2.2.2 c2
  obtain ⟨y, hy⟩ := lo_some (S := S) (c := tV T p) (by omega)
  have y1 : soI (sLo S (tV T p)) = y.1 := by rw [hy]; rfl
  have y2 : soJ (sLo S (tV T p)) = y.2 := by rw [hy]; rfl
  have h0 := hC.1
  have hC2 := hC
  have tb := bT_bd hS ho
  obtain ⟨-, ⟨fn, fo, fu, g1, g2, g3, g4⟩, -⟩ := hC2
  obtain ⟨j, b1, b2, b3, ce⟩ := k_entryOf_y_59 (X := X) (l := l) (tV T p) w n ev hS hy h0 g1 g4
  have cs := k_stand_59 (X := X) (l := l) j (sLo S (tV T p)) w n hS b1 ho hC g2 g3 (by rw [b2, y1]) (by rw [b3, y2]) h4
  obtain ⟨w, rfl⟩ : ∃ w0, w = va_up (va_up (va_up (va_up (va_up (va_up w0 61 (aI 24 fo)) 59 (oKit 59 (nI (sR S)) (nI (sW S)) (nI (sP S)) (nI (sN S)))) 4 (oWL (nI t) (b01 i) bw bt ht bu bl au al su sl)) 3 (oKR r1 r2 r3)) 2 (aI 640 (tB T))) 1 (oTk T p f) := ⟨w, by rw [← va_self g2, ← va_self h0, ← va_self h4, ← va_self h3, ← va_self h2, ← va_self h1]⟩
  generalize ho9 : sLo S (tV T p) = o at *
  have at88 : ab_Ev X l i_KR_passBase 88 [some (.ref 3), some (.ref 1), some (.ref 59), some (.int (nI j))] [] (va_up (va_up (va_up (va_up (va_up (va_up (va_up w 61 (aI 24 fo)) 59 (oKit 59 (nI (sR S)) (nI (sW S)) (nI (sP S)) (nI (sN S)))) 4 (oWL (nI t) (b01 i) bw bt ht bu bl au al su sl)) 3 (oKR r1 r2 r3)) 2 (aI 640 (tB T))) 1 (oTk T p f)) 4 (oWL (nI t) (b01 i) (bsI o) (nI (bT S o)) (nI (bH S o)) (bU S o) (bL S o) au al su sl)) n 0 0 (ab_q1 (some (.int (nI 1))) (va_up (va_up (va_up (va_up (va_up (va_up (va_up (va_up w 61 (aI 24 fo)) 59 (oKit 59 (nI (sR S)) (nI (sW S)) (nI (sP S)) (nI (sN S)))) 4 (oWL (nI t) (b01 i) bw bt ht bu bl au al su sl)) 3 (oKR r1 r2 r3)) 2 (aI 640 (tB T))) 1 (oTk T p f)) 4 (oWL (nI t) (b01 i) (bsI o) (nI (bT S o)) (nI (bH S o)) (bU S o) (bL S o) au al su sl)) 1 (oTk T (tX T p) (cV T p f))) n) := by
    refine ab_sound ok_22 [] 80 ?_
    refine And.intro (fun _ => ?_) (fun h_9 => absurd (nI_le c4 (by omega)) h_9)
    (refine Exists.intro 0 ?_; refine ⟨0, _, Nat.zero_le _, Nat.zero_le _, k_adv T p _ _ hL hp (by omega) (by omega) rfl rfl, ?_⟩; refine ab_q1_elim ?_)
    exact ⟨rfl, rfl, rfl, rfl⟩
  refine ab_metI cd_22 om_22 rfl (ab_sound ok_22 [88] 80 ?_)
  (refine Exists.intro 0 ?_; refine ⟨0, _, Nat.zero_le _, Nat.zero_le _, k_isName T p _ _ hL hp rfl rfl, ?_⟩; refine ab_q1_elim ?_)
  refine And.intro (fun _ => ?_) (fun h_9 => absurd h_9 ((by rw [c1]; decide)))
  (refine Exists.intro 0 ?_; refine ⟨0, _, Nat.zero_le _, Nat.zero_le _, ce, ?_⟩; refine ab_q1_elim ?_)
  refine And.intro (fun h_9 => absurd h_9 ((nI_nn (by omega)))) (fun _ => ?_)
  refine And.intro (vp_in_nI b1 (by omega)) ?_
  rw [nI_clamp (by omega), b2]
  refine And.intro (fun _ => ?_) (fun h_9 => absurd h_9 ((fun z => by rw [nI_eq (by omega) (by omega)] at z; omega)))
  (refine Exists.intro 0 ?_; refine ⟨0, _, Nat.zero_le _, Nat.zero_le _, cs, ?_⟩; refine ab_q1_elim ?_)
  cases i
  · refine And.intro (fun _ => ?_) (fun h_9 => absurd (rfl) h_9)
    exact at88
  · refine And.intro (fun h_9 => absurd h_9 ((by decide))) (fun _ => ?_)
    refine And.intro (fun _ => ?_) (fun h_9 => absurd (nI_lt (by have : ¬ bT S o ≤ t := fun z => c3 ⟨rfl, z⟩; omega) (by omega)) h_9)
    exact at88
theorem k_passBase_n_59 (T : TE) (t p k pl : Nat) (i : Bool) (w : ab_W) (n : Nat) {S : KS} {f r1 r2 r3 bw bt ht bu bl au al : Int32} {su sl : Int64} (ht200 : t ≤ 200) (hq : qBs T S t i p = .inl (k, pl)) (hS : KSok S) (hL : tL T ≤ 640) (hp : p ≤ tL T) (h1 : w 1 = oTk T p f) (h2 : w 2 = aI 640 (tB T)) (h3 : w 3 = oKR r1 r2 r3) (h4 : w 4 = oWL (nI t) (b01 i) bw bt ht bu bl au al su sl) (hC : CRd w 59 S) :
    ab_C X l i_KR_passBase [.ref 3, .ref 1, .ref 59] w n 0 0 (qI (nI 0) (fun w' n' => n = n' ∧ ∃ c4, isWL c4 ∧ w' = va_up (va_up w 4 c4) 3 (oKR (nI k) (nI pl) r3))) := by
  obtain ⟨rfl, c⟩ := qBs_l hq
  rcases c with ⟨c1, rfl⟩ | ⟨c1, c⟩
  · obtain ⟨w, rfl⟩ := va_ex4 h1 h2 h3 h4
    refine ab_mqI cd_22 om_22 rfl (ab_sound ok_22 [] 80 ?_)
    (refine Exists.intro 0 ?_; refine ⟨0, _, Nat.zero_le _, Nat.zero_le _, k_isName T p _ _ hL hp rfl rfl, ?_⟩; refine ab_q1_elim ?_)
    refine And.intro (fun h_9 => absurd ((by rw [c1]; rfl)) h_9) (fun _ => ?_)
    (refine Exists.intro 0 ?_; refine ⟨0, _, Nat.zero_le _, Nat.zero_le _, k_fail T p 1 _ _ rfl rfl rfl, ?_⟩; refine ab_q1_elim ?_)
    refine ⟨rfl, rfl, rfl, oWL (nI t) (b01 i) bw bt ht bu bl au al su sl, ⟨_, _, _, _, _, _, _, _, _, _, _, rfl⟩, ?_⟩
    rw [← va_self h4]
  · have c6 := tkN_k c1
    have ev := cV_eq (f := f) hp (by omega) (by omega)
    have h0 := hC.1
    have hC2 := hC
    obtain ⟨-, ⟨fn, fo, fu, g1, g2, g3, g4⟩, -⟩ := hC2
    by_cases z3 : soI (sLo S (tV T p)) = 3
    · have k3 : k = 3 := by omega
      subst k3
      have ce := k_entryOf_n_59 (X := X) (l := l) (tV T p) w n ev hS (tk_vd hp c6) ((lo_none hS.2.2.2.2).mp z3) h0 g1 g4
      obtain ⟨w, rfl⟩ : ∃ w0, w = va_up (va_up (va_up (va_up (va_up (va_up w0 61 (aI 24 fo)) 59 (oKit 59 (nI (sR S)) (nI (sW S)) (nI (sP S)) (nI (sN S)))) 4 (oWL (nI t) (b01 i) bw bt ht bu bl au al su sl)) 3 (oKR r1 r2 r3)) 2 (aI 640 (tB T))) 1 (oTk T p f) := ⟨w, by rw [← va_self g2, ← va_self h0, ← va_self h4, ← va_self h3, ← va_self h2, ← va_self h1]⟩
      refine ab_mqI cd_22 om_22 rfl (ab_sound ok_22 [] 80 ?_)
      (refine Exists.intro 0 ?_; refine ⟨0, _, Nat.zero_le _, Nat.zero_le _, k_isName T p _ _ hL hp rfl rfl, ?_⟩; refine ab_q1_elim ?_)
      refine And.intro (fun _ => ?_) (fun h_9 => absurd h_9 ((by rw [c1]; decide)))
      (refine Exists.intro 0 ?_; refine ⟨0, _, Nat.zero_le _, Nat.zero_le _, ce, ?_⟩; refine ab_q1_elim ?_)
      refine And.intro (fun _ => ?_) (fun h_9 => absurd (rfl) h_9)
      (refine Exists.intro 0 ?_; refine ⟨0, _, Nat.zero_le _, Nat.zero_le _, k_fail T p 3 _ _ rfl rfl rfl, ?_⟩; refine ab_q1_elim ?_)
      refine ⟨rfl, rfl, rfl, oWL (nI t) (b01 i) bw bt ht bu bl au al su sl, ⟨_, _, _, _, _, _, _, _, _, _, _, rfl⟩, ?_⟩
      rw [← va_self h4]
    · obtain ⟨y, hy⟩ := lo_some z3
      have y1 : soI (sLo S (tV T p)) = y.1 := by rw [hy]; rfl
      have y2 : soJ (sLo S (tV T p)) = y.2 := by rw [hy]; rfl
      have y3 : y.1 ≤ 2 := by have := (hS.2.2.2.2 _ y hy).2; omega
      obtain ⟨j, b1, b2, b3, ce⟩ := k_entryOf_y_59 (X := X) (l := l) (tV T p) w n ev hS hy h0 g1 g4
      rcases c with ⟨c2, rfl⟩ | ⟨c2, c⟩
      · obtain ⟨w, rfl⟩ : ∃ w0, w = va_up (va_up (va_up (va_up (va_up (va_up w0 61 (aI 24 fo)) 59 (oKit 59 (nI (sR S)) (nI (sW S)) (nI (sP S)) (nI (sN S)))) 4 (oWL (nI t) (b01 i) bw bt ht bu bl au al su sl)) 3 (oKR r1 r2 r3)) 2 (aI 640 (tB T))) 1 (oTk T p f) := ⟨w, by rw [← va_self g2, ← va_self h0, ← va_self h4, ← va_self h3, ← va_self h2, ← va_self h1]⟩
        refine ab_mqI cd_22 om_22 rfl (ab_sound ok_22 [] 80 ?_)
        (refine Exists.intro 0 ?_; refine ⟨0, _, Nat.zero_le _, Nat.zero_le _, k_isName T p _ _ hL hp rfl rfl, ?_⟩; refine ab_q1_elim ?_)
        refine And.intro (fun _ => ?_) (fun h_9 => absurd h_9 ((by rw [c1]; decide)))
        (refine Exists.intro 0 ?_; refine ⟨0, _, Nat.zero_le _, Nat.zero_le _, ce, ?_⟩; refine ab_q1_elim ?_)
        refine And.intro (fun h_9 => absurd h_9 ((nI_nn (by omega)))) (fun _ => ?_)
        refine And.intro (vp_in_nI b1 (by omega)) ?_
        rw [nI_clamp (by omega), b2]
        refine And.intro (fun h_9 => absurd ((by rw [show y.1 = 2 by omega])) h_9) (fun _ => ?_)
        (refine Exists.intro 0 ?_; refine ⟨0, _, Nat.zero_le _, Nat.zero_le _, k_fail T p 3 _ _ rfl rfl rfl, ?_⟩; refine ab_q1_elim ?_)
        refine ⟨rfl, rfl, rfl, oWL (nI t) (b01 i) bw bt ht bu bl au al su sl, ⟨_, _, _, _, _, _, _, _, _, _, _, rfl⟩, ?_⟩
        rw [← va_self h4]
      · have ho := bs_lo hS.2.2.2.2 c2
        have tb := bT_bd hS ho
        have hb := bH_bd hS ho
        have cs := k_stand_59 (X := X) (l := l) j (sLo S (tV T p)) w n hS b1 ho hC g2 g3 (by rw [b2, y1]) (by rw [b3, y2]) h4
        obtain ⟨w, rfl⟩ : ∃ w0, w = va_up (va_up (va_up (va_up (va_up (va_up w0 61 (aI 24 fo)) 59 (oKit 59 (nI (sR S)) (nI (sW S)) (nI (sP S)) (nI (sN S)))) 4 (oWL (nI t) (b01 i) bw bt ht bu bl au al su sl)) 3 (oKR r1 r2 r3)) 2 (aI 640 (tB T))) 1 (oTk T p f) := ⟨w, by rw [← va_self g2, ← va_self h0, ← va_self h4, ← va_self h3, ← va_self h2, ← va_self h1]⟩
        generalize ho9 : sLo S (tV T p) = o at *
        refine ab_mqI cd_22 om_22 rfl (ab_sound ok_22 [88] 80 ?_)
        (refine Exists.intro 0 ?_; refine ⟨0, _, Nat.zero_le _, Nat.zero_le _, k_isName T p _ _ hL hp rfl rfl, ?_⟩; refine ab_q1_elim ?_)
        refine And.intro (fun _ => ?_) (fun h_9 => absurd h_9 ((by rw [c1]; decide)))
        (refine Exists.intro 0 ?_; refine ⟨0, _, Nat.zero_le _, Nat.zero_le _, ce, ?_⟩; refine ab_q1_elim ?_)
        refine And.intro (fun h_9 => absurd h_9 ((nI_nn (by omega)))) (fun _ => ?_)
        refine And.intro (vp_in_nI b1 (by omega)) ?_
        rw [nI_clamp (by omega), b2]
        refine And.intro (fun _ => ?_) (fun h_9 => absurd h_9 ((fun z => by rw [nI_eq (by omega) (by omega)] at z; omega)))
        (refine Exists.intro 0 ?_; refine ⟨0, _, Nat.zero_le _, Nat.zero_le _, cs, ?_⟩; refine ab_q1_elim ?_)
        rcases c with ⟨⟨rfl, c3⟩, rfl⟩ | ⟨c3, c4, rfl⟩
        · refine And.intro (fun h_9 => absurd h_9 ((by decide))) (fun _ => ?_)
          refine And.intro (fun h_9 => absurd h_9 (nI_nlt c3 (by omega))) (fun _ => ?_)
          (refine Exists.intro 0 ?_; refine ⟨0, _, Nat.zero_le _, Nat.zero_le _, k_fail T p 2 _ _ rfl rfl rfl, ?_⟩; refine ab_q1_elim ?_)
          exact ⟨rfl, rfl, rfl, _, ⟨_, _, _, _, _, _, _, _, _, _, _, rfl⟩, rfl⟩
        · have at88 : ab_Ev X l i_KR_passBase 88 [some (.ref 3), some (.ref 1), some (.ref 59), some (.int (nI j))] [] (va_up (va_up (va_up (va_up (va_up (va_up (va_up w 61 (aI 24 fo)) 59 (oKit 59 (nI (sR S)) (nI (sW S)) (nI (sP S)) (nI (sN S)))) 4 (oWL (nI t) (b01 i) bw bt ht bu bl au al su sl)) 3 (oKR r1 r2 r3)) 2 (aI 640 (tB T))) 1 (oTk T p f)) 4 (oWL (nI t) (b01 i) (bsI o) (nI (bT S o)) (nI (bH S o)) (bU S o) (bL S o) au al su sl)) n 0 0 (qI (nI 0) (fun w' n' => n = n' ∧ ∃ c4, isWL c4 ∧ w' = va_up (va_up (va_up (va_up (va_up (va_up (va_up (va_up w 61 (aI 24 fo)) 59 (oKit 59 (nI (sR S)) (nI (sW S)) (nI (sP S)) (nI (sN S)))) 4 (oWL (nI t) (b01 i) bw bt ht bu bl au al su sl)) 3 (oKR r1 r2 r3)) 2 (aI 640 (tB T))) 1 (oTk T p f)) 4 c4) 3 (oKR (nI 4) (nI (tP T p)) r3))) := by
            refine ab_sound ok_22 [] 80 ?_
            refine And.intro (fun h_9 => absurd h_9 (nI_ge c4 (by omega))) (fun _ => ?_)
            (refine Exists.intro 0 ?_; refine ⟨0, _, Nat.zero_le _, Nat.zero_le _, k_fail T p 4 _ _ rfl rfl rfl, ?_⟩; refine ab_q1_elim ?_)
            exact ⟨rfl, rfl, rfl, _, ⟨_, _, _, _, _, _, _, _, _, _, _, rfl⟩, rfl⟩
          cases i
          · refine And.intro (fun _ => ?_) (fun h_9 => absurd (rfl) h_9)
            exact at88
          · refine And.intro (fun h_9 => absurd h_9 ((by decide))) (fun _ => ?_)
            refine And.intro (fun _ => ?_) (fun h_9 => absurd (nI_lt (by have : ¬ bT S o ≤ t := fun z => c3 ⟨rfl, z⟩; omega) (by omega)) h_9)
            exact at88
end BASE
