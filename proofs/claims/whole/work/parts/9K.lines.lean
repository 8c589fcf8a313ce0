/-! the lines of a kit's text, for the class: rings and pens -/
def FRd (q k : Nat) : Prop := k = 1 ∨ k = 3 ∨ k = 4 ∨ FKt q k
def RdI (w : ab_W) (q : Nat) (T : TE) (S : KS) (p : Nat) (r3 : Int32) : Prop := (∃ f, w 1 = oTk T p f) ∧ w 2 = aI 640 (tB T) ∧ (∃ r1 r2, w 3 = oKR r1 r2 r3 ∧ r1 = nI 0) ∧ isWL (w 4) ∧ CRd w q S
def RdS (w : ab_W) (q : Nat) (T : TE) : Prop := isTp T (w 1) ∧ w 2 = aI 640 (tB T) ∧ isWL (w 4) ∧ CSh w q
def rdQ (q : Nat) (T : TE) (w : ab_W) (n : Nat) (r3 : Int32) (o : Out) : ab_Q := fun v w' n' => ∃ b : Bool, v = some (.int (b01 b)) ∧ n = n' ∧ Fr (FRd q) w w' ∧ (∀ e, o = .inl e → b = false ∧ w' 3 = oKR (nI e.1) (nI e.2) r3 ∧ RdS w' q T) ∧ (∀ x, o = .inr x → b = true ∧ RdI w' q T x.2 x.1 r3)
theorem rdQ_l {q : Nat} {T : TE} {w w' : ab_W} {n k pl : Nat} {r3 : Int32} {o : Out} (ho : .inl (k, pl) = o) (hf : Fr (FRd q) w w') (h3 : w' 3 = oKR (nI k) (nI pl) r3) (hs : RdS w' q T) : rdQ q T w n r3 o (some (.int (nI 0))) w' n := by
  refine ⟨false, rfl, rfl, hf, fun e he => ?_, fun x hx => ?_⟩
  · have z : (k, pl) = e := Sum.inl.inj (ho.trans he)
    subst z
    exact ⟨rfl, h3, hs⟩
  · have z : (Sum.inl (k, pl) : Out) = .inr x := ho.trans hx
    cases z
theorem rdQ_r {q : Nat} {T : TE} {w w' : ab_W} {n p : Nat} {S : KS} {r3 : Int32} {o : Out} (ho : .inr (p, S) = o) (hf : Fr (FRd q) w w') (hs : RdI w' q T S p r3) : rdQ q T w n r3 o (some (.int (nI 1))) w' n := by
  refine ⟨true, rfl, rfl, hf, fun e he => ?_, fun x hx => ?_⟩
  · have z : (Sum.inr (p, S) : Out) = .inl e := ho.trans he
    cases z
  · have z : (p, S) = x := Sum.inr.inj (ho.trans hx)
    subst z
    exact ⟨rfl, hs⟩
theorem CRd.up {w : ab_W} {q k : Nat} {S : KS} {x : va_E} (h : CRd w q S) (hk : ¬ FKt q k) : CRd (va_up w k x) q S := h.fr (F := fun j => j = k) (fun j hj => va_un hj) (fun j hj => by rw [hj]; exact hk)
theorem CSh.up {w : ab_W} {q k : Nat} {x : va_E} (h : CSh w q) (hk : ¬ FKt q k) : CSh (va_up w k x) q := h.fr (F := fun j => j = k) (fun j hj => va_un hj) (fun j hj => by rw [hj]; exact hk)
theorem qWh_r {T : TE} {S : KS} {p q : Nat} (hp : p ≤ tL T) (h : qWh T S p = .inr q) : q = tX T p ∧ tkN T p = true ∧ soI (sLo S (tV T p)) = 1 ∧ q ≤ tL T ∧ tK T p = 2 := by
  unfold qWh at h
  by_cases c : tkN T p = true
  · rw [if_pos c] at h
    by_cases d : soI (sLo S (tV T p)) = 1
    · rw [if_pos d] at h
      have e : tX T p = q := Sum.inr.inj h
      have k := tkN_k c
      have g := tX_le hp (by omega) (by omega)
      exact ⟨e.symm, c, d, by omega, k⟩
    · rw [if_neg d] at h; cases h
  · rw [if_neg c] at h; cases h
theorem qWh_l {T : TE} {S : KS} {p k pl : Nat} (h : qWh T S p = .inl (k, pl)) : pl = tP T p ∧ ((tkN T p = false ∧ k = 1) ∨ (tkN T p = true ∧ soI (sLo S (tV T p)) ≠ 1 ∧ k = 3)) := by
  unfold qWh at h
  by_cases c : tkN T p = true
  · rw [if_pos c] at h
    by_cases d : soI (sLo S (tV T p)) = 1
    · rw [if_pos d] at h; cases h
    · rw [if_neg d] at h
      obtain ⟨e1, e2⟩ := inlE h
      exact ⟨e2.symm, Or.inr ⟨c, d, e1.symm⟩⟩
  · rw [if_neg c] at h
    obtain ⟨e1, e2⟩ := inlE h
    exact ⟨e2.symm, Or.inl ⟨Bool.eq_false_iff.mpr c, e1.symm⟩⟩
section LINES
variable {X : ab_X} {l : Launch}
theorem n1_44 : ¬ FKt 44 1 := by unfold FKt; omega
theorem n3_44 : ¬ FKt 44 3 := by unfold FKt; omega
theorem n4_44 : ¬ FKt 44 4 := by unfold FKt; omega
theorem k_readRing_44 (T : TE) (p : Nat) (w : ab_W) (n : Nat) {S : KS} {r3 : Int32} (hk : tkW T p 0 = true) (hS : KSok S) (hL : tL T ≤ 640) (hp : p ≤ tL T) (h : RdI w 44 T S p r3) : ab_C X l i_KR_readRing [.ref 3, .ref 1, .ref 44] w n 0 0 (rdQ 44 T w n r3 (rdR T S p)) := by
  obtain ⟨⟨f, h1⟩, h2, ⟨r1, r2, h3, hr1⟩, h4, hC⟩ := h
  have h0 := hC.1
  have kk := (tkW_k hk).1
  have k1 := (tX_le hp (by omega) (by omega)).2
  have hr := hS.1
  obtain ⟨w, rfl⟩ := va_ex4 h1 h2 h3 h0
  have h4 : isWL (w 4) := h4
  generalize hO : rdR T S p = O
  unfold rdR at hO
  refine ab_met cd_14 om_14 rfl (by rintro _ _ _ ⟨b, rfl, -⟩; trivial) (ab_sound ok_14 [] 80 ?_)
  by_cases c : 4 ≤ sR S
  · refine And.intro (fun h_9 => absurd h_9 (nI_nlt c (by omega))) (fun _ => ?_)
    (refine Exists.intro 0 ?_; refine ⟨0, _, Nat.zero_le _, Nat.zero_le _, k_fail T p 4 _ _ rfl rfl rfl, ?_⟩; refine ab_q1_elim ?_)
    rw [if_pos c] at hO
    exact ⟨rfl, rdQ_l hO (Fr.refl.up (by unfold FRd FKt; omega)) rfl ⟨tk_isTp, rfl, h4, (hC.up n3_44).sh⟩⟩
  · refine And.intro (fun _ => ?_) (fun h_9 => absurd (nI_lt (by omega) (by omega)) h_9)
    rw [if_neg c] at hO
    (refine Exists.intro 0 ?_; refine ⟨0, _, Nat.zero_le _, Nat.zero_le _, k_adv T p _ _ hL hp (by omega) (by omega) rfl rfl, ?_⟩; refine ab_q1_elim ?_)
    have hC1 := hC.up (x := oTk T (tX T p) (cV T p f)) n1_44
    cases e1 : qNew T S (tX T p) with
    | inl e =>
      obtain ⟨k, pl⟩ := e
      rw [bnd_l e1] at hO
      (refine Exists.intro 0 ?_; refine ⟨0, _, Nat.zero_le _, Nat.zero_le _, k_passNewName_n_44 T (tX T p) k pl _ _ e1 hS hL k1 rfl rfl rfl hC1, ?_⟩; refine ab_q1_elim ?_)
      refine And.intro (fun h_9 => absurd (rfl) h_9) (fun _ => ?_)
      exact ⟨rfl, rdQ_l hO ((Fr.refl.up (by unfold FRd FKt; omega)).up (by unfold FRd FKt; omega)) rfl ⟨tk_isTp, rfl, h4, (hC1.up n3_44).sh⟩⟩
    | inr p2 =>
      rw [bnd_r e1] at hO
      obtain ⟨a1, a2, a3, a4, a5⟩ := qNew_r k1 e1
      (refine Exists.intro 0 ?_; refine ⟨0, _, Nat.zero_le _, Nat.zero_le _, k_passNewName_y_44 T (tX T p) p2 _ _ e1 hS hL k1 rfl rfl rfl hC1, ?_⟩; refine ab_q1_elim ?_)
      refine And.intro (fun _ => ?_) (fun h_9 => absurd h_9 ((by decide)))
      have hC2 := hC1.up (x := oTk T p2 (cV T (tX T p) (cV T p f))) n1_44
      cases e2 : qNum T 3 200 p2 with
      | inl e =>
        obtain ⟨k, pl⟩ := e
        rw [bnd_l e2] at hO
        (refine Exists.intro 0 ?_; refine ⟨0, _, Nat.zero_le _, Nat.zero_le _, k_passNumber_n T 3 200 p2 k pl _ _ e2 rfl rfl (by omega) (by omega) a4 rfl rfl, ?_⟩; refine ab_q1_elim ?_)
        refine And.intro (fun _ => ?_) (fun h_9 => absurd (rfl) h_9)
        exact ⟨rfl, rdQ_l hO (((Fr.refl.up (by unfold FRd FKt; omega)).up (by unfold FRd FKt; omega)).up (by unfold FRd FKt; omega)) rfl ⟨tk_isTp, rfl, h4, (hC2.up n3_44).sh⟩⟩
      | inr p3 =>
        rw [bnd_r e2] at hO
        obtain ⟨b1, b2, b3, b4, b5⟩ := qNum_r a4 e2
        (refine Exists.intro 0 ?_; refine ⟨0, _, Nat.zero_le _, Nat.zero_le _, k_passNumber_y T 3 200 p2 p3 _ _ e2 rfl rfl (by omega) (by omega) hL a4 rfl rfl rfl, ?_⟩; refine ab_q1_elim ?_)
        refine And.intro (fun h_9 => absurd h_9 ((by decide))) (fun _ => ?_)
        have hC3 := hC2.up (x := oTk T p3 (cV T p2 (cV T (tX T p) (cV T p f)))) n1_44
        cases e3 : qSig T 59 p3 with
        | inl e =>
          obtain ⟨k, pl⟩ := e
          rw [bnd_l e3] at hO
          (refine Exists.intro 0 ?_; refine ⟨0, _, Nat.zero_le _, Nat.zero_le _, k_passSign_n T 59 p3 k pl _ _ e3 rfl (by omega) b5 rfl rfl, ?_⟩; refine ab_q1_elim ?_)
          refine And.intro (fun h_9 => absurd (rfl) h_9) (fun _ => ?_)
          exact ⟨rfl, rdQ_l hO ((((Fr.refl.up (by unfold FRd FKt; omega)).up (by unfold FRd FKt; omega)).up (by unfold FRd FKt; omega)).up (by unfold FRd FKt; omega)) rfl ⟨tk_isTp, rfl, h4, (hC3.up n3_44).sh⟩⟩
        | inr p4 =>
          rw [bnd_r e3] at hO
          (refine Exists.intro 0 ?_; refine ⟨0, _, Nat.zero_le _, Nat.zero_le _, k_passSign_y T 59 p3 p4 _ _ e3 rfl (by omega) hL b5 rfl rfl rfl, ?_⟩; refine ab_q1_elim ?_)
          refine And.intro (fun _ => ?_) (fun h_9 => absurd h_9 ((by decide)))
          have hC4 := hC3.up (x := oTk T p4 (cV T p3 (cV T p2 (cV T (tX T p) (cV T p f))))) n1_44
          have v1 : cV T (tX T p) (cV T p f) = nI (tV T (tX T p)) := cV_eq k1 (by omega) (by omega)
          have v2 : cV T p2 (cV T (tX T p) (cV T p f)) = nI (tV T p2) := cV_eq a4 (by omega) (by omega)
          (refine Exists.intro 0 ?_; refine ⟨0, _, Nat.zero_le _, Nat.zero_le _, k_Kit_addRing_44 (tV T (tX T p)) (tV T p2) _ _ v1 v2 hS ((lo_none hS.2.2.2.2).mp a3) (by omega) hC4, ?_⟩; rintro _ w1 _ ⟨rfl, rfl, f1, hC5⟩)
          have f2 := f1.mono (G := FRd 44) (fun k hk => Or.inr (Or.inr (Or.inr hk)))
          exact ⟨rfl, rdQ_r hO (((((Fr.refl.up (by unfold FRd FKt; omega)).up (by unfold FRd FKt; omega)).up (by unfold FRd FKt; omega)).up (by unfold FRd FKt; omega)).trans f2) ⟨⟨_, f1.get rfl n1_44⟩, f1.get rfl (by unfold FKt; omega), ⟨r1, r2, f1.get rfl n3_44, hr1⟩, by rw [f1 4 n4_44]; exact h4, hC5⟩⟩
theorem k_readPen_44 (T : TE) (p : Nat) (w : ab_W) (n : Nat) {S : KS} {r3 : Int32} (hk : tkW T p 2 = true) (hS : KSok S) (hL : tL T ≤ 640) (hp : p ≤ tL T) (h : RdI w 44 T S p r3) : ab_C X l i_KR_readPen [.ref 3, .ref 1, .ref 44] w n 0 0 (rdQ 44 T w n r3 (rdP T S p)) := by
  obtain ⟨⟨f, h1⟩, h2, ⟨r1, r2, h3, hr1⟩, h4, hC⟩ := h
  have h0 := hC.1
  have kk := (tkW_k hk).1
  have k1 := (tX_le hp (by omega) (by omega)).2
  have hr := hS.1
  have hCC := hC
  obtain ⟨-, ⟨fn, fo, fu, g1, g2, g3, g4⟩, -⟩ := hCC
  obtain ⟨w, rfl⟩ : ∃ w0, w = va_up (va_up (va_up (va_up (va_up (va_up w0 47 (aI 24 fu)) 46 (aI 24 fo)) 44 (oKit 44 (nI (sR S)) (nI (sW S)) (nI (sP S)) (nI (sN S)))) 3 (oKR r1 r2 r3)) 2 (aI 640 (tB T))) 1 (oTk T p f) := ⟨w, by rw [← va_self g3, ← va_self g2, ← va_self h0, ← va_self h3, ← va_self h2, ← va_self h1]⟩
  have h4 : isWL (w 4) := h4
  have g1 : w 45 = aI 24 fn := g1
  generalize hO : rdP T S p = O
  unfold rdP at hO
  refine ab_met cd_25 om_25 rfl (by rintro _ _ _ ⟨b, rfl, -⟩; trivial) (ab_sound ok_25 [77] 120 ?_)
  by_cases c : 8 ≤ sP S
  · refine And.intro (fun h_9 => absurd h_9 (nI_nlt c (by omega))) (fun _ => ?_)
    (refine Exists.intro 0 ?_; refine ⟨0, _, Nat.zero_le _, Nat.zero_le _, k_fail T p 4 _ _ rfl rfl rfl, ?_⟩; refine ab_q1_elim ?_)
    rw [if_pos c] at hO
    exact ⟨rfl, rdQ_l hO (Fr.refl.up (by unfold FRd FKt; omega)) rfl ⟨tk_isTp, rfl, h4, (hC.up n3_44).sh⟩⟩
  · refine And.intro (fun _ => ?_) (fun h_9 => absurd (nI_lt (by omega) (by omega)) h_9)
    rw [if_neg c] at hO
    (refine Exists.intro 0 ?_; refine ⟨0, _, Nat.zero_le _, Nat.zero_le _, k_adv T p _ _ hL hp (by omega) (by omega) rfl rfl, ?_⟩; refine ab_q1_elim ?_)
    have hC1 := hC.up (x := oTk T (tX T p) (cV T p f)) n1_44
    cases e1 : qNew T S (tX T p) with
    | inl e =>
      obtain ⟨k, pl⟩ := e
      rw [bnd_l e1] at hO
      (refine Exists.intro 0 ?_; refine ⟨0, _, Nat.zero_le _, Nat.zero_le _, k_passNewName_n_44 T (tX T p) k pl _ _ e1 hS hL k1 rfl rfl rfl hC1, ?_⟩; refine ab_q1_elim ?_)
      refine And.intro (fun h_9 => absurd (rfl) h_9) (fun _ => ?_)
      exact ⟨rfl, rdQ_l hO ((Fr.refl.up (by unfold FRd FKt; omega)).up (by unfold FRd FKt; omega)) rfl ⟨tk_isTp, rfl, h4, (hC1.up n3_44).sh⟩⟩
    | inr p2 =>
      rw [bnd_r e1] at hO
      obtain ⟨a1, a2, a3, a4, a5⟩ := qNew_r k1 e1
      (refine Exists.intro 0 ?_; refine ⟨0, _, Nat.zero_le _, Nat.zero_le _, k_passNewName_y_44 T (tX T p) p2 _ _ e1 hS hL k1 rfl rfl rfl hC1, ?_⟩; refine ab_q1_elim ?_)
      refine And.intro (fun _ => ?_) (fun h_9 => absurd h_9 ((by decide)))
      have hC2 := hC1.up (x := oTk T p2 (cV T (tX T p) (cV T p f))) n1_44
      (refine Exists.intro 0 ?_; refine ⟨0, _, Nat.zero_le _, Nat.zero_le _, k_isName T p2 _ _ hL a4 rfl rfl, ?_⟩; refine ab_q1_elim ?_)
      cases e2 : qWh T S p2 with
      | inl e =>
        obtain ⟨k, pl⟩ := e
        rw [bnd_l e2] at hO
        obtain ⟨rfl, q⟩ := qWh_l e2
        rcases q with ⟨q1, rfl⟩ | ⟨q1, q2, rfl⟩
        · refine And.intro (fun h_9 => absurd ((by rw [q1]; rfl)) h_9) (fun _ => ?_)
          (refine Exists.intro 0 ?_; refine ⟨0, _, Nat.zero_le _, Nat.zero_le _, k_fail T p2 1 _ _ rfl rfl rfl, ?_⟩; refine ab_q1_elim ?_)
          exact ⟨rfl, rdQ_l hO (((Fr.refl.up (by unfold FRd FKt; omega)).up (by unfold FRd FKt; omega)).up (by unfold FRd FKt; omega)) rfl ⟨tk_isTp, rfl, h4, (hC2.up n3_44).sh⟩⟩
        · refine And.intro (fun _ => ?_) (fun h_9 => absurd h_9 ((by rw [q1]; decide)))
          have ev : cV T p2 (cV T (tX T p) (cV T p f)) = nI (tV T p2) := cV_eq a4 (by have := tkN_k q1; omega) (by have := tkN_k q1; omega)
          have at77 : ∀ x4 : Option Value, ab_Ev X l i_KR_readPen 77 [some (.ref 3), some (.ref 1), some (.ref 44), some (.int (cV T (tX T p) (cV T p f))), x4, none, none] [] (va_up (va_up (va_up (va_up (va_up (va_up (va_up (va_up w 47 (aI 24 fu)) 46 (aI 24 fo)) 44 (oKit 44 (nI (sR S)) (nI (sW S)) (nI (sP S)) (nI (sN S)))) 3 (oKR r1 r2 r3)) 2 (aI 640 (tB T))) 1 (oTk T p f)) 1 (oTk T (tX T p) (cV T p f))) 1 (oTk T p2 (cV T (tX T p) (cV T p f)))) n 0 0 (rdQ 44 T (va_up (va_up (va_up (va_up (va_up (va_up w 47 (aI 24 fu)) 46 (aI 24 fo)) 44 (oKit 44 (nI (sR S)) (nI (sW S)) (nI (sP S)) (nI (sN S)))) 3 (oKR r1 r2 r3)) 2 (aI 640 (tB T))) 1 (oTk T p f)) n r3 O) := by
            intro x4
            refine ab_sound ok_25 [] 80 ?_
            (refine Exists.intro 0 ?_; refine ⟨0, _, Nat.zero_le _, Nat.zero_le _, k_fail T p2 3 _ _ rfl rfl rfl, ?_⟩; refine ab_q1_elim ?_)
            exact ⟨rfl, rdQ_l hO (((Fr.refl.up (by unfold FRd FKt; omega)).up (by unfold FRd FKt; omega)).up (by unfold FRd FKt; omega)) rfl ⟨tk_isTp, rfl, h4, (hC2.up n3_44).sh⟩⟩
          by_cases z3 : soI (sLo S (tV T p2)) = 3
          · (refine Exists.intro 0 ?_; refine ⟨0, _, Nat.zero_le _, Nat.zero_le _, k_entryOf_n_44 (tV T p2) _ _ ev hS (tk_vd a4 (tkN_k q1)) ((lo_none hS.2.2.2.2).mp z3) rfl g1 g4, ?_⟩; refine ab_q1_elim ?_)
            refine And.intro (fun _ => ?_) (fun h_9 => absurd (rfl) h_9)
            exact at77 _
          · obtain ⟨y, hy⟩ := lo_some z3
            have y1 : soI (sLo S (tV T p2)) = y.1 := by rw [hy]; rfl
            have y3 : y.1 ≤ 2 := by have := (hS.2.2.2.2 _ y hy).2; omega
            obtain ⟨j, b1, b2, b3, ce⟩ := k_entryOf_y_44 (X := X) (l := l) (tV T p2) (va_up (va_up (va_up (va_up (va_up (va_up (va_up (va_up w 47 (aI 24 fu)) 46 (aI 24 fo)) 44 (oKit 44 (nI (sR S)) (nI (sW S)) (nI (sP S)) (nI (sN S)))) 3 (oKR r1 r2 r3)) 2 (aI 640 (tB T))) 1 (oTk T p f)) 1 (oTk T (tX T p) (cV T p f))) 1 (oTk T p2 (cV T (tX T p) (cV T p f)))) n ev hS hy rfl g1 g4
            (refine Exists.intro 0 ?_; refine ⟨0, _, Nat.zero_le _, Nat.zero_le _, ce, ?_⟩; refine ab_q1_elim ?_)
            refine And.intro (fun h_9 => absurd h_9 ((nI_nn (by omega)))) (fun _ => ?_)
            refine And.intro (vp_in_nI b1 (by omega)) ?_
            rw [nI_clamp (by omega), b2]
            refine And.intro (fun h_9 => absurd h_9 ((fun z => by rw [nI_eq (by omega) (by omega)] at z; omega))) (fun _ => ?_)
            exact at77 _
      | inr p3 =>
        rw [bnd_r e2] at hO
        obtain ⟨b1, b2, b3, b4, b5⟩ := qWh_r a4 e2
        refine And.intro (fun _ => ?_) (fun h_9 => absurd h_9 ((by rw [b2]; decide)))
        have ev : cV T p2 (cV T (tX T p) (cV T p f)) = nI (tV T p2) := cV_eq a4 (by omega) (by omega)
        obtain ⟨y, hy⟩ := lo_some (S := S) (c := tV T p2) (by omega)
        have y1 : soI (sLo S (tV T p2)) = y.1 := by rw [hy]; rfl
        have y2 : soJ (sLo S (tV T p2)) = y.2 := by rw [hy]; rfl
        obtain ⟨j, d1, d2, d3, ce⟩ := k_entryOf_y_44 (X := X) (l := l) (tV T p2) (va_up (va_up (va_up (va_up (va_up (va_up (va_up (va_up w 47 (aI 24 fu)) 46 (aI 24 fo)) 44 (oKit 44 (nI (sR S)) (nI (sW S)) (nI (sP S)) (nI (sN S)))) 3 (oKR r1 r2 r3)) 2 (aI 640 (tB T))) 1 (oTk T p f)) 1 (oTk T (tX T p) (cV T p f))) 1 (oTk T p2 (cV T (tX T p) (cV T p f)))) n ev hS hy rfl g1 g4
        (refine Exists.intro 0 ?_; refine ⟨0, _, Nat.zero_le _, Nat.zero_le _, ce, ?_⟩; refine ab_q1_elim ?_)
        refine And.intro (fun h_9 => absurd h_9 ((nI_nn (by omega)))) (fun _ => ?_)
        refine And.intro (vp_in_nI d1 (by omega)) ?_
        rw [nI_clamp (by omega), d2]
        refine And.intro (fun _ => ?_) (fun h_9 => absurd ((by rw [← y1, b3])) h_9)
        (refine Exists.intro 0 ?_; refine ⟨0, _, Nat.zero_le _, Nat.zero_le _, k_adv T p2 _ _ hL a4 (by omega) (by omega) rfl rfl, ?_⟩; refine ab_q1_elim ?_)
        rw [← b1]
        (refine Exists.intro 0 ?_; refine ⟨0, _, Nat.zero_le _, Nat.zero_le _, k_passMinus T p3 _ _ hL b4 rfl rfl, ?_⟩; refine ab_q1_elim ?_)
        have m4 := qMin_le b4
        have hC4 := (hC2.up (x := oTk T p3 (cV T p2 (cV T (tX T p) (cV T p f)))) n1_44).up (x := oTk T (qMin T p3) (vMin T p3 (cV T p2 (cV T (tX T p) (cV T p f))))) n1_44
        cases e3 : qNum T 0 200 (qMin T p3) with
        | inl e =>
          obtain ⟨k, pl⟩ := e
          rw [bnd_l e3] at hO
          (refine Exists.intro 0 ?_; refine ⟨0, _, Nat.zero_le _, Nat.zero_le _, k_passNumber_n T 0 200 (qMin T p3) k pl _ _ e3 rfl rfl (by omega) (by omega) m4 rfl rfl, ?_⟩; refine ab_q1_elim ?_)
          refine And.intro (fun _ => ?_) (fun h_9 => absurd (rfl) h_9)
          exact ⟨rfl, rdQ_l hO (((((Fr.refl.up (by unfold FRd FKt; omega)).up (by unfold FRd FKt; omega)).up (by unfold FRd FKt; omega)).up (by unfold FRd FKt; omega)).up (by unfold FRd FKt; omega)) rfl ⟨tk_isTp, rfl, h4, (hC4.up n3_44).sh⟩⟩
        | inr p4 =>
          rw [bnd_r e3] at hO
          obtain ⟨c1, c2, c3, c4, c5⟩ := qNum_r m4 e3
          (refine Exists.intro 0 ?_; refine ⟨0, _, Nat.zero_le _, Nat.zero_le _, k_passNumber_y T 0 200 (qMin T p3) p4 _ _ e3 rfl rfl (by omega) (by omega) hL m4 rfl rfl rfl, ?_⟩; refine ab_q1_elim ?_)
          refine And.intro (fun h_9 => absurd h_9 ((by decide))) (fun _ => ?_)
          have hC5 := hC4.up (x := oTk T p4 (cV T (qMin T p3) (vMin T p3 (cV T p2 (cV T (tX T p) (cV T p f)))))) n1_44
          cases e4 : qSig T 59 p4 with
          | inl e =>
            obtain ⟨k, pl⟩ := e
            rw [bnd_l e4] at hO
            (refine Exists.intro 0 ?_; refine ⟨0, _, Nat.zero_le _, Nat.zero_le _, k_passSign_n T 59 p4 k pl _ _ e4 rfl (by omega) c5 rfl rfl, ?_⟩; refine ab_q1_elim ?_)
            refine And.intro (fun h_9 => absurd (rfl) h_9) (fun _ => ?_)
            exact ⟨rfl, rdQ_l hO ((((((Fr.refl.up (by unfold FRd FKt; omega)).up (by unfold FRd FKt; omega)).up (by unfold FRd FKt; omega)).up (by unfold FRd FKt; omega)).up (by unfold FRd FKt; omega)).up (by unfold FRd FKt; omega)) rfl ⟨tk_isTp, rfl, h4, (hC5.up n3_44).sh⟩⟩
          | inr p5 =>
            rw [bnd_r e4] at hO
            (refine Exists.intro 0 ?_; refine ⟨0, _, Nat.zero_le _, Nat.zero_le _, k_passSign_y T 59 p4 p5 _ _ e4 rfl (by omega) hL c5 rfl rfl rfl, ?_⟩; refine ab_q1_elim ?_)
            refine And.intro (fun _ => ?_) (fun h_9 => absurd h_9 ((by decide)))
            have hC6 := hC5.up (x := oTk T p5 (cV T p4 (cV T (qMin T p3) (vMin T p3 (cV T p2 (cV T (tX T p) (cV T p f))))))) n1_44
            have v1 : cV T (tX T p) (cV T p f) = nI (tV T (tX T p)) := cV_eq k1 (by omega) (by omega)
            have v2 : cV T (qMin T p3) (vMin T p3 (cV T p2 (cV T (tX T p) (cV T p f)))) = nI (tV T (qMin T p3)) := cV_eq m4 (by omega) (by omega)
            refine And.intro (vp_in_nI d1 (by omega)) ?_
            rw [nI_clamp (by omega), d3, ← y2]
            rw [v2]
            cases cs : tkS T p3 45
            · refine And.intro (fun _ => ?_) (fun h_9 => absurd (rfl) h_9)
              (refine Exists.intro 0 ?_; refine ⟨0, _, Nat.zero_le _, Nat.zero_le _, k_Kit_addPen_44 (tV T (tX T p)) (soJ (sLo S (tV T p2))) (sgI (tkS T p3 45) (tV T (qMin T p3))) _ _ v1 rfl (by rw [← sgI_32, cs, if_neg (by decide)]) hS ((lo_none hS.2.2.2.2).mp a3) (by omega) hC6, ?_⟩; rintro _ w1 _ ⟨rfl, rfl, f1, hC7⟩)
              have f2 := f1.mono (G := FRd 44) (fun k hk => Or.inr (Or.inr (Or.inr hk)))
              exact ⟨rfl, rdQ_r hO (((((((Fr.refl.up (by unfold FRd FKt; omega)).up (by unfold FRd FKt; omega)).up (by unfold FRd FKt; omega)).up (by unfold FRd FKt; omega)).up (by unfold FRd FKt; omega)).up (by unfold FRd FKt; omega)).trans f2) ⟨⟨_, f1.get rfl n1_44⟩, f1.get rfl (by unfold FKt; omega), ⟨r1, r2, f1.get rfl n3_44, hr1⟩, by rw [f1 4 n4_44]; exact h4, hC7⟩⟩
            · refine And.intro (fun h_9 => absurd h_9 ((by decide))) (fun _ => ?_)
              (refine Exists.intro 0 ?_; refine ⟨0, _, Nat.zero_le _, Nat.zero_le _, k_Kit_addPen_44 (tV T (tX T p)) (soJ (sLo S (tV T p2))) (sgI (tkS T p3 45) (tV T (qMin T p3))) _ _ v1 rfl (by rw [← sgI_32, cs, if_pos rfl]) hS ((lo_none hS.2.2.2.2).mp a3) (by omega) hC6, ?_⟩; rintro _ w1 _ ⟨rfl, rfl, f1, hC7⟩)
              have f2 := f1.mono (G := FRd 44) (fun k hk => Or.inr (Or.inr (Or.inr hk)))
              exact ⟨rfl, rdQ_r hO (((((((Fr.refl.up (by unfold FRd FKt; omega)).up (by unfold FRd FKt; omega)).up (by unfold FRd FKt; omega)).up (by unfold FRd FKt; omega)).up (by unfold FRd FKt; omega)).up (by unfold FRd FKt; omega)).trans f2) ⟨⟨_, f1.get rfl n1_44⟩, f1.get rfl (by unfold FKt; omega), ⟨r1, r2, f1.get rfl n3_44, hr1⟩, by rw [f1 4 n4_44]; exact h4, hC7⟩⟩
theorem n1_59 : ¬ FKt 59 1 := by unfold FKt; omega
theorem n3_59 : ¬ FKt 59 3 := by unfold FKt; omega
theorem n4_59 : ¬ FKt 59 4 := by unfold FKt; omega
theorem k_readRing_59 (T : TE) (p : Nat) (w : ab_W) (n : Nat) {S : KS} {r3 : Int32} (hk : tkW T p 0 = true) (hS : KSok S) (hL : tL T ≤ 640) (hp : p ≤ tL T) (h : RdI w 59 T S p r3) : ab_C X l i_KR_readRing [.ref 3, .ref 1, .ref 59] w n 0 0 (rdQ 59 T w n r3 (rdR T S p)) := by
  obtain ⟨⟨f, h1⟩, h2, ⟨r1, r2, h3, hr1⟩, h4, hC⟩ := h
  have h0 := hC.1
  have kk := (tkW_k hk).1
  have k1 := (tX_le hp (by omega) (by omega)).2
  have hr := hS.1
  obtain ⟨w, rfl⟩ := va_ex4 h1 h2 h3 h0
  have h4 : isWL (w 4) := h4
  generalize hO : rdR T S p = O
  unfold rdR at hO
  refine ab_met cd_14 om_14 rfl (by rintro _ _ _ ⟨b, rfl, -⟩; trivial) (ab_sound ok_14 [] 80 ?_)
  by_cases c : 4 ≤ sR S
  · refine And.intro (fun h_9 => absurd h_9 (nI_nlt c (by omega))) (fun _ => ?_)
    (refine Exists.intro 0 ?_; refine ⟨0, _, Nat.zero_le _, Nat.zero_le _, k_fail T p 4 _ _ rfl rfl rfl, ?_⟩; refine ab_q1_elim ?_)
    rw [if_pos c] at hO
    exact ⟨rfl, rdQ_l hO (Fr.refl.up (by unfold FRd FKt; omega)) rfl ⟨tk_isTp, rfl, h4, (hC.up n3_59).sh⟩⟩
  · refine And.intro (fun _ => ?_) (fun h_9 => absurd (nI_lt (by omega) (by omega)) h_9)
    rw [if_neg c] at hO
    (refine Exists.intro 0 ?_; refine ⟨0, _, Nat.zero_le _, Nat.zero_le _, k_adv T p _ _ hL hp (by omega) (by omega) rfl rfl, ?_⟩; refine ab_q1_elim ?_)
    have hC1 := hC.up (x := oTk T (tX T p) (cV T p f)) n1_59
    cases e1 : qNew T S (tX T p) with
    | inl e =>
      obtain ⟨k, pl⟩ := e
      rw [bnd_l e1] at hO
      (refine Exists.intro 0 ?_; refine ⟨0, _, Nat.zero_le _, Nat.zero_le _, k_passNewName_n_59 T (tX T p) k pl _ _ e1 hS hL k1 rfl rfl rfl hC1, ?_⟩; refine ab_q1_elim ?_)
      refine And.intro (fun h_9 => absurd (rfl) h_9) (fun _ => ?_)
      exact ⟨rfl, rdQ_l hO ((Fr.refl.up (by unfold FRd FKt; omega)).up (by unfold FRd FKt; omega)) rfl ⟨tk_isTp, rfl, h4, (hC1.up n3_59).sh⟩⟩
    | inr p2 =>
      rw [bnd_r e1] at hO
      obtain ⟨a1, a2, a3, a4, a5⟩ := qNew_r k1 e1
      (refine Exists.intro 0 ?_; refine ⟨0, _, Nat.zero_le _, Nat.zero_le _, k_passNewName_y_59 T (tX T p) p2 _ _ e1 hS hL k1 rfl rfl rfl hC1, ?_⟩; refine ab_q1_elim ?_)
      refine And.intro (fun _ => ?_) (fun h_9 => absurd h_9 ((by decide)))
      have hC2 := hC1.up (x := oTk T p2 (cV T (tX T p) (cV T p f))) n1_59
      cases e2 : qNum T 3 200 p2 with
      | inl e =>
        obtain ⟨k, pl⟩ := e
        rw [bnd_l e2] at hO
        (refine Exists.intro 0 ?_; refine ⟨0, _, Nat.zero_le _, Nat.zero_le _, k_passNumber_n T 3 200 p2 k pl _ _ e2 rfl rfl (by omega) (by omega) a4 rfl rfl, ?_⟩; refine ab_q1_elim ?_)
        refine And.intro (fun _ => ?_) (fun h_9 => absurd (rfl) h_9)
        exact ⟨rfl, rdQ_l hO (((Fr.refl.up (by unfold FRd FKt; omega)).up (by unfold FRd FKt; omega)).up (by unfold FRd FKt; omega)) rfl ⟨tk_isTp, rfl, h4, (hC2.up n3_59).sh⟩⟩
      | inr p3 =>
        rw [bnd_r e2] at hO
        obtain ⟨b1, b2, b3, b4, b5⟩ := qNum_r a4 e2
        (refine Exists.intro 0 ?_; refine ⟨0, _, Nat.zero_le _, Nat.zero_le _, k_passNumber_y T 3 200 p2 p3 _ _ e2 rfl rfl (by omega) (by omega) hL a4 rfl rfl rfl, ?_⟩; refine ab_q1_elim ?_)
        refine And.intro (fun h_9 => absurd h_9 ((by decide))) (fun _ => ?_)
        have hC3 := hC2.up (x := oTk T p3 (cV T p2 (cV T (tX T p) (cV T p f)))) n1_59
        cases e3 : qSig T 59 p3 with
        | inl e =>
          obtain ⟨k, pl⟩ := e
          rw [bnd_l e3] at hO
          (refine Exists.intro 0 ?_; refine ⟨0, _, Nat.zero_le _, Nat.zero_le _, k_passSign_n T 59 p3 k pl _ _ e3 rfl (by omega) b5 rfl rfl, ?_⟩; refine ab_q1_elim ?_)
          refine And.intro (fun h_9 => absurd (rfl) h_9) (fun _ => ?_)
          exact ⟨rfl, rdQ_l hO ((((Fr.refl.up (by unfold FRd FKt; omega)).up (by unfold FRd FKt; omega)).up (by unfold FRd FKt; omega)).up (by unfold FRd FKt; omega)) rfl ⟨tk_isTp, rfl, h4, (hC3.up n3_59).sh⟩⟩
        | inr p4 =>
          rw [bnd_r e3] at hO
          (refine Exists.intro 0 ?_; refine ⟨0, _, Nat.zero_le _, Nat.zero_le _, k_passSign_y T 59 p3 p4 _ _ e3 rfl (by omega) hL b5 rfl rfl rfl, ?_⟩; refine ab_q1_elim ?_)
          refine And.intro (fun _ => ?_) (fun h_9 => absurd h_9 ((by decide)))
          have hC4 := hC3.up (x := oTk T p4 (cV T p3 (cV T p2 (cV T (tX T p) (cV T p f))))) n1_59
          have v1 : cV T (tX T p) (cV T p f) = nI (tV T (tX T p)) := cV_eq k1 (by omega) (by omega)
          have v2 : cV T p2 (cV T (tX T p) (cV T p f)) = nI (tV T p2) := cV_eq a4 (by omega) (by omega)
          (refine Exists.intro 0 ?_; refine ⟨0, _, Nat.zero_le _, Nat.zero_le _, k_Kit_addRing_59 (tV T (tX T p)) (tV T p2) _ _ v1 v2 hS ((lo_none hS.2.2.2.2).mp a3) (by omega) hC4, ?_⟩; rintro _ w1 _ ⟨rfl, rfl, f1, hC5⟩)
          have f2 := f1.mono (G := FRd 59) (fun k hk => Or.inr (Or.inr (Or.inr hk)))
          exact ⟨rfl, rdQ_r hO (((((Fr.refl.up (by unfold FRd FKt; omega)).up (by unfold FRd FKt; omega)).up (by unfold FRd FKt; omega)).up (by unfold FRd FKt; omega)).trans f2) ⟨⟨_, f1.get rfl n1_59⟩, f1.get rfl (by unfold FKt; omega), ⟨r1, r2, f1.get rfl n3_59, hr1⟩, by rw [f1 4 n4_59]; exact h4, hC5⟩⟩
theorem k_readPen_59 (T : TE) (p : Nat) (w : ab_W) (n : Nat) {S : KS} {r3 : Int32} (hk : tkW T p 2 = true) (hS : KSok S) (hL : tL T ≤ 640) (hp : p ≤ tL T) (h : RdI w 59 T S p r3) : ab_C X l i_KR_readPen [.ref 3, .ref 1, .ref 59] w n 0 0 (rdQ 59 T w n r3 (rdP T S p)) := by
  obtain ⟨⟨f, h1⟩, h2, ⟨r1, r2, h3, hr1⟩, h4, hC⟩ := h
  have h0 := hC.1
  have kk := (tkW_k hk).1
  have k1 := (tX_le hp (by omega) (by omega)).2
  have hr := hS.1
  have hCC := hC
  obtain ⟨-, ⟨fn, fo, fu, g1, g2, g3, g4⟩, -⟩ := hCC
  obtain ⟨w, rfl⟩ : ∃ w0, w = va_up (va_up (va_up (va_up (va_up (va_up w0 62 (aI 24 fu)) 61 (aI 24 fo)) 59 (oKit 59 (nI (sR S)) (nI (sW S)) (nI (sP S)) (nI (sN S)))) 3 (oKR r1 r2 r3)) 2 (aI 640 (tB T))) 1 (oTk T p f) := ⟨w, by rw [← va_self g3, ← va_self g2, ← va_self h0, ← va_self h3, ← va_self h2, ← va_self h1]⟩
  have h4 : isWL (w 4) := h4
  have g1 : w 60 = aI 24 fn := g1
  generalize hO : rdP T S p = O
  unfold rdP at hO
  refine ab_met cd_25 om_25 rfl (by rintro _ _ _ ⟨b, rfl, -⟩; trivial) (ab_sound ok_25 [77] 120 ?_)
  by_cases c : 8 ≤ sP S
  · refine And.intro (fun h_9 => absurd h_9 (nI_nlt c (by omega))) (fun _ => ?_)
    (refine Exists.intro 0 ?_; refine ⟨0, _, Nat.zero_le _, Nat.zero_le _, k_fail T p 4 _ _ rfl rfl rfl, ?_⟩; refine ab_q1_elim ?_)
    rw [if_pos c] at hO
    exact ⟨rfl, rdQ_l hO (Fr.refl.up (by unfold FRd FKt; omega)) rfl ⟨tk_isTp, rfl, h4, (hC.up n3_59).sh⟩⟩
  · refine And.intro (fun _ => ?_) (fun h_9 => absurd (nI_lt (by omega) (by omega)) h_9)
    rw [if_neg c] at hO
    (refine Exists.intro 0 ?_; refine ⟨0, _, Nat.zero_le _, Nat.zero_le _, k_adv T p _ _ hL hp (by omega) (by omega) rfl rfl, ?_⟩; refine ab_q1_elim ?_)
    have hC1 := hC.up (x := oTk T (tX T p) (cV T p f)) n1_59
    cases e1 : qNew T S (tX T p) with
    | inl e =>
      obtain ⟨k, pl⟩ := e
      rw [bnd_l e1] at hO
      (refine Exists.intro 0 ?_; refine ⟨0, _, Nat.zero_le _, Nat.zero_le _, k_passNewName_n_59 T (tX T p) k pl _ _ e1 hS hL k1 rfl rfl rfl hC1, ?_⟩; refine ab_q1_elim ?_)
      refine And.intro (fun h_9 => absurd (rfl) h_9) (fun _ => ?_)
      exact ⟨rfl, rdQ_l hO ((Fr.refl.up (by unfold FRd FKt; omega)).up (by unfold FRd FKt; omega)) rfl ⟨tk_isTp, rfl, h4, (hC1.up n3_59).sh⟩⟩
    | inr p2 =>
      rw [bnd_r e1] at hO
      obtain ⟨a1, a2, a3, a4, a5⟩ := qNew_r k1 e1
      (refine Exists.intro 0 ?_; refine ⟨0, _, Nat.zero_le _, Nat.zero_le _, k_passNewName_y_59 T (tX T p) p2 _ _ e1 hS hL k1 rfl rfl rfl hC1, ?_⟩; refine ab_q1_elim ?_)
      refine And.intro (fun _ => ?_) (fun h_9 => absurd h_9 ((by decide)))
      have hC2 := hC1.up (x := oTk T p2 (cV T (tX T p) (cV T p f))) n1_59
      (refine Exists.intro 0 ?_; refine ⟨0, _, Nat.zero_le _, Nat.zero_le _, k_isName T p2 _ _ hL a4 rfl rfl, ?_⟩; refine ab_q1_elim ?_)
      cases e2 : qWh T S p2 with
      | inl e =>
        obtain ⟨k, pl⟩ := e
        rw [bnd_l e2] at hO
        obtain ⟨rfl, q⟩ := qWh_l e2
        rcases q with ⟨q1, rfl⟩ | ⟨q1, q2, rfl⟩
        · refine And.intro (fun h_9 => absurd ((by rw [q1]; rfl)) h_9) (fun _ => ?_)
          (refine Exists.intro 0 ?_; refine ⟨0, _, Nat.zero_le _, Nat.zero_le _, k_fail T p2 1 _ _ rfl rfl rfl, ?_⟩; refine ab_q1_elim ?_)
          exact ⟨rfl, rdQ_l hO (((Fr.refl.up (by unfold FRd FKt; omega)).up (by unfold FRd FKt; omega)).up (by unfold FRd FKt; omega)) rfl ⟨tk_isTp, rfl, h4, (hC2.up n3_59).sh⟩⟩
        · refine And.intro (fun _ => ?_) (fun h_9 => absurd h_9 ((by rw [q1]; decide)))
          have ev : cV T p2 (cV T (tX T p) (cV T p f)) = nI (tV T p2) := cV_eq a4 (by have := tkN_k q1; omega) (by have := tkN_k q1; omega)
          have at77 : ∀ x4 : Option Value, ab_Ev X l i_KR_readPen 77 [some (.ref 3), some (.ref 1), some (.ref 59), some (.int (cV T (tX T p) (cV T p f))), x4, none, none] [] (va_up (va_up (va_up (va_up (va_up (va_up (va_up (va_up w 62 (aI 24 fu)) 61 (aI 24 fo)) 59 (oKit 59 (nI (sR S)) (nI (sW S)) (nI (sP S)) (nI (sN S)))) 3 (oKR r1 r2 r3)) 2 (aI 640 (tB T))) 1 (oTk T p f)) 1 (oTk T (tX T p) (cV T p f))) 1 (oTk T p2 (cV T (tX T p) (cV T p f)))) n 0 0 (rdQ 59 T (va_up (va_up (va_up (va_up (va_up (va_up w 62 (aI 24 fu)) 61 (aI 24 fo)) 59 (oKit 59 (nI (sR S)) (nI (sW S)) (nI (sP S)) (nI (sN S)))) 3 (oKR r1 r2 r3)) 2 (aI 640 (tB T))) 1 (oTk T p f)) n r3 O) := by
            intro x4
            refine ab_sound ok_25 [] 80 ?_
            (refine Exists.intro 0 ?_; refine ⟨0, _, Nat.zero_le _, Nat.zero_le _, k_fail T p2 3 _ _ rfl rfl rfl, ?_⟩; refine ab_q1_elim ?_)
            exact ⟨rfl, rdQ_l hO (((Fr.refl.up (by unfold FRd FKt; omega)).up (by unfold FRd FKt; omega)).up (by unfold FRd FKt; omega)) rfl ⟨tk_isTp, rfl, h4, (hC2.up n3_59).sh⟩⟩
          by_cases z3 : soI (sLo S (tV T p2)) = 3
          · (refine Exists.intro 0 ?_; refine ⟨0, _, Nat.zero_le _, Nat.zero_le _, k_entryOf_n_59 (tV T p2) _ _ ev hS (tk_vd a4 (tkN_k q1)) ((lo_none hS.2.2.2.2).mp z3) rfl g1 g4, ?_⟩; refine ab_q1_elim ?_)
            refine And.intro (fun _ => ?_) (fun h_9 => absurd (rfl) h_9)
            exact at77 _
          · obtain ⟨y, hy⟩ := lo_some z3
            have y1 : soI (sLo S (tV T p2)) = y.1 := by rw [hy]; rfl
            have y3 : y.1 ≤ 2 := by have := (hS.2.2.2.2 _ y hy).2; omega
            obtain ⟨j, b1, b2, b3, ce⟩ := k_entryOf_y_59 (X := X) (l := l) (tV T p2) (va_up (va_up (va_up (va_up (va_up (va_up (va_up (va_up w 62 (aI 24 fu)) 61 (aI 24 fo)) 59 (oKit 59 (nI (sR S)) (nI (sW S)) (nI (sP S)) (nI (sN S)))) 3 (oKR r1 r2 r3)) 2 (aI 640 (tB T))) 1 (oTk T p f)) 1 (oTk T (tX T p) (cV T p f))) 1 (oTk T p2 (cV T (tX T p) (cV T p f)))) n ev hS hy rfl g1 g4
            (refine Exists.intro 0 ?_; refine ⟨0, _, Nat.zero_le _, Nat.zero_le _, ce, ?_⟩; refine ab_q1_elim ?_)
            refine And.intro (fun h_9 => absurd h_9 ((nI_nn (by omega)))) (fun _ => ?_)
            refine And.intro (vp_in_nI b1 (by omega)) ?_
            rw [nI_clamp (by omega), b2]
            refine And.intro (fun h_9 => absurd h_9 ((fun z => by rw [nI_eq (by omega) (by omega)] at z; omega))) (fun _ => ?_)
            exact at77 _
      | inr p3 =>
        rw [bnd_r e2] at hO
        obtain ⟨b1, b2, b3, b4, b5⟩ := qWh_r a4 e2
        refine And.intro (fun _ => ?_) (fun h_9 => absurd h_9 ((by rw [b2]; decide)))
        have ev : cV T p2 (cV T (tX T p) (cV T p f)) = nI (tV T p2) := cV_eq a4 (by omega) (by omega)
        obtain ⟨y, hy⟩ := lo_some (S := S) (c := tV T p2) (by omega)
        have y1 : soI (sLo S (tV T p2)) = y.1 := by rw [hy]; rfl
        have y2 : soJ (sLo S (tV T p2)) = y.2 := by rw [hy]; rfl
        obtain ⟨j, d1, d2, d3, ce⟩ := k_entryOf_y_59 (X := X) (l := l) (tV T p2) (va_up (va_up (va_up (va_up (va_up (va_up (va_up (va_up w 62 (aI 24 fu)) 61 (aI 24 fo)) 59 (oKit 59 (nI (sR S)) (nI (sW S)) (nI (sP S)) (nI (sN S)))) 3 (oKR r1 r2 r3)) 2 (aI 640 (tB T))) 1 (oTk T p f)) 1 (oTk T (tX T p) (cV T p f))) 1 (oTk T p2 (cV T (tX T p) (cV T p f)))) n ev hS hy rfl g1 g4
        (refine Exists.intro 0 ?_; refine ⟨0, _, Nat.zero_le _, Nat.zero_le _, ce, ?_⟩; refine ab_q1_elim ?_)
        refine And.intro (fun h_9 => absurd h_9 ((nI_nn (by omega)))) (fun _ => ?_)
        refine And.intro (vp_in_nI d1 (by omega)) ?_
        rw [nI_clamp (by omega), d2]
        refine And.intro (fun _ => ?_) (fun h_9 => absurd ((by rw [← y1, b3])) h_9)
        (refine Exists.intro 0 ?_; refine ⟨0, _, Nat.zero_le _, Nat.zero_le _, k_adv T p2 _ _ hL a4 (by omega) (by omega) rfl rfl, ?_⟩; refine ab_q1_elim ?_)
        rw [← b1]
        (refine Exists.intro 0 ?_; refine ⟨0, _, Nat.zero_le _, Nat.zero_le _, k_passMinus T p3 _ _ hL b4 rfl rfl, ?_⟩; refine ab_q1_elim ?_)
        have m4 := qMin_le b4
        have hC4 := (hC2.up (x := oTk T p3 (cV T p2 (cV T (tX T p) (cV T p f)))) n1_59).up (x := oTk T (qMin T p3) (vMin T p3 (cV T p2 (cV T (tX T p) (cV T p f))))) n1_59
        cases e3 : qNum T 0 200 (qMin T p3) with
        | inl e =>
          obtain ⟨k, pl⟩ := e
          rw [bnd_l e3] at hO
          (refine Exists.intro 0 ?_; refine ⟨0, _, Nat.zero_le _, Nat.zero_le _, k_passNumber_n T 0 200 (qMin T p3) k pl _ _ e3 rfl rfl (by omega) (by omega) m4 rfl rfl, ?_⟩; refine ab_q1_elim ?_)
          refine And.intro (fun _ => ?_) (fun h_9 => absurd (rfl) h_9)
          exact ⟨rfl, rdQ_l hO (((((Fr.refl.up (by unfold FRd FKt; omega)).up (by unfold FRd FKt; omega)).up (by unfold FRd FKt; omega)).up (by unfold FRd FKt; omega)).up (by unfold FRd FKt; omega)) rfl ⟨tk_isTp, rfl, h4, (hC4.up n3_59).sh⟩⟩
        | inr p4 =>
          rw [bnd_r e3] at hO
          obtain ⟨c1, c2, c3, c4, c5⟩ := qNum_r m4 e3
          (refine Exists.intro 0 ?_; refine ⟨0, _, Nat.zero_le _, Nat.zero_le _, k_passNumber_y T 0 200 (qMin T p3) p4 _ _ e3 rfl rfl (by omega) (by omega) hL m4 rfl rfl rfl, ?_⟩; refine ab_q1_elim ?_)
          refine And.intro (fun h_9 => absurd h_9 ((by decide))) (fun _ => ?_)
          have hC5 := hC4.up (x := oTk T p4 (cV T (qMin T p3) (vMin T p3 (cV T p2 (cV T (tX T p) (cV T p f)))))) n1_59
          cases e4 : qSig T 59 p4 with
          | inl e =>
            obtain ⟨k, pl⟩ := e
            rw [bnd_l e4] at hO
            (refine Exists.intro 0 ?_; refine ⟨0, _, Nat.zero_le _, Nat.zero_le _, k_passSign_n T 59 p4 k pl _ _ e4 rfl (by omega) c5 rfl rfl, ?_⟩; refine ab_q1_elim ?_)
            refine And.intro (fun h_9 => absurd (rfl) h_9) (fun _ => ?_)
            exact ⟨rfl, rdQ_l hO ((((((Fr.refl.up (by unfold FRd FKt; omega)).up (by unfold FRd FKt; omega)).up (by unfold FRd FKt; omega)).up (by unfold FRd FKt; omega)).up (by unfold FRd FKt; omega)).up (by unfold FRd FKt; omega)) rfl ⟨tk_isTp, rfl, h4, (hC5.up n3_59).sh⟩⟩
          | inr p5 =>
            rw [bnd_r e4] at hO
            (refine Exists.intro 0 ?_; refine ⟨0, _, Nat.zero_le _, Nat.zero_le _, k_passSign_y T 59 p4 p5 _ _ e4 rfl (by omega) hL c5 rfl rfl rfl, ?_⟩; refine ab_q1_elim ?_)
            refine And.intro (fun _ => ?_) (fun h_9 => absurd h_9 ((by decide)))
            have hC6 := hC5.up (x := oTk T p5 (cV T p4 (cV T (qMin T p3) (vMin T p3 (cV T p2 (cV T (tX T p) (cV T p f))))))) n1_59
            have v1 : cV T (tX T p) (cV T p f) = nI (tV T (tX T p)) := cV_eq k1 (by omega) (by omega)
            have v2 : cV T (qMin T p3) (vMin T p3 (cV T p2 (cV T (tX T p) (cV T p f)))) = nI (tV T (qMin T p3)) := cV_eq m4 (by omega) (by omega)
            refine And.intro (vp_in_nI d1 (by omega)) ?_
            rw [nI_clamp (by omega), d3, ← y2]
            rw [v2]
            cases cs : tkS T p3 45
            · refine And.intro (fun _ => ?_) (fun h_9 => absurd (rfl) h_9)
              (refine Exists.intro 0 ?_; refine ⟨0, _, Nat.zero_le _, Nat.zero_le _, k_Kit_addPen_59 (tV T (tX T p)) (soJ (sLo S (tV T p2))) (sgI (tkS T p3 45) (tV T (qMin T p3))) _ _ v1 rfl (by rw [← sgI_32, cs, if_neg (by decide)]) hS ((lo_none hS.2.2.2.2).mp a3) (by omega) hC6, ?_⟩; rintro _ w1 _ ⟨rfl, rfl, f1, hC7⟩)
              have f2 := f1.mono (G := FRd 59) (fun k hk => Or.inr (Or.inr (Or.inr hk)))
              exact ⟨rfl, rdQ_r hO (((((((Fr.refl.up (by unfold FRd FKt; omega)).up (by unfold FRd FKt; omega)).up (by unfold FRd FKt; omega)).up (by unfold FRd FKt; omega)).up (by unfold FRd FKt; omega)).up (by unfold FRd FKt; omega)).trans f2) ⟨⟨_, f1.get rfl n1_59⟩, f1.get rfl (by unfold FKt; omega), ⟨r1, r2, f1.get rfl n3_59, hr1⟩, by rw [f1 4 n4_59]; exact h4, hC7⟩⟩
            · refine And.intro (fun h_9 => absurd h_9 ((by decide))) (fun _ => ?_)
              (refine Exists.intro 0 ?_; refine ⟨0, _, Nat.zero_le _, Nat.zero_le _, k_Kit_addPen_59 (tV T (tX T p)) (soJ (sLo S (tV T p2))) (sgI (tkS T p3 45) (tV T (qMin T p3))) _ _ v1 rfl (by rw [← sgI_32, cs, if_pos rfl]) hS ((lo_none hS.2.2.2.2).mp a3) (by omega) hC6, ?_⟩; rintro _ w1 _ ⟨rfl, rfl, f1, hC7⟩)
              have f2 := f1.mono (G := FRd 59) (fun k hk => Or.inr (Or.inr (Or.inr hk)))
              exact ⟨rfl, rdQ_r hO (((((((Fr.refl.up (by unfold FRd FKt; omega)).up (by unfold FRd FKt; omega)).up (by unfold FRd FKt; omega)).up (by unfold FRd FKt; omega)).up (by unfold FRd FKt; omega)).up (by unfold FRd FKt; omega)).trans f2) ⟨⟨_, f1.get rfl n1_59⟩, f1.get rfl (by unfold FKt; omega), ⟨r1, r2, f1.get rfl n3_59, hr1⟩, by rw [f1 4 n4_59]; exact h4, hC7⟩⟩
end LINES
