/-! tokens passed, for the class -/
abbrev Er : Type := Sum (Nat × Nat) Nat
def qNum (T : TE) (a b p : Nat) : Er := if tK T p ≠ 3 then .inl (1, tP T p) else if tV T p < a ∨ b < tV T p then .inl (2, tP T p) else .inr (tX T p)
def qSig (T : TE) (c p : Nat) : Er := if tkS T p c = true then .inr (tX T p) else .inl (1, tP T p)
theorem qNum_r {T : TE} {a b p q : Nat} (hp : p ≤ tL T) (h : qNum T a b p = .inr q) : q = tX T p ∧ tK T p = 3 ∧ a ≤ tV T p ∧ tV T p ≤ b ∧ q ≤ tL T := by
  unfold qNum at h
  by_cases c : tK T p ≠ 3
  · rw [if_pos c] at h; exact absurd h (by intro z; cases z)
  · rw [if_neg c] at h
    by_cases d : tV T p < a ∨ b < tV T p
    · rw [if_pos d] at h; exact absurd h (by intro z; cases z)
    · rw [if_neg d] at h
      have e : tX T p = q := Sum.inr.inj h
      have g := tX_le hp (by omega) (by omega)
      omega
theorem qNum_l {T : TE} {a b p k pl : Nat} (h : qNum T a b p = .inl (k, pl)) : pl = tP T p ∧ ((tK T p ≠ 3 ∧ k = 1) ∨ (tK T p = 3 ∧ (tV T p < a ∨ b < tV T p) ∧ k = 2)) := by
  unfold qNum at h
  by_cases c : tK T p ≠ 3
  · rw [if_pos c] at h
    have e := Sum.inl.inj h
    have e1 : 1 = k := congrArg Prod.fst e
    have e2 : tP T p = pl := congrArg Prod.snd e
    exact ⟨e2.symm, Or.inl ⟨c, e1.symm⟩⟩
  · rw [if_neg c] at h
    by_cases d : tV T p < a ∨ b < tV T p
    · rw [if_pos d] at h
      have e := Sum.inl.inj h
      have e1 : 2 = k := congrArg Prod.fst e
      have e2 : tP T p = pl := congrArg Prod.snd e
      exact ⟨e2.symm, Or.inr ⟨by omega, d, e1.symm⟩⟩
    · rw [if_neg d] at h; exact absurd h (by intro z; cases z)
theorem tkS_k {T : TE} {p c : Nat} (h : tkS T p c = true) : tK T p = 4 ∧ tV T p = c := by
  unfold tkS at h
  exact of_decide_eq_true h
theorem tkW_k {T : TE} {p j : Nat} (h : tkW T p j = true) : tK T p = 2 ∧ tV T p = KW j := by
  unfold tkW at h
  exact of_decide_eq_true h
theorem tkN_k {T : TE} {p : Nat} (h : tkN T p = true) : tK T p = 2 := by
  by_cases c : tK T p = 2
  · exact c
  · rw [tkN_no c] at h; exact absurd h (by decide)
theorem qSig_r {T : TE} {c p q : Nat} (hp : p ≤ tL T) (h : qSig T c p = .inr q) : q = tX T p ∧ tkS T p c = true ∧ q ≤ tL T := by
  unfold qSig at h
  by_cases d : tkS T p c = true
  · rw [if_pos d] at h
    have e : tX T p = q := Sum.inr.inj h
    have k := tkS_k d
    have g := tX_le hp (by omega) (by omega)
    exact ⟨e.symm, d, by omega⟩
  · rw [if_neg d] at h; exact absurd h (by intro z; cases z)
theorem qSig_l {T : TE} {c p k pl : Nat} (h : qSig T c p = .inl (k, pl)) : pl = tP T p ∧ tkS T p c = false ∧ k = 1 := by
  unfold qSig at h
  by_cases d : tkS T p c = true
  · rw [if_pos d] at h; exact absurd h (by intro z; cases z)
  · rw [if_neg d] at h
    have e := Sum.inl.inj h
    have e1 : 1 = k := congrArg Prod.fst e
    have e2 : tP T p = pl := congrArg Prod.snd e
    exact ⟨e2.symm, Bool.eq_false_iff.mpr d, e1.symm⟩
section PASS
variable {X : ab_X} {l : Launch}
theorem k_adv (T : TE) (p : Nat) (w : ab_W) (n : Nat) {f : Int32} (hL : tL T ≤ 640) (hp : p ≤ tL T) (hk5 : tK T p ≠ 5) (hk0 : tK T p ≠ 0) (h1 : w 1 = oTk T p f) (h2 : w 2 = aI 640 (tB T)) :
    ab_C X l i_Tape_advance [.ref 1] w n 0 0 (ab_q1 none (va_up w 1 (oTk T (tX T p) (cV T p f))) n) := by
  have g := tX_le hp hk5 hk0
  have e := (tk_cell hk5 hk0).1
  unfold oTk at h1
  rw [e] at h1
  exact c_Tape_advance T (tX T p) w n hL g.2 h1 h2
theorem k_fail (T : TE) (p k : Nat) (w : ab_W) (n : Nat) {f r1 r2 r3 x : Int32} (hx : x = nI k) (h1 : w 1 = oTk T p f) (h3 : w 3 = oKR r1 r2 r3) :
    ab_C X l i_KR_fail [.ref 3, .ref 1, .int x] w n 0 0 (ab_q1 (some (.int (nI 0))) (va_up w 3 (oKR (nI k) (nI (tP T p)) r3)) n) := by
  rw [← hx]
  exact c_KR_fail x w n h1 h3
theorem k_passNumber_y (T : TE) (a b p q : Nat) (w : ab_W) (n : Nat) {f r1 r2 r3 xa xb : Int32} (hq : qNum T a b p = .inr q) (hxa : xa = nI a) (hxb : xb = nI b) (ha : a < 1000) (hb : b < 1000) (hL : tL T ≤ 640) (hp : p ≤ tL T) (h1 : w 1 = oTk T p f) (h2 : w 2 = aI 640 (tB T)) (h3 : w 3 = oKR r1 r2 r3) :
    ab_C X l i_KR_passNumber [.ref 3, .ref 1, .int xa, .int xb] w n 0 0 (ab_q1 (some (.int (nI 1))) (va_up w 1 (oTk T q (cV T p f))) n) := by
  obtain ⟨rfl, e2, e3, e4, e5⟩ := qNum_r hp hq
  have v := tk_nlt hp e2
  have ev := cV_eq (f := f) hp (by omega) (by omega)
  have ek := (tk_cell (T := T) (p := p) (by omega) (by omega)).2
  subst hxa hxb
  obtain ⟨w, rfl⟩ := va_ex3 h1 h2 h3
  refine ab_metI cd_18 om_18 rfl (ab_sound ok_18 [] 80 ?_)
  refine And.intro (fun _ => ?_) (fun h_9 => absurd ((by show nI (cK T p) = nI 3; rw [ek, e2])) h_9)
  refine And.intro (fun h_9 => absurd h_9 ((by show ¬ cV T p f < nI a; rw [ev]; exact nI_nlt e3 (by omega)))) (fun _ => ?_)
  refine And.intro (fun _ => ?_) (fun h_9 => absurd ((by show cV T p f ≤ nI b; rw [ev]; exact nI_le e4 (by omega))) h_9)
  (refine Exists.intro 0 ?_; refine ⟨0, _, Nat.zero_le _, Nat.zero_le _, k_adv T p _ _ hL hp (by omega) (by omega) rfl rfl, ?_⟩; refine ab_q1_elim ?_)
  exact ⟨rfl, rfl, rfl, rfl⟩
theorem k_passNumber_n (T : TE) (a b p k pl : Nat) (w : ab_W) (n : Nat) {f r1 r2 r3 xa xb : Int32} (hq : qNum T a b p = .inl (k, pl)) (hxa : xa = nI a) (hxb : xb = nI b) (ha : a < 1000) (hb : b < 1000) (hp : p ≤ tL T) (h1 : w 1 = oTk T p f) (h3 : w 3 = oKR r1 r2 r3) :
    ab_C X l i_KR_passNumber [.ref 3, .ref 1, .int xa, .int xb] w n 0 0 (ab_q1 (some (.int (nI 0))) (va_up w 3 (oKR (nI k) (nI pl) r3)) n) := by
  obtain ⟨rfl, e⟩ := qNum_l hq
  subst hxa hxb
  obtain ⟨w, rfl⟩ := va_ex2 h1 h3
  rcases e with ⟨e1, rfl⟩ | ⟨e1, e2, rfl⟩
  · refine ab_metI cd_18 om_18 rfl (ab_sound ok_18 [] 80 ?_)
    refine And.intro (fun h_9 => absurd h_9 ((oTk_k e1 (by omega) (by omega)))) (fun _ => ?_)
    (refine Exists.intro 0 ?_; refine ⟨0, _, Nat.zero_le _, Nat.zero_le _, k_fail T p 1 _ _ rfl rfl rfl, ?_⟩; refine ab_q1_elim ?_)
    exact ⟨rfl, rfl, rfl, rfl⟩
  · have v := tk_nlt hp e1
    have ev := cV_eq (f := f) hp (by omega) (by omega)
    have ek := (tk_cell (T := T) (p := p) (by omega) (by omega)).2
    have at31 : ab_Ev X l i_KR_passNumber 31 [some (.ref 3), some (.ref 1), some (.int (nI a)), some (.int (nI b))] [] (va_up (va_up w 3 (oKR r1 r2 r3)) 1 (oTk T p f)) n 0 0 (ab_q1 (some (.int (nI 0))) (va_up (va_up (va_up w 3 (oKR r1 r2 r3)) 1 (oTk T p f)) 3 (oKR (nI 2) (nI (tP T p)) r3)) n) := by
      refine ab_sound ok_18 [] 80 ?_
      (refine Exists.intro 0 ?_; refine ⟨0, _, Nat.zero_le _, Nat.zero_le _, k_fail T p 2 _ _ rfl rfl rfl, ?_⟩; refine ab_q1_elim ?_)
      exact ⟨rfl, rfl, rfl, rfl⟩
    refine ab_metI cd_18 om_18 rfl (ab_sound ok_18 [31] 80 ?_)
    refine And.intro (fun _ => ?_) (fun h_9 => absurd ((by show nI (cK T p) = nI 3; rw [ek, e1])) h_9)
    by_cases d : tV T p < a
    · refine And.intro (fun _ => ?_) (fun h_9 => absurd ((by show cV T p f < nI a; rw [ev]; exact nI_lt d (by omega))) h_9)
      exact at31
    · refine And.intro (fun h_9 => absurd h_9 ((by show ¬ cV T p f < nI a; rw [ev]; exact nI_nlt (by omega) (by omega)))) (fun _ => ?_)
      refine And.intro (fun h_9 => absurd h_9 ((by show ¬ cV T p f ≤ nI b; rw [ev]; exact nI_ge (by omega) (by omega)))) (fun _ => ?_)
      exact at31
theorem k_passSign_y (T : TE) (c p q : Nat) (w : ab_W) (n : Nat) {f r1 r2 r3 x : Int32} (hq : qSig T c p = .inr q) (hx : x = nI c) (hc : c < 100) (hL : tL T ≤ 640) (hp : p ≤ tL T) (h1 : w 1 = oTk T p f) (h2 : w 2 = aI 640 (tB T)) (h3 : w 3 = oKR r1 r2 r3) :
    ab_C X l i_KR_passSign [.ref 3, .ref 1, .int x] w n 0 0 (ab_q1 (some (.int (nI 1))) (va_up w 1 (oTk T q (cV T p f))) n) := by
  obtain ⟨rfl, e2, e3⟩ := qSig_r hp hq
  have k := tkS_k e2
  subst hx
  obtain ⟨w, rfl⟩ := va_ex3 h1 h2 h3
  refine ab_metI cd_19 om_19 rfl (ab_sound ok_19 [] 80 ?_)
  (refine Exists.intro 0 ?_; refine ⟨0, _, Nat.zero_le _, Nat.zero_le _, k_isSign T p c _ _ rfl hc hp rfl, ?_⟩; refine ab_q1_elim ?_)
  refine And.intro (fun _ => ?_) (fun h_9 => absurd h_9 ((by rw [e2]; decide)))
  (refine Exists.intro 0 ?_; refine ⟨0, _, Nat.zero_le _, Nat.zero_le _, k_adv T p _ _ hL hp (by omega) (by omega) rfl rfl, ?_⟩; refine ab_q1_elim ?_)
  exact ⟨rfl, rfl, rfl, rfl⟩
theorem k_passSign_n (T : TE) (c p k pl : Nat) (w : ab_W) (n : Nat) {f r1 r2 r3 x : Int32} (hq : qSig T c p = .inl (k, pl)) (hx : x = nI c) (hc : c < 100) (hp : p ≤ tL T) (h1 : w 1 = oTk T p f) (h3 : w 3 = oKR r1 r2 r3) :
    ab_C X l i_KR_passSign [.ref 3, .ref 1, .int x] w n 0 0 (ab_q1 (some (.int (nI 0))) (va_up w 3 (oKR (nI k) (nI pl) r3)) n) := by
  obtain ⟨rfl, e2, rfl⟩ := qSig_l hq
  subst hx
  obtain ⟨w, rfl⟩ := va_ex2 h1 h3
  refine ab_metI cd_19 om_19 rfl (ab_sound ok_19 [] 80 ?_)
  (refine Exists.intro 0 ?_; refine ⟨0, _, Nat.zero_le _, Nat.zero_le _, k_isSign T p c _ _ rfl hc hp rfl, ?_⟩; refine ab_q1_elim ?_)
  refine And.intro (fun h_9 => absurd ((by rw [e2]; rfl)) h_9) (fun _ => ?_)
  (refine Exists.intro 0 ?_; refine ⟨0, _, Nat.zero_le _, Nat.zero_le _, k_fail T p 1 _ _ rfl rfl rfl, ?_⟩; refine ab_q1_elim ?_)
  exact ⟨rfl, rfl, rfl, rfl⟩
/-- behind a minus, if there is one -/
def qMin (T : TE) (p : Nat) : Nat := if tkS T p 45 = true then tX T p else p
def vMin (T : TE) (p : Nat) (f : Int32) : Int32 := if tkS T p 45 = true then cV T p f else f
theorem qMin_le {T : TE} {p : Nat} (hp : p ≤ tL T) : qMin T p ≤ tL T := by
  unfold qMin
  by_cases d : tkS T p 45 = true
  · rw [if_pos d]
    have k := tkS_k d
    exact (tX_le hp (by omega) (by omega)).2
  · rw [if_neg d]; exact hp
theorem k_passMinus (T : TE) (p : Nat) (w : ab_W) (n : Nat) {f : Int32} (hL : tL T ≤ 640) (hp : p ≤ tL T) (h1 : w 1 = oTk T p f) (h2 : w 2 = aI 640 (tB T)) :
    ab_C X l i_KR_passMinus [.ref 1] w n 0 0 (ab_q1 (some (.int (b01 (tkS T p 45)))) (va_up w 1 (oTk T (qMin T p) (vMin T p f))) n) := by
  obtain ⟨w, rfl⟩ := va_ex2 h1 h2
  refine ab_metI cd_24 om_24 rfl (ab_sound ok_24 [] 80 ?_)
  (refine Exists.intro 0 ?_; refine ⟨0, _, Nat.zero_le _, Nat.zero_le _, k_isSign T p 45 _ _ rfl (by omega) hp rfl, ?_⟩; refine ab_q1_elim ?_)
  unfold qMin vMin
  cases d : tkS T p 45
  · refine And.intro (fun h_9 => absurd (rfl) h_9) (fun _ => ?_)
    rw [if_neg (by decide), if_neg (by decide)]
    exact ⟨rfl, rfl, (by first | rfl | (simp only [va_uu, va_uc, Nat.reduceLT]; done) | (simp only [va_uu, va_uc, Nat.reduceLT]; rfl)), rfl⟩
  · have k := tkS_k d
    refine And.intro (fun _ => ?_) (fun h_9 => absurd h_9 ((by decide)))
    (refine Exists.intro 0 ?_; refine ⟨0, _, Nat.zero_le _, Nat.zero_le _, k_adv T p _ _ hL hp (by omega) (by omega) rfl rfl, ?_⟩; refine ab_q1_elim ?_)
    rw [if_pos rfl, if_pos rfl]
    exact ⟨rfl, rfl, rfl, rfl⟩
end PASS
