/-! the next token, for the class -/
def tF (T : TE) (p : Nat) : Nat := fs (fun i => !blB (tB T i)) (tE T) p
def cN (T : TE) (p : Nat) : Nat := if tK T p = 5 ∨ tK T p = 0 then tF T p else tX T p
def cK (T : TE) (p : Nat) : Nat := if tK T p = 5 then 0 else tK T p
def cV (T : TE) (p : Nat) (f : Int32) : Int32 := if tK T p = 5 ∨ tK T p = 0 then f else if anB (tB T (tQ T p)) = true then rV (tB T) (tQ T p) (tR T (tQ T p) - tQ T p) f else tB T (tQ T p)
def oTk (T : TE) (p : Nat) (f : Int32) : va_E := oTape (nI (tL T)) (nI (tE T)) (nI (cN T p)) (nI (cK T p)) (nI (tP T p)) (cV T p f)
theorem rK_123 {tb : Nat → Int32} {q m : Nat} : rK tb q m = 1 ∨ rK tb q m = 2 ∨ rK tb q m = 3 := by
  unfold rK
  by_cases c : alL tb q m ∧ m ≤ 6
  · rw [if_pos c]; exact Or.inr (Or.inl rfl)
  · rw [if_neg c]
    by_cases d : alD tb q m ∧ m ≤ 3
    · rw [if_pos d]; exact Or.inr (Or.inr rfl)
    · rw [if_neg d]; exact Or.inl rfl
theorem tQ_ge {T : TE} {p : Nat} : p ≤ tQ T p := fs_ge
theorem tQ_le {T : TE} {p : Nat} (h : p ≤ tL T) : tQ T p ≤ tL T := fs_le h
theorem tF_eq {T : TE} {p : Nat} (h : p ≤ tL T) : tF T p = if p ≤ tE T then min (tQ T p) (tE T) else p := by
  unfold tF
  by_cases c : p ≤ tE T
  · rw [if_pos c]
    exact fs_cap c (by unfold tE; omega)
  · rw [if_neg c]
    exact fs_past (by omega)
theorem tk_end {T : TE} {p : Nat} (h : p ≤ tL T) (h2 : tE T ≤ tF T p) : (tK T p = 5 ∨ tK T p = 0) ∧ tP T p = tE T := by
  have a1 := @tQ_ge T p
  have a2 := tQ_le h
  rw [tF_eq h] at h2
  have a3 : tE T = min (tL T) (tM T) := rfl
  have a4 : tE T ≤ tQ T p := by
    by_cases c : p ≤ tE T
    · rw [if_pos c] at h2; omega
    · omega
  unfold tK tP
  by_cases c : tM T < tL T ∧ tM T ≤ tQ T p
  · rw [if_pos c, if_pos c]
    exact ⟨Or.inl rfl, by omega⟩
  · rw [if_neg c, if_neg c, if_pos (by omega)]
    exact ⟨Or.inr rfl, by omega⟩
theorem tk_go {T : TE} {p : Nat} (h : p ≤ tL T) (h2 : tF T p < tE T) : tF T p = tQ T p ∧ tQ T p < tL T ∧ ¬ (tM T < tL T ∧ tM T ≤ tQ T p) := by
  have a1 := @tQ_ge T p
  rw [tF_eq h] at h2 ⊢
  have a3 : tE T = min (tL T) (tM T) := rfl
  by_cases c : p ≤ tE T
  · rw [if_pos c] at h2 ⊢; omega
  · rw [if_neg c] at h2; omega
theorem tk_run {T : TE} {p : Nat} (h1 : tQ T p < tL T) (h2 : ¬ (tM T < tL T ∧ tM T ≤ tQ T p)) (h3 : anB (tB T (tQ T p)) = true) : tK T p = rK (tB T) (tQ T p) (tR T (tQ T p) - tQ T p) ∧ tP T p = tQ T p ∧ tX T p = tR T (tQ T p) := by
  unfold tK tP tX
  rw [if_neg h2, if_neg (by omega), if_pos h3, if_neg h2, if_pos h3]
  exact ⟨rfl, rfl, rfl⟩
theorem tk_sig {T : TE} {p : Nat} (h1 : tQ T p < tL T) (h2 : ¬ (tM T < tL T ∧ tM T ≤ tQ T p)) (h3 : anB (tB T (tQ T p)) = false) : tK T p = (if sgB (tB T (tQ T p)) = true then 4 else 1) ∧ tP T p = tQ T p ∧ tX T p = tQ T p + 1 := by
  have hn : ¬ anB (tB T (tQ T p)) = true := by rw [h3]; decide
  refine ⟨?_, ?_, ?_⟩
  · unfold tK
    rw [if_neg h2, if_neg (by omega), if_neg hn]
  · unfold tP
    rw [if_neg h2]
  · unfold tX
    rw [if_neg hn]
theorem tk_in {T : TE} {p : Nat} (_ : p ≤ tL T) (h1 : tK T p ≠ 5) (h2 : tK T p ≠ 0) : tQ T p < tL T ∧ ¬ (tM T < tL T ∧ tM T ≤ tQ T p) := by
  unfold tK at h1 h2
  by_cases c : tM T < tL T ∧ tM T ≤ tQ T p
  · rw [if_pos c] at h1; exact absurd rfl h1
  · rw [if_neg c] at h1 h2
    by_cases d : tL T ≤ tQ T p
    · rw [if_pos d] at h2; exact absurd rfl h2
    · exact ⟨by omega, c⟩
theorem tk_cell {T : TE} {p : Nat} (h1 : tK T p ≠ 5) (h2 : tK T p ≠ 0) : cN T p = tX T p ∧ cK T p = tK T p := by
  unfold cN cK
  rw [if_neg (fun z => z.elim h1 h2), if_neg h1]
  exact ⟨rfl, rfl⟩
theorem tR_ge {T : TE} {q : Nat} : q ≤ tR T q := fs_ge
theorem tR_le {T : TE} {q : Nat} (h : q ≤ tL T) : tR T q ≤ tL T := fs_le h
theorem tR_gt {T : TE} {q : Nat} (h : q < tL T) (h2 : anB (tB T q) = true) : q < tR T q := by
  by_cases c : q < tR T q
  · exact c
  · have a := @tR_ge T q
    have e : tR T q = q := by omega
    have := fs_yes (P := fun i => !anB (tB T i)) (e := tL T) (p := q) (by show tR T q < tL T; omega)
    have this : (!anB (tB T (tR T q))) = true := this
    rw [e, h2] at this
    exact absurd this (by decide)
/-- behind a token -/
theorem tX_le {T : TE} {p : Nat} (h : p ≤ tL T) (h1 : tK T p ≠ 5) (h2 : tK T p ≠ 0) : p < tX T p ∧ tX T p ≤ tL T := by
  obtain ⟨a, b⟩ := tk_in h h1 h2
  have c := @tQ_ge T p
  unfold tX
  cases d : anB (tB T (tQ T p))
  · rw [if_neg (by decide)]; omega
  · rw [if_pos rfl]
    have := tR_gt a d
    have := tR_le (T := T) (q := tQ T p) (by omega)
    omega
theorem sg_an {c : Int32} (h : sgB c = true) : c = nI c.toInt.toNat ∧ c.toInt.toNat < 64 := by
  unfold sgB at h
  rw [decide_eq_true_iff] at h
  rcases h with e | e | e | e <;> rw [e] <;> decide
/-- what a token tells -/
theorem tk_word {T : TE} {p : Nat} (h : p ≤ tL T) (h1 : tK T p = 2) : ∃ m, tR T (tQ T p) = tQ T p + m ∧ m ≤ 6 ∧ alL (tB T) (tQ T p) m ∧ tV T p = cdB 32 (tB T) (tQ T p) m ∧ anB (tB T (tQ T p)) = true ∧ tX T p = tQ T p + m ∧ tP T p = tQ T p := by
  obtain ⟨a, b⟩ := tk_in h (by omega) (by omega)
  cases d : anB (tB T (tQ T p))
  · obtain ⟨e, _⟩ := tk_sig a b d
    rw [h1] at e
    exfalso
    by_cases s : sgB (tB T (tQ T p)) = true
    · rw [if_pos s] at e; omega
    · rw [if_neg s] at e; omega
  · obtain ⟨e, e2, e3⟩ := tk_run a b d
    have g := @tR_ge T (tQ T p)
    refine ⟨tR T (tQ T p) - tQ T p, by omega, ?_, ?_, ?_, rfl, by omega, e2⟩
    · rw [h1] at e
      unfold rK at e
      by_cases c : alL (tB T) (tQ T p) (tR T (tQ T p) - tQ T p) ∧ tR T (tQ T p) - tQ T p ≤ 6
      · exact c.2
      · rw [if_neg c] at e
        by_cases c2 : alD (tB T) (tQ T p) (tR T (tQ T p) - tQ T p) ∧ tR T (tQ T p) - tQ T p ≤ 3
        · rw [if_pos c2] at e; omega
        · rw [if_neg c2] at e; omega
    · rw [h1] at e
      unfold rK at e
      by_cases c : alL (tB T) (tQ T p) (tR T (tQ T p) - tQ T p) ∧ tR T (tQ T p) - tQ T p ≤ 6
      · exact c.1
      · rw [if_neg c] at e
        by_cases c2 : alD (tB T) (tQ T p) (tR T (tQ T p) - tQ T p) ∧ tR T (tQ T p) - tQ T p ≤ 3
        · rw [if_pos c2] at e; omega
        · rw [if_neg c2] at e; omega
    · unfold tV
      rw [if_pos h1]
theorem tk_num {T : TE} {p : Nat} (h : p ≤ tL T) (h1 : tK T p = 3) : ∃ m, tR T (tQ T p) = tQ T p + m ∧ m ≤ 3 ∧ alD (tB T) (tQ T p) m ∧ tV T p = nuB (tB T) (tQ T p) m ∧ anB (tB T (tQ T p)) = true ∧ tX T p = tQ T p + m ∧ tP T p = tQ T p := by
  obtain ⟨a, b⟩ := tk_in h (by omega) (by omega)
  cases d : anB (tB T (tQ T p))
  · obtain ⟨e, _⟩ := tk_sig a b d
    rw [h1] at e
    exfalso
    by_cases s : sgB (tB T (tQ T p)) = true
    · rw [if_pos s] at e; omega
    · rw [if_neg s] at e; omega
  · obtain ⟨e, e2, e3⟩ := tk_run a b d
    have g := @tR_ge T (tQ T p)
    rw [h1] at e
    unfold rK at e
    have c : ¬ (alL (tB T) (tQ T p) (tR T (tQ T p) - tQ T p) ∧ tR T (tQ T p) - tQ T p ≤ 6) := fun z => by rw [if_pos z] at e; omega
    rw [if_neg c] at e
    have c2 : alD (tB T) (tQ T p) (tR T (tQ T p) - tQ T p) ∧ tR T (tQ T p) - tQ T p ≤ 3 := by
      by_cases z : alD (tB T) (tQ T p) (tR T (tQ T p) - tQ T p) ∧ tR T (tQ T p) - tQ T p ≤ 3
      · exact z
      · rw [if_neg z] at e; omega
    refine ⟨tR T (tQ T p) - tQ T p, by omega, c2.2, c2.1, ?_, rfl, by omega, e2⟩
    unfold tV
    rw [if_neg (by omega), if_pos h1]
theorem tk_sgn {T : TE} {p : Nat} (h : p ≤ tL T) (h1 : tK T p = 4) : anB (tB T (tQ T p)) = false ∧ sgB (tB T (tQ T p)) = true ∧ tB T (tQ T p) = nI (tV T p) ∧ tV T p < 64 ∧ tP T p = tQ T p := by
  obtain ⟨a, b⟩ := tk_in h (by omega) (by omega)
  cases d : anB (tB T (tQ T p))
  · obtain ⟨e, e2, _⟩ := tk_sig a b d
    rw [h1] at e
    have s : sgB (tB T (tQ T p)) = true := by
      by_cases s : sgB (tB T (tQ T p)) = true
      · exact s
      · rw [if_neg s] at e; omega
    obtain ⟨f1, f2⟩ := sg_an s
    unfold tV
    rw [if_neg (by omega), if_neg (by omega)]
    exact ⟨rfl, s, f1, f2, e2⟩
  · obtain ⟨e, _⟩ := tk_run a b d
    have := @rK_123 (tB T) (tQ T p) (tR T (tQ T p) - tQ T p)
    omega
theorem tk_vd {T : TE} {p : Nat} (h : p ≤ tL T) (h1 : tK T p = 2) : vd (tV T p) := by
  obtain ⟨m, _, h3, h4, h5, _⟩ := tk_word h h1
  exact ⟨_, _, m, h3, h4, h5⟩
theorem tk_nlt {T : TE} {p : Nat} (h : p ≤ tL T) (h1 : tK T p = 3) : tV T p < 1000 := by
  obtain ⟨m, _, h3, h4, h5, _⟩ := tk_num h h1
  rw [h5]
  have a := nu_lt h4
  have b : 10 ^ m ≤ 10 ^ 3 := Nat.pow_le_pow_right (by omega) h3
  omega
/-- the class's value of a token -/
theorem cV_eq {T : TE} {p : Nat} {f : Int32} (h : p ≤ tL T) (h1 : 2 ≤ tK T p) (h2 : tK T p ≤ 4) : cV T p f = nI (tV T p) := by
  unfold cV
  rw [if_neg (by omega)]
  by_cases c2 : tK T p = 2
  · obtain ⟨m, e1, _, _, e4, e5, _⟩ := tk_word h c2
    obtain ⟨a, b⟩ := tk_in h (by omega) (by omega)
    obtain ⟨e, _⟩ := tk_run a b e5
    rw [if_pos e5]
    unfold rV
    rw [← e, if_pos c2, e4, e1, show tQ T p + m - tQ T p = m by omega]
  · by_cases c3 : tK T p = 3
    · obtain ⟨m, e1, _, _, e4, e5, _⟩ := tk_num h c3
      obtain ⟨a, b⟩ := tk_in h (by omega) (by omega)
      obtain ⟨e, _⟩ := tk_run a b e5
      rw [if_pos e5]
      unfold rV
      rw [← e, if_neg c2, if_pos c3, e4, e1, show tQ T p + m - tQ T p = m by omega]
    · obtain ⟨e1, _, e3, _⟩ := tk_sgn h (by omega)
      rw [if_neg (by rw [e1]; decide)]
      exact e3
section ADV
variable {X : ab_X} {l : Launch}
theorem c_Tape_advance (T : TE) (p : Nat) (w : ab_W) (n : Nat) {d e f : Int32} (hL : tL T ≤ 640) (hp : p ≤ tL T) (h1 : w 1 = oTape (nI (tL T)) (nI (tE T)) (nI p) d e f) (h2 : w 2 = aI 640 (tB T)) :
    ab_C X l i_Tape_advance [.ref 1] w n 0 0 (ab_q1 none (va_up w 1 (oTk T p f)) n) := by
  obtain ⟨w, rfl⟩ := va_ex2 h1 h2
  rw [va_uu]
  have hE : tE T ≤ tL T := by unfold tE; omega
  have g1 : p ≤ tF T p := fs_ge
  have g2 : tF T p ≤ tE T ∨ tF T p = p := by
    rw [tF_eq hp]
    by_cases c : p ≤ tE T
    · rw [if_pos c]; omega
    · rw [if_neg c]; exact Or.inr rfl
  have g2b : tF T p ≤ tL T := by omega
  have g3 : ∀ i, p ≤ i → i < tF T p → blB (tB T i) = true := fun i a b => by
    exact nb_t (fs_no (P := fun i => !blB (tB T i)) (e := tE T) a b)
  have g4 : tF T p < tE T → blB (tB T (tF T p)) = false := fun a => by
    have := fs_yes (P := fun i => !blB (tB T i)) (e := tE T) (p := p) a
    have this : (!blB (tB T (tF T p))) = true := this
    exact nb_f this
  have fin : ab_Ev X l i_Tape_advance 38 [some (.ref 1)] [] (va_up (va_up w 2 (aI 640 (tB T))) 1 (oTape (nI (tL T)) (nI (tE T)) (nI (tF T p)) d e f)) n 0 0 (ab_q1 none (va_up (va_up w 2 (aI 640 (tB T))) 1 (oTk T p f)) n) := by
    by_cases c : tF T p < tE T
    · obtain ⟨k1, k2, k3⟩ := tk_go hp c
      have at99 : anB (tB T (tF T p)) = true → ab_Ev X l i_Tape_advance 99 [some (.ref 1)] [] (va_up (va_up w 2 (aI 640 (tB T))) 1 (oTape (nI (tL T)) (nI (tE T)) (nI (tF T p)) d (nI (tF T p)) f)) n 0 0 (ab_q1 none (va_up (va_up w 2 (aI 640 (tB T))) 1 (oTk T p f)) n) := by
        intro ha
        rw [k1] at ha ⊢
        obtain ⟨e1, e2, e3⟩ := tk_run k2 k3 ha
        have e4 := @rK_123 (tB T) (tQ T p) (tR T (tQ T p) - tQ T p)
        refine ab_sound ok_79 [] 80 ?_
        (refine Exists.intro 0 ?_; refine ⟨0, _, Nat.zero_le _, Nat.zero_le _, c_Tape_readRun (tQ T p) (tL T) _ _ (by omega) hL rfl rfl, ?_⟩; refine ab_q1_elim ?_)
        refine ⟨rfl, ?_, rfl⟩
        rw [va_uu]
        unfold oTk cN cK cV
        rw [if_neg (by omega), if_neg (by omega), if_neg (by omega), if_pos ha, e1, e2, e3]
        rfl
      refine ab_sound ok_79 [99] 80 ?_
      refine And.intro (fun _ => ?_) (fun h_9 => absurd (nI_lt c (by omega)) h_9)
      (refine Exists.intro 0 ?_; refine ⟨0, _, Nat.zero_le _, Nat.zero_le _, c_Tape_byteAt _ (tF T p) _ _ rfl (by omega) rfl rfl, ?_⟩; refine ab_q1_elim ?_)
      (refine Exists.intro 0 ?_; refine ⟨0, _, Nat.zero_le _, Nat.zero_le _, c_Tape_isLetter _ _ _, ?_⟩; refine ab_q1_elim ?_)
      cases hc : leB (tB T (tF T p))
      · refine And.intro (fun h_9 => absurd (rfl) h_9) (fun _ => ?_)
        (refine Exists.intro 0 ?_; refine ⟨0, _, Nat.zero_le _, Nat.zero_le _, c_Tape_byteAt _ (tF T p) _ _ rfl (by omega) rfl rfl, ?_⟩; refine ab_q1_elim ?_)
        (refine Exists.intro 0 ?_; refine ⟨0, _, Nat.zero_le _, Nat.zero_le _, c_Tape_isDigit _ _ _, ?_⟩; refine ab_q1_elim ?_)
        cases hd : diB (tB T (tF T p))
        · refine And.intro (fun _ => ?_) (fun h_9 => absurd (rfl) h_9)
          have ha : anB (tB T (tQ T p)) = false := by rw [← k1]; unfold anB; rw [hc, hd]; rfl
          obtain ⟨e1, e2, e3⟩ := tk_sig k2 k3 ha
          (refine Exists.intro 0 ?_; refine ⟨0, _, Nat.zero_le _, Nat.zero_le _, c_Tape_readSign (tF T p) _ _ (by omega) rfl rfl, ?_⟩; refine ab_q1_elim ?_)
          refine ⟨rfl, ?_, rfl⟩
          simp only [va_uu]
          have e5 : tK T p ≠ 5 ∧ tK T p ≠ 0 := by
            rw [e1]
            by_cases s : sgB (tB T (tQ T p)) = true
            · rw [if_pos s]; omega
            · rw [if_neg s]; omega
          unfold oTk cN cK cV
          rw [if_neg (fun z => z.elim e5.1 e5.2), if_neg e5.1, if_neg (fun z => z.elim e5.1 e5.2), if_neg (by rw [ha]; decide), e1, e2, e3, k1]
          unfold sgK
          by_cases s : sgB (tB T (tQ T p)) = true
          · rw [if_pos s, if_pos s]
          · rw [if_neg s, if_neg s]
        · refine And.intro (fun h_9 => absurd h_9 ((by decide))) (fun _ => ?_)
          refine ab_ev_of (at99 (by unfold anB; rw [hc, hd]; rfl)) rfl rfl ?_
          rw [va_uu]
          rfl
      · refine And.intro (fun _ => ?_) (fun h_9 => absurd h_9 ((by decide)))
        refine ab_ev_of (at99 (by unfold anB; rw [hc]; rfl)) rfl rfl ?_
        rw [va_uu]
        rfl
    · obtain ⟨k1, k2⟩ := tk_end hp (by omega)
      refine ab_sound ok_79 [] 80 ?_
      refine And.intro (fun h_9 => absurd h_9 (nI_nlt (by omega) (by omega))) (fun _ => ?_)
      refine ⟨rfl, ?_, rfl⟩
      simp only [va_uu]
      unfold oTk cN cK cV
      rw [if_pos k1, if_pos k1, k2]
      rcases k1 with k | k
      · rw [if_pos k]; rfl
      · rw [if_neg (by omega), k]; rfl
  have loop : ∀ i, i ≤ tF T p → p ≤ i → ab_Ev X l i_Tape_advance 0 [some (.ref 1)] [] (va_up (va_up w 2 (aI 640 (tB T))) 1 (oTape (nI (tL T)) (nI (tE T)) (nI i) d e f)) n 0 0 (ab_q1 none (va_up (va_up w 2 (aI 640 (tB T))) 1 (oTk T p f)) n) := by
    refine ab_up (tF T p) ?_ (fun i hi ih => ?_)
    · intro _
      refine ab_sound ok_79 [38] 80 ?_
      by_cases c : tF T p < tE T
      · refine And.intro (fun h_9 => absurd h_9 (nI_ge c (by omega))) (fun _ => ?_)
        (refine Exists.intro 0 ?_; refine ⟨0, _, Nat.zero_le _, Nat.zero_le _, c_Tape_byteAt _ (tF T p) _ _ rfl (by omega) rfl rfl, ?_⟩; refine ab_q1_elim ?_)
        (refine Exists.intro 0 ?_; refine ⟨0, _, Nat.zero_le _, Nat.zero_le _, c_Tape_isBlank _ _ _, ?_⟩; refine ab_q1_elim ?_)
        refine And.intro (fun _ => ?_) (fun h_9 => absurd ((by rw [g4 c]; rfl)) h_9)
        exact fin
      · refine And.intro (fun _ => ?_) (fun h_9 => absurd (nI_le (by omega) (by omega)) h_9)
        exact fin
    · intro hp2
      refine ab_sound ok_79 [0] 80 ?_
      refine And.intro (fun h_9 => absurd h_9 (nI_ge (show i < tE T by omega) (by omega))) (fun _ => ?_)
      (refine Exists.intro 0 ?_; refine ⟨0, _, Nat.zero_le _, Nat.zero_le _, c_Tape_byteAt _ i _ _ rfl (by omega) rfl rfl, ?_⟩; refine ab_q1_elim ?_)
      (refine Exists.intro 0 ?_; refine ⟨0, _, Nat.zero_le _, Nat.zero_le _, c_Tape_isBlank _ _ _, ?_⟩; refine ab_q1_elim ?_)
      refine And.intro (fun h_9 => absurd h_9 ((by rw [g3 i hp2 hi]; decide))) (fun _ => ?_)
      exact ab_ev_of (ih (by omega)) rfl rfl (by rw [va_uu, nI_s i]; rfl)
  refine ab_metV cd_79 om_79 rfl rfl ?_
  exact ab_ev_of (loop p g1 (Nat.le_refl _)) rfl rfl rfl
theorem c_Tape_open (T : TE) (w : ab_W) (n : Nat) {b c d e f : Int32} (hL : tL T ≤ 640) (hM : tM T ≤ 640) (h1 : w 1 = oTape (nI (tL T)) b c d e f) (h2 : w 2 = aI 640 (tB T)) :
    ab_C X l i_Tape_open [.ref 1, .int (nI (tM T))] w n 0 0 (ab_q1 none (va_up w 1 (oTk T 0 f)) n) := by
  obtain ⟨w, rfl⟩ := va_ex2 h1 h2
  rw [va_uu]
  have at17 : ab_Ev X l i_Tape_open 17 [some (.ref 1), some (.int (nI (tM T)))] [.int (nI (tE T)), .ref 1] (va_up (va_up w 2 (aI 640 (tB T))) 1 (oTape (nI (tL T)) b c d e f)) n 0 0 (ab_q1 none (va_up (va_up w 2 (aI 640 (tB T))) 1 (oTk T 0 f)) n) := by
    refine ab_sound ok_78 [] 80 ?_
    (refine Exists.intro 0 ?_; refine ⟨0, _, Nat.zero_le _, Nat.zero_le _, c_Tape_advance T 0 _ _ hL (by omega) rfl rfl, ?_⟩; refine ab_q1_elim ?_)
    refine ⟨rfl, ?_, rfl⟩
    simp only [va_uu]
  refine ab_metV cd_78 om_78 rfl rfl (ab_sound ok_78 [17] 80 ?_)
  by_cases c : tL T < tM T
  · refine And.intro (fun h_9 => absurd h_9 (nI_ge c (by omega))) (fun _ => ?_)
    exact ab_ev_of at17 rfl (by unfold tE; rw [show min (tL T) (tM T) = tL T by omega]) rfl
  · refine And.intro (fun _ => ?_) (fun h_9 => absurd (nI_le (by omega) (by omega)) h_9)
    exact ab_ev_of at17 rfl (by unfold tE; rw [show min (tL T) (tM T) = tM T by omega]) rfl
end ADV
