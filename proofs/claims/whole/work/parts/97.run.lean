/-! a run of letters and digits -/
def rV (tb : Nat → Int32) (q m : Nat) (f : Int32) : Int32 := if rK tb q m = 2 then nI (cdB 32 tb q m) else if rK tb q m = 3 then nI (nuB tb q m) else f
theorem nI_mul (a b : Nat) : nI a * nI b = nI (a * b) := (Int32.ofNat_mul a b).symm
theorem le_di {c : Int32} (h : leB c = true) : diB c = false := by
  rw [leB_i] at h
  apply Bool.eq_false_iff.mpr
  intro z
  rw [diB_i] at z
  omega
theorem di_le {c : Int32} (h : diB c = true) : leB c = false := by
  apply Bool.eq_false_iff.mpr
  intro z
  rw [le_di z] at h
  exact absurd h (by decide)
theorem co_s {tb : Nat → Int32} {q j : Nat} (h : leB (tb (q + j)) = true) : nI (cdB 32 tb q j) * nI 32 + tb (q + j) - nI 97 + nI 1 = nI (cdB 32 tb q (j + 1)) := by
  rw [leB_i] at h
  have e : tb (q + j) = nI (tb (q + j)).toInt.toNat := nI_of_toInt (by omega)
  show _ = nI (32 * cdB 32 tb q j + ((tb (q + j)).toInt.toNat - 96))
  conv => lhs; rw [e]
  rw [nI_mul, nI_add, pk_sub (by omega), nI_add]
  congr 1
  omega
theorem nu_s {tb : Nat → Int32} {q j : Nat} (h : diB (tb (q + j)) = true) : nI (nuB tb q j) * nI 10 + tb (q + j) - nI 48 = nI (nuB tb q (j + 1)) := by
  rw [diB_i] at h
  have e : tb (q + j) = nI (tb (q + j)).toInt.toNat := nI_of_toInt (by omega)
  show _ = nI (10 * nuB tb q j + ((tb (q + j)).toInt.toNat - 48))
  conv => lhs; rw [e]
  rw [nI_mul, nI_add, pk_sub (by omega)]
  congr 1
  omega
theorem alL_a {tb : Nat → Int32} {q j : Nat} (h : alL tb q j) (h2 : leB (tb (q + j)) = true) : alL tb q (j + 1) := fun i hi => by
  by_cases e : i = j
  · rw [e]; exact h2
  · exact h i (by omega)
theorem alD_a {tb : Nat → Int32} {q j : Nat} (h : alD tb q j) (h2 : diB (tb (q + j)) = true) : alD tb q (j + 1) := fun i hi => by
  by_cases e : i = j
  · rw [e]; exact h2
  · exact h i (by omega)
section RUN
variable {X : ab_X} {l : Launch}
theorem c_Tape_readRun (q L : Nat) (w : ab_W) (n : Nat) {b d e f : Int32} {tb : Nat → Int32} (hq : q ≤ L) (hL : L ≤ 640) (h1 : w 1 = oTape (nI L) b (nI q) d e f) (h2 : w 2 = aI 640 tb) :
    ab_C X l i_Tape_readRun [.ref 1] w n 0 0 (ab_q1 none (va_up w 1 (oTape (nI L) b (nI (fs (fun i => !anB (tb i)) L q)) (nI (rK tb q (fs (fun i => !anB (tb i)) L q - q))) e (rV tb q (fs (fun i => !anB (tb i)) L q - q) f))) n) := by
  obtain ⟨w, rfl⟩ := va_ex2 h1 h2
  rw [va_uu]
  have g1 := fs_ge (P := fun i => !anB (tb i)) (e := L) (p := q)
  have g2 := fs_le (P := fun i => !anB (tb i)) (e := L) (p := q) hq
  have g3 : ∀ i, q ≤ i → i < fs (fun i => !anB (tb i)) L q → anB (tb i) = true := fun i a b => by
    exact nb_t (fs_no (P := fun i => !anB (tb i)) (e := L) a b)
  have g4 : fs (fun i => !anB (tb i)) L q < L → anB (tb (fs (fun i => !anB (tb i)) L q)) = false := fun a => by
    have := fs_yes (P := fun i => !anB (tb i)) (e := L) (p := q) a
    exact nb_f this
  generalize hr : fs (fun i => !anB (tb i)) L q = r at g1 g2 g3 g4 ⊢
  obtain ⟨m, rfl⟩ : ∃ m, r = q + m := ⟨r - q, by omega⟩
  rw [show q + m - q = m by omega]
  have fin : ∀ (le di : Nat) (co nu : Int32) (x5 : Option Value), le + di = m → (di = 0 → alL tb q m) → (alL tb q m → di = 0 ∧ co = nI (cdB 32 tb q m)) → (le = 0 → alD tb q m) → (alD tb q m → le = 0 ∧ nu = nI (nuB tb q m)) → ab_Ev X l i_Tape_readRun 114 [some (.ref 1), some (.int (nI le)), some (.int (nI di)), some (.int co), some (.int nu), x5] [] (va_up (va_up w 2 (aI 640 tb)) 1 (oTape (nI L) b (nI (q + m)) d e f)) n 0 0 (ab_q1 none (va_up (va_up w 2 (aI 640 tb)) 1 (oTape (nI L) b (nI (q + m)) (nI (rK tb q m)) e (rV tb q m f))) n) := by
    intro le di co nu x5 hs a1 a2 a3 a4
    have at137 : ¬ (alL tb q m ∧ m ≤ 6) → ab_Ev X l i_Tape_readRun 137 [some (.ref 1), some (.int (nI le)), some (.int (nI di)), some (.int co), some (.int nu), x5] [] (va_up (va_up w 2 (aI 640 tb)) 1 (oTape (nI L) b (nI (q + m)) d e f)) n 0 0 (ab_q1 none (va_up (va_up w 2 (aI 640 tb)) 1 (oTape (nI L) b (nI (q + m)) (nI (rK tb q m)) e (rV tb q m f))) n) := by
      intro hn
      by_cases c : alD tb q m ∧ m ≤ 3
      · obtain ⟨c1, c2⟩ := a4 c.1
        have hk : rK tb q m = 3 := by unfold rK; rw [if_neg hn, if_pos c]
        unfold rV
        rw [hk]
        refine ab_sound ok_84 [] 80 ?_
        refine And.intro (fun h_9 => absurd ((by rw [c1]; rfl)) h_9) (fun _ => ?_)
        refine And.intro (fun h_9 => absurd h_9 ((fun z => by have z : nI 3 < nI di := z; rw [nI_ltI (by omega) (by omega)] at z; omega))) (fun _ => ?_)
        refine ⟨rfl, ?_, rfl⟩
        rw [c2]
        exact (by first | rfl | (simp only [va_uu, va_uc, Nat.reduceLT]; done) | (simp only [va_uu, va_uc, Nat.reduceLT]; rfl))
      · have hk : rK tb q m = 1 := by unfold rK; rw [if_neg hn, if_neg c]
        unfold rV
        rw [hk]
        refine ab_sound ok_84 [] 80 ?_
        by_cases c2 : le = 0
        · refine And.intro (fun h_9 => absurd ((by rw [c2]; rfl)) h_9) (fun _ => ?_)
          refine And.intro (fun _ => ?_) (fun h_9 => absurd ((by show nI 3 < nI di; rw [nI_ltI (by omega) (by omega)]; have := a3 c2; have : ¬ m ≤ 3 := fun z => c ⟨this, z⟩; omega)) h_9)
          exact ⟨rfl, (by first | rfl | (simp only [va_uu, va_uc, Nat.reduceLT]; done) | (simp only [va_uu, va_uc, Nat.reduceLT]; rfl)), rfl⟩
        · refine And.intro (fun _ => ?_) (fun h_9 => absurd h_9 ((nI_ne0 (by omega) (by omega))))
          exact ⟨rfl, (by first | rfl | (simp only [va_uu, va_uc, Nat.reduceLT]; done) | (simp only [va_uu, va_uc, Nat.reduceLT]; rfl)), rfl⟩
    refine ab_sound ok_84 [137] 80 ?_
    by_cases c : alL tb q m ∧ m ≤ 6
    · obtain ⟨c1, c2⟩ := a2 c.1
      have hk : rK tb q m = 2 := by unfold rK; rw [if_pos c]
      unfold rV
      rw [hk]
      refine And.intro (fun h_9 => absurd ((by rw [c1]; rfl)) h_9) (fun _ => ?_)
      refine And.intro (fun h_9 => absurd h_9 ((fun z => by have z : nI 6 < nI le := z; rw [nI_ltI (by omega) (by omega)] at z; omega))) (fun _ => ?_)
      refine ⟨rfl, ?_, rfl⟩
      rw [c2]
      exact (by first | rfl | (simp only [va_uu, va_uc, Nat.reduceLT]; done) | (simp only [va_uu, va_uc, Nat.reduceLT]; rfl))
    · by_cases c2 : di = 0
      · refine And.intro (fun h_9 => absurd ((by rw [c2]; rfl)) h_9) (fun _ => ?_)
        refine And.intro (fun _ => ?_) (fun h_9 => absurd ((by show nI 6 < nI le; rw [nI_ltI (by omega) (by omega)]; have := a1 c2; have : ¬ m ≤ 6 := fun z => c ⟨this, z⟩; omega)) h_9)
        exact at137 c
      · refine And.intro (fun _ => ?_) (fun h_9 => absurd h_9 ((nI_ne0 (by omega) (by omega))))
        exact at137 c
  have loop : ∀ j, j ≤ m → ∀ (le di : Nat) (co nu : Int32) (x5 : Option Value), le + di = j → (di = 0 → alL tb q j) → (alL tb q j → di = 0 ∧ co = nI (cdB 32 tb q j)) → (le = 0 → alD tb q j) → (alD tb q j → le = 0 ∧ nu = nI (nuB tb q j)) → ab_Ev X l i_Tape_readRun 9 [some (.ref 1), some (.int (nI le)), some (.int (nI di)), some (.int co), some (.int nu), x5] [] (va_up (va_up w 2 (aI 640 tb)) 1 (oTape (nI L) b (nI (q + j)) d e f)) n 0 0 (ab_q1 none (va_up (va_up w 2 (aI 640 tb)) 1 (oTape (nI L) b (nI (q + m)) (nI (rK tb q m)) e (rV tb q m f))) n) := by
    refine ab_up m ?_ (fun j hj ih => ?_)
    · intro le di co nu x5 hs a1 a2 a3 a4
      refine ab_sound ok_84 [114] 80 ?_
      by_cases c : q + m < L
      · refine And.intro (fun h_9 => absurd h_9 (nI_ge c (by omega))) (fun _ => ?_)
        have g5 := g4 c
        have g6 : leB (tb (q + m)) = false ∧ diB (tb (q + m)) = false := by
          unfold anB at g5
          revert g5
          cases leB (tb (q + m)) <;> cases diB (tb (q + m)) <;> decide
        (refine Exists.intro 0 ?_; refine ⟨0, _, Nat.zero_le _, Nat.zero_le _, c_Tape_byteAt _ (q + m) _ _ rfl (by omega) rfl rfl, ?_⟩; refine ab_q1_elim ?_)
        (refine Exists.intro 0 ?_; refine ⟨0, _, Nat.zero_le _, Nat.zero_le _, c_Tape_isLetter _ _ _, ?_⟩; refine ab_q1_elim ?_)
        refine And.intro (fun h_9 => absurd ((by rw [g6.1]; rfl)) h_9) (fun _ => ?_)
        (refine Exists.intro 0 ?_; refine ⟨0, _, Nat.zero_le _, Nat.zero_le _, c_Tape_byteAt _ (q + m) _ _ rfl (by omega) rfl rfl, ?_⟩; refine ab_q1_elim ?_)
        (refine Exists.intro 0 ?_; refine ⟨0, _, Nat.zero_le _, Nat.zero_le _, c_Tape_isDigit _ _ _, ?_⟩; refine ab_q1_elim ?_)
        refine And.intro (fun _ => ?_) (fun h_9 => absurd ((by rw [g6.2]; rfl)) h_9)
        exact fin le di co nu x5 hs a1 a2 a3 a4
      · refine And.intro (fun _ => ?_) (fun h_9 => absurd (nI_le (by omega) (by omega)) h_9)
        exact fin le di co nu x5 hs a1 a2 a3 a4
    · intro le di co nu x5 hs a1 a2 a3 a4
      have g5 := g3 (q + j) (by omega) (by omega)
      have at48 : ab_Ev X l i_Tape_readRun 48 [some (.ref 1), some (.int (nI le)), some (.int (nI di)), some (.int co), some (.int nu), x5] [] (va_up (va_up w 2 (aI 640 tb)) 1 (oTape (nI L) b (nI (q + j)) d e f)) n 0 0 (ab_q1 none (va_up (va_up w 2 (aI 640 tb)) 1 (oTape (nI L) b (nI (q + m)) (nI (rK tb q m)) e (rV tb q m f))) n) := by
        refine ab_sound ok_84 [9] 80 ?_
        (refine Exists.intro 0 ?_; refine ⟨0, _, Nat.zero_le _, Nat.zero_le _, c_Tape_byteAt _ (q + j) _ _ rfl (by omega) rfl rfl, ?_⟩; refine ab_q1_elim ?_)
        (refine Exists.intro 0 ?_; refine ⟨0, _, Nat.zero_le _, Nat.zero_le _, c_Tape_isLetter _ _ _, ?_⟩; refine ab_q1_elim ?_)
        cases hc : leB (tb (q + j))
        · have hd : diB (tb (q + j)) = true := by
            unfold anB at g5
            rw [hc] at g5
            exact g5
          refine And.intro (fun _ => ?_) (fun h_9 => absurd (rfl) h_9)
          refine ab_ev_of (ih le (di + 1) co (nu * nI 10 + tb (q + j) - nI 48) (some (.int (tb (q + j)))) (by omega) (fun z => absurd z (by omega)) (fun z => ?_) (fun z => alD_a (a3 z) hd) (fun z => ?_)) ?_ rfl ?_
          · have := z j (by omega)
            rw [hc] at this
            exact absurd this (by decide)
          · obtain ⟨b1, b2⟩ := a4 (fun i hi => z i (by omega))
            exact ⟨b1, by rw [b2]; exact nu_s hd⟩
          · rw [nI_s di]; rfl
          · rw [va_uu, ← Nat.add_assoc, nI_s (q + j)]; rfl
        · refine And.intro (fun h_9 => absurd h_9 ((by decide))) (fun _ => ?_)
          refine ab_ev_of (ih (le + 1) di (co * nI 32 + tb (q + j) - nI 97 + nI 1) nu (some (.int (tb (q + j)))) (by omega) (fun z => alL_a (a1 z) hc) (fun z => ?_) (fun z => absurd z (by omega)) (fun z => ?_)) ?_ rfl ?_
          · obtain ⟨b1, b2⟩ := a2 (fun i hi => z i (by omega))
            exact ⟨b1, by rw [b2]; exact co_s hc⟩
          · have := z j (by omega)
            rw [le_di hc] at this
            exact absurd this (by decide)
          · rw [nI_s le]; rfl
          · rw [va_uu, ← Nat.add_assoc, nI_s (q + j)]; rfl
      refine ab_sound ok_84 [48] 80 ?_
      refine And.intro (fun h_9 => absurd h_9 (nI_ge (show q + j < L by omega) (by omega))) (fun _ => ?_)
      (refine Exists.intro 0 ?_; refine ⟨0, _, Nat.zero_le _, Nat.zero_le _, c_Tape_byteAt _ (q + j) _ _ rfl (by omega) rfl rfl, ?_⟩; refine ab_q1_elim ?_)
      (refine Exists.intro 0 ?_; refine ⟨0, _, Nat.zero_le _, Nat.zero_le _, c_Tape_isLetter _ _ _, ?_⟩; refine ab_q1_elim ?_)
      cases hc : leB (tb (q + j))
      · refine And.intro (fun h_9 => absurd (rfl) h_9) (fun _ => ?_)
        (refine Exists.intro 0 ?_; refine ⟨0, _, Nat.zero_le _, Nat.zero_le _, c_Tape_byteAt _ (q + j) _ _ rfl (by omega) rfl rfl, ?_⟩; refine ab_q1_elim ?_)
        (refine Exists.intro 0 ?_; refine ⟨0, _, Nat.zero_le _, Nat.zero_le _, c_Tape_isDigit _ _ _, ?_⟩; refine ab_q1_elim ?_)
        have hd : diB (tb (q + j)) = true := by
          unfold anB at g5
          rw [hc] at g5
          exact g5
        refine And.intro (fun h_9 => absurd h_9 ((by rw [hd]; decide))) (fun _ => ?_)
        exact at48
      · refine And.intro (fun _ => ?_) (fun h_9 => absurd h_9 ((by decide)))
        exact at48
  refine ab_metV cd_84 om_84 rfl rfl (ab_sound ok_84 [9] 80 ?_)
  exact ab_ev_of (loop 0 (by omega) 0 0 (nI 0) (nI 0) none rfl (fun _ i hi => absurd hi (by omega)) (fun _ => ⟨rfl, rfl⟩) (fun _ i hi => absurd hi (by omega)) (fun _ => ⟨rfl, rfl⟩)) rfl rfl rfl
end RUN
