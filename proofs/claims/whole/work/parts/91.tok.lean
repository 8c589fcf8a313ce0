/-! what stands on the tape: words and signs -/
def wdB (j : Nat) (tb : Nat → Int32) (p m : Nat) : Bool := decide (m = ab_sln j ∧ ∀ i, i < ab_sln j → tb (p + i) = ab_sby j i)
section TOK
variable {X : ab_X} {l : Launch}
theorem c_Tape_isWord_n_0 (w : ab_W) (n : Nat) {a b c d e f : Int32} (hd : d ≠ nI 2) (h1 : w 1 = oTape a b c d e f) : ab_C X l i_Tape_isWord [.ref 1, .retAddr 0] w n 0 0 (ab_q1 (some (.int (b01 false))) w n) := by
  obtain ⟨w, rfl⟩ := va_ex h1
  refine ab_metI cd_86 om_86 rfl (ab_sound ok_86 [] 80 ?_)
  refine And.intro (fun _ => ?_) (fun h_9 => absurd h_9 (hd))
  exact ⟨rfl, rfl, rfl, rfl⟩
theorem c_Tape_isWord_0 (p m : Nat) (w : ab_W) (n : Nat) {a b f : Int32} {tb : Nat → Int32} (hpm : p + m ≤ 640) (h1 : w 1 = oTape a b (nI (p + m)) (nI 2) (nI p) f) (h2 : w 2 = aI 640 tb) : ab_C X l i_Tape_isWord [.ref 1, .retAddr 0] w n 0 0 (ab_q1 (some (.int (b01 (wdB 0 tb p m)))) w n) := by
  have hs : ab_sln 0 < 100 := by decide
  have hq : nI (p + m) - nI p = nI m := by rw [pk_sub (by omega), show p + m - p = m by omega]
  obtain ⟨w, rfl⟩ := va_ex2 h1 h2
  refine ab_metI cd_86 om_86 rfl (ab_sound ok_86 [28] 80 ?_)
  refine And.intro (fun h_9 => absurd (rfl) h_9) (fun _ => ?_)
  (refine Exists.intro 0 ?_; refine ⟨0, _, Nat.zero_le _, Nat.zero_le _, c_Str_length_0 _ _, ?_⟩; refine ab_q1_elim ?_)
  rw [hq]
  by_cases e : m = ab_sln 0
  · refine And.intro (fun _ => ?_) (fun h_9 => absurd ((by rw [e])) h_9)
    have loop : ∀ i, i ≤ ab_sln 0 → (∀ j, j < i → tb (p + j) = ab_sby 0 j) → ab_Ev X l i_Tape_isWord 28 [some (.ref 1), some (.retAddr 0), some (.int (nI i))] [] (va_up (va_up w 2 (aI 640 tb)) 1 (oTape a b (nI (p + m)) (nI 2) (nI p) f)) n 0 0 (ab_q1 (some (.int (b01 (wdB 0 tb p m)))) (va_up (va_up w 2 (aI 640 tb)) 1 (oTape a b (nI (p + m)) (nI 2) (nI p) f)) n) := by
      refine ab_up (ab_sln 0) ?_ (fun i hi ih => ?_)
      · intro h
        refine ab_sound ok_86 [28] 80 ?_
        (refine Exists.intro 0 ?_; refine ⟨0, _, Nat.zero_le _, Nat.zero_le _, c_Str_length_0 _ _, ?_⟩; refine ab_q1_elim ?_)
        refine And.intro (fun _ => ?_) (fun h_9 => absurd (nI_le (Nat.le_refl _) (by omega)) h_9)
        unfold wdB
        rw [decide_eq_true ⟨e, h⟩]
        exact ⟨rfl, rfl, rfl, rfl⟩
      · intro h
        refine ab_sound ok_86 [28] 80 ?_
        (refine Exists.intro 0 ?_; refine ⟨0, _, Nat.zero_le _, Nat.zero_le _, c_Str_length_0 _ _, ?_⟩; refine ab_q1_elim ?_)
        refine And.intro (fun h_9 => absurd h_9 (nI_ge hi (by omega))) (fun _ => ?_)
        (refine Exists.intro 0 ?_; refine ⟨0, _, Nat.zero_le _, Nat.zero_le _, c_Tape_byteAt _ (p + i) _ _ (nI_add p i) (by omega) rfl rfl, ?_⟩; refine ab_q1_elim ?_)
        (refine Exists.intro 0 ?_; refine ⟨0, _, Nat.zero_le _, Nat.zero_le _, c_Str_charAt_0 i _ _ hi, ?_⟩; refine ab_q1_elim ?_)
        by_cases e2 : tb (p + i) = ab_sby 0 i
        · refine And.intro (fun _ => ?_) (fun h_9 => absurd (e2) h_9)
          exact ab_ev_of (ih (fun j hj => by
            by_cases e3 : j = i
            · rw [e3]; exact e2
            · exact h j (by omega))) (by rw [nI_s i]; rfl) rfl rfl
        · refine And.intro (fun h_9 => absurd h_9 (e2)) (fun _ => ?_)
          unfold wdB
          rw [decide_eq_false (fun z => e2 (z.2 i hi))]
          exact ⟨rfl, rfl, rfl, rfl⟩
    exact ab_ev_of (loop 0 (by omega) (fun j hj => by omega)) rfl rfl rfl
  · refine And.intro (fun h_9 => absurd h_9 ((fun z => e ((nI_eq (by omega) (by omega)).mp z)))) (fun _ => ?_)
    unfold wdB
    rw [decide_eq_false (fun z => e z.1)]
    exact ⟨rfl, rfl, rfl, rfl⟩
theorem c_Tape_isWord_n_1 (w : ab_W) (n : Nat) {a b c d e f : Int32} (hd : d ≠ nI 2) (h1 : w 1 = oTape a b c d e f) : ab_C X l i_Tape_isWord [.ref 1, .retAddr 1] w n 0 0 (ab_q1 (some (.int (b01 false))) w n) := by
  obtain ⟨w, rfl⟩ := va_ex h1
  refine ab_metI cd_86 om_86 rfl (ab_sound ok_86 [] 80 ?_)
  refine And.intro (fun _ => ?_) (fun h_9 => absurd h_9 (hd))
  exact ⟨rfl, rfl, rfl, rfl⟩
theorem c_Tape_isWord_1 (p m : Nat) (w : ab_W) (n : Nat) {a b f : Int32} {tb : Nat → Int32} (hpm : p + m ≤ 640) (h1 : w 1 = oTape a b (nI (p + m)) (nI 2) (nI p) f) (h2 : w 2 = aI 640 tb) : ab_C X l i_Tape_isWord [.ref 1, .retAddr 1] w n 0 0 (ab_q1 (some (.int (b01 (wdB 1 tb p m)))) w n) := by
  have hs : ab_sln 1 < 100 := by decide
  have hq : nI (p + m) - nI p = nI m := by rw [pk_sub (by omega), show p + m - p = m by omega]
  obtain ⟨w, rfl⟩ := va_ex2 h1 h2
  refine ab_metI cd_86 om_86 rfl (ab_sound ok_86 [28] 80 ?_)
  refine And.intro (fun h_9 => absurd (rfl) h_9) (fun _ => ?_)
  (refine Exists.intro 0 ?_; refine ⟨0, _, Nat.zero_le _, Nat.zero_le _, c_Str_length_1 _ _, ?_⟩; refine ab_q1_elim ?_)
  rw [hq]
  by_cases e : m = ab_sln 1
  · refine And.intro (fun _ => ?_) (fun h_9 => absurd ((by rw [e])) h_9)
    have loop : ∀ i, i ≤ ab_sln 1 → (∀ j, j < i → tb (p + j) = ab_sby 1 j) → ab_Ev X l i_Tape_isWord 28 [some (.ref 1), some (.retAddr 1), some (.int (nI i))] [] (va_up (va_up w 2 (aI 640 tb)) 1 (oTape a b (nI (p + m)) (nI 2) (nI p) f)) n 0 0 (ab_q1 (some (.int (b01 (wdB 1 tb p m)))) (va_up (va_up w 2 (aI 640 tb)) 1 (oTape a b (nI (p + m)) (nI 2) (nI p) f)) n) := by
      refine ab_up (ab_sln 1) ?_ (fun i hi ih => ?_)
      · intro h
        refine ab_sound ok_86 [28] 80 ?_
        (refine Exists.intro 0 ?_; refine ⟨0, _, Nat.zero_le _, Nat.zero_le _, c_Str_length_1 _ _, ?_⟩; refine ab_q1_elim ?_)
        refine And.intro (fun _ => ?_) (fun h_9 => absurd (nI_le (Nat.le_refl _) (by omega)) h_9)
        unfold wdB
        rw [decide_eq_true ⟨e, h⟩]
        exact ⟨rfl, rfl, rfl, rfl⟩
      · intro h
        refine ab_sound ok_86 [28] 80 ?_
        (refine Exists.intro 0 ?_; refine ⟨0, _, Nat.zero_le _, Nat.zero_le _, c_Str_length_1 _ _, ?_⟩; refine ab_q1_elim ?_)
        refine And.intro (fun h_9 => absurd h_9 (nI_ge hi (by omega))) (fun _ => ?_)
        (refine Exists.intro 0 ?_; refine ⟨0, _, Nat.zero_le _, Nat.zero_le _, c_Tape_byteAt _ (p + i) _ _ (nI_add p i) (by omega) rfl rfl, ?_⟩; refine ab_q1_elim ?_)
        (refine Exists.intro 0 ?_; refine ⟨0, _, Nat.zero_le _, Nat.zero_le _, c_Str_charAt_1 i _ _ hi, ?_⟩; refine ab_q1_elim ?_)
        by_cases e2 : tb (p + i) = ab_sby 1 i
        · refine And.intro (fun _ => ?_) (fun h_9 => absurd (e2) h_9)
          exact ab_ev_of (ih (fun j hj => by
            by_cases e3 : j = i
            · rw [e3]; exact e2
            · exact h j (by omega))) (by rw [nI_s i]; rfl) rfl rfl
        · refine And.intro (fun h_9 => absurd h_9 (e2)) (fun _ => ?_)
          unfold wdB
          rw [decide_eq_false (fun z => e2 (z.2 i hi))]
          exact ⟨rfl, rfl, rfl, rfl⟩
    exact ab_ev_of (loop 0 (by omega) (fun j hj => by omega)) rfl rfl rfl
  · refine And.intro (fun h_9 => absurd h_9 ((fun z => e ((nI_eq (by omega) (by omega)).mp z)))) (fun _ => ?_)
    unfold wdB
    rw [decide_eq_false (fun z => e z.1)]
    exact ⟨rfl, rfl, rfl, rfl⟩
theorem c_Tape_isWord_n_2 (w : ab_W) (n : Nat) {a b c d e f : Int32} (hd : d ≠ nI 2) (h1 : w 1 = oTape a b c d e f) : ab_C X l i_Tape_isWord [.ref 1, .retAddr 2] w n 0 0 (ab_q1 (some (.int (b01 false))) w n) := by
  obtain ⟨w, rfl⟩ := va_ex h1
  refine ab_metI cd_86 om_86 rfl (ab_sound ok_86 [] 80 ?_)
  refine And.intro (fun _ => ?_) (fun h_9 => absurd h_9 (hd))
  exact ⟨rfl, rfl, rfl, rfl⟩
theorem c_Tape_isWord_2 (p m : Nat) (w : ab_W) (n : Nat) {a b f : Int32} {tb : Nat → Int32} (hpm : p + m ≤ 640) (h1 : w 1 = oTape a b (nI (p + m)) (nI 2) (nI p) f) (h2 : w 2 = aI 640 tb) : ab_C X l i_Tape_isWord [.ref 1, .retAddr 2] w n 0 0 (ab_q1 (some (.int (b01 (wdB 2 tb p m)))) w n) := by
  have hs : ab_sln 2 < 100 := by decide
  have hq : nI (p + m) - nI p = nI m := by rw [pk_sub (by omega), show p + m - p = m by omega]
  obtain ⟨w, rfl⟩ := va_ex2 h1 h2
  refine ab_metI cd_86 om_86 rfl (ab_sound ok_86 [28] 80 ?_)
  refine And.intro (fun h_9 => absurd (rfl) h_9) (fun _ => ?_)
  (refine Exists.intro 0 ?_; refine ⟨0, _, Nat.zero_le _, Nat.zero_le _, c_Str_length_2 _ _, ?_⟩; refine ab_q1_elim ?_)
  rw [hq]
  by_cases e : m = ab_sln 2
  · refine And.intro (fun _ => ?_) (fun h_9 => absurd ((by rw [e])) h_9)
    have loop : ∀ i, i ≤ ab_sln 2 → (∀ j, j < i → tb (p + j) = ab_sby 2 j) → ab_Ev X l i_Tape_isWord 28 [some (.ref 1), some (.retAddr 2), some (.int (nI i))] [] (va_up (va_up w 2 (aI 640 tb)) 1 (oTape a b (nI (p + m)) (nI 2) (nI p) f)) n 0 0 (ab_q1 (some (.int (b01 (wdB 2 tb p m)))) (va_up (va_up w 2 (aI 640 tb)) 1 (oTape a b (nI (p + m)) (nI 2) (nI p) f)) n) := by
      refine ab_up (ab_sln 2) ?_ (fun i hi ih => ?_)
      · intro h
        refine ab_sound ok_86 [28] 80 ?_
        (refine Exists.intro 0 ?_; refine ⟨0, _, Nat.zero_le _, Nat.zero_le _, c_Str_length_2 _ _, ?_⟩; refine ab_q1_elim ?_)
        refine And.intro (fun _ => ?_) (fun h_9 => absurd (nI_le (Nat.le_refl _) (by omega)) h_9)
        unfold wdB
        rw [decide_eq_true ⟨e, h⟩]
        exact ⟨rfl, rfl, rfl, rfl⟩
      · intro h
        refine ab_sound ok_86 [28] 80 ?_
        (refine Exists.intro 0 ?_; refine ⟨0, _, Nat.zero_le _, Nat.zero_le _, c_Str_length_2 _ _, ?_⟩; refine ab_q1_elim ?_)
        refine And.intro (fun h_9 => absurd h_9 (nI_ge hi (by omega))) (fun _ => ?_)
        (refine Exists.intro 0 ?_; refine ⟨0, _, Nat.zero_le _, Nat.zero_le _, c_Tape_byteAt _ (p + i) _ _ (nI_add p i) (by omega) rfl rfl, ?_⟩; refine ab_q1_elim ?_)
        (refine Exists.intro 0 ?_; refine ⟨0, _, Nat.zero_le _, Nat.zero_le _, c_Str_charAt_2 i _ _ hi, ?_⟩; refine ab_q1_elim ?_)
        by_cases e2 : tb (p + i) = ab_sby 2 i
        · refine And.intro (fun _ => ?_) (fun h_9 => absurd (e2) h_9)
          exact ab_ev_of (ih (fun j hj => by
            by_cases e3 : j = i
            · rw [e3]; exact e2
            · exact h j (by omega))) (by rw [nI_s i]; rfl) rfl rfl
        · refine And.intro (fun h_9 => absurd h_9 (e2)) (fun _ => ?_)
          unfold wdB
          rw [decide_eq_false (fun z => e2 (z.2 i hi))]
          exact ⟨rfl, rfl, rfl, rfl⟩
    exact ab_ev_of (loop 0 (by omega) (fun j hj => by omega)) rfl rfl rfl
  · refine And.intro (fun h_9 => absurd h_9 ((fun z => e ((nI_eq (by omega) (by omega)).mp z)))) (fun _ => ?_)
    unfold wdB
    rw [decide_eq_false (fun z => e z.1)]
    exact ⟨rfl, rfl, rfl, rfl⟩
theorem c_Tape_isWord_n_3 (w : ab_W) (n : Nat) {a b c d e f : Int32} (hd : d ≠ nI 2) (h1 : w 1 = oTape a b c d e f) : ab_C X l i_Tape_isWord [.ref 1, .retAddr 3] w n 0 0 (ab_q1 (some (.int (b01 false))) w n) := by
  obtain ⟨w, rfl⟩ := va_ex h1
  refine ab_metI cd_86 om_86 rfl (ab_sound ok_86 [] 80 ?_)
  refine And.intro (fun _ => ?_) (fun h_9 => absurd h_9 (hd))
  exact ⟨rfl, rfl, rfl, rfl⟩
theorem c_Tape_isWord_3 (p m : Nat) (w : ab_W) (n : Nat) {a b f : Int32} {tb : Nat → Int32} (hpm : p + m ≤ 640) (h1 : w 1 = oTape a b (nI (p + m)) (nI 2) (nI p) f) (h2 : w 2 = aI 640 tb) : ab_C X l i_Tape_isWord [.ref 1, .retAddr 3] w n 0 0 (ab_q1 (some (.int (b01 (wdB 3 tb p m)))) w n) := by
  have hs : ab_sln 3 < 100 := by decide
  have hq : nI (p + m) - nI p = nI m := by rw [pk_sub (by omega), show p + m - p = m by omega]
  obtain ⟨w, rfl⟩ := va_ex2 h1 h2
  refine ab_metI cd_86 om_86 rfl (ab_sound ok_86 [28] 80 ?_)
  refine And.intro (fun h_9 => absurd (rfl) h_9) (fun _ => ?_)
  (refine Exists.intro 0 ?_; refine ⟨0, _, Nat.zero_le _, Nat.zero_le _, c_Str_length_3 _ _, ?_⟩; refine ab_q1_elim ?_)
  rw [hq]
  by_cases e : m = ab_sln 3
  · refine And.intro (fun _ => ?_) (fun h_9 => absurd ((by rw [e])) h_9)
    have loop : ∀ i, i ≤ ab_sln 3 → (∀ j, j < i → tb (p + j) = ab_sby 3 j) → ab_Ev X l i_Tape_isWord 28 [some (.ref 1), some (.retAddr 3), some (.int (nI i))] [] (va_up (va_up w 2 (aI 640 tb)) 1 (oTape a b (nI (p + m)) (nI 2) (nI p) f)) n 0 0 (ab_q1 (some (.int (b01 (wdB 3 tb p m)))) (va_up (va_up w 2 (aI 640 tb)) 1 (oTape a b (nI (p + m)) (nI 2) (nI p) f)) n) := by
      refine ab_up (ab_sln 3) ?_ (fun i hi ih => ?_)
      · intro h
        refine ab_sound ok_86 [28] 80 ?_
        (refine Exists.intro 0 ?_; refine ⟨0, _, Nat.zero_le _, Nat.zero_le _, c_Str_length_3 _ _, ?_⟩; refine ab_q1_elim ?_)
        refine And.intro (fun _ => ?_) (fun h_9 => absurd (nI_le (Nat.le_refl _) (by omega)) h_9)
        unfold wdB
        rw [decide_eq_true ⟨e, h⟩]
        exact ⟨rfl, rfl, rfl, rfl⟩
      · intro h
        refine ab_sound ok_86 [28] 80 ?_
        (refine Exists.intro 0 ?_; refine ⟨0, _, Nat.zero_le _, Nat.zero_le _, c_Str_length_3 _ _, ?_⟩; refine ab_q1_elim ?_)
        refine And.intro (fun h_9 => absurd h_9 (nI_ge hi (by omega))) (fun _ => ?_)
        (refine Exists.intro 0 ?_; refine ⟨0, _, Nat.zero_le _, Nat.zero_le _, c_Tape_byteAt _ (p + i) _ _ (nI_add p i) (by omega) rfl rfl, ?_⟩; refine ab_q1_elim ?_)
        (refine Exists.intro 0 ?_; refine ⟨0, _, Nat.zero_le _, Nat.zero_le _, c_Str_charAt_3 i _ _ hi, ?_⟩; refine ab_q1_elim ?_)
        by_cases e2 : tb (p + i) = ab_sby 3 i
        · refine And.intro (fun _ => ?_) (fun h_9 => absurd (e2) h_9)
          exact ab_ev_of (ih (fun j hj => by
            by_cases e3 : j = i
            · rw [e3]; exact e2
            · exact h j (by omega))) (by rw [nI_s i]; rfl) rfl rfl
        · refine And.intro (fun h_9 => absurd h_9 (e2)) (fun _ => ?_)
          unfold wdB
          rw [decide_eq_false (fun z => e2 (z.2 i hi))]
          exact ⟨rfl, rfl, rfl, rfl⟩
    exact ab_ev_of (loop 0 (by omega) (fun j hj => by omega)) rfl rfl rfl
  · refine And.intro (fun h_9 => absurd h_9 ((fun z => e ((nI_eq (by omega) (by omega)).mp z)))) (fun _ => ?_)
    unfold wdB
    rw [decide_eq_false (fun z => e z.1)]
    exact ⟨rfl, rfl, rfl, rfl⟩
theorem c_Tape_isWord_n_4 (w : ab_W) (n : Nat) {a b c d e f : Int32} (hd : d ≠ nI 2) (h1 : w 1 = oTape a b c d e f) : ab_C X l i_Tape_isWord [.ref 1, .retAddr 4] w n 0 0 (ab_q1 (some (.int (b01 false))) w n) := by
  obtain ⟨w, rfl⟩ := va_ex h1
  refine ab_metI cd_86 om_86 rfl (ab_sound ok_86 [] 80 ?_)
  refine And.intro (fun _ => ?_) (fun h_9 => absurd h_9 (hd))
  exact ⟨rfl, rfl, rfl, rfl⟩
theorem c_Tape_isWord_4 (p m : Nat) (w : ab_W) (n : Nat) {a b f : Int32} {tb : Nat → Int32} (hpm : p + m ≤ 640) (h1 : w 1 = oTape a b (nI (p + m)) (nI 2) (nI p) f) (h2 : w 2 = aI 640 tb) : ab_C X l i_Tape_isWord [.ref 1, .retAddr 4] w n 0 0 (ab_q1 (some (.int (b01 (wdB 4 tb p m)))) w n) := by
  have hs : ab_sln 4 < 100 := by decide
  have hq : nI (p + m) - nI p = nI m := by rw [pk_sub (by omega), show p + m - p = m by omega]
  obtain ⟨w, rfl⟩ := va_ex2 h1 h2
  refine ab_metI cd_86 om_86 rfl (ab_sound ok_86 [28] 80 ?_)
  refine And.intro (fun h_9 => absurd (rfl) h_9) (fun _ => ?_)
  (refine Exists.intro 0 ?_; refine ⟨0, _, Nat.zero_le _, Nat.zero_le _, c_Str_length_4 _ _, ?_⟩; refine ab_q1_elim ?_)
  rw [hq]
  by_cases e : m = ab_sln 4
  · refine And.intro (fun _ => ?_) (fun h_9 => absurd ((by rw [e])) h_9)
    have loop : ∀ i, i ≤ ab_sln 4 → (∀ j, j < i → tb (p + j) = ab_sby 4 j) → ab_Ev X l i_Tape_isWord 28 [some (.ref 1), some (.retAddr 4), some (.int (nI i))] [] (va_up (va_up w 2 (aI 640 tb)) 1 (oTape a b (nI (p + m)) (nI 2) (nI p) f)) n 0 0 (ab_q1 (some (.int (b01 (wdB 4 tb p m)))) (va_up (va_up w 2 (aI 640 tb)) 1 (oTape a b (nI (p + m)) (nI 2) (nI p) f)) n) := by
      refine ab_up (ab_sln 4) ?_ (fun i hi ih => ?_)
      · intro h
        refine ab_sound ok_86 [28] 80 ?_
        (refine Exists.intro 0 ?_; refine ⟨0, _, Nat.zero_le _, Nat.zero_le _, c_Str_length_4 _ _, ?_⟩; refine ab_q1_elim ?_)
        refine And.intro (fun _ => ?_) (fun h_9 => absurd (nI_le (Nat.le_refl _) (by omega)) h_9)
        unfold wdB
        rw [decide_eq_true ⟨e, h⟩]
        exact ⟨rfl, rfl, rfl, rfl⟩
      · intro h
        refine ab_sound ok_86 [28] 80 ?_
        (refine Exists.intro 0 ?_; refine ⟨0, _, Nat.zero_le _, Nat.zero_le _, c_Str_length_4 _ _, ?_⟩; refine ab_q1_elim ?_)
        refine And.intro (fun h_9 => absurd h_9 (nI_ge hi (by omega))) (fun _ => ?_)
        (refine Exists.intro 0 ?_; refine ⟨0, _, Nat.zero_le _, Nat.zero_le _, c_Tape_byteAt _ (p + i) _ _ (nI_add p i) (by omega) rfl rfl, ?_⟩; refine ab_q1_elim ?_)
        (refine Exists.intro 0 ?_; refine ⟨0, _, Nat.zero_le _, Nat.zero_le _, c_Str_charAt_4 i _ _ hi, ?_⟩; refine ab_q1_elim ?_)
        by_cases e2 : tb (p + i) = ab_sby 4 i
        · refine And.intro (fun _ => ?_) (fun h_9 => absurd (e2) h_9)
          exact ab_ev_of (ih (fun j hj => by
            by_cases e3 : j = i
            · rw [e3]; exact e2
            · exact h j (by omega))) (by rw [nI_s i]; rfl) rfl rfl
        · refine And.intro (fun h_9 => absurd h_9 (e2)) (fun _ => ?_)
          unfold wdB
          rw [decide_eq_false (fun z => e2 (z.2 i hi))]
          exact ⟨rfl, rfl, rfl, rfl⟩
    exact ab_ev_of (loop 0 (by omega) (fun j hj => by omega)) rfl rfl rfl
  · refine And.intro (fun h_9 => absurd h_9 ((fun z => e ((nI_eq (by omega) (by omega)).mp z)))) (fun _ => ?_)
    unfold wdB
    rw [decide_eq_false (fun z => e z.1)]
    exact ⟨rfl, rfl, rfl, rfl⟩
theorem c_Tape_isWord_n_5 (w : ab_W) (n : Nat) {a b c d e f : Int32} (hd : d ≠ nI 2) (h1 : w 1 = oTape a b c d e f) : ab_C X l i_Tape_isWord [.ref 1, .retAddr 5] w n 0 0 (ab_q1 (some (.int (b01 false))) w n) := by
  obtain ⟨w, rfl⟩ := va_ex h1
  refine ab_metI cd_86 om_86 rfl (ab_sound ok_86 [] 80 ?_)
  refine And.intro (fun _ => ?_) (fun h_9 => absurd h_9 (hd))
  exact ⟨rfl, rfl, rfl, rfl⟩
theorem c_Tape_isWord_5 (p m : Nat) (w : ab_W) (n : Nat) {a b f : Int32} {tb : Nat → Int32} (hpm : p + m ≤ 640) (h1 : w 1 = oTape a b (nI (p + m)) (nI 2) (nI p) f) (h2 : w 2 = aI 640 tb) : ab_C X l i_Tape_isWord [.ref 1, .retAddr 5] w n 0 0 (ab_q1 (some (.int (b01 (wdB 5 tb p m)))) w n) := by
  have hs : ab_sln 5 < 100 := by decide
  have hq : nI (p + m) - nI p = nI m := by rw [pk_sub (by omega), show p + m - p = m by omega]
  obtain ⟨w, rfl⟩ := va_ex2 h1 h2
  refine ab_metI cd_86 om_86 rfl (ab_sound ok_86 [28] 80 ?_)
  refine And.intro (fun h_9 => absurd (rfl) h_9) (fun _ => ?_)
  (refine Exists.intro 0 ?_; refine ⟨0, _, Nat.zero_le _, Nat.zero_le _, c_Str_length_5 _ _, ?_⟩; refine ab_q1_elim ?_)
  rw [hq]
  by_cases e : m = ab_sln 5
  · refine And.intro (fun _ => ?_) (fun h_9 => absurd ((by rw [e])) h_9)
    have loop : ∀ i, i ≤ ab_sln 5 → (∀ j, j < i → tb (p + j) = ab_sby 5 j) → ab_Ev X l i_Tape_isWord 28 [some (.ref 1), some (.retAddr 5), some (.int (nI i))] [] (va_up (va_up w 2 (aI 640 tb)) 1 (oTape a b (nI (p + m)) (nI 2) (nI p) f)) n 0 0 (ab_q1 (some (.int (b01 (wdB 5 tb p m)))) (va_up (va_up w 2 (aI 640 tb)) 1 (oTape a b (nI (p + m)) (nI 2) (nI p) f)) n) := by
      refine ab_up (ab_sln 5) ?_ (fun i hi ih => ?_)
      · intro h
        refine ab_sound ok_86 [28] 80 ?_
        (refine Exists.intro 0 ?_; refine ⟨0, _, Nat.zero_le _, Nat.zero_le _, c_Str_length_5 _ _, ?_⟩; refine ab_q1_elim ?_)
        refine And.intro (fun _ => ?_) (fun h_9 => absurd (nI_le (Nat.le_refl _) (by omega)) h_9)
        unfold wdB
        rw [decide_eq_true ⟨e, h⟩]
        exact ⟨rfl, rfl, rfl, rfl⟩
      · intro h
        refine ab_sound ok_86 [28] 80 ?_
        (refine Exists.intro 0 ?_; refine ⟨0, _, Nat.zero_le _, Nat.zero_le _, c_Str_length_5 _ _, ?_⟩; refine ab_q1_elim ?_)
        refine And.intro (fun h_9 => absurd h_9 (nI_ge hi (by omega))) (fun _ => ?_)
        (refine Exists.intro 0 ?_; refine ⟨0, _, Nat.zero_le _, Nat.zero_le _, c_Tape_byteAt _ (p + i) _ _ (nI_add p i) (by omega) rfl rfl, ?_⟩; refine ab_q1_elim ?_)
        (refine Exists.intro 0 ?_; refine ⟨0, _, Nat.zero_le _, Nat.zero_le _, c_Str_charAt_5 i _ _ hi, ?_⟩; refine ab_q1_elim ?_)
        by_cases e2 : tb (p + i) = ab_sby 5 i
        · refine And.intro (fun _ => ?_) (fun h_9 => absurd (e2) h_9)
          exact ab_ev_of (ih (fun j hj => by
            by_cases e3 : j = i
            · rw [e3]; exact e2
            · exact h j (by omega))) (by rw [nI_s i]; rfl) rfl rfl
        · refine And.intro (fun h_9 => absurd h_9 (e2)) (fun _ => ?_)
          unfold wdB
          rw [decide_eq_false (fun z => e2 (z.2 i hi))]
          exact ⟨rfl, rfl, rfl, rfl⟩
    exact ab_ev_of (loop 0 (by omega) (fun j hj => by omega)) rfl rfl rfl
  · refine And.intro (fun h_9 => absurd h_9 ((fun z => e ((nI_eq (by omega) (by omega)).mp z)))) (fun _ => ?_)
    unfold wdB
    rw [decide_eq_false (fun z => e z.1)]
    exact ⟨rfl, rfl, rfl, rfl⟩
theorem c_Tape_isWord_n_6 (w : ab_W) (n : Nat) {a b c d e f : Int32} (hd : d ≠ nI 2) (h1 : w 1 = oTape a b c d e f) : ab_C X l i_Tape_isWord [.ref 1, .retAddr 6] w n 0 0 (ab_q1 (some (.int (b01 false))) w n) := by
  obtain ⟨w, rfl⟩ := va_ex h1
  refine ab_metI cd_86 om_86 rfl (ab_sound ok_86 [] 80 ?_)
  refine And.intro (fun _ => ?_) (fun h_9 => absurd h_9 (hd))
  exact ⟨rfl, rfl, rfl, rfl⟩
theorem c_Tape_isWord_6 (p m : Nat) (w : ab_W) (n : Nat) {a b f : Int32} {tb : Nat → Int32} (hpm : p + m ≤ 640) (h1 : w 1 = oTape a b (nI (p + m)) (nI 2) (nI p) f) (h2 : w 2 = aI 640 tb) : ab_C X l i_Tape_isWord [.ref 1, .retAddr 6] w n 0 0 (ab_q1 (some (.int (b01 (wdB 6 tb p m)))) w n) := by
  have hs : ab_sln 6 < 100 := by decide
  have hq : nI (p + m) - nI p = nI m := by rw [pk_sub (by omega), show p + m - p = m by omega]
  obtain ⟨w, rfl⟩ := va_ex2 h1 h2
  refine ab_metI cd_86 om_86 rfl (ab_sound ok_86 [28] 80 ?_)
  refine And.intro (fun h_9 => absurd (rfl) h_9) (fun _ => ?_)
  (refine Exists.intro 0 ?_; refine ⟨0, _, Nat.zero_le _, Nat.zero_le _, c_Str_length_6 _ _, ?_⟩; refine ab_q1_elim ?_)
  rw [hq]
  by_cases e : m = ab_sln 6
  · refine And.intro (fun _ => ?_) (fun h_9 => absurd ((by rw [e])) h_9)
    have loop : ∀ i, i ≤ ab_sln 6 → (∀ j, j < i → tb (p + j) = ab_sby 6 j) → ab_Ev X l i_Tape_isWord 28 [some (.ref 1), some (.retAddr 6), some (.int (nI i))] [] (va_up (va_up w 2 (aI 640 tb)) 1 (oTape a b (nI (p + m)) (nI 2) (nI p) f)) n 0 0 (ab_q1 (some (.int (b01 (wdB 6 tb p m)))) (va_up (va_up w 2 (aI 640 tb)) 1 (oTape a b (nI (p + m)) (nI 2) (nI p) f)) n) := by
      refine ab_up (ab_sln 6) ?_ (fun i hi ih => ?_)
      · intro h
        refine ab_sound ok_86 [28] 80 ?_
        (refine Exists.intro 0 ?_; refine ⟨0, _, Nat.zero_le _, Nat.zero_le _, c_Str_length_6 _ _, ?_⟩; refine ab_q1_elim ?_)
        refine And.intro (fun _ => ?_) (fun h_9 => absurd (nI_le (Nat.le_refl _) (by omega)) h_9)
        unfold wdB
        rw [decide_eq_true ⟨e, h⟩]
        exact ⟨rfl, rfl, rfl, rfl⟩
      · intro h
        refine ab_sound ok_86 [28] 80 ?_
        (refine Exists.intro 0 ?_; refine ⟨0, _, Nat.zero_le _, Nat.zero_le _, c_Str_length_6 _ _, ?_⟩; refine ab_q1_elim ?_)
        refine And.intro (fun h_9 => absurd h_9 (nI_ge hi (by omega))) (fun _ => ?_)
        (refine Exists.intro 0 ?_; refine ⟨0, _, Nat.zero_le _, Nat.zero_le _, c_Tape_byteAt _ (p + i) _ _ (nI_add p i) (by omega) rfl rfl, ?_⟩; refine ab_q1_elim ?_)
        (refine Exists.intro 0 ?_; refine ⟨0, _, Nat.zero_le _, Nat.zero_le _, c_Str_charAt_6 i _ _ hi, ?_⟩; refine ab_q1_elim ?_)
        by_cases e2 : tb (p + i) = ab_sby 6 i
        · refine And.intro (fun _ => ?_) (fun h_9 => absurd (e2) h_9)
          exact ab_ev_of (ih (fun j hj => by
            by_cases e3 : j = i
            · rw [e3]; exact e2
            · exact h j (by omega))) (by rw [nI_s i]; rfl) rfl rfl
        · refine And.intro (fun h_9 => absurd h_9 (e2)) (fun _ => ?_)
          unfold wdB
          rw [decide_eq_false (fun z => e2 (z.2 i hi))]
          exact ⟨rfl, rfl, rfl, rfl⟩
    exact ab_ev_of (loop 0 (by omega) (fun j hj => by omega)) rfl rfl rfl
  · refine And.intro (fun h_9 => absurd h_9 ((fun z => e ((nI_eq (by omega) (by omega)).mp z)))) (fun _ => ?_)
    unfold wdB
    rw [decide_eq_false (fun z => e z.1)]
    exact ⟨rfl, rfl, rfl, rfl⟩
theorem c_Tape_isWord_n_7 (w : ab_W) (n : Nat) {a b c d e f : Int32} (hd : d ≠ nI 2) (h1 : w 1 = oTape a b c d e f) : ab_C X l i_Tape_isWord [.ref 1, .retAddr 7] w n 0 0 (ab_q1 (some (.int (b01 false))) w n) := by
  obtain ⟨w, rfl⟩ := va_ex h1
  refine ab_metI cd_86 om_86 rfl (ab_sound ok_86 [] 80 ?_)
  refine And.intro (fun _ => ?_) (fun h_9 => absurd h_9 (hd))
  exact ⟨rfl, rfl, rfl, rfl⟩
theorem c_Tape_isWord_7 (p m : Nat) (w : ab_W) (n : Nat) {a b f : Int32} {tb : Nat → Int32} (hpm : p + m ≤ 640) (h1 : w 1 = oTape a b (nI (p + m)) (nI 2) (nI p) f) (h2 : w 2 = aI 640 tb) : ab_C X l i_Tape_isWord [.ref 1, .retAddr 7] w n 0 0 (ab_q1 (some (.int (b01 (wdB 7 tb p m)))) w n) := by
  have hs : ab_sln 7 < 100 := by decide
  have hq : nI (p + m) - nI p = nI m := by rw [pk_sub (by omega), show p + m - p = m by omega]
  obtain ⟨w, rfl⟩ := va_ex2 h1 h2
  refine ab_metI cd_86 om_86 rfl (ab_sound ok_86 [28] 80 ?_)
  refine And.intro (fun h_9 => absurd (rfl) h_9) (fun _ => ?_)
  (refine Exists.intro 0 ?_; refine ⟨0, _, Nat.zero_le _, Nat.zero_le _, c_Str_length_7 _ _, ?_⟩; refine ab_q1_elim ?_)
  rw [hq]
  by_cases e : m = ab_sln 7
  · refine And.intro (fun _ => ?_) (fun h_9 => absurd ((by rw [e])) h_9)
    have loop : ∀ i, i ≤ ab_sln 7 → (∀ j, j < i → tb (p + j) = ab_sby 7 j) → ab_Ev X l i_Tape_isWord 28 [some (.ref 1), some (.retAddr 7), some (.int (nI i))] [] (va_up (va_up w 2 (aI 640 tb)) 1 (oTape a b (nI (p + m)) (nI 2) (nI p) f)) n 0 0 (ab_q1 (some (.int (b01 (wdB 7 tb p m)))) (va_up (va_up w 2 (aI 640 tb)) 1 (oTape a b (nI (p + m)) (nI 2) (nI p) f)) n) := by
      refine ab_up (ab_sln 7) ?_ (fun i hi ih => ?_)
      · intro h
        refine ab_sound ok_86 [28] 80 ?_
        (refine Exists.intro 0 ?_; refine ⟨0, _, Nat.zero_le _, Nat.zero_le _, c_Str_length_7 _ _, ?_⟩; refine ab_q1_elim ?_)
        refine And.intro (fun _ => ?_) (fun h_9 => absurd (nI_le (Nat.le_refl _) (by omega)) h_9)
        unfold wdB
        rw [decide_eq_true ⟨e, h⟩]
        exact ⟨rfl, rfl, rfl, rfl⟩
      · intro h
        refine ab_sound ok_86 [28] 80 ?_
        (refine Exists.intro 0 ?_; refine ⟨0, _, Nat.zero_le _, Nat.zero_le _, c_Str_length_7 _ _, ?_⟩; refine ab_q1_elim ?_)
        refine And.intro (fun h_9 => absurd h_9 (nI_ge hi (by omega))) (fun _ => ?_)
        (refine Exists.intro 0 ?_; refine ⟨0, _, Nat.zero_le _, Nat.zero_le _, c_Tape_byteAt _ (p + i) _ _ (nI_add p i) (by omega) rfl rfl, ?_⟩; refine ab_q1_elim ?_)
        (refine Exists.intro 0 ?_; refine ⟨0, _, Nat.zero_le _, Nat.zero_le _, c_Str_charAt_7 i _ _ hi, ?_⟩; refine ab_q1_elim ?_)
        by_cases e2 : tb (p + i) = ab_sby 7 i
        · refine And.intro (fun _ => ?_) (fun h_9 => absurd (e2) h_9)
          exact ab_ev_of (ih (fun j hj => by
            by_cases e3 : j = i
            · rw [e3]; exact e2
            · exact h j (by omega))) (by rw [nI_s i]; rfl) rfl rfl
        · refine And.intro (fun h_9 => absurd h_9 (e2)) (fun _ => ?_)
          unfold wdB
          rw [decide_eq_false (fun z => e2 (z.2 i hi))]
          exact ⟨rfl, rfl, rfl, rfl⟩
    exact ab_ev_of (loop 0 (by omega) (fun j hj => by omega)) rfl rfl rfl
  · refine And.intro (fun h_9 => absurd h_9 ((fun z => e ((nI_eq (by omega) (by omega)).mp z)))) (fun _ => ?_)
    unfold wdB
    rw [decide_eq_false (fun z => e z.1)]
    exact ⟨rfl, rfl, rfl, rfl⟩
theorem c_Tape_isWord_n_8 (w : ab_W) (n : Nat) {a b c d e f : Int32} (hd : d ≠ nI 2) (h1 : w 1 = oTape a b c d e f) : ab_C X l i_Tape_isWord [.ref 1, .retAddr 8] w n 0 0 (ab_q1 (some (.int (b01 false))) w n) := by
  obtain ⟨w, rfl⟩ := va_ex h1
  refine ab_metI cd_86 om_86 rfl (ab_sound ok_86 [] 80 ?_)
  refine And.intro (fun _ => ?_) (fun h_9 => absurd h_9 (hd))
  exact ⟨rfl, rfl, rfl, rfl⟩
theorem c_Tape_isWord_8 (p m : Nat) (w : ab_W) (n : Nat) {a b f : Int32} {tb : Nat → Int32} (hpm : p + m ≤ 640) (h1 : w 1 = oTape a b (nI (p + m)) (nI 2) (nI p) f) (h2 : w 2 = aI 640 tb) : ab_C X l i_Tape_isWord [.ref 1, .retAddr 8] w n 0 0 (ab_q1 (some (.int (b01 (wdB 8 tb p m)))) w n) := by
  have hs : ab_sln 8 < 100 := by decide
  have hq : nI (p + m) - nI p = nI m := by rw [pk_sub (by omega), show p + m - p = m by omega]
  obtain ⟨w, rfl⟩ := va_ex2 h1 h2
  refine ab_metI cd_86 om_86 rfl (ab_sound ok_86 [28] 80 ?_)
  refine And.intro (fun h_9 => absurd (rfl) h_9) (fun _ => ?_)
  (refine Exists.intro 0 ?_; refine ⟨0, _, Nat.zero_le _, Nat.zero_le _, c_Str_length_8 _ _, ?_⟩; refine ab_q1_elim ?_)
  rw [hq]
  by_cases e : m = ab_sln 8
  · refine And.intro (fun _ => ?_) (fun h_9 => absurd ((by rw [e])) h_9)
    have loop : ∀ i, i ≤ ab_sln 8 → (∀ j, j < i → tb (p + j) = ab_sby 8 j) → ab_Ev X l i_Tape_isWord 28 [some (.ref 1), some (.retAddr 8), some (.int (nI i))] [] (va_up (va_up w 2 (aI 640 tb)) 1 (oTape a b (nI (p + m)) (nI 2) (nI p) f)) n 0 0 (ab_q1 (some (.int (b01 (wdB 8 tb p m)))) (va_up (va_up w 2 (aI 640 tb)) 1 (oTape a b (nI (p + m)) (nI 2) (nI p) f)) n) := by
      refine ab_up (ab_sln 8) ?_ (fun i hi ih => ?_)
      · intro h
        refine ab_sound ok_86 [28] 80 ?_
        (refine Exists.intro 0 ?_; refine ⟨0, _, Nat.zero_le _, Nat.zero_le _, c_Str_length_8 _ _, ?_⟩; refine ab_q1_elim ?_)
        refine And.intro (fun _ => ?_) (fun h_9 => absurd (nI_le (Nat.le_refl _) (by omega)) h_9)
        unfold wdB
        rw [decide_eq_true ⟨e, h⟩]
        exact ⟨rfl, rfl, rfl, rfl⟩
      · intro h
        refine ab_sound ok_86 [28] 80 ?_
        (refine Exists.intro 0 ?_; refine ⟨0, _, Nat.zero_le _, Nat.zero_le _, c_Str_length_8 _ _, ?_⟩; refine ab_q1_elim ?_)
        refine And.intro (fun h_9 => absurd h_9 (nI_ge hi (by omega))) (fun _ => ?_)
        (refine Exists.intro 0 ?_; refine ⟨0, _, Nat.zero_le _, Nat.zero_le _, c_Tape_byteAt _ (p + i) _ _ (nI_add p i) (by omega) rfl rfl, ?_⟩; refine ab_q1_elim ?_)
        (refine Exists.intro 0 ?_; refine ⟨0, _, Nat.zero_le _, Nat.zero_le _, c_Str_charAt_8 i _ _ hi, ?_⟩; refine ab_q1_elim ?_)
        by_cases e2 : tb (p + i) = ab_sby 8 i
        · refine And.intro (fun _ => ?_) (fun h_9 => absurd (e2) h_9)
          exact ab_ev_of (ih (fun j hj => by
            by_cases e3 : j = i
            · rw [e3]; exact e2
            · exact h j (by omega))) (by rw [nI_s i]; rfl) rfl rfl
        · refine And.intro (fun h_9 => absurd h_9 (e2)) (fun _ => ?_)
          unfold wdB
          rw [decide_eq_false (fun z => e2 (z.2 i hi))]
          exact ⟨rfl, rfl, rfl, rfl⟩
    exact ab_ev_of (loop 0 (by omega) (fun j hj => by omega)) rfl rfl rfl
  · refine And.intro (fun h_9 => absurd h_9 ((fun z => e ((nI_eq (by omega) (by omega)).mp z)))) (fun _ => ?_)
    unfold wdB
    rw [decide_eq_false (fun z => e z.1)]
    exact ⟨rfl, rfl, rfl, rfl⟩
theorem c_Tape_isWord_n_9 (w : ab_W) (n : Nat) {a b c d e f : Int32} (hd : d ≠ nI 2) (h1 : w 1 = oTape a b c d e f) : ab_C X l i_Tape_isWord [.ref 1, .retAddr 9] w n 0 0 (ab_q1 (some (.int (b01 false))) w n) := by
  obtain ⟨w, rfl⟩ := va_ex h1
  refine ab_metI cd_86 om_86 rfl (ab_sound ok_86 [] 80 ?_)
  refine And.intro (fun _ => ?_) (fun h_9 => absurd h_9 (hd))
  exact ⟨rfl, rfl, rfl, rfl⟩
theorem c_Tape_isWord_9 (p m : Nat) (w : ab_W) (n : Nat) {a b f : Int32} {tb : Nat → Int32} (hpm : p + m ≤ 640) (h1 : w 1 = oTape a b (nI (p + m)) (nI 2) (nI p) f) (h2 : w 2 = aI 640 tb) : ab_C X l i_Tape_isWord [.ref 1, .retAddr 9] w n 0 0 (ab_q1 (some (.int (b01 (wdB 9 tb p m)))) w n) := by
  have hs : ab_sln 9 < 100 := by decide
  have hq : nI (p + m) - nI p = nI m := by rw [pk_sub (by omega), show p + m - p = m by omega]
  obtain ⟨w, rfl⟩ := va_ex2 h1 h2
  refine ab_metI cd_86 om_86 rfl (ab_sound ok_86 [28] 80 ?_)
  refine And.intro (fun h_9 => absurd (rfl) h_9) (fun _ => ?_)
  (refine Exists.intro 0 ?_; refine ⟨0, _, Nat.zero_le _, Nat.zero_le _, c_Str_length_9 _ _, ?_⟩; refine ab_q1_elim ?_)
  rw [hq]
  by_cases e : m = ab_sln 9
  · refine And.intro (fun _ => ?_) (fun h_9 => absurd ((by rw [e])) h_9)
    have loop : ∀ i, i ≤ ab_sln 9 → (∀ j, j < i → tb (p + j) = ab_sby 9 j) → ab_Ev X l i_Tape_isWord 28 [some (.ref 1), some (.retAddr 9), some (.int (nI i))] [] (va_up (va_up w 2 (aI 640 tb)) 1 (oTape a b (nI (p + m)) (nI 2) (nI p) f)) n 0 0 (ab_q1 (some (.int (b01 (wdB 9 tb p m)))) (va_up (va_up w 2 (aI 640 tb)) 1 (oTape a b (nI (p + m)) (nI 2) (nI p) f)) n) := by
      refine ab_up (ab_sln 9) ?_ (fun i hi ih => ?_)
      · intro h
        refine ab_sound ok_86 [28] 80 ?_
        (refine Exists.intro 0 ?_; refine ⟨0, _, Nat.zero_le _, Nat.zero_le _, c_Str_length_9 _ _, ?_⟩; refine ab_q1_elim ?_)
        refine And.intro (fun _ => ?_) (fun h_9 => absurd (nI_le (Nat.le_refl _) (by omega)) h_9)
        unfold wdB
        rw [decide_eq_true ⟨e, h⟩]
        exact ⟨rfl, rfl, rfl, rfl⟩
      · intro h
        refine ab_sound ok_86 [28] 80 ?_
        (refine Exists.intro 0 ?_; refine ⟨0, _, Nat.zero_le _, Nat.zero_le _, c_Str_length_9 _ _, ?_⟩; refine ab_q1_elim ?_)
        refine And.intro (fun h_9 => absurd h_9 (nI_ge hi (by omega))) (fun _ => ?_)
        (refine Exists.intro 0 ?_; refine ⟨0, _, Nat.zero_le _, Nat.zero_le _, c_Tape_byteAt _ (p + i) _ _ (nI_add p i) (by omega) rfl rfl, ?_⟩; refine ab_q1_elim ?_)
        (refine Exists.intro 0 ?_; refine ⟨0, _, Nat.zero_le _, Nat.zero_le _, c_Str_charAt_9 i _ _ hi, ?_⟩; refine ab_q1_elim ?_)
        by_cases e2 : tb (p + i) = ab_sby 9 i
        · refine And.intro (fun _ => ?_) (fun h_9 => absurd (e2) h_9)
          exact ab_ev_of (ih (fun j hj => by
            by_cases e3 : j = i
            · rw [e3]; exact e2
            · exact h j (by omega))) (by rw [nI_s i]; rfl) rfl rfl
        · refine And.intro (fun h_9 => absurd h_9 (e2)) (fun _ => ?_)
          unfold wdB
          rw [decide_eq_false (fun z => e2 (z.2 i hi))]
          exact ⟨rfl, rfl, rfl, rfl⟩
    exact ab_ev_of (loop 0 (by omega) (fun j hj => by omega)) rfl rfl rfl
  · refine And.intro (fun h_9 => absurd h_9 ((fun z => e ((nI_eq (by omega) (by omega)).mp z)))) (fun _ => ?_)
    unfold wdB
    rw [decide_eq_false (fun z => e z.1)]
    exact ⟨rfl, rfl, rfl, rfl⟩
theorem c_Tape_isSign (x : Int32) (w : ab_W) (n : Nat) {a b c d e f : Int32} (h1 : w 1 = oTape a b c d e f) : ab_C X l i_Tape_isSign [.ref 1, .int x] w n 0 0 (ab_q1 (some (.int (b01 (decide (d = nI 4 ∧ f = x))))) w n) := by
  obtain ⟨w, rfl⟩ := va_ex h1
  refine ab_metI cd_87 om_87 rfl (ab_sound ok_87 [] 80 ?_)
  refine And.intro (fun e1 => ?_) (fun e1 => ?_)
  · rw [decide_eq_false (fun z => e1 z.1)]
    exact ⟨rfl, rfl, rfl, rfl⟩
  refine And.intro (fun e2 => ?_) (fun e2 => ?_)
  · rw [decide_eq_false (fun z => e2 z.2)]
    exact ⟨rfl, rfl, rfl, rfl⟩
  · rw [decide_eq_true ⟨e1, e2⟩]
    exact ⟨rfl, rfl, rfl, rfl⟩
theorem c_Tape_isCut (w : ab_W) (n : Nat) {a b c d e f : Int32} (h1 : w 1 = oTape a b c d e f) : ab_C X l i_Tape_isCut [.ref 1] w n 0 0 (ab_q1 (some (.int (b01 (decide (b < a))))) w n) := by
  obtain ⟨w, rfl⟩ := va_ex h1
  refine ab_metI cd_88 om_88 rfl (ab_sound ok_88 [] 80 ?_)
  refine And.intro (fun e1 => ?_) (fun e1 => ?_)
  · rw [decide_eq_false (i32_nlt.mpr e1)]
    exact ⟨rfl, rfl, rfl, rfl⟩
  · rw [decide_eq_true (i32_nle.mp e1)]
    exact ⟨rfl, rfl, rfl, rfl⟩
theorem c_Mod_isSign (x : Int32) (w : ab_W) (n : Nat) {s : Nat → Int32} {wd tn : Int64} (h90 : w 90 = oMod s wd tn) : ab_C X l i_Mod_isSign [.ref 90, .int x] w n 0 0 (ab_q1 (some (.int (b01 (decide (s 7 = nI 4 ∧ s 9 = x))))) w n) := by
  obtain ⟨w, rfl⟩ := va_ex h90
  refine ab_metI cd_178 om_178 rfl (ab_sound ok_178 [] 80 ?_)
  refine And.intro (fun e1 => ?_) (fun e1 => ?_)
  · rw [decide_eq_false (fun z => e1 z.1)]
    exact ⟨rfl, rfl, rfl, rfl⟩
  refine And.intro (fun e2 => ?_) (fun e2 => ?_)
  · rw [decide_eq_false (fun z => e2 z.2)]
    exact ⟨rfl, rfl, rfl, rfl⟩
  · rw [decide_eq_true ⟨e1, e2⟩]
    exact ⟨rfl, rfl, rfl, rfl⟩
theorem c_Mod_byteAt (x : Int32) (i L : Nat) (w : ab_W) (n : Nat) {s : Nat → Int32} {wd tn : Int64} {tb : Nat → Int32} (hx : x = nI i) (hL : L ≤ 640) (hi : i ≤ 640) (h90 : w 90 = oMod s wd tn) (hs : s 3 = nI L) (h91 : w 91 = aI 640 tb) : ab_C X l i_Mod_byteAt [.ref 90, .int x] w n 0 0 (ab_q1 (some (.int (if i < L then tb i else nI 0))) w n) := by
  subst hx
  obtain ⟨w, rfl⟩ := va_ex2 h90 h91
  refine ab_metI cd_159 om_159 rfl (ab_sound ok_159 [] 80 ?_)
  by_cases e : i < L
  · refine And.intro (fun h_9 => absurd h_9 ((by show ¬ s 3 ≤ nI i; rw [hs]; exact nI_ge e (by omega)))) (fun _ => ?_)
    refine And.intro (vp_in_nI (by omega) (by omega)) ?_
    rw [nI_clamp (by omega), if_pos e]
    exact ⟨rfl, rfl, rfl⟩
  · refine And.intro (fun _ => ?_) (fun h_9 => absurd ((by show s 3 ≤ nI i; rw [hs]; exact nI_le (by omega) (by omega))) h_9)
    rw [if_neg e]
    exact ⟨rfl, rfl, rfl⟩
end TOK
