/-! the next token, for the model -/
def mK (T : TE) (p : Nat) : Nat := if tK T p = 5 then 1 else tK T p
def AtM (T : TE) (p : Nat) (s : Nat → Int32) (wd : Int64) : Prop := s 6 = nI (tP T p) ∧ s 7 = nI (mK T p) ∧ (2 ≤ tK T p → tK T p ≤ 4 → s 5 = nI (tX T p)) ∧ (tK T p = 2 → wd = lN (cv (tV T p))) ∧ (tK T p = 3 → s 8 = nI (tV T p)) ∧ (tK T p = 4 → s 9 = nI (tV T p))
def FGo (k : Nat) : Prop := 5 ≤ k ∧ k ≤ 9
def goQ (T : TE) (p : Nat) (w : ab_W) (n : Nat) (s : Nat → Int32) (tn : Int64) (w' : ab_W) (n' : Nat) : Prop := n = n' ∧ ∃ s' wd', w' = va_up w 90 (oMod s' wd' tn) ∧ Fr FGo s s' ∧ AtM T p s' wd'
theorem wo_s {tb : Nat → Int32} {q j : Nat} (h : leB (tb (q + j)) = true) : 27 * lN (cdB 27 tb q j) + (tb (q + j)).toInt64 - 96 = lN (cdB 27 tb q (j + 1)) := by
  rw [leB_i] at h
  have e : tb (q + j) = nI (tb (q + j)).toInt.toNat := nI_of_toInt (by omega)
  show _ = lN (27 * cdB 27 tb q j + ((tb (q + j)).toInt.toNat - 96))
  conv => lhs; rw [e]
  rw [nI_l (by omega)]
  show lN 27 * lN (cdB 27 tb q j) + lN (tb (q + j)).toInt.toNat - lN 96 = _
  rw [lN_mul, lN_add, lN_sub (by omega)]
  congr 1
  omega
theorem nu_m {tb : Nat → Int32} {q j : Nat} (h : diB (tb (q + j)) = true) : nI 10 * nI (nuB tb q j) + tb (q + j) - nI 48 = nI (nuB tb q (j + 1)) := by
  rw [← nu_s h, Int32.mul_comm (nI 10)]
def gdB (tb : Nat → Int32) (q : Nat) (le : Bool) (j : Nat) : Bool := decide (∀ i, i < j → leB (tb (q + i)) = le)
theorem gd_s {tb : Nat → Int32} {q j : Nat} {le : Bool} : gdB tb q le (j + 1) = (gdB tb q le j && decide (leB (tb (q + j)) = le)) := by
  unfold gdB
  rw [← Bool.decide_and]
  refine decide_eq_decide.mpr ⟨fun h => ⟨fun i hi => h i (by omega), h j (by omega)⟩, fun h i hi => ?_⟩
  by_cases e : i = j
  · rw [e]; exact h.2
  · exact h.1 i (by omega)
theorem b01_eq {a b : Bool} : b01 a = b01 b ↔ a = b := by
  cases a <;> cases b <;> decide
section GO
variable {X : ab_X} {l : Launch}
theorem k_go186 (T : TE) (p : Nat) (w : ab_W) (n : Nat) {s s' : Nat → Int32} {wd tn : Int64} {Q : ab_W → Nat → Prop} (hL : tL T ≤ 640) (hp : p ≤ tL T) (h3 : s 3 = nI (tL T)) (hf : Fr FGo s s') (h5 : s' 5 = nI (tQ T p)) (h6 : s' 6 = nI (tQ T p)) (k2 : tQ T p < tL T) (k3 : ¬ (tM T < tL T ∧ tM T ≤ tQ T p)) (ha : anB (tB T (tQ T p)) = true) (hq : ∀ (w' : ab_W) (s' : Nat → Int32) (wd' : Int64), w' = va_up (va_up w 91 (aI 640 (tB T))) 90 (oMod s' wd' tn) → Fr FGo s s' → AtM T p s' wd' → Q w' n) :
    ab_Ev X l i_Mod_go 186 [some (.ref 90), some (.int (tB T (tQ T p))), none, none, none] [] (va_up (va_up w 91 (aI 640 (tB T))) 90 (oMod s' wd tn)) n 0 0 (qV Q) := by
  have q2 : tQ T p ≤ tL T := tQ_le hp
  obtain ⟨t1, t2, t3⟩ := tk_run k2 k3 ha
  have r1 := tR_gt k2 ha
  have r2 := tR_le (T := T) (q := tQ T p) q2
  have r3 : ∀ i, tQ T p ≤ i → i < tR T (tQ T p) → anB (tB T i) = true := fun i a b => by
    exact nb_t (fs_no (P := fun i => !anB (tB T i)) (e := tL T) a b)
  have r4 : tR T (tQ T p) < tL T → anB (tB T (tR T (tQ T p))) = false := fun a => by
    have := fs_yes (P := fun i => !anB (tB T i)) (e := tL T) (p := tQ T p) a
    have this : (!anB (tB T (tR T (tQ T p)))) = true := this
    exact nb_f this
  generalize hr : tR T (tQ T p) = r at *
  obtain ⟨m, rfl⟩ : ∃ m, r = tQ T p + m := ⟨r - tQ T p, by omega⟩
  rw [show tQ T p + m - tQ T p = m by omega] at t1
  generalize hqq : tQ T p = q at *
  have hrk : rK (tB T) q m = (if gdB (tB T) q (leB (tB T q)) m = true ∧ m ≤ (if leB (tB T q) = true then 6 else 3) then (if leB (tB T q) = true then 2 else 3) else 1) := by
    unfold rK
    cases hc : leB (tB T q)
    · have hd : diB (tB T q) = true := by unfold anB at ha; rw [hc] at ha; exact ha
      have n1 : ¬ alL (tB T) q m := fun z => by
        have := z 0 (by omega)
        rw [Nat.add_zero, hc] at this
        exact absurd this (by decide)
      have n2 : alD (tB T) q m ↔ gdB (tB T) q false m = true := by
        unfold gdB
        rw [decide_eq_true_iff]
        refine ⟨fun z i hi => di_le (z i hi), fun z i hi => ?_⟩
        have := r3 (q + i) (by omega) (by omega)
        unfold anB at this
        rw [z i hi] at this
        exact this
      rw [if_neg (fun z => n1 z.1)]
      by_cases c : alD (tB T) q m ∧ m ≤ 3
      · rw [if_pos c, if_pos ⟨n2.mp c.1, by rw [if_neg (by decide)]; exact c.2⟩, if_neg (by decide)]
      · rw [if_neg c, if_neg (fun z => c ⟨n2.mpr z.1, by have := z.2; rw [if_neg (by decide)] at this; exact this⟩)]
    · have n1 : ¬ alD (tB T) q m := fun z => by
        have := z 0 (by omega)
        rw [Nat.add_zero, le_di hc] at this
        exact absurd this (by decide)
      have n2 : alL (tB T) q m ↔ gdB (tB T) q true m = true := by
        unfold gdB
        rw [decide_eq_true_iff]
      by_cases c : alL (tB T) q m ∧ m ≤ 6
      · rw [if_pos c, if_pos ⟨n2.mp c.1, by rw [if_pos rfl]; exact c.2⟩, if_pos rfl]
      · rw [if_neg c, if_neg (fun z => n1 z.1), if_neg (fun z => c ⟨n2.mpr z.1, by have := z.2; rw [if_pos rfl] at this; exact this⟩)]
  have fin : ∀ (s1 : Nat → Int32) (wd1 : Int64) (x4 : Option Value), Fr FGo s s1 → s1 5 = nI (q + m) → s1 6 = nI q → (alL (tB T) q m → m ≤ 6 → wd1 = lN (cdB 27 (tB T) q m)) → (alD (tB T) q m → m ≤ 3 → s1 8 = nI (nuB (tB T) q m)) → ab_Ev X l i_Mod_go 338 [some (.ref 90), some (.int (tB T q)), some (.int (b01 (leB (tB T q)))), some (.int (b01 (gdB (tB T) q (leB (tB T q)) m))), x4] [] (va_up (va_up w 91 (aI 640 (tB T))) 90 (oMod s1 wd1 tn)) n 0 0 (qV Q) := by
    intro s1 wd1 x4 hf1 f5 f6 fw fn
    have end1 : ∀ (w' : ab_W), w' = va_up (va_up w 91 (aI 640 (tB T))) 90 (oMod (upd s1 7 (nI (rK (tB T) q m))) wd1 tn) → Q w' n := by
      intro w' hw
      refine hq w' _ _ hw (hf1.us ⟨by omega, by omega⟩) ⟨?_, ?_, fun _ _ => ?_, fun z => ?_, fun z => ?_, fun z => ?_⟩
      · rw [upd_ne (by omega), f6, t2]
      · rw [upd_at]
        unfold mK
        have := @rK_123 (tB T) q m
        rw [if_neg (by omega), t1]
      · rw [upd_ne (by omega), f5, t3]
      · obtain ⟨m2, w1, w2, w3, w4, _⟩ := tk_word hp z
        rw [hqq] at w1 w3 w4
        rw [hr] at w1
        have : m2 = m := by omega
        subst this
        rw [fw w3 w2, vd_cv w2 w3 w4]
      · obtain ⟨m2, w1, w2, w3, w4, _⟩ := tk_num hp z
        rw [hqq] at w1 w3 w4
        rw [hr] at w1
        have : m2 = m := by omega
        subst this
        rw [upd_ne (by omega), fn w3 w2, w4]
      · have := @rK_123 (tB T) q m
        omega
    have hsub : s1 5 - s1 6 = nI m := by rw [f5, f6, pk_sub (by omega), show q + m - q = m by omega]
    have at378 : ∀ v : Nat, v = rK (tB T) q m → ab_Ev X l i_Mod_go 378 [some (.ref 90), some (.int (tB T q)), some (.int (b01 (leB (tB T q)))), some (.int (b01 (gdB (tB T) q (leB (tB T q)) m))), x4] [.int (nI v), .ref 90] (va_up (va_up w 91 (aI 640 (tB T))) 90 (oMod s1 wd1 tn)) n 0 0 (qV Q) := by
      intro v hv
      subst hv
      refine ab_sound ok_156 [] 80 ?_
      exact ⟨rfl, end1 _ (by first | rfl | (simp only [va_uu, va_uc, Nat.reduceLT]; done) | (simp only [va_uu, va_uc, Nat.reduceLT]; rfl))⟩
    have at362 : ∀ lim : Nat, lim = (if leB (tB T q) = true then 6 else 3) → gdB (tB T) q (leB (tB T q)) m = true → ab_Ev X l i_Mod_go 362 [some (.ref 90), some (.int (tB T q)), some (.int (b01 (leB (tB T q)))), some (.int (b01 (gdB (tB T) q (leB (tB T q)) m))), x4] [.int (nI lim), .int (nI m), .ref 90] (va_up (va_up w 91 (aI 640 (tB T))) 90 (oMod s1 wd1 tn)) n 0 0 (qV Q) := by
      intro lim hl hg
      rw [← hl] at hrk
      have hl6 : lim ≤ 6 := by
        rw [hl]
        by_cases z : leB (tB T q) = true
        · rw [if_pos z]; omega
        · rw [if_neg z]; omega
      refine ab_sound ok_156 [378] 80 ?_
      by_cases c : m ≤ lim
      · refine And.intro (fun _ => ?_) (fun h_9 => absurd (nI_le c (by omega)) h_9)
        rw [if_pos ⟨hg, c⟩] at hrk
        cases hc : leB (tB T q)
        · rw [hc] at hrk at378
          refine And.intro (fun _ => ?_) (fun h_9 => absurd (rfl) h_9)
          exact at378 3 hrk.symm
        · rw [hc] at hrk at378
          refine And.intro (fun h_9 => absurd h_9 ((by decide))) (fun _ => ?_)
          exact at378 2 hrk.symm
      · refine And.intro (fun h_9 => absurd h_9 (nI_ge (by omega) (by omega))) (fun _ => ?_)
        rw [if_neg (fun z => c z.2)] at hrk
        exact at378 1 hrk.symm
    refine ab_sound ok_156 [362, 378] 80 ?_
    cases hg : gdB (tB T) q (leB (tB T q)) m
    · refine And.intro (fun _ => ?_) (fun h_9 => absurd (rfl) h_9)
      rw [hg, if_neg (fun z => absurd z.1 (by decide))] at hrk
      rw [hg] at at378
      exact at378 1 hrk.symm
    · refine And.intro (fun h_9 => absurd h_9 ((by decide))) (fun _ => ?_)
      rw [hg] at at362
      cases hc : leB (tB T q)
      · refine And.intro (fun _ => ?_) (fun h_9 => absurd (rfl) h_9)
        rw [hc] at at362
        exact ab_ev_of (at362 3 (by rw [if_neg (by decide)]) rfl) rfl (by rw [← hsub]) rfl
      · refine And.intro (fun h_9 => absurd h_9 ((by decide))) (fun _ => ?_)
        rw [hc] at at362
        exact ab_ev_of (at362 6 (by rw [if_pos rfl]) rfl) rfl (by rw [← hsub]) rfl
  have loop : ∀ j, j ≤ m → ∀ (s1 : Nat → Int32) (wd1 : Int64) (x4 : Option Value), Fr FGo s s1 → s1 5 = nI (q + j) → s1 6 = nI q → (alL (tB T) q j → j ≤ 6 → wd1 = lN (cdB 27 (tB T) q j)) → (alD (tB T) q j → j ≤ 3 → s1 8 = nI (nuB (tB T) q j)) → ab_Ev X l i_Mod_go 203 [some (.ref 90), some (.int (tB T q)), some (.int (b01 (leB (tB T q)))), some (.int (b01 (gdB (tB T) q (leB (tB T q)) j))), x4] [] (va_up (va_up w 91 (aI 640 (tB T))) 90 (oMod s1 wd1 tn)) n 0 0 (qV Q) := by
    refine ab_up m ?_ (fun j hj ih => ?_)
    · intro s1 wd1 x4 hf1 f5 f6 fw fn
      have f3 : s1 3 = nI (tL T) := by rw [hf1 3 (by unfold FGo; omega), h3]
      have g6 : leB (if q + m < tL T then tB T (q + m) else nI 0) = false ∧ diB (if q + m < tL T then tB T (q + m) else nI 0) = false := by
        by_cases c : q + m < tL T
        · rw [if_pos c]
          have g5 := r4 c
          unfold anB at g5
          revert g5
          cases leB (tB T (q + m)) <;> cases diB (tB T (q + m)) <;> decide
        · rw [if_neg c]
          exact ⟨by decide, by decide⟩
      refine ab_sound ok_156 [338] 80 ?_
      (refine Exists.intro 0 ?_; refine ⟨0, _, Nat.zero_le _, Nat.zero_le _, c_Mod_byteAt _ (q + m) (tL T) _ _ f5 hL (by omega) rfl f3 rfl, ?_⟩; refine ab_q1_elim ?_)
      (refine Exists.intro 0 ?_; refine ⟨0, _, Nat.zero_le _, Nat.zero_le _, c_Mod_isLetter _ _ _, ?_⟩; refine ab_q1_elim ?_)
      refine And.intro (fun h_9 => absurd ((by rw [g6.1]; rfl)) h_9) (fun _ => ?_)
      (refine Exists.intro 0 ?_; refine ⟨0, _, Nat.zero_le _, Nat.zero_le _, c_Mod_byteAt _ (q + m) (tL T) _ _ f5 hL (by omega) rfl f3 rfl, ?_⟩; refine ab_q1_elim ?_)
      (refine Exists.intro 0 ?_; refine ⟨0, _, Nat.zero_le _, Nat.zero_le _, c_Mod_isDigit _ _ _, ?_⟩; refine ab_q1_elim ?_)
      refine And.intro (fun _ => ?_) (fun h_9 => absurd ((by rw [g6.2]; rfl)) h_9)
      exact fin s1 wd1 x4 hf1 f5 f6 fw fn
    · intro s1 wd1 x4 hf1 f5 f6 fw fn
      have f3 : s1 3 = nI (tL T) := by rw [hf1 3 (by unfold FGo; omega), h3]
      have g5 := r3 (q + j) (by omega) (by omega)
      have hsub : s1 5 - s1 6 = nI j := by rw [f5, f6, pk_sub (by omega), show q + j - q = j by omega]
      have at325 : ∀ (s2 : Nat → Int32) (wd2 : Int64), Fr FGo s s2 → s2 5 = nI (q + j) → s2 6 = nI q → (alL (tB T) q (j + 1) → j + 1 ≤ 6 → wd2 = lN (cdB 27 (tB T) q (j + 1))) → (alD (tB T) q (j + 1) → j + 1 ≤ 3 → s2 8 = nI (nuB (tB T) q (j + 1))) → ab_Ev X l i_Mod_go 325 [some (.ref 90), some (.int (tB T q)), some (.int (b01 (leB (tB T q)))), some (.int (b01 (gdB (tB T) q (leB (tB T q)) (j + 1)))), some (.int (tB T (q + j)))] [] (va_up (va_up w 91 (aI 640 (tB T))) 90 (oMod s2 wd2 tn)) n 0 0 (qV Q) := by
        intro s2 wd2 hf2 e5 e6 ew en
        refine ab_sound ok_156 [203] 80 ?_
        refine ab_ev_of (ih (upd s2 5 (s2 5 + nI 1)) wd2 (some (.int (tB T (q + j)))) (hf2.us ⟨by omega, by omega⟩) (by rw [upd_at, e5, nI_add]; rfl) (by rw [upd_ne (by omega), e6]) ew (fun a b => by rw [upd_ne (by omega)]; exact en a b)) rfl rfl ?_
        rw [va_uu]
        rfl
      have at295 : ∀ (wd2 : Int64), (alL (tB T) q (j + 1) → j + 1 ≤ 6 → wd2 = lN (cdB 27 (tB T) q (j + 1))) → ab_Ev X l i_Mod_go 295 [some (.ref 90), some (.int (tB T q)), some (.int (b01 (leB (tB T q)))), some (.int (b01 (gdB (tB T) q (leB (tB T q)) (j + 1)))), some (.int (tB T (q + j)))] [] (va_up (va_up w 91 (aI 640 (tB T))) 90 (oMod s1 wd2 tn)) n 0 0 (qV Q) := by
        intro wd2 ew
        refine ab_sound ok_156 [325] 80 ?_
        by_cases c : j < 3
        · refine And.intro (fun h_9 => absurd h_9 ((by show ¬ nI 3 ≤ s1 5 - s1 6; rw [hsub]; exact nI_ge c (by omega)))) (fun _ => ?_)
          refine ab_ev_of (at325 (upd s1 8 (nI 10 * s1 8 + tB T (q + j) - nI 48)) wd2 (hf1.us ⟨by omega, by omega⟩) (by rw [upd_ne (by omega), f5]) (by rw [upd_ne (by omega), f6]) ew (fun a b => ?_)) rfl rfl ?_
          · rw [upd_at, fn (fun i hi => a i (by omega)) (by omega)]
            exact nu_m (a j (by omega))
          · rw [va_uu]
            rfl
        · refine And.intro (fun _ => ?_) (fun h_9 => absurd ((by show nI 3 ≤ s1 5 - s1 6; rw [hsub]; exact nI_le (by omega) (by omega))) h_9)
          exact at325 s1 wd2 hf1 f5 f6 ew (fun a b => absurd b (by omega))
      have at260 : ∀ g : Bool, g = gdB (tB T) q (leB (tB T q)) (j + 1) → ab_Ev X l i_Mod_go 260 [some (.ref 90), some (.int (tB T q)), some (.int (b01 (leB (tB T q)))), some (.int (b01 (gdB (tB T) q (leB (tB T q)) j))), some (.int (tB T (q + j)))] [.int (b01 g)] (va_up (va_up w 91 (aI 640 (tB T))) 90 (oMod s1 wd1 tn)) n 0 0 (qV Q) := by
        intro g hg
        subst hg
        refine ab_sound ok_156 [295] 80 ?_
        by_cases c : j < 6
        · refine And.intro (fun h_9 => absurd h_9 ((by show ¬ nI 6 ≤ s1 5 - s1 6; rw [hsub]; exact nI_ge c (by omega)))) (fun _ => ?_)
          refine ab_ev_of (at295 (27 * wd1 + (tB T (q + j)).toInt64 - 96) (fun a b => ?_)) rfl rfl ?_
          · rw [fw (fun i hi => a i (by omega)) (by omega)]
            exact wo_s (a j (by omega))
          · rw [va_uu]
            rfl
        · refine And.intro (fun _ => ?_) (fun h_9 => absurd ((by show nI 6 ≤ s1 5 - s1 6; rw [hsub]; exact nI_le (by omega) (by omega))) h_9)
          exact at295 wd1 (fun a b => absurd b (by omega))
      have at231 : ab_Ev X l i_Mod_go 231 [some (.ref 90), some (.int (tB T q)), some (.int (b01 (leB (tB T q)))), some (.int (b01 (gdB (tB T) q (leB (tB T q)) j))), x4] [] (va_up (va_up w 91 (aI 640 (tB T))) 90 (oMod s1 wd1 tn)) n 0 0 (qV Q) := by
        refine ab_sound ok_156 [260] 80 ?_
        refine And.intro ((by rw [f5]; exact vp_in_nI (by omega) (by omega))) ?_
        rw [f5, nI_clamp (by omega)]
        have hs := @gd_s (tB T) q j (leB (tB T q))
        cases hg : gdB (tB T) q (leB (tB T q)) j
        · refine And.intro (fun _ => ?_) (fun h_9 => absurd (rfl) h_9)
          rw [hg] at at260 hs
          exact at260 false hs.symm
        · refine And.intro (fun h_9 => absurd h_9 ((by decide))) (fun _ => ?_)
          rw [hg] at at260 hs
          (refine Exists.intro 0 ?_; refine ⟨0, _, Nat.zero_le _, Nat.zero_le _, c_Mod_isLetter _ _ _, ?_⟩; refine ab_q1_elim ?_)
          by_cases c : leB (tB T (q + j)) = leB (tB T q)
          · refine And.intro (fun h_9 => absurd ((by rw [c])) h_9) (fun _ => ?_)
            exact at260 true (by rw [hs, decide_eq_true c]; rfl)
          · refine And.intro (fun _ => ?_) (fun h_9 => absurd h_9 ((fun z => c (b01_eq.mp z))))
            exact at260 false (by rw [hs, decide_eq_false c]; rfl)
      refine ab_sound ok_156 [231] 80 ?_
      (refine Exists.intro 0 ?_; refine ⟨0, _, Nat.zero_le _, Nat.zero_le _, c_Mod_byteAt _ (q + j) (tL T) _ _ f5 hL (by omega) rfl f3 rfl, ?_⟩; refine ab_q1_elim ?_)
      rw [if_pos (by omega)]
      (refine Exists.intro 0 ?_; refine ⟨0, _, Nat.zero_le _, Nat.zero_le _, c_Mod_isLetter _ _ _, ?_⟩; refine ab_q1_elim ?_)
      cases hc : leB (tB T (q + j))
      · refine And.intro (fun h_9 => absurd (rfl) h_9) (fun _ => ?_)
        (refine Exists.intro 0 ?_; refine ⟨0, _, Nat.zero_le _, Nat.zero_le _, c_Mod_byteAt _ (q + j) (tL T) _ _ f5 hL (by omega) rfl f3 rfl, ?_⟩; refine ab_q1_elim ?_)
        rw [if_pos (by omega)]
        (refine Exists.intro 0 ?_; refine ⟨0, _, Nat.zero_le _, Nat.zero_le _, c_Mod_isDigit _ _ _, ?_⟩; refine ab_q1_elim ?_)
        have hd : diB (tB T (q + j)) = true := by
          unfold anB at g5
          rw [hc] at g5
          exact g5
        refine And.intro (fun h_9 => absurd h_9 ((by rw [hd]; decide))) (fun _ => ?_)
        exact at231
      · refine And.intro (fun _ => ?_) (fun h_9 => absurd h_9 ((by decide)))
        exact at231
  refine ab_sound ok_156 [203] 80 ?_
  (refine Exists.intro 0 ?_; refine ⟨0, _, Nat.zero_le _, Nat.zero_le _, c_Mod_isLetter _ _ _, ?_⟩; refine ab_q1_elim ?_)
  refine ab_ev_of (loop 0 (by omega) (upd s' 8 (nI 0)) 0 none (hf.us ⟨by omega, by omega⟩) (by rw [upd_ne (by omega), h5]; rfl) (by rw [upd_ne (by omega), h6]) (fun _ _ => rfl) (fun _ _ => by rw [upd_at]; rfl)) rfl rfl ?_
  simp only [va_uu]
  rfl
theorem k_go (T : TE) (p : Nat) (w : ab_W) (n : Nat) {s : Nat → Int32} {wd tn : Int64} (hL : tL T ≤ 640) (hM : tM T ≤ 640) (hp : p ≤ tL T) (h90 : w 90 = oMod s wd tn) (h91 : w 91 = aI 640 (tB T)) (h3 : s 3 = nI (tL T)) (h4 : s 4 = nI (tM T)) (h5 : s 5 = nI p) :
    ab_C X l i_Mod_go [.ref 90] w n 0 0 (qV (goQ T p w n s tn)) := by
  obtain ⟨w, rfl⟩ := va_ex2 h90 h91
  have hq : ∀ (w' : ab_W) (s' : Nat → Int32) (wd' : Int64), w' = va_up (va_up w 91 (aI 640 (tB T))) 90 (oMod s' wd' tn) → Fr FGo s s' → AtM T p s' wd' → goQ T p (va_up (va_up w 91 (aI 640 (tB T))) 90 (oMod s wd tn)) n s tn w' n := fun w' s' wd' a b c => ⟨rfl, s', wd', by rw [va_uu]; exact a, b, c⟩
  generalize hQ : goQ T p (va_up (va_up w 91 (aI 640 (tB T))) 90 (oMod s wd tn)) n s tn = Q at hq ⊢
  have q1 : p ≤ tQ T p := tQ_ge
  have q2 : tQ T p ≤ tL T := tQ_le hp
  have g3 : ∀ i, p ≤ i → i < tQ T p → blB (tB T i) = true := fun i a b => by
    exact nb_t (fs_no (P := fun i => !blB (tB T i)) (e := tL T) a b)
  have g4 : tQ T p < tL T → blB (tB T (tQ T p)) = false := fun a => by
    have := fs_yes (P := fun i => !blB (tB T i)) (e := tL T) (p := p) a
    have this : (!blB (tB T (tQ T p))) = true := this
    exact nb_f this
  have at113 : ∀ s', Fr FGo s s' → s' 5 = nI (tQ T p) → s' 6 = nI (tQ T p) → tQ T p < tL T → ¬ (tM T < tL T ∧ tM T ≤ tQ T p) → ab_Ev X l i_Mod_go 113 [some (.ref 90), none, none, none, none] [] (va_up (va_up w 91 (aI 640 (tB T))) 90 (oMod s' wd tn)) n 0 0 (qV Q) := by
    intro s' hf h5 h6 k2 k3
    have e3 : s' 3 = nI (tL T) := by rw [hf 3 (by unfold FGo; omega), h3]
    have at186 := k_go186 (X := X) (l := l) T p w n (wd := wd) (tn := tn) (Q := Q) hL hp h3 hf h5 h6 k2 k3
    refine ab_sound ok_156 [167, 186] 80 ?_
    refine And.intro ((by rw [h5]; exact vp_in_nI (by omega) (by omega))) ?_
    rw [h5, nI_clamp (by omega)]
    (refine Exists.intro 0 ?_; refine ⟨0, _, Nat.zero_le _, Nat.zero_le _, c_Mod_isLetter _ _ _, ?_⟩; refine ab_q1_elim ?_)
    cases hc : leB (tB T (tQ T p))
    · refine And.intro (fun h_9 => absurd (rfl) h_9) (fun _ => ?_)
      (refine Exists.intro 0 ?_; refine ⟨0, _, Nat.zero_le _, Nat.zero_le _, c_Mod_isDigit _ _ _, ?_⟩; refine ab_q1_elim ?_)
      cases hd : diB (tB T (tQ T p))
      · refine And.intro (fun h_9 => absurd (rfl) h_9) (fun _ => ?_)
        have ha : anB (tB T (tQ T p)) = false := by unfold anB; rw [hc, hd]; rfl
        obtain ⟨t1, t2, t3⟩ := tk_sig k2 k3 ha
        have at167 : ∀ v : Nat, v = tK T p → ab_Ev X l i_Mod_go 167 [some (.ref 90), some (.int (tB T (tQ T p))), none, none, none] [.int (nI v), .ref 90] (va_up (va_up w 91 (aI 640 (tB T))) 90 (oMod s' wd tn)) n 0 0 (qV Q) := by
          intro v hv
          refine ab_sound ok_156 [] 80 ?_
          have hk : tK T p = 4 ∨ tK T p = 1 := by
            rw [t1]
            by_cases z : sgB (tB T (tQ T p)) = true
            · rw [if_pos z]; exact Or.inl rfl
            · rw [if_neg z]; exact Or.inr rfl
          refine ⟨rfl, hq _ (upd (upd (upd s' 7 (nI v)) 9 (tB T (tQ T p))) 5 (nI (tQ T p) + nI 1)) wd (by simp only [va_uu]; rw [← h5]; rfl) (((hf.us ⟨by omega, by omega⟩).us ⟨by omega, by omega⟩).us ⟨by omega, by omega⟩) ⟨?_, ?_, fun _ _ => ?_, fun z => ?_, fun z => ?_, fun z => ?_⟩⟩
          · rw [upd_ne (by omega), upd_ne (by omega), upd_ne (by omega), h6, t2]
          · rw [upd_ne (by omega), upd_ne (by omega), upd_at, hv]
            unfold mK
            rw [if_neg (by omega)]
          · rw [upd_at, nI_add, t3]
          · omega
          · omega
          · rw [upd_ne (by omega), upd_at]
            exact (tk_sgn hp z).2.2.1
        have hs : sgB (tB T (tQ T p)) = true → tK T p = 4 := fun z => by rw [t1, if_pos z]
        unfold sgB at hs t1
        refine And.intro (fun e1 => ?_) (fun e1 => ?_)
        · exact at167 4 (hs (decide_eq_true (Or.inl e1))).symm
        refine And.intro (fun e2 => ?_) (fun e2 => ?_)
        · exact at167 4 (hs (decide_eq_true (Or.inr (Or.inl e2)))).symm
        refine And.intro (fun e3 => ?_) (fun e3 => ?_)
        · exact at167 4 (hs (decide_eq_true (Or.inr (Or.inr (Or.inl e3))))).symm
        refine And.intro (fun e4 => ?_) (fun e4 => ?_)
        · exact at167 1 (by rw [t1, if_neg (fun z => by rw [decide_eq_true_iff] at z; exact z.elim e1 (fun z => z.elim e2 (fun z => z.elim e3 e4)))])
        · exact at167 4 (hs (decide_eq_true (Or.inr (Or.inr (Or.inr e4))))).symm
      · refine And.intro (fun _ => ?_) (fun h_9 => absurd h_9 ((by decide)))
        exact at186 (by unfold anB; rw [hc, hd]; rfl) hq
    · refine And.intro (fun _ => ?_) (fun h_9 => absurd h_9 ((by decide)))
      exact at186 (by unfold anB; rw [hc]; rfl) hq
  have at52 : ∀ s', Fr FGo s s' → s' 5 = nI (tQ T p) → ab_Ev X l i_Mod_go 52 [some (.ref 90), none, none, none, none] [] (va_up (va_up w 91 (aI 640 (tB T))) 90 (oMod s' wd tn)) n 0 0 (qV Q) := by
    intro s' hf h5
    have e3 : s' 3 = nI (tL T) := by rw [hf 3 (by unfold FGo; omega), h3]
    have e4 : s' 4 = nI (tM T) := by rw [hf 4 (by unfold FGo; omega), h4]
    have at96 : ¬ (tM T < tL T ∧ tM T ≤ tQ T p) → ab_Ev X l i_Mod_go 96 [some (.ref 90), none, none, none, none] [] (va_up (va_up w 91 (aI 640 (tB T))) 90 (oMod (upd s' 6 (s' 5)) wd tn)) n 0 0 (qV Q) := by
      intro k3
      refine ab_sound ok_156 [113] 80 ?_
      by_cases c : tQ T p < tL T
      · refine And.intro (fun _ => ?_) (fun h_9 => absurd ((by show s' 5 < s' 3; rw [h5, e3]; exact nI_lt c (by omega))) h_9)
        exact at113 _ (hf.us ⟨by omega, by omega⟩) (by rw [upd_ne (by omega), h5]) (by rw [upd_at, h5]) c k3
      · refine And.intro (fun h_9 => absurd h_9 ((by show ¬ s' 5 < s' 3; rw [h5, e3]; exact nI_nlt (by omega) (by omega)))) (fun _ => ?_)
        have hk : tK T p = 0 := by unfold tK; rw [if_neg k3, if_pos (by omega)]
        refine ⟨rfl, hq _ (upd (upd s' 6 (s' 5)) 7 (nI 0)) wd (by simp only [va_uu]; rfl) ((hf.us ⟨by omega, by omega⟩).us ⟨by omega, by omega⟩) ⟨?_, ?_, fun z => ?_, fun z => ?_, fun z => ?_, fun z => ?_⟩⟩
        · rw [upd_ne (by omega), upd_at, h5]
          unfold tP
          rw [if_neg k3]
        · rw [upd_at]
          unfold mK
          rw [if_neg (by omega), hk]
        · omega
        · omega
        · omega
        · omega
    refine ab_sound ok_156 [96] 80 ?_
    by_cases c : tM T < tL T
    · refine And.intro (fun h_9 => absurd h_9 ((by show ¬ s' 3 ≤ s' 4; rw [e3, e4]; exact nI_ge c (by omega)))) (fun _ => ?_)
      by_cases c2 : tM T ≤ tQ T p
      · refine And.intro (fun h_9 => absurd h_9 ((by show ¬ s' 5 < s' 4; rw [h5, e4]; exact nI_nlt (by omega) (by omega)))) (fun _ => ?_)
        have hk : tK T p = 5 := by unfold tK; rw [if_pos ⟨c, c2⟩]
        refine ⟨rfl, hq _ (upd (upd (upd s' 6 (s' 5)) 6 (s' 4)) 7 (nI 1)) wd (by simp only [va_uu]; rfl) (((hf.us ⟨by omega, by omega⟩).us ⟨by omega, by omega⟩).us ⟨by omega, by omega⟩) ⟨?_, ?_, fun z z2 => ?_, fun z => ?_, fun z => ?_, fun z => ?_⟩⟩
        · rw [upd_ne (by omega), upd_at, e4]
          unfold tP
          rw [if_pos ⟨c, c2⟩]
        · rw [upd_at]
          unfold mK
          rw [if_pos hk]
        · omega
        · omega
        · omega
        · omega
      · refine And.intro (fun _ => ?_) (fun h_9 => absurd ((by show s' 5 < s' 4; rw [h5, e4]; exact nI_lt (by omega) (by omega))) h_9)
        refine ab_ev_of (at96 (fun z => c2 z.2)) rfl rfl ?_
        rw [va_uu]
        rfl
    · refine And.intro (fun _ => ?_) (fun h_9 => absurd ((by show s' 3 ≤ s' 4; rw [e3, e4]; exact nI_le (by omega) (by omega))) h_9)
      refine ab_ev_of (at96 (fun z => c z.1)) rfl rfl ?_
      rw [va_uu]
      rfl
  have loop : ∀ i, i ≤ tQ T p → p ≤ i → ∀ s', Fr FGo s s' → s' 5 = nI i → ab_Ev X l i_Mod_go 0 [some (.ref 90), none, none, none, none] [] (va_up (va_up w 91 (aI 640 (tB T))) 90 (oMod s' wd tn)) n 0 0 (qV Q) := by
    refine ab_up (tQ T p) ?_ (fun i hi ih => ?_)
    · intro _ s' hf h5
      have e3 : s' 3 = nI (tL T) := by rw [hf 3 (by unfold FGo; omega), h3]
      refine ab_sound ok_156 [52] 80 ?_
      by_cases c : tQ T p < tL T
      · refine And.intro (fun h_9 => absurd h_9 ((by show ¬ s' 3 ≤ s' 5; rw [h5, e3]; exact nI_ge c (by omega)))) (fun _ => ?_)
        have b := g4 c
        unfold blB at b
        rw [decide_eq_false_iff_not] at b
        refine And.intro ((by rw [h5]; exact vp_in_nI (by omega) (by omega))) ?_
        rw [h5, nI_clamp (by omega)]
        refine And.intro (fun h_9 => absurd h_9 ((fun z => b (Or.inl z)))) (fun _ => ?_)
        refine And.intro ((by rw [h5]; exact vp_in_nI (by omega) (by omega))) ?_
        rw [h5, nI_clamp (by omega)]
        refine And.intro (fun _ => ?_) (fun h_9 => absurd h_9 ((fun z => b (Or.inr z))))
        exact at52 s' hf h5
      · refine And.intro (fun _ => ?_) (fun h_9 => absurd ((by show s' 3 ≤ s' 5; rw [h5, e3]; exact nI_le (by omega) (by omega))) h_9)
        exact at52 s' hf h5
    · intro hp2 s' hf h5
      have e3 : s' 3 = nI (tL T) := by rw [hf 3 (by unfold FGo; omega), h3]
      have at39 : ab_Ev X l i_Mod_go 39 [some (.ref 90), none, none, none, none] [] (va_up (va_up w 91 (aI 640 (tB T))) 90 (oMod s' wd tn)) n 0 0 (qV Q) := by
        refine ab_sound ok_156 [0] 80 ?_
        refine ab_ev_of (ih (by omega) (upd s' 5 (s' 5 + nI 1)) (hf.us ⟨by omega, by omega⟩) (by rw [upd_at, h5, nI_add])) rfl rfl ?_
        rw [va_uu]
        rfl
      have b := g3 i hp2 hi
      unfold blB at b
      rw [decide_eq_true_iff] at b
      refine ab_sound ok_156 [39, 52] 80 ?_
      refine And.intro (fun h_9 => absurd h_9 ((by show ¬ s' 3 ≤ s' 5; rw [h5, e3]; exact nI_ge (by omega) (by omega)))) (fun _ => ?_)
      refine And.intro ((by rw [h5]; exact vp_in_nI (by omega) (by omega))) ?_
      rw [h5, nI_clamp (by omega)]
      refine And.intro (fun b1 => ?_) (fun b1 => ?_)
      · exact at39
      · refine And.intro ((by rw [h5]; exact vp_in_nI (by omega) (by omega))) ?_
        rw [h5, nI_clamp (by omega)]
        refine And.intro (fun h_9 => absurd ((b.resolve_left b1)) h_9) (fun _ => ?_)
        exact at39
  refine ab_mqV cd_156 om_156 rfl rfl ?_
  exact ab_ev_of (loop p q1 (Nat.le_refl _) s Fr.refl h5) rfl rfl rfl
end GO
