/-! rows told apart but for a turning -/
def lex (p : Nat) (a b : Nat → Int64) : Prop := ∃ i, i < p ∧ (∀ j, j < i → a j = b j) ∧ a i < b i
theorem l64_trans {a b c : Int64} (h1 : a < b) (h2 : b < c) : a < c := by
  rw [i64_lt] at *
  omega
theorem l64_irr (a : Int64) : ¬ a < a := by
  rw [i64_lt]
  omega
theorem lex_trans {p : Nat} {a b c : Nat → Int64} (h1 : lex p a b) (h2 : lex p b c) : lex p a c := by
  obtain ⟨i, hi, e1, l1⟩ := h1
  obtain ⟨k, hk, e2, l2⟩ := h2
  rcases Nat.lt_trichotomy i k with h | h | h
  · exact ⟨i, hi, fun j hj => (e1 j hj).trans (e2 j (by omega)), by rw [← e2 i h]; exact l1⟩
  · subst h
    exact ⟨i, hi, fun j hj => (e1 j hj).trans (e2 j hj), l64_trans l1 l2⟩
  · exact ⟨k, hk, fun j hj => (e1 j (by omega)).trans (e2 j hj), by rw [e1 k h]; exact l2⟩
theorem lex_tri {p : Nat} {a b : Nat → Int64} (h1 : ¬ lex p a b) (h2 : ¬ lex p b a) : Lk p a b := by
  have key : ∀ i, i ≤ p → ∀ j, j < i → a j = b j := by
    intro i
    induction i with
    | zero => intro _ j hj; omega
    | succ i ih =>
      intro hi j hj
      have ih := ih (by omega)
      by_cases e : j < i
      · exact ih j e
      · rw [show j = i by omega]
        have n1 : ¬ a i < b i := fun z => h1 ⟨i, by omega, ih, z⟩
        have n2 : ¬ b i < a i := fun z => h2 ⟨i, by omega, fun j hj => (ih j hj).symm, z⟩
        rw [i64_lt] at n1 n2
        exact Int64.toInt_inj.mp (by omega)
  exact key p (Nat.le_refl _)
theorem lex_congr {p : Nat} {a b a2 b2 : Nat → Int64} (h1 : Lk p a a2) (h2 : Lk p b b2) (h : lex p a b) : lex p a2 b2 := by
  obtain ⟨i, hi, e1, l1⟩ := h
  exact ⟨i, hi, fun j hj => by rw [← h1 j (by omega), ← h2 j (by omega)]; exact e1 j hj, by rw [← h1 i hi, ← h2 i hi]; exact l1⟩
theorem Lk.refl {p : Nat} {a : Nat → Int64} : Lk p a a := fun _ _ => rfl
theorem Lk.symm {p : Nat} {a b : Nat → Int64} (h : Lk p a b) : Lk p b a := fun i hi => (h i hi).symm
theorem Lk.trans {p : Nat} {a b c : Nat → Int64} (h : Lk p a b) (h2 : Lk p b c) : Lk p a c := fun i hi => (h i hi).trans (h2 i hi)
theorem ab_Ev.weaken {X : ab_X} {l : Launch} {y pc : Nat} {ls : ab_L} {st : List Value} {w : ab_W} {n bc bs : Nat} {Q Q' : ab_Q} (h : ab_Ev X l y pc ls st w n bc bs Q) (hq : ∀ v w' n', Q v w' n' → Q' v w' n') : ab_Ev X l y pc ls st w n bc bs Q' := by
  intro p e R s m args below meth c A ad0 Z hB hF
  exact h p e R s m args below meth c A ad0 Z hB ⟨fun pc v v' H locs cells slots ad w n ws lsr q => hF.1 pc v v' H locs cells slots ad w n ws lsr (hq _ _ _ q), fun pc H locs cells slots ad w n ws ls lsr st str q => hF.2 pc H locs cells slots ad w n ws ls lsr st str (hq _ _ _ q)⟩
section ORB
variable {X : ab_X} {l : Launch}
theorem k_turnedIsLess (p : Nat) (w : ab_W) (n : Nat) {a k : Int32} {tu le : Nat → Int64} (hp : p ≤ 58) (h0 : w 20 = oOrb a (nI p) k) (h3 : w 23 = aJ 58 tu) (h4 : w 24 = aJ 58 le) : ab_C X l i_Orb_turnedIsLess [.ref 20] w n 0 0 (fun v w' n' => w = w' ∧ n = n' ∧ ∃ b : Bool, v = some (.int (b01 b)) ∧ (b = true ↔ lex p tu le)) := by
  obtain ⟨w, rfl⟩ := va_ex3 h0 h3 h4
  refine ab_met cd_37 om_37 rfl (by rintro _ _ _ ⟨-, -, b, rfl, -⟩; trivial) (ab_sound ok_37 [2] 50 ?_)
  have loop : ∀ i, i ≤ p → (∀ m, m < i → tu m = le m) → ab_Ev X l i_Orb_turnedIsLess 2 [some (.ref 20), some (.int (nI i))] [] (va_up (va_up (va_up w 24 (aJ 58 le)) 23 (aJ 58 tu)) 20 (oOrb a (nI p) k)) n 0 0 (fun v w' n' => (va_up (va_up (va_up w 24 (aJ 58 le)) 23 (aJ 58 tu)) 20 (oOrb a (nI p) k)) = w' ∧ n = n' ∧ ∃ b : Bool, v = some (.int (b01 b)) ∧ (b = true ↔ lex p tu le)) := by
    refine ab_up p ?_ (fun i hi ih => ?_)
    · intro hm
      refine ab_sound ok_37 [2] 50 ?_
      refine And.intro (fun _ => ?_) (fun h_9 => absurd (nI_le (Nat.le_refl _) (by omega)) h_9)
      refine ⟨rfl, rfl, rfl, false, rfl, ⟨(fun z => by cases z), ?_⟩⟩
      rintro ⟨i, hi, -, h⟩
      rw [hm i hi] at h
      exact absurd h (l64_irr _)
    · intro hm
      refine ab_sound ok_37 [2] 50 ?_
      refine And.intro (fun h_9 => absurd h_9 (nI_ge hi (by omega))) (fun _ => ?_)
      refine And.intro (vp_in_nI (by omega) (by omega)) ?_
      refine And.intro (vp_in_nI (by omega) (by omega)) ?_
      rw [nI_clamp (by omega)]
      refine And.intro (fun hc => ?_) (fun hc => ?_)
      · rw [lg_eq] at hc
        refine ab_ev_of (ih (fun m hm2 => ?_)) (by rw [nI_s i]; rfl) rfl rfl
        by_cases e : m = i
        · rw [e]; exact hc
        · exact hm m (by omega)
      · rw [lg_eq] at hc
        refine And.intro (vp_in_nI (by omega) (by omega)) ?_
        refine And.intro (vp_in_nI (by omega) (by omega)) ?_
        rw [nI_clamp (by omega)]
        refine And.intro (fun hd => ?_) (fun hd => ?_)
        · rw [lg_ge0] at hd
          refine ⟨rfl, rfl, rfl, false, rfl, ⟨(fun z => by cases z), ?_⟩⟩
          rintro ⟨j, hj, e, h⟩
          rcases Nat.lt_trichotomy i j with g | g | g
          · exact absurd (e i g) hc
          · subst g
            rw [i64_lt] at h
            rw [i64_le] at hd
            omega
          · rw [hm j g] at h
            exact absurd h (l64_irr _)
        · rw [lg_ge0] at hd
          refine ⟨rfl, rfl, rfl, true, rfl, ⟨fun _ => ⟨i, hi, hm, ?_⟩, fun _ => rfl⟩⟩
          rw [i64_lt]
          rw [i64_le] at hd
          omega
  exact loop 0 (by omega) (fun m hm => by omega)
theorem k_turnToLeast (N : Nat) (w : ab_W) (n : Nat) {k : Int32} {tu le r : Nat → Int64} (hs : KSums w N) (h0 : w 20 = oOrb (nI N) (nI (phi N)) k) (h3 : w 23 = aJ 58 tu) (h4 : w 24 = aJ 58 le) (e3 : Lk (phi N) tu r) (e4 : Lk (phi N) le r) : ab_C X l i_Orb_turnToLeast [.ref 20, .ref 17] w n 0 0 (fun v w' n' => n = n' ∧ ∃ (b : Nat) (tu' le' : Nat → Int64), v = some (.int (nI b)) ∧ w' = va_up (va_up w 23 (aJ 58 tu')) 24 (aJ 58 le') ∧ b < N ∧ Lk (phi N) le' (tv N b r) ∧ ∀ t, t < N → ¬ lex (phi N) (tv N t r) le') := by
  obtain ⟨hM, c, f, s1, s2, s3, s4⟩ := hs
  have hp := phi_le N hM.2
  have hp1 := phi_ge N hM.2 hM.1
  obtain ⟨w, rfl⟩ := va_ex4 h3 h4 h0 s1
  refine ab_met cd_36 om_36 rfl (by rintro _ _ _ ⟨-, b, tu', le', rfl, -⟩; trivial) (ab_sound ok_36 [4] 50 ?_)
  have loop : ∀ t, t ≤ N → 1 ≤ t → ∀ (b : Nat) (tu le : Nat → Int64) (l4 : Option Value), b < N → Lk (phi N) tu (tv N (t - 1) r) → Lk (phi N) le (tv N b r) → (∀ u, u < t → ¬ lex (phi N) (tv N u r) le) → ab_Ev X l i_Orb_turnToLeast 4 [some (.ref 20), some (.ref 17), some (.int (nI b)), some (.int (nI t)), l4] [] (va_up (va_up (va_up (va_up w 17 (oSums (nI N) (nI (phi N)))) 20 (oOrb (nI N) (nI (phi N)) k)) 24 (aJ 58 le)) 23 (aJ 58 tu)) n 0 0 (fun v w' n' => n = n' ∧ ∃ (b : Nat) (tu' le' : Nat → Int64), v = some (.int (nI b)) ∧ w' = va_up (va_up (va_up (va_up w 17 (oSums (nI N) (nI (phi N)))) 20 (oOrb (nI N) (nI (phi N)) k)) 23 (aJ 58 tu')) 24 (aJ 58 le') ∧ b < N ∧ Lk (phi N) le' (tv N b r) ∧ ∀ t, t < N → ¬ lex (phi N) (tv N t r) le') := by
    refine ab_up N ?_ (fun t ht ih => ?_)
    · intro _ b tu le l4 hb q1 q2 q3
      refine ab_sound ok_36 [4] 50 ?_
      refine And.intro (fun _ => ?_) (fun h_9 => absurd (nI_le (Nat.le_refl _) (by omega)) h_9)
      exact ⟨rfl, b, tu, le, rfl, by rw [va_uc (by omega)], hb, q2, q3⟩
    · intro ht1 b tu le l4 hb q1 q2 q3
      refine ab_sound ok_36 [4, 32, 61] 50 ?_
      refine And.intro (fun h_9 => absurd h_9 (nI_ge ht (by omega))) (fun _ => ?_)
      (refine Exists.intro 0 ?_; refine ⟨0, _, Nat.zero_le _, Nat.zero_le _, c_Sums_turnOnce (phi N) _ _ (by omega) hp rfl s2 rfl, ?_⟩; refine ab_q1_elim ?_)
      rw [va_uu]
      have q4 : Lk (phi N) (turnF (phi N) c tu) (tv N t r) := fun i hi => by
        rw [turnF_congr q1 i hi, ← tv_s hM.2 hM.1 s4 r hi, show t - 1 + 1 = t by omega]
      (refine Exists.intro 0 ?_; refine ⟨0, _, Nat.zero_le _, Nat.zero_le _, k_turnedIsLess (phi N) _ _ hp rfl rfl rfl, ?_⟩; rintro _ _ _ ⟨rfl, rfl, bb, rfl, hbb⟩)
      cases bb
      · refine And.intro (fun _ => ?_) (fun h_9 => absurd (rfl) h_9)
        refine ab_sound ok_36 [4] 50 ?_
        refine ab_ev_of (ih (by omega) b _ le l4 hb (by rw [show t + 1 - 1 = t by omega]; exact q4) q2 (fun u hu => ?_)) (by rw [nI_s t]; rfl) rfl rfl
        by_cases e : u = t
        · rw [e]
          exact fun z => by have := hbb.mpr (lex_congr q4.symm Lk.refl z); cases this
        · exact q3 u (by omega)
      · refine And.intro (fun h_9 => absurd h_9 ((by decide))) (fun _ => ?_)
        have hlt := hbb.mp rfl
        have inn : ∀ i, i ≤ phi N → ab_Ev X l i_Orb_turnToLeast 32 [some (.ref 20), some (.ref 17), some (.int (nI t)), some (.int (nI t)), some (.int (nI i))] [] (va_up (va_up (va_up (va_up w 17 (oSums (nI N) (nI (phi N)))) 20 (oOrb (nI N) (nI (phi N)) k)) 24 (aJ 58 (stF 0 i (turnF (phi N) c tu) le))) 23 (aJ 58 (turnF (phi N) c tu))) n 0 0 (fun v w' n' => n = n' ∧ ∃ (b : Nat) (tu' le' : Nat → Int64), v = some (.int (nI b)) ∧ w' = va_up (va_up (va_up (va_up w 17 (oSums (nI N) (nI (phi N)))) 20 (oOrb (nI N) (nI (phi N)) k)) 23 (aJ 58 tu')) 24 (aJ 58 le') ∧ b < N ∧ Lk (phi N) le' (tv N b r) ∧ ∀ t, t < N → ¬ lex (phi N) (tv N t r) le') := by
          refine ab_up (phi N) ?_ (fun i hi ih2 => ?_)
          · refine ab_sound ok_36 [4] 50 ?_
            refine And.intro (fun _ => ?_) (fun h_9 => absurd (nI_le (Nat.le_refl _) (by omega)) h_9)
            have q5 : Lk (phi N) (stF 0 (phi N) (turnF (phi N) c tu) le) (turnF (phi N) c tu) := fun i hi => by
              unfold stF
              rw [if_pos (by omega), Nat.sub_zero]
            refine ab_ev_of (ih (by omega) t _ _ (some (.int (nI (phi N)))) ht (by rw [show t + 1 - 1 = t by omega]; exact q4) (q5.trans q4) (fun u hu z => ?_)) (by rw [nI_s t]; rfl) rfl rfl
            have z := lex_congr Lk.refl q5 z
            by_cases e : u = t
            · rw [e] at z
              obtain ⟨i, hi, -, h⟩ := lex_congr q4.symm Lk.refl z
              exact absurd h (l64_irr _)
            · exact q3 u (by omega) (lex_trans z hlt)
          · refine ab_sound ok_36 [32, 61] 50 ?_
            refine And.intro (fun h_9 => absurd h_9 (nI_ge hi (by omega))) (fun _ => ?_)
            refine And.intro (vp_in_nI (by omega) (by omega)) ?_
            refine And.intro (vp_in_nI (by omega) (by omega)) ?_
            refine ab_ev_of ih2 (by rw [nI_s i]; rfl) rfl ?_
            rw [nI_clamp (by omega), va_u2 (show (23 : Nat) ≠ 24 by omega), va_uu]
            refine congrArg (fun z => va_up (va_up _ 24 (aJ 58 z)) _ _) ?_
            have := stF_s 0 i (turnF (phi N) c tu) le
            rw [Nat.zero_add] at this
            exact this
        refine ab_ev_of (inn 0 (by omega)) rfl rfl ?_
        rw [stF_0]
  have := loop 1 (by omega) (by omega) 0 tu le none (by omega) (fun i hi => by rw [e3 i hi]; exact (tv_0 r hi).symm) (fun i hi => by rw [e4 i hi]; exact (tv_0 r hi).symm) (fun u hu z => by
    rw [show u = 0 by omega] at z
    obtain ⟨i, hi, -, h⟩ := z
    rw [tv_0 r hi, e4 i hi] at h
    exact absurd h (l64_irr _))
  refine ab_Ev.weaken (ab_ev_of this rfl rfl rfl) ?_
  rintro v w' n' ⟨rfl, b, tu', le', rfl, rfl, h⟩
  refine ⟨rfl, b, tu', le', rfl, ?_, h⟩
  rw [va_uu, va_u2 (show (23 : Nat) ≠ 24 by omega), va_u2 (show (23 : Nat) ≠ 24 by omega), va_uu]
end ORB
