/-! a mix laid down, for the class -/
theorem CMx.fr {F : Nat → Prop} {w w' : ab_W} {S : MS} {r1 r2 : Int32} (h : CMx w S r1 r2) (hf : Fr F w w') (hF : ∀ k, F k → ¬ (5 ≤ k ∧ k ≤ 11)) : CMx w' S r1 r2 := by
  have e : ∀ k, 5 ≤ k → k ≤ 11 → w' k = w k := fun k a b => hf k (fun z => hF k z ⟨a, b⟩)
  unfold CMx at h ⊢
  rw [e 5 (by omega) (by omega), e 6 (by omega) (by omega), e 7 (by omega) (by omega), e 8 (by omega) (by omega), e 9 (by omega) (by omega), e 10 (by omega) (by omega), e 11 (by omega) (by omega)]
  exact h
theorem CMs.fr {F : Nat → Prop} {w w' : ab_W} (h : CMs w) (hf : Fr F w w') (hF : ∀ k, F k → ¬ (5 ≤ k ∧ k ≤ 11)) : CMs w' := by
  have e : ∀ k, 5 ≤ k → k ≤ 11 → w' k = w k := fun k a b => hf k (fun z => hF k z ⟨a, b⟩)
  unfold CMs at h ⊢
  rw [e 5 (by omega) (by omega), e 6 (by omega) (by omega), e 7 (by omega) (by omega), e 8 (by omega) (by omega), e 9 (by omega) (by omega), e 10 (by omega) (by omega), e 11 (by omega) (by omega)]
  exact h
section MIXINTO
variable {X : ab_X} {l : Launch}
theorem k_mixInto (t M : Nat) (w : ab_W) (n : Nat) {S : MS} {r1 r2 : Int32} {N : Nat → Nat} {R : Nat → Nat → Nat → Int64} {kn ks : Nat} {lf : Int32} (ht : t < 8) (hMe : N (S.2 0).1 = M) (hS1 : 1 ≤ S.1) (hS : MSok N S) (hC : CMx w S r1 r2) (hB : KB w n kn ks lf N R) :
    ab_C X l i_WP_mixInto [.ref 0, .ref (74 + 2 * t)] w n 1 3480 (qI (if wiB M (MxV M R S) = true then nI S.1 else -nI 2000) fun w' n' => n ≤ n' ∧ Fr FRS w w' ∧ KB w' n' kn ks lf (if wiB M (MxV M R S) = true then va_up N t M else N) (if wiB M (MxV M R S) = true then va_up R t (MxV M R S) else R)) := by
  obtain ⟨h0, hK, h, h43⟩ := hB
  obtain ⟨hd0, hd00⟩ := hS.2 0 (by omega)
  obtain ⟨aa, hA, hM⟩ := h.is hd0.1 hd00
  rw [hMe] at hA hM
  have hdj : ∀ j, j < S.1 → PDok N M (S.2 j) := fun j hj => by have := (hS.2 j hj).1; rw [hMe] at this; exact this
  have hgen : ∀ w1, Fr FR w w1 → KSh w1 n N R := fun w1 hf => h.fr hf (fun k hk => ⟨by omega, FR_FS k hk⟩) (Nat.le_refl _)
  have hA1 : ∀ w1, Fr FR w w1 → ShIs w1 (74 + 2 * (S.2 0).1) M aa (R (S.2 0).1) := fun w1 hf => hA.frS hf FR_FS
  have hCg : ∀ w1, Fr FR w w1 → CMx w1 S r1 r2 := fun w1 hf => hC.fr hf (fun k hk => by omega)
  have hp1 := phi_ge M hM.2 hM.1
  have hp2 := phi_lt M hM.2 hM.1
  have cs := k_sheetThatIs_y (X := X) (l := l) (nI (S.2 0).1) (S.2 0).1 w n rfl hd0.1 hd00 h0 h
  obtain ⟨v7, p7, h17⟩ := hK.obj
  have h5 := hC.1
  obtain ⟨f6, h6, u6⟩ := hC.2.1
  obtain ⟨w9, rfl⟩ := va_ex4 h0 h17 h5 h6
  refine ab_mqI cd_123 om_123 rfl (ab_sound ok_123 [38] 80 ?_)
  refine And.intro (vp_in_nI (show 0 < 12 by omega) (by omega)) ?_
  rw [nI_clamp (by omega), u6 0 (by omega)]
  (refine Exists.intro 0 ?_; refine ⟨0, _, Nat.zero_le _, Nat.zero_le _, cs, ?_⟩; refine ab_q1_elim ?_)
  refine Exists.intro _ (Exists.intro _ (And.intro (hA.1) (And.intro rfl ?_)))
  (refine Exists.intro 0 ?_; refine ⟨0, _, Nat.zero_le _, Nat.zero_le _, k_choose _ M _ _ rfl hM.2 hM.1 hK, ?_⟩; rintro _ w1 _ ⟨rfl, rfl, e1, e2⟩)
  obtain ⟨g0, h43⟩ := h43
  generalize hQ : (qI (if wiB M (MxV M R S) = true then nI S.1 else -nI 2000) fun w' n' => n ≤ n' ∧ Fr FRS (va_up (va_up (va_up (va_up w9 6 (aI 12 f6)) 5 (oMR r1 r2 (nI S.1))) 17 (oSums v7 p7)) 0 (oWP kn ks lf)) w' ∧ KB w' n' kn ks lf (if wiB M (MxV M R S) = true then va_up N t M else N) (if wiB M (MxV M R S) = true then va_up R t (MxV M R S) else R)) = Q
  have loop : ∀ k, k ≤ M → ∀ w1, Fr FR (va_up (va_up (va_up (va_up w9 6 (aI 12 f6)) 5 (oMR r1 r2 (nI S.1))) 17 (oSums v7 p7)) 0 (oWP kn ks lf)) w1 → KSums w1 M → ∀ g, w1 43 = aJ 3480 g → (∀ j i, j < k → i < phi M → g (j * phi M + i) = MxV M R S j i) → ∀ l5 : Option Value, ab_Ev X l i_WP_mixInto 38 [some (.ref 0), some (.ref (74 + 2 * t)), some (.ref (74 + 2 * (S.2 0).1)), some (.int (nI M)), some (.int (nI k)), l5] [] w1 n 1 3480 Q := by
    refine ab_up M ?_ (fun k hk ih => ?_)
    · intro w1 hf hs g hg hr l5
      have hKs := hgen w1 hf
      have hw0 : w1 0 = oWP kn ks lf := hf.get rfl (by omega)
      obtain ⟨-, c, f, s1, s2, s3, s4⟩ := id hs
      have hsh : ∃ v p a, w1 (74 + 2 * t) = oSheet v p a := by
        obtain ⟨b, -, -, -, -, -, h6⟩ := hKs
        obtain ⟨⟨v, p, k1, k2⟩, -⟩ := h6 t (by omega)
        rw [qp_lt ht] at k1
        exact ⟨v, p, _, k1⟩
      have x5 := (hCg w1 hf).1
      obtain ⟨w1, rfl⟩ := va_ex3 hw0 s1 x5
      refine ab_sound ok_123 [38] 80 ?_
      refine And.intro (fun _ => ?_) (fun h_9 => absurd (nI_le (Nat.le_refl _) (by omega)) h_9)
      obtain ⟨v0, p0, a0, k1⟩ := hsh
      refine And.intro (⟨_, k1⟩) ?_
      by_cases hb : wiB M (MxV M R S) = true
      · (refine Exists.intro 1 ?_; refine ⟨3480, _, by omega, by omega, k_fillIfWithin_y _ _ t M _ _ rfl rfl ht hM hKs hg hr hb, ?_⟩; rintro _ w2 n2 ⟨rfl, b1, b2, b3⟩)
        have hs2 := hs.fr b2 (by unfold FS; omega) (by unfold FS; omega) (by unfold FS; omega)
        have hw2 : w2 0 = oWP kn ks lf := b2.get rfl (by unfold FS; omega)
        have h432 := b2.get hg (by unfold FS; omega)
        have y5 : w2 5 = oMR r1 r2 (nI S.1) := b2.get rfl (by unfold FS; omega)
        have e9 := (hf.mono (G := FRS) (fun k hk => Or.inl hk)).trans (b2.mono (fun k hk => Or.inr hk))
        obtain ⟨w2, rfl⟩ := va_ex2 hw2 y5
        subst hQ
        refine And.intro (fun h_9 => absurd h_9 ((by decide))) (fun _ => ?_)
        rw [hb]
        exact ⟨rfl, b1, e9, hw2, Or.inr ⟨M, hs2⟩, b3, ⟨g, h432⟩⟩
      · rw [Bool.not_eq_true] at hb
        (refine Exists.intro 0 ?_; refine ⟨0, _, Nat.zero_le _, Nat.zero_le _, c_Sheet_fillIfWithin_n _ _ (74 + 2 * t) M _ _ rfl rfl hM hg hr hb, ?_⟩; refine ab_q1_elim ?_)
        subst hQ
        refine And.intro (fun _ => ?_) (fun h_9 => absurd (rfl) h_9)
        rw [hb]
        exact ⟨rfl, Nat.le_refl _, hf.mono (fun k hk => Or.inl hk), hw0, Or.inr ⟨M, hs⟩, hKs, ⟨g, hg⟩⟩
    · intro w1 hf hs g hg hr l5
      have x0 : w1 0 = oWP kn ks lf := hf.get rfl (by omega)
      obtain ⟨-, c, f, s1, s2, s3, s4⟩ := id hs
      have inn : ∀ j, j ≤ S.1 → ∀ w4 f4, Fr FR (va_up (va_up (va_up (va_up w9 6 (aI 12 f6)) 5 (oMR r1 r2 (nI S.1))) 17 (oSums v7 p7)) 0 (oWP kn ks lf)) w4 → w4 17 = oSums (nI M) (nI (phi M)) → w4 18 = aJ 59 c → w4 19 = aJ 60 f4 → w4 43 = aJ 3480 g → E60 f4 (mxA M R S k j Z0) → ab_Ev X l i_WP_mixInto 54 [some (.ref 0), some (.ref (74 + 2 * t)), some (.ref (74 + 2 * (S.2 0).1)), some (.int (nI M)), some (.int (nI k)), some (.int (nI j))] [] w4 n 1 3480 Q := by
        refine ab_up S.1 ?_ (fun j hj jh => ?_)
        · intro w4 f4 hf4 t17 t18 t19 t43 hE
          have x0 : w4 0 = oWP kn ks lf := hf4.get rfl (by omega)
          have x5 := (hCg w4 hf4).1
          have hs4 : KSums w4 M := ⟨hM, c, f4, t17, t18, t19, s4⟩
          obtain ⟨w4, rfl⟩ := va_ex3 x0 t17 x5
          refine ab_sound ok_123 [38] 80 ?_
          refine And.intro (fun _ => ?_) (fun h_9 => absurd (nI_le (Nat.le_refl _) (by have := hS.1; omega)) h_9)
          (refine Exists.intro 0 ?_; refine ⟨0, _, Nat.zero_le _, Nat.zero_le _, c_Sums_reduce M (phi M) _ _ (by omega) (by omega) hM.2 (phi_le M hM.2) t17 t18 t19, ?_⟩; refine ab_q1_elim ?_)
          (refine Exists.intro 0 ?_; refine ⟨0, _, Nat.zero_le _, Nat.zero_le _, c_Sums_store_43 k (phi M) 3480 _ _ (by omega) (by have := phi_le M hM.2; omega) (kp_le hM hk) (by omega) t17 va_us ((va_un (by omega)).trans t43), ?_⟩; refine ab_q1_elim ?_)
          refine ab_ev_of (ih _ ((hf4.up (by omega)).up (by omega)) ?_ _ va_us (st_rows hM hk hr ?_) (some (.int (nI S.1)))) (by rw [nI_s k]; rfl) rfl rfl
          · exact hs4.set.fr ((Fr.refl (F := fun k => k = 43)).up rfl) (by omega) (by omega) (by omega)
          · intro i hi
            rw [red_allc M hM.2 hM.1 s4 i hi]
            exact e60_red hM.2 hE i
        · intro w4 f4 hf4 t17 t18 t19 t43 hE
          have x0 : w4 0 = oWP kn ks lf := hf4.get rfl (by omega)
          have xC := hCg w4 hf4
          have x5 := xC.1
          have ca := k_addPart (X := X) (l := l) (nI j) (nI k) j k M w4 n rfl rfl hj hk hM hS.1 (hdj j hj) x0 xC (hgen w4 hf4) t17 t19
          obtain ⟨w4, rfl⟩ := va_ex2 x0 x5
          refine ab_sound ok_123 [54] 80 ?_
          refine And.intro (fun h_9 => absurd h_9 (nI_ge hj (by have := hS.1; omega))) (fun _ => ?_)
          (refine Exists.intro 0 ?_; refine ⟨0, _, Nat.zero_le _, Nat.zero_le _, ca, ?_⟩; refine ab_q1_elim ?_)
          refine ab_ev_of (jh _ _ (hf4.up (k := 19) (by omega)) t17 t18 va_us t43 ?_) (by rw [nI_s j]; rfl) rfl rfl
          exact e60_ga hE _ (fun i _ => ⟨Nat.lt_of_lt_of_le (md_lt _ (by omega)) hM.2, rfl, rfl⟩)
      obtain ⟨w1, rfl⟩ := va_ex2 x0 s1
      refine ab_sound ok_123 [54] 80 ?_
      refine And.intro (fun h_9 => absurd h_9 (nI_ge hk (by omega))) (fun _ => ?_)
      (refine Exists.intro 0 ?_; refine ⟨0, _, Nat.zero_le _, Nat.zero_le _, c_Sums_clear _ _ s1 s3, ?_⟩; refine ab_q1_elim ?_)
      exact ab_ev_of (inn 0 (by omega) _ _ (hf.up (k := 19) (by omega)) s1 s2 va_us ((va_un (by omega)).trans hg) (e60_zb f)) rfl rfl rfl
  exact ab_ev_of (loop 0 (by omega) w1 (e1.mono (fun k hk => by omega)) e2 g0 (e1.get h43 (by omega)) (fun j i hj => by omega) none) rfl rfl rfl
end MIXINTO
