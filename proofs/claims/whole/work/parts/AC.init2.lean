/-! the objects made, further -/
section INIT2
variable {X : ab_X} {l : Launch}
theorem c_WL_init (w : ab_W) (h : w 4 = .inr (10, ab_df 10)) : ab_C X l i_WL_init [.ref 4] w 5 0 0 (ab_q1 none w 5) := by
  obtain ⟨w, rfl⟩ := va_ex h
  refine ab_metV cd_102 om_102 rfl rfl (ab_sound ok_102 [] 80 ?_)
  exact ⟨rfl, rfl, rfl⟩
theorem c_KR_init (w : ab_W) (h : w 3 = .inr (2, ab_df 2)) : ab_C X l i_KR_init [.ref 3] w 4 1 11 (ab_q1 none (va_up (va_up w 3 (oKR (nI 0) (nI 0) (nI 0))) 4 (.inr (10, ab_df 10))) 5) := by
  obtain ⟨w, rfl⟩ := va_ex h
  refine ab_metV cd_12 om_12 rfl rfl (ab_sound ok_12 [] 80 ?_)
  refine And.intro (⟨by omega, by omega⟩) ?_
  (refine Exists.intro 0 ?_; refine ⟨0, _, Nat.zero_le _, Nat.zero_le _, c_WL_init _ rfl, ?_⟩; refine ab_q1_elim ?_)
  refine ⟨rfl, ?_, rfl⟩
  simp only [Nat.reduceAdd, va_uu, va_uc, Nat.reduceLT]
  rfl
theorem c_Sheet_init (q n : Nat) (w : ab_W) (hq : q < n) (h : w q = .inr (6, ab_df 6)) : ab_C X l i_Sheet_init [.ref q] w n 1 0 (ab_q1 none (va_up (va_up w n (aI 0 (fun _ => 0))) q (oSheet (nI 0) (nI 0) n)) (n + 1)) := by
  refine ab_metV cd_53 om_53 rfl rfl (ab_sound ok_53 [] 80 ?_)
  refine And.intro (⟨by decide +kernel, by decide +kernel, by omega, by omega⟩) ?_
  refine Exists.intro _ (And.intro ((va_un (by omega)).trans h) ?_)
  refine And.intro (by decide) ?_
  exact ⟨rfl, rfl, rfl⟩
/-- the eight sheets as they are made -/
def Sh0 (w : ab_W) (i : Nat) : Prop := (∃ g : Nat → Option Nat, w 40 = .inl (3, 8, .inr (.inr (.inr (.inr g)))) ∧ ∀ t, t < i → g t = some (74 + 2 * t)) ∧ ∀ t, t < i → w (74 + 2 * t) = oSheet (nI 0) (nI 0) (75 + 2 * t) ∧ ∃ f, w (75 + 2 * t) = aI 0 f
theorem k_init145 (w : ab_W) (kn ks : Nat) (h0 : w 0 = oWP kn ks (nI 0)) (h40 : ∃ g : Nat → Option Nat, w 40 = .inl (3, 8, .inr (.inr (.inr (.inr g))))) : ab_Ev X l i_WP_init 145 [some (.ref 0), some (.int (nI 0))] [] w 74 16 24 (qV (fun w' n' => 90 = n' ∧ Fr (fun k => k = 40 ∨ 74 ≤ k) w w' ∧ Sh0 w' 8)) := by
  have loop : ∀ i, i ≤ 8 → ∀ (w1 : ab_W), Fr (fun k => k = 40 ∨ 74 ≤ k) w w1 → Sh0 w1 i → ab_Ev X l i_WP_init 145 [some (.ref 0), some (.int (nI i))] [] w1 (74 + 2 * i) (16 - 2 * i) (24 - 3 * i) (qV (fun w' n' => 90 = n' ∧ Fr (fun k => k = 40 ∨ 74 ≤ k) w w' ∧ Sh0 w' 8)) := by
    refine ab_up 8 ?_ (fun i hi ih => ?_)
    · intro w1 fr hs
      have y0 := fr.get h0 (by omega)
      have hs2 := hs
      obtain ⟨⟨g, y40, -⟩, -⟩ := hs2
      obtain ⟨w1, rfl⟩ := va_ex2 y0 y40
      refine ab_sound ok_106 [] 80 ?_
      refine And.intro (fun _ => ?_) (fun h_9 => absurd ((by decide +kernel)) h_9)
      exact ⟨rfl, rfl, fr, hs⟩
    · intro w1 fr hs
      have y0 := fr.get h0 (by omega)
      obtain ⟨⟨g, y40, u40⟩, us⟩ := hs
      have ih := ih (va_up (va_up (va_up (va_up w1 (74 + 2 * i) (.inr (6, ab_df 6))) (74 + 2 * i + 1) (aI 0 (fun _ => 0))) (74 + 2 * i) (oSheet (nI 0) (nI 0) (74 + 2 * i + 1))) 40 (.inl (3, 8, .inr (.inr (.inr (.inr (va_up g i (some (74 + 2 * i))))))))) ((((fr.up (Or.inr (by omega))).up (Or.inr (by omega))).up (Or.inr (by omega))).up (Or.inl rfl)) ⟨⟨_, va_us, fun t ht => ?_⟩, fun t ht => ?_⟩
      · obtain ⟨w1, rfl⟩ := va_ex2 y0 y40
        have at166 : ∀ w2 : ab_W, w2 40 = .inl (3, 8, .inr (.inr (.inr (.inr g)))) → w2 (74 + 2 * i) = oSheet (nI 0) (nI 0) (74 + 2 * i + 1) → w2 = va_up (va_up (va_up (va_up (va_up w1 40 (.inl (3, 8, .inr (.inr (.inr (.inr g)))))) 0 (oWP kn ks (nI 0))) (74 + 2 * i) (.inr (6, ab_df 6))) (74 + 2 * i + 1) (aI 0 (fun _ => 0))) (74 + 2 * i) (oSheet (nI 0) (nI 0) (74 + 2 * i + 1)) → ab_Ev X l i_WP_init 166 [some (.ref 0), some (.int (nI i))] [.ref (74 + 2 * i), .int (nI i), .ref 40] w2 (74 + 2 * (i + 1)) (16 - 2 * (i + 1)) (24 - 3 * (i + 1)) (qV (fun w' n' => 90 = n' ∧ Fr (fun k => k = 40 ∨ 74 ≤ k) w w' ∧ Sh0 w' 8)) := by
          intro w2 z40 zq hw2
          rw [← hw2] at ih
          refine ab_x_aastore (ab_dec ok_106 166 rfl) z40 zq (vp_in_nI hi (by omega)) ?_
          rw [nI_clamp (by omega)]
          refine ab_sound ok_106 [145] 80 ?_
          exact ab_ev_of ih (by rw [nI_s i]; rfl) rfl rfl
        refine ab_sound ok_106 [145, 166] 80 ?_
        refine And.intro (fun h_9 => absurd h_9 (nI_ge hi (by omega))) (fun _ => ?_)
        refine And.intro (⟨by omega, by show 3 ≤ 24 - 3 * i; omega⟩) ?_
        (refine Exists.intro 1 ?_; refine ⟨0, _, by omega, by omega, c_Sheet_init (74 + 2 * i) (74 + 2 * i + 1) _ (by omega) va_us, ?_⟩; rintro _ _ _ ⟨rfl, rfl, rfl⟩)
        have e1 : 16 - 2 * i - 1 - 1 = 16 - 2 * (i + 1) := by omega
        have e2 : 24 - 3 * i - 3 - 0 = 24 - 3 * (i + 1) := by omega
        have a := at166 _ (by rw [va_un (by omega), va_un (by omega), va_un (by omega)]; rfl) va_us rfl
        rw [← e1, ← e2, show 74 + 2 * (i + 1) = 74 + 2 * i + 1 + 1 by omega] at a
        exact a
      · by_cases e : t = i
        · rw [e, va_us]
        · rw [va_un e]; exact u40 t (by omega)
      · by_cases e : t = i
        · subst e
          rw [show 75 + 2 * t = 74 + 2 * t + 1 by omega]
          exact ⟨(va_un (by omega)).trans va_us, (fun _ => 0), (va_un (by omega)).trans ((va_un (by omega)).trans va_us)⟩
        · obtain ⟨a, f, b⟩ := us t (by omega)
          refine ⟨?_, f, ?_⟩
          · rw [va_un (by omega), va_un (by omega), va_un (by omega), va_un (by omega)]; exact a
          · rw [va_un (by omega), va_un (by omega), va_un (by omega), va_un (by omega)]; exact b
  obtain ⟨g, h40⟩ := h40
  exact loop 0 (by omega) w Fr.refl ⟨⟨g, h40, fun t ht => absurd ht (by omega)⟩, fun t ht => absurd ht (by omega)⟩
end INIT2
