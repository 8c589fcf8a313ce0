section DIST
variable {X : ab_X} {l : Launch}
theorem c_WP_likeRows_43 (x z : Int32) (p a b : Nat) (w : ab_W) (n : Nat) {g : Nat → Int64} (hx : x = nI a) (hz : z = nI b) (hp : p ≤ 58) (ha : a + p ≤ 3480) (hb : b + p ≤ 3480) (h3 : w 43 = aJ 3480 g) : ab_C X l i_WP_likeRows [.ref 43, .int x, .ref 43, .int z, .int (nI p)] w n 0 0 (ab_q1 (some (.int (b01 (lkB p (fun i => g (a + i)) (fun i => g (b + i)))))) w n) := by
  subst hx hz
  obtain ⟨w, rfl⟩ := va_ex h3
  refine ab_metI cd_130 om_130 rfl (ab_sound ok_130 [31] 50 ?_)
  refine And.intro (fun h_9 => absurd h_9 (nI_pos (by omega))) (fun _ => ?_)
  refine And.intro (fun h_9 => absurd h_9 (nI_pos (by omega))) (fun _ => ?_)
  refine And.intro (fun h_9 => absurd h_9 ((by rw [nI_add]; exact nI_nlt (by omega) (by omega)))) (fun _ => ?_)
  refine And.intro (fun _ => ?_) (fun h_9 => absurd ((by rw [nI_add]; exact nI_le (by omega) (by omega))) h_9)
  have loop : ∀ i, i ≤ p → (∀ m, m < i → g (a + m) = g (b + m)) → ab_Ev X l i_WP_likeRows 31 [some (.ref 43), some (.int (nI a)), some (.ref 43), some (.int (nI b)), some (.int (nI p)), some (.int (nI i))] [] (va_up w 43 (aJ 3480 g)) n 0 0 (ab_q1 (some (.int (b01 (lkB p (fun i => g (a + i)) (fun i => g (b + i)))))) (va_up w 43 (aJ 3480 g)) n) := by
    refine ab_up p ?_ (fun i hi ih => ?_)
    · intro hm
      refine ab_sound ok_130 [31] 50 ?_
      refine And.intro (fun _ => ?_) (fun h_9 => absurd (nI_le (Nat.le_refl _) (by omega)) h_9)
      rw [show lkB p (fun i => g (a + i)) (fun i => g (b + i)) = true from lkB_iff.mpr hm]
      exact ⟨rfl, rfl, rfl, rfl⟩
    · intro hm
      refine ab_sound ok_130 [31] 50 ?_
      refine And.intro (fun h_9 => absurd h_9 (nI_ge hi (by omega))) (fun _ => ?_)
      refine And.intro ((by rw [nI_add]; exact vp_in_nI (by omega) (by omega))) ?_
      refine And.intro ((by rw [nI_add]; exact vp_in_nI (by omega) (by omega))) ?_
      rw [nI_add, nI_add, nI_clamp (by omega), nI_clamp (by omega)]
      refine And.intro (fun hc => ?_) (fun hc => ?_)
      · rw [lg_eq] at hc
        refine ab_ev_of (ih (fun m hm2 => ?_)) (by rw [nI_s i]; rfl) rfl rfl
        by_cases e : m = i
        · rw [e]; exact hc
        · exact hm m (by omega)
      · rw [lg_eq] at hc
        rw [show lkB p (fun i => g (a + i)) (fun i => g (b + i)) = false by rw [← Bool.not_eq_true, lkB_iff]; exact fun hq => hc (hq i hi)]
        exact ⟨rfl, rfl, rfl, rfl⟩
  exact loop 0 (by omega) (fun m hm => by omega)
theorem c_WP_likeRows_21 (x : Int32) (p a : Nat) (w : ab_W) (n : Nat) {g h : Nat → Int64} (hx : x = nI a) (hp : p ≤ 58) (ha : a + p ≤ 6960) (h3 : w 21 = aJ 6960 g) (h4 : w 24 = aJ 58 h) : ab_C X l i_WP_likeRows [.ref 21, .int x, .ref 24, .int (nI 0), .int (nI p)] w n 0 0 (ab_q1 (some (.int (b01 (lkB p (fun i => g (a + i)) h)))) w n) := by
  subst hx
  obtain ⟨w, rfl⟩ := va_ex2 h3 h4
  refine ab_metI cd_130 om_130 rfl (ab_sound ok_130 [31] 50 ?_)
  refine And.intro (fun h_9 => absurd h_9 (nI_pos (by omega))) (fun _ => ?_)
  refine And.intro (fun h_9 => absurd h_9 (nI_pos (by omega))) (fun _ => ?_)
  refine And.intro (fun h_9 => absurd h_9 ((by rw [nI_add]; exact nI_nlt (by omega) (by omega)))) (fun _ => ?_)
  refine And.intro (fun _ => ?_) (fun h_9 => absurd ((by rw [nI_add]; exact nI_le (by omega) (by omega))) h_9)
  have loop : ∀ i, i ≤ p → (∀ m, m < i → g (a + m) = h m) → ab_Ev X l i_WP_likeRows 31 [some (.ref 21), some (.int (nI a)), some (.ref 24), some (.int (nI 0)), some (.int (nI p)), some (.int (nI i))] [] (va_up (va_up w 24 (aJ 58 h)) 21 (aJ 6960 g)) n 0 0 (ab_q1 (some (.int (b01 (lkB p (fun i => g (a + i)) h)))) (va_up (va_up w 24 (aJ 58 h)) 21 (aJ 6960 g)) n) := by
    refine ab_up p ?_ (fun i hi ih => ?_)
    · intro hm
      refine ab_sound ok_130 [31] 50 ?_
      refine And.intro (fun _ => ?_) (fun h_9 => absurd (nI_le (Nat.le_refl _) (by omega)) h_9)
      rw [show lkB p (fun i => g (a + i)) h = true from lkB_iff.mpr hm]
      exact ⟨rfl, rfl, rfl, rfl⟩
    · intro hm
      refine ab_sound ok_130 [31] 50 ?_
      refine And.intro (fun h_9 => absurd h_9 (nI_ge hi (by omega))) (fun _ => ?_)
      refine And.intro ((by rw [nI_add]; exact vp_in_nI (by omega) (by omega))) ?_
      refine And.intro ((by rw [nI_add]; exact vp_in_nI (by omega) (by omega))) ?_
      rw [nI_add, nI_add, nI_clamp (by omega), nI_clamp (by omega), Nat.zero_add]
      refine And.intro (fun hc => ?_) (fun hc => ?_)
      · rw [lg_eq] at hc
        refine ab_ev_of (ih (fun m hm2 => ?_)) (by rw [nI_s i]; rfl) rfl rfl
        by_cases e : m = i
        · rw [e]; exact hc
        · exact hm m (by omega)
      · rw [lg_eq] at hc
        rw [show lkB p (fun i => g (a + i)) h = false by rw [← Bool.not_eq_true, lkB_iff]; exact fun hq => hc (hq i hi)]
        exact ⟨rfl, rfl, rfl, rfl⟩
  exact loop 0 (by omega) (fun m hm => by omega)
/-- the points' distances -/
def DV (N : Nat) (R : Nat → Nat → Int64) (k i : Nat) : Int64 := redV N (gpF (fun i j => (j + N - i) % N) (fun i j => lN 1 * R k i * R k j) (phi N) (phi N) Z0) i
theorem k_WP_distances (t : Nat) (w : ab_W) (n : Nat) {N : Nat → Nat} {R : Nat → Nat → Nat → Int64} {kn ks : Nat} {lf : Int32} (ht : t < 8) (hN : N t ≠ 0) (h : KB w n kn ks lf N R) (hs : KSums w (N t)) :
    ab_C X l i_WP_distances [.ref 0, .ref (74 + 2 * t)] w n 0 0 (qI (nI (cnt (fresh (phi (N t)) (DV (N t) (R t))) (N t))) fun w' n' => n = n' ∧ Fr FR w w' ∧ KB w' n' kn ks lf N R) := by
  obtain ⟨h0, hK, hS, g0, h43⟩ := h
  obtain ⟨aa, hA, hM⟩ := hS.is ht hN
  generalize hMe : N t = M at *
  have hp := phi_le _ hM.2
  have hp1 := phi_ge M hM.2 hM.1
  have hp2 := phi_lt M hM.2 hM.1
  have hA1 : ∀ w1, Fr FR w w1 → ShIs w1 (74 + 2 * t) M aa (R t) := fun w1 hf => hA.frS hf FR_FS
  have snd : ∀ w1, Fr FR w w1 → KSums w1 M → ∀ g, w1 43 = aJ 3480 g → Rw M g (DV M (R t)) → ∀ k, k ≤ M → ∀ l4 l5 : Option Value, ab_Ev X l i_WP_distances 57 [some (.ref 0), some (.ref (74 + 2 * t)), some (.int (nI (cnt (fresh (phi M) (DV M (R t))) k))), some (.int (nI k)), l4, l5] [] w1 n 0 0 (qI (nI (cnt (fresh (phi M) (DV M (R t))) M)) fun w' n' => n = n' ∧ Fr FR w w' ∧ KB w' n' kn ks lf N R) := by
    intro w1 hf hs g hg hr
    have hw0 : w1 0 = oWP kn ks lf := hf.get h0 (by omega)
    have hKB : KB w1 n kn ks lf N R := ⟨hw0, Or.inr ⟨M, hs⟩, hS.fr hf (fun k hk => ⟨by omega, FR_FS k hk⟩) (Nat.le_refl _), g, hg⟩
    have hA2 := hA1 w1 hf
    obtain ⟨w1, rfl⟩ := va_ex hw0
    have hlk : ∀ j k, j < M → k < M → lkB (phi M) (fun i => g (j * phi M + i)) (fun i => g (k * phi M + i)) = lkB (phi M) (DV M (R t) j) (DV M (R t) k) := by
      intro j k hj hk
      unfold lkB
      apply decide_eq_decide.mpr
      exact ⟨fun q i hi => by rw [← hr j i hj hi, ← hr k i hk hi]; exact q i hi, fun q i hi => by show g (j * phi M + i) = g (k * phi M + i); rw [hr j i hj hi, hr k i hk hi]; exact q i hi⟩
    refine ab_up M ?_ (fun k hk ih => ?_)
    · intro l4 l5
      refine ab_sound ok_129 [57] 80 ?_
      refine Exists.intro _ (Exists.intro _ (And.intro (hA2.1) (And.intro rfl ?_)))
      refine And.intro (fun _ => ?_) (fun h_9 => absurd (nI_le (Nat.le_refl _) (by omega)) h_9)
      exact ⟨rfl, rfl, hf, hKB⟩
    · intro l4 l5
      refine ab_sound ok_129 [57, 71] 80 ?_
      refine Exists.intro _ (Exists.intro _ (And.intro (hA2.1) (And.intro rfl ?_)))
      refine And.intro (fun h_9 => absurd h_9 (nI_ge hk (by omega))) (fun _ => ?_)
      have hu : cnt (fresh (phi M) (DV M (R t))) (k + 1) = cnt (fresh (phi M) (DV M (R t))) k + (if fresh (phi M) (DV M (R t)) k = true then 1 else 0) := rfl
      rw [hu] at ih
      have fin : ∀ (b : Bool) (j : Nat), b = fresh (phi M) (DV M (R t)) k → ab_Ev X l i_WP_distances 126 [some (.ref 0), some (.ref (74 + 2 * t)), some (.int (nI (cnt (fresh (phi M) (DV M (R t))) k))), some (.int (nI k)), some (.int (b01 b)), some (.int (nI j))] [] (va_up w1 0 (oWP kn ks lf)) n 0 0 (qI (nI (cnt (fresh (phi M) (DV M (R t))) M)) fun w' n' => n = n' ∧ Fr FR w w' ∧ KB w' n' kn ks lf N R) := by
        intro b j hb
        refine ab_sound ok_129 [57] 80 ?_
        rw [← hb] at ih
        cases b
        · refine And.intro (fun _ => ?_) (fun h_9 => absurd (rfl) h_9)
          exact ab_ev_of (ih (some (.int (b01 false))) (some (.int (nI j)))) (by rw [nI_s k]; rfl) rfl rfl
        · refine And.intro (fun h_9 => absurd h_9 ((by decide))) (fun _ => ?_)
          exact ab_ev_of (ih (some (.int (b01 true))) (some (.int (nI j)))) (by rw [nI_s k, if_pos rfl, nI_s (cnt _ k)]; rfl) rfl rfl
      have inn : ∀ j, j ≤ k → (∀ m, m < j → lkB (phi M) (DV M (R t) m) (DV M (R t) k) = false) → ab_Ev X l i_WP_distances 71 [some (.ref 0), some (.ref (74 + 2 * t)), some (.int (nI (cnt (fresh (phi M) (DV M (R t))) k))), some (.int (nI k)), some (.int (nI 1)), some (.int (nI j))] [] (va_up w1 0 (oWP kn ks lf)) n 0 0 (qI (nI (cnt (fresh (phi M) (DV M (R t))) M)) fun w' n' => n = n' ∧ Fr FR w w' ∧ KB w' n' kn ks lf N R) := by
        refine ab_up k ?_ (fun j hj ih2 => ?_)
        · intro hm
          refine ab_sound ok_129 [57, 71, 126] 80 ?_
          refine And.intro (fun _ => ?_) (fun h_9 => absurd (nI_le (Nat.le_refl _) (by omega)) h_9)
          exact fin true k (decide_eq_true hm).symm
        · intro hm
          refine ab_sound ok_129 [57, 71, 126] 80 ?_
          refine And.intro (fun h_9 => absurd h_9 (nI_ge hj (by omega))) (fun _ => ?_)
          refine And.intro (fun h_9 => absurd h_9 ((by decide))) (fun _ => ?_)
          refine Exists.intro _ (Exists.intro _ (And.intro (hA2.1) (And.intro rfl ?_)))
          refine Exists.intro _ (Exists.intro _ (And.intro (hA2.1) (And.intro rfl ?_)))
          refine Exists.intro _ (Exists.intro _ (And.intro (hA2.1) (And.intro rfl ?_)))
          have k1 := kp_le hM (show j < M by omega)
          have k2 := kp_le hM hk
          (refine Exists.intro 0 ?_; refine ⟨0, _, Nat.zero_le _, Nat.zero_le _, c_WP_likeRows_43 _ _ (phi M) (j * phi M) (k * phi M) _ _ (pk_mul _ _) (pk_mul _ _) hp k1 k2 hg, ?_⟩; refine ab_q1_elim ?_)
          rw [hlk j k (by omega) hk]
          cases hb : lkB (phi M) (DV M (R t) j) (DV M (R t) k)
          · refine And.intro (fun h_9 => absurd (rfl) h_9) (fun _ => ?_)
            refine ab_ev_of (ih2 (fun m hm2 => ?_)) (by rw [nI_s j]; rfl) rfl rfl
            by_cases e : m = j
            · rw [e]; exact hb
            · exact hm m (by omega)
          · refine And.intro (fun _ => ?_) (fun h_9 => absurd h_9 ((by decide)))
            have hfr : fresh (phi M) (DV M (R t)) k = false := by
              rw [← Bool.not_eq_true]
              intro z
              have := of_decide_eq_true z j hj
              rw [hb] at this
              cases this
            refine ab_sound ok_129 [126] 80 ?_
            by_cases e : nI k ≤ nI j + nI 1
            · refine And.intro (fun _ => ?_) (fun h_9 => absurd (e) h_9)
              exact ab_ev_of (fin false (j + 1) hfr.symm) (by rw [nI_s j]; rfl) rfl rfl
            · refine And.intro (fun h_9 => absurd h_9 (e)) (fun _ => ?_)
              refine And.intro (fun _ => ?_) (fun h_9 => absurd (rfl) h_9)
              exact ab_ev_of (fin false (j + 1) hfr.symm) (by rw [nI_s j]; rfl) rfl rfl
      exact inn 0 (by omega) (fun m hm => by omega)
  refine ab_mqI cd_129 om_129 rfl (ab_sound ok_129 [2] 80 ?_)
  have loop : ∀ k, k ≤ M → ∀ w1, Fr FR w w1 → KSums w1 M → ∀ g, w1 43 = aJ 3480 g → (∀ j i, j < k → i < phi M → g (j * phi M + i) = DV M (R t) j i) → ab_Ev X l i_WP_distances 2 [some (.ref 0), some (.ref (74 + 2 * t)), some (.int (nI k)), none, none, none] [] w1 n 0 0 (qI (nI (cnt (fresh (phi M) (DV M (R t))) M)) fun w' n' => n = n' ∧ Fr FR w w' ∧ KB w' n' kn ks lf N R) := by
    refine ab_up M ?_ (fun k hk ih => ?_)
    · intro w1 hf hs g hg hr
      have hA2 := hA1 w1 hf
      refine ab_sound ok_129 [2, 57] 80 ?_
      refine Exists.intro _ (Exists.intro _ (And.intro (hA2.1) (And.intro rfl ?_)))
      refine And.intro (fun _ => ?_) (fun h_9 => absurd (nI_le (Nat.le_refl _) (by omega)) h_9)
      exact snd w1 hf hs g hg hr 0 (by omega) none none
    · intro w1 hf hs g hg hr
      have hw0 : w1 0 = oWP kn ks lf := hf.get h0 (by omega)
      have hA2 := hA1 w1 hf
      obtain ⟨-, c, f, s1, s2, s3, s4⟩ := id hs
      obtain ⟨w1, rfl⟩ := va_ex2 hw0 s1
      refine ab_sound ok_129 [2] 80 ?_
      refine Exists.intro _ (Exists.intro _ (And.intro (hA2.1) (And.intro rfl ?_)))
      refine And.intro (fun h_9 => absurd h_9 (nI_ge hk (by omega))) (fun _ => ?_)
      (refine Exists.intro 0 ?_; refine ⟨0, _, Nat.zero_le _, Nat.zero_le _, c_Sums_clear _ _ s1 s3, ?_⟩; refine ab_q1_elim ?_)
      (refine Exists.intro 0 ?_; refine ⟨0, _, Nat.zero_le _, Nat.zero_le _, c_Sums_addMirroredProduct _ _ _ _ aa M k k _ _ rfl rfl hM.2 hM.1 hk hk (hA2.up (by omega)) s1 va_us, ?_⟩; refine ab_q1_elim ?_)
      (refine Exists.intro 0 ?_; refine ⟨0, _, Nat.zero_le _, Nat.zero_le _, c_Sums_reduce M (phi M) _ _ (by omega) (by omega) hM.2 (phi_le M hM.2) s1 s2 va_us, ?_⟩; refine ab_q1_elim ?_)
      (refine Exists.intro 0 ?_; refine ⟨0, _, Nat.zero_le _, Nat.zero_le _, c_Sums_store_43 k (phi M) 3480 _ _ (by omega) (by omega) (kp_le hM hk) (by omega) s1 va_us (((va_un (by omega)).trans ((va_un (by omega)).trans (va_un (by omega)))).trans hg), ?_⟩; refine ab_q1_elim ?_)
      refine ab_ev_of (ih _ ((((hf.up (by omega)).up (by omega)).up (by omega)).up (by omega)) ?_ _ va_us (st_rows hM hk hr ?_)) (by rw [nI_s k]; rfl) rfl rfl
      · exact ((hs.set).set.set).fr ((Fr.refl (F := fun k => k = 43)).up rfl) (by omega) (by omega) (by omega)
      · intro i hi
        rw [red_allc M hM.2 hM.1 s4 i hi]
        exact e60_red hM.2 (e60_gp (e60_zb f) (phi M) (phi M) (fun i j hi hj => ⟨Nat.lt_of_lt_of_le (Nat.mod_lt _ (by omega)) hM.2, rfl, rfl⟩)) i
  exact ab_ev_of (loop 0 (by omega) w Fr.refl hs g0 h43 (fun j i hj => by omega)) rfl rfl rfl
end DIST
