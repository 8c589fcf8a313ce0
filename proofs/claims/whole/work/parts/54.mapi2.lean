section MAPI2
variable {X : ab_X} {l : Launch}
/-- one more row is written -/
theorem wr_rows {M : Nat} (hM : 3 ≤ M ∧ M ≤ 60) {g raw : Nat → Int64} {V : Nat → Nat → Int64} {k : Nat} (hg : ∀ j i, j < k → i < phi M → g (60 * j + i) = V j i) (hf : ∀ i, i < phi M → redV M raw i = V k i) : ∀ j i, j < k + 1 → i < phi M → wrF M (60 * k) 60 raw g (60 * j + i) = V j i := by
  intro j i hj hi
  have hp := phi_le M hM.2
  unfold wrF
  by_cases e : j = k
  · subst e
    rw [if_pos (by omega), if_pos (by omega), show 60 * j + i - 60 * j = i by omega]
    exact hf i hi
  · rw [if_neg (by omega)]
    exact hg j i (by omega) hi
abbrev FW (k : Nat) : Prop := k = 114 ∨ k = 117
theorem MB.wr {w w' : ab_W} {s : Nat → Int32} {wd tn : Int64} {N : Nat → Nat} {R : Nat → Nat → Nat → Int64} (h : MB w s wd tn N R) {F : Nat → Prop} (hf : Fr F w w') (hF : ∀ k, F k → k = 114 ∨ k = 117 ∨ k = 118) (h4 : ∃ f, w' 114 = aJ 60 f) (h7 : ∃ g, w' 117 = aJ 3600 g) (h8 : ∃ g, w' 118 = aJ 3600 g) : MB w' s wd tn N R := by
  obtain ⟨k0, k1, k2, -⟩ := h
  have q : ∀ k, k ≠ 114 → k ≠ 117 → k ≠ 118 → ¬ F k := fun k a b c z => by have := hF k z; omega
  exact ⟨hf.get k0 (q _ (by omega) (by omega) (by omega)), k1.fr hf (Fr.refl (F := fun _ => False)) (q _ (by omega) (by omega) (by omega)) (q _ (by omega) (by omega) (by omega)) (q _ (by omega) (by omega) (by omega)) (by simp) (by simp), k2.fr hf (q _ (by omega) (by omega) (by omega)) (q _ (by omega) (by omega) (by omega)), h4, h7, h8⟩
theorem MB.lay {w w' : ab_W} {s : Nat → Int32} {wd tn : Int64} {N N' : Nat → Nat} {R R' : Nat → Nat → Nat → Int64} (h : MB w s wd tn N R) (hf : Fr (fun k => k = 115 ∨ k = 116) w w') (hS : MSh w' N' R') : MB w' s wd tn N' R' := by
  obtain ⟨k0, k1, k2, ⟨f, h3⟩, ⟨g, h4⟩, k, h5⟩ := h
  exact ⟨hf.get k0 (by omega), k1.fr hf (Fr.refl (F := fun _ => False)) (by omega) (by omega) (by omega) (by simp) (by simp), hS, ⟨f, hf.get h3 (by omega)⟩, ⟨g, hf.get h4 (by omega)⟩, k, hf.get h5 (by omega)⟩
theorem k_Mod_product (x y z : Int32) (t u v : Nat) (w : ab_W) (n : Nat) {s : Nat → Int32} {wd tn : Int64} {N : Nat → Nat} {R : Nat → Nat → Nat → Int64} (hx : x = nI t) (hy : y = nI u) (hz : z = nI v) (ht : t < 8) (hu : u < 8) (hv : v < 8) (hN0 : N u ≠ 0) (hNv : N v = N u) (h : MB w s wd tn N R) :
    ab_C X l i_Mod_product [.ref 90, .int x, .int y, .int z] w n 0 0 (qI (if wiB (N u) (PV (N u) (R u) (R v)) = true then nI (N u) else -nI 2000) (mQ w n s wd tn (nI 0) (if wiB (N u) (PV (N u) (R u) (R v)) = true then va_up N t (N u) else N) (if wiB (N u) (PV (N u) (R u) (R v)) = true then va_up R t (PV (N u) (R u) (R v)) else R))) := by
  subst hx hy hz
  have hB0 := h.set0 (nI 0)
  obtain ⟨h0, -⟩ := h
  obtain ⟨w9, rfl⟩ := va_ex h0
  refine ab_mqI cd_228 om_228 rfl (ab_sound ok_228 [48] 80 ?_)
  (refine Exists.intro 0 ?_; refine ⟨0, _, Nat.zero_le _, Nat.zero_le _, c_Mod_isSheet_y _ t _ _ rfl ht, ?_⟩; refine ab_q1_elim ?_)
  refine And.intro (fun h_9 => absurd h_9 ((by decide))) (fun _ => ?_)
  (refine Exists.intro 0 ?_; refine ⟨0, _, Nat.zero_le _, Nat.zero_le _, k_has_y _ u _ _ rfl hu hN0 hB0.1 hB0.2.1 hB0.2.2.1, ?_⟩; rintro _ w1 _ ⟨rfl, rfl, e1, s1, e2, e3, e4⟩)
  have hB1 := hB0.laid e1 e2 e4
  obtain ⟨w1, rfl⟩ := va_ex e2
  refine And.intro (fun h_9 => absurd h_9 ((by decide))) (fun _ => ?_)
  (refine Exists.intro 0 ?_; refine ⟨0, _, Nat.zero_le _, Nat.zero_le _, k_has_y _ v _ _ rfl hv (by omega) hB1.1 hB1.2.1 hB1.2.2.1, ?_⟩; rintro _ w2 _ ⟨rfl, rfl, d1, s2, d2, d3, d4⟩)
  have hB2 := hB1.laid d1 d2 d4
  obtain ⟨pt, p1, p2⟩ := hB2.2.2.1.pts
  obtain ⟨w2, rfl⟩ := va_ex2 d2 p1
  refine And.intro (fun h_9 => absurd h_9 ((by decide))) (fun _ => ?_)
  refine And.intro (vp_in_nI hu (by omega)) ?_
  refine And.intro (vp_in_nI hv (by omega)) ?_
  rw [nI_clamp (by omega), nI_clamp (by omega), p2 u hu, p2 v hv, hNv]
  refine And.intro (fun _ => ?_) (fun h_9 => absurd (rfl) h_9)
  rw [hNv] at d4
  generalize hMe : N u = M at *
  obtain ⟨hM, ⟨c1, c2⟩, pf, pg, ph, c3, c4, c5, c6⟩ := id d4
  have hp := phi_le M hM.2
  have f0 : Fr FM (va_up w9 90 (oMod s wd tn)) (va_up (va_up w2 115 (aI 8 pt)) 90 (oMod s2 wd tn)) := ((Fr.refl.up (by omega)).trans (e1.mono (fun k hk => by omega))).trans (d1.mono (fun k hk => by omega))
  have g0 : Fr GA s s2 := ((Fr.refl.us (by omega)).trans (e3.mono (fun k hk => by omega))).trans (d3.mono (fun k hk => by omega))
  have g00 : s2 0 = nI 0 := d3.get (e3.get rfl (by omega)) (by omega)
  obtain ⟨G, G1, G2⟩ := hB2.2.2.1.rows
  generalize hW : va_up (va_up w2 115 (aI 8 pt)) 90 (oMod s2 wd tn) = W2 at *
  obtain ⟨f4, h114⟩ := hB2.2.2.2.1
  obtain ⟨f7, h117⟩ := hB2.2.2.2.2.1
  obtain ⟨f8, h118⟩ := hB2.2.2.2.2.2
  have loop : ∀ k, k ≤ M → ∀ w3, Fr FW W2 w3 → ∀ f, w3 114 = aJ 60 f → ∀ g, w3 117 = aJ 3600 g → (∀ j i, j < k → i < phi M → g (60 * j + i) = PV M (R u) (R v) j i) → ab_Ev X l i_Mod_product 48 [some (.ref 90), some (.int (nI t)), some (.int (nI u)), some (.int (nI v)), some (.int (nI k))] [] w3 n 0 0 (qI (if wiB M (PV M (R u) (R v)) = true then nI M else -nI 2000) (mQ (va_up w9 90 (oMod s wd tn)) n s wd tn (nI 0) (if wiB M (PV M (R u) (R v)) = true then va_up N t M else N) (if wiB M (PV M (R u) (R v)) = true then va_up R t (PV M (R u) (R v)) else R))) := by
    refine ab_up M ?_ (fun k hk ih => ?_)
    · intro w3 hf f hf4 g hg hr
      have hB3 : MB w3 s2 wd tn N R := hB2.wr hf (fun k hk => by omega) ⟨f, hf4⟩ ⟨g, hg⟩ ⟨f8, hf.get h118 (by omega)⟩
      have hf3 : Fr FM (va_up w9 90 (oMod s wd tn)) w3 := f0.trans (hf.mono (fun k hk => by omega))
      have hc2 := hB3.2.2.1
      obtain ⟨w3, rfl⟩ := va_ex hB3.1
      refine ab_sound ok_228 [48] 80 ?_
      refine And.intro (fun _ => ?_) (fun h_9 => absurd ((by rw [c1]; exact nI_le (Nat.le_refl _) (by omega))) h_9)
      (refine Exists.intro 0 ?_; refine ⟨0, _, Nat.zero_le _, Nat.zero_le _, c_Mod_isSmall M _ _ hM rfl c1 c2 hg hr, ?_⟩; refine ab_q1_elim ?_)
      by_cases hb : wiB M (PV M (R u) (R v)) = true
      · rw [hb]
        refine And.intro (fun _ => ?_) (fun h_9 => absurd h_9 ((by decide)))
        (refine Exists.intro 0 ?_; refine ⟨0, _, Nat.zero_le _, Nat.zero_le _, k_lay _ t M _ _ rfl ht hM rfl c1 hc2 hg hr, ?_⟩; rintro _ w4 _ ⟨rfl, rfl, b1, b2⟩)
        have hB4 := hB3.lay b1 b2
        obtain ⟨w4, rfl⟩ := va_ex hB4.1
        refine ⟨congrArg (fun q => some (Value.int q)) c1, rfl, hf3.trans (b1.mono (fun k hk => by omega)), s2, g0, g00, hB4⟩
      · rw [Bool.not_eq_true] at hb
        rw [hb]
        refine And.intro (fun h_9 => absurd (rfl) h_9) (fun _ => ?_)
        exact ⟨rfl, rfl, hf3, s2, g0, g00, hB3⟩
    · intro w3 hf f hf4 g hg hr
      have h90 : w3 90 = oMod s2 wd tn := hf.get hB2.1 (by omega)
      have h116 : w3 116 = aJ 28800 G := hf.get G1 (by omega)
      have h113 : w3 113 = aI 3600 ph := hf.get c5 (by omega)
      obtain ⟨w3, rfl⟩ := va_ex h90
      refine ab_sound ok_228 [48] 80 ?_
      refine And.intro (fun h_9 => absurd h_9 ((by rw [c1]; exact nI_ge hk (by omega)))) (fun _ => ?_)
      (refine Exists.intro 0 ?_; refine ⟨0, _, Nat.zero_le _, Nat.zero_le _, c_Mod_clear _ _ rfl hf4, ?_⟩; refine ab_q1_elim ?_)
      (refine Exists.intro 0 ?_; refine ⟨0, _, Nat.zero_le _, Nat.zero_le _, c_Mod_at _ _ u k _ _ rfl rfl, ?_⟩; refine ab_q1_elim ?_)
      (refine Exists.intro 0 ?_; refine ⟨0, _, Nat.zero_le _, Nat.zero_le _, c_Mod_at _ _ v k _ _ rfl rfl, ?_⟩; refine ab_q1_elim ?_)
      (refine Exists.intro 0 ?_; refine ⟨0, _, Nat.zero_le _, Nat.zero_le _, c_Mod_gatherProduct _ _ _ _ M (3600 * u + 60 * k) (3600 * v + 60 * k) _ _ false rfl rfl rfl hM.2 hM.1 (by omega) (by omega) c1 c2 rfl va_us h116, ?_⟩; refine ab_q1_elim ?_)
      (refine Exists.intro 0 ?_; refine ⟨0, _, Nat.zero_le _, Nat.zero_le _, c_Mod_write_117 _ M (60 * k) 3600 _ _ (pk_mul 60 k) hM.2 hM.1 (by omega) (by omega) c1 c2 rfl h113 c6 va_us hg, ?_⟩; refine ab_q1_elim ?_)
      refine ab_ev_of (ih _ (((hf.up (by omega)).up (by omega)).up (by omega)) _ ((va_un (by omega)).trans va_us) _ va_us (wr_rows hM hr ?_)) (by rw [nI_s k]; rfl) rfl rfl
      intro i hi
      refine e60_red hM.2 (e60_gp (e60_zb f) (phi M) (phi M) (fun i j hi hj => ?_)) i
      have q1 := G2 u hu k i (by omega) (by rw [hMe]; exact hi)
      have q2 := G2 v hv k j (by omega) (by rw [hNv]; exact hj)
      unfold rowsOf at q1 q2
      refine ⟨Nat.lt_of_lt_of_le (Nat.mod_lt _ (by omega)) hM.2, rfl, ?_⟩
      show lN 1 * G (3600 * u + 60 * k + i) * G (3600 * v + 60 * k + j) = _
      rw [q1, q2, show lN 1 = 1 from rfl, Int64.one_mul]
  exact ab_ev_of (loop 0 (by omega) W2 Fr.refl f4 h114 f7 h117 (fun j i hj => by omega)) rfl rfl rfl
end MAPI2
