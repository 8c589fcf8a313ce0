/-! a mix laid down, for the model -/
def FMm (k : Nat) : Prop := k = 90 ∨ (111 ≤ k ∧ k ≤ 124)
def GMx (k : Nat) : Prop := k = 0 ∨ (2 ≤ k ∧ k ≤ 11) ∨ k = 13 ∨ (38 ≤ k ∧ k ≤ 40) ∨ k = 52
def mxQ (N : Nat → Nat) (R : Nat → Nat → Nat → Int64) (t : Nat) (O : Sum (Nat × Nat) MS) (w : ab_W) (n : Nat) (s : Nat → Int32) (tn : Int64) (w' : ab_W) (n' : Nat) : Prop := n = n' ∧ Fr FMm w w' ∧ ∃ s' wd', MB w' s' wd' tn (mixN N R t O) (mixR N R t O) ∧ MMs w' ∧ s' 0 = nI 0 ∧ s' 2 = nI 0 ∧ s' 10 = mixF O ∧ Fr GMx s s'
theorem MMs.fr {F : Nat → Prop} {w w' : ab_W} (h : MMs w) (hf : Fr F w w') (hF : ∀ k, F k → ¬ (119 ≤ k ∧ k ≤ 124)) : MMs w' := by
  have e : ∀ k, 119 ≤ k → k ≤ 124 → w' k = w k := fun k a b => hf k (fun z => hF k z ⟨a, b⟩)
  unfold MMs at h ⊢
  rw [e 119 (by omega) (by omega), e 120 (by omega) (by omega), e 121 (by omega) (by omega), e 122 (by omega) (by omega), e 123 (by omega) (by omega), e 124 (by omega) (by omega)]
  exact h
theorem MMx.fr {F : Nat → Prop} {w w' : ab_W} {N : Nat → Nat} {S : MS} (h : MMx w N S) (hf : Fr F w w') (hF : ∀ k, F k → ¬ (119 ≤ k ∧ k ≤ 124)) : MMx w' N S := by
  have e : ∀ k, 119 ≤ k → k ≤ 124 → w' k = w k := fun k a b => hf k (fun z => hF k z ⟨a, b⟩)
  unfold MMx at h ⊢
  rw [e 119 (by omega) (by omega), e 120 (by omega) (by omega), e 121 (by omega) (by omega), e 122 (by omega) (by omega), e 123 (by omega) (by omega), e 124 (by omega) (by omega)]
  exact h
theorem md_sbn {N t i : Nat} (hN : 0 < N) (hi : i ≤ N) : (t + N - i) % N = md ((t : Int) - (i : Int)) N := by
  apply Int.ofNat.inj
  show (((t + N - i) % N : Nat) : Int) = ((md _ N : Nat) : Int)
  rw [md_cast _ hN, Int.natCast_emod, show ((t + N - i : Nat) : Int) = ((t : Int) - (i : Int)) + (N : Int) by omega, Int.add_emod_right]
theorem mxIx_e {M i : Nat} {d : PD} (hM : 0 < M) (hi : i ≤ M) : (if d.2.2.2.2.2 = true then (mxT M d + M - i) % M else (mxT M d + i) % M) = mxIx M d i := by
  unfold mxIx
  cases d.2.2.2.2.2
  · rw [if_neg (by decide), if_neg (by decide), ← md_nat]
    congr 1
  · rw [if_pos rfl, if_pos rfl]
    exact md_sbn hM hi
section MMIX
variable {X : ab_X} {l : Launch}
theorem k_mm170 (t M : Nat) (w w1 : ab_W) (n : Nat) {s s1 : Nat → Int32} {wd1 tn : Int64} {N : Nat → Nat} {R : Nat → Nat → Nat → Int64} {S : MS} {O : Sum (Nat × Nat) MS} {x2 x3 : Int32} {x4 : Option Value} (hO : .inr S = O) (ht : t < 8) (hMe : N (S.2 0).1 = M) (hS1 : 1 ≤ S.1) (hS : MSok N S) (fr : Fr FMm w w1) (hB : MB w1 s1 wd1 tn N R) (hX : MMx w1 N S) (h52 : s1 52 = nI S.1) (z0 : s1 0 = nI 0) (z2 : s1 2 = nI 0) (z10 : s1 10 = nI 0) (frs : Fr GMx s s1) :
    ab_Ev X l i_Mod_mix 170 [some (.ref 90), some (.int (nI t)), some (.int x2), some (.int x3), x4] [] w1 n 0 0 (qI (mixV N R O) (mxQ N R t O w n s tn)) := by
  subst hO
  obtain ⟨hd0, hd00⟩ := hS.2 0 (by omega)
  rw [hMe] at hd00
  have hNO := hB.2.2.1.1
  have hM : 3 ≤ M ∧ M ≤ 60 := by have := hNO (S.2 0).1 hd0.1; rw [hMe] at this; omega
  have hdj : ∀ j, j < S.1 → PDok N M (S.2 j) := fun j hj => by have := (hS.2 j hj).1; rw [hMe] at this; exact this
  obtain ⟨pt, p1, p2⟩ := hB.2.2.1.pts
  have y90 := hB.1
  have cl := k_layN (X := X) (l := l) (nI M) M w1 n rfl hM hB.1 hB.2.1
  have hX2 := hX
  obtain ⟨⟨f19, h119, u19⟩, -⟩ := hX2
  obtain ⟨w1, rfl⟩ := va_ex3 y90 p1 h119
  refine ab_sound ok_209 [187] 80 ?_
  refine And.intro (vp_in_nI (show 0 < 12 by omega) (by omega)) ?_
  rw [nI_clamp (by omega), u19 0 (by omega)]
  refine And.intro (vp_in_nI hd0.1 (by omega)) ?_
  rw [nI_clamp (by have := hd0.1; omega), p2 _ hd0.1, hMe]
  (refine Exists.intro 0 ?_; refine ⟨0, _, Nat.zero_le _, Nat.zero_le _, cl, ?_⟩; rintro _ w2 _ ⟨rfl, rfl, e1, s2, e2, e3, e4⟩)
  have hB2 := hB.laid e1 e2 e4
  have hX2 := hX.fr e1 (fun k hk => by omega)
  have fr2 := fr.trans (e1.mono (G := FMm) (fun k hk => by unfold FMm; omega))
  have frs2 := frs.trans (e3.mono (G := GMx) (fun k hk => by unfold GMx; omega))
  have v52 : s2 52 = nI S.1 := by rw [e3 52 (by omega), h52]
  have v0 : s2 0 = nI 0 := by rw [e3 0 (by omega), z0]
  have v2 : s2 2 = nI 0 := by rw [e3 2 (by omega), z2]
  have v10 : s2 10 = nI 0 := by rw [e3 10 (by omega), z10]
  obtain ⟨-, ⟨c1, c2⟩, pf, pg, ph, c3, c4, c5, c6⟩ := id e4
  have hp := phi_le M hM.2
  have hp2 := phi_lt M hM.2 hM.1
  obtain ⟨G, G1, G2⟩ := hB2.2.2.1.rows
  obtain ⟨f4, h114⟩ := hB2.2.2.2.1
  obtain ⟨f7, h117⟩ := hB2.2.2.2.2.1
  obtain ⟨f8, h118⟩ := hB2.2.2.2.2.2
  generalize hQ : mxQ N R t (.inr S) w n s tn = Q
  have fin : ∀ (w9 : ab_W) (N' : Nat → Nat) (R' : Nat → Nat → Nat → Int64), N' = mixN N R t (.inr S) → R' = mixR N R t (.inr S) → Fr FMm w2 w9 → MB w9 s2 wd1 tn N' R' → MMs w9 → Q w9 n := by
    intro w9 N' R' a b f9 hB9 hM9
    subst hQ a b
    exact ⟨rfl, fr2.trans f9, s2, wd1, hB9, hM9, v0, v2, v10, frs2⟩
  have loop : ∀ k, k ≤ M → ∀ w3, Fr FW w2 w3 → ∀ f, w3 114 = aJ 60 f → ∀ g, w3 117 = aJ 3600 g → (∀ j i, j < k → i < phi M → g (60 * j + i) = MxV M R S j i) → ∀ x4 : Option Value, ab_Ev X l i_Mod_mix 187 [some (.ref 90), some (.int (nI t)), some (.int x2), some (.int (nI k)), x4] [] w3 n 0 0 (qI (mixV N R (.inr S)) Q) := by
    refine ab_up M ?_ (fun k hk ih => ?_)
    · intro w3 hf f hf4 g hg hr x4
      have hB3 : MB w3 s2 wd1 tn N R := hB2.wr hf (fun k hk => by omega) ⟨f, hf4⟩ ⟨g, hg⟩ ⟨f8, hf.get h118 (by omega)⟩
      have hX3 := hX2.sh.fr hf (fun k hk => by omega)
      have hf3 : Fr FMm w2 w3 := hf.mono (fun k hk => by unfold FMm; omega)
      have hc2 := hB3.2.2.1
      obtain ⟨w3, rfl⟩ := va_ex hB3.1
      refine ab_sound ok_209 [187] 80 ?_
      refine And.intro (fun _ => ?_) (fun h_9 => absurd ((by rw [c1]; exact nI_le (Nat.le_refl _) (by omega))) h_9)
      (refine Exists.intro 0 ?_; refine ⟨0, _, Nat.zero_le _, Nat.zero_le _, c_Mod_isSmall M _ _ hM rfl c1 c2 hg hr, ?_⟩; refine ab_q1_elim ?_)
      by_cases hb : wiB M (MxV M R S) = true
      · have hb2 : mxB N R S = true := by unfold mxB; rw [hMe]; exact hb
        rw [hb]
        refine And.intro (fun _ => ?_) (fun h_9 => absurd h_9 ((by decide)))
        (refine Exists.intro 0 ?_; refine ⟨0, _, Nat.zero_le _, Nat.zero_le _, k_lay _ t M _ _ rfl ht hM rfl c1 hc2 hg hr, ?_⟩; rintro _ w4 _ ⟨rfl, rfl, b1, b2⟩)
        have hB4 := hB3.lay b1 b2
        have hX4 := hX3.fr b1 (fun k hk => by omega)
        have q := fin w4 _ _ (by show _ = (if mxB N R S = true then va_up N t (N (S.2 0).1) else N); rw [if_pos hb2, hMe]) (by show _ = (if mxB N R S = true then va_up R t (MxV (N (S.2 0).1) R S) else R); rw [if_pos hb2, hMe]) (hf3.trans (b1.mono (fun k hk => by unfold FMm; omega))) hB4 hX4
        obtain ⟨w4, rfl⟩ := va_ex hB4.1
        refine ⟨?_, q⟩
        show some (Value.int (s2 52)) = some (Value.int (if mxB N R S = true then nI S.1 else -nI 2000))
        rw [v52, if_pos hb2]
      · have hb2 : ¬ mxB N R S = true := by unfold mxB; rw [hMe]; exact hb
        rw [Bool.not_eq_true] at hb
        rw [hb]
        refine And.intro (fun h_9 => absurd (rfl) h_9) (fun _ => ?_)
        refine ⟨?_, fin _ _ _ (by show _ = (if mxB N R S = true then va_up N t (N (S.2 0).1) else N); rw [if_neg hb2]) (by show _ = (if mxB N R S = true then va_up R t (MxV (N (S.2 0).1) R S) else R); rw [if_neg hb2]) hf3 hB3 hX3⟩
        show some (Value.int (-nI 2000)) = some (Value.int (if mxB N R S = true then nI S.1 else -nI 2000))
        rw [if_neg hb2]
    · intro w3 hf f hf4 g hg hr x4
      have inn : ∀ j, j ≤ S.1 → ∀ w4 f5, Fr FW w2 w4 → w4 114 = aJ 60 f5 → w4 117 = aJ 3600 g → E60 f5 (mxA M R S k j Z0) → ab_Ev X l i_Mod_mix 202 [some (.ref 90), some (.int (nI t)), some (.int x2), some (.int (nI k)), some (.int (nI j))] [] w4 n 0 0 (qI (mixV N R (.inr S)) Q) := by
        refine ab_up S.1 ?_ (fun j hj jh => ?_)
        · intro w4 f5 hf4 t14 t17 hE
          have x90 : w4 90 = oMod s2 wd1 tn := hf4.get hB2.1 (by omega)
          have x113 := hf4.get c5 (by omega)
          obtain ⟨w4, rfl⟩ := va_ex x90
          refine ab_sound ok_209 [187] 80 ?_
          refine And.intro (fun _ => ?_) (fun h_9 => absurd ((by rw [v52]; exact nI_le (Nat.le_refl _) (by have := hS.1; omega))) h_9)
          (refine Exists.intro 0 ?_; refine ⟨0, _, Nat.zero_le _, Nat.zero_le _, c_Mod_write_117 _ M (60 * k) 3600 _ _ (pk_mul 60 k) hM.2 hM.1 (by omega) (by omega) c1 c2 rfl x113 c6 t14 t17, ?_⟩; refine ab_q1_elim ?_)
          refine ab_ev_of (ih _ (hf4.up (k := 117) (by omega)) _ ((va_un (by omega)).trans t14) _ va_us (wr_rows hM hr ?_) (some (.int (nI S.1)))) (by rw [nI_s k]; rfl) rfl rfl
          intro i hi
          exact e60_red hM.2 hE i
        · intro w4 f5 hf4 t14 t17 hE
          obtain ⟨q1, q2, q3, q4, q5⟩ := hdj j hj
          have hMj : N (S.2 j).1 = M := q2
          have x90 : w4 90 = oMod s2 wd1 tn := hf4.get hB2.1 (by omega)
          have x116 : w4 116 = aJ 28800 G := hf4.get G1 (by omega)
          have hX4 := hX2.fr hf4 (fun k hk => by omega)
          obtain ⟨⟨g19, y119, u19⟩, ⟨g20, y120, u20⟩, ⟨g21, y121, u21⟩, ⟨g22, y122, u22⟩, ⟨g23, y123, u23⟩, ⟨g24, y124, u24⟩⟩ := hX4
          have u19 := u19 j hj
          have u20 := u20 j hj
          have u21 := u21 j hj
          have u22 := u22 j hj
          have u23 := u23 j hj
          have u24 := u24 j hj
          rw [hMj] at u20 u21
          generalize hdd : S.2 j = d at *
          have hT : mxT M d < M := md_lt _ (by omega)
          have hF : mxF M d k < M := md_lt _ (by omega)
          have mfl := md_lt d.2.2.2.1 (show 0 < M by omega)
          have hj12 : j < 12 := by have := hS.1; omega
          have hb0 : 3600 * d.1 + 60 * mxF M d k + 60 ≤ 28800 := by omega
          obtain ⟨w4, rfl⟩ : ∃ w0, w4 = va_up (va_up (va_up (va_up (va_up (va_up (va_up (va_up w0 124 (aZ 12 g24)) 123 (aZ 12 g23)) 122 (aJ 12 g22)) 121 (aI 12 g21)) 120 (aI 12 g20)) 119 (aI 12 g19)) 116 (aJ 28800 G)) 90 (oMod s2 wd1 tn) := ⟨w4, by rw [← va_self y124, ← va_self y123, ← va_self y122, ← va_self y121, ← va_self y120, ← va_self y119, ← va_self x116, ← va_self x90]⟩
          have at247 : ∀ z : Int32, (nI (md d.2.2.2.1 M) + z).toInt = (md d.2.2.2.1 M : Int) + wyI d.2.2.2.2.1 (k : Int) → ab_Ev X l i_Mod_mix 247 [some (.ref 90), some (.int (nI t)), some (.int x2), some (.int (nI k)), some (.int (nI j))] [.int z, .int (nI (md d.2.2.2.1 M)), .ref 90, .int (nI d.1), .ref 116, .ref 90] (va_up (va_up (va_up (va_up (va_up (va_up (va_up (va_up w4 124 (aZ 12 g24)) 123 (aZ 12 g23)) 122 (aJ 12 g22)) 121 (aI 12 g21)) 120 (aI 12 g20)) 119 (aI 12 g19)) 116 (aJ 28800 G)) 90 (oMod s2 wd1 tn)) n 0 0 (qI (mixV N R (.inr S)) Q) := by
            intro z hz
            refine ab_sound ok_209 [202] 80 ?_
            (refine Exists.intro 0 ?_; refine ⟨0, _, Nat.zero_le _, Nat.zero_le _, c_Mod_by _ M (by omega) (by omega) _ _ rfl c1, ?_⟩; refine ab_q1_elim ?_)
            rw [Int32.toInt_toInt64, hz, md_mad (by omega), Int.add_comm]
            (refine Exists.intro 0 ?_; refine ⟨0, _, Nat.zero_le _, Nat.zero_le _, c_Mod_at _ _ d.1 (mxF M d k) _ _ rfl rfl, ?_⟩; refine ab_q1_elim ?_)
            refine And.intro (vp_in_nI hj12 (by omega)) ?_
            rw [nI_clamp (by omega), u22]
            refine And.intro (vp_in_nI hj12 (by omega)) ?_
            rw [nI_clamp (by omega), u20]
            refine And.intro (vp_in_nI hj12 (by omega)) ?_
            rw [nI_clamp (by omega), u23]
            (refine Exists.intro 0 ?_; refine ⟨0, _, Nat.zero_le _, Nat.zero_le _, c_Mod_gather_116 _ _ _ _ M (3600 * d.1 + 60 * mxF M d k) 28800 (mxT M d) _ _ d.2.2.2.2.2 rfl rfl rfl hM.2 hM.1 hT hb0 (by omega) c1 c2 rfl t14 rfl, ?_⟩; refine ab_q1_elim ?_)
            refine ab_ev_of (jh _ _ (hf4.up (k := 114) (by omega)) va_us t17 ?_) (by rw [nI_s j]; rfl) rfl rfl
            have hE2 : E60 (gaF (fun i => if d.2.2.2.2.2 = true then (mxT M d + M - i) % M else (mxT M d + i) % M) (fun i => Int64.ofInt d.2.1 * G (3600 * d.1 + 60 * mxF M d k + i)) (phi M) f5) (mxG M R d k (phi M) (mxA M R S k j Z0)) := by
              refine e60_ga hE _ (fun i hi => ?_)
              have g2 := G2 d.1 q1 (mxF M d k) i (by rw [q2]; exact hF) (by rw [q2]; exact hi)
              unfold rowsOf at g2
              refine ⟨?_, mxIx_e (by omega) (by omega), by rw [g2]⟩
              rw [mxIx_e (by omega) (by omega)]
              exact Nat.lt_of_lt_of_le (md_lt _ (by omega)) hM.2
            show E60 _ (mxG M R (S.2 j) k (phi M) (mxA M R S k j Z0))
            rw [hdd]
            exact hE2
          refine ab_sound ok_209 [202, 247] 80 ?_
          refine And.intro (fun h_9 => absurd h_9 ((by rw [v52]; exact nI_ge hj (by have := hS.1; omega)))) (fun _ => ?_)
          refine And.intro (vp_in_nI hj12 (by omega)) ?_
          rw [nI_clamp (by omega), u19]
          refine And.intro (vp_in_nI hj12 (by omega)) ?_
          rw [nI_clamp (by omega), u21]
          refine And.intro (vp_in_nI hj12 (by omega)) ?_
          rw [nI_clamp (by omega), u24]
          cases hbk : d.2.2.2.2.1
          · refine And.intro (fun _ => ?_) (fun h_9 => absurd (rfl) h_9)
            refine at247 _ ?_
            rw [nI_add, nI_toInt (by omega), hbk]
            show _ = (md d.2.2.2.1 M : Int) + (k : Int)
            omega
          · refine And.intro (fun h_9 => absurd h_9 ((by decide))) (fun _ => ?_)
            refine at247 _ ?_
            rw [hbk, Int32.toInt_add, nI_toInt (by omega), Int32.toInt_neg, nI_toInt (by omega)]
            show _ = (md d.2.2.2.1 M : Int) + -(k : Int)
            rw [Int.bmod_eq_of_le_mul_two (by rw [Int.bmod_eq_of_le_mul_two (by omega) (by omega)]; omega) (by rw [Int.bmod_eq_of_le_mul_two (by omega) (by omega)]; omega), Int.bmod_eq_of_le_mul_two (by omega) (by omega)]
      have x90 : w3 90 = oMod s2 wd1 tn := hf.get hB2.1 (by omega)
      obtain ⟨w3, rfl⟩ := va_ex x90
      refine ab_sound ok_209 [202] 80 ?_
      refine And.intro (fun h_9 => absurd h_9 ((by rw [c1]; exact nI_ge hk (by omega)))) (fun _ => ?_)
      (refine Exists.intro 0 ?_; refine ⟨0, _, Nat.zero_le _, Nat.zero_le _, c_Mod_clear _ _ rfl hf4, ?_⟩; refine ab_q1_elim ?_)
      exact ab_ev_of (inn 0 (by omega) _ _ (hf.up (k := 114) (by omega)) va_us ((va_un (by omega)).trans hg) (e60_zb f)) rfl rfl rfl
  exact ab_ev_of (loop 0 (by omega) w2 Fr.refl f4 h114 f7 h117 (fun j i hj => by omega) x4) rfl rfl rfl
end MMIX
