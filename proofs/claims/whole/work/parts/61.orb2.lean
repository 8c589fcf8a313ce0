/-! slots: which least row, with which turn -/
theorem va_ex6 {w : ab_W} {k1 k2 k3 k4 k5 k6 : Nat} {c1 c2 c3 c4 c5 c6 : va_E} (h1 : w k1 = c1) (h2 : w k2 = c2) (h3 : w k3 = c3) (h4 : w k4 = c4) (h5 : w k5 = c5) (h6 : w k6 = c6) : ∃ w0, w = va_up (va_up (va_up (va_up (va_up (va_up w0 k6 c6) k5 c5) k4 c4) k3 c3) k2 c2) k1 c1 := by
  refine ⟨w, ?_⟩
  rw [← va_self h6, ← va_self h5, ← va_self h4, ← va_self h3, ← va_self h2, ← va_self h1]
def rwk (N : Nat) (G : Nat → Int64) (c : Nat) : Nat → Int64 := fun i => G (c * phi N + i)
def Least (N : Nat) (x : Nat → Int64) : Prop := ∀ t, t < N → ¬ lex (phi N) (tv N t x) x
def SltIs (N K : Nat) (G : Nat → Int64) (kd td : Nat → Int32) (j : Nat) (r : Nat → Int64) : Prop :=
  (Lk (phi N) r Z0 ∧ kd j = nI 0) ∨ (¬ Lk (phi N) r Z0 ∧ ∃ c t, c < K ∧ t < N ∧ kd j = nI (c + 1) ∧ td j = nI t ∧ Lk (phi N) r (tv N t (rwk N G c)) ∧ Least N (rwk N G c))
def Dist (N K : Nat) (G : Nat → Int64) : Prop := ∀ c d, c < K → d < K → Lk (phi N) (rwk N G c) (rwk N G d) → c = d
def AgG (N K : Nat) (G G' : Nat → Int64) : Prop := ∀ c, c < K → Lk (phi N) (rwk N G' c) (rwk N G c)
theorem Least.congr {N : Nat} {x y : Nat → Int64} (h : Lk (phi N) x y) (hx : Least N x) : Least N y := fun t ht z => hx t ht (lex_congr (fun i _ => tv_congr h.symm) h.symm z)
theorem SltIs.mono {N K K' : Nat} {G G' : Nat → Int64} {kd td kd' td' : Nat → Int32} {j : Nat} {r : Nat → Int64} (h : SltIs N K G kd td j r) (hK : K ≤ K') (hG : AgG N K G G') (h1 : kd' j = kd j) (h2 : td' j = td j) : SltIs N K' G' kd' td' j r := by
  rcases h with ⟨a, b⟩ | ⟨a, c, t, b1, b2, b3, b4, b5, b6⟩
  · exact Or.inl ⟨a, h1.trans b⟩
  · refine Or.inr ⟨a, c, t, by omega, b2, h1.trans b3, h2.trans b4, fun i hi => ?_, b6.congr (hG c b1).symm⟩
    rw [b5 i hi]
    exact tv_congr (hG c b1).symm
theorem tv_Z (N t i : Nat) : tv N t Z0 i = 0 := sumL_zero _ (fun k _ => by show (0 : Int64) * _ = 0; rw [Int64.zero_mul])
theorem tv_back {N u : Nat} (hN : N ≤ 60) (hN3 : 3 ≤ N) (hu : u ≤ N) {x y : Nat → Int64} (h : Lk (phi N) (tv N u x) y) : Lk (phi N) x (tv N (N - u) y) := fun i hi => by
  rw [← tv_congr h, tv_add hN hN3 u x (N - u) i hi, show N - u + u = N by omega, tv_N hN hN3 x i hi]
theorem tv_eqm {N a b : Nat} (hN : N ≤ 60) (hN3 : 3 ≤ N) (h : a % N = b % N) (r : Nat → Int64) (i : Nat) : tv N a r i = tv N b r i := by
  rw [← tv_mod hN hN3 a, h, tv_mod hN hN3]
theorem tv_z {N u : Nat} (hN : N ≤ 60) (hN3 : 3 ≤ N) (hu : u ≤ N) {x : Nat → Int64} (h : Lk (phi N) (tv N u x) Z0) : Lk (phi N) x Z0 := fun i hi => by
  rw [tv_back hN hN3 hu h i hi, tv_Z]
  rfl
theorem md_add {N : Nat} (hN : 0 < N) (z : Int) (t : Nat) : (md z N + t) % N = md ((t : Int) + z) N := by
  have h1 := md_cast z hN
  have h2 := md_cast ((t : Int) + z) hN
  have h3 : (((md z N + t) % N : Nat) : Int) = ((md ((t : Int) + z) N : Nat) : Int) := by
    rw [h2, Int.natCast_emod, Int.natCast_add, h1, Int.emod_add_emod, Int.add_comm]
  exact Int.ofNat.inj h3
def itB (N : Nat) (kd td : Nat → Int32) (a b : Nat) (t : Int32) : Bool := decide (kd a = kd b ∧ (kd a = nI 0 ∨ td a = nI (md (td b + t).toInt N)))
theorem slot_turn {N K : Nat} {G : Nat → Int64} {kd td : Nat → Int32} {a b : Nat} {ra rb : Nat → Int64} {t : Int32} (hN : 3 ≤ N ∧ N ≤ 60) (hK : K ≤ 120) (hD : Dist N K G) (ha : SltIs N K G kd td a ra) (hb : SltIs N K G kd td b rb) (hB : Bd (phi N) ra) (ht : -10000 < t.toInt ∧ t.toInt < 10000) :
    itB N kd td a b t = lkB (phi N) ra (tv N (md t.toInt N) rb) := by
  have hu := md_lt t.toInt (show 0 < N by omega)
  have n1 : ∀ c, c < K → nI (c + 1) ≠ nI 0 := fun c hc z => by have := (nI_eq (by omega) (by omega)).mp z; omega
  have hlt : ∀ x : Bool, (x = true ↔ Lk (phi N) ra (tv N (md t.toInt N) rb)) → x = lkB (phi N) ra (tv N (md t.toInt N) rb) := fun x hx => by
    rw [Bool.eq_iff_iff, hx, lkB_iff]
  apply hlt
  unfold itB
  rw [decide_eq_true_iff]
  generalize hue : md t.toInt N = u at *
  rcases ha with ⟨a0, a1⟩ | ⟨a0, c, ta, c1, c2, c3, c4, c5, c6⟩
  · rcases hb with ⟨b0, b1⟩ | ⟨b0, d, tb, d1, d2, d3, d4, d5, d6⟩
    · refine ⟨fun _ i hi => ?_, fun _ => ⟨a1.trans b1.symm, Or.inl a1⟩⟩
      rw [a0 i hi, tv_congr b0, tv_Z]
      rfl
    · refine ⟨fun z => ?_, fun z => ?_⟩
      · exact absurd (z.1.symm.trans a1) (by rw [d3]; exact n1 d d1)
      · exact absurd (tv_z hN.2 hN.1 (by omega) (z.symm.trans a0)) b0
  · rcases hb with ⟨b0, b1⟩ | ⟨b0, d, tb, d1, d2, d3, d4, d5, d6⟩
    · refine ⟨fun z => ?_, fun z => ?_⟩
      · exact absurd (z.1.trans b1) (by rw [c3]; exact n1 c c1)
      · refine absurd (z.trans (fun i hi => ?_)) a0
        rw [tv_congr b0, tv_Z]
        rfl
    · have hsum : (td b + t).toInt = (tb : Int) + t.toInt := by
        rw [d4, Int32.toInt_add, nI_toInt (by omega), Int.bmod_eq_of_le_mul_two (by omega) (by omega)]
      rw [hsum, ← md_add (by omega), hue]
      have e1 : ∀ i, i < phi N → tv N u rb i = tv N (u + tb) (rwk N G d) i := fun i hi => by
        rw [tv_congr d5, tv_add hN.2 hN.1 tb _ u i hi]
      refine ⟨fun z i hi => ?_, fun z => ?_⟩
      · have hcd : c = d := by
          have := z.1
          rw [c3, d3] at this
          have := (nI_eq (by omega) (by omega)).mp this
          omega
        have h2 := z.2.resolve_left (by rw [c3]; exact n1 c c1)
        rw [c4] at h2
        have h3 := (nI_eq (by omega) (by have := Nat.mod_lt (u + tb) (show 0 < N by omega); omega)).mp h2
        rw [c5 i hi, e1 i hi, h3, hcd]
        exact tv_mod hN.2 hN.1 _ _ _
      · have hcd : c = d := by
          have q1 : Lk (phi N) (tv N ta (rwk N G c)) (tv N (u + tb) (rwk N G d)) := fun i hi => by rw [← c5 i hi, z i hi, e1 i hi]
          have q2 := tv_back hN.2 hN.1 (by omega) q1
          have q3 : Lk (phi N) (rwk N G c) (tv N ((N - ta + (u + tb)) % N) (rwk N G d)) := fun i hi => by
            rw [q2 i hi, tv_add hN.2 hN.1 _ _ _ i hi, tv_mod hN.2 hN.1]
          have hm := Nat.mod_lt (N - ta + (u + tb)) (show 0 < N by omega)
          generalize (N - ta + (u + tb)) % N = v at q3 hm
          have q4 : Lk (phi N) (rwk N G d) (tv N ((N - v) % N) (rwk N G c)) := fun i hi => by
            rw [tv_back hN.2 hN.1 (by omega) q3.symm i hi, tv_mod hN.2 hN.1]
          refine hD c d c1 d1 (lex_tri (fun y => ?_) (fun y => ?_))
          · exact d6 v hm (lex_congr q3 Lk.refl y)
          · exact c6 _ (Nat.mod_lt _ (by omega)) (lex_congr q4 Lk.refl y)
        refine ⟨by rw [c3, d3, hcd], Or.inr ?_⟩
        rw [c4]
        by_cases e0 : (u + tb + (N - ta)) % N = 0
        · congr 1
          have h1 : (u + tb + (N - ta) + ta) % N = (0 + ta) % N := by rw [Nat.add_mod, e0, Nat.zero_add, Nat.mod_mod, Nat.zero_add]
          rw [show u + tb + (N - ta) + ta = u + tb + N by omega, Nat.add_mod_right, Nat.zero_add, Nat.mod_eq_of_lt c2] at h1
          exact h1.symm
        · exfalso
          apply a0
          have hsl := Nat.mod_lt (u + tb + (N - ta)) (show 0 < N by omega)
          refine tv_free hN.2 hN.1 (Nat.pos_of_ne_zero e0) hsl hB (fun i hi => ?_)
          rw [tv_mod hN.2 hN.1, tv_congr c5, tv_add hN.2 hN.1 _ _ _ i hi, show u + tb + (N - ta) + ta = u + tb + N by omega, tv_eqm hN.2 hN.1 (Nat.add_mod_right (u + tb) N), hcd, ← e1 i hi]
          exact (z i hi).symm
abbrev FO (k : Nat) : Prop := k = 20 ∨ k = 21 ∨ (23 ≤ k ∧ k ≤ 26)
def OrbW (w : ab_W) (N K : Nat) (G : Nat → Int64) (kd td : Nat → Int32) : Prop := w 20 = oOrb (nI N) (nI (phi N)) (nI K) ∧ w 21 = aJ 6960 G ∧ (∃ f, w 23 = aJ 58 f) ∧ (∃ f, w 24 = aJ 58 f) ∧ w 25 = aI 120 kd ∧ w 26 = aI 120 td
def OrbP (N K : Nat) (G : Nat → Int64) (kd td : Nat → Int32) (s m K' : Nat) (G' : Nat → Int64) (kd' td' : Nat → Int32) (r : Nat → Nat → Int64) : Prop :=
  K ≤ K' ∧ K' ≤ K + m ∧ Dist N K' G' ∧ AgG N K G G' ∧ (∀ j, ¬ (s ≤ j ∧ j < s + m) → kd' j = kd j ∧ td' j = td j) ∧ ∀ k, k < m → SltIs N K' G' kd' td' (s + k) (r k)
theorem AgG.refl {N K : Nat} {G : Nat → Int64} : AgG N K G G := fun _ _ => Lk.refl
theorem OrbP.nil {N K : Nat} {G : Nat → Int64} {kd td : Nat → Int32} {s : Nat} {r : Nat → Nat → Int64} (hD : Dist N K G) : OrbP N K G kd td s 0 K G kd td r := ⟨Nat.le_refl _, Nat.le_refl _, hD, AgG.refl, fun _ _ => ⟨rfl, rfl⟩, fun k hk => by omega⟩
theorem OrbP.step {N K K1 K2 : Nat} {G G1 G2 : Nat → Int64} {kd td kd1 td1 kd2 td2 : Nat → Int32} {s m : Nat} {r : Nat → Nat → Int64} {x : Nat → Nat → Int64} (h : OrbP N K G kd td s m K1 G1 kd1 td1 r) (h2 : OrbP N K1 G1 kd1 td1 (s + m) 1 K2 G2 kd2 td2 x) (hx : x 0 = r m) : OrbP N K G kd td s (m + 1) K2 G2 kd2 td2 r := by
  obtain ⟨a1, a2, a3, a4, a5, a6⟩ := h
  obtain ⟨b1, b2, b3, b4, b5, b6⟩ := h2
  refine ⟨by omega, by omega, b3, fun c hc => (b4 c (by omega)).trans (a4 c hc), fun j hj => ?_, fun k hk => ?_⟩
  · have e1 := b5 j (by omega)
    have e2 := a5 j (by omega)
    exact ⟨e1.1.trans e2.1, e1.2.trans e2.2⟩
  · by_cases e : k = m
    · subst e
      have := b6 0 (by omega)
      rw [hx] at this
      exact this
    · have e1 := b5 (s + k) (by omega)
      exact (a6 k (by omega)).mono b1 b4 e1.1 e1.2
section ORB2
variable {X : ab_X} {l : Launch}
theorem k_kindOfLeast (N K : Nat) (w : ab_W) (n : Nat) {G le : Nat → Int64} (hN : 3 ≤ N ∧ N ≤ 60) (hK : K < 120) (h0 : w 20 = oOrb (nI N) (nI (phi N)) (nI K)) (h1 : w 21 = aJ 6960 G) (h4 : w 24 = aJ 58 le) (hD : Dist N K G) :
    ab_C X l i_Orb_kindOfLeast [.ref 20] w n 0 0 (fun v w' n' => n = n' ∧ ∃ (c K' : Nat) (G' : Nat → Int64), v = some (.int (nI (c + 1))) ∧ w' = va_up (va_up w 20 (oOrb (nI N) (nI (phi N)) (nI K'))) 21 (aJ 6960 G') ∧ c < K' ∧ K ≤ K' ∧ K' ≤ K + 1 ∧ Dist N K' G' ∧ AgG N K G G' ∧ Lk (phi N) (rwk N G' c) le) := by
  have hp := phi_le N hN.2
  have hkp : ∀ c, c < 120 → c * phi N + phi N ≤ 6960 := fun c hc => by
    have : (c + 1) * phi N ≤ 120 * 58 := Nat.mul_le_mul (by omega) hp
    rw [Nat.add_mul] at this
    omega
  obtain ⟨w, rfl⟩ := va_ex3 h1 h0 h4
  refine ab_met cd_38 om_38 rfl (by rintro _ _ _ ⟨-, c, K', G', rfl, -⟩; trivial) (ab_sound ok_38 [2] 50 ?_)
  have loop : ∀ i, i ≤ K → (∀ c, c < i → ¬ Lk (phi N) (rwk N G c) le) → ab_Ev X l i_Orb_kindOfLeast 2 [some (.ref 20), some (.int (nI i))] [] (va_up (va_up (va_up w 24 (aJ 58 le)) 20 (oOrb (nI N) (nI (phi N)) (nI K))) 21 (aJ 6960 G)) n 0 0 (fun v w' n' => n = n' ∧ ∃ (c K' : Nat) (G' : Nat → Int64), v = some (.int (nI (c + 1))) ∧ w' = va_up (va_up (va_up (va_up (va_up w 24 (aJ 58 le)) 20 (oOrb (nI N) (nI (phi N)) (nI K))) 21 (aJ 6960 G)) 20 (oOrb (nI N) (nI (phi N)) (nI K'))) 21 (aJ 6960 G') ∧ c < K' ∧ K ≤ K' ∧ K' ≤ K + 1 ∧ Dist N K' G' ∧ AgG N K G G' ∧ Lk (phi N) (rwk N G' c) le) := by
    refine ab_up K ?_ (fun i hi ih => ?_)
    · intro hm
      refine ab_sound ok_38 [2, 56] 50 ?_
      refine And.intro (fun _ => ?_) (fun h_9 => absurd (nI_le (Nat.le_refl _) (by omega)) h_9)
      refine And.intro (fun h_9 => absurd h_9 (nI_ge hK (by omega))) (fun _ => ?_)
      have inn : ∀ i, i ≤ phi N → ab_Ev X l i_Orb_kindOfLeast 56 [some (.ref 20), some (.int (nI i))] [] (va_up (va_up (va_up w 24 (aJ 58 le)) 20 (oOrb (nI N) (nI (phi N)) (nI K))) 21 (aJ 6960 (stF (K * phi N) i le G))) n 0 0 (fun v w' n' => n = n' ∧ ∃ (c K' : Nat) (G' : Nat → Int64), v = some (.int (nI (c + 1))) ∧ w' = va_up (va_up (va_up (va_up (va_up w 24 (aJ 58 le)) 20 (oOrb (nI N) (nI (phi N)) (nI K))) 21 (aJ 6960 G)) 20 (oOrb (nI N) (nI (phi N)) (nI K'))) 21 (aJ 6960 G') ∧ c < K' ∧ K ≤ K' ∧ K' ≤ K + 1 ∧ Dist N K' G' ∧ AgG N K G G' ∧ Lk (phi N) (rwk N G' c) le) := by
        refine ab_up (phi N) ?_ (fun i hi ih2 => ?_)
        · refine ab_sound ok_38 [2, 56] 50 ?_
          refine And.intro (fun _ => ?_) (fun h_9 => absurd (nI_le (Nat.le_refl _) (by omega)) h_9)
          have hnew : Lk (phi N) (rwk N (stF (K * phi N) (phi N) le G) K) le := fun i hi => by
            unfold rwk stF
            rw [if_pos (by omega), Nat.add_sub_cancel_left]
          have hold : AgG N K G (stF (K * phi N) (phi N) le G) := fun c hc i hi => by
            unfold rwk stF
            have : (c + 1) * phi N ≤ K * phi N := Nat.mul_le_mul_right _ (by omega)
            rw [Nat.add_mul] at this
            rw [if_neg (by omega)]
          refine ⟨rfl, K, K + 1, stF (K * phi N) (phi N) le G, by rw [nI_s K], ?_, by omega, by omega, by omega, ?_, hold, hnew⟩
          · rw [nI_s K, va_uc (show (20 : Nat) < 21 by omega), va_uc (show (20 : Nat) < 21 by omega), va_uu, va_uu, va_uu]
            rfl
          · intro c d hc hd hcd
            by_cases e1 : c = K
            · by_cases e2 : d = K
              · omega
              · subst e1
                exact absurd ((hold d (by omega)).symm.trans (hcd.symm.trans hnew)) (hm d (by omega))
            · by_cases e2 : d = K
              · subst e2
                exact absurd ((hold c (by omega)).symm.trans (hcd.trans hnew)) (hm c (by omega))
              · exact hD c d (by omega) (by omega) ((hold c (by omega)).symm.trans (hcd.trans (hold d (by omega))))
        · have := hkp K hK
          refine ab_sound ok_38 [2, 56] 50 ?_
          refine And.intro (fun h_9 => absurd h_9 (nI_ge hi (by omega))) (fun _ => ?_)
          refine And.intro (vp_in_nI (show i < 58 by omega) (by omega)) ?_
          refine And.intro ((by rw [pk_mul, nI_add]; exact vp_in_nI (by omega) (by omega))) ?_
          refine ab_ev_of ih2 (by rw [nI_s i]; rfl) rfl ?_
          rw [va_uu, pk_mul, nI_add, nI_clamp (by omega), nI_clamp (by omega)]
          exact congrArg (fun z => va_up _ _ (aJ 6960 z)) (stF_s (K * phi N) i le G)
      exact ab_ev_of (inn 0 (by omega)) rfl rfl (by rw [stF_0])
    · intro hm
      have := hkp i (by omega)
      refine ab_sound ok_38 [2, 56] 50 ?_
      refine And.intro (fun h_9 => absurd h_9 (nI_ge hi (by omega))) (fun _ => ?_)
      (refine Exists.intro 0 ?_; refine ⟨0, _, Nat.zero_le _, Nat.zero_le _, c_WP_likeRows_21 _ (phi N) (i * phi N) _ _ (pk_mul _ _) hp this rfl rfl, ?_⟩; refine ab_q1_elim ?_)
      cases hb : lkB (phi N) (fun j => G (i * phi N + j)) le
      · refine And.intro (fun _ => ?_) (fun h_9 => absurd (rfl) h_9)
        refine ab_ev_of (ih (fun c hc => ?_)) (by rw [nI_s i]; rfl) rfl rfl
        by_cases e : c = i
        · subst e
          exact fun z => by have := lkB_iff.mpr z; unfold rwk at this; rw [hb] at this; cases this
        · exact hm c (by omega)
      · refine And.intro (fun h_9 => absurd h_9 ((by decide))) (fun _ => ?_)
        refine ⟨rfl, i, K, G, by rw [nI_s i], ?_, hi, Nat.le_refl _, by omega, hD, AgG.refl, lkB_iff.mp hb⟩
        rw [va_uc (show (20 : Nat) < 21 by omega), va_uu, va_uu]
  exact loop 0 (by omega) (fun c hc => by omega)
theorem e_place (N K s q : Nat) (w : ab_W) (n : Nat) {G r : Nat → Int64} {kd td : Nat → Int32} {tu le : Nat → Int64} {l4 l6 : Option Value} (e : Bool) (hs : s < 120) (hKs : K ≤ s) (hS : KSums w N) (h0 : w 20 = oOrb (nI N) (nI (phi N)) (nI K)) (h1 : w 21 = aJ 6960 G) (h3 : w 23 = aJ 58 tu) (h4 : w 24 = aJ 58 le) (h5 : w 25 = aI 120 kd) (h6 : w 26 = aI 120 td) (hD : Dist N K G) (e3 : Lk (phi N) tu r) (e4 : Lk (phi N) le r) (he : e = true ↔ Lk (phi N) r Z0) :
    ab_Ev X l i_Orb_place 101 [some (.ref 20), some (.ref 17), some (.int (nI s)), some (.ref q), l4, some (.int (b01 e)), l6] [] w n 0 0 (qV fun w' n' => n = n' ∧ Fr FO w w' ∧ ∃ K' G' kd' td', OrbW w' N K' G' kd' td' ∧ OrbP N K G kd td s 1 K' G' kd' td' (fun _ => r)) := by
  have hN := hS.1
  obtain ⟨w, rfl⟩ := va_ex6 h0 h1 h3 h4 h5 h6
  refine ab_sound ok_35 [] 80 ?_
  refine And.intro (vp_in_nI hs (by omega)) ?_
  refine And.intro (vp_in_nI hs (by omega)) ?_
  rw [nI_clamp (by omega)]
  cases e with
  | true =>
    refine And.intro (fun _ => ?_) (fun h_9 => absurd h_9 ((by decide)))
    have hz := he.mp rfl
    refine ⟨rfl, rfl, (Fr.refl.up (by omega)).up (by omega), K, G, upd kd s (nI 0), upd td s (nI 0), ⟨rfl, rfl, ⟨_, rfl⟩, ⟨_, rfl⟩, rfl, rfl⟩, Nat.le_refl _, by omega, hD, AgG.refl, fun j hj => ⟨upd_ne (by omega), upd_ne (by omega)⟩, fun k hk => Or.inl ⟨hz, ?_⟩⟩
    rw [show s + k = s by omega, upd_at]
  | false =>
    refine And.intro (fun h_9 => absurd (rfl) h_9) (fun _ => ?_)
    have hz : ¬ Lk (phi N) r Z0 := fun z => by have := he.mpr z; cases this
    have hS1 : KSums (va_up (va_up (va_up (va_up (va_up (va_up (va_up (va_up w 26 (aI 120 td)) 25 (aI 120 kd)) 24 (aJ 58 le)) 23 (aJ 58 tu)) 21 (aJ 6960 G)) 20 (oOrb (nI N) (nI (phi N)) (nI K))) 25 (aI 120 (upd kd s (nI 0)))) 26 (aI 120 (upd td s (nI 0)))) N := hS.fr (F := fun k => k = 25 ∨ k = 26) ((Fr.refl.up (by omega)).up (by omega)) (by omega) (by omega) (by omega)
    (refine Exists.intro 0 ?_; refine ⟨0, _, Nat.zero_le _, Nat.zero_le _, k_turnToLeast N _ _ hS1 rfl rfl rfl e3 e4, ?_⟩; rintro _ _ _ ⟨rfl, t, tu', le', rfl, rfl, ht, hle, hlst⟩)
    (refine Exists.intro 0 ?_; refine ⟨0, _, Nat.zero_le _, Nat.zero_le _, k_kindOfLeast N K _ _ hN (by omega) rfl rfl rfl hD, ?_⟩; rintro _ _ _ ⟨rfl, c, K', G', rfl, rfl, hc, hK1, hK2, hD', hAg, hlk⟩)
    refine And.intro (vp_in_nI hs (by omega)) ?_
    (refine Exists.intro 0 ?_; refine ⟨0, _, Nat.zero_le _, Nat.zero_le _, c_WP_wrap (-(nI t)) N (by omega) (by omega) _ _, ?_⟩; refine ab_q1_elim ?_)
    refine And.intro (vp_in_nI hs (by omega)) ?_
    rw [nI_clamp (by omega)]
    have htn : (-(nI t)).toInt = -(t : Int) := by
      rw [Int32.toInt_neg, nI_toInt (by omega), Int.bmod_eq_of_le_mul_two (by omega) (by omega)]
    rw [htn]
    have hu := md_lt (-(t : Int)) (show 0 < N by omega)
    have hut : (md (-(t : Int)) N + t) % N = 0 := by
      rw [md_add (by omega), show (t : Int) + -(t : Int) = 0 by omega]
      unfold md
      rw [Int.zero_emod]
      rfl
    generalize md (-(t : Int)) N = u at *
    have hL : Lk (phi N) (rwk N G' c) (tv N t r) := hlk.trans hle
    refine ⟨rfl, rfl, (((((((Fr.refl.up (by omega)).up (by omega)).up (by omega)).up (by omega)).up (by omega)).up (by omega)).up (by omega)).up (by omega), K', G', upd (upd kd s (nI 0)) s (nI (c + 1)), upd (upd td s (nI 0)) s (nI u), ⟨rfl, rfl, ⟨_, rfl⟩, ⟨_, rfl⟩, rfl, rfl⟩, hK1, by omega, hD', hAg, fun j hj => ⟨?_, ?_⟩, fun k hk => Or.inr ⟨hz, c, u, hc, hu, ?_, ?_, ?_, ?_⟩⟩
    · rw [upd_ne (by omega), upd_ne (by omega)]
    · rw [upd_ne (by omega), upd_ne (by omega)]
    · rw [show s + k = s by omega, upd_at]
    · rw [show s + k = s by omega, upd_at]
    · intro i hi
      rw [tv_congr hL, tv_add hN.2 hN.1 _ _ _ i hi, ← tv_mod hN.2 hN.1, hut, tv_0 r hi]
    · intro v hv z
      refine hlst ((v + t) % N) (Nat.mod_lt _ (by omega)) (lex_congr (fun i hi => ?_) hlk z)
      rw [tv_congr hL, tv_add hN.2 hN.1 _ _ _ i hi, tv_mod hN.2 hN.1]
theorem k_place_22 (x y : Int32) (s b N K : Nat) (w : ab_W) (n : Nat) {G r g : Nat → Int64} {kd td : Nat → Int32} (hx : x = nI s) (hy : y = nI b) (hs : s < 120) (hKs : K ≤ s) (hb : b + phi N ≤ 58) (hS : KSums w N) (hO : OrbW w N K G kd td) (hg : w 22 = aJ 58 g) (hD : Dist N K G) (hr : ∀ i, i < phi N → g (b + i) = r i) :
    ab_C X l i_Orb_place [.ref 20, .ref 17, .int x, .ref 22, .int y] w n 0 0 (qV fun w' n' => n = n' ∧ Fr FO w w' ∧ ∃ K' G' kd' td', OrbW w' N K' G' kd' td' ∧ OrbP N K G kd td s 1 K' G' kd' td' (fun _ => r)) := by
  subst hx hy
  have hN := hS.1
  have hp := phi_le N hN.2
  obtain ⟨h0, h1, ⟨tu, h3⟩, ⟨le, h4⟩, h5, h6⟩ := hO
  obtain ⟨w, rfl⟩ := va_ex4 h3 h4 h0 hg
  refine ab_mqV cd_35 om_35 rfl rfl (ab_sound ok_35 [34] 50 ?_)
  refine And.intro (fun h_9 => absurd h_9 (nI_pos (by omega))) (fun _ => ?_)
  refine And.intro (fun h_9 => absurd h_9 (nI_ge hs (by omega))) (fun _ => ?_)
  refine And.intro (fun h_9 => absurd h_9 (nI_pos (by omega))) (fun _ => ?_)
  refine And.intro (fun _ => ?_) (fun h_9 => absurd ((by rw [nI_add]; exact nI_le hb (by omega))) h_9)
  have loop : ∀ i, i ≤ phi N → ab_Ev X l i_Orb_place 34 [some (.ref 20), some (.ref 17), some (.int (nI s)), some (.ref 22), some (.int (nI b)), some (.int (b01 (lkB i r Z0))), some (.int (nI i))] [] (va_up (va_up (va_up (va_up w 22 (aJ 58 g)) 20 (oOrb (nI N) (nI (phi N)) (nI K))) 24 (aJ 58 (stF 0 i r le))) 23 (aJ 58 (stF 0 i r tu))) n 0 0 (qV fun w' n' => n = n' ∧ Fr FO (va_up (va_up (va_up (va_up w 22 (aJ 58 g)) 20 (oOrb (nI N) (nI (phi N)) (nI K))) 24 (aJ 58 le)) 23 (aJ 58 tu)) w' ∧ ∃ K' G' kd' td', OrbW w' N K' G' kd' td' ∧ OrbP N K G kd td s 1 K' G' kd' td' (fun _ => r)) := by
    refine ab_up (phi N) ?_ (fun i hi ih => ?_)
    · refine ab_sound ok_35 [34, 101] 50 ?_
      refine And.intro (fun _ => ?_) (fun h_9 => absurd (nI_le (Nat.le_refl _) (by omega)) h_9)
      have hf : Fr FO (va_up (va_up (va_up (va_up w 22 (aJ 58 g)) 20 (oOrb (nI N) (nI (phi N)) (nI K))) 24 (aJ 58 le)) 23 (aJ 58 tu)) (va_up (va_up (va_up (va_up w 22 (aJ 58 g)) 20 (oOrb (nI N) (nI (phi N)) (nI K))) 24 (aJ 58 (stF 0 (phi N) r le))) 23 (aJ 58 (stF 0 (phi N) r tu))) := fun k hk => ((va_un (by omega)).trans (va_un (by omega))).trans ((va_un (by omega)).trans (va_un (by omega))).symm
      have hq : ∀ t : Nat → Int64, Lk (phi N) (stF 0 (phi N) r t) r := fun t i hi => by
        unfold stF
        rw [if_pos (by omega), Nat.sub_zero]
      refine ab_Ev.weaken (e_place N K s 22 _ n (lkB (phi N) r Z0) hs hKs (hS.fr hf (by omega) (by omega) (by omega)) rfl h1 rfl rfl h5 h6 hD (hq tu) (hq le) lkB_iff) ?_
      rintro v w' n' ⟨rfl, rfl, f1, h⟩
      exact ⟨rfl, rfl, hf.trans f1, h⟩
    · refine ab_sound ok_35 [34] 50 ?_
      refine And.intro (fun h_9 => absurd h_9 (nI_ge hi (by omega))) (fun _ => ?_)
      refine And.intro ((by rw [nI_add]; exact vp_in_nI (by omega) (by omega))) ?_
      refine And.intro (vp_in_nI (show i < 58 by omega) (by omega)) ?_
      refine And.intro (vp_in_nI (show i < 58 by omega) (by omega)) ?_
      refine And.intro (vp_in_nI (show i < 58 by omega) (by omega)) ?_
      have ev : vp_updL (stF 0 i r tu) i (r i) i = r i := by simp [vp_updL]
      rw [nI_add, nI_clamp (by omega), nI_clamp (by omega), hr i hi, ev]
      have es : ∀ t : Nat → Int64, vp_updL (stF 0 i r t) i (r i) = stF 0 (i + 1) r t := fun t => by
        have := stF_s 0 i r t
        rw [Nat.zero_add] at this
        exact this
      have nxt : ∀ z : Int32, z = b01 (lkB (i + 1) r Z0) → ab_Ev X l i_Orb_place 34 [some (.ref 20), some (.ref 17), some (.int (nI s)), some (.ref 22), some (.int (nI b)), some (.int z), some (.int (nI i + nI 1))] [] (va_up (va_up (va_up (va_up (va_up (va_up w 22 (aJ 58 g)) 20 (oOrb (nI N) (nI (phi N)) (nI K))) 24 (aJ 58 (stF 0 i r le))) 23 (aJ 58 (stF 0 i r tu))) 23 (aJ 58 (vp_updL (stF 0 i r tu) i (r i)))) 24 (aJ 58 (vp_updL (stF 0 i r le) i (r i)))) n 0 0 (qV fun w' n' => n = n' ∧ Fr FO (va_up (va_up (va_up (va_up w 22 (aJ 58 g)) 20 (oOrb (nI N) (nI (phi N)) (nI K))) 24 (aJ 58 le)) 23 (aJ 58 tu)) w' ∧ ∃ K' G' kd' td', OrbW w' N K' G' kd' td' ∧ OrbP N K G kd td s 1 K' G' kd' td' (fun _ => r)) := by
        intro z hz
        subst hz
        refine ab_ev_of ih (by rw [nI_s i]) rfl ?_
        rw [es, es, va_uu, va_u2 (show (23 : Nat) ≠ 24 by omega), va_uu]
      cases hb1 : lkB i r Z0
      · refine And.intro (fun _ => ?_) (fun h_9 => absurd (rfl) h_9)
        refine nxt _ ?_
        have : lkB (i + 1) r Z0 = false := by
          rw [← Bool.not_eq_true, lkB_iff]
          intro z
          have : lkB i r Z0 = true := lkB_iff.mpr (fun j hj => z j (by omega))
          rw [hb1] at this
          cases this
        rw [this]
        rfl
      · refine And.intro (fun h_9 => absurd h_9 ((by decide))) (fun _ => ?_)
        refine And.intro (vp_in_nI (show i < 58 by omega) (by omega)) ?_
        rw [nI_clamp (by omega), ev]
        refine And.intro (fun hc => ?_) (fun hc => ?_)
        · refine nxt _ ?_
          have : lkB (i + 1) r Z0 = false := by
            rw [← Bool.not_eq_true, lkB_iff]
            intro z
            exact hc (lz_eq.mpr (z i (by omega)))
          rw [this]
          rfl
        · refine nxt _ ?_
          rw [lz_eq] at hc
          have : lkB (i + 1) r Z0 = true := by
            rw [lkB_iff] at hb1 ⊢
            intro j hj
            by_cases e : j = i
            · rw [e]; exact hc
            · exact hb1 j (by omega)
          rw [this]
          rfl
  refine ab_ev_of (loop 0 (by omega)) ?_ rfl (by rw [stF_0, stF_0])
  rw [show lkB 0 r Z0 = true from lkB_iff.mpr (fun j hj => by omega)]
  rfl
theorem k_place_28 (x y : Int32) (s b N K : Nat) (w : ab_W) (n : Nat) {G r g : Nat → Int64} {kd td : Nat → Int32} (hx : x = nI s) (hy : y = nI b) (hs : s < 120) (hKs : K ≤ s) (hb : b + phi N ≤ 3480) (hS : KSums w N) (hO : OrbW w N K G kd td) (hg : w 28 = aJ 3480 g) (hD : Dist N K G) (hr : ∀ i, i < phi N → g (b + i) = r i) :
    ab_C X l i_Orb_place [.ref 20, .ref 17, .int x, .ref 28, .int y] w n 0 0 (qV fun w' n' => n = n' ∧ Fr FO w w' ∧ ∃ K' G' kd' td', OrbW w' N K' G' kd' td' ∧ OrbP N K G kd td s 1 K' G' kd' td' (fun _ => r)) := by
  subst hx hy
  have hN := hS.1
  have hp := phi_le N hN.2
  obtain ⟨h0, h1, ⟨tu, h3⟩, ⟨le, h4⟩, h5, h6⟩ := hO
  obtain ⟨w, rfl⟩ := va_ex4 h3 h4 h0 hg
  refine ab_mqV cd_35 om_35 rfl rfl (ab_sound ok_35 [34] 50 ?_)
  refine And.intro (fun h_9 => absurd h_9 (nI_pos (by omega))) (fun _ => ?_)
  refine And.intro (fun h_9 => absurd h_9 (nI_ge hs (by omega))) (fun _ => ?_)
  refine And.intro (fun h_9 => absurd h_9 (nI_pos (by omega))) (fun _ => ?_)
  refine And.intro (fun _ => ?_) (fun h_9 => absurd ((by rw [nI_add]; exact nI_le hb (by omega))) h_9)
  have loop : ∀ i, i ≤ phi N → ab_Ev X l i_Orb_place 34 [some (.ref 20), some (.ref 17), some (.int (nI s)), some (.ref 28), some (.int (nI b)), some (.int (b01 (lkB i r Z0))), some (.int (nI i))] [] (va_up (va_up (va_up (va_up w 28 (aJ 3480 g)) 20 (oOrb (nI N) (nI (phi N)) (nI K))) 24 (aJ 58 (stF 0 i r le))) 23 (aJ 58 (stF 0 i r tu))) n 0 0 (qV fun w' n' => n = n' ∧ Fr FO (va_up (va_up (va_up (va_up w 28 (aJ 3480 g)) 20 (oOrb (nI N) (nI (phi N)) (nI K))) 24 (aJ 58 le)) 23 (aJ 58 tu)) w' ∧ ∃ K' G' kd' td', OrbW w' N K' G' kd' td' ∧ OrbP N K G kd td s 1 K' G' kd' td' (fun _ => r)) := by
    refine ab_up (phi N) ?_ (fun i hi ih => ?_)
    · refine ab_sound ok_35 [34, 101] 50 ?_
      refine And.intro (fun _ => ?_) (fun h_9 => absurd (nI_le (Nat.le_refl _) (by omega)) h_9)
      have hf : Fr FO (va_up (va_up (va_up (va_up w 28 (aJ 3480 g)) 20 (oOrb (nI N) (nI (phi N)) (nI K))) 24 (aJ 58 le)) 23 (aJ 58 tu)) (va_up (va_up (va_up (va_up w 28 (aJ 3480 g)) 20 (oOrb (nI N) (nI (phi N)) (nI K))) 24 (aJ 58 (stF 0 (phi N) r le))) 23 (aJ 58 (stF 0 (phi N) r tu))) := fun k hk => ((va_un (by omega)).trans (va_un (by omega))).trans ((va_un (by omega)).trans (va_un (by omega))).symm
      have hq : ∀ t : Nat → Int64, Lk (phi N) (stF 0 (phi N) r t) r := fun t i hi => by
        unfold stF
        rw [if_pos (by omega), Nat.sub_zero]
      refine ab_Ev.weaken (e_place N K s 28 _ n (lkB (phi N) r Z0) hs hKs (hS.fr hf (by omega) (by omega) (by omega)) rfl h1 rfl rfl h5 h6 hD (hq tu) (hq le) lkB_iff) ?_
      rintro v w' n' ⟨rfl, rfl, f1, h⟩
      exact ⟨rfl, rfl, hf.trans f1, h⟩
    · refine ab_sound ok_35 [34] 50 ?_
      refine And.intro (fun h_9 => absurd h_9 (nI_ge hi (by omega))) (fun _ => ?_)
      refine And.intro ((by rw [nI_add]; exact vp_in_nI (by omega) (by omega))) ?_
      refine And.intro (vp_in_nI (show i < 58 by omega) (by omega)) ?_
      refine And.intro (vp_in_nI (show i < 58 by omega) (by omega)) ?_
      refine And.intro (vp_in_nI (show i < 58 by omega) (by omega)) ?_
      have ev : vp_updL (stF 0 i r tu) i (r i) i = r i := by simp [vp_updL]
      rw [nI_add, nI_clamp (by omega), nI_clamp (by omega), hr i hi, ev]
      have es : ∀ t : Nat → Int64, vp_updL (stF 0 i r t) i (r i) = stF 0 (i + 1) r t := fun t => by
        have := stF_s 0 i r t
        rw [Nat.zero_add] at this
        exact this
      have nxt : ∀ z : Int32, z = b01 (lkB (i + 1) r Z0) → ab_Ev X l i_Orb_place 34 [some (.ref 20), some (.ref 17), some (.int (nI s)), some (.ref 28), some (.int (nI b)), some (.int z), some (.int (nI i + nI 1))] [] (va_up (va_up (va_up (va_up (va_up (va_up w 28 (aJ 3480 g)) 20 (oOrb (nI N) (nI (phi N)) (nI K))) 24 (aJ 58 (stF 0 i r le))) 23 (aJ 58 (stF 0 i r tu))) 23 (aJ 58 (vp_updL (stF 0 i r tu) i (r i)))) 24 (aJ 58 (vp_updL (stF 0 i r le) i (r i)))) n 0 0 (qV fun w' n' => n = n' ∧ Fr FO (va_up (va_up (va_up (va_up w 28 (aJ 3480 g)) 20 (oOrb (nI N) (nI (phi N)) (nI K))) 24 (aJ 58 le)) 23 (aJ 58 tu)) w' ∧ ∃ K' G' kd' td', OrbW w' N K' G' kd' td' ∧ OrbP N K G kd td s 1 K' G' kd' td' (fun _ => r)) := by
        intro z hz
        subst hz
        refine ab_ev_of ih (by rw [nI_s i]) rfl ?_
        rw [es, es, va_uu, va_u2 (show (23 : Nat) ≠ 24 by omega), va_uu]
      cases hb1 : lkB i r Z0
      · refine And.intro (fun _ => ?_) (fun h_9 => absurd (rfl) h_9)
        refine nxt _ ?_
        have : lkB (i + 1) r Z0 = false := by
          rw [← Bool.not_eq_true, lkB_iff]
          intro z
          have : lkB i r Z0 = true := lkB_iff.mpr (fun j hj => z j (by omega))
          rw [hb1] at this
          cases this
        rw [this]
        rfl
      · refine And.intro (fun h_9 => absurd h_9 ((by decide))) (fun _ => ?_)
        refine And.intro (vp_in_nI (show i < 58 by omega) (by omega)) ?_
        rw [nI_clamp (by omega), ev]
        refine And.intro (fun hc => ?_) (fun hc => ?_)
        · refine nxt _ ?_
          have : lkB (i + 1) r Z0 = false := by
            rw [← Bool.not_eq_true, lkB_iff]
            intro z
            exact hc (lz_eq.mpr (z i (by omega)))
          rw [this]
          rfl
        · refine nxt _ ?_
          rw [lz_eq] at hc
          have : lkB (i + 1) r Z0 = true := by
            rw [lkB_iff] at hb1 ⊢
            intro j hj
            by_cases e : j = i
            · rw [e]; exact hc
            · exact hb1 j (by omega)
          rw [this]
          rfl
  refine ab_ev_of (loop 0 (by omega)) ?_ rfl (by rw [stF_0, stF_0])
  rw [show lkB 0 r Z0 = true from lkB_iff.mpr (fun j hj => by omega)]
  rfl
end ORB2
