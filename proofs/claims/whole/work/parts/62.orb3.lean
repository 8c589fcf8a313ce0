def exB (P : Nat → Bool) (N : Nat) : Bool := decide (∃ k, k < N ∧ P k = true)
def alB (P : Nat → Bool) (N : Nat) : Bool := decide (∀ k, k < N → P k = true)
theorem exB_t {P : Nat → Bool} {N k : Nat} (hk : k < N) (h : P k = true) : exB P N = true := decide_eq_true ⟨k, hk, h⟩
theorem exB_f {P : Nat → Bool} {N : Nat} (h : ∀ k, k < N → P k = false) : exB P N = false := by
  rw [← Bool.not_eq_true]
  intro z
  obtain ⟨k, hk, hp⟩ := of_decide_eq_true z
  rw [h k hk] at hp
  cases hp
theorem alB_t {P : Nat → Bool} {N : Nat} (h : ∀ k, k < N → P k = true) : alB P N = true := decide_eq_true h
theorem alB_f {P : Nat → Bool} {N k : Nat} (hk : k < N) (h : P k = false) : alB P N = false := by
  rw [← Bool.not_eq_true]
  intro z
  have := of_decide_eq_true z k hk
  rw [h] at this
  cases this
theorem exB_congr {P Q : Nat → Bool} {N : Nat} (h : ∀ k, k < N → P k = Q k) : exB P N = exB Q N := by
  unfold exB
  apply decide_eq_decide.mpr
  exact ⟨fun ⟨k, hk, q⟩ => ⟨k, hk, by rw [← h k hk]; exact q⟩, fun ⟨k, hk, q⟩ => ⟨k, hk, by rw [h k hk]; exact q⟩⟩
theorem alB_congr {P Q : Nat → Bool} {N : Nat} (h : ∀ k, k < N → P k = Q k) : alB P N = alB Q N := by
  unfold alB
  apply decide_eq_decide.mpr
  exact ⟨fun q k hk => by rw [← h k hk]; exact q k hk, fun q k hk => by rw [h k hk]; exact q k hk⟩
theorem all_s {P : Nat → Bool} {k : Nat} {b : Bool} (h : ∀ j, j < k → P j = b) (hk : P k = b) : ∀ j, j < k + 1 → P j = b := fun j hj => by
  by_cases e : j = k
  · rw [e]; exact hk
  · exact h j (by omega)
theorem fst_eq {P : Nat → Bool} {N t : Nat} (ht : t < N) (h : P t = true) (h2 : ∀ m, m < t → P m = false) : fst P N 0 = t := by
  obtain ⟨a, b, c, d⟩ := fst_spec P N 0
  rcases Nat.lt_trichotomy (fst P N 0) t with e | e | e
  · have := d (by omega)
    rw [h2 _ e] at this
    cases this
  · exact e
  · have := a t (by omega) e
    rw [h] at this
    cases this
theorem fst_no {P : Nat → Bool} {N : Nat} (h : ∀ m, m < N → P m = false) : fst P N 0 = N := by
  obtain ⟨a, b, c, d⟩ := fst_spec P N 0
  by_cases e : fst P N 0 < N
  · have := d (by omega)
    rw [h _ e] at this
    cases this
  · omega
/-- the first pair -/
def fmV (N : Nat) (P : Nat → Nat → Bool) : Int32 := if fst (fun t => exB (P t) N) N 0 < N then nI (100 * fst (fun t => exB (P t) N) N 0 + fst (P (fst (fun t => exB (P t) N) N 0)) N 0) else -nI 1
theorem fmV_hit {N t m : Nat} {P : Nat → Nat → Bool} (ht : t < N) (hm : m < N) (h : P t m = true) (h1 : ∀ t', t' < t → exB (P t') N = false) (h2 : ∀ m', m' < m → P t m' = false) : fmV N P = nI (100 * t + m) := by
  have e1 : fst (fun t => exB (P t) N) N 0 = t := fst_eq ht (exB_t hm h) h1
  have e2 : fst (P t) N 0 = m := fst_eq hm h h2
  unfold fmV
  rw [e1, e2, if_pos ht]
theorem fmV_no {N : Nat} {P : Nat → Nat → Bool} (h1 : ∀ t', t' < N → exB (P t') N = false) : fmV N P = -nI 1 := by
  have e1 : fst (fun t => exB (P t) N) N 0 = N := fst_no h1
  unfold fmV
  rw [e1, if_neg (by omega)]
def dcnt (P : Nat → Nat → Bool) (N : Nat) : Nat → Nat
  | 0 => 0
  | t + 1 => dcnt P N t + cnt (P t) N
theorem dcnt_le (P : Nat → Nat → Bool) (N : Nat) : ∀ t, dcnt P N t ≤ t * N
  | 0 => Nat.zero_le _
  | t + 1 => by
    have h1 := dcnt_le P N t
    have h2 := cnt_le (P t) N
    show dcnt P N t + cnt (P t) N ≤ _
    rw [Nat.add_mul]
    omega
/-- a row mirrored -/
def mv (N : Nat) (r : Nat → Int64) (i : Nat) : Int64 := redV N (gaF (fun j => (N - j) % N) r (phi N) Z0) i
abbrev FP (k : Nat) : Prop := 20 ≤ k ∧ k ≤ 26
abbrev FQ (k : Nat) : Prop := 19 ≤ k ∧ k ≤ 26
section ORB3
variable {X : ab_X} {l : Launch}
theorem k_placeSheet (y : Int32) (q a s N K : Nat) (w : ab_W) (n : Nat) {R : Nat → Nat → Int64} {G : Nat → Int64} {kd td : Nat → Int32} (hy : y = nI s) (hs : s + N ≤ 120) (hKs : K ≤ s) (hS : KSums w N) (hA : ShIs w q N a R) (hO : OrbW w N K G kd td) (h22 : ∃ f, w 22 = aJ 58 f) (hD : Dist N K G) :
    ab_C X l i_Orb_placeSheet [.ref 20, .ref 17, .ref q, .int y] w n 0 0 (qV fun w' n' => n = n' ∧ Fr FP w w' ∧ (∃ f, w' 22 = aJ 58 f) ∧ ∃ K' G' kd' td', OrbW w' N K' G' kd' td' ∧ OrbP N K G kd td s N K' G' kd' td' R) := by
  subst hy
  have hN := hS.1
  have hp := phi_le N hN.2
  refine ab_mqV cd_34 om_34 rfl rfl (ab_sound ok_34 [3] 50 ?_)
  have loop : ∀ k, k ≤ N → ∀ w1 K1 G1 kd1 td1, Fr FP w w1 → (∃ f, w1 22 = aJ 58 f) → OrbW w1 N K1 G1 kd1 td1 → OrbP N K G kd td s k K1 G1 kd1 td1 R → ∀ l5 : Option Value, ab_Ev X l i_Orb_placeSheet 3 [some (.ref 20), some (.ref 17), some (.ref q), some (.int (nI s)), some (.int (nI k)), l5] [] w1 n 0 0 (qV fun w' n' => n = n' ∧ Fr FP w w' ∧ (∃ f, w' 22 = aJ 58 f) ∧ ∃ K' G' kd' td', OrbW w' N K' G' kd' td' ∧ OrbP N K G kd td s N K' G' kd' td' R) := by
    refine ab_up N ?_ (fun k hk ih => ?_)
    · intro w1 K1 G1 kd1 td1 hf h22 hO1 hP1 l5
      have hA1 : ShIs w1 q N a R := hA.frS hf (fun k hk => by unfold FS; omega)
      refine ab_sound ok_34 [3] 50 ?_
      refine Exists.intro _ (Exists.intro _ (And.intro (hA1.1) (And.intro rfl ?_)))
      refine And.intro (fun _ => ?_) (fun h_9 => absurd (nI_le (Nat.le_refl _) (by omega)) h_9)
      exact ⟨rfl, rfl, hf, h22, K1, G1, kd1, td1, hO1, hP1⟩
    · intro w1 K1 G1 kd1 td1 hf ⟨f, h22⟩ hO1 hP1 l5
      have hA1 : ShIs w1 q N a R := hA.frS hf (fun k hk => by unfold FS; omega)
      have hS1 : KSums w1 N := hS.fr hf (by omega) (by omega) (by omega)
      obtain ⟨w1, rfl⟩ := va_ex2 h22 hO1.1
      refine ab_sound ok_34 [3, 15] 50 ?_
      refine Exists.intro _ (Exists.intro _ (And.intro (hA1.1) (And.intro rfl ?_)))
      refine And.intro (fun h_9 => absurd h_9 (nI_ge hk (by omega))) (fun _ => ?_)
      have inn : ∀ i, i ≤ phi N → ab_Ev X l i_Orb_placeSheet 15 [some (.ref 20), some (.ref 17), some (.ref q), some (.int (nI s)), some (.int (nI k)), some (.int (nI i))] [] (va_up (va_up w1 20 (oOrb (nI N) (nI (phi N)) (nI K1))) 22 (aJ 58 (stF 0 i (R k) f))) n 0 0 (qV fun w' n' => n = n' ∧ Fr FP w w' ∧ (∃ f, w' 22 = aJ 58 f) ∧ ∃ K' G' kd' td', OrbW w' N K' G' kd' td' ∧ OrbP N K G kd td s N K' G' kd' td' R) := by
        refine ab_up (phi N) ?_ (fun i hi ih2 => ?_)
        · have hA2 : ShIs (va_up (va_up w1 20 (oOrb (nI N) (nI (phi N)) (nI K1))) 22 (aJ 58 (stF 0 (phi N) (R k) f))) q N a R := hA1.re (by omega)
          have hf2 : Fr (fun k => k = 22) (va_up (va_up w1 20 (oOrb (nI N) (nI (phi N)) (nI K1))) 22 (aJ 58 f)) (va_up (va_up w1 20 (oOrb (nI N) (nI (phi N)) (nI K1))) 22 (aJ 58 (stF 0 (phi N) (R k) f))) := fun k hk => by
            rw [va_un hk, va_un hk]
          obtain ⟨o1, o2, ⟨t3, o3⟩, ⟨t4, o4⟩, o5, o6⟩ := hO1
          have hO2 : OrbW (va_up (va_up w1 20 (oOrb (nI N) (nI (phi N)) (nI K1))) 22 (aJ 58 (stF 0 (phi N) (R k) f))) N K1 G1 kd1 td1 := ⟨rfl, hf2.get o2 (by omega), ⟨t3, hf2.get o3 (by omega)⟩, ⟨t4, hf2.get o4 (by omega)⟩, hf2.get o5 (by omega), hf2.get o6 (by omega)⟩
          have hS2 := hS1.fr hf2 (by omega) (by omega) (by omega)
          refine ab_sound ok_34 [3, 15] 50 ?_
          refine Exists.intro _ (Exists.intro _ (And.intro (hA2.1) (And.intro rfl ?_)))
          refine And.intro (fun _ => ?_) (fun h_9 => absurd (nI_le (Nat.le_refl _) (by omega)) h_9)
          (refine Exists.intro 0 ?_; refine ⟨0, _, Nat.zero_le _, Nat.zero_le _, k_place_22 _ _ (s + k) 0 N K1 _ _ (r := R k) (nI_add s k) rfl (by omega) (by have := hP1.2.1; omega) (by omega) hS2 hO2 rfl hP1.2.2.1 (fun i hi => by unfold stF; rw [if_pos (by omega)]; simp), ?_⟩; rintro _ w3 _ ⟨rfl, rfl, f3, K3, G3, kd3, td3, hO3, hP3⟩)
          refine ab_ev_of (ih w3 K3 G3 kd3 td3 ((hf.trans (hf2.mono (fun k hk => by omega))).trans (f3.mono (fun k hk => by omega))) ⟨_, f3.get rfl (by omega)⟩ hO3 (hP1.step hP3 rfl) (some (.int (nI (phi N))))) (by rw [nI_s k]; rfl) rfl rfl
        · have hA2 : ShIs (va_up (va_up w1 20 (oOrb (nI N) (nI (phi N)) (nI K1))) 22 (aJ 58 (stF 0 i (R k) f))) q N a R := hA1.re (by omega)
          refine ab_sound ok_34 [3, 15] 50 ?_
          refine Exists.intro _ (Exists.intro _ (And.intro (hA2.1) (And.intro rfl ?_)))
          refine And.intro (fun h_9 => absurd h_9 (nI_ge hi (by omega))) (fun _ => ?_)
          refine And.intro (⟨_, hA2.1⟩) ?_
          (refine Exists.intro 0 ?_; refine ⟨0, _, Nat.zero_le _, Nat.zero_le _, c_number _ _ q a N k i _ _ rfl rfl hN.2 hk hi hA2, ?_⟩; refine ab_q1_elim ?_)
          refine And.intro (vp_in_nI (show i < 58 by omega) (by omega)) ?_
          refine ab_ev_of ih2 (by rw [nI_s i]; rfl) rfl ?_
          rw [va_uu, nI_clamp (by omega)]
          have := stF_s 0 i (R k) f
          rw [Nat.zero_add] at this
          exact congrArg (fun z => va_up _ 22 (aJ 58 z)) this
      exact ab_ev_of (inn 0 (by omega)) rfl rfl (by rw [stF_0])
  exact loop 0 (by omega) w K G kd td Fr.refl h22 hO (OrbP.nil hD) none
theorem k_placeMirrored (y : Int32) (q a s N K : Nat) (w : ab_W) (n : Nat) {R : Nat → Nat → Int64} {G : Nat → Int64} {kd td : Nat → Int32} (hy : y = nI s) (hs : s + N ≤ 120) (hKs : K ≤ s) (hS : KSums w N) (hA : ShIs w q N a R) (hO : OrbW w N K G kd td) (h22 : ∃ f, w 22 = aJ 58 f) (hD : Dist N K G) :
    ab_C X l i_Orb_placeMirrored [.ref 20, .ref 17, .ref q, .int y] w n 0 0 (qV fun w' n' => n = n' ∧ Fr FQ w w' ∧ KSums w' N ∧ (∃ f, w' 22 = aJ 58 f) ∧ ∃ K' G' kd' td', OrbW w' N K' G' kd' td' ∧ OrbP N K G kd td s N K' G' kd' td' (fun k => mv N (R k))) := by
  subst hy
  have hN := hS.1
  have hp := phi_le N hN.2
  have hp1 := phi_ge N hN.2 hN.1
  have hp2 := phi_lt N hN.2 hN.1
  refine ab_mqV cd_42 om_42 rfl rfl (ab_sound ok_42 [3] 50 ?_)
  have loop : ∀ k, k ≤ N → ∀ w1 K1 G1 kd1 td1, Fr FQ w w1 → KSums w1 N → (∃ f, w1 22 = aJ 58 f) → OrbW w1 N K1 G1 kd1 td1 → OrbP N K G kd td s k K1 G1 kd1 td1 (fun k => mv N (R k)) → ∀ l5 : Option Value, ab_Ev X l i_Orb_placeMirrored 3 [some (.ref 20), some (.ref 17), some (.ref q), some (.int (nI s)), some (.int (nI k)), l5] [] w1 n 0 0 (qV fun w' n' => n = n' ∧ Fr FQ w w' ∧ KSums w' N ∧ (∃ f, w' 22 = aJ 58 f) ∧ ∃ K' G' kd' td', OrbW w' N K' G' kd' td' ∧ OrbP N K G kd td s N K' G' kd' td' (fun k => mv N (R k))) := by
    refine ab_up N ?_ (fun k hk ih => ?_)
    · intro w1 K1 G1 kd1 td1 hf hS1 h22 hO1 hP1 l5
      have hA1 : ShIs w1 q N a R := hA.frS hf (fun k hk => by unfold FS; omega)
      refine ab_sound ok_42 [3] 50 ?_
      refine Exists.intro _ (Exists.intro _ (And.intro (hA1.1) (And.intro rfl ?_)))
      refine And.intro (fun _ => ?_) (fun h_9 => absurd (nI_le (Nat.le_refl _) (by omega)) h_9)
      exact ⟨rfl, rfl, hf, hS1, h22, K1, G1, kd1, td1, hO1, hP1⟩
    · intro w1 K1 G1 kd1 td1 hf hS1 ⟨g22, h22⟩ hO1 hP1 l5
      have hA1 : ShIs w1 q N a R := hA.frS hf (fun k hk => by unfold FS; omega)
      have hS1' := hS1
      obtain ⟨-, c, f, s1, s2, s3, s4⟩ := hS1'
      obtain ⟨w1, rfl⟩ := va_ex3 s3 s1 hO1.1
      refine ab_sound ok_42 [3, 19] 50 ?_
      refine Exists.intro _ (Exists.intro _ (And.intro (hA1.1) (And.intro rfl ?_)))
      refine And.intro (fun h_9 => absurd h_9 (nI_ge hk (by omega))) (fun _ => ?_)
      (refine Exists.intro 0 ?_; refine ⟨0, _, Nat.zero_le _, Nat.zero_le _, c_Sums_clear _ _ rfl rfl, ?_⟩; refine ab_q1_elim ?_)
      rw [va_uu]
      have inn : ∀ i, i ≤ phi N → ab_Ev X l i_Orb_placeMirrored 19 [some (.ref 20), some (.ref 17), some (.ref q), some (.int (nI s)), some (.int (nI k)), some (.int (nI i))] [] (va_up (va_up (va_up w1 20 (oOrb (nI N) (nI (phi N)) (nI K1))) 17 (oSums (nI N) (nI (phi N)))) 19 (aJ 60 (gaF (fun j => (N - j) % N) (R k) i (zb 60 f)))) n 0 0 (qV fun w' n' => n = n' ∧ Fr FQ w w' ∧ KSums w' N ∧ (∃ f, w' 22 = aJ 58 f) ∧ ∃ K' G' kd' td', OrbW w' N K' G' kd' td' ∧ OrbP N K G kd td s N K' G' kd' td' (fun k => mv N (R k))) := by
        refine ab_up (phi N) ?_ (fun i hi ih2 => ?_)
        · generalize hF : gaF (fun j => (N - j) % N) (R k) (phi N) (zb 60 f) = F
          have hA2 : ShIs (va_up (va_up (va_up w1 20 (oOrb (nI N) (nI (phi N)) (nI K1))) 17 (oSums (nI N) (nI (phi N)))) 19 (aJ 60 F)) q N a R := hA1.re (by omega)
          refine ab_sound ok_42 [3, 19] 50 ?_
          refine Exists.intro _ (Exists.intro _ (And.intro (hA2.1) (And.intro rfl ?_)))
          refine And.intro (fun _ => ?_) (fun h_9 => absurd (nI_le (Nat.le_refl _) (by omega)) h_9)
          (refine Exists.intro 0 ?_; refine ⟨0, _, Nat.zero_le _, Nat.zero_le _, c_Sums_reduce N (phi N) _ _ (by omega) (by omega) hN.2 hp rfl s2 rfl, ?_⟩; refine ab_q1_elim ?_)
          rw [va_uu]
          (refine Exists.intro 0 ?_; refine ⟨0, _, Nat.zero_le _, Nat.zero_le _, c_Sums_store_22 0 (phi N) 58 _ _ (by omega) (by omega) (by omega) (by omega) rfl rfl h22, ?_⟩; refine ab_q1_elim ?_)
          generalize hF2 : redD (phi N) c (N - phi N) F = F2
          have hrow : ∀ i, i < phi N → stF (0 * phi N) (phi N) F2 g22 (0 + i) = mv N (R k) i := fun i hi => by
            unfold stF
            rw [if_pos (by omega), show 0 + i - 0 * phi N = i by omega, ← hF2, red_allc N hN.2 hN.1 s4 i hi, ← hF]
            exact e60_red hN.2 (e60_ga (e60_zb f) _ (fun j hj => ⟨Nat.lt_of_lt_of_le (Nat.mod_lt _ (by omega)) hN.2, rfl, rfl⟩)) i
          generalize hg2 : stF (0 * phi N) (phi N) F2 g22 = g2 at *
          have hf2 : Fr (fun k => k = 19 ∨ k = 22) (va_up (va_up (va_up w1 20 (oOrb (nI N) (nI (phi N)) (nI K1))) 17 (oSums (nI N) (nI (phi N)))) 19 (aJ 60 f)) (va_up (va_up (va_up (va_up w1 20 (oOrb (nI N) (nI (phi N)) (nI K1))) 17 (oSums (nI N) (nI (phi N)))) 19 (aJ 60 F2)) 22 (aJ 58 g2)) := fun k hk => ((va_un (by omega)).trans (va_un (by omega))).trans (va_un (by omega)).symm
          obtain ⟨o1, o2, ⟨t3, o3⟩, ⟨t4, o4⟩, o5, o6⟩ := hO1
          have hO2 : OrbW (va_up (va_up (va_up (va_up w1 20 (oOrb (nI N) (nI (phi N)) (nI K1))) 17 (oSums (nI N) (nI (phi N)))) 19 (aJ 60 F2)) 22 (aJ 58 g2)) N K1 G1 kd1 td1 := ⟨rfl, hf2.get o2 (by omega), ⟨t3, hf2.get o3 (by omega)⟩, ⟨t4, hf2.get o4 (by omega)⟩, hf2.get o5 (by omega), hf2.get o6 (by omega)⟩
          have hS2 : KSums (va_up (va_up (va_up (va_up w1 20 (oOrb (nI N) (nI (phi N)) (nI K1))) 17 (oSums (nI N) (nI (phi N)))) 19 (aJ 60 F2)) 22 (aJ 58 g2)) N := ⟨hN, c, F2, rfl, hf2.get s2 (by omega), rfl, s4⟩
          (refine Exists.intro 0 ?_; refine ⟨0, _, Nat.zero_le _, Nat.zero_le _, k_place_22 _ _ (s + k) 0 N K1 _ _ (r := mv N (R k)) (nI_add s k) rfl (by omega) (by have := hP1.2.1; omega) (by omega) hS2 hO2 rfl hP1.2.2.1 hrow, ?_⟩; rintro _ w3 _ ⟨rfl, rfl, f3, K3, G3, kd3, td3, hO3, hP3⟩)
          refine ab_ev_of (ih w3 K3 G3 kd3 td3 ((hf.trans (hf2.mono (fun k hk => by omega))).trans (f3.mono (fun k hk => by omega))) (hS2.fr f3 (by omega) (by omega) (by omega)) ⟨_, f3.get rfl (by omega)⟩ hO3 (hP1.step hP3 rfl) (some (.int (nI (phi N))))) (by rw [nI_s k]; rfl) rfl rfl
        · generalize hF : gaF (fun j => (N - j) % N) (R k) i (zb 60 f) = F at *
          have hA2 : ShIs (va_up (va_up (va_up w1 20 (oOrb (nI N) (nI (phi N)) (nI K1))) 17 (oSums (nI N) (nI (phi N)))) 19 (aJ 60 F)) q N a R := hA1.re (by omega)
          have e1 : ∀ v : Int32, v = nI ((N - i) % N) → ab_C X l i_Sums_add [.ref 17, .int v, .long (R k i)] (va_up (va_up (va_up w1 20 (oOrb (nI N) (nI (phi N)) (nI K1))) 17 (oSums (nI N) (nI (phi N)))) 19 (aJ 60 F)) n 0 0 (ab_q1 none (va_up (va_up (va_up w1 20 (oOrb (nI N) (nI (phi N)) (nI K1))) 17 (oSums (nI N) (nI (phi N)))) 19 (aJ 60 (gaF (fun j => (N - j) % N) (R k) (i + 1) (zb 60 f)))) n) := by
            intro v hv
            have := c_Sums_add (X := X) (l := l) v ((N - i) % N) (R k i) (va_up (va_up (va_up w1 20 (oOrb (nI N) (nI (phi N)) (nI K1))) 17 (oSums (nI N) (nI (phi N)))) 19 (aJ 60 F)) n hv (Nat.lt_of_lt_of_le (Nat.mod_lt _ (by omega)) hN.2) rfl rfl
            rw [va_uu, ← hF] at this
            rw [← hF]
            exact this
          refine ab_sound ok_42 [3, 19] 50 ?_
          refine Exists.intro _ (Exists.intro _ (And.intro (hA2.1) (And.intro rfl ?_)))
          refine And.intro (fun h_9 => absurd h_9 (nI_ge hi (by omega))) (fun _ => ?_)
          by_cases e0 : i = 0
          · subst e0
            refine And.intro (fun h_9 => absurd (rfl) h_9) (fun _ => ?_)
            refine And.intro (⟨_, hA2.1⟩) ?_
            (refine Exists.intro 0 ?_; refine ⟨0, _, Nat.zero_le _, Nat.zero_le _, c_number _ _ q a N k 0 _ _ rfl rfl hN.2 hk hi hA2, ?_⟩; refine ab_q1_elim ?_)
            (refine Exists.intro 0 ?_; refine ⟨0, _, Nat.zero_le _, Nat.zero_le _, e1 _ (by rw [Nat.sub_zero, Nat.mod_self]), ?_⟩; refine ab_q1_elim ?_)
            exact ab_ev_of ih2 rfl rfl rfl
          · refine And.intro (fun _ => ?_) (fun h_9 => absurd h_9 (nI_ne0 (by omega) (by omega)))
            refine Exists.intro _ (Exists.intro _ (And.intro (hA2.1) (And.intro rfl ?_)))
            refine And.intro (⟨_, hA2.1⟩) ?_
            (refine Exists.intro 0 ?_; refine ⟨0, _, Nat.zero_le _, Nat.zero_le _, c_number _ _ q a N k i _ _ rfl rfl hN.2 hk hi hA2, ?_⟩; refine ab_q1_elim ?_)
            (refine Exists.intro 0 ?_; refine ⟨0, _, Nat.zero_le _, Nat.zero_le _, e1 _ (by rw [pk_sub (by omega), Nat.mod_eq_of_lt (show N - i < N by omega)]), ?_⟩; refine ab_q1_elim ?_)
            exact ab_ev_of ih2 (by rw [nI_s i]; rfl) rfl rfl
      exact ab_ev_of (inn 0 (by omega)) rfl rfl rfl
  exact loop 0 (by omega) w K G kd td Fr.refl hS h22 hO (OrbP.nil hD) none
theorem c_isTurned (x y t : Int32) (a b N : Nat) (w : ab_W) (n : Nat) {K : Int32} {kd td : Nat → Int32} (hx : x = nI a) (hy : y = nI b) (ha : a < 120) (hb : b < 120) (hN : 3 ≤ N ∧ N ≤ 60) (h0 : w 20 = oOrb (nI N) (nI (phi N)) K) (h5 : w 25 = aI 120 kd) (h6 : w 26 = aI 120 td) :
    ab_C X l i_Orb_isTurned [.ref 20, .int x, .int y, .int t] w n 0 0 (ab_q1 (some (.int (b01 (itB N kd td a b t)))) w n) := by
  subst hx hy
  obtain ⟨w, rfl⟩ := va_ex3 h0 h5 h6
  refine ab_metI cd_41 om_41 rfl (ab_sound ok_41 [] 80 ?_)
  refine And.intro (vp_in_nI ha (by omega)) ?_
  refine And.intro (vp_in_nI hb (by omega)) ?_
  rw [nI_clamp (by omega), nI_clamp (by omega)]
  have hf : ∀ h : ¬ (kd a = kd b ∧ (kd a = nI 0 ∨ td a = nI (md (td b + t).toInt N))), itB N kd td a b t = false := fun h => decide_eq_false h
  have ht : ∀ h : kd a = kd b ∧ (kd a = nI 0 ∨ td a = nI (md (td b + t).toInt N)), itB N kd td a b t = true := fun h => decide_eq_true h
  refine And.intro (fun h1 => ?_) (fun h1 => ?_)
  · rw [hf (fun z => h1 z.1)]
    exact ⟨rfl, rfl, rfl, rfl⟩
  · refine And.intro (vp_in_nI ha (by omega)) ?_
    rw [nI_clamp (by omega)]
    refine And.intro (fun h2 => ?_) (fun h2 => ?_)
    · rw [ht ⟨h1, Or.inl h2⟩]
      exact ⟨rfl, rfl, rfl, rfl⟩
    · refine And.intro (vp_in_nI ha (by omega)) ?_
      refine And.intro (vp_in_nI hb (by omega)) ?_
      rw [nI_clamp (by omega), nI_clamp (by omega)]
      (refine Exists.intro 0 ?_; refine ⟨0, _, Nat.zero_le _, Nat.zero_le _, c_WP_wrap _ N (by omega) (by omega) _ _, ?_⟩; refine ab_q1_elim ?_)
      refine And.intro (fun h3 => ?_) (fun h3 => ?_)
      · rw [hf (fun z => z.2.elim h2 h3)]
        exact ⟨rfl, rfl, rfl, rfl⟩
      · rw [ht ⟨h1, Or.inr h3⟩]
        exact ⟨rfl, rfl, rfl, rfl⟩
theorem c_isAmongFirst (x t : Int32) (b N : Nat) (w : ab_W) (n : Nat) {K : Int32} {kd td : Nat → Int32} (hx : x = nI b) (hb : b < 120) (hN : 3 ≤ N ∧ N ≤ 60) (h0 : w 20 = oOrb (nI N) (nI (phi N)) K) (h5 : w 25 = aI 120 kd) (h6 : w 26 = aI 120 td) :
    ab_C X l i_Orb_isAmongFirst [.ref 20, .int x, .int t] w n 0 0 (ab_q1 (some (.int (b01 (exB (fun k => itB N kd td k b t) N)))) w n) := by
  subst hx
  obtain ⟨w, rfl⟩ := va_ex3 h0 h5 h6
  refine ab_metI cd_40 om_40 rfl (ab_sound ok_40 [2] 50 ?_)
  generalize hW : va_up (va_up (va_up w 26 (aI 120 td)) 25 (aI 120 kd)) 20 (oOrb (nI N) (nI (phi N)) K) = W
  have loop : ∀ k, k ≤ N → (∀ j, j < k → itB N kd td j b t = false) → ab_Ev X l i_Orb_isAmongFirst 2 [some (.ref 20), some (.int (nI b)), some (.int t), some (.int (nI k))] [] W n 0 0 (ab_q1 (some (.int (b01 (exB (fun k => itB N kd td k b t) N)))) W n) := by
    subst hW
    refine ab_up N ?_ (fun k hk ih => ?_)
    · intro hm
      refine ab_sound ok_40 [2] 50 ?_
      refine And.intro (fun _ => ?_) (fun h_9 => absurd (nI_le (Nat.le_refl _) (by omega)) h_9)
      rw [exB_f hm]
      exact ⟨rfl, rfl, rfl, rfl⟩
    · intro hm
      refine ab_sound ok_40 [2] 50 ?_
      refine And.intro (fun h_9 => absurd h_9 (nI_ge hk (by omega))) (fun _ => ?_)
      (refine Exists.intro 0 ?_; refine ⟨0, _, Nat.zero_le _, Nat.zero_le _, c_isTurned _ _ t k b N _ _ rfl rfl (by omega) hb hN rfl rfl rfl, ?_⟩; refine ab_q1_elim ?_)
      cases hc : itB N kd td k b t
      · refine And.intro (fun _ => ?_) (fun h_9 => absurd (rfl) h_9)
        exact ab_ev_of (ih (all_s hm hc)) (by rw [nI_s k]; rfl) rfl rfl
      · refine And.intro (fun h_9 => absurd h_9 ((by decide))) (fun _ => ?_)
        rw [exB_t hk hc]
        exact ⟨rfl, rfl, rfl, rfl⟩
  subst hW
  exact loop 0 (by omega) (fun j hj => by omega)
theorem c_turningsOnto (x : Int32) (b N : Nat) (w : ab_W) (n : Nat) {K : Int32} {kd td : Nat → Int32} (hx : x = nI b) (hb : b + N ≤ 120) (hN : 3 ≤ N ∧ N ≤ 60) (h0 : w 20 = oOrb (nI N) (nI (phi N)) K) (h5 : w 25 = aI 120 kd) (h6 : w 26 = aI 120 td) :
    ab_C X l i_Orb_turningsOnto [.ref 20, .int x] w n 0 0 (ab_q1 (some (.int (nI (cnt (fun t => alB (fun k => exB (fun j => itB N kd td j (b + k) (nI t)) N) N) N)))) w n) := by
  subst hx
  obtain ⟨w, rfl⟩ := va_ex3 h0 h5 h6
  refine ab_metI cd_39 om_39 rfl (ab_sound ok_39 [4] 50 ?_)
  generalize hPe : (fun t => alB (fun k => exB (fun j => itB N kd td j (b + k) (nI t)) N) N) = P
  generalize hW : va_up (va_up (va_up w 26 (aI 120 td)) 25 (aI 120 kd)) 20 (oOrb (nI N) (nI (phi N)) K) = W
  have loop : ∀ t, t ≤ N → ∀ l4 l5 : Option Value, ab_Ev X l i_Orb_turningsOnto 4 [some (.ref 20), some (.int (nI b)), some (.int (nI (cnt P t))), some (.int (nI t)), l4, l5] [] W n 0 0 (ab_q1 (some (.int (nI (cnt P N)))) W n) := by
    subst hW
    refine ab_up N ?_ (fun t ht ih => ?_)
    · intro l4 l5
      refine ab_sound ok_39 [4] 50 ?_
      refine And.intro (fun _ => ?_) (fun h_9 => absurd (nI_le (Nat.le_refl _) (by omega)) h_9)
      exact ⟨rfl, rfl, rfl⟩
    · intro l4 l5
      have hu : cnt P (t + 1) = cnt P t + (if P t = true then 1 else 0) := rfl
      have hPt : P t = alB (fun k => exB (fun j => itB N kd td j (b + k) (nI t)) N) N := by rw [← hPe]
      rw [hu] at ih
      have fin : ∀ (e : Bool) (z : Option Value), e = P t → ab_Ev X l i_Orb_turningsOnto 49 [some (.ref 20), some (.int (nI b)), some (.int (nI (cnt P t))), some (.int (nI t)), some (.int (b01 e)), z] [] (va_up (va_up (va_up w 26 (aI 120 td)) 25 (aI 120 kd)) 20 (oOrb (nI N) (nI (phi N)) K)) n 0 0 (ab_q1 (some (.int (nI (cnt P N)))) (va_up (va_up (va_up w 26 (aI 120 td)) 25 (aI 120 kd)) 20 (oOrb (nI N) (nI (phi N)) K)) n) := by
        intro e z he
        rw [← he] at ih
        refine ab_sound ok_39 [4] 50 ?_
        cases e
        · refine And.intro (fun _ => ?_) (fun h_9 => absurd (rfl) h_9)
          exact ab_ev_of (ih (some (.int (b01 false))) z) (by rw [nI_s t]; rfl) rfl rfl
        · refine And.intro (fun h_9 => absurd h_9 ((by decide))) (fun _ => ?_)
          exact ab_ev_of (ih (some (.int (b01 true))) z) (by rw [nI_s t, if_pos rfl, nI_s (cnt P t)]; rfl) rfl rfl
      refine ab_sound ok_39 [4, 18] 50 ?_
      refine And.intro (fun h_9 => absurd h_9 (nI_ge ht (by omega))) (fun _ => ?_)
      have inn : ∀ k, k ≤ N → (∀ j, j < k → exB (fun i => itB N kd td i (b + j) (nI t)) N = true) → ab_Ev X l i_Orb_turningsOnto 18 [some (.ref 20), some (.int (nI b)), some (.int (nI (cnt P t))), some (.int (nI t)), some (.int (nI 1)), some (.int (nI k))] [] (va_up (va_up (va_up w 26 (aI 120 td)) 25 (aI 120 kd)) 20 (oOrb (nI N) (nI (phi N)) K)) n 0 0 (ab_q1 (some (.int (nI (cnt P N)))) (va_up (va_up (va_up w 26 (aI 120 td)) 25 (aI 120 kd)) 20 (oOrb (nI N) (nI (phi N)) K)) n) := by
        refine ab_up N ?_ (fun k hk ih2 => ?_)
        · intro hm
          refine ab_sound ok_39 [18, 49] 50 ?_
          refine And.intro (fun _ => ?_) (fun h_9 => absurd (nI_le (Nat.le_refl _) (by omega)) h_9)
          exact fin true _ (by rw [hPt, alB_t hm])
        · intro hm
          refine ab_sound ok_39 [18, 49] 50 ?_
          refine And.intro (fun h_9 => absurd h_9 (nI_ge hk (by omega))) (fun _ => ?_)
          refine And.intro (fun h_9 => absurd h_9 ((by decide))) (fun _ => ?_)
          (refine Exists.intro 0 ?_; refine ⟨0, _, Nat.zero_le _, Nat.zero_le _, c_isAmongFirst _ (nI t) (b + k) N _ _ (nI_add b k) (by omega) hN rfl rfl rfl, ?_⟩; refine ab_q1_elim ?_)
          cases hc : exB (fun i => itB N kd td i (b + k) (nI t)) N
          · refine ab_sound ok_39 [49] 50 ?_
            have hff : P t = false := by rw [hPt, alB_f hk hc]
            refine And.intro (fun h9 => ?_) (fun h9 => ?_)
            · exact fin false _ hff.symm
            · refine And.intro (fun _ => ?_) (fun h_9 => absurd (rfl) h_9)
              exact fin false _ hff.symm
          · exact ab_ev_of (ih2 (all_s hm hc)) (by rw [nI_s k]; rfl) rfl rfl
      exact ab_ev_of (inn 0 (by omega) (fun j hj => by omega)) rfl rfl rfl
  subst hW
  exact loop 0 (by omega) none none
theorem c_matches (x y z : Int32) (b t m N : Nat) (w : ab_W) (n : Nat) {K : Int32} {kd td : Nat → Int32} (hx : x = nI b) (hy : y = nI t) (hz : z = nI m) (hb : b + N ≤ 120) (hm : m < N) (hN : 3 ≤ N ∧ N ≤ 60) (h0 : w 20 = oOrb (nI N) (nI (phi N)) K) (h5 : w 25 = aI 120 kd) (h6 : w 26 = aI 120 td) :
    ab_C X l i_Orb_matches [.ref 20, .int x, .int y, .int z] w n 0 0 (ab_q1 (some (.int (b01 (alB (fun k => itB N kd td k (b + (k + m) % N) (nI t)) N)))) w n) := by
  subst hx hy hz
  obtain ⟨w, rfl⟩ := va_ex3 h0 h5 h6
  refine ab_metI cd_44 om_44 rfl (ab_sound ok_44 [3] 50 ?_)
  generalize hW : va_up (va_up (va_up w 26 (aI 120 td)) 25 (aI 120 kd)) 20 (oOrb (nI N) (nI (phi N)) K) = W
  have loop : ∀ k, k ≤ N → (∀ j, j < k → itB N kd td j (b + (j + m) % N) (nI t) = true) → ∀ l5 : Option Value, ab_Ev X l i_Orb_matches 3 [some (.ref 20), some (.int (nI b)), some (.int (nI t)), some (.int (nI m)), some (.int (nI k)), l5] [] W n 0 0 (ab_q1 (some (.int (b01 (alB (fun k => itB N kd td k (b + (k + m) % N) (nI t)) N)))) W n) := by
    subst hW
    refine ab_up N ?_ (fun k hk ih => ?_)
    · intro hj l5
      refine ab_sound ok_44 [3] 50 ?_
      refine And.intro (fun _ => ?_) (fun h_9 => absurd (nI_le (Nat.le_refl _) (by omega)) h_9)
      rw [alB_t hj]
      exact ⟨rfl, rfl, rfl, rfl⟩
    · intro hj l5
      have hlt : (k + m) % N < N := Nat.mod_lt _ (by omega)
      have go : ∀ v : Int32, v = nI ((k + m) % N) → ab_Ev X l i_Orb_matches 41 [some (.ref 20), some (.int (nI b)), some (.int (nI t)), some (.int (nI m)), some (.int (nI k)), some (.int v)] [] (va_up (va_up (va_up w 26 (aI 120 td)) 25 (aI 120 kd)) 20 (oOrb (nI N) (nI (phi N)) K)) n 0 0 (ab_q1 (some (.int (b01 (alB (fun k => itB N kd td k (b + (k + m) % N) (nI t)) N)))) (va_up (va_up (va_up w 26 (aI 120 td)) 25 (aI 120 kd)) 20 (oOrb (nI N) (nI (phi N)) K)) n) := by
        intro v hv
        subst hv
        refine ab_sound ok_44 [3] 50 ?_
        (refine Exists.intro 0 ?_; refine ⟨0, _, Nat.zero_le _, Nat.zero_le _, c_isTurned _ _ (nI t) k (b + (k + m) % N) N _ _ rfl (nI_add b _) (by omega) (by omega) hN rfl rfl rfl, ?_⟩; refine ab_q1_elim ?_)
        cases hc : itB N kd td k (b + (k + m) % N) (nI t)
        · refine And.intro (fun h_9 => absurd (rfl) h_9) (fun _ => ?_)
          rw [alB_f (P := fun k => itB N kd td k (b + (k + m) % N) (nI t)) hk hc]
          exact ⟨rfl, rfl, rfl, rfl⟩
        · refine And.intro (fun _ => ?_) (fun h_9 => absurd h_9 ((by decide)))
          exact ab_ev_of (ih (all_s (P := fun k => itB N kd td k (b + (k + m) % N) (nI t)) hj hc) (some (.int (nI ((k + m) % N))))) (by rw [nI_s k]; rfl) rfl rfl
      refine ab_sound ok_44 [41] 50 ?_
      refine And.intro (fun h_9 => absurd h_9 (nI_ge hk (by omega))) (fun _ => ?_)
      by_cases e : k + m < N
      · refine And.intro (fun h_9 => absurd h_9 ((by rw [nI_add]; exact nI_ge e (by omega)))) (fun _ => ?_)
        exact go _ (by rw [nI_add, Nat.mod_eq_of_lt e])
      · refine And.intro (fun _ => ?_) (fun h_9 => absurd ((by rw [nI_add]; exact nI_le (by omega) (by omega))) h_9)
        exact go _ (by rw [nI_add, pk_sub (by omega), Nat.mod_eq_sub_mod (by omega), Nat.mod_eq_of_lt (by omega)])
  subst hW
  exact loop 0 (by omega) (fun j hj => by omega) none
theorem c_firstMatch (N : Nat) (w : ab_W) (n : Nat) {K : Int32} {kd td : Nat → Int32} (hN : 3 ≤ N ∧ N ≤ 60) (h0 : w 20 = oOrb (nI N) (nI (phi N)) K) (h5 : w 25 = aI 120 kd) (h6 : w 26 = aI 120 td) :
    ab_C X l i_Orb_firstMatch [.ref 20] w n 0 0 (ab_q1 (some (.int (fmV N (fun t m => alB (fun k => itB N kd td k (N + (k + m) % N) (nI t)) N)))) w n) := by
  obtain ⟨w, rfl⟩ := va_ex3 h0 h5 h6
  refine ab_metI cd_43 om_43 rfl (ab_sound ok_43 [2] 50 ?_)
  generalize hPe : (fun t m => alB (fun k => itB N kd td k (N + (k + m) % N) (nI t)) N) = P
  generalize hW : va_up (va_up (va_up w 26 (aI 120 td)) 25 (aI 120 kd)) 20 (oOrb (nI N) (nI (phi N)) K) = W
  have loop : ∀ t, t ≤ N → (∀ j, j < t → exB (P j) N = false) → ∀ l2 : Option Value, ab_Ev X l i_Orb_firstMatch 2 [some (.ref 20), some (.int (nI t)), l2] [] W n 0 0 (ab_q1 (some (.int (fmV N P))) W n) := by
    subst hW
    refine ab_up N ?_ (fun t ht ih => ?_)
    · intro hj l2
      refine ab_sound ok_43 [2] 50 ?_
      refine And.intro (fun _ => ?_) (fun h_9 => absurd (nI_le (Nat.le_refl _) (by omega)) h_9)
      rw [fmV_no hj]
      exact ⟨rfl, rfl, rfl⟩
    · intro hj l2
      refine ab_sound ok_43 [2, 12] 50 ?_
      refine And.intro (fun h_9 => absurd h_9 (nI_ge ht (by omega))) (fun _ => ?_)
      have inn : ∀ m, m ≤ N → (∀ j, j < m → P t j = false) → ab_Ev X l i_Orb_firstMatch 12 [some (.ref 20), some (.int (nI t)), some (.int (nI m))] [] (va_up (va_up (va_up w 26 (aI 120 td)) 25 (aI 120 kd)) 20 (oOrb (nI N) (nI (phi N)) K)) n 0 0 (ab_q1 (some (.int (fmV N P))) (va_up (va_up (va_up w 26 (aI 120 td)) 25 (aI 120 kd)) 20 (oOrb (nI N) (nI (phi N)) K)) n) := by
        refine ab_up N ?_ (fun m hm ih2 => ?_)
        · intro hq
          refine ab_sound ok_43 [2, 12] 50 ?_
          refine And.intro (fun _ => ?_) (fun h_9 => absurd (nI_le (Nat.le_refl _) (by omega)) h_9)
          exact ab_ev_of (ih (all_s (P := fun j => exB (P j) N) hj (exB_f hq)) (some (.int (nI N)))) (by rw [nI_s t]; rfl) rfl rfl
        · intro hq
          refine ab_sound ok_43 [2, 12] 50 ?_
          refine And.intro (fun h_9 => absurd h_9 (nI_ge hm (by omega))) (fun _ => ?_)
          (refine Exists.intro 0 ?_; refine ⟨0, _, Nat.zero_le _, Nat.zero_le _, c_matches _ _ _ N t m N _ _ rfl rfl rfl (by omega) hm hN rfl rfl rfl, ?_⟩; refine ab_q1_elim ?_)
          have hPt : P t m = alB (fun k => itB N kd td k (N + (k + m) % N) (nI t)) N := by rw [← hPe]
          rw [← hPt]
          cases hc : P t m
          · refine And.intro (fun _ => ?_) (fun h_9 => absurd (rfl) h_9)
            exact ab_ev_of (ih2 (all_s hq hc)) (by rw [nI_s m]; rfl) rfl rfl
          · refine And.intro (fun h_9 => absurd h_9 ((by decide))) (fun _ => ?_)
            rw [fmV_hit ht hm hc hj hq]
            exact ⟨by rw [← nI_add, ← pk_mul], rfl, rfl⟩
      exact ab_ev_of (inn 0 (by omega) (fun j hj => by omega)) rfl rfl rfl
  subst hW
  exact loop 0 (by omega) (fun j hj => by omega) none
theorem c_selves (N : Nat) (w : ab_W) (n : Nat) {K : Int32} {kd td : Nat → Int32} (hN : 3 ≤ N ∧ N ≤ 60) (h0 : w 20 = oOrb (nI N) (nI (phi N)) K) (h5 : w 25 = aI 120 kd) (h6 : w 26 = aI 120 td) :
    ab_C X l i_Orb_selves [.ref 20] w n 0 0 (ab_q1 (some (.int (nI (dcnt (fun t m => alB (fun k => itB N kd td k (0 + (k + m) % N) (nI t)) N) N N)))) w n) := by
  obtain ⟨w, rfl⟩ := va_ex3 h0 h5 h6
  refine ab_metI cd_45 om_45 rfl (ab_sound ok_45 [4] 50 ?_)
  generalize hPe : (fun t m => alB (fun k => itB N kd td k (0 + (k + m) % N) (nI t)) N) = P
  generalize hW : va_up (va_up (va_up w 26 (aI 120 td)) 25 (aI 120 kd)) 20 (oOrb (nI N) (nI (phi N)) K) = W
  have loop : ∀ t, t ≤ N → ∀ l3 : Option Value, ab_Ev X l i_Orb_selves 4 [some (.ref 20), some (.int (nI (dcnt P N t))), some (.int (nI t)), l3] [] W n 0 0 (ab_q1 (some (.int (nI (dcnt P N N)))) W n) := by
    subst hW
    refine ab_up N ?_ (fun t ht ih => ?_)
    · intro l3
      refine ab_sound ok_45 [4] 50 ?_
      refine And.intro (fun _ => ?_) (fun h_9 => absurd (nI_le (Nat.le_refl _) (by omega)) h_9)
      exact ⟨rfl, rfl, rfl⟩
    · intro l3
      refine ab_sound ok_45 [4, 14] 50 ?_
      refine And.intro (fun h_9 => absurd h_9 (nI_ge ht (by omega))) (fun _ => ?_)
      have inn : ∀ m, m ≤ N → ab_Ev X l i_Orb_selves 14 [some (.ref 20), some (.int (nI (dcnt P N t + cnt (P t) m))), some (.int (nI t)), some (.int (nI m))] [] (va_up (va_up (va_up w 26 (aI 120 td)) 25 (aI 120 kd)) 20 (oOrb (nI N) (nI (phi N)) K)) n 0 0 (ab_q1 (some (.int (nI (dcnt P N N)))) (va_up (va_up (va_up w 26 (aI 120 td)) 25 (aI 120 kd)) 20 (oOrb (nI N) (nI (phi N)) K)) n) := by
        refine ab_up N ?_ (fun m hm ih2 => ?_)
        · refine ab_sound ok_45 [4, 14] 50 ?_
          refine And.intro (fun _ => ?_) (fun h_9 => absurd (nI_le (Nat.le_refl _) (by omega)) h_9)
          exact ab_ev_of (ih (some (.int (nI N)))) (by rw [nI_s t]; rfl) rfl rfl
        · have hu : cnt (P t) (m + 1) = cnt (P t) m + (if P t m = true then 1 else 0) := rfl
          rw [hu, ← Nat.add_assoc] at ih2
          refine ab_sound ok_45 [4, 14] 50 ?_
          refine And.intro (fun h_9 => absurd h_9 (nI_ge hm (by omega))) (fun _ => ?_)
          (refine Exists.intro 0 ?_; refine ⟨0, _, Nat.zero_le _, Nat.zero_le _, c_matches _ _ _ 0 t m N _ _ rfl rfl rfl (by omega) hm hN rfl rfl rfl, ?_⟩; refine ab_q1_elim ?_)
          have hPt : P t m = alB (fun k => itB N kd td k (0 + (k + m) % N) (nI t)) N := by rw [← hPe]
          rw [← hPt]
          cases hc : P t m
          · refine And.intro (fun _ => ?_) (fun h_9 => absurd (rfl) h_9)
            rw [hc] at ih2
            exact ab_ev_of ih2 (by rw [nI_s m]; rfl) rfl rfl
          · refine And.intro (fun h_9 => absurd h_9 ((by decide))) (fun _ => ?_)
            rw [hc, if_pos rfl] at ih2
            exact ab_ev_of ih2 (by rw [nI_s m, nI_s (dcnt P N t + cnt (P t) m)]; rfl) rfl rfl
      exact ab_ev_of (inn 0 (by omega)) rfl rfl rfl
  subst hW
  exact loop 0 (by omega) none
end ORB3
