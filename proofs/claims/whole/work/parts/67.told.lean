/-! arms told back -/
def emk (N f k : Nat) : Nat := md (-((f * k : Nat) : Int)) N
def tbF (N : Nat) (R : Nat → Nat → Int64) (f : Nat) : Nat → (Nat → Int64) → (Nat → Int64)
  | 0, g => g
  | k + 1, g => gaF (fun j => (emk N f k + j) % N) (R k) (phi N) (tbF N R f k g)
def TBv (N : Nat) (R : Nat → Nat → Int64) (f i : Nat) : Int64 := redV N (tbF N R f N Z0) i
theorem e60_tb {N : Nat} (hN : 3 ≤ N ∧ N ≤ 60) (R : Nat → Nat → Int64) (f : Nat) {g h : Nat → Int64} (e : E60 g h) : ∀ k, E60 (tbF N R f k g) (tbF N R f k h)
  | 0 => e
  | k + 1 => e60_ga (e60_tb hN R f e k) _ (fun j _ => ⟨Nat.lt_of_lt_of_le (Nat.mod_lt _ (by omega)) hN.2, rfl, rfl⟩)
theorem neg_mulI (f k : Nat) (h : f * k < 2 ^ 31) : (-(nI f) * nI k).toInt = -((f * k : Nat) : Int) := by
  rw [Int32.neg_mul, pk_mul, Int32.toInt_neg, nI_toInt h, Int.bmod_eq_of_le_mul_two (by omega) (by omega)]
theorem fk_lt {N f k : Nat} (hN : N ≤ 60) (hf : f < N) (hk : k < N) : f * k < 2 ^ 31 := by
  have : f * k ≤ 60 * 60 := Nat.mul_le_mul (by omega) (by omega)
  omega
def whB (p : Nat) (r : Nat → Int64) : Bool := decide (∀ i, i < p → 1 ≤ i → r i = 0)
def remL (x : Int64) (N : Nat) : Int64 := x - x / lN N * lN N
def plB (N : Nat) (r : Nat → Int64) : Bool := whB (phi N) r && decide (remL (r 0) N = 0)
def spV (N : Nat) (r : Nat → Int64) : Int64 := if plB N r = true then r 0 / lN N else 0
def thB (N : Nat) (r : Nat → Int64) : Bool := !lkB (phi N) r Z0
theorem lNn0 {N : Nat} (h0 : 0 < N) (h : N < 2 ^ 31) : ¬ (nI N).toInt64 = 0 := by
  rw [nI_l h]
  intro z
  have := (lN_eq (b := 0) h (by omega)).mp z
  omega
theorem fst_at {P : Nat → Bool} {r a j : Nat} (h1 : a ≤ j) (h2 : j < a + r) (h : P j = true) (h3 : ∀ m, a ≤ m → m < j → P m = false) : fst P r a = j := by
  obtain ⟨q1, q2, q3, q4⟩ := fst_spec P r a
  rcases Nat.lt_trichotomy (fst P r a) j with e | e | e
  · have := q4 (by omega)
    rw [h3 _ q2 e] at this
    cases this
  · exact e
  · have := q1 j h1 e
    rw [h] at this
    cases this
theorem fst_none {P : Nat → Bool} {r a : Nat} (h3 : ∀ m, a ≤ m → m < a + r → P m = false) : fst P r a = a + r := by
  obtain ⟨q1, q2, q3, q4⟩ := fst_spec P r a
  by_cases e : fst P r a < a + r
  · have := q4 e
    rw [h3 _ q2 e] at this
    cases this
  · omega
def ntV (P : Nat → Bool) (N a : Nat) : Nat := if a ≤ N then fst P (N - a) a else N
theorem ntV_spec (P : Nat → Bool) (N a : Nat) : ntV P N a ≤ N ∧ (∀ m, a ≤ m → m < ntV P N a → P m = false) ∧ (ntV P N a < N → a ≤ ntV P N a ∧ P (ntV P N a) = true) := by
  unfold ntV
  by_cases e : a ≤ N
  · rw [if_pos e]
    obtain ⟨q1, q2, q3, q4⟩ := fst_spec P (N - a) a
    exact ⟨by omega, q1, fun h => ⟨q2, q4 (by omega)⟩⟩
  · rw [if_neg e]
    exact ⟨Nat.le_refl _, fun m h1 h2 => by omega, fun h => by omega⟩
def TwoP (N : Nat) (A : Nat → Nat → Int64) (f g : Nat) : Prop := f < g ∧ g < N ∧ thB N (A f) = true ∧ thB N (A g) = true ∧ (∀ h, h < N → h ≠ f → h ≠ g → thB N (A h) = false) ∧ plB N (A f) = true ∧ plB N (A g) = true
abbrev FB (k : Nat) : Prop := (17 ≤ k ∧ k ≤ 19) ∨ k = 27 ∨ k = 28
theorem FB_FS (k : Nat) (h : FB k) : ¬ FS k := by unfold FS; omega
section TOLD
variable {X : ab_X} {l : Launch}
theorem k_readBack (q a N : Nat) (w : ab_W) (n : Nat) {R : Nat → Nat → Int64} {n0 p0 kp ch cs mo ma : Int32} {g : Nat → Int64} (hM : 3 ≤ N ∧ N ≤ 60) (hA : ShIs w q N a R) (hK : KS0 w) (h27 : w 27 = oTold n0 p0 kp ch cs mo ma) (h28 : w 28 = aJ 3480 g) :
    ab_C X l i_Told_readBack [.ref 27, .ref 17, .ref q] w n 0 0 (qV fun w' n' => n = n' ∧ Fr FB w w' ∧ KSums w' N ∧ w' 27 = oTold (nI N) (nI (phi N)) kp ch cs mo ma ∧ ∃ g, w' 28 = aJ 3480 g ∧ Rw N g (TBv N R)) := by
  have hp := phi_le N hM.2
  have hp1 := phi_ge N hM.2 hM.1
  have hp2 := phi_lt N hM.2 hM.1
  obtain ⟨v7, p7, h17⟩ := hK.obj
  obtain ⟨w9, rfl⟩ := va_ex2 h17 h27
  refine ab_mqV cd_91 om_91 rfl rfl (ab_sound ok_91 [26] 80 ?_)
  refine Exists.intro _ (Exists.intro _ (And.intro (hA.1) (And.intro rfl ?_)))
  (refine Exists.intro 0 ?_; refine ⟨0, _, Nat.zero_le _, Nat.zero_le _, k_choose _ N _ _ rfl hM.2 hM.1 hK, ?_⟩; rintro _ w1 _ ⟨rfl, rfl, e1, e2⟩)
  have h27b : w1 27 = oTold n0 p0 kp ch cs mo ma := e1.get rfl (by omega)
  have h28b := e1.get h28 (by omega)
  have hA1 := hA.frS e1 (fun k hk => by unfold FS; omega)
  have f2 : Fr (fun k => k = 27) w1 (va_up w1 27 (oTold (nI N) (nI (phi N)) kp ch cs mo ma)) := Fr.refl.up rfl
  have f12 := e1.tr (H := FB) f2 (fun k hk => by omega) (fun k hk => by omega)
  have hS2 := e2.fr f2 (by omega) (by omega) (by omega)
  have h28c := f2.get h28b (by omega)
  have hA1b : ∀ c, ShIs (va_up w1 27 c) q N a R := fun c => hA1.up (by omega)
  generalize hW2 : va_up w1 27 (oTold (nI N) (nI (phi N)) kp ch cs mo ma) = W2 at *
  have h27c : W2 27 = oTold (nI N) (nI (phi N)) kp ch cs mo ma := by rw [← hW2, va_us]
  have loop : ∀ f, f ≤ N → ∀ w3, Fr FB W2 w3 → KSums w3 N → w3 27 = oTold (nI N) (nI (phi N)) kp ch cs mo ma → ∀ g, w3 28 = aJ 3480 g → (∀ j i, j < f → i < phi N → g (j * phi N + i) = TBv N R j i) → ∀ l4 : Option Value, ab_Ev X l i_Told_readBack 26 [some (.ref 27), some (.ref 17), some (.ref q), some (.int (nI f)), l4] [] w3 n 0 0 (qV fun w' n' => n = n' ∧ Fr FB (va_up (va_up w9 27 (oTold n0 p0 kp ch cs mo ma)) 17 (oSums v7 p7)) w' ∧ KSums w' N ∧ w' 27 = oTold (nI N) (nI (phi N)) kp ch cs mo ma ∧ ∃ g, w' 28 = aJ 3480 g ∧ Rw N g (TBv N R)) := by
    refine ab_up N ?_ (fun f hf ih => ?_)
    · intro w3 hfr hS3 h27 g hg hr l4
      obtain ⟨w3, rfl⟩ := va_ex h27
      refine ab_sound ok_91 [26] 80 ?_
      refine And.intro (fun _ => ?_) (fun h_9 => absurd (nI_le (Nat.le_refl _) (by omega)) h_9)
      exact ⟨rfl, rfl, f12.trans hfr, hS3, rfl, g, hg, hr⟩
    · intro w3 hfr hS3 h27 g hg hr l4
      have hA3 := hA.frS (f12.trans hfr) FB_FS
      obtain ⟨-, c, F, s1, s2, s3, s4⟩ := id hS3
      obtain ⟨w3, rfl⟩ := va_ex3 s3 s1 h27
      refine ab_sound ok_91 [26, 41] 80 ?_
      refine And.intro (fun h_9 => absurd h_9 (nI_ge hf (by omega))) (fun _ => ?_)
      (refine Exists.intro 0 ?_; refine ⟨0, _, Nat.zero_le _, Nat.zero_le _, c_Sums_clear _ _ rfl rfl, ?_⟩; refine ab_q1_elim ?_)
      rw [va_uu]
      have inn : ∀ k, k ≤ N → ab_Ev X l i_Told_readBack 41 [some (.ref 27), some (.ref 17), some (.ref q), some (.int (nI f)), some (.int (nI k))] [] (va_up (va_up (va_up w3 27 (oTold (nI N) (nI (phi N)) kp ch cs mo ma)) 17 (oSums (nI N) (nI (phi N)))) 19 (aJ 60 (tbF N R f k (zb 60 F)))) n 0 0 (qV fun w' n' => n = n' ∧ Fr FB (va_up (va_up w9 27 (oTold n0 p0 kp ch cs mo ma)) 17 (oSums v7 p7)) w' ∧ KSums w' N ∧ w' 27 = oTold (nI N) (nI (phi N)) kp ch cs mo ma ∧ ∃ g, w' 28 = aJ 3480 g ∧ Rw N g (TBv N R)) := by
        refine ab_up N ?_ (fun k hk ih2 => ?_)
        · have hkp := kp_le hM hf
          refine ab_sound ok_91 [26, 41] 80 ?_
          refine And.intro (fun _ => ?_) (fun h_9 => absurd (nI_le (Nat.le_refl _) (by omega)) h_9)
          (refine Exists.intro 0 ?_; refine ⟨0, _, Nat.zero_le _, Nat.zero_le _, c_Sums_reduce N (phi N) _ _ (by omega) (by omega) hM.2 hp rfl s2 rfl, ?_⟩; refine ab_q1_elim ?_)
          rw [va_uu]
          (refine Exists.intro 0 ?_; refine ⟨0, _, Nat.zero_le _, Nat.zero_le _, c_Sums_store_28 f (phi N) 3480 _ _ (by omega) (by omega) hkp (by omega) rfl rfl hg, ?_⟩; refine ab_q1_elim ?_)
          have f3 : Fr FB (va_up (va_up (va_up w3 27 (oTold (nI N) (nI (phi N)) kp ch cs mo ma)) 17 (oSums (nI N) (nI (phi N)))) 19 (aJ 60 F)) (va_up (va_up (va_up (va_up w3 27 (oTold (nI N) (nI (phi N)) kp ch cs mo ma)) 17 (oSums (nI N) (nI (phi N)))) 19 (aJ 60 (redD (phi N) c (N - phi N) (tbF N R f N (zb 60 F))))) 28 (aJ 3480 (stF (f * phi N) (phi N) (redD (phi N) c (N - phi N) (tbF N R f N (zb 60 F))) g))) := fun k hk => ((va_un (by omega)).trans (va_un (by omega))).trans (va_un (by omega)).symm
          refine ab_ev_of (ih _ (hfr.trans f3) ⟨hM, c, _, rfl, s2, rfl, s4⟩ rfl _ rfl (st_rows hM hf hr (fun i hi => ?_)) (some (.int (nI N)))) (by rw [nI_s f]; rfl) rfl rfl
          rw [red_allc N hM.2 hM.1 s4 i hi]
          exact e60_red hM.2 (e60_tb hM R f (e60_zb F) N) i
        · have hA4 : ∀ F, ShIs (va_up (va_up (va_up w3 27 (oTold (nI N) (nI (phi N)) kp ch cs mo ma)) 17 (oSums (nI N) (nI (phi N)))) 19 (aJ 60 F)) q N a R := fun F => hA3.re (by omega)
          refine ab_sound ok_91 [26, 41] 80 ?_
          refine And.intro (fun h_9 => absurd h_9 (nI_ge hk (by omega))) (fun _ => ?_)
          (refine Exists.intro 0 ?_; refine ⟨0, _, Nat.zero_le _, Nat.zero_le _, c_WP_wrap _ N (by omega) (by omega) _ _, ?_⟩; refine ab_q1_elim ?_)
          rw [neg_mulI f k (fk_lt hM.2 hf hk)]
          have hlt := md_lt (-((f * k : Nat) : Int)) (show 0 < N by omega)
          (refine Exists.intro 0 ?_; refine ⟨0, _, Nat.zero_le _, Nat.zero_le _, c_Sums_addTurned _ _ q a N k (emk N f k) _ _ rfl rfl hM.2 hM.1 hk hlt (hA4 _) rfl rfl, ?_⟩; refine ab_q1_elim ?_)
          rw [va_uu]
          exact ab_ev_of ih2 (by rw [nI_s k]; rfl) rfl rfl
      exact ab_ev_of (inn 0 (by omega)) rfl rfl rfl
  have fin := loop 0 (by omega) W2 Fr.refl hS2 h27c _ h28c (fun j i hj => by omega) none
  subst hW2
  obtain ⟨w1, rfl⟩ := va_ex h27b
  refine Exists.intro _ (Exists.intro _ (And.intro (hA1.1) (And.intro rfl ?_)))
  refine Exists.intro _ (Exists.intro _ (And.intro ((hA1b _).1) (And.intro rfl ?_)))
  refine ab_ev_of fin rfl rfl ?_
  rw [va_uu]
  rfl
theorem c_isWhole (x : Int32) (f N : Nat) (w : ab_W) (n : Nat) {A : Nat → Nat → Int64} {kp ch cs mo ma : Int32} {g : Nat → Int64} (hx : x = nI f) (hf : f < N) (hM : 3 ≤ N ∧ N ≤ 60) (h27 : w 27 = oTold (nI N) (nI (phi N)) kp ch cs mo ma) (h28 : w 28 = aJ 3480 g) (hg : Rw N g A) :
    ab_C X l i_Told_isWhole [.ref 27, .int x] w n 0 0 (ab_q1 (some (.int (b01 (whB (phi N) (A f))))) w n) := by
  subst hx
  have hp := phi_le N hM.2
  have hp1 := phi_ge N hM.2 hM.1
  obtain ⟨w, rfl⟩ := va_ex2 h27 h28
  refine ab_metI cd_94 om_94 rfl (ab_sound ok_94 [2] 50 ?_)
  have loop : ∀ i, i ≤ phi N → (∀ j, j < i → 1 ≤ j → A f j = 0) → 1 ≤ i → ab_Ev X l i_Told_isWhole 2 [some (.ref 27), some (.int (nI f)), some (.int (nI i))] [] (va_up (va_up w 28 (aJ 3480 g)) 27 (oTold (nI N) (nI (phi N)) kp ch cs mo ma)) n 0 0 (ab_q1 (some (.int (b01 (whB (phi N) (A f))))) (va_up (va_up w 28 (aJ 3480 g)) 27 (oTold (nI N) (nI (phi N)) kp ch cs mo ma)) n) := by
    refine ab_up (phi N) ?_ (fun i hi ih => ?_)
    · intro hj _
      refine ab_sound ok_94 [2] 50 ?_
      refine And.intro (fun _ => ?_) (fun h_9 => absurd (nI_le (Nat.le_refl _) (by omega)) h_9)
      have e : whB (phi N) (A f) = true := decide_eq_true hj
      rw [e]
      exact ⟨rfl, rfl, rfl, rfl⟩
    · intro hj h1
      have hlt := kp_lt hM.2 hf hi
      refine ab_sound ok_94 [2] 50 ?_
      refine And.intro (fun h_9 => absurd h_9 (nI_ge hi (by omega))) (fun _ => ?_)
      refine And.intro ((by rw [pk_mul, nI_add]; exact vp_in_nI hlt (by omega))) ?_
      rw [pk_mul, nI_add, nI_clamp (by omega), hg f i hf hi]
      refine And.intro (fun hc => ?_) (fun hc => ?_)
      · rw [lz_eq] at hc
        refine ab_ev_of (ih (fun j hj2 h3 => ?_) (by omega)) (by rw [nI_s i]; rfl) rfl rfl
        by_cases e : j = i
        · rw [e]; exact hc
        · exact hj j (by omega) h3
      · rw [lz_eq] at hc
        have e : whB (phi N) (A f) = false := decide_eq_false (fun z => hc (z i hi h1))
        rw [e]
        exact ⟨rfl, rfl, rfl, rfl⟩
  exact loop 1 (by omega) (fun j hj h1 => by omega) (by omega)
theorem wh_th {N : Nat} {r : Nat → Int64} : thB N r = false ↔ Lk (phi N) r Z0 := by
  unfold thB
  cases h : lkB (phi N) r Z0
  · constructor
    · intro z; cases z
    · intro z
      have := lkB_iff.mpr z
      rw [h] at this
      cases this
  · exact ⟨fun _ => lkB_iff.mp h, fun _ => rfl⟩
theorem c_isThere (x : Int32) (f N : Nat) (w : ab_W) (n : Nat) {A : Nat → Nat → Int64} {kp ch cs mo ma : Int32} {g : Nat → Int64} (hx : x = nI f) (hf : f < N) (hM : 3 ≤ N ∧ N ≤ 60) (h27 : w 27 = oTold (nI N) (nI (phi N)) kp ch cs mo ma) (h28 : w 28 = aJ 3480 g) (hg : Rw N g A) :
    ab_C X l i_Told_isThere [.ref 27, .int x] w n 0 0 (ab_q1 (some (.int (b01 (thB N (A f))))) w n) := by
  subst hx
  have hp1 := phi_ge N hM.2 hM.1
  have hlt := kp_lt hM.2 hf (show 0 < phi N by omega)
  have hg0 := hg f 0 hf (by omega)
  rw [Nat.add_zero] at hlt hg0
  obtain ⟨w, rfl⟩ := va_ex2 h27 h28
  refine ab_metI cd_93 om_93 rfl (ab_sound ok_93 [] 50 ?_)
  refine And.intro ((by rw [pk_mul]; exact vp_in_nI hlt (by omega))) ?_
  rw [pk_mul, nI_clamp (by omega), hg0]
  have yes : (∃ i, i < phi N ∧ A f i ≠ 0) → thB N (A f) = true := by
    rintro ⟨i, hi, h⟩
    cases e : thB N (A f)
    · exact absurd (wh_th.mp e i hi) h
    · rfl
  refine And.intro (fun hc => ?_) (fun hc => ?_)
  · rw [yes ⟨0, by omega, fun z => hc (lz_eq.mpr z)⟩]
    exact ⟨rfl, rfl, rfl, rfl⟩
  · rw [lz_eq] at hc
    (refine Exists.intro 0 ?_; refine ⟨0, _, Nat.zero_le _, Nat.zero_le _, c_isWhole _ f N _ _ rfl hf hM rfl rfl hg, ?_⟩; refine ab_q1_elim ?_)
    cases hb : whB (phi N) (A f)
    · refine And.intro (fun h_9 => absurd (rfl) h_9) (fun _ => ?_)
      have h9 := of_decide_eq_false hb
      rw [yes (Classical.byContradiction (fun z => h9 (fun i hi _ => Classical.byContradiction (fun q => z ⟨i, hi, q⟩))))]
      exact ⟨rfl, rfl, rfl, rfl⟩
    · refine And.intro (fun _ => ?_) (fun h_9 => absurd h_9 ((by decide)))
      have h9 := of_decide_eq_true hb
      rw [wh_th.mpr (fun i hi => by
        by_cases e : i = 0
        · rw [e]; exact hc
        · exact h9 i hi (by omega))]
      exact ⟨rfl, rfl, rfl, rfl⟩
theorem c_isPlain (x : Int32) (f N : Nat) (w : ab_W) (n : Nat) {A : Nat → Nat → Int64} {kp ch cs mo ma : Int32} {g : Nat → Int64} (hx : x = nI f) (hf : f < N) (hM : 3 ≤ N ∧ N ≤ 60) (h27 : w 27 = oTold (nI N) (nI (phi N)) kp ch cs mo ma) (h28 : w 28 = aJ 3480 g) (hg : Rw N g A) :
    ab_C X l i_Told_isPlain [.ref 27, .int x] w n 0 0 (ab_q1 (some (.int (b01 (plB N (A f))))) w n) := by
  subst hx
  have hp1 := phi_ge N hM.2 hM.1
  have hlt := kp_lt hM.2 hf (show 0 < phi N by omega)
  have hg0 := hg f 0 hf (by omega)
  rw [Nat.add_zero] at hlt hg0
  obtain ⟨w, rfl⟩ := va_ex2 h27 h28
  refine ab_metI cd_96 om_96 rfl (ab_sound ok_96 [] 80 ?_)
  unfold plB
  (refine Exists.intro 0 ?_; refine ⟨0, _, Nat.zero_le _, Nat.zero_le _, c_isWhole _ f N _ _ rfl hf hM rfl rfl hg, ?_⟩; refine ab_q1_elim ?_)
  cases hb : whB (phi N) (A f)
  · refine And.intro (fun _ => ?_) (fun h_9 => absurd (rfl) h_9)
    rw [Bool.false_and]
    exact ⟨rfl, rfl, rfl, rfl⟩
  · refine And.intro (fun h_9 => absurd h_9 ((by decide))) (fun _ => ?_)
    refine And.intro (fun h_9 => absurd h_9 ((by have := nI_ge (show 0 < N by omega) (show N < 2 ^ 31 by omega); exact this))) (fun _ => ?_)
    refine And.intro ((by rw [pk_mul]; exact vp_in_nI hlt (by omega))) ?_
    refine And.intro ((lNn0 (by omega) (by omega))) ?_
    rw [pk_mul, nI_clamp (by omega), hg0, nI_l (by omega), Bool.true_and]
    refine And.intro (fun hc => ?_) (fun hc => ?_)
    · rw [show decide (remL (A f 0) N = 0) = false from decide_eq_false (fun z => hc (lz_eq.mpr z))]
      exact ⟨rfl, rfl, rfl, rfl⟩
    · rw [show decide (remL (A f 0) N = 0) = true from decide_eq_true (lz_eq.mp hc)]
      exact ⟨rfl, rfl, rfl, rfl⟩
theorem c_spanOf (x : Int32) (f N : Nat) (w : ab_W) (n : Nat) {A : Nat → Nat → Int64} {kp ch cs mo ma : Int32} {g : Nat → Int64} (hx : x = nI f) (hf : f < N) (hM : 3 ≤ N ∧ N ≤ 60) (h27 : w 27 = oTold (nI N) (nI (phi N)) kp ch cs mo ma) (h28 : w 28 = aJ 3480 g) (hg : Rw N g A) :
    ab_C X l i_Told_spanOf [.ref 27, .int x] w n 0 0 (ab_q1 (some (.long (spV N (A f)))) w n) := by
  subst hx
  have hp1 := phi_ge N hM.2 hM.1
  have hlt := kp_lt hM.2 hf (show 0 < phi N by omega)
  have hg0 := hg f 0 hf (by omega)
  rw [Nat.add_zero] at hlt hg0
  obtain ⟨w, rfl⟩ := va_ex2 h27 h28
  refine ab_metL cd_95 om_95 rfl rfl (ab_sound ok_95 [] 80 ?_)
  unfold spV
  (refine Exists.intro 0 ?_; refine ⟨0, _, Nat.zero_le _, Nat.zero_le _, c_isPlain _ f N _ _ rfl hf hM rfl rfl hg, ?_⟩; refine ab_q1_elim ?_)
  cases hb : plB N (A f)
  · refine And.intro (fun _ => ?_) (fun h_9 => absurd (rfl) h_9)
    exact ⟨rfl, rfl, rfl⟩
  · refine And.intro (fun h_9 => absurd h_9 ((by decide))) (fun _ => ?_)
    refine And.intro ((by rw [pk_mul]; exact vp_in_nI hlt (by omega))) ?_
    refine And.intro ((lNn0 (by omega) (by omega))) ?_
    rw [pk_mul, nI_clamp (by omega), hg0, nI_l (by omega)]
    exact ⟨rfl, rfl, rfl⟩
theorem c_nextThere (x : Int32) (a N : Nat) (w : ab_W) (n : Nat) {A : Nat → Nat → Int64} {kp ch cs mo ma : Int32} {g : Nat → Int64} (hx : x = nI a) (ha : a ≤ 100) (hM : 3 ≤ N ∧ N ≤ 60) (h27 : w 27 = oTold (nI N) (nI (phi N)) kp ch cs mo ma) (h28 : w 28 = aJ 3480 g) (hg : Rw N g A) :
    ab_C X l i_Told_nextThere [.ref 27, .int x] w n 0 0 (ab_q1 (some (.int (nI (ntV (fun f => thB N (A f)) N a)))) w n) := by
  subst hx
  obtain ⟨w, rfl⟩ := va_ex2 h27 h28
  refine ab_metI cd_101 om_101 rfl (ab_sound ok_101 [2] 80 ?_)
  unfold ntV
  by_cases e : a ≤ N
  · rw [if_pos e]
    have loop : ∀ j, j ≤ N → a ≤ j → (∀ m, a ≤ m → m < j → thB N (A m) = false) → ab_Ev X l i_Told_nextThere 2 [some (.ref 27), some (.int (nI a)), some (.int (nI j))] [] (va_up (va_up w 28 (aJ 3480 g)) 27 (oTold (nI N) (nI (phi N)) kp ch cs mo ma)) n 0 0 (ab_q1 (some (.int (nI (fst (fun f => thB N (A f)) (N - a) a)))) (va_up (va_up w 28 (aJ 3480 g)) 27 (oTold (nI N) (nI (phi N)) kp ch cs mo ma)) n) := by
      refine ab_up N ?_ (fun j hj ih => ?_)
      · intro haj hm
        refine ab_sound ok_101 [2] 80 ?_
        refine And.intro (fun _ => ?_) (fun h_9 => absurd (nI_le (Nat.le_refl _) (by omega)) h_9)
        rw [fst_none (P := fun f => thB N (A f)) (r := N - a) (a := a) (fun m h1 h2 => hm m h1 (by omega)), show a + (N - a) = N by omega]
        exact ⟨rfl, rfl, rfl⟩
      · intro haj hm
        refine ab_sound ok_101 [2] 80 ?_
        refine And.intro (fun h_9 => absurd h_9 (nI_ge hj (by omega))) (fun _ => ?_)
        (refine Exists.intro 0 ?_; refine ⟨0, _, Nat.zero_le _, Nat.zero_le _, c_isThere _ j N _ _ rfl hj hM rfl rfl hg, ?_⟩; refine ab_q1_elim ?_)
        cases hb : thB N (A j)
        · refine And.intro (fun _ => ?_) (fun h_9 => absurd (rfl) h_9)
          refine ab_ev_of (ih (by omega) (fun m h1 h2 => ?_)) (by rw [nI_s j]; rfl) rfl rfl
          by_cases e : m = j
          · rw [e]; exact hb
          · exact hm m h1 (by omega)
        · refine And.intro (fun h_9 => absurd h_9 ((by decide))) (fun _ => ?_)
          rw [fst_at (P := fun f => thB N (A f)) (r := N - a) haj (by omega) hb hm]
          exact ⟨rfl, rfl, rfl⟩
    exact ab_ev_of (loop a e (Nat.le_refl _) (fun m h1 h2 => by omega)) rfl rfl rfl
  · rw [if_neg e]
    refine ab_sound ok_101 [2] 80 ?_
    refine And.intro (fun _ => ?_) (fun h_9 => absurd (nI_le (by omega) (by omega)) h_9)
    exact ⟨rfl, rfl, rfl⟩
theorem k_hasTwoPlain (N : Nat) (w : ab_W) (n : Nat) {A : Nat → Nat → Int64} {kp ch cs mo ma : Int32} {g : Nat → Int64} (hM : 3 ≤ N ∧ N ≤ 60) (h27 : w 27 = oTold (nI N) (nI (phi N)) kp ch cs mo ma) (h28 : w 28 = aJ 3480 g) (hg : Rw N g A) :
    ab_C X l i_Told_hasTwoPlain [.ref 27] w n 0 0 (fun v w' n' => w = w' ∧ n = n' ∧ ∃ b : Bool, v = some (.int (b01 b)) ∧ (b = true ↔ ∃ f g, TwoP N A f g)) := by
  obtain ⟨w, rfl⟩ := va_ex2 h27 h28
  refine ab_met cd_100 om_100 rfl (by rintro _ _ _ ⟨-, -, b, rfl, -⟩; trivial) (ab_sound ok_100 [] 80 ?_)
  generalize hP : (fun f => thB N (A f)) = P
  have hPf : ∀ f, P f = thB N (A f) := fun f => by rw [← hP]
  (refine Exists.intro 0 ?_; refine ⟨0, _, Nat.zero_le _, Nat.zero_le _, c_nextThere _ 0 N _ _ rfl (by omega) hM rfl rfl hg, ?_⟩; refine ab_q1_elim ?_)
  rw [hP]
  obtain ⟨f1, f2, f3⟩ := ntV_spec P N 0
  generalize ntV P N 0 = f at *
  (refine Exists.intro 0 ?_; refine ⟨0, _, Nat.zero_le _, Nat.zero_le _, c_nextThere _ (f + 1) N _ _ (nI_s f).symm (by omega) hM rfl rfl hg, ?_⟩; refine ab_q1_elim ?_)
  rw [hP]
  obtain ⟨g1, g2, g3⟩ := ntV_spec P N (f + 1)
  generalize ntV P N (f + 1) = c at *
  have two : ∀ a b, TwoP N A a b → a = f ∧ b = c := by
    rintro a b ⟨q1, q2, q3, q4, q5, q6, q7⟩
    rw [← hPf] at q3 q4
    have e1 : a = f := by
      rcases Nat.lt_trichotomy a f with e | e | e
      · rw [f2 a (by omega) e] at q3; cases q3
      · exact e
      · obtain ⟨-, z⟩ := f3 (by omega)
        have := q5 f (by omega) (by omega) (by omega)
        rw [← hPf, z] at this
        cases this
    subst e1
    refine ⟨rfl, ?_⟩
    rcases Nat.lt_trichotomy b c with e | e | e
    · rw [g2 b (by omega) e] at q4; cases q4
    · exact e
    · obtain ⟨z0, z⟩ := g3 (by omega)
      have := q5 c (by omega) (by omega) (by omega)
      rw [← hPf, z] at this
      cases this
  have no : (∀ a b, TwoP N A a b → False) → (false = true ↔ ∃ f g, TwoP N A f g) := fun h => ⟨fun z => (by cases z), fun ⟨a, b, q⟩ => (h a b q).elim⟩
  refine And.intro (fun h1 => ?_) (fun h1 => ?_)
  · have hc : c = N := by
      have := (nI_leI (by omega) (by omega)).mp h1
      omega
    exact ⟨rfl, rfl, rfl, false, rfl, no (fun a b q => by have := (two a b q).2; have := q.2.1; omega)⟩
  · have hcN : c < N := by
      rw [nI_leI (by omega) (by omega)] at h1
      omega
    obtain ⟨c1, c2⟩ := g3 hcN
    have hfN : f < N := by omega
    (refine Exists.intro 0 ?_; refine ⟨0, _, Nat.zero_le _, Nat.zero_le _, c_nextThere _ (c + 1) N _ _ (nI_s c).symm (by omega) hM rfl rfl hg, ?_⟩; refine ab_q1_elim ?_)
    rw [hP]
    obtain ⟨k1, k2, k3⟩ := ntV_spec P N (c + 1)
    generalize ntV P N (c + 1) = d at *
    refine And.intro (fun h2 => ?_) (fun h2 => ?_)
    · have hd := (nI_ltI (by omega) (by omega)).mp h2
      obtain ⟨d1, d2⟩ := k3 hd
      refine ⟨rfl, rfl, rfl, false, rfl, no (fun a b q => ?_)⟩
      obtain ⟨e1, e2⟩ := two a b q
      have := q.2.2.2.2.1 d hd (by omega) (by omega)
      rw [← hPf, d2] at this
      cases this
    · have hd : d = N := by
        rw [nI_ltI (by omega) (by omega)] at h2
        omega
      have hoth : ∀ h, h < N → h ≠ f → h ≠ c → thB N (A h) = false := by
        intro h hh n1 n2
        rw [← hPf]
        rcases Nat.lt_trichotomy h f with e | e | e
        · exact f2 h (by omega) e
        · exact absurd e n1
        · rcases Nat.lt_trichotomy h c with e2 | e2 | e2
          · exact g2 h (by omega) e2
          · exact absurd e2 n2
          · exact k2 h (by omega) (by omega)
      (refine Exists.intro 0 ?_; refine ⟨0, _, Nat.zero_le _, Nat.zero_le _, c_isPlain _ f N _ _ rfl hfN hM rfl rfl hg, ?_⟩; refine ab_q1_elim ?_)
      cases hb : plB N (A f)
      · refine And.intro (fun _ => ?_) (fun h_9 => absurd (rfl) h_9)
        refine ⟨rfl, rfl, rfl, false, rfl, no (fun a b q => ?_)⟩
        obtain ⟨e1, e2⟩ := two a b q
        have := q.2.2.2.2.2.1
        rw [e1, hb] at this
        cases this
      · refine And.intro (fun h_9 => absurd h_9 ((by decide))) (fun _ => ?_)
        (refine Exists.intro 0 ?_; refine ⟨0, _, Nat.zero_le _, Nat.zero_le _, c_isPlain _ c N _ _ rfl hcN hM rfl rfl hg, ?_⟩; refine ab_q1_elim ?_)
        cases hb2 : plB N (A c)
        · refine And.intro (fun _ => ?_) (fun h_9 => absurd (rfl) h_9)
          refine ⟨rfl, rfl, rfl, false, rfl, no (fun a b q => ?_)⟩
          obtain ⟨e1, e2⟩ := two a b q
          have := q.2.2.2.2.2.2
          rw [e2, hb2] at this
          cases this
        · refine And.intro (fun h_9 => absurd h_9 ((by decide))) (fun _ => ?_)
          refine ⟨rfl, rfl, rfl, true, rfl, ⟨fun _ => ⟨f, c, by omega, hcN, ?_, ?_, hoth, hb, hb2⟩, fun _ => rfl⟩⟩
          · rw [← hPf]; exact (f3 hfN).2
          · rw [← hPf]; exact c2
end TOLD
